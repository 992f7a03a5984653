/-! ===== the text: tokens ===== -/
def isL (c : Nat) : Bool := decide (97 ≤ c) && decide (c ≤ 122)
def isD (c : Nat) : Bool := decide (48 ≤ c) && decide (c ≤ 57)
def jn (a c : Nat) : Bool := (isL a && isL c) || (isD a && isD c)
/-- where the token behind place k begins; where the one that begins at b ends -/
def bg (t : Nat) (B : Nat → Nat) (k : Nat) : Nat := lowf (fun i => !decide (B i = 32)) (t - k) k
def en (t : Nat) (B : Nat → Nat) (b : Nat) : Nat := if b < t then lowf (fun i => !jn (B b) (B i)) (t - (b + 1)) (b + 1) else b
theorem lowf_ge {p : Nat → Bool} : ∀ {r k : Nat}, k ≤ lowf p r k ∧ lowf p r k ≤ k + r
  | 0, k => ⟨Nat.le_refl _, Nat.le_refl _⟩
  | r + 1, k => by
    show k ≤ (if p k = true then k else lowf p r (k + 1)) ∧ (if p k = true then k else lowf p r (k + 1)) ≤ k + (r + 1)
    split
    · omega
    · have := lowf_ge (p := p) (r := r) (k := k + 1)
      omega
theorem lowf_no {p : Nat → Bool} : ∀ {r k x : Nat}, k ≤ x → x < lowf p r k → p x = false
  | 0, k, x, h1, h2 => by
    have h3 : x < k := h2
    omega
  | r + 1, k, x, h1, h2 => by
    have h2' : x < (if p k = true then k else lowf p r (k + 1)) := h2
    split at h2'
    · omega
    · rename_i c
      by_cases e : x = k
      · rw [e]; simpa using c
      · exact lowf_no (by omega) h2'
theorem bg_ge {t : Nat} {B : Nat → Nat} {k : Nat} (hk : k ≤ t) : k ≤ bg t B k ∧ bg t B k ≤ t := by
  have := lowf_ge (p := fun i => !decide (B i = 32)) (r := t - k) (k := k)
  unfold bg
  omega
theorem en_ge {t : Nat} {B : Nat → Nat} {b : Nat} (hb : b ≤ t) : b ≤ en t B b ∧ en t B b ≤ t ∧ (b < t → b < en t B b) := by
  unfold en
  split
  · have := lowf_ge (p := fun i => !jn (B b) (B i)) (r := t - (b + 1)) (k := b + 1)
    omega
  · omega
/-- the text as the class has it, as the model has it -/
def TX (h : Hp) (t : Nat) (B : Nat → Nat) : Prop := t ≤ 200 ∧ h.1 4 1 = nI t ∧ ∀ j, j < t → h.1 5 j = nI (B j) ∧ B j < 256
def TM (h : Hp) (t : Nat) (B : Nat → Nat) : Prop := t ≤ 200 ∧ h.1 25 6 = nI t ∧ ∀ j, j < t → h.1 27 j = nI (B j) ∧ B j < 256
/-- only the token's ends move -/
def NX (h h' : Hp) : Prop := (∀ c, c ≠ 4 → h'.1 c = h.1 c) ∧ h'.1 4 1 = h.1 4 1
theorem TX_nx {h h' : Hp} {t : Nat} {B : Nat → Nat} (T : TX h t B) (F : NX h h') : TX h' t B := by
  unfold TX
  rw [F.2, F.1 5 (by decide)]
  exact T
theorem nI_nle' {a b : Nat} (h : b < a) (ha : a < 2 ^ 31) : ¬ nI a ≤ nI b := nI_ge h ha
theorem pu_isLetter (N : Nat) (h : Hp) {c : Nat} (hc : c < 256) : f_X6_isLetter N (nI c) h = some (b2i (isL c), h) := by
  unfold f_X6_isLetter f_X6_isLetter_b16 f_X6_isLetter_b17 isL
  by_cases c1 : 97 ≤ c
  · rw [if_neg (show ¬ nI c < 97 from nI_nlt (b := 97) c1 (by omega)), decide_eq_true c1]
    by_cases c2 : c ≤ 122
    · rw [if_neg (show ¬ (122 : Int32) < nI c from nI_nlt (a := 122) c2 (by omega)), decide_eq_true c2]; rfl
    · rw [if_pos (show (122 : Int32) < nI c from nI_lt (a := 122) (by omega) (by omega)), decide_eq_false c2]; rfl
  · rw [if_pos (show nI c < 97 from nI_lt (b := 97) (by omega) (by omega)), decide_eq_false c1]; rfl
theorem pu_isDigit (N : Nat) (h : Hp) {c : Nat} (hc : c < 256) : f_X6_isDigit N (nI c) h = some (b2i (isD c), h) := by
  unfold f_X6_isDigit f_X6_isDigit_b16 f_X6_isDigit_b17 isD
  by_cases c1 : 48 ≤ c
  · rw [if_neg (show ¬ nI c < 48 from nI_nlt (b := 48) c1 (by omega)), decide_eq_true c1]
    by_cases c2 : c ≤ 57
    · rw [if_neg (show ¬ (57 : Int32) < nI c from nI_nlt (a := 57) c2 (by omega)), decide_eq_true c2]; rfl
    · rw [if_pos (show (57 : Int32) < nI c from nI_lt (a := 57) (by omega) (by omega)), decide_eq_false c2]; rfl
  · rw [if_pos (show nI c < 48 from nI_lt (b := 48) (by omega) (by omega)), decide_eq_false c1]; rfl
theorem pu_joins1 (N : Nat) (h : Hp) {a c : Nat} (ha : a < 256) (hc : c < 256) : f_X6_joins N (nI a) (nI c) h = some (b2i (jn a c), h) := by
  unfold f_X6_joins f_X6_joins_b14 f_X6_joins_b28 f_X6_joins_b32 f_X6_joins_b33 jn
  rw [pu_isLetter N h ha, p_cl, pu_isLetter N h hc, p_cl, pu_isDigit N h ha, p_cl, pu_isDigit N h hc, p_cl]
  cases isL a <;> cases isL c <;> cases isD a <;> cases isD c <;> rfl
theorem pu_next_e (N : Nat) {t : Nat} {B : Nat → Nat} {b : Nat} (hb : b < t) : ∀ (x k : Nat) (h : Hp), TX h t B → h.1 4 2 = nI b → h.1 4 3 = nI k → b < k → k ≤ t → t - k < x → ∃ h', f_X6_next_l76 N x h = some (0, h') ∧ NX h h' ∧ h'.1 4 2 = nI b ∧ h'.1 4 3 = nI (lowf (fun i => !jn (B b) (B i)) (t - k) k) := by
  intro x
  induction x with
  | zero => intro k h _ _ _ _ _ h2; omega
  | succ x ih =>
    intro k h T e2 e3 hbk hk hx
    obtain ⟨ht, t1, t2⟩ := id T
    show ∃ h', f_X6_next_b76 N (f_X6_next_l76 N x) h = _ ∧ _
    unfold f_X6_next_b76 f_X6_next_b124
    rw [t1, e2, e3]
    by_cases hc : k = t
    · subst hc
      refine ⟨h, ?_, ⟨fun _ _ => rfl, rfl⟩, e2, ?_⟩
      · rw [if_pos (nI_le (Nat.le_refl _) (by omega))]
      · rw [Nat.sub_self]; exact e3
    · obtain ⟨r, hr⟩ : ∃ r, t - k = r + 1 := ⟨t - k - 1, by omega⟩
      have bb := t2 b hb
      have bk := t2 k (by omega)
      rw [if_neg (nI_ge (by omega) (by omega)), if_pos (p_ib (show b < 200 by omega) (by omega)), if_pos (p_ib (show k < 200 by omega) (by omega)), p_ix (by omega), p_ix (by omega), bb.1, bk.1, pu_joins1 N h bb.2 bk.2, p_cl, hr]
      cases hj : jn (B b) (B k) with
      | false =>
        refine ⟨h, ?_, ⟨fun _ _ => rfl, rfl⟩, e2, ?_⟩
        · rw [if_pos (by decide)]
        · rw [lowf_stop (p := fun i => !jn (B b) (B i)) (k := k) (by simp [hj])]; exact e3
      | true =>
        rw [if_neg (by decide), p_lt, e3, nI_1, lowf_go (p := fun i => !jn (B b) (B i)) (k := k) (by simp [hj])]
        have F1 : NX h (wr h 4 3 (nI (k + 1))) := ⟨fun c hc => by rw [p_wro _ _ _ _ hc], by rw [p_wrk _ _ _ _ (by decide)]⟩
        obtain ⟨h', a1, a2, a3, a4⟩ := ih (k + 1) (wr h 4 3 (nI (k + 1))) (TX_nx T F1) (by rw [p_wrk _ _ _ _ (by decide)]; exact e2) (by rw [p_wrs]) (by omega) (by omega) (by omega)
        refine ⟨h', a1, ⟨fun c hc => by rw [a2.1 c hc, F1.1 c hc], by rw [a2.2, F1.2]⟩, a3, ?_⟩
        rw [a4, show t - (k + 1) = r by omega]
theorem pu_next_b (N : Nat) (hN : 300 ≤ N) {t : Nat} {B : Nat → Nat} : ∀ (x k : Nat) (h : Hp), TX h t B → h.1 4 2 = nI k → k ≤ t → t - k < x → ∃ h', f_X6_next_l8 N x h = some (0, h') ∧ NX h h' ∧ h'.1 4 2 = nI (bg t B k) ∧ h'.1 4 3 = nI (en t B (bg t B k)) := by
  intro x
  induction x with
  | zero => intro k h _ _ _ h2; omega
  | succ x ih =>
    intro k h T e2 hk hx
    obtain ⟨ht, t1, t2⟩ := id T
    -- the end of the blanks
    have stop : (k = t ∨ (k < t ∧ ¬ B k = 32)) → ∃ h', f_X6_next_b46 N h = some (0, h') ∧ NX h h' ∧ h'.1 4 2 = nI k ∧ h'.1 4 3 = nI (en t B k) := by
      intro hs
      unfold f_X6_next_b46
      rw [p_lt, e2]
      have F1 : NX h (wr h 4 3 (nI k)) := ⟨fun c hc => by rw [p_wro _ _ _ _ hc], by rw [p_wrk _ _ _ _ (by decide)]⟩
      rw [p_wrk _ _ _ _ (show (2 : Nat) ≠ 3 by decide), p_wrk _ _ _ _ (show (1 : Nat) ≠ 3 by decide), e2, t1, p_wrs, nI_1]
      rcases hs with hs | ⟨hs, _⟩
      · refine ⟨wr h 4 3 (nI k), ?_, F1, by rw [p_wrk _ _ _ _ (by decide)]; exact e2, ?_⟩
        · rw [if_neg (nI_nlt (by omega) (by omega))]
        · rw [p_wrs]; unfold en; rw [if_neg (by omega)]
      · rw [if_pos (nI_lt hs (by omega)), p_lt, wr_wr]
        have F2 : NX h (wr h 4 3 (nI (k + 1))) := ⟨fun c hc => by rw [p_wro _ _ _ _ hc], by rw [p_wrk _ _ _ _ (by decide)]⟩
        obtain ⟨h', a1, a2, a3, a4⟩ := pu_next_e N hs N (k + 1) (wr h 4 3 (nI (k + 1))) (TX_nx T F2) (by rw [p_wrk _ _ _ _ (by decide)]; exact e2) (by rw [p_wrs]) (by omega) (by omega) (by omega)
        refine ⟨h', a1, ⟨fun c hc => by rw [a2.1 c hc, F2.1 c hc], by rw [a2.2, F2.2]⟩, a3, ?_⟩
        rw [a4]; unfold en; rw [if_pos hs]
    show ∃ h', f_X6_next_b8 N (f_X6_next_l8 N x) h = _ ∧ _
    unfold f_X6_next_b8
    rw [t1, e2]
    by_cases hc : k = t
    · have ebg : bg t B k = k := by unfold bg; rw [hc, Nat.sub_self]; rfl
      rw [if_pos (nI_le (by omega) (by omega)), ebg]
      exact stop (Or.inl hc)
    · obtain ⟨r, hr⟩ : ∃ r, t - k = r + 1 := ⟨t - k - 1, by omega⟩
      have bk := t2 k (by omega)
      rw [if_neg (nI_ge (by omega) (by omega)), if_pos (p_ib (show k < 200 by omega) (by omega)), p_ix (by omega), bk.1]
      by_cases c : B k = 32
      · have ebg : bg t B k = bg t B (k + 1) := by
          unfold bg
          rw [hr, lowf_go (p := fun i => !decide (B i = 32)) (k := k) (by simp [c]), show t - (k + 1) = r by omega]
        rw [if_pos (by rw [c]; rfl), p_lt, nI_1, ebg]
        have F1 : NX h (wr h 4 2 (nI (k + 1))) := ⟨fun c hc => by rw [p_wro _ _ _ _ hc], by rw [p_wrk _ _ _ _ (by decide)]⟩
        obtain ⟨h', a1, a2, a3, a4⟩ := ih (k + 1) (wr h 4 2 (nI (k + 1))) (TX_nx T F1) (by rw [p_wrs]) (by omega) (by omega)
        exact ⟨h', a1, ⟨fun c hc => by rw [a2.1 c hc, F1.1 c hc], by rw [a2.2, F1.2]⟩, a3, a4⟩
      · have ebg : bg t B k = k := by
          unfold bg
          rw [hr, lowf_stop (p := fun i => !decide (B i = 32)) (k := k) (by simp [c])]
        rw [if_neg (by rw [show (32 : Int32) = nI 32 from rfl, nI_eq (by omega) (by omega)]; exact c), ebg]
        exact stop (Or.inr ⟨by omega, c⟩)
theorem pu_next (N : Nat) (hN : 300 ≤ N) {t : Nat} {B : Nat → Nat} {k : Nat} (h : Hp) (T : TX h t B) (e3 : h.1 4 3 = nI k) (hk : k ≤ t) : ∃ h', f_X6_next N h = some (0, h') ∧ NX h h' ∧ h'.1 4 2 = nI (bg t B k) ∧ h'.1 4 3 = nI (en t B (bg t B k)) := by
  have ht := T.1
  unfold f_X6_next
  rw [p_lt, e3]
  have F1 : NX h (wr h 4 2 (nI k)) := ⟨fun c hc => by rw [p_wro _ _ _ _ hc], by rw [p_wrk _ _ _ _ (by decide)]⟩
  obtain ⟨h', a1, a2, a3, a4⟩ := pu_next_b N hN N k (wr h 4 2 (nI k)) (TX_nx T F1) (by rw [p_wrs]) hk (by omega)
  exact ⟨h', a1, ⟨fun c hc => by rw [a2.1 c hc, F1.1 c hc], by rw [a2.2, F1.2]⟩, a3, a4⟩
/-! words -/
def wd (i : Nat) : List Nat := ([[98, 111, 97, 114, 100], [104, 111, 108, 101], [107, 110, 105, 103, 104, 116], [107, 105, 110, 103], [114, 111, 111, 107], [98, 105, 115, 104, 111, 112], [102, 114, 101, 101], [116, 117, 114, 110, 115], [115, 97, 102, 101], [98, 97, 114, 101], [59]] : List (List Nat)).getD i []
/-- the token's bytes -/
def tbl (B : Nat → Nat) (b e : Nat) : List Nat := (List.range (e - b)).map (fun k => B (b + k))
theorem wd_len : ∀ i, i < 11 → (wd i).length = stLen.getD i 0 ∧ 0 < (wd i).length ∧ (wd i).length < 7 := by decide
theorem wd_byt : ∀ i, i < 11 → ∀ k, k < 7 → k < (wd i).length → (((((stByt.getD i []).getD k 0) &&& 255).toUInt32 % 65536).toInt32) = nI ((wd i).getD k 0) ∧ (wd i).getD k 0 < 256 := by decide +kernel
theorem nk_char : ∀ q, q < 256 → nk .char (nI q) = true := by decide +kernel
theorem pu_strlen (N : Nat) (h : Hp) {i : Nat} (hi : i < 11) : f_J0_length_8abf5 i N h = some (nI (wd i).length, h) := by
  unfold f_J0_length_8abf5 f_J0_coder_7d493 f_J0_coder_7d493_b14
  have hl := wd_len i hi
  rw [if_neg (by decide), if_pos (by decide), p_cl, ← hl.1]
  congr 2
  have : ∀ n, n < 7 → (Int32.ofNat n) >>> ((0 : Int32) &&& 31) = nI n := by decide +kernel
  exact this _ hl.2.2
theorem pu_charAt (N : Nat) (h : Hp) {i k : Nat} (hi : i < 11) (hk : k < (wd i).length) : f_J0_charAt_5068e i N (nI k) h = some (nI ((wd i).getD k 0), h) := by
  have hl := wd_len i hi
  have hb := wd_byt i hi k (by omega) hk
  unfold f_J0_charAt_5068e f_J0_isLatin1_aae02 f_J0_isLatin1_aae02_b18
  rw [if_neg (by decide), if_pos rfl, if_pos (by decide), p_cl, if_neg (by decide)]
  unfold f_J1_charAt_3b067 f_J0_checkIndex_df160 f_J3_checkIndex_8e157
  rw [if_neg (nI_pos (n := k) (by omega)), if_pos (show nI k < Int32.ofNat (stLen.getD i 0) by rw [← hl.1]; exact nI_lt hk (by omega)), p_cl, p_cl, if_pos (show ib (nI k) (stLen.getD i 0) = true by rw [← hl.1]; exact p_ib hk (by omega)), p_ix (by omega), hb.1, if_pos (nk_char _ hb.2), p_cl, if_pos (nk_char _ hb.2)]
theorem tbl_len (B : Nat → Nat) (b e : Nat) : (tbl B b e).length = e - b := by unfold tbl; simp
theorem tbl_at {B : Nat → Nat} {b e k : Nat} (hk : k < e - b) : (tbl B b e).getD k 0 = B (b + k) := by
  unfold tbl
  rw [List.getD_eq_getElem?_getD, List.getElem?_map, List.getElem?_range hk]
  rfl
theorem list_eq {l m : List Nat} (h1 : l.length = m.length) (h2 : ∀ k, k < l.length → l.getD k 0 = m.getD k 0) : l = m := by
  apply List.ext_getElem h1
  intro k a b
  have := h2 k a
  rw [List.getD_eq_getElem?_getD, List.getD_eq_getElem?_getD, List.getElem?_eq_getElem a, List.getElem?_eq_getElem b] at this
  exact this
theorem pu_spells_l (N : Nat) (h : Hp) {t : Nat} {B : Nat → Nat} (T : TX h t B) {b e : Nat} (e2 : h.1 4 2 = nI b) (he : e ≤ t) {i : Nat} (hi : i < 11) (hlen : e - b = (wd i).length) : ∀ (x k : Nat), k ≤ (wd i).length → (wd i).length - k < x → (∀ j, j < k → B (b + j) = (wd i).getD j 0) → f_X6_spells_l20 i N x (nI k) h = some (b2i (decide (tbl B b e = wd i)), h) := by
  obtain ⟨ht, t1, t2⟩ := T
  have hl := wd_len i hi
  intro x
  induction x with
  | zero => intro k _ h2; omega
  | succ x ih =>
    intro k hk hx hpre
    show f_X6_spells_b20 i N (f_X6_spells_l20 i N x) (nI k) h = _
    unfold f_X6_spells_b20
    rw [pu_strlen N h hi, p_cl]
    by_cases hc : k = (wd i).length
    · have heq : tbl B b e = wd i := list_eq (by rw [tbl_len, hlen]) (fun j hj => by rw [tbl_len] at hj; rw [tbl_at hj]; exact hpre j (by omega))
      rw [if_pos (by rw [hc]; exact nI_le (Nat.le_refl _) (by omega)), decide_eq_true heq]
      rfl
    · have bk := t2 (b + k) (by omega)
      have hb := wd_byt i hi k (by omega) (by omega)
      rw [if_neg (nI_ge (by omega) (by omega)), e2, nI_add, if_pos (p_ib (show b + k < 200 by omega) (by omega)), pu_charAt N h hi (by omega), p_cl, p_ix (by omega), bk.1]
      by_cases c : B (b + k) = (wd i).getD k 0
      · rw [if_pos (by rw [c]), p_lt, nI_1]
        refine ih (k + 1) (by omega) (by omega) (fun j hj => ?_)
        by_cases ej : j = k
        · rw [ej]; exact c
        · exact hpre j (by omega)
      · rw [if_neg (by rw [nI_eq (by omega) (by omega)]; exact c), if_pos (by decide), decide_eq_false (fun z => c (by rw [← z, tbl_at (by omega)]))]
        rfl
theorem pu_spells (N : Nat) (hN : 300 ≤ N) (h : Hp) {t : Nat} {B : Nat → Nat} (T : TX h t B) {b e : Nat} (e2 : h.1 4 2 = nI b) (e3 : h.1 4 3 = nI e) (hbe : b ≤ e) (he : e ≤ t) {i : Nat} (hi : i < 11) : f_X6_spells i N h = some (b2i (decide (tbl B b e = wd i)), h) := by
  have ht := T.1
  have hl := wd_len i hi
  unfold f_X6_spells
  rw [pu_strlen N h hi, p_cl, e2, e3, pk_sub hbe]
  by_cases c : e - b = (wd i).length
  · rw [if_pos (by rw [c]), p_lt]
    exact pu_spells_l N h T e2 he hi c N 0 (by omega) (by omega) (fun j hj => by omega)
  · rw [if_neg (by rw [nI_eq (by omega) (by omega)]; exact c), if_pos (by decide), decide_eq_false (fun z => c (by rw [← tbl_len B b e, z]))]
    rfl
/-! numbers -/
def nm (B : Nat → Nat) (b e : Nat) : Option Nat := if e ≤ b then none else if isD (B b) = false then none else if e - b = 1 then some (B b - 48) else if e - b = 2 then some (10 * (B b - 48) + (B (b + 1) - 48)) else none
theorem isD_b {c : Nat} (h : isD c = true) : 48 ≤ c ∧ c ≤ 57 := by
  unfold isD at h
  rw [Bool.and_eq_true] at h
  exact ⟨of_decide_eq_true h.1, of_decide_eq_true h.2⟩
theorem isL_b {c : Nat} (h : isL c = true) : 97 ≤ c ∧ c ≤ 122 := by
  unfold isL at h
  rw [Bool.and_eq_true] at h
  exact ⟨of_decide_eq_true h.1, of_decide_eq_true h.2⟩
theorem isD_L {c : Nat} (h : isD c = true) : isL c = false := by
  have := isD_b h
  unfold isL
  rw [decide_eq_false (by omega)]
  rfl
/-- what lies inside a token is of the kind of its first byte -/
theorem tok_in {t : Nat} {B : Nat → Nat} {b k : Nat} (hb : b < t) (h1 : b < k) (h2 : k < en t B b) : jn (B b) (B k) = true := by
  unfold en at h2
  rw [if_pos hb] at h2
  have := lowf_no (p := fun i => !jn (B b) (B i)) (r := t - (b + 1)) (k := b + 1) (x := k) (by omega) h2
  simpa using this
theorem tok_D {t : Nat} {B : Nat → Nat} {b k : Nat} (hb : b < t) (hd : isD (B b) = true) (h1 : b ≤ k) (h2 : k < en t B b) : isD (B k) = true := by
  by_cases e : k = b
  · rw [e]; exact hd
  · have := tok_in hb (by omega) h2
    unfold jn at this
    rw [isD_L hd, hd] at this
    simpa using this
theorem tok_L {t : Nat} {B : Nat → Nat} {b k : Nat} (hb : b < t) (hd : isL (B b) = true) (h1 : b ≤ k) (h2 : k < en t B b) : isL (B k) = true := by
  by_cases e : k = b
  · rw [e]; exact hd
  · have := tok_in hb (by omega) h2
    unfold jn at this
    have hnd : isD (B b) = false := by
      cases hx : isD (B b) with
      | false => rfl
      | true => rw [isD_L hx] at hd; cases hd
    rw [hd, hnd] at this
    simpa using this
def nmI (o : Option Nat) : Int32 := match o with
  | some v => nI v
  | none => -1
theorem pu_number (N : Nat) (hN : 300 ≤ N) (h : Hp) {t : Nat} {B : Nat → Nat} (T : TX h t B) {b : Nat} (e2 : h.1 4 2 = nI b) (e3 : h.1 4 3 = nI (en t B b)) (hb : b ≤ t) : f_X6_number N h = some (nmI (nm B b (en t B b)), h) := by
  obtain ⟨ht, t1, t2⟩ := T
  have ge := en_ge (B := B) hb
  generalize ee : en t B b = e at *
  unfold f_X6_number f_X6_number_b35 f_X6_isOver f_X6_isOver_b16 nm
  rw [t1, e2]
  by_cases c0 : b < t
  rotate_left
  · have eb : e = b := by rw [← ee]; unfold en; rw [if_neg c0]
    rw [if_neg (nI_nlt (by omega) (by omega)), if_pos (by decide), p_cl, if_neg n10, if_pos (by omega)]
    rfl
  · have hlt := ge.2.2 c0
    have bb := t2 b c0
    rw [if_pos (nI_lt c0 (by omega)), if_pos (by decide), p_cl, if_pos rfl, e2, if_pos (p_ib (show b < 200 by omega) (by omega)), p_ix (by omega), bb.1, pu_isDigit N h bb.2, p_cl, if_neg (show ¬ e ≤ b by omega), e3, e2, pk_sub (by omega)]
    cases hd : isD (B b) with
    | false => rw [if_pos (show b2i false = 0 by decide), if_pos rfl]; rfl
    | true =>
      have hdb := isD_b hd
      rw [if_neg (show ¬ b2i true = 0 by decide), if_neg (show ¬ true = false by decide)]
      obtain ⟨M, rfl⟩ : ∃ M, N = M + 3 := ⟨N - 3, by omega⟩
      have stepA : ∀ (x k : Nat) (v : Nat), k < e → 48 ≤ B k → v < 10 → k < t → f_X6_number_l44 (M + 3) (x + 1) (nI v) (nI k) h = f_X6_number_l44 (M + 3) x (nI (v * 10 + (B k - 48))) (nI (k + 1)) h := by
        intro x k v hk hB hv hkt
        have bk := t2 k hkt
        show f_X6_number_b44 (M + 3) (f_X6_number_l44 (M + 3) x) (nI v) (nI k) h = _
        unfold f_X6_number_b44
        rw [e3, if_neg (nI_ge (by omega) (by omega)), if_pos (p_ib (show k < 200 by omega) (by omega)), p_lt, p_lt, p_ix (by omega), bk.1, nI_1, show (10 : Int32) = nI 10 from rfl, pk_mul, nI_add, show (48 : Int32) = nI 48 from rfl, pk_sub (by omega)]
        congr 2
        omega
      have stop : ∀ (x v : Nat), f_X6_number_l44 (M + 3) (x + 1) (nI v) (nI e) h = some (nI v, h) := by
        intro x v
        show f_X6_number_b44 (M + 3) (f_X6_number_l44 (M + 3) x) (nI v) (nI e) h = _
        unfold f_X6_number_b44
        rw [e3, if_pos (nI_le (Nat.le_refl _) (by omega))]
      by_cases c1 : e - b = 1
      · rw [if_pos (show nI (e - b) ≤ 2 by rw [c1]; decide), p_lt, p_lt, if_pos c1]
        show f_X6_number_l44 (M + 3) (M + 3) (nI 0) (nI b) h = _
        rw [stepA (M + 2) b 0 (by omega) hdb.1 (by omega) c0, show b + 1 = e by omega, stop]
        show some (nI _, h) = some (nI (B b - 48), h)
        congr 3
        omega
      · rw [if_neg c1]
        by_cases c2 : e - b = 2
        · have hd1 := isD_b (tok_D c0 hd (k := b + 1) (by omega) (by rw [ee]; omega))
          rw [if_pos (show nI (e - b) ≤ 2 by rw [c2]; decide), p_lt, p_lt, if_pos c2]
          show f_X6_number_l44 (M + 3) (M + 3) (nI 0) (nI b) h = _
          rw [stepA (M + 2) b 0 (by omega) hdb.1 (by omega) c0, stepA (M + 1) (b + 1) _ (by omega) hd1.1 (by omega) (by omega), show b + 1 + 1 = e by omega, stop]
          show some (nI _, h) = some (nI (10 * (B b - 48) + (B (b + 1) - 48)), h)
          congr 3
          omega
        · rw [if_neg (show ¬ nI (e - b) ≤ 2 from nI_ge (a := 2) (by omega) (by omega)), if_neg c2]
          rfl
