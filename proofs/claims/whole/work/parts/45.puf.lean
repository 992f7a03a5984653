set_option linter.unusedSectionVars false
/-! ===== turned ===== -/
def allr (p : Nat → Bool) : Nat → Nat → Bool
  | 0, _ => true
  | r + 1, k => p k && allr p r (k + 1)
theorem allr_iff (p : Nat → Bool) : ∀ (r k : Nat), allr p r k = true ↔ ∀ x, k ≤ x → x < k + r → p x = true
  | 0, k => ⟨fun _ x h1 h2 => by omega, fun _ => rfl⟩
  | r + 1, k => by
    show (p k && allr p r (k + 1)) = true ↔ _
    rw [Bool.and_eq_true, allr_iff p r (k + 1)]
    constructor
    · rintro ⟨h1, h2⟩ x h3 h4
      by_cases e : x = k
      · rw [e]; exact h1
      · exact h2 x (by omega) (by omega)
    · intro h
      exact ⟨h k (by omega) (by omega), fun x h1 h2 => h x (by omega) (by omega)⟩
/-- the place on the walk -/
def ixr (J : Nat → Int32) (p n b : Nat) : Nat := lowf (fun i => decide (rw' J p i = b)) n 0
theorem ixr_spec {J : Nat → Int32} {p n b : Nat} (h : ∃ i, i < n ∧ rw' J p i = b) : rw' J p (ixr J p n b) = b ∧ ixr J p n b < n ∧ ∀ i, i < ixr J p n b → rw' J p i ≠ b := by
  obtain ⟨i, h1, h2⟩ := h
  obtain ⟨q1, q2, q3, q4⟩ := lowf_in (p := fun i => decide (rw' J p i = b)) (r := n) (k := 0) ⟨i, by omega, by omega, by simp [h2]⟩
  refine ⟨of_decide_eq_true q1, by unfold ixr; omega, fun j hj z => ?_⟩
  have := q4 j (by omega) hj
  simp [z] at this
def dst (n x0 x : Nat) : Nat := if x0 ≤ x then x - x0 else x + n - x0
section TC
theorem pu_stepsTo_l (N : Nat) (hN : 200 ≤ N) {J : Nat → Int32} {p : Nat} (R : RG J p) {ho : Int32} (h : Hp) (hK : KN h J ho) {n : Nat} (n1 : n ≤ 12) {b i : Nat} (hb : b < 16) (hi : i < n) (h1 : rw' J p i = b) (h2 : ∀ j, j < i → rw' J p j ≠ b) : ∀ (e s : Nat), s ≤ i → i - s < e → f_X2_stepsTo_l2 N e (nI p) (nI b) (nI s) h = some (nI i, h) := by
  intro e
  induction e with
  | zero => intro s _ h2; omega
  | succ e ih =>
    intro s hs he
    show f_X2_stepsTo_b2 N (f_X2_stepsTo_l2 N e) (nI p) (nI b) (nI s) h = _
    unfold f_X2_stepsTo_b2
    have hw := (rw_spec R s).2.1
    rw [if_neg (show ¬ (12 : Int32) ≤ nI s from nI_ge (a := s) (b := 12) (by omega) (by omega)), pu_around N hN R h hK (by omega), p_cl]
    by_cases hc : s = i
    · subst hc
      rw [if_pos (by rw [h1])]
    · rw [if_neg (by rw [nI_eq (by omega) (by omega)]; exact h2 s (by omega)), p_lt, nI_1]
      exact ih (s + 1) (by omega) (by omega)
theorem pu_stepsTo (N : Nat) (hN : 200 ≤ N) {J : Nat → Int32} {p : Nat} (R : RG J p) {ho : Int32} (h : Hp) (hK : KN h J ho) {n : Nat} (n1 : n ≤ 12) {b : Nat} (hb : b < 16) (hex : ∃ i, i < n ∧ rw' J p i = b) : f_X2_stepsTo N (nI p) (nI b) h = some (nI (ixr J p n b), h) := by
  obtain ⟨q1, q2, q3⟩ := ixr_spec hex
  unfold f_X2_stepsTo
  rw [p_lt]
  exact pu_stepsTo_l N hN R h hK n1 hb q2 q1 q3 N 0 (by omega) (by omega)
theorem pu_stepsAround (N : Nat) (hN : 200 ≤ N) {J : Nat → Int32} {p : Nat} (R : RG J p) {ho : Int32} (h : Hp) (hK : KN h J ho) {n : Nat} (n1 : n ≤ 12) {sq : Int32} {m i : Nat} {A : Nat → Nat} (hA : PC sq m A) (hi : i < m) (hex : ∀ i, i < m → ∃ j, j < n ∧ rw' J p j = A i) : f_X7_stepsAround N (nI p) (nI i) sq (nI n) h = some (nI (dst n (ixr J p n (A 0)) (ixr J p n (A i))), h) := by
  have a0 := hA.2 0 (by omega)
  have ai := hA.2 i hi
  have x0 := (ixr_spec (hex 0 (by omega))).2.1
  have xi := (ixr_spec (hex i hi)).2.1
  unfold f_X7_stepsAround f_X7_stepsAround_b44
  rw [p_placeOf, p_cl, ai.1, pu_stepsTo N hN R h hK n1 (by omega) (hex i hi), p_cl, show (0 : Int32) = nI 0 from rfl, p_placeOf, p_cl, a0.1, pu_stepsTo N hN R h hK n1 (by omega) (hex 0 (by omega)), p_cl, p_lt]
  generalize ixr J p n (A 0) = x at *
  generalize ixr J p n (A i) = y at *
  unfold dst
  by_cases c : x ≤ y
  · rw [if_pos c, pk_sub c, if_pos (nI_le (Nat.zero_le _) (by omega))]
  · have hneg : nI y - nI x < 0 := pk_sneg (by omega) (by omega)
    rw [if_neg c, if_neg (show ¬ nI 0 ≤ nI y - nI x from Int32.not_le.mpr hneg), Int32.sub_eq_add_neg, Int32.add_assoc, Int32.add_comm (-nI x), ← Int32.add_assoc, ← Int32.sub_eq_add_neg, nI_add, pk_sub (by omega)]
def okp (po of : Nat → Nat) (m o : Nat) : Bool := decide (po m < po o) == decide (of m < of o)
theorem pu_order_in (N : Nat) (hN : 200 ≤ N) {J : Nat → Int32} {p : Nat} (R : RG J p) {ho : Int32} (h : Hp) (hK : KN h J ho) {n : Nat} (n1 : n ≤ 12) (k11 : Int32 → Int32 → Int32 → Hp → Option Rs) {m : Nat} {P L : Nat → Nat} (hP : PC (h.1 0 13) m P) (hL : PC (h.1 1 6) m L) (hm4 : m ≤ 4) (eP : ∀ i, i < m → ∃ j, j < n ∧ rw' J p j = P i) (eL : ∀ i, i < m → ∃ j, j < n ∧ rw' J p j = L i) {a : Nat} (ha : a < m) : ∀ (e o : Nat), 1 ≤ o → o ≤ a → a - o < e → f_X7_orderIsKept_l25 N k11 e (nI n) (nI p) (nI a) (nI o) h = if allr (okp (fun i => dst n (ixr J p n (P 0)) (ixr J p n (P i))) (fun i => dst n (ixr J p n (L 0)) (ixr J p n (L i))) a) (a - o) o = true then k11 (nI n) (nI p) (nI (a + 1)) h else some (0, h) := by
  have dl : ∀ A : Nat → Nat, (∀ i, i < m → ∃ j, j < n ∧ rw' J p j = A i) → ∀ i, i < m → dst n (ixr J p n (A 0)) (ixr J p n (A i)) < n + n := by
    intro A hA i hi
    have x0 := (ixr_spec (hA 0 (by omega))).2.1
    have xi := (ixr_spec (hA i hi)).2.1
    unfold dst
    split <;> omega
  intro e
  induction e with
  | zero => intro o _ _ h2; omega
  | succ e ih =>
    intro o h1 ho he
    show f_X7_orderIsKept_b25 N k11 (f_X7_orderIsKept_l25 N k11 e) (nI n) (nI p) (nI a) (nI o) h = _
    unfold f_X7_orderIsKept_b25
    by_cases hc : o = a
    · subst hc
      rw [if_pos (nI_le (Nat.le_refl _) (by omega)), p_lt, nI_1, show o - o = 0 by omega]
      rfl
    · rw [if_neg (nI_ge (by omega) (by omega)), pu_stepsAround N hN R h hK n1 hP ha eP, p_cl, pu_stepsAround N hN R h hK n1 hP (show o < m by omega) eP, p_cl]
      unfold f_X7_orderIsKept_b62
      have dp := dl P eP
      have dL := dl L eL
      have step := ih (o + 1) (by omega) (by omega) (by omega)
      obtain ⟨r, hr⟩ : ∃ r, a - o = r + 1 := ⟨a - o - 1, by omega⟩
      rw [show a - (o + 1) = r by omega] at step
      rw [hr]
      show _ = if (okp (fun i => dst n (ixr J p n (P 0)) (ixr J p n (P i))) (fun i => dst n (ixr J p n (L 0)) (ixr J p n (L i))) a o && allr (okp (fun i => dst n (ixr J p n (P 0)) (ixr J p n (P i))) (fun i => dst n (ixr J p n (L 0)) (ixr J p n (L i))) a) r (o + 1)) = true then _ else _
      have pa := dp a ha
      have po := dp o (by omega)
      have la := dL a ha
      have lo := dL o (by omega)
      have tail : ∀ x1 : Int32, x1 = (if dst n (ixr J p n (P 0)) (ixr J p n (P a)) < dst n (ixr J p n (P 0)) (ixr J p n (P o)) then 1 else 0) → (lt x1 fun x1 => cl (f_X7_stepsAround N (nI p) (nI a) (h.1 1 6) (nI n) h) fun r2 h3 => cl (f_X7_stepsAround N (nI p) (nI o) (h3.1 1 6) (nI n) h3) fun r4 h5 => if r4 ≤ r2 then f_X7_orderIsKept_b101 N k11 (f_X7_orderIsKept_l25 N k11 e) (nI n) (nI p) (nI a) (nI o) x1 0 h5 else f_X7_orderIsKept_b101 N k11 (f_X7_orderIsKept_l25 N k11 e) (nI n) (nI p) (nI a) (nI o) x1 1 h5) = if (okp (fun i => dst n (ixr J p n (P 0)) (ixr J p n (P i))) (fun i => dst n (ixr J p n (L 0)) (ixr J p n (L i))) a o && allr (okp (fun i => dst n (ixr J p n (P 0)) (ixr J p n (P i))) (fun i => dst n (ixr J p n (L 0)) (ixr J p n (L i))) a) r (o + 1)) = true then k11 (nI n) (nI p) (nI (a + 1)) h else some (0, h) := by
        intro x1 hx
        rw [p_lt, pu_stepsAround N hN R h hK n1 hL ha eL, p_cl, pu_stepsAround N hN R h hK n1 hL (show o < m by omega) eL, p_cl]
        unfold f_X7_orderIsKept_b101
        generalize allr (okp (fun i => dst n (ixr J p n (P 0)) (ixr J p n (P i))) (fun i => dst n (ixr J p n (L 0)) (ixr J p n (L i))) a) r (o + 1) = Z at step ⊢
        have eo : okp (fun i => dst n (ixr J p n (P 0)) (ixr J p n (P i))) (fun i => dst n (ixr J p n (L 0)) (ixr J p n (L i))) a o = (decide (dst n (ixr J p n (P 0)) (ixr J p n (P a)) < dst n (ixr J p n (P 0)) (ixr J p n (P o))) == decide (dst n (ixr J p n (L 0)) (ixr J p n (L a)) < dst n (ixr J p n (L 0)) (ixr J p n (L o)))) := rfl
        rw [eo]
        generalize dst n (ixr J p n (P 0)) (ixr J p n (P a)) = A at pa hx ⊢
        generalize dst n (ixr J p n (P 0)) (ixr J p n (P o)) = B at po hx ⊢
        generalize dst n (ixr J p n (L 0)) (ixr J p n (L a)) = C at la ⊢
        generalize dst n (ixr J p n (L 0)) (ixr J p n (L o)) = D at lo ⊢
        simp only [p_lt]
        rw [hx]
        by_cases c1 : A < B <;> by_cases c2 : C < D
        · rw [if_neg (nI_ge c2 (by omega)), if_pos c1, if_pos rfl, nI_1, step, decide_eq_true c1, decide_eq_true c2]
          rfl
        · rw [if_pos (nI_le (by omega) (by omega)), if_pos c1, if_neg n10, decide_eq_true c1, decide_eq_false c2]
          rfl
        · rw [if_neg (nI_ge c2 (by omega)), if_neg c1, if_neg n01, decide_eq_false c1, decide_eq_true c2]
          rfl
        · rw [if_pos (nI_le (by omega) (by omega)), if_neg c1, if_pos rfl, nI_1, step, decide_eq_false c1, decide_eq_false c2]
          rfl
      by_cases c1 : dst n (ixr J p n (P 0)) (ixr J p n (P a)) < dst n (ixr J p n (P 0)) (ixr J p n (P o))
      · rw [if_neg (nI_ge c1 (by omega))]
        exact tail 1 (by rw [if_pos c1])
      · rw [if_pos (nI_le (by omega) (by omega))]
        exact tail 0 (by rw [if_neg c1])
theorem pu_order_l (N : Nat) (hN : 200 ≤ N) {J : Nat → Int32} {p : Nat} (R : RG J p) {ho : Int32} (h : Hp) (hK : KN h J ho) {n : Nat} (n1 : n ≤ 12) {m : Nat} {P L : Nat → Nat} (hm : h.1 1 4 = nI m) (hP : PC (h.1 0 13) m P) (hL : PC (h.1 1 6) m L) (hm4 : m ≤ 4) (eP : ∀ i, i < m → ∃ j, j < n ∧ rw' J p j = P i) (eL : ∀ i, i < m → ∃ j, j < n ∧ rw' J p j = L i) : ∀ (e a : Nat), 1 ≤ a → a ≤ m → m - a < e → f_X7_orderIsKept_l11 N e (nI n) (nI p) (nI a) h = some (if allr (fun a => allr (okp (fun i => dst n (ixr J p n (P 0)) (ixr J p n (P i))) (fun i => dst n (ixr J p n (L 0)) (ixr J p n (L i))) a) (a - 1) 1) (m - a) a = true then 1 else 0, h) := by
  intro e
  induction e with
  | zero => intro o _ _ h2; omega
  | succ e ih =>
    intro a h1 ha he
    show f_X7_orderIsKept_b11 N (f_X7_orderIsKept_l11 N e) (nI n) (nI p) (nI a) h = _
    unfold f_X7_orderIsKept_b11
    rw [hm]
    by_cases hc : a = m
    · subst hc
      rw [if_pos (nI_le (Nat.le_refl _) (by omega)), if_pos (by decide), show a - a = 0 by omega]
      rfl
    · rw [if_neg (nI_ge (by omega) (by omega)), p_lt]
      have e1 := pu_order_in N hN R h hK n1 (f_X7_orderIsKept_l11 N e) hP hL hm4 eP eL (show a < m by omega) N 1 (by omega) (by omega) (by omega)
      refine Eq.trans e1 ?_
      obtain ⟨r, hr⟩ : ∃ r, m - a = r + 1 := ⟨m - a - 1, by omega⟩
      have step := ih (a + 1) (by omega) (by omega) (by omega)
      rw [show m - (a + 1) = r by omega] at step
      rw [hr]
      generalize hF : (fun a => allr (okp (fun i => dst n (ixr J p n (P 0)) (ixr J p n (P i))) (fun i => dst n (ixr J p n (L 0)) (ixr J p n (L i))) a) (a - 1) 1) = F at *
      have eF : allr (okp (fun i => dst n (ixr J p n (P 0)) (ixr J p n (P i))) (fun i => dst n (ixr J p n (L 0)) (ixr J p n (L i))) a) (a - 1) 1 = F a := by rw [← hF]
      rw [eF]
      show _ = some (if (F a && allr F r (a + 1)) = true then 1 else 0, h)
      cases hFa : F a with
      | true => rw [if_pos rfl, step]; rfl
      | false => rw [if_neg (by decide)]; rfl
end TC
/-! the model's loops -/
def stp (po of : Nat → Nat) (k : Nat) (s : Int32 × Int32) (i : Nat) : Int32 × Int32 := if po i = k then (nI (of i), if s.2 = 0 then 0 else if nI (of i) ≤ s.1 then 0 else 1) else s
def tu (po of : Nat → Nat) (k : Nat) : Nat → Nat → Int32 × Int32 → Int32 × Int32
  | 0, _, s => s
  | r + 1, i, s => tu po of k r (i + 1) (stp po of k s i)
def tk (po of : Nat → Nat) (m : Nat) : Nat → Nat → Int32 × Int32 → Int32 × Int32
  | 0, _, s => s
  | r + 1, k, s => tk po of m r (k + 1) (tu po of k m 0 s)
def IQ (po of : Nat → Nat) (M : Nat → Prop) (s : Int32 × Int32) : Prop :=
  (s.2 = 1 ∧ (∀ a b, M a → M b → po a < po b → of a < of b) ∧ ((s.1 = -1 ∧ ∀ a, ¬ M a) ∨ ∃ a, M a ∧ s.1 = nI (of a) ∧ ∀ b, M b → po b ≤ po a)) ∨ (s.2 = 0 ∧ ∃ a b, M a ∧ M b ∧ po a < po b ∧ ¬ of a < of b)
theorem IQ_congr {po of : Nat → Nat} {M M' : Nat → Prop} {s : Int32 × Int32} (hM : ∀ a, M a ↔ M' a) (h : IQ po of M s) : IQ po of M' s := by
  have : M = M' := funext fun a => propext (hM a)
  rw [← this]; exact h
section TM
theorem IQ_step {po of : Nat → Nat} {m : Nat} (hof : ∀ i, i < m → of i < 100) (hinj : ∀ a b, a < m → b < m → po a = po b → a = b) {k i : Nat} (hi : i < m) {s : Int32 × Int32} (h : IQ po of (fun a => a < m ∧ (po a < k ∨ (po a = k ∧ a < i))) s) : IQ po of (fun a => a < m ∧ (po a < k ∨ (po a = k ∧ a < i + 1))) (stp po of k s i) := by
  unfold stp
  by_cases c : po i = k
  · rw [if_pos c]
    have hM : ∀ a, (a < m ∧ (po a < k ∨ (po a = k ∧ a < i + 1))) ↔ (a < m ∧ po a < k) ∨ a = i := by
      intro a
      constructor
      · rintro ⟨h1, h2⟩
        by_cases e : a = i
        · exact Or.inr e
        · rcases h2 with h2 | ⟨h2, h3⟩
          · exact Or.inl ⟨h1, h2⟩
          · exact absurd (hinj a i h1 hi (by omega)) e
      · rintro (⟨h1, h2⟩ | rfl)
        · exact ⟨h1, Or.inl h2⟩
        · exact ⟨hi, Or.inr ⟨c, by omega⟩⟩
    have hO : ∀ a, (a < m ∧ (po a < k ∨ (po a = k ∧ a < i))) ↔ (a < m ∧ po a < k) := by
      intro a
      constructor
      · rintro ⟨h1, h2⟩
        rcases h2 with h2 | ⟨h2, h3⟩
        · exact ⟨h1, h2⟩
        · have := hinj a i h1 hi (by omega)
          omega
      · rintro ⟨h1, h2⟩; exact ⟨h1, Or.inl h2⟩
    have h := IQ_congr hO h
    refine IQ_congr (fun a => (hM a).symm) ?_
    rcases h with ⟨h1, h2, h3⟩ | ⟨h1, a, b, h2, h3, h4, h5⟩
    · rw [h1, if_neg n10]
      rcases h3 with ⟨h3, h4⟩ | ⟨a, h3, h4, h5⟩
      · rw [h3]
        have : ¬ nI (of i) ≤ -1 := by
          have := hof i hi
          rw [Int32.not_le]
          exact Int32.lt_of_lt_of_le p_m1 (nI_le (a := 0) (Nat.zero_le _) (by omega))
        rw [if_neg this]
        refine Or.inl ⟨rfl, ?_, Or.inr ⟨i, Or.inr rfl, rfl, ?_⟩⟩
        · rintro a b (qa | rfl) (qb | rfl) hab
          · exact absurd qa (h4 a)
          · exact absurd qa (h4 a)
          · exact absurd qb (h4 b)
          · omega
        · rintro b (qb | rfl)
          · exact absurd qb (h4 b)
          · exact Nat.le_refl _
      · rw [h4]
        have oa := hof a h3.1
        have oi := hof i hi
        by_cases ci : of a < of i
        · rw [if_neg (nI_ge ci (by omega))]
          refine Or.inl ⟨rfl, ?_, Or.inr ⟨i, Or.inr rfl, rfl, ?_⟩⟩
          · rintro x y (qa | rfl) (qb | rfl) hab
            · exact h2 x y qa qb hab
            · by_cases e : po x = po a
              · have := hinj x a qa.1 h3.1 e
                rw [this]; exact ci
              · have := h5 x qa
                have := h2 x a qa h3 (by omega)
                omega
            · have := qb.2; omega
            · omega
          · rintro b (qb | rfl)
            · have := qb.2; omega
            · exact Nat.le_refl _
        · rw [if_pos (nI_le (by omega) (by omega))]
          exact Or.inr ⟨rfl, a, i, Or.inl h3, Or.inr rfl, by have := h3.2; omega, ci⟩
    · rw [h1, if_pos rfl]
      exact Or.inr ⟨rfl, a, b, Or.inl h2, Or.inl h3, h4, h5⟩
  · rw [if_neg c]
    refine IQ_congr (fun a => ?_) h
    constructor
    · rintro ⟨h1, h2⟩; exact ⟨h1, by omega⟩
    · rintro ⟨h1, h2⟩
      refine ⟨h1, ?_⟩
      by_cases e : a = i
      · rw [e] at h2 ⊢; omega
      · omega
theorem IQ_tu {po of : Nat → Nat} {m : Nat} (hof : ∀ i, i < m → of i < 100) (hinj : ∀ a b, a < m → b < m → po a = po b → a = b) {k : Nat} : ∀ {r i : Nat} {s : Int32 × Int32}, i + r = m → IQ po of (fun a => a < m ∧ (po a < k ∨ (po a = k ∧ a < i))) s → IQ po of (fun a => a < m ∧ po a < k + 1) (tu po of k r i s)
  | 0, i, s, hir, h => by
    refine IQ_congr (fun a => ?_) h
    constructor
    · rintro ⟨h1, h2⟩; exact ⟨h1, by omega⟩
    · rintro ⟨h1, h2⟩; exact ⟨h1, by omega⟩
  | r + 1, i, s, hir, h => IQ_tu hof hinj (r := r) (i := i + 1) (s := stp po of k s i) (by omega) (IQ_step hof hinj (by omega) h)
theorem IQ_tk {po of : Nat → Nat} {m : Nat} (hof : ∀ i, i < m → of i < 100) (hinj : ∀ a b, a < m → b < m → po a = po b → a = b) : ∀ {r k : Nat} {s : Int32 × Int32}, IQ po of (fun a => a < m ∧ po a < k) s → IQ po of (fun a => a < m ∧ po a < k + r) (tk po of m r k s)
  | 0, k, s, h => h
  | r + 1, k, s, h => by
    have h1 : IQ po of (fun a => a < m ∧ (po a < k ∨ (po a = k ∧ a < 0))) s := IQ_congr (fun a => ⟨fun q => ⟨q.1, Or.inl q.2⟩, fun q => ⟨q.1, by omega⟩⟩) h
    have := IQ_tk hof hinj (r := r) (IQ_tu hof hinj (r := m) (i := 0) (by omega) h1)
    rw [show k + (r + 1) = k + 1 + r by omega]
    exact this
/-- the end of the model's walk: 1 just where the order is kept -/
theorem tk_end {po of : Nat → Nat} {m : Nat} (hof : ∀ i, i < m → of i < 100) (hinj : ∀ a b, a < m → b < m → po a = po b → a = b) {n : Nat} (hpo : ∀ i, i < m → po i < n) : ((tk po of m n 0 (-1, 1)).2 = 1 ∧ ∀ a b, a < m → b < m → po a < po b → of a < of b) ∨ ((tk po of m n 0 (-1, 1)).2 = 0 ∧ ¬ ∀ a b, a < m → b < m → po a < po b → of a < of b) := by
  have h0 : IQ po of (fun a => a < m ∧ po a < 0) (-1, 1) := Or.inl ⟨rfl, fun a b h => by omega, Or.inl ⟨rfl, fun a h => by omega⟩⟩
  have h := IQ_tk hof hinj (r := n) (k := 0) h0
  rcases h with ⟨h1, h2, -⟩ | ⟨h1, a, b, h2, h3, h4, h5⟩
  · refine Or.inl ⟨h1, ?_⟩
    intro a b ha hb
    exact h2 a b ⟨ha, by have := hpo a ha; omega⟩ ⟨hb, by have := hpo b hb; omega⟩
  · refine Or.inr ⟨h1, ?_⟩
    intro q
    exact h5 (q a b h2.1 h3.1 h4)
end TM
/-- both orders of asking are the same question -/
theorem ord_same {po of : Nat → Nat} {m : Nat} (hm : 0 < m) (p0 : po 0 = 0) (o0 : of 0 = 0) (hp : ∀ a b, a < m → b < m → po a = po b → a = b) (ho : ∀ a b, a < m → b < m → of a = of b → a = b) : (∀ a b, a < m → b < m → po a < po b → of a < of b) ↔ allr (fun a => allr (okp po of a) (a - 1) 1) (m - 1) 1 = true := by
  rw [allr_iff]
  constructor
  · intro h a h1 h2
    rw [allr_iff]
    intro o h3 h4
    unfold okp
    have hne : of a ≠ of o := fun z => by have := ho a o (by omega) (by omega) z; omega
    have hne2 : po a ≠ po o := fun z => by have := hp a o (by omega) (by omega) z; omega
    have q1 := h a o (by omega) (by omega)
    have q2 := h o a (by omega) (by omega)
    by_cases c : po a < po o
    · simp [c, q1 c]
    · have := q2 (by omega)
      simp [c, show ¬ of a < of o by omega]
  · intro h a b ha hb hab
    have hne : of a ≠ of b := fun z => by have := ho a b ha hb z; rw [this] at hab; omega
    by_cases a0 : a = 0
    · subst a0; omega
    · by_cases b0 : b = 0
      · subst b0; omega
      · rcases Nat.lt_or_ge a b with c | c
        · have := (allr_iff _ _ _).mp (h b (by omega) (by omega)) a (by omega) (by omega)
          unfold okp at this
          have e : decide (po b < po a) = decide (of b < of a) := eq_of_beq this
          rw [decide_eq_false (by omega)] at e
          have := of_decide_eq_false e.symm
          omega
        · have hab' : a ≠ b := fun z => by rw [z] at hab; omega
          have := (allr_iff _ _ _).mp (h a (by omega) (by omega)) b (by omega) (by omega)
          unfold okp at this
          have e : decide (po a < po b) = decide (of a < of b) := eq_of_beq this
          rw [decide_eq_true hab] at e
          exact of_decide_eq_true e.symm

/-! the model's turned -/
theorem dst_mod {n g0 x : Nat} (h0 : g0 < n) (hx : x < n) : (g0 + dst n g0 x) % n = x := by
  unfold dst
  split
  · rw [Nat.mod_eq_of_lt] <;> omega
  · rw [show g0 + (x + n - g0) = x + n by omega, Nat.add_mod_right, Nat.mod_eq_of_lt hx]
theorem dst_lt {n g0 x : Nat} (h0 : g0 < n) (hx : x < n) : dst n g0 x < n := by
  unfold dst
  split <;> omega
theorem dst_uni {n g0 x q : Nat} (h0 : g0 < n) (hx : x < n) (hq : q < n) (h : (g0 + q) % n = x) : q = dst n g0 x := by
  unfold dst
  rcases Nat.lt_or_ge (g0 + q) n with c | c
  · rw [Nat.mod_eq_of_lt c] at h
    split <;> omega
  · rw [Nat.mod_eq_sub_mod c, Nat.mod_eq_of_lt (by omega)] at h
    split <;> omega
theorem W_inj {n : Nat} {W : Nat → Nat} (hd : ∀ i j, i < j → j < n → W i ≠ W j) {i j : Nat} (hi : i < n) (hj : j < n) (e : W i = W j) : i = j := by
  rcases Nat.lt_trichotomy i j with c | c | c
  · exact absurd e (hd i j c hj)
  · exact c
  · exact absurd e.symm (hd j i c hi)
section TT
theorem pm_off_l (N : Nat) (hN : 200 ≤ N) (h : Hp) {m : Nat} (hm4 : m ≤ 4) (hm : h.1 25 4 = nI m) {n : Nat} (n0 : 0 < n) (n1 : n ≤ 12) {W : Nat → Nat} (hW : ∀ i, i < n → h.1 40 i = nI (W i) ∧ W i < 12) (hd : ∀ i j, i < j → j < n → W i ≠ W j) {P L : Nat → Nat} (hP : ∀ i, i < m → h.1 31 i = nI (P i) ∧ P i < 12) (hL : ∀ i, i < m → h.1 26 (4 * i + 3) = nI (L i) ∧ L i < 12) {xp xl : Nat → Nat} (hxp : ∀ i, i < m → xp i < n ∧ W (xp i) = P i) (hxl : ∀ i, i < m → xl i < n ∧ W (xl i) = L i) (k197 : Int32 → Int32 → Int32 → Int32 → Int32 → Hp → Option Rs) (k207 : Int32 → Int32 → Int32 → Int32 → Int32 → Int32 → Hp → Option Rs) (la sa : Int32) (kk : Int32) {i g0 : Nat} (hi : i < m) (hg : g0 < n) : ∀ (e q : Nat), q ≤ n → n - q < e → f_X8_turned_l239 N k197 k207 e (nI n) (nI g0) la sa kk (nI i) (if dst n g0 (xl i) < q then nI (dst n g0 (xl i)) else 0) (nI q) h = k207 (nI n) (nI g0) (nI (dst n g0 (xl i))) (if sa = 0 then 0 else if nI (dst n g0 (xl i)) ≤ la then 0 else 1) kk (nI (i + 1)) h := by
  have x1 := hxl i hi
  have l1 := hL i hi
  have dl := dst_lt hg x1.1
  intro e
  induction e with
  | zero => intro q _ h2; omega
  | succ e ih =>
    intro q hq he
    show f_X8_turned_b239 N k197 k207 (f_X8_turned_l239 N k197 k207 e) (nI n) (nI g0) la sa kk (nI i) _ (nI q) h = _
    unfold f_X8_turned_b239 f_X8_turned_b304 f_X8_turned_b305 f_X8_turned_b311 f_X8_turned_b280
    by_cases hc : q = n
    · subst hc
      rw [if_pos (nI_le (Nat.le_refl _) (by omega)), if_pos dl]
      simp only [p_lt, nI_1]
      by_cases c1 : sa = 0
      · rw [if_pos c1, if_pos c1]
      · rw [if_neg c1, if_neg c1]
        by_cases c2 : nI (dst q g0 (xl i)) ≤ la
        · rw [if_pos c2, if_pos c2]
        · rw [if_neg c2, if_neg c2]
    · have hmod : (g0 + q) % n < n := Nat.mod_lt _ n0
      rw [if_neg (nI_ge (by omega) (by omega)), if_pos (nI_ne0 n0 (by omega)), nI_add, pk_rem (by omega) n0 (by omega), if_pos (p_ib (by omega) (by omega)), show (4 : Int32) * nI i + 3 = nI (4 * i + 3) by rw [p_4x]; exact nI_add _ 3, if_pos (p_ib (by omega) (by omega)), p_ix (by omega), p_ix (by omega), l1.1, (hW _ hmod).1]
      have step := ih (q + 1) (by omega) (by omega)
      have w1 := (hW _ hmod).2
      simp only [p_lt, nI_1]
      by_cases c : W ((g0 + q) % n) = L i
      · have e1 : (g0 + q) % n = xl i := W_inj hd hmod x1.1 (by rw [c, x1.2])
        have e2 := dst_uni hg x1.1 (by omega) e1
        rw [if_pos (by rw [c]), ← step, if_pos (by omega), ← e2]
      · have e2 : q ≠ dst n g0 (xl i) := fun z => c (by rw [z, dst_mod hg x1.1, x1.2])
        rw [if_neg (by rw [nI_eq (by omega) (by omega)]; exact c), ← step]
        by_cases c3 : dst n g0 (xl i) < q
        · rw [if_pos c3, if_pos (by omega)]
        · rw [if_neg c3, if_neg (by omega)]
theorem pm_tu_l (N : Nat) (hN : 200 ≤ N) (h : Hp) {m : Nat} (hm4 : m ≤ 4) (hm : h.1 25 4 = nI m) {n : Nat} (n0 : 0 < n) (n1 : n ≤ 12) {W : Nat → Nat} (hW : ∀ i, i < n → h.1 40 i = nI (W i) ∧ W i < 12) (hd : ∀ i j, i < j → j < n → W i ≠ W j) {P L : Nat → Nat} (hP : ∀ i, i < m → h.1 31 i = nI (P i) ∧ P i < 12) (hL : ∀ i, i < m → h.1 26 (4 * i + 3) = nI (L i) ∧ L i < 12) {xp xl : Nat → Nat} (hxp : ∀ i, i < m → xp i < n ∧ W (xp i) = P i) (hxl : ∀ i, i < m → xl i < n ∧ W (xl i) = L i) (k197 : Int32 → Int32 → Int32 → Int32 → Int32 → Hp → Option Rs) {k g0 : Nat} (hk : k < n) (hg : g0 < n) : ∀ (e i : Nat) (s : Int32 × Int32), i ≤ m → m - i < e → f_X8_turned_l207 N k197 e (nI n) (nI g0) s.1 s.2 (nI k) (nI i) h = k197 (nI n) (nI g0) (tu xp (fun i => dst n g0 (xl i)) k (m - i) i s).1 (tu xp (fun i => dst n g0 (xl i)) k (m - i) i s).2 (nI (k + 1)) h := by
  intro e
  induction e with
  | zero => intro i s _ h2; omega
  | succ e ih =>
    intro i s hi he
    show f_X8_turned_b207 N k197 (f_X8_turned_l207 N k197 e) (nI n) (nI g0) s.1 s.2 (nI k) (nI i) h = _
    unfold f_X8_turned_b207
    rw [hm]
    by_cases hc : i = m
    · subst hc
      rw [if_pos (nI_le (Nat.le_refl _) (by omega)), p_lt, nI_1, show i - i = 0 by omega]
      rfl
    · have p1 := hP i (by omega)
      have w1 := hW k hk
      have x1 := hxp i (by omega)
      obtain ⟨r, hr⟩ : ∃ r, m - i = r + 1 := ⟨m - i - 1, by omega⟩
      have step := ih (i + 1) (stp xp (fun i => dst n g0 (xl i)) k s i) (by omega) (by omega)
      rw [show m - (i + 1) = r by omega] at step
      rw [hr]
      show _ = k197 (nI n) (nI g0) (tu xp (fun i => dst n g0 (xl i)) k r (i + 1) (stp xp (fun i => dst n g0 (xl i)) k s i)).1 (tu xp (fun i => dst n g0 (xl i)) k r (i + 1) (stp xp (fun i => dst n g0 (xl i)) k s i)).2 (nI (k + 1)) h
      rw [← step, if_neg (nI_ge (by omega) (by omega)), if_pos (p_ib (by omega) (by omega)), if_pos (p_ib (by omega) (by omega)), p_ix (by omega), p_ix (by omega), p1.1, w1.1]
      unfold stp
      by_cases c : P i = W k
      · have e1 : xp i = k := W_inj hd x1.1 hk (by rw [x1.2, c])
        rw [if_pos (by rw [c]), if_pos e1, p_lt, p_lt]
        have eo := pm_off_l N hN h hm4 hm n0 n1 hW hd hP hL hxp hxl k197 (f_X8_turned_l207 N k197 e) s.1 s.2 (nI k) (show i < m by omega) hg N 0 (by omega) (by omega)
        rw [if_neg (by omega)] at eo
        exact eo
      · have e1 : ¬ xp i = k := fun z => c (by rw [← x1.2, z])
        rw [if_neg (by rw [nI_eq (by omega) (by omega)]; exact c), if_neg e1]
        unfold f_X8_turned_b311
        rw [p_lt, nI_1]
theorem pm_tk_l (N : Nat) (hN : 200 ≤ N) (h : Hp) {m : Nat} (hm4 : m ≤ 4) (hm : h.1 25 4 = nI m) {n : Nat} (n0 : 0 < n) (n1 : n ≤ 12) {W : Nat → Nat} (hW : ∀ i, i < n → h.1 40 i = nI (W i) ∧ W i < 12) (hd : ∀ i j, i < j → j < n → W i ≠ W j) {P L : Nat → Nat} (hP : ∀ i, i < m → h.1 31 i = nI (P i) ∧ P i < 12) (hL : ∀ i, i < m → h.1 26 (4 * i + 3) = nI (L i) ∧ L i < 12) {xp xl : Nat → Nat} (hxp : ∀ i, i < m → xp i < n ∧ W (xp i) = P i) (hxl : ∀ i, i < m → xl i < n ∧ W (xl i) = L i) {g0 : Nat} (hg : g0 < n) : ∀ (e k : Nat) (s : Int32 × Int32), k ≤ n → n - k < e → f_X8_turned_l197 N e (nI n) (nI g0) s.1 s.2 (nI k) h = some (if (tk xp (fun i => dst n g0 (xl i)) m (n - k) k s).2 = 0 then 0 else 1, h) := by
  intro e
  induction e with
  | zero => intro k s _ h2; omega
  | succ e ih =>
    intro k s hk he
    show f_X8_turned_b197 N (f_X8_turned_l197 N e) (nI n) (nI g0) s.1 s.2 (nI k) h = _
    unfold f_X8_turned_b197 f_X8_turned_b333
    by_cases hc : k = n
    · subst hc
      rw [if_pos (nI_le (Nat.le_refl _) (by omega)), show k - k = 0 by omega]
      show _ = some (if s.2 = 0 then 0 else 1, h)
      split <;> rfl
    · rw [if_neg (nI_ge (by omega) (by omega)), p_lt]
      refine (pm_tu_l N hN h hm4 hm n0 n1 hW hd hP hL hxp hxl (f_X8_turned_l197 N e) (show k < n by omega) hg N 0 s (by omega) (by omega)).trans ?_
      rw [Nat.sub_zero, ih (k + 1) _ (by omega) (by omega)]
      obtain ⟨r, hr⟩ : ∃ r, n - k = r + 1 := ⟨n - k - 1, by omega⟩
      rw [hr, show n - (k + 1) = r by omega]
      rfl
theorem pm_start_l (N : Nat) (hN : 200 ≤ N) (h : Hp) {m : Nat} (hm4 : m ≤ 4) (hm : h.1 25 4 = nI m) {n : Nat} (n0 : 0 < n) (n1 : n ≤ 12) {W : Nat → Nat} (hW : ∀ i, i < n → h.1 40 i = nI (W i) ∧ W i < 12) (hd : ∀ i j, i < j → j < n → W i ≠ W j) {P L : Nat → Nat} (hP : ∀ i, i < m → h.1 31 i = nI (P i) ∧ P i < 12) (hL : ∀ i, i < m → h.1 26 (4 * i + 3) = nI (L i) ∧ L i < 12) {xp xl : Nat → Nat} (hxp : ∀ i, i < m → xp i < n ∧ W (xp i) = P i) (hxl : ∀ i, i < m → xl i < n ∧ W (xl i) = L i) (m0 : 0 < m) : ∀ (e k : Nat), k ≤ n → n - k < e → f_X8_turned_l150 N e (nI n) (if xl 0 < k then nI (xl 0) else 0) (nI k) h = f_X8_turned_l197 N N (nI n) (nI (xl 0)) (-1) 1 0 h := by
  have x0 := hxl 0 m0
  have l0 := hL 0 m0
  intro e
  induction e with
  | zero => intro k _ h2; omega
  | succ e ih =>
    intro k hk he
    show f_X8_turned_b150 N (f_X8_turned_l150 N e) (nI n) _ (nI k) h = _
    unfold f_X8_turned_b150 f_X8_turned_b180
    by_cases hc : k = n
    · subst hc
      rw [if_pos (nI_le (Nat.le_refl _) (by omega)), if_pos x0.1, p_lt, p_lt, p_lt]
    · have w1 := hW k (by omega)
      have step := ih (k + 1) (by omega) (by omega)
      rw [if_neg (nI_ge (by omega) (by omega)), if_pos (p_ib (by omega) (by omega)), if_pos (by decide), p_ix (by omega), w1.1, show h.1 26 (ix 3) = nI (L 0) from l0.1]
      simp only [p_lt, nI_1]
      by_cases c : W k = L 0
      · have e1 : k = xl 0 := W_inj hd (by omega) x0.1 (by rw [c, x0.2])
        rw [if_pos (by rw [c]), ← step, if_pos (by omega), e1]
      · have e1 : k ≠ xl 0 := fun z => c (by rw [z, x0.2])
        rw [if_neg (by rw [nI_eq (by omega) (by omega)]; exact c), ← step]
        by_cases c3 : xl 0 < k
        · rw [if_pos c3, if_pos (by omega)]
        · rw [if_neg c3, if_neg (by omega)]
end TT
