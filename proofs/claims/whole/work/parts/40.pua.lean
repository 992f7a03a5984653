/-! ===== sums, counts, lists without repetition ===== -/
def sumf (f : Nat → Nat) : Nat → Nat
  | 0 => 0
  | n + 1 => sumf f n + f n
theorem sumf_congr {f g : Nat → Nat} : ∀ {n : Nat}, (∀ i, i < n → f i = g i) → sumf f n = sumf g n
  | 0, _ => rfl
  | n + 1, h => by show sumf f n + f n = sumf g n + g n; rw [sumf_congr (fun i hi => h i (by omega)), h n (by omega)]
theorem sumf_le {f g : Nat → Nat} : ∀ {n : Nat}, (∀ i, i < n → f i ≤ g i) → sumf f n ≤ sumf g n
  | 0, _ => Nat.le_refl _
  | n + 1, h => Nat.add_le_add (sumf_le (fun i hi => h i (by omega))) (h n (by omega))
theorem sumf_lt {f g : Nat → Nat} : ∀ {n : Nat}, (∀ i, i < n → f i ≤ g i) → (∃ i, i < n ∧ f i < g i) → sumf f n < sumf g n
  | 0, _, h => by obtain ⟨i, h1, _⟩ := h; omega
  | n + 1, h, ⟨i, h1, h2⟩ => by
    show sumf f n + f n < sumf g n + g n
    by_cases hi : i = n
    · subst hi
      have := sumf_le (n := i) (fun j hj => h j (by omega))
      omega
    · have := sumf_lt (n := n) (fun j hj => h j (by omega)) ⟨i, by omega, h2⟩
      have := h n (by omega)
      omega
theorem sumf_trim {f : Nat → Nat} {a b : Nat} (hab : a ≤ b) (h : ∀ i, a ≤ i → i < b → f i = 0) : sumf f b = sumf f a := by
  obtain ⟨c, rfl⟩ : ∃ c, b = a + c := ⟨b - a, by omega⟩
  clear hab
  induction c with
  | zero => rfl
  | succ c ih =>
    show sumf f (a + c) + f (a + c) = _
    rw [h (a + c) (by omega) (by omega), ih (fun i h1 h2 => h i h1 (by omega))]
    rfl
theorem sumf_add (f g : Nat → Nat) : ∀ n, sumf (fun i => f i + g i) n = sumf f n + sumf g n
  | 0 => rfl
  | n + 1 => by show sumf (fun i => f i + g i) n + (f n + g n) = sumf f n + f n + (sumf g n + g n); rw [sumf_add f g n]; omega
/-- how many below n have the property -/
def cnt (p : Nat → Bool) (n : Nat) : Nat := sumf (fun i => if p i = true then 1 else 0) n
theorem cnt_le (p : Nat → Bool) : ∀ n, cnt p n ≤ n
  | 0 => Nat.le_refl _
  | n + 1 => by
    show cnt p n + (if p n = true then 1 else 0) ≤ n + 1
    have := cnt_le p n
    split <;> omega
theorem cnt_full {p : Nat → Bool} : ∀ {n : Nat}, cnt p n = n → ∀ i, i < n → p i = true
  | 0, _, i, h => by omega
  | n + 1, h, i, hi => by
    have h' : cnt p n + (if p n = true then 1 else 0) = n + 1 := h
    have := cnt_le p n
    by_cases c : p n = true
    · rw [if_pos c] at h'
      by_cases e : i = n
      · exact e ▸ c
      · exact cnt_full (n := n) (by omega) i (by omega)
    · rw [if_neg c] at h'; omega
theorem cnt_s (p : Nat → Bool) (n : Nat) : cnt p (n + 1) = cnt p n + (if p n = true then 1 else 0) := rfl
theorem cnt_0 {p : Nat → Bool} : ∀ {n : Nat}, cnt p n = 0 → ∀ i, i < n → p i = false
  | 0, _, i, h => by omega
  | n + 1, h, i, hi => by
    rw [cnt_s] at h
    by_cases c : p n = true
    · rw [if_pos c] at h; omega
    · by_cases e : i = n
      · subst e; simpa using c
      · exact cnt_0 (n := n) (by omega) i (by omega)
theorem cnt_1 {p : Nat → Bool} : ∀ {n : Nat}, cnt p n = 1 → ∃ x, x < n ∧ ∀ b, b < n → (p b = true ↔ b = x)
  | 0, h => by cases h
  | n + 1, h => by
    rw [cnt_s] at h
    by_cases c : p n = true
    · rw [if_pos c] at h
      have h0 := cnt_0 (n := n) (p := p) (by omega)
      refine ⟨n, by omega, fun b hb => ⟨fun q => ?_, fun q => q ▸ c⟩⟩
      by_cases e : b = n
      · exact e
      · rw [h0 b (by omega)] at q; cases q
    · rw [if_neg c] at h
      obtain ⟨x, hx, h1⟩ := cnt_1 (n := n) (p := p) (by omega)
      refine ⟨x, by omega, fun b hb => ?_⟩
      by_cases e : b = n
      · subst e
        exact ⟨fun q => absurd q c, fun q => by omega⟩
      · exact h1 b (by omega)
theorem cnt_2 {p : Nat → Bool} : ∀ {n : Nat}, cnt p n = 2 → ∃ x y, x < y ∧ y < n ∧ ∀ b, b < n → (p b = true ↔ b = x ∨ b = y)
  | 0, h => by cases h
  | n + 1, h => by
    rw [cnt_s] at h
    by_cases c : p n = true
    · rw [if_pos c] at h
      obtain ⟨x, hx, h1⟩ := cnt_1 (n := n) (p := p) (by omega)
      refine ⟨x, n, hx, by omega, fun b hb => ?_⟩
      by_cases e : b = n
      · subst e; exact ⟨fun _ => Or.inr rfl, fun _ => c⟩
      · rw [h1 b (by omega)]; constructor
        · exact Or.inl
        · rintro (q | q)
          · exact q
          · exact absurd q e
    · rw [if_neg c] at h
      obtain ⟨x, y, h2, h3, h4⟩ := cnt_2 (n := n) (p := p) (by omega)
      refine ⟨x, y, h2, by omega, fun b hb => ?_⟩
      by_cases e : b = n
      · subst e; exact ⟨fun q => absurd q c, fun q => by omega⟩
      · exact h4 b (by omega)
/-- a list without repetition is no longer than one that has all its members -/
theorem nd_len {α : Type} [DecidableEq α] : ∀ {l m : List α}, l.Nodup → (∀ x, x ∈ l → x ∈ m) → l.length ≤ m.length
  | [], m, _, _ => Nat.zero_le _
  | a :: l, m, h1, h2 => by
    have ha : a ∈ m := h2 a (List.mem_cons_self ..)
    have hl := List.nodup_cons.mp h1
    have := nd_len (l := l) (m := m.erase a) hl.2 (fun x hx => by
      have hxa : x ≠ a := fun z => hl.1 (z ▸ hx)
      exact (List.mem_erase_of_ne hxa).mpr (h2 x (List.mem_cons_of_mem _ hx)))
    rw [List.length_erase_of_mem ha] at this
    have hm : 0 < m.length := List.length_pos_of_mem ha
    show l.length + 1 ≤ m.length
    omega
theorem cnt_list (p : Nat → Bool) : ∀ n, cnt p n = ((List.range n).filter p).length
  | 0 => rfl
  | n + 1 => by
    rw [cnt_s, List.range_succ, List.filter_append, List.length_append, ← cnt_list p n]
    by_cases c : p n = true
    · rw [if_pos c]; simp [c]
    · rw [if_neg c]; simp [c]
/-- a double sum of a symmetric relation that nothing has to itself is even -/
theorem sum_even (R : Nat → Nat → Bool) (hs : ∀ a b, R a b = true → R b a = true) (hi : ∀ a, R a a = false) : ∀ n, sumf (fun a => cnt (R a) n) n % 2 = 0 := by
  have key : ∀ n m, sumf (fun a => cnt (R a) (n + 1)) m = sumf (fun a => cnt (R a) n) m + cnt (fun a => R a n) m := by
    intro n m
    unfold cnt
    rw [← sumf_add]
    rfl
  intro n
  induction n with
  | zero => rfl
  | succ n ih =>
    show (sumf (fun a => cnt (R a) (n + 1)) n + cnt (R n) (n + 1)) % 2 = 0
    rw [key, cnt_s, hi n, if_neg (by decide)]
    have e : cnt (fun a => R a n) n = cnt (R n) n := by
      unfold cnt
      apply sumf_congr
      intro i _
      dsimp only
      have : R i n = R n i := by
        cases h1 : R i n <;> cases h2 : R n i
        · rfl
        · rw [hs _ _ h2] at h1; cases h1
        · rw [hs _ _ h1] at h2; cases h2
        · rfl
      simp only [this]
    rw [e]
    omega
/-! sets of squares -/
def B12 (x : Int32) : Prop := ∀ b, b < 32 → bt x b = true → b < 12
theorem bt_32 {x : Int32} {b : Nat} (h : bt x b = true) : b < 32 := by
  rcases Nat.lt_or_ge b 32 with h1 | h1
  · exact h1
  · rw [b_big h1] at h; cases h
theorem B12_n {x : Int32} (h : B12 x) : ∃ n, n < 4096 ∧ x = nI n := by
  have e : x = x &&& 4095 := by
    apply bt_iff
    intro b hb
    have h4 : ∀ b, b < 32 → bt 4095 b = decide (b < 12) := by decide +kernel
    rw [b_and, h4 b hb, Bool.and_eq_true, decide_eq_true_eq]
    exact ⟨fun q => ⟨q, h b hb q⟩, fun q => q.1⟩
  obtain ⟨j, h1, h2⟩ := pk_andE x (m := 4095) 12 (by decide)
  exact ⟨j, by omega, e.trans h2⟩
theorem B12_or {x y : Int32} (hx : B12 x) (hy : B12 y) : B12 (x ||| y) := by
  intro b hb h
  rw [b_or, Bool.or_eq_true] at h
  rcases h with h | h
  · exact hx b hb h
  · exact hy b hb h
theorem B12_0 : B12 0 := fun b _ h => by rw [b_0] at h; cases h
theorem B12_sg {p : Nat} (hp : p < 12) : B12 (sg (nI p)) := fun b hb h => by
  rw [sg_bt (by omega) hb] at h
  have := of_decide_eq_true h
  omega
theorem B12_orf {f : Nat → Int32} {n : Nat} (h : ∀ i, i < n → B12 (f i)) : B12 (orf f n) := fun b hb q => by
  obtain ⟨i, h1, h2⟩ := (orf_bt f b n).mp q
  exact h i h1 b hb h2
def bcE (a0 : Int32) : Int32 :=
  let x1 := a0 - (((a0.toUInt32 >>> ((1 : Int32).toUInt32 &&& Int32.toUInt32 31)).toInt32) &&& 1431655765)
  let x2 := (x1 &&& 858993459) + (((x1.toUInt32 >>> ((2 : Int32).toUInt32 &&& Int32.toUInt32 31)).toInt32) &&& 858993459)
  let x3 := (x2 + ((x2.toUInt32 >>> ((4 : Int32).toUInt32 &&& Int32.toUInt32 31)).toInt32)) &&& 252645135
  let x4 := x3 + ((x3.toUInt32 >>> ((8 : Int32).toUInt32 &&& Int32.toUInt32 31)).toInt32)
  let x5 := x4 + ((x4.toUInt32 >>> ((16 : Int32).toUInt32 &&& Int32.toUInt32 31)).toInt32)
  x5 &&& 63
theorem pu_bc0 (N : Nat) (x : Int32) (h : Hp) : f_J6_bitCount_0f7a4 N x h = some (bcE x, h) := rfl
theorem bc_fin : (List.range 4096).all (fun n => bcE (nI n) == nI (cnt (bt (nI n)) 12)) = true := by decide +kernel
theorem pu_bitCount (N : Nat) {x : Int32} (hx : B12 x) (h : Hp) : f_J6_bitCount_0f7a4 N x h = some (nI (cnt (bt x) 12), h) := by
  rw [pu_bc0]
  obtain ⟨n, hn, rfl⟩ := B12_n hx
  have := List.all_eq_true.mp bc_fin n (List.mem_range.mpr hn)
  rw [eq_of_beq this]
/-- the lowest square of a set -/
def lowf (p : Nat → Bool) : Nat → Nat → Nat
  | 0, k => k
  | r + 1, k => if p k = true then k else lowf p r (k + 1)
def low (x : Int32) : Nat := lowf (bt x) 12 0
theorem lowf_in {p : Nat → Bool} : ∀ {r k : Nat}, (∃ b, k ≤ b ∧ b < k + r ∧ p b = true) → p (lowf p r k) = true ∧ lowf p r k < k + r ∧ k ≤ lowf p r k ∧ ∀ b, k ≤ b → b < lowf p r k → p b = false
  | 0, k, ⟨b, h1, h2, _⟩ => by omega
  | r + 1, k, ⟨b, h1, h2, h3⟩ => by
    show p (if p k = true then k else lowf p r (k + 1)) = true ∧ (if p k = true then k else lowf p r (k + 1)) < k + (r + 1) ∧ k ≤ (if p k = true then k else lowf p r (k + 1)) ∧ ∀ b, k ≤ b → b < (if p k = true then k else lowf p r (k + 1)) → p b = false
    by_cases c : p k = true
    · rw [if_pos c]
      exact ⟨c, by omega, by omega, fun b h4 h5 => by omega⟩
    · rw [if_neg c]
      have hb : b ≠ k := fun z => c (z ▸ h3)
      obtain ⟨q1, q2, q3, q4⟩ := lowf_in (p := p) (r := r) (k := k + 1) ⟨b, by omega, by omega, h3⟩
      refine ⟨q1, by omega, by omega, fun e h4 h5 => ?_⟩
      by_cases he : e = k
      · subst he; simpa using c
      · exact q4 e (by omega) h5
theorem low_in {x : Int32} (h : ∃ b, b < 12 ∧ bt x b = true) : bt x (low x) = true ∧ low x < 12 ∧ ∀ b, b < low x → bt x b = false := by
  obtain ⟨b, h1, h2⟩ := h
  obtain ⟨q1, q2, q3, q4⟩ := lowf_in (p := bt x) (r := 12) (k := 0) ⟨b, by omega, by omega, h2⟩
  exact ⟨q1, by unfold low; omega, fun e h4 => q4 e (by omega) h4⟩
def tz (x : Int32) : Int32 := match f_J6_numberOfTrailingZeros_0f7a4 0 x (fun _ _ => 0, 0) with
  | some z => z.1
  | none => 0
theorem tz_fin : (List.range 4096).all (fun n => n == 0 || tz (nI n) == nI (low (nI n))) = true := by decide +kernel
theorem pu_tz0 (N : Nat) (x : Int32) (h : Hp) : f_J6_numberOfTrailingZeros_0f7a4 N x h = some (tz x, h) := by
  unfold tz f_J6_numberOfTrailingZeros_0f7a4
  simp only [p_lt]
  unfold f_J6_numberOfTrailingZeros_0f7a4_b34 f_J6_numberOfTrailingZeros_0f7a4_b49 f_J6_numberOfTrailingZeros_0f7a4_b62 f_J6_numberOfTrailingZeros_0f7a4_b74
  simp only [p_lt, ite_some]
theorem pu_tz (N : Nat) {x : Int32} (hx : B12 x) (hne : ∃ b, b < 12 ∧ bt x b = true) (h : Hp) : f_J6_numberOfTrailingZeros_0f7a4 N x h = some (nI (low x), h) := by
  rw [pu_tz0]
  obtain ⟨n, hn, rfl⟩ := B12_n hx
  have h1 := List.all_eq_true.mp tz_fin n (List.mem_range.mpr hn)
  rw [Bool.or_eq_true] at h1
  rcases h1 with h1 | h1
  · have e : n = 0 := eq_of_beq h1
    subst e
    obtain ⟨b, _, h3⟩ := hne
    rw [show nI 0 = (0 : Int32) from rfl, b_0] at h3
    cases h3
  · rw [eq_of_beq h1]
theorem pm_lowest_l (N : Nat) {x : Int32} {m : Nat} (hm : bt x m = true) (hm12 : m < 12) (hlo : ∀ b, b < m → bt x b = false) (h : Hp) : ∀ (e k : Nat), k ≤ m → m - k < e → f_X8_lowest_l2 N e x (nI k) h = some (nI m, h) := by
  intro e
  induction e with
  | zero => intro k _ h2; omega
  | succ e ih =>
    intro k hk he
    show f_X8_lowest_b2 N (f_X8_lowest_l2 N e) x (nI k) h = _
    unfold f_X8_lowest_b2
    rw [pm_has, p_cl]
    by_cases hc : k = m
    · subst hc
      rw [if_pos ((bi_1 (by omega)).mpr hm), if_neg (by decide)]
    · rw [(bi_0 (by omega)).mpr (hlo k (by omega)), if_pos (by decide), p_lt, nI_1]
      exact ih (k + 1) (by omega) (by omega)
theorem pm_lowest (N : Nat) (hN : 20 ≤ N) {x : Int32} (hne : ∃ b, b < 12 ∧ bt x b = true) (h : Hp) : f_X8_lowest N x h = some (nI (low x), h) := by
  obtain ⟨h1, h2, h3⟩ := low_in hne
  unfold f_X8_lowest
  rw [p_lt]
  exact pm_lowest_l N h1 h2 h3 h N 0 (by omega) (by omega)
theorem pm_bits_l (N : Nat) (x : Int32) (h : Hp) : ∀ (e k : Nat), k ≤ 12 → 12 - k < e → f_X8_bits_l4 N e x (nI (cnt (bt x) k)) (nI k) h = some (nI (cnt (bt x) 12), h) := by
  intro e
  induction e with
  | zero => intro k _ h2; omega
  | succ e ih =>
    intro k hk he
    show f_X8_bits_b4 N (f_X8_bits_l4 N e) x (nI (cnt (bt x) k)) (nI k) h = _
    unfold f_X8_bits_b4
    by_cases hc : k = 12
    · subst hc
      rw [if_pos (by decide)]
    · rw [if_neg (show ¬ (12 : Int32) ≤ nI k from nI_ge (a := k) (b := 12) (by omega) (by omega)), p_lt, p_lt, nI_1]
      show f_X8_bits_l4 N e x (nI (cnt (bt x) k) + bi x (nI k)) (nI (k + 1)) h = _
      rw [bi_bt x (by omega), show (if bt x k = true then (1 : Int32) else 0) = nI (if bt x k = true then 1 else 0) by split <;> rfl, nI_add, ← cnt_s]
      exact ih (k + 1) (by omega) (by omega)
theorem pm_bits (N : Nat) (hN : 20 ≤ N) (x : Int32) (h : Hp) : f_X8_bits N x h = some (nI (cnt (bt x) 12), h) := by
  unfold f_X8_bits
  rw [p_lt, p_lt]
  exact pm_bits_l N x h N 0 (by omega) (by omega)
