/-! ===== reachOf ===== -/
/-- the direction whose step is (i - 2, j - 2); 16: none -/
def dix (i j : Nat) : Nat := match i, j with
  | 3, 0 => 0
  | 4, 1 => 1
  | 4, 3 => 2
  | 3, 4 => 3
  | 1, 4 => 4
  | 0, 3 => 5
  | 0, 1 => 6
  | 1, 0 => 7
  | 2, 1 => 8
  | 3, 2 => 9
  | 2, 3 => 10
  | 1, 2 => 11
  | 3, 1 => 12
  | 3, 3 => 13
  | 1, 3 => 14
  | 1, 1 => 15
  | _, _ => 16
def rI (i : Nat) : Int32 := nI i - 2
def aI (i : Nat) : Int32 := if 0 ≤ rI i then rI i else -(rI i)
def neI (i j : Nat) : Int32 := if 2 ≤ aI i then 0 else if 2 ≤ aI j then 0 else if aI i + aI j ≤ 0 then 0 else 1
theorem t_mul : ∀ i, i < 5 → ∀ j, j < 5 → (aI i * aI j = 2 ↔ dix i j < 8) := by decide +kernel
theorem t_near : ∀ i, i < 5 → ∀ j, j < 5 → (neI i j = 0 ∧ ¬ (8 ≤ dix i j ∧ dix i j < 16)) ∨ (neI i j = 1 ∧ 8 ≤ dix i j ∧ dix i j < 16) := by decide +kernel
theorem t_one : ∀ i, i < 5 → ∀ j, j < 5 → neI i j = 1 → (aI i + aI j = 1 ↔ dix i j < 12) := by decide +kernel
theorem t_dir : ∀ i, i < 5 → ∀ j, j < 5 → dix i j < 16 → tb 2 (dix i j) = rI i ∧ tb 3 (dix i j) = rI j := by decide +kernel
theorem t_r1 : ∀ i, i < 5 → rI i + 1 = rI (i + 1) := by decide +kernel
theorem t_r3 : ∀ i, i < 5 → ¬ 3 ≤ rI i := by decide +kernel
theorem t_r5 : (3 : Int32) ≤ rI 5 := by decide +kernel
def con (T : Nat → Int32) (k q : Nat) (ho tk : Int32) (i j : Nat) : Int32 := if fdn k ≤ dix i j ∧ dix i j < bdn k then ryd T k q ho tk (dix i j) else 0
section REACH
variable (N : Nat) (k7 : Int32 → Int32 → Int32 → Int32 → Int32 → Hp → Option Rs) (k17 : Int32 → Int32 → Int32 → Int32 → Int32 → Int32 → Hp → Option Rs)
theorem pm_b17 {i j : Nat} (hj : j < 5) (kk q tk set : Int32) (h : Hp) : f_X8_reachOf_b17 N k7 k17 kk q tk set (rI i) (rI j) h = f_X8_reachOf_b78 N k7 k17 kk q tk set (rI i) (rI j) (aI i) (aI j) (neI i j) h := by
  unfold f_X8_reachOf_b17
  rw [if_neg (t_r3 j hj)]
  have e1 : ∀ s0, s0 = aI i → f_X8_reachOf_b36 N k7 k17 kk q tk set (rI i) (rI j) s0 h = f_X8_reachOf_b78 N k7 k17 kk q tk set (rI i) (rI j) (aI i) (aI j) (neI i j) h := by
    intro s0 hs
    subst hs
    have e2 : ∀ s1, s1 = aI j → f_X8_reachOf_b51 N k7 k17 kk q tk set (rI i) (rI j) (aI i) s1 h = f_X8_reachOf_b78 N k7 k17 kk q tk set (rI i) (rI j) (aI i) (aI j) (neI i j) h := by
      intro s1 hs
      subst hs
      unfold f_X8_reachOf_b51 f_X8_reachOf_b77 neI
      rw [p_lt]
      by_cases c1 : 2 ≤ aI i
      · rw [if_pos c1, if_pos c1]
      · rw [if_neg c1, if_neg c1]
        by_cases c2 : 2 ≤ aI j
        · rw [if_pos c2, if_pos c2]
        · rw [if_neg c2, if_neg c2]
          by_cases c3 : aI i + aI j ≤ 0
          · rw [if_pos c3, if_pos c3]
          · rw [if_neg c3, if_neg c3]
    unfold f_X8_reachOf_b36
    rw [p_lt]
    by_cases c : 0 ≤ rI j
    · rw [if_pos c]; exact e2 _ (by unfold aI; rw [if_pos c])
    · rw [if_neg c]; exact e2 _ (by unfold aI; rw [if_neg c])
  by_cases c : 0 ≤ rI i
  · rw [if_pos c]; exact e1 _ (by unfold aI; rw [if_pos c])
  · rw [if_neg c]; exact e1 _ (by unfold aI; rw [if_neg c])
theorem pm_leap {w g : Nat} (hb : bd w g) {q : Nat} (hq : q < w * g) (tk : Int32) (h : Hp) (e0 : h.1 25 0 = nI w) (e1 : h.1 25 1 = nI g) (T : Nat → Int32) (hT : ∀ d, d < 16 → ∀ q, q < 12 → T (d * 12 + q) = if q < w * g then ent w g q d else -1) {k i j : Nat} (hk : k < 2) (hi : i < 5) (hj : j < 5) (set s0 : Int32) (hs : (s0 = 0 ∧ ¬ (fdn k ≤ dix i j ∧ dix i j < bdn k)) ∨ (s0 = 1 ∧ fdn k ≤ dix i j ∧ dix i j < bdn k)) : f_X8_reachOf_b130 N k7 k17 (nI k) (nI q) tk set (rI i) (rI j) (cx w q + rI i) (cy w q + rI j) s0 h = k17 (nI k) (nI q) tk (set ||| con T k q (h.1 25 2) tk i j) (rI i) (rI (j + 1)) h := by
  have h12 := hb.2.2.2.2
  unfold f_X8_reachOf_b130 f_X8_reachOf_b165 f_X8_reachOf_b166 f_X8_reachOf_b219
  simp only [p_lt]
  rw [t_r1 j hj]
  unfold con
  rcases hs with ⟨rfl, h2⟩ | ⟨rfl, h2, h3⟩
  · rw [if_pos rfl, if_neg h2]
  · have hd : dix i j < 16 := by
      have : bdn k ≤ 16 := by unfold bdn; split; omega; split <;> omega
      omega
    obtain ⟨t1, t2⟩ := t_dir i hi j hj hd
    have hon : onI (nI w) (nI g) (h.1 25 2) (cx w q + rI i) (cy w q + rI j) = if ent w g q (dix i j) < 0 then 0 else if bi (h.1 25 2) (ent w g q (dix i j)) = 0 then 1 else 0 := by
      rw [← t1, ← t2]
      exact onI_ent hb hq hd (h.1 25 2)
    have hry : (if fdn k ≤ dix i j ∧ dix i j < bdn k then ryd T k q (h.1 25 2) tk (dix i j) else 0) = (if ent w g q (dix i j) < 0 then 0 else if bi (h.1 25 2) (ent w g q (dix i j)) = 0 then sg (ent w g q (dix i j)) ||| 0 else 0) := by
      rw [if_pos ⟨h2, h3⟩]
      unfold ryd
      rw [show msn k = 1 by unfold msn; rw [if_pos hk], hT _ hd q (by omega), if_pos hq]
      rfl
    have hpl : ∀ m, ent w g q (dix i j) = nI m → (cy w q + rI j) * nI w + (cx w q + rI i) = (cy w q + tb 3 (dix i j)) * nI w + (cx w q + tb 2 (dix i j)) := fun m _ => by rw [t1, t2]
    rw [if_neg (by decide), pm_isOn, p_cl, e0, e1, hon, hry]
    rcases ent_case hb hq hd with ⟨c1, -⟩ | ⟨m, c1, c2, c3, c4, c5, -⟩
    · rw [c1, if_pos p_m1, if_pos rfl, if_pos p_m1]
    · rw [c2, if_neg (nI_pos (n := m) (by omega)), if_neg (nI_pos (n := m) (by omega))]
      by_cases c6 : bi (h.1 25 2) (nI m) = 0
      · rw [if_pos c6, if_neg (by decide), if_pos c6, or_0, hpl m c2, c5]
        rfl
      · rw [if_neg c6, if_pos rfl, if_neg c6]
theorem pm_glide {w g : Nat} (hb : bd w g) (hN : 10 ≤ N) {q : Nat} (hq : q < w * g) (tk : Int32) (h : Hp) (e0 : h.1 25 0 = nI w) (e1 : h.1 25 1 = nI g) (T : Nat → Int32) (hT : ∀ d, d < 16 → ∀ q, q < 12 → T (d * 12 + q) = if q < w * g then ent w g q d else -1) {k i j : Nat} (hk2 : 2 ≤ k) (hk : k < 4) (hi : i < 5) (hj : j < 5) (set : Int32) : (if neI i j = 0 then f_X8_reachOf_b219 N k7 k17 (nI k) (nI q) tk set (rI i) (rI j) h else if nI k = 2 then f_X8_reachOf_b187 N k7 k17 (nI k) (nI q) tk set (rI i) (rI j) (aI i) (aI j) 1 h else f_X8_reachOf_b187 N k7 k17 (nI k) (nI q) tk set (rI i) (rI j) (aI i) (aI j) 0 h) = k17 (nI k) (nI q) tk (set ||| con T k q (h.1 25 2) tk i j) (rI i) (rI (j + 1)) h := by
  have h12 := hb.2.2.2.2
  have nochange : ¬ (fdn k ≤ dix i j ∧ dix i j < bdn k) → f_X8_reachOf_b219 N k7 k17 (nI k) (nI q) tk set (rI i) (rI j) h = k17 (nI k) (nI q) tk (set ||| con T k q (h.1 25 2) tk i j) (rI i) (rI (j + 1)) h := by
    intro hc
    unfold f_X8_reachOf_b219 con
    rw [p_lt, t_r1 j hj, if_neg hc, or_0]
  have slides : fdn k ≤ dix i j → dix i j < bdn k → 8 ≤ dix i j → cl (f_X8_slide N (nI q) (rI i) (rI j) tk h) (fun r1 h2 => lt (set ||| r1) (fun x3 => f_X8_reachOf_b219 N k7 k17 (nI k) (nI q) tk x3 (rI i) (rI j) h2)) = k17 (nI k) (nI q) tk (set ||| con T k q (h.1 25 2) tk i j) (rI i) (rI (j + 1)) h := by
    intro c1 c2 c3
    have hd : dix i j < 16 := by
      have : bdn k ≤ 16 := by unfold bdn; split; omega; split <;> omega
      omega
    obtain ⟨t1, t2⟩ := t_dir i hi j hj hd
    rw [← t1, ← t2, pm_slide N hN hb hd c3 hq tk h e0 e1 T (hT _ hd), p_cl, p_lt]
    unfold f_X8_reachOf_b219 con
    rw [p_lt, t1, t2, t_r1 j hj, if_pos ⟨c1, c2⟩]
    unfold ryd
    rw [show msn k = 3 by unfold msn; rw [if_neg (by omega)]]
  have hkk : k = 2 ∨ k = 3 := by omega
  rcases t_near i hi j hj with ⟨n1, n2⟩ | ⟨n1, n2, n3⟩
  · rw [if_pos n1]
    refine nochange ?_
    rcases hkk with rfl | rfl
    · intro hc
      have a1 : 8 ≤ dix i j := hc.1
      have a2 : dix i j < 12 := hc.2
      omega
    · intro hc
      have a1 : 12 ≤ dix i j := hc.1
      have a2 : dix i j < 16 := hc.2
      omega
  · rw [if_neg (by rw [n1]; decide)]
    have t1 := t_one i hi j hj n1
    rcases hkk with rfl | rfl
    · rw [if_pos (by decide)]
      unfold f_X8_reachOf_b187 f_X8_reachOf_b201
      by_cases c : aI i + aI j = 1
      · rw [if_pos c, if_pos rfl]
        exact slides n2 (t1.mp c) n2
      · rw [if_neg c, if_neg (by decide)]
        exact nochange (fun hc => c (t1.mpr hc.2))
    · rw [if_neg (by decide)]
      unfold f_X8_reachOf_b187 f_X8_reachOf_b201
      by_cases c : aI i + aI j = 1
      · rw [if_pos c, if_neg (by decide)]
        refine nochange (fun hc => ?_)
        have a1 := t1.mp c
        have a2 : 12 ≤ dix i j := hc.1
        omega
      · rw [if_neg c, if_pos rfl]
        have a1 : 12 ≤ dix i j := Nat.le_of_not_lt (fun z => c (t1.mpr z))
        exact slides a1 n3 n2
theorem pm_step {w g : Nat} (hb : bd w g) (hN : 10 ≤ N) {q : Nat} (hq : q < w * g) (tk : Int32) (h : Hp) (e0 : h.1 25 0 = nI w) (e1 : h.1 25 1 = nI g) (T : Nat → Int32) (hT : ∀ d, d < 16 → ∀ q, q < 12 → T (d * 12 + q) = if q < w * g then ent w g q d else -1) {k i j : Nat} (hk : k < 4) (hi : i < 5) (hj : j < 5) (set : Int32) : f_X8_reachOf_b17 N k7 k17 (nI k) (nI q) tk set (rI i) (rI j) h = k17 (nI k) (nI q) tk (set ||| con T k q (h.1 25 2) tk i j) (rI i) (rI (j + 1)) h := by
  have hw0 : ¬ nI w = 0 := nI_ne0 (by have := hb.1; omega) (by have := hb.2.1; omega)
  rw [pm_b17 N k7 k17 hj]
  unfold f_X8_reachOf_b78
  rw [p_lt, e0, if_pos hw0, p_lt, if_pos hw0, p_lt]
  by_cases hk2 : 2 ≤ k
  · rw [if_pos (show (2 : Int32) ≤ nI k from nI_le (a := 2) hk2 (by omega))]
    exact pm_glide N k7 k17 hb hN hq tk h e0 e1 T hT hk2 hk hi hj set
  · rw [if_neg (show ¬ (2 : Int32) ≤ nI k from nI_ge (a := k) (b := 2) (by omega) (by omega))]
    have hkk : k = 0 ∨ k = 1 := by omega
    rcases hkk with rfl | rfl
    · rw [if_pos (by decide)]
      have t0 := t_mul i hi j hj
      by_cases c : aI i * aI j = 2
      · rw [if_pos c]
        exact pm_leap N k7 k17 hb hq tk h e0 e1 T hT (by omega) hi hj set 1 (Or.inr ⟨rfl, Nat.zero_le _, t0.mp c⟩)
      · rw [if_neg c]
        exact pm_leap N k7 k17 hb hq tk h e0 e1 T hT (by omega) hi hj set 0 (Or.inl ⟨rfl, fun hc => c (t0.mpr hc.2)⟩)
    · rw [if_neg (by decide)]
      refine pm_leap N k7 k17 hb hq tk h e0 e1 T hT (by omega) hi hj set _ ?_
      rcases t_near i hi j hj with ⟨n1, n2⟩ | ⟨n1, n2, n3⟩
      · exact Or.inl ⟨n1, n2⟩
      · exact Or.inr ⟨n1, n2, n3⟩
end REACH
theorem pm_row (N : Nat) (k7 : Int32 → Int32 → Int32 → Int32 → Int32 → Hp → Option Rs) {w g : Nat} (hb : bd w g) (hN : 10 ≤ N) {q : Nat} (hq : q < w * g) (tk : Int32) (h : Hp) (e0 : h.1 25 0 = nI w) (e1 : h.1 25 1 = nI g) (T : Nat → Int32) (hT : ∀ d, d < 16 → ∀ q, q < 12 → T (d * 12 + q) = if q < w * g then ent w g q d else -1) {k i : Nat} (hk : k < 4) (hi : i < 5) : ∀ (m j : Nat) (set : Int32), j ≤ 5 → 5 - j < m → f_X8_reachOf_l17 N k7 m (nI k) (nI q) tk set (rI i) (rI j) h = k7 (nI k) (nI q) tk (set ||| gat (con T k q (h.1 25 2) tk i) (5 - j) j) (rI (i + 1)) h := by
  intro m
  induction m with
  | zero => intro j _ _ h2; omega
  | succ m ih =>
    intro j set hj hm
    show f_X8_reachOf_b17 N k7 (f_X8_reachOf_l17 N k7 m) (nI k) (nI q) tk set (rI i) (rI j) h = _
    by_cases hc : j = 5
    · subst hc
      unfold f_X8_reachOf_b17
      rw [if_pos t_r5, p_lt, t_r1 i hi]
      show _ = k7 _ _ _ (set ||| 0) _ _
      rw [or_0]
    · rw [pm_step N k7 _ hb hN hq tk h e0 e1 T hT hk hi (by omega) set, ih (j + 1) _ (by omega) (by omega)]
      obtain ⟨r, hr⟩ : ∃ r, 5 - j = r + 1 := ⟨4 - j, by omega⟩
      rw [hr, show 5 - (j + 1) = r by omega, or_a]
      rfl
theorem pm_rows (N : Nat) {w g : Nat} (hb : bd w g) (hN : 10 ≤ N) {q : Nat} (hq : q < w * g) (tk : Int32) (h : Hp) (e0 : h.1 25 0 = nI w) (e1 : h.1 25 1 = nI g) (T : Nat → Int32) (hT : ∀ d, d < 16 → ∀ q, q < 12 → T (d * 12 + q) = if q < w * g then ent w g q d else -1) {k : Nat} (hk : k < 4) : ∀ (m i : Nat) (set : Int32), i ≤ 5 → 5 - i < m → f_X8_reachOf_l7 N m (nI k) (nI q) tk set (rI i) h = some (set ||| gat (fun i => gat (con T k q (h.1 25 2) tk i) 5 0) (5 - i) i, h) := by
  intro m
  induction m with
  | zero => intro j _ _ h2; omega
  | succ m ih =>
    intro i set hi hm
    show f_X8_reachOf_b7 N (f_X8_reachOf_l7 N m) (nI k) (nI q) tk set (rI i) h = _
    unfold f_X8_reachOf_b7
    by_cases hc : i = 5
    · subst hc
      rw [if_pos t_r5]
      show _ = some (set ||| 0, h)
      rw [or_0]
    · rw [if_neg (t_r3 i (by omega)), p_lt, show (-2 : Int32) = rI 0 by decide, pm_row N _ hb hN hq tk h e0 e1 T hT hk (by omega) N 0 set (by omega) (by omega), ih (i + 1) _ (by omega) (by omega)]
      obtain ⟨r, hr⟩ : ∃ r, 5 - i = r + 1 := ⟨4 - i, by omega⟩
      rw [hr, show 5 - (i + 1) = r by omega, or_a]
      rfl
theorem con_all (T : Nat → Int32) (q : Nat) (ho tk : Int32) {k : Nat} (hk : k < 4) : gat (fun i => gat (con T k q ho tk i) 5 0) 5 0 = rch T k q ho tk := by
  have hkk : k = 0 ∨ k = 1 ∨ k = 2 ∨ k = 3 := by omega
  rcases hkk with rfl | rfl | rfl | rfl
  all_goals
    unfold rch
    apply b_ext
    intro b _
    simp [gat, con, dix, fdn, bdn, b_or, b_0]
    try ac_rfl
theorem pm_reachOf (N : Nat) {w g : Nat} (hb : bd w g) (hN : 10 ≤ N) {q : Nat} (hq : q < w * g) (tk : Int32) (h : Hp) (e0 : h.1 25 0 = nI w) (e1 : h.1 25 1 = nI g) {k : Nat} (hk : k < 4) (f : Nat → Int32) : f_X8_reachOf N (nI k) (nI q) tk h = some (rch (stt w g f) k q (h.1 25 2) tk, h) := by
  unfold f_X8_reachOf
  rw [p_lt, p_lt, show (-2 : Int32) = rI 0 by decide, pm_rows N hb hN hq tk h e0 e1 (stt w g f) (fun d hd q hq => stt_at f hd hq) hk N 0 0 (by omega) (by omega), z_or, con_all _ _ _ _ hk]
