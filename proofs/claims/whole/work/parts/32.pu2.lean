/-! ===== the model's reach is the same ===== -/
/-- the boards that there are -/
def bd (w g : Nat) : Prop := 2 ≤ w ∧ w ≤ 4 ∧ 2 ≤ g ∧ g ≤ 4 ∧ w * g ≤ 12
def bdL : List (Nat × Nat) := [(2, 2), (2, 3), (2, 4), (3, 2), (3, 3), (3, 4), (4, 2), (4, 3)]
theorem bd_in {w g : Nat} (h : bd w g) : (w, g) ∈ bdL := by
  obtain ⟨h1, h2, h3, h4, h5⟩ := h
  have hw : w = 2 ∨ w = 3 ∨ w = 4 := by omega
  have hg : g = 2 ∨ g = 3 ∨ g = 4 := by omega
  rcases hw with rfl | rfl | rfl <;> rcases hg with rfl | rfl | rfl <;> first | decide | (exfalso; omega)
/-- a square's column and row, as both programs reckon them -/
def cx (w q : Nat) : Int32 := nI q - nI q / nI w * nI w
def cy (w q : Nat) : Int32 := nI q / nI w
/-- a step's end: outside, or a square whose column and row are the step's -/
def entB (w g q d : Nat) : Bool := (decide (ent w g q d = -1) && (decide (cx w q + tb 2 d < 0) || (decide (nI w - 1 < cx w q + tb 2 d) || (decide (cy w q + tb 3 d < 0) || decide (nI g - 1 < cy w q + tb 3 d))))) || (decide ((ent w g q d).toNatClampNeg < w * g) && (decide (ent w g q d = nI (ent w g q d).toNatClampNeg) && (decide (cx w (ent w g q d).toNatClampNeg = cx w q + tb 2 d) && (decide (cy w (ent w g q d).toNatClampNeg = cy w q + tb 3 d) && (decide ((cy w q + tb 3 d) * nI w + (cx w q + tb 2 d) = ent w g q d) && (!decide (cx w q + tb 2 d < 0) && (!decide (nI w - 1 < cx w q + tb 2 d) && (!decide (cy w q + tb 3 d < 0) && !decide (nI g - 1 < cy w q + tb 3 d)))))))))
theorem ent_finB : ∀ b ∈ bdL, ∀ q, q < 12 → ∀ d, d < 16 → q < b.1 * b.2 → entB b.1 b.2 q d = true := by decide +kernel
theorem ent_fin (w g : Nat) (hb : (w, g) ∈ bdL) (q : Nat) (hq : q < 12) (d : Nat) (hd : d < 16) (hqs : q < w * g) : (ent w g q d = -1 ∧ (cx w q + tb 2 d < 0 ∨ nI w - 1 < cx w q + tb 2 d ∨ cy w q + tb 3 d < 0 ∨ nI g - 1 < cy w q + tb 3 d)) ∨ ((ent w g q d).toNatClampNeg < w * g ∧ ent w g q d = nI (ent w g q d).toNatClampNeg ∧ cx w (ent w g q d).toNatClampNeg = cx w q + tb 2 d ∧ cy w (ent w g q d).toNatClampNeg = cy w q + tb 3 d ∧ (cy w q + tb 3 d) * nI w + (cx w q + tb 2 d) = ent w g q d ∧ ¬ cx w q + tb 2 d < 0 ∧ ¬ nI w - 1 < cx w q + tb 2 d ∧ ¬ cy w q + tb 3 d < 0 ∧ ¬ nI g - 1 < cy w q + tb 3 d) := by
  have h := ent_finB (w, g) hb q hq d hd hqs
  simp only [entB, Bool.or_eq_true, Bool.and_eq_true, decide_eq_true_eq, Bool.not_eq_true', decide_eq_false_iff_not] at h
  exact h
theorem ent_case {w g q d : Nat} (hb : bd w g) (hq : q < w * g) (hd : d < 16) : (ent w g q d = -1 ∧ (cx w q + tb 2 d < 0 ∨ nI w - 1 < cx w q + tb 2 d ∨ cy w q + tb 3 d < 0 ∨ nI g - 1 < cy w q + tb 3 d)) ∨ ∃ j, j < w * g ∧ ent w g q d = nI j ∧ cx w j = cx w q + tb 2 d ∧ cy w j = cy w q + tb 3 d ∧ (cy w q + tb 3 d) * nI w + (cx w q + tb 2 d) = nI j ∧ ¬ cx w q + tb 2 d < 0 ∧ ¬ nI w - 1 < cx w q + tb 2 d ∧ ¬ cy w q + tb 3 d < 0 ∧ ¬ nI g - 1 < cy w q + tb 3 d := by
  have h5 := hb.2.2.2.2
  rcases ent_fin w g (bd_in hb) q (by omega) d hd hq with h | ⟨h1, h2, h3, h4, h6, h7⟩
  · exact Or.inl h
  · exact Or.inr ⟨_, h1, h2, h3, h4, h6.trans h2, h7⟩
theorem stt_at {w g d q : Nat} (f : Nat → Int32) (hd : d < 16) (hq : q < 12) : stt w g f (d * 12 + q) = if q < w * g then ent w g q d else -1 := by
  unfold stt gtab
  rw [if_pos (by omega), show (d * 12 + q) % 12 = q by omega, show (d * 12 + q) / 12 = d by omega]
  by_cases h : q < w * g
  · rw [if_pos (Or.inl h), if_pos h]
  · rw [if_neg (by omega), if_neg h]
theorem stt_ok {w g : Nat} (hb : bd w g) (f : Nat → Int32) : Tok (stt w g f) := by
  intro d hd q hq
  rw [stt_at f hd hq]
  by_cases h : q < w * g
  · rw [if_pos h]
    rcases ent_case hb h hd with h1 | ⟨j, h1, h2, -⟩
    · rw [h1.1]; exact Or.inl p_m1
    · exact Or.inr ⟨j, by have := hb.2.2.2.2; omega, h2⟩
  · rw [if_neg h]; exact Or.inl p_m1
/-- the way in direction d leaves the board behind at most r steps more -/
def den (w g d : Nat) : Nat → Nat → Bool
  | 0, q => ent w g q d == -1
  | r + 1, q => ent w g q d == -1 || den w g d r (ent w g q d).toNatClampNeg
theorem den_fin : ∀ b ∈ bdL, ∀ d, d < 16 → 8 ≤ d → ∀ q, q < 12 → q < b.1 * b.2 → ent b.1 b.2 q d = -1 ∨ den b.1 b.2 d 2 (ent b.1 b.2 q d).toNatClampNeg = true := by decide +kernel
theorem cxy : ∀ b ∈ bdL, ∀ q, q < 12 → cy b.1 q * nI b.1 + cx b.1 q = nI q := by decide +kernel
/-- isOn, has, in -/
theorem pm_has (N : Nat) (x k : Int32) (h : Hp) : f_X8_has N x k h = some (if bi x k = 1 then 1 else 0, h) := by
  unfold f_X8_has f_X8_has_b14
  show (if bi x k = 1 then _ else _) = _
  by_cases hc : bi x k = 1
  · rw [if_pos hc, if_pos hc, if_pos (by decide)]
  · rw [if_neg hc, if_neg hc, if_pos (by decide)]
theorem pm_in (N : Nat) (a b c : Int32) (h : Hp) : f_X8_in N a b c h = some (if a < b then 0 else if c < a then 0 else 1, h) := by
  unfold f_X8_in f_X8_in_b14 f_X8_in_b15
  by_cases h1 : a < b
  · rw [if_pos h1, if_pos h1, if_pos (by decide)]
  · rw [if_neg h1, if_neg h1]
    by_cases h2 : c < a
    · rw [if_pos h2, if_pos h2, if_pos (by decide)]
    · rw [if_neg h2, if_neg h2, if_pos (by decide)]
def onI (W g ho x y : Int32) : Int32 := if x < 0 then 0 else if W - 1 < x then 0 else if y < 0 then 0 else if g - 1 < y then 0 else if bi ho (y * W + x) = 1 then 0 else 1
theorem pm_isOn (N : Nat) (x y : Int32) (h : Hp) : f_X8_isOn N x y h = some (onI (h.1 25 0) (h.1 25 1) (h.1 25 2) x y, h) := by
  unfold f_X8_isOn f_X8_isOn_b50 f_X8_isOn_b51 onI
  rw [pm_in, p_cl]
  by_cases h1 : x < 0
  · rw [if_pos h1, if_pos h1, if_pos rfl, if_pos (by decide)]
  · rw [if_neg h1, if_neg h1]
    by_cases h2 : h.1 25 0 - 1 < x
    · rw [if_pos h2, if_pos h2, if_pos rfl, if_pos (by decide)]
    · rw [if_neg h2, if_neg h2, if_neg (by decide), pm_in, p_cl]
      by_cases h3 : y < 0
      · rw [if_pos h3, if_pos h3, if_pos rfl, if_pos (by decide)]
      · rw [if_neg h3, if_neg h3]
        by_cases h4 : h.1 25 1 - 1 < y
        · rw [if_pos h4, if_pos h4, if_pos rfl, if_pos (by decide)]
        · rw [if_neg h4, if_neg h4, if_neg (by decide), pm_has, p_cl]
          by_cases h5 : bi (h.1 25 2) (y * h.1 25 0 + x) = 1
          · rw [if_pos h5, if_pos h5, if_neg (by decide), if_pos (by decide)]
          · rw [if_neg h5, if_neg h5, if_pos rfl, if_pos (by decide)]
/-- one step from a square: on the board and no hole there, or not -/
theorem onI_ent {w g q d : Nat} (hb : bd w g) (hq : q < w * g) (hd : d < 16) (ho : Int32) : onI (nI w) (nI g) ho (cx w q + tb 2 d) (cy w q + tb 3 d) = if ent w g q d < 0 then 0 else if bi ho (ent w g q d) = 0 then 1 else 0 := by
  unfold onI
  rcases ent_case hb hq hd with ⟨h1, h2⟩ | ⟨j, h1, h2, h3, h4, h5, c1, c2, c3, c4⟩
  · rw [h1, if_pos p_m1]
    rcases h2 with c | c | c | c
    · rw [if_pos c]
    · rw [if_pos c]; simp
    · rw [if_pos c]; simp
    · rw [if_pos c]; simp
  · have hj : j < 32 := by have := hb.2.2.2.2; omega
    rw [if_neg c1, if_neg c2, if_neg c3, if_neg c4, h5, h2, if_neg (nI_pos (by omega))]
    rcases bi_01 ho (nI j) ⟨j, hj, rfl⟩ with e | e <;> simp [e]
/-- slide: the ray -/
theorem ray_m1 (S : Int32 → Int32) (ho me : Int32) (n : Nat) : ray S ho me n (-1) = 0 := by
  cases n with
  | zero => rfl
  | succ n => show (if (-1 : Int32) < 0 then _ else _) = _; rw [if_pos p_m1]
theorem pm_slide_l (N : Nat) {w g d : Nat} (hb : bd w g) (hd : d < 16) (tk : Int32) (h : Hp) (e0 : h.1 25 0 = nI w) (e1 : h.1 25 1 = nI g) (T : Nat → Int32) (hT : ∀ q, q < 12 → T (d * 12 + q) = if q < w * g then ent w g q d else -1) : ∀ (r m q : Nat) (set : Int32), r + 1 < m → q < w * g → bi (h.1 25 2) (nI q) = 0 → den w g d r q = true → f_X8_slide_l33 N m (tb 2 d) (tb 3 d) tk set (cx w q) (cy w q) 1 h = some (set ||| ray (Sd T d) (h.1 25 2) tk (r + 1) (nI q), h) := by
  intro r
  have h12 := hb.2.2.2.2
  induction r with
  | zero =>
    intro m q set hm hq hho hden
    obtain ⟨m, rfl⟩ : ∃ n, m = n + 2 := ⟨m - 2, by omega⟩
    show f_X8_slide_b33 N (f_X8_slide_l33 N (m + 1)) (tb 2 d) (tb 3 d) tk set (cx w q) (cy w q) 1 h = _
    have hent : ent w g q d = -1 := by simpa [den] using hden
    have stop : ∀ (s x y : Int32), f_X8_slide_l33 N (m + 1) (tb 2 d) (tb 3 d) tk s x y 0 h = some (s, h) := fun s x y => by
      show f_X8_slide_b33 N _ _ _ _ _ _ _ 0 h = _
      unfold f_X8_slide_b33
      rw [if_pos rfl]
    unfold f_X8_slide_b33
    rw [if_neg (by decide), p_lt, e0, cxy (w, g) (bd_in hb) q (by omega), pm_has, p_cl]
    unfold f_X8_slide_b78 f_X8_slide_b112 f_X8_slide_b113
    show _ = some (set ||| (if nI q < 0 then 0 else if bi (h.1 25 2) (nI q) = 0 then sg (nI q) ||| ray (Sd T d) (h.1 25 2) tk 0 (if bi tk (nI q) = 1 then -1 else Sd T d (nI q)) else 0), h)
    rw [if_neg (nI_pos (n := q) (by omega)), if_pos hho, show ∀ a, ray (Sd T d) (h.1 25 2) tk 0 a = 0 from fun _ => rfl, or_0]
    by_cases ht : bi tk (nI q) = 1
    · rw [if_pos ht, if_neg (by decide)]
      simp only [p_lt]
      rw [if_pos trivial, stop]
      rfl
    · rw [if_neg ht, if_pos rfl]
      simp only [p_lt]
      rw [if_neg (by decide), pm_isOn, p_cl, e0, e1, onI_ent hb hq hd, hent, if_pos p_m1, if_pos rfl, stop]
      rfl
  | succ r ih =>
    intro m q set hm hq hho hden
    obtain ⟨m, rfl⟩ : ∃ n, m = n + 2 := ⟨m - 2, by omega⟩
    show f_X8_slide_b33 N (f_X8_slide_l33 N (m + 1)) (tb 2 d) (tb 3 d) tk set (cx w q) (cy w q) 1 h = _
    have stop : ∀ (s x y : Int32), f_X8_slide_l33 N (m + 1) (tb 2 d) (tb 3 d) tk s x y 0 h = some (s, h) := fun s x y => by
      show f_X8_slide_b33 N _ _ _ _ _ _ _ 0 h = _
      unfold f_X8_slide_b33
      rw [if_pos rfl]
    unfold f_X8_slide_b33
    rw [if_neg (by decide), p_lt, e0, cxy (w, g) (bd_in hb) q (by omega), pm_has, p_cl]
    unfold f_X8_slide_b78 f_X8_slide_b112 f_X8_slide_b113
    show _ = some (set ||| (if nI q < 0 then 0 else if bi (h.1 25 2) (nI q) = 0 then sg (nI q) ||| ray (Sd T d) (h.1 25 2) tk (r + 1) (if bi tk (nI q) = 1 then -1 else Sd T d (nI q)) else 0), h)
    rw [if_neg (nI_pos (n := q) (by omega)), if_pos hho]
    by_cases ht : bi tk (nI q) = 1
    · rw [if_pos ht, if_neg (by decide), if_pos ht, ray_m1, or_0]
      simp only [p_lt]
      rw [if_pos trivial, stop]
      rfl
    · rw [if_neg ht, if_pos rfl, if_neg ht, Sd_at T hd (by omega), hT q (by omega), if_pos hq]
      simp only [p_lt]
      rw [if_neg (by decide), pm_isOn, p_cl, e0, e1, onI_ent hb hq hd]
      rcases ent_case hb hq hd with ⟨h1, -⟩ | ⟨j, h1, h2, h3, h4, -⟩
      · rw [h1, if_pos p_m1, if_pos rfl, stop, ray_m1, or_0]
        rfl
      · rw [h2, if_neg (nI_pos (n := j) (by omega))]
        by_cases h5 : bi (h.1 25 2) (nI j) = 0
        · rw [if_pos h5, if_neg (by decide), ← h3, ← h4]
          have hden2 : den w g d r j = true := by
            have q1 : (ent w g q d == -1) = false := by
              rw [h2]
              simpa using p_nI_ne_m1 (n := j) (by omega)
            have q2 : den w g d r (ent w g q d).toNatClampNeg = true := by
              have q3 : (ent w g q d == -1 || den w g d r (ent w g q d).toNatClampNeg) = true := hden
              rw [q1] at q3
              simpa using q3
            rw [h2, nI_clamp (by omega)] at q2
            exact q2
          rw [ih (m + 1) j _ (by omega) h1 h5 hden2]
          show some ((set ||| sg (nI q)) ||| _, h) = _
          rw [or_a]
        · rw [if_neg h5, if_pos rfl, stop]
          show some (set ||| sg (nI q), h) = some (set ||| (sg (nI q) ||| (if nI j < 0 then 0 else if bi (h.1 25 2) (nI j) = 0 then _ else 0)), h)
          rw [if_neg (nI_pos (n := j) (by omega)), if_neg h5, or_0]
theorem pm_slide (N : Nat) (hN : 10 ≤ N) {w g d q : Nat} (hb : bd w g) (hd : d < 16) (hd8 : 8 ≤ d) (hq : q < w * g) (tk : Int32) (h : Hp) (e0 : h.1 25 0 = nI w) (e1 : h.1 25 1 = nI g) (T : Nat → Int32) (hT : ∀ q, q < 12 → T (d * 12 + q) = if q < w * g then ent w g q d else -1) : f_X8_slide N (nI q) (tb 2 d) (tb 3 d) tk h = some (ray (Sd T d) (h.1 25 2) tk 3 (T (d * 12 + q)), h) := by
  have h12 := hb.2.2.2.2
  have hw := hb.1
  unfold f_X8_slide
  have hw0 : ¬ nI w = 0 := nI_ne0 (by omega) (by have := hb.2.1; omega)
  rw [p_lt, e0, if_pos hw0, p_lt, if_pos hw0, p_lt]
  show cl (f_X8_isOn N (cx w q + tb 2 d) (cy w q + tb 3 d) h) _ = _
  rw [pm_isOn, p_cl, p_lt, e0, e1, onI_ent hb hq hd, hT q (by omega), if_pos hq]
  obtain ⟨n, rfl⟩ : ∃ n, N = n + 1 := ⟨N - 1, by omega⟩
  rcases ent_case hb hq hd with ⟨h1, -⟩ | ⟨j, h1, h2, h3, h4, -⟩
  · rw [h1, if_pos p_m1, ray_m1]
    show f_X8_slide_b33 (n + 1) _ _ _ _ _ _ _ 0 h = _
    unfold f_X8_slide_b33
    rw [if_pos rfl]
  · rw [h2, if_neg (nI_pos (n := j) (by omega))]
    by_cases h5 : bi (h.1 25 2) (nI j) = 0
    · rw [if_pos h5]
      have hden : den w g d 2 j = true := by
        rcases den_fin (w, g) (bd_in hb) d hd hd8 q (by omega) hq with c | c
        · rw [h2] at c; exact absurd c (p_nI_ne_m1 (by omega))
        · rw [h2, nI_clamp (by omega)] at c; exact c
      show f_X8_slide_l33 (n + 1) (n + 1) (tb 2 d) (tb 3 d) tk 0 (cx w q + tb 2 d) (cy w q + tb 3 d) 1 h = _
      rw [← h3, ← h4, pm_slide_l (n + 1) hb hd tk h e0 e1 T hT 2 (n + 1) j 0 (by omega) h1 h5 hden, z_or]
    · rw [if_neg h5]
      show f_X8_slide_b33 (n + 1) _ _ _ _ _ _ _ 0 h = some (if nI j < 0 then 0 else if bi (h.1 25 2) (nI j) = 0 then _ else 0, h)
      unfold f_X8_slide_b33
      rw [if_pos rfl, if_neg (nI_pos (n := j) (by omega)), if_neg h5]
