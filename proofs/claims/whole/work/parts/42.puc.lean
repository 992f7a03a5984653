/-! ===== nets: the programs' loops ===== -/
theorem bi_e1 {x : Int32} {k : Nat} (hk : k < 32) (h : bt x k = true) : bi x (nI k) = 1 := (bi_1 hk).mpr h
theorem bi_e0 {x : Int32} {k : Nat} (hk : k < 32) (h : ¬ bt x k = true) : bi x (nI k) = 0 := (bi_0 hk).mpr (by simpa using h)
theorem n01 : ¬ (0 : Int32) = 1 := by decide
theorem n10 : ¬ (1 : Int32) = 0 := by decide
/-- the class's net is knotted in the heap -/
def KN (h : Hp) (J : Nat → Int32) (ho : Int32) : Prop := (∀ q, q < 12 → h.1 14 q = J q) ∧ h.1 13 2 = ho
theorem pu_knot_l (N : Nat) (hN : 20 ≤ N) {k : Nat} (hk : k < 4) (h : Hp) (hT : Tok (h.1 11)) (ho : Int32) : ∀ (e q : Nat) (h' : Hp), h'.1 11 = h.1 11 → h'.1 13 2 = ho → q ≤ 12 → 12 - q < e → f_X2_knot_l7 N e (nI k) (nI q) h' = some (0, wrow h' 14 (fun j => if q ≤ j ∧ j < 12 then nj (h.1 11) k ho j else h'.1 14 j)) := by
  intro e
  induction e with
  | zero => intro q _ _ _ _ h2; omega
  | succ e ih =>
    intro q h' e11 e13 hq he
    show f_X2_knot_b7 N (f_X2_knot_l7 N e) (nI k) (nI q) h' = _
    unfold f_X2_knot_b7 f_X2_knot_b48
    by_cases hc : q = 12
    · subst hc
      rw [if_pos (by decide), show (fun j => if 12 ≤ j ∧ j < 12 then nj (h.1 11) k ho j else h'.1 14 j) = h'.1 14 from funext fun j => if_neg (by omega), wrow_id]
    · have step : ∀ v, v = nj (h.1 11) k ho q → (if ib (nI q) 12 = true then lt (wr h' 14 (ix (nI q)) v) (fun h1 => lt (nI q + 1) (fun x2 => f_X2_knot_l7 N e (nI k) x2 h1)) else none) = some (0, wrow h' 14 (fun j => if q ≤ j ∧ j < 12 then nj (h.1 11) k ho j else h'.1 14 j)) := by
        intro v hv
        rw [if_pos (p_ib (by omega) (by omega)), p_lt, p_lt, p_ix (by omega), nI_1, ih (q + 1) (wr h' 14 q v) (by rw [p_wro _ _ _ _ (by decide)]; exact e11) (by rw [p_wro _ _ _ _ (by decide)]; exact e13) (by omega) (by omega), wrow_wr]
        congr 3
        funext j
        by_cases hj : j = q
        · subst hj
          rw [if_neg (by omega), p_wrs, if_pos (by omega), hv]
        · rw [p_wrk _ _ _ _ hj]
          by_cases h2 : q ≤ j ∧ j < 12
          · rw [if_pos h2, if_pos (by omega)]
          · rw [if_neg h2, if_neg (by omega)]
      rw [if_neg (show ¬ (12 : Int32) ≤ nI q from nI_ge (a := q) (b := 12) (by omega) (by omega)), p_bit, p_cl, e13]
      by_cases c : bt ho q = true
      · rw [bi_e1 (by omega) c, if_pos rfl]
        exact step 0 (by unfold nj; rw [if_pos c])
      · rw [bi_e0 (by omega) c, if_neg n01, pu_reached N hN k q hk (by omega) ho 0 h' (by rw [e11]; exact hT), p_cl, e11]
        exact step _ (by unfold nj; rw [if_neg c])
theorem pu_knot (N : Nat) (hN : 20 ≤ N) {k : Nat} (hk : k < 4) (h : Hp) (hT : Tok (h.1 11)) (ho : Int32) : ∃ h2, f_X2_knot N (nI k) ho h = some (0, h2) ∧ KN h2 (njc (h.1 11) k ho) ho ∧ ∀ c, c ≠ 13 → c ≠ 14 → h2.1 c = h.1 c := by
  refine ⟨wrow (wr h 13 2 ho) 14 (fun j => if 0 ≤ j ∧ j < 12 then nj (h.1 11) k ho j else (wr h 13 2 ho).1 14 j), ?_, ?_, ?_⟩
  · unfold f_X2_knot
    rw [p_lt, p_lt]
    exact pu_knot_l N hN hk h hT ho N 0 (wr h 13 2 ho) (by rw [p_wro _ _ _ _ (by decide)]) (by rw [p_wrs]) (by omega) (by omega)
  · refine ⟨fun q hq => ?_, ?_⟩
    · rw [p_wrows, if_pos (by omega), njc_lt hq]
    · rw [p_wrowo _ _ _ (by decide), p_wrs]
  · intro c h1 h2
    rw [p_wrowo _ _ _ h2, p_wro _ _ _ _ h1]
theorem pu_part_in (N : Nat) (k20 : Int32 → Int32 → Hp → Option Rs) {J : Nat → Int32} {ho : Int32} (h : Hp) (hK : KN h J ho) (x v3 : Int32) : ∀ (e a : Nat), a ≤ 12 → 12 - a < e → f_X2_partAt_l32 N k20 e x v3 (x ||| orf (fun a => if bt x a = true then J a else 0) a) (nI a) h = k20 (jac J x) (v3 + 1) h := by
  intro e
  induction e with
  | zero => intro a _ h2; omega
  | succ e ih =>
    intro a ha he
    show f_X2_partAt_b32 N k20 (f_X2_partAt_l32 N k20 e) x v3 _ (nI a) h = _
    unfold f_X2_partAt_b32 f_X2_partAt_b61
    by_cases hc : a = 12
    · subst hc
      rw [if_pos (by decide), p_lt, p_lt]
      rfl
    · have step := ih (a + 1) (by omega) (by omega)
      rw [if_neg (show ¬ (12 : Int32) ≤ nI a from nI_ge (a := a) (b := 12) (by omega) (by omega)), p_bit, p_cl]
      by_cases c : bt x a = true
      · rw [bi_e1 (by omega) c, if_pos rfl, if_pos (p_ib (by omega) (by omega)), p_lt, p_lt, p_ix (by omega), nI_1, hK.1 a (by omega), ← step, or_a]
        congr 2
        show _ = orf _ a ||| _
        dsimp only
        rw [if_pos c]
      · rw [bi_e0 (by omega) c, if_neg n01, p_lt, nI_1, ← step]
        congr 2
        show _ = orf _ a ||| _
        dsimp only
        rw [if_neg c, or_0]
theorem pu_part_l (N : Nat) (hN : 20 ≤ N) {J : Nat → Int32} {ho : Int32} (h : Hp) (hK : KN h J ho) : ∀ (e r : Nat) (x : Int32), 1 ≤ r → r ≤ 12 → 12 - r < e → f_X2_partAt_l20 N e x (nI r) h = some (itr (jac J) (12 - r) x, h) := by
  intro e
  induction e with
  | zero => intro r _ _ _ h2; omega
  | succ e ih =>
    intro r x h1 hr he
    show f_X2_partAt_b20 N (f_X2_partAt_l20 N e) x (nI r) h = _
    unfold f_X2_partAt_b20
    by_cases hc : r = 12
    · subst hc
      rw [if_pos (by decide)]
      rfl
    · have hin := pu_part_in N (f_X2_partAt_l20 N e) h hK x (nI r) N 0 (by omega) (by omega)
      rw [show orf (fun a => if bt x a = true then J a else 0) 0 = 0 from rfl, or_0] at hin
      rw [if_neg (show ¬ (12 : Int32) ≤ nI r from nI_ge (a := r) (b := 12) (by omega) (by omega)), p_lt, p_lt]
      refine hin.trans ?_
      rw [nI_1, ih (r + 1) _ (by omega) (by omega) (by omega)]
      obtain ⟨y, hy⟩ : ∃ y, 12 - r = y + 1 := ⟨11 - r, by omega⟩
      rw [hy, show 12 - (r + 1) = y by omega]
      rfl
theorem pu_partAt (N : Nat) (hN : 20 ≤ N) {J : Nat → Int32} {ho : Int32} (h : Hp) (hK : KN h J ho) {p : Nat} (hp : p < 12) : f_X2_partAt N (nI p) h = some (if bt ho p = true then 0 else prt J p, h) := by
  unfold f_X2_partAt
  rw [p_bit, p_cl, hK.2]
  by_cases c : bt ho p = true
  · rw [bi_e1 (by omega) c, if_pos rfl, if_pos c]
  · rw [bi_e0 (by omega) c, if_neg n01, if_neg c, p_lt, p_lt]
    exact pu_part_l N hN h hK N 1 _ (by omega) (by omega) (by omega)
/-! the model's -/
theorem pm_joined (N : Nat) (hN : 20 ≤ N) {w g k q : Nat} (h : Hp) (hM : MB h w g) (f : Nat → Int32) (hk : k < 4) (hq : q < w * g) : f_X8_joined N (nI k) (nI q) h = some (njc (stt w g f) k (h.1 25 2) q, h) := by
  have h12 := hM.1.2.2.2.2
  unfold f_X8_joined f_X8_joined_b22
  rw [pm_has, p_cl, njc_lt (by omega)]
  unfold nj
  by_cases c : bt (h.1 25 2) q = true
  · rw [bi_e1 (by omega) c, if_pos rfl, if_neg n10, if_pos c]
  · rw [bi_e0 (by omega) c, if_neg n01, if_pos rfl, if_neg c, pm_reachOf N hM.1 (by omega) hq 0 h hM.2.1 hM.2.2 hk f, p_cl]
theorem pm_part_in (N : Nat) (hN : 20 ≤ N) (k22 : Int32 → Int32 → Int32 → Hp → Option Rs) {w g k : Nat} (h : Hp) (hM : MB h w g) (f : Nat → Int32) (hk : k < 4) (x v4 : Int32) : ∀ (e q : Nat), q ≤ w * g → w * g - q < e → f_X8_partOf_l32 N k22 e (nI k) (gs (njc (stt w g f) k (h.1 25 2)) x q) v4 (nI q) h = k22 (nI k) (gs (njc (stt w g f) k (h.1 25 2)) x (w * g)) (v4 + 1) h := by
  obtain ⟨hb, e0, e1⟩ := id hM
  have h12 := hb.2.2.2.2
  intro e
  induction e with
  | zero => intro q _ h2; omega
  | succ e ih =>
    intro q hq he
    show f_X8_partOf_b32 N k22 (f_X8_partOf_l32 N k22 e) (nI k) _ v4 (nI q) h = _
    unfold f_X8_partOf_b32 f_X8_partOf_b67
    rw [e0, e1, pk_mul]
    by_cases hc : q = w * g
    · subst hc
      rw [if_pos (nI_le (Nat.le_refl _) (by omega)), p_lt]
    · have step := ih (q + 1) (by omega) (by omega)
      rw [if_neg (nI_ge (by omega) (by omega)), pm_has, p_cl]
      by_cases c : bt (gs (njc (stt w g f) k (h.1 25 2)) x q) q = true
      · rw [bi_e1 (by omega) c, if_pos rfl, if_neg n10, pm_joined N hN h hM f hk (by omega), p_cl, p_lt, p_lt, nI_1, ← step]
        congr 1
        show _ = gs _ x q ||| _
        rw [if_pos c]
      · rw [bi_e0 (by omega) c, if_neg n01, if_pos rfl, p_lt, p_lt, nI_1, ← step]
        congr 1
        show _ = gs _ x q ||| _
        rw [if_neg c]
theorem pm_part_l (N : Nat) (hN : 20 ≤ N) {w g k : Nat} (h : Hp) (hM : MB h w g) (f : Nat → Int32) (hk : k < 4) : ∀ (e r : Nat) (x : Int32), r ≤ 12 → 12 - r < e → f_X8_partOf_l22 N e (nI k) x (nI r) h = some (itr (fun x => gs (njc (stt w g f) k (h.1 25 2)) x (w * g)) (12 - r) x, h) := by
  have h12 := hM.1.2.2.2.2
  intro e
  induction e with
  | zero => intro r _ _ h2; omega
  | succ e ih =>
    intro r x hr he
    show f_X8_partOf_b22 N (f_X8_partOf_l22 N e) (nI k) x (nI r) h = _
    unfold f_X8_partOf_b22
    by_cases hc : r = 12
    · subst hc
      rw [if_pos (by decide)]
      rfl
    · rw [if_neg (show ¬ (12 : Int32) ≤ nI r from nI_ge (a := r) (b := 12) (by omega) (by omega)), p_lt]
      refine (pm_part_in N hN (f_X8_partOf_l22 N e) h hM f hk x (nI r) N 0 (by omega) (by omega)).trans ?_
      rw [nI_1, ih (r + 1) _ (by omega) (by omega)]
      obtain ⟨y, hy⟩ : ∃ y, 12 - r = y + 1 := ⟨11 - r, by omega⟩
      rw [hy, show 12 - (r + 1) = y by omega]
      rfl
theorem pm_partOf (N : Nat) (hN : 20 ≤ N) {w g k p : Nat} (h : Hp) (hM : MB h w g) (f : Nat → Int32) (hk : k < 4) (hp : p < w * g) : f_X8_partOf N (nI k) (nI p) h = some (if bt (h.1 25 2) p = true then 0 else prt (njc (stt w g f) k (h.1 25 2)) p, h) := by
  have h12 := hM.1.2.2.2.2
  have hs : ∀ a b, bt (njc (stt w g f) k (h.1 25 2) a) b = true → a < w * g := fun a b hh => (njc_in hM.1 hk f _ hh).1
  unfold f_X8_partOf f_X8_partOf_b18
  rw [pm_has, p_cl]
  by_cases c : bt (h.1 25 2) p = true
  · rw [bi_e1 (by omega) c, if_pos rfl, if_neg n10, if_pos c, p_lt, p_lt]
    have e := pm_part_l N hN h hM f hk N 0 0 (by omega) (by omega)
    rw [itr_0 (gs_0 _ _)] at e
    exact e
  · rw [bi_e0 (by omega) c, if_neg n01, if_pos rfl, if_neg c, p_lt, p_lt]
    have e := pm_part_l N hN h hM f hk N 0 (sg (nI p)) (by omega) (by omega)
    rw [gs_prt (NJ_nj hM.1 hk f (h.1 25 2)) hs (by omega)] at e
    exact e
/-! shapes -/
def dg (J : Nat → Int32) (a : Nat) : Nat := cnt (bt (J a)) 12
def swt (J : Nat → Int32) (x : Int32) (j n : Nat) : Nat := cnt (fun a => bt x a && decide (dg J a = j)) n
def sdg (J : Nat → Int32) (x : Int32) (n : Nat) : Nat := sumf (fun a => if bt x a = true then dg J a else 0) n
theorem swt_s (J : Nat → Int32) (x : Int32) (j n : Nat) : swt J x j (n + 1) = swt J x j n + (if bt x n = true then (if dg J n = j then 1 else 0) else 0) := by
  unfold swt
  rw [cnt_s]
  congr 1
  by_cases c : bt x n = true
  · rw [if_pos c]
    by_cases c2 : dg J n = j <;> simp [c, c2]
  · rw [if_neg c]
    simp [c]
theorem sdg_s (J : Nat → Int32) (x : Int32) (n : Nat) : sdg J x (n + 1) = sdg J x n + (if bt x n = true then dg J n else 0) := rfl
theorem dg_le (J : Nat → Int32) (a : Nat) : dg J a ≤ 12 := cnt_le _ _
theorem pu_with_l (N : Nat) {J : Nat → Int32} (hJ : NJ J) {ho : Int32} (h : Hp) (hK : KN h J ho) (x : Int32) {j : Nat} (hj : j < 100) : ∀ (e a : Nat), a ≤ 12 → 12 - a < e → f_X2_squaresWith_l5 N e (nI j) x (nI (swt J x j a)) (nI a) h = some (nI (swt J x j 12), h) := by
  intro e
  induction e with
  | zero => intro a _ h2; omega
  | succ e ih =>
    intro a ha he
    show f_X2_squaresWith_b5 N (f_X2_squaresWith_l5 N e) (nI j) x _ (nI a) h = _
    unfold f_X2_squaresWith_b5 f_X2_squaresWith_b39
    by_cases hc : a = 12
    · subst hc
      rw [if_pos (by decide)]
    · have step := ih (a + 1) (by omega) (by omega)
      rw [swt_s] at step
      have hd := dg_le J a
      rw [if_neg (show ¬ (12 : Int32) ≤ nI a from nI_ge (a := a) (b := 12) (by omega) (by omega)), p_bit, p_cl]
      by_cases c : bt x a = true
      · rw [if_pos c] at step
        rw [bi_e1 (by omega) c, if_pos rfl, if_pos (p_ib (by omega) (by omega)), p_ix (by omega), hK.1 a (by omega), pu_bitCount N (hJ.b12 a) h, p_cl]
        by_cases c2 : dg J a = j
        · rw [if_pos c2] at step
          rw [if_pos (show nI (cnt (bt (J a)) 12) = nI j from congrArg nI c2), p_lt, p_lt, nI_1, nI_1]
          exact step
        · rw [if_neg c2] at step
          rw [if_neg (show ¬ nI (cnt (bt (J a)) 12) = nI j from fun z => c2 ((nI_eq (show dg J a < 2 ^ 31 by omega) (by omega)).mp z)), p_lt, nI_1]
          exact step
      · rw [if_neg c] at step
        rw [bi_e0 (by omega) c, if_neg n01, p_lt, nI_1]
        exact step
theorem pu_with (N : Nat) (hN : 20 ≤ N) {J : Nat → Int32} (hJ : NJ J) {ho : Int32} (h : Hp) (hK : KN h J ho) (x : Int32) {j : Nat} (hj : j < 100) : f_X2_squaresWith N (nI j) x h = some (nI (swt J x j 12), h) := by
  unfold f_X2_squaresWith
  rw [p_lt, p_lt]
  exact pu_with_l N hJ h hK x hj N 0 (by omega) (by omega)
theorem sdg_le (J : Nat → Int32) (x : Int32) : ∀ n, sdg J x n ≤ 12 * n
  | 0 => Nat.le_refl _
  | n + 1 => by
    rw [sdg_s]
    have := sdg_le J x n
    have := dg_le J n
    split <;> omega
theorem pu_joins_l (N : Nat) {J : Nat → Int32} (hJ : NJ J) {ho : Int32} (h : Hp) (hK : KN h J ho) (x : Int32) : ∀ (e a : Nat), a ≤ 12 → 12 - a < e → f_X2_joinsOf_l4 N e x (nI (sdg J x a)) (nI a) h = some (nI (sdg J x 12 / 2), h) := by
  intro e
  induction e with
  | zero => intro a _ h2; omega
  | succ e ih =>
    intro a ha he
    show f_X2_joinsOf_b4 N (f_X2_joinsOf_l4 N e) x _ (nI a) h = _
    unfold f_X2_joinsOf_b4 f_X2_joinsOf_b31
    by_cases hc : a = 12
    · subst hc
      have := sdg_le J x 12
      rw [if_pos (by decide), if_pos (by decide), show (2 : Int32) = nI 2 from rfl, pk_div (by omega) (by omega) (by omega)]
    · have step := ih (a + 1) (by omega) (by omega)
      rw [sdg_s] at step
      rw [if_neg (show ¬ (12 : Int32) ≤ nI a from nI_ge (a := a) (b := 12) (by omega) (by omega)), p_bit, p_cl]
      by_cases c : bt x a = true
      · rw [if_pos c] at step
        rw [bi_e1 (by omega) c, if_pos rfl, if_pos (p_ib (by omega) (by omega)), p_ix (by omega), hK.1 a (by omega), pu_bitCount N (hJ.b12 a) h, p_cl, p_lt, p_lt, nI_1, nI_add]
        exact step
      · rw [if_neg c] at step
        rw [bi_e0 (by omega) c, if_neg n01, p_lt, nI_1]
        exact step
theorem pu_joins (N : Nat) (hN : 20 ≤ N) {J : Nat → Int32} (hJ : NJ J) {ho : Int32} (h : Hp) (hK : KN h J ho) (x : Int32) : f_X2_joinsOf N x h = some (nI (sdg J x 12 / 2), h) := by
  unfold f_X2_joinsOf
  rw [p_lt, p_lt]
  exact pu_joins_l N hJ h hK x N 0 (by omega) (by omega)
/-- the shape, by the numbers: squares, ends, twos, threes, twice the joins -/
def shp (s o t r d : Nat) : Nat := if s = 1 then 0 else if d + 2 = 2 * s then (if o + t = s then 1 else 3) else if d = 2 * s then (if t = s then (if s = 0 then 5 else 2) else if o = 1 ∧ r = 1 ∧ t + 2 = s then 4 else 5) else 5
theorem nI_sub1 {a b : Nat} (ha : a < 1000) (hb : b < 1000) (c : Nat) (hc : c < 1000) : (nI a = nI b - nI c) ↔ a + c = b := by
  constructor
  · intro h
    have h1 := congrArg Int32.toInt h
    rw [pk_sub_toInt (by omega) (by omega), nI_toInt (by omega)] at h1
    omega
  · intro h
    rw [pk_sub (by omega), show b - c = a by omega]
theorem cnt12 (p : Nat → Bool) : cnt p 12 ≤ 12 := cnt_le p 12
theorem pu_shapeOf (N : Nat) (hN : 20 ≤ N) {J : Nat → Int32} (hJ : NJ J) {ho : Int32} (h : Hp) (hK : KN h J ho) {x : Int32} (hx : B12 x) (hev : sdg J x 12 % 2 = 0) : f_X2_shapeOf N x h = some (nI (shp (cnt (bt x) 12) (swt J x 1 12) (swt J x 2 12) (swt J x 3 12) (sdg J x 12)), h) := by
  have a1 := cnt12 (bt x)
  have a2 : swt J x 1 12 ≤ 12 := cnt_le _ _
  have a3 : swt J x 2 12 ≤ 12 := cnt_le _ _
  have a4 : swt J x 3 12 ≤ 12 := cnt_le _ _
  have a5 := sdg_le J x 12
  unfold f_X2_shapeOf f_X2_shapeOf_b55 f_X2_shapeOf_b79 f_X2_shapeOf_b107 f_X2_shapeOf_b108 f_X2_shapeOf_b120
  rw [pu_bitCount N hx h, p_cl, p_lt]
  rw [show (1 : Int32) = nI 1 from rfl, show (2 : Int32) = nI 2 from rfl, show (3 : Int32) = nI 3 from rfl]
  rw [pu_with N hN hJ h hK x (by omega), p_cl, p_lt, pu_with N hN hJ h hK x (by omega), p_cl, p_lt, pu_joins N hN hJ h hK x, p_cl, p_lt, pu_with N hN hJ h hK x (by omega), p_cl]
  simp only [p_lt, nI_add]
  generalize hs : cnt (bt x) 12 = s at *
  generalize ho' : swt J x 1 12 = o at *
  generalize ht : swt J x 2 12 = t at *
  generalize hr : swt J x 3 12 = r at *
  generalize hd : sdg J x 12 = d at *
  have e1 : (nI s = nI 1) ↔ s = 1 := nI_eq (by omega) (by omega)
  have e2 : (nI (d / 2) = nI s - nI 1) ↔ d + 2 = 2 * s := by rw [nI_sub1 (by omega) (by omega) 1 (by omega)]; omega
  have e3 : (nI (o + t) = nI s) ↔ o + t = s := nI_eq (by omega) (by omega)
  have e4 : (nI (d / 2) = nI s) ↔ d = 2 * s := by rw [nI_eq (by omega) (by omega)]; omega
  have e5 : (nI t = nI s) ↔ t = s := nI_eq (by omega) (by omega)
  have e6 : (nI s = 0) ↔ s = 0 := nI_eq (b := 0) (by omega) (by omega)
  have e7 : (nI o = nI 1) ↔ o = 1 := nI_eq (by omega) (by omega)
  have e8 : (nI r = nI 1) ↔ r = 1 := nI_eq (by omega) (by omega)
  have e9 : (nI t = nI s - nI 2) ↔ t + 2 = s := nI_sub1 (by omega) (by omega) 2 (by omega)
  unfold shp
  by_cases c1 : s = 1
  · rw [if_pos (e1.mpr c1), if_pos c1]; rfl
  · rw [if_neg (fun z => c1 (e1.mp z)), if_neg c1]
    by_cases c2 : d + 2 = 2 * s
    · rw [if_pos (e2.mpr c2), if_pos c2]
      by_cases c3 : o + t = s
      · rw [if_pos (e3.mpr c3), if_pos c3]
      · rw [if_neg (fun z => c3 (e3.mp z)), if_neg c3]
    · rw [if_neg (fun z => c2 (e2.mp z)), if_neg c2]
      by_cases c4 : d = 2 * s
      · rw [if_pos (e4.mpr c4), if_pos c4]
        by_cases c5 : t = s
        · rw [if_pos (e5.mpr c5), if_pos c5]
          by_cases c6 : s = 0
          · rw [if_pos (e6.mpr c6), if_pos c6]; rfl
          · rw [if_neg (fun z => c6 (e6.mp z)), if_neg c6]
        · rw [if_neg (fun z => c5 (e5.mp z)), if_neg c5]
          by_cases c7 : o = 1
          · rw [if_pos (e7.mpr c7)]
            by_cases c8 : r = 1
            · rw [if_pos (e8.mpr c8)]
              by_cases c9 : t + 2 = s
              · rw [if_pos (e9.mpr c9), if_neg (by decide), if_pos ⟨c7, c8, c9⟩]; rfl
              · rw [if_neg (fun z => c9 (e9.mp z)), if_pos trivial, if_neg (fun z => c9 z.2.2)]; rfl
            · rw [if_neg (fun z => c8 (e8.mp z)), if_pos trivial, if_neg (fun z => c8 z.2.1)]; rfl
          · rw [if_neg (fun z => c7 (e7.mp z)), if_pos trivial, if_neg (fun z => c7 z.1)]; rfl
      · rw [if_neg (fun z => c4 (e4.mp z)), if_neg c4]; rfl

theorem pm_shape_l (N : Nat) (hN : 20 ≤ N) {w g k : Nat} (h : Hp) (hM : MB h w g) (f : Nat → Int32) (hk : k < 4) (x : Int32) {s : Nat} (hs : s ≤ 12) {J : Nat → Int32} (eJ : J = njc (stt w g f) k (h.1 25 2)) (hz : 2 * s ≥ 2 ∨ s = 0) : ∀ (e q : Nat), q ≤ w * g → w * g - q < e → f_X8_shapeOf_l28 N e (nI k) x (nI s) (nI (sdg J x q)) (nI (swt J x 1 q)) (nI (swt J x 2 q)) (nI (swt J x 3 q)) (nI q) h = some (if s = 1 then 0 else if sdg J x (w * g) + 2 = 2 * s then (if swt J x 1 (w * g) + swt J x 2 (w * g) = s then 1 else 3) else if swt J x 2 (w * g) = s then 2 else if sdg J x (w * g) = 2 * s ∧ swt J x 3 (w * g) = 1 ∧ swt J x 1 (w * g) = 1 ∧ swt J x 2 (w * g) + 2 = s then 4 else 5, h) := by
  obtain ⟨hb, e0, e1⟩ := id hM
  have h12 := hb.2.2.2.2
  intro e
  induction e with
  | zero => intro q _ h2; omega
  | succ e ih =>
    intro q hq he
    show f_X8_shapeOf_b28 N (f_X8_shapeOf_l28 N e) (nI k) x (nI s) _ _ _ _ (nI q) h = _
    unfold f_X8_shapeOf_b28 f_X8_shapeOf_b158 f_X8_shapeOf_b202 f_X8_shapeOf_b203
    rw [e0, e1, pk_mul]
    by_cases hc : q = w * g
    · subst hc
      rw [if_pos (nI_le (Nat.le_refl _) (by omega)), show (2 : Int32) = nI 2 from rfl, pk_mul, nI_add]
      have a2 : swt J x 1 (w * g) ≤ w * g := cnt_le _ _
      have a3 : swt J x 2 (w * g) ≤ w * g := cnt_le _ _
      have a4 : swt J x 3 (w * g) ≤ w * g := cnt_le _ _
      have a5 := sdg_le J x (w * g)
      generalize swt J x 1 (w * g) = o at *
      generalize swt J x 2 (w * g) = t at *
      generalize swt J x 3 (w * g) = r at *
      generalize sdg J x (w * g) = d at *
      have e1 : (nI s = 1) ↔ s = 1 := nI_eq (b := 1) (by omega) (by omega)
      have e2 : (nI d = nI (2 * s) - nI 2) ↔ d + 2 = 2 * s := nI_sub1 (by omega) (by omega) 2 (by omega)
      have e3 : (nI (o + t) = nI s) ↔ o + t = s := nI_eq (by omega) (by omega)
      have e4 : (nI d = nI (2 * s)) ↔ d = 2 * s := nI_eq (by omega) (by omega)
      have e5 : (nI t = nI s) ↔ t = s := nI_eq (by omega) (by omega)
      have e7 : (nI o = 1) ↔ o = 1 := nI_eq (b := 1) (by omega) (by omega)
      have e8 : (nI r = 1) ↔ r = 1 := nI_eq (b := 1) (by omega) (by omega)
      have e9 : (nI t = nI s - nI 2) ↔ t + 2 = s := nI_sub1 (by omega) (by omega) 2 (by omega)
      by_cases c1 : s = 1
      · rw [if_pos (e1.mpr c1), if_pos c1]
      · rw [if_neg (fun z => c1 (e1.mp z)), if_neg c1]
        by_cases c2 : d + 2 = 2 * s
        · rw [if_pos (e2.mpr c2), if_pos c2]
          by_cases c3 : o + t = s
          · rw [if_pos (e3.mpr c3), if_pos c3]
          · rw [if_neg (fun z => c3 (e3.mp z)), if_neg c3]
        · rw [if_neg (fun z => c2 (e2.mp z)), if_neg c2]
          by_cases c5 : t = s
          · rw [if_pos (e5.mpr c5), if_pos c5]
          · rw [if_neg (fun z => c5 (e5.mp z)), if_neg c5]
            by_cases c4 : d = 2 * s
            · rw [if_pos (e4.mpr c4)]
              by_cases c8 : r = 1
              · rw [if_pos (e8.mpr c8)]
                by_cases c7 : o = 1
                · rw [if_pos (e7.mpr c7)]
                  by_cases c9 : t + 2 = s
                  · rw [if_pos (e9.mpr c9), if_pos ⟨c4, c8, c7, c9⟩]
                  · rw [if_neg (fun z => c9 (e9.mp z)), if_neg (fun z => c9 z.2.2.2)]
                · rw [if_neg (fun z => c7 (e7.mp z)), if_neg (fun z => c7 z.2.2.1)]
              · rw [if_neg (fun z => c8 (e8.mp z)), if_neg (fun z => c8 z.2.1)]
            · rw [if_neg (fun z => c4 (e4.mp z)), if_neg (fun z => c4 z.1)]
    · have step := ih (q + 1) (by omega) (by omega)
      rw [sdg_s, swt_s, swt_s, swt_s] at step
      rw [if_neg (nI_ge (by omega) (by omega)), pm_has, p_cl]
      unfold f_X8_shapeOf_b118 f_X8_shapeOf_b83 f_X8_shapeOf_b99 f_X8_shapeOf_b115 f_X8_shapeOf_b118
      by_cases c : bt x q = true
      · rw [if_pos c, if_pos c, if_pos c, if_pos c] at step
        rw [bi_e1 (by omega) c, if_pos rfl, if_neg n10, pm_joined N hN h hM f hk (by omega), p_cl, ← eJ, pm_bits N hN, p_cl, p_lt]
        have hd := dg_le J q
        rw [show cnt (bt (J q)) 12 = dg J q from rfl]
        simp only [p_lt, nI_1, nI_add]
        have e1 : (nI (dg J q) = 1) ↔ dg J q = 1 := nI_eq (b := 1) (by omega) (by omega)
        have e2 : (nI (dg J q) = 2) ↔ dg J q = 2 := nI_eq (b := 2) (by omega) (by omega)
        have e3 : (nI (dg J q) = 3) ↔ dg J q = 3 := nI_eq (b := 3) (by omega) (by omega)
        have z0 : ∀ a : Nat, nI a + 0 = nI a := fun a => nI_add a 0
        by_cases c1 : dg J q = 1
        · rw [if_pos c1, if_neg (by omega), if_neg (by omega)] at step
          rw [if_pos (e1.mpr c1), if_neg (fun z => by have := e2.mp z; omega), if_neg (fun z => by have := e3.mp z; omega), z0, z0]
          exact step
        · by_cases c2 : dg J q = 2
          · rw [if_neg c1, if_pos c2, if_neg (by omega)] at step
            rw [if_neg (fun z => c1 (e1.mp z)), if_pos (e2.mpr c2), if_neg (fun z => by have := e3.mp z; omega), z0, z0]
            exact step
          · by_cases c3 : dg J q = 3
            · rw [if_neg c1, if_neg c2, if_pos c3] at step
              rw [if_neg (fun z => c1 (e1.mp z)), if_neg (fun z => c2 (e2.mp z)), if_pos (e3.mpr c3), z0, z0]
              exact step
            · rw [if_neg c1, if_neg c2, if_neg c3] at step
              rw [if_neg (fun z => c1 (e1.mp z)), if_neg (fun z => c2 (e2.mp z)), if_neg (fun z => c3 (e3.mp z)), z0, z0, z0]
              exact step
      · rw [if_neg c, if_neg c, if_neg c, if_neg c] at step
        rw [bi_e0 (by omega) c, if_neg n01, if_pos rfl, p_lt, nI_1]
        exact step
/-- twice the joins: even, and two for each square where all have two -/
theorem sdg_even {J : Nat → Int32} (hJ : NJ J) {x : Int32} (hC : Cl J x) : sdg J x 12 % 2 = 0 := by
  have e : sdg J x 12 = sumf (fun a => cnt (fun b => bt x a && bt (J a) b) 12) 12 := by
    unfold sdg dg
    apply sumf_congr
    intro a _
    by_cases c : bt x a = true
    · rw [if_pos c]
      congr 1
      funext b
      rw [c]
      rfl
    · rw [if_neg c]
      have : (fun b => bt x a && bt (J a) b) = fun _ => false := funext fun b => by simp [c]
      rw [this]
      rfl
  rw [e]
  refine sum_even (fun a b => bt x a && bt (J a) b) (fun a b h => ?_) (fun a => ?_) 12
  · rw [Bool.and_eq_true] at h ⊢
    exact ⟨hC a h.1 b h.2, hJ.sym a b h.2⟩
  · rw [hJ.irr a, Bool.and_false]
theorem swt_all {J : Nat → Int32} {x : Int32} : ∀ {n : Nat}, swt J x 2 n = cnt (bt x) n → (∀ a, a < n → bt x a = true → dg J a = 2) ∧ sdg J x n = 2 * cnt (bt x) n
  | 0, _ => ⟨fun a ha => by omega, rfl⟩
  | n + 1, h => by
    rw [swt_s, cnt_s] at h
    have hle : swt J x 2 n ≤ cnt (bt x) n := sumf_le (fun i _ => by
      by_cases c : bt x i = true
      · rw [if_pos c]; split <;> omega
      · rw [if_neg c, if_neg (by simp [c])]; exact Nat.le_refl _)
    rw [sdg_s, cnt_s]
    by_cases c : bt x n = true
    · rw [if_pos c, if_pos c] at h
      by_cases c2 : dg J n = 2
      · rw [if_pos c2] at h
        obtain ⟨h1, h2⟩ := swt_all (J := J) (x := x) (n := n) (by omega)
        rw [if_pos c, if_pos c]
        refine ⟨fun a ha hx => ?_, by omega⟩
        by_cases e : a = n
        · rw [e]; exact c2
        · exact h1 a (by omega) hx
      · rw [if_neg c2] at h; omega
    · rw [if_neg c, if_neg c] at h
      obtain ⟨h1, h2⟩ := swt_all (J := J) (x := x) (n := n) (by omega)
      rw [if_neg c, if_neg c]
      refine ⟨fun a ha hx => ?_, by omega⟩
      by_cases e : a = n
      · rw [e] at hx; exact absurd hx c
      · exact h1 a (by omega) hx
/-- the shape of a set in a net -/
def shpJ (J : Nat → Int32) (x : Int32) : Nat := shp (cnt (bt x) 12) (swt J x 1 12) (swt J x 2 12) (swt J x 3 12) (sdg J x 12)
theorem pm_shapeOf (N : Nat) (hN : 20 ≤ N) {w g k p : Nat} (h : Hp) (hM : MB h w g) (f : Nat → Int32) (hk : k < 4) (hp : p < w * g) (hh : bt (h.1 25 2) p = false) : f_X8_shapeOf N (nI k) (nI p) h = some (nI (shpJ (njc (stt w g f) k (h.1 25 2)) (prt (njc (stt w g f) k (h.1 25 2)) p)), h) := by
  have h12 := hM.1.2.2.2.2
  have hJ := NJ_nj hM.1 hk f (h.1 25 2)
  generalize eJ : njc (stt w g f) k (h.1 25 2) = J at *
  obtain ⟨q1, q2, q3⟩ := prt_cl hJ (p := p) (by omega)
  have hsub : ∀ b, bt (prt J p) b = true → b < w * g := by
    have hall : ∀ a, a < 13 → ∀ b, b < 32 → bt (nI (2 ^ a - 1)) b = decide (b < a) := by decide +kernel
    intro b hb
    have := prt_min (J := J) (p := p) (by omega) (C := nI (2 ^ (w * g) - 1)) (fun a _ b hb => by
      rw [← eJ] at hb
      have := (njc_in hM.1 hk f _ hb).2.2.1
      rw [hall _ (by omega) b (by omega)]
      simpa using this) (by rw [hall _ (by omega) p (by omega)]; simpa using hp) b hb
    rw [hall _ (by omega) b (bt_32 hb)] at this
    exact of_decide_eq_true this
  have t1 : ∀ j, swt J (prt J p) j (w * g) = swt J (prt J p) j 12 := fun j => by
    unfold swt cnt
    rw [sumf_trim h12]
    intro i h1 h2
    rw [if_neg]
    intro z
    rw [Bool.and_eq_true] at z
    have := hsub i z.1
    omega
  have t2 : sdg J (prt J p) (w * g) = sdg J (prt J p) 12 := by
    unfold sdg
    rw [sumf_trim h12]
    intro i h1 h2
    rw [if_neg]
    intro z
    have := hsub i z
    omega
  have a1 := cnt12 (bt (prt J p))
  have hpos : 1 ≤ cnt (bt (prt J p)) 12 := by
    rcases Nat.eq_zero_or_pos (cnt (bt (prt J p)) 12) with z | z
    · have := cnt_0 z p (by omega)
      rw [q3] at this; cases this
    · exact z
  unfold f_X8_shapeOf
  rw [pm_partOf N hN h hM f hk hp, eJ, if_neg (by rw [hh]; decide), p_cl, p_lt, pm_bits N hN, p_cl]
  simp only [p_lt]
  have e := pm_shape_l N hN h hM f hk (prt J p) (s := cnt (bt (prt J p)) 12) (by omega) eJ.symm (Or.inl (by omega)) N 0 (by omega) (by omega)
  refine Eq.trans e ?_
  rw [t1, t1, t1, t2]
  congr 2
  unfold shpJ shp
  have hev := sdg_even hJ q2
  by_cases c5 : swt J (prt J p) 2 12 = cnt (bt (prt J p)) 12
  · have := (swt_all c5).2
    have c6 : ¬ cnt (bt (prt J p)) 12 = 0 := by omega
    rw [if_pos c5, if_pos c5, if_neg c6]
    by_cases c1 : cnt (bt (prt J p)) 12 = 1
    · rw [if_pos c1, if_pos c1]; rfl
    · rw [if_neg c1, if_neg c1, if_neg (by omega), if_neg (by omega), if_pos this]; rfl
  · rw [if_neg c5, if_neg c5]
    by_cases c1 : cnt (bt (prt J p)) 12 = 1
    · rw [if_pos c1, if_pos c1]; rfl
    · rw [if_neg c1, if_neg c1]
      by_cases c2 : sdg J (prt J p) 12 + 2 = 2 * cnt (bt (prt J p)) 12
      · rw [if_pos c2, if_pos c2]
        by_cases c3 : swt J (prt J p) 1 12 + swt J (prt J p) 2 12 = cnt (bt (prt J p)) 12
        · rw [if_pos c3, if_pos c3]; rfl
        · rw [if_neg c3, if_neg c3]; rfl
      · rw [if_neg c2, if_neg c2]
        by_cases c4 : sdg J (prt J p) 12 = 2 * cnt (bt (prt J p)) 12
        · rw [if_pos c4]
          by_cases c7 : swt J (prt J p) 1 12 = 1 ∧ swt J (prt J p) 3 12 = 1 ∧ swt J (prt J p) 2 12 + 2 = cnt (bt (prt J p)) 12
          · rw [if_pos c7, if_pos ⟨c4, c7.2.1, c7.1, c7.2.2⟩]; rfl
          · rw [if_neg c7, if_neg (fun z => c7 ⟨z.2.2.1, z.2.1, z.2.2.2⟩)]; rfl
        · rw [if_neg c4, if_neg (fun z => c4 z.1)]; rfl
