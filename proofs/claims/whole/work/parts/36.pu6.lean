/-! ===== what holds between the class's cells and the model's; the simple calls ===== -/
/-- a position of the class, the row of squares of the model: the same, all apart, on the board -/
def PQ (p : Int32) (a : Nat → Int32) (s n : Nat) (P : Nat → Nat) : Prop := PC p n P ∧ (∀ i, i < n → a i = nI (P i) ∧ P i < s) ∧ ∀ i j, i < n → j < n → P i = P j → i = j
def IB (h : Hp) (w g n : Nat) (kd co : Nat → Nat) (f : Nat → Int32) : Prop := bd w g ∧ h.1 1 0 = nI w ∧ h.1 1 1 = nI g ∧ BC h n kd co ∧ h.1 11 = stt w g f ∧ MB h w g ∧ BM h n kd co ∧ h.1 25 2 = h.1 1 2 ∧ h.1 25 3 = h.1 1 3
def IK (h : Hp) (s n k : Nat) : Prop := (h.1 22 k = 0 ∧ h.1 33 k = 0) ∨ (h.1 22 k = 1 ∧ h.1 33 k = 1 ∧ (∃ P, PQ (h.1 20 k) (fun i => h.1 32 (5 * k + i)) s n P) ∧ ∃ m, m ≤ 9999 ∧ h.1 21 k = nI m ∧ h.1 32 (5 * k + 4) = nI m)
def IR (h : Hp) (s n : Nat) : Prop := ∃ r, r ≤ 12 ∧ h.1 0 12 = nI r ∧ h.1 25 25 = nI r ∧ ∀ j, j < r → ∃ a b, a < n ∧ b < s ∧ h.1 23 j = nI a ∧ h.1 24 j = nI b ∧ h.1 34 (2 * j) = nI a ∧ h.1 34 (2 * j + 1) = nI b
def IT (h : Hp) : Prop := ∃ t, t ≤ 200 ∧ h.1 4 1 = nI t ∧ h.1 25 6 = nI t ∧ ∀ j, j < t → h.1 5 j = h.1 27 j ∧ ∃ b, b < 256 ∧ h.1 5 j = nI b
def IH (h : Hp) : Prop := ∃ m, m ≤ 9999 ∧ h.1 0 14 = nI m ∧ h.1 25 22 = nI m
def IV (h : Hp) (w g n : Nat) (kd co : Nat → Nat) (f : Nat → Int32) : Prop := IB h w g n kd co f ∧ (∃ S, PQ (h.1 1 5) (fun i => h.1 26 (4 * i + 2)) (w * g) n S) ∧ (∃ L, PQ (h.1 1 6) (fun i => h.1 26 (4 * i + 3)) (w * g) n L) ∧ (∃ P, PQ (h.1 0 13) (h.1 31) (w * g) n P) ∧ IH h ∧ (∀ k, k < 2 → IK h (w * g) n k) ∧ IR h (w * g) n ∧ IT h
def Inv (h : Hp) : Prop := ∃ (w g n : Nat) (kd co : Nat → Nat) (f : Nat → Int32), IV h w g n kd co f
/-- the cells on which the search rests, and its own -/
def Fr (h h2 : Hp) : Prop := ∀ c, c ∈ [1, 2, 3, 11, 15, 16, 17, 18, 19] → h2.1 c = h.1 c
def Sim (fc fm : Hp → Option Rs) (h : Hp) : Prop := ∃ r h1 h2, fc h = some (r, h1) ∧ fm h1 = some (r, h2) ∧ Inv h2 ∧ Fr h h2
theorem Fr_rfl (h : Hp) : Fr h h := fun _ _ => rfl
theorem Sim_same {fc fm : Hp → Option Rs} {h : Hp} (r : Int32) (hI : Inv h) (h1 : fc h = some (r, h)) (h2 : fm h = some (r, h)) : Sim fc fm h := ⟨r, h, h, h1, h2, hI, Fr_rfl h⟩
/-! numbers that are a square, a man -/
theorem n_case (a : Int32) {s : Nat} (hs : s < 2 ^ 30) : (∃ q, q < s ∧ a = nI q) ∨ (a < 0 ∨ nI s ≤ a) := by
  rcases pk_ix a (n := s) (by omega) with h | h | h
  · exact Or.inr (Or.inl h)
  · exact Or.inr (Or.inr h)
  · exact Or.inl h
theorem n_m1 {n q : Nat} (hn : n < 2 ^ 30) (hq : q < 2 ^ 30) : nI n - 1 < nI q ↔ n ≤ q := by
  rw [Int32.lt_iff_toInt_lt, nI_toInt (by omega), show (1 : Int32) = nI 1 from rfl, pk_sub_toInt hn (by omega)]
  omega
theorem n_m1g {n : Nat} {a : Int32} (hn : n < 2 ^ 30) (h0 : ¬ a < 0) (ha : nI n ≤ a) : nI n - 1 < a := by
  rw [Int32.lt_iff_toInt_lt, show (1 : Int32) = nI 1 from rfl, pk_sub_toInt hn (by omega)]
  have := Int32.le_iff_toInt_le.mp ha
  rw [nI_toInt (by omega)] at this
  omega
theorem pu_noSq_in (N : Nat) (h : Hp) {w g q : Nat} (e0 : h.1 1 0 = nI w) (e1 : h.1 1 1 = nI g) (hs : w * g < 2 ^ 30) (hq : q < w * g) : f_X7_noSquare N (nI q) h = some (0, h) := by
  unfold f_X7_noSquare f_X5_squares f_X7_noSquare_b20
  rw [if_neg (nI_pos (by omega)), p_cl, e0, e1, pk_mul, if_pos (nI_lt hq (by omega)), if_pos (by decide)]
theorem pu_noSq_out (N : Nat) (h : Hp) {w g : Nat} {a : Int32} (e0 : h.1 1 0 = nI w) (e1 : h.1 1 1 = nI g) (ha : a < 0 ∨ nI (w * g) ≤ a) : f_X7_noSquare N a h = some (1, h) := by
  unfold f_X7_noSquare f_X7_noSquare_b15 f_X5_squares f_X7_noSquare_b20
  by_cases h0 : a < 0
  · rw [if_pos h0, if_pos (by decide)]
  · have h2 : nI (w * g) ≤ a := ha.resolve_left h0
    rw [if_neg h0, p_cl, e0, e1, pk_mul, if_neg (Int32.not_lt.mpr h2), if_pos (by decide)]
theorem pm_isSq_in (N : Nat) (h : Hp) {w g q : Nat} (e0 : h.1 25 0 = nI w) (e1 : h.1 25 1 = nI g) (hs : w * g < 2 ^ 30) (hq : q < w * g) : f_X8_isSquare N (nI q) h = some (1, h) := by
  unfold f_X8_isSquare
  rw [pm_in, p_cl, e0, e1, pk_mul, if_neg (nI_pos (by omega)), if_neg (show ¬ nI (w * g) - 1 < nI q from fun z => by have := (n_m1 hs (by omega)).mp z; omega), if_pos (by decide)]
theorem pm_isSq_out (N : Nat) (h : Hp) {w g : Nat} {a : Int32} (e0 : h.1 25 0 = nI w) (e1 : h.1 25 1 = nI g) (hs : w * g < 2 ^ 30) (ha : a < 0 ∨ nI (w * g) ≤ a) : f_X8_isSquare N a h = some (0, h) := by
  unfold f_X8_isSquare
  rw [pm_in, p_cl, e0, e1, pk_mul]
  by_cases h0 : a < 0
  · rw [if_pos h0, if_pos (by decide)]
  · rw [if_neg h0, if_pos (n_m1g hs h0 (ha.resolve_left h0)), if_pos (by decide)]
theorem pu_noMan_in (N : Nat) (h : Hp) {n i : Nat} (e : h.1 1 4 = nI n) (hn : n < 2 ^ 30) (hi : i < n) : f_X7_noMan N (nI i) h = some (0, h) := by
  unfold f_X7_noMan f_X7_noMan_b20
  rw [if_neg (nI_pos (by omega)), e, if_pos (nI_lt hi (by omega)), if_pos (by decide)]
theorem pu_noMan_out (N : Nat) (h : Hp) {n : Nat} {a : Int32} (e : h.1 1 4 = nI n) (ha : a < 0 ∨ nI n ≤ a) : f_X7_noMan N a h = some (1, h) := by
  unfold f_X7_noMan f_X7_noMan_b15 f_X7_noMan_b20
  by_cases h0 : a < 0
  · rw [if_pos h0, if_pos (by decide)]
  · rw [if_neg h0, e, if_neg (Int32.not_lt.mpr (ha.resolve_left h0)), if_pos (by decide)]
theorem pm_isMan_in (N : Nat) (h : Hp) {n i : Nat} (e : h.1 25 4 = nI n) (hn : n < 2 ^ 30) (hi : i < n) : f_X8_isMan N (nI i) h = some (1, h) := by
  unfold f_X8_isMan
  rw [pm_in, p_cl, e, if_neg (nI_pos (by omega)), if_neg (show ¬ nI n - 1 < nI i from fun z => by have := (n_m1 hn (by omega)).mp z; omega), if_pos (by decide)]
theorem pm_isMan_out (N : Nat) (h : Hp) {n : Nat} {a : Int32} (e : h.1 25 4 = nI n) (hn : n < 2 ^ 30) (ha : a < 0 ∨ nI n ≤ a) : f_X8_isMan N a h = some (0, h) := by
  unfold f_X8_isMan
  rw [pm_in, p_cl, e]
  by_cases h0 : a < 0
  · rw [if_pos h0, if_pos (by decide)]
  · rw [if_neg h0, if_pos (n_m1g hn h0 (ha.resolve_left h0)), if_pos (by decide)]
/-- the invariant when cells change that it doesn't speak of -/
theorem IV_congr {h h' : Hp} {w g n : Nat} {kd co : Nat → Nat} {f : Nat → Int32} (e0 : h'.1 0 = h.1 0) (e1 : h'.1 1 = h.1 1) (e2 : h'.1 2 = h.1 2) (e3 : h'.1 3 = h.1 3) (e41 : h'.1 4 1 = h.1 4 1) (e5 : h'.1 5 = h.1 5) (e11 : h'.1 11 = h.1 11) (e20 : h'.1 20 = h.1 20) (e21 : h'.1 21 = h.1 21) (e22 : h'.1 22 = h.1 22) (e23 : h'.1 23 = h.1 23) (e24 : h'.1 24 = h.1 24) (m : ∀ k, k ∈ [0, 1, 2, 3, 4, 6, 22, 25] → h'.1 25 k = h.1 25 k) (e26 : h'.1 26 = h.1 26) (e27 : h'.1 27 = h.1 27) (e31 : h'.1 31 = h.1 31) (e32 : h'.1 32 = h.1 32) (e33 : h'.1 33 = h.1 33) (e34 : h'.1 34 = h.1 34) (hI : IV h w g n kd co f) : IV h' w g n kd co f := by
  unfold IV IB BC BM MB IH IK IR IT at *
  rw [m 0 (by decide), m 1 (by decide), m 2 (by decide), m 3 (by decide), m 4 (by decide), m 6 (by decide), m 22 (by decide), m 25 (by decide), e0, e1, e2, e3, e41, e5, e11, e20, e21, e22, e23, e24, e26, e27, e31, e32, e33, e34]
  exact hI
/-! erase, burn -/
theorem sim_erase (N : Nat) {h : Hp} (hI : Inv h) : Sim (f_X7_erase N) (f_X8_erase N) h := by
  obtain ⟨w, g, n, kd, co, f, hB, hS, hL, hP, hH, hK, hR, t, ht, t1, t2, t3⟩ := hI
  refine ⟨nI t, wr h 4 1 0, wr (wr h 4 1 0) 25 6 0, ?_, ?_, ?_, ?_⟩
  · unfold f_X7_erase; rw [p_lt, p_lt, t1]
  · unfold f_X8_erase; rw [p_lt, p_lt, p_wro _ _ _ _ (by decide), t2]
  · refine ⟨w, g, n, kd, co, f, ?_⟩
    have c : ∀ a, a ≠ 4 → a ≠ 25 → (wr (wr h 4 1 0) 25 6 0).1 a = h.1 a := fun a h1 h2 => by rw [p_wro _ _ _ _ h2, p_wro _ _ _ _ h1]
    have m : ∀ k, k ≠ 6 → (wr (wr h 4 1 0) 25 6 0).1 25 k = h.1 25 k := fun k hk => by rw [p_wrk _ _ _ _ hk, p_wro _ _ _ _ (by decide)]
    unfold IV IB BC BM MB IH IK IR at *
    rw [c 0 (by decide) (by decide), c 1 (by decide) (by decide), c 2 (by decide) (by decide), c 3 (by decide) (by decide), c 11 (by decide) (by decide), c 20 (by decide) (by decide), c 21 (by decide) (by decide), c 22 (by decide) (by decide), c 23 (by decide) (by decide), c 24 (by decide) (by decide), c 26 (by decide) (by decide), c 31 (by decide) (by decide), c 32 (by decide) (by decide), c 33 (by decide) (by decide), c 34 (by decide) (by decide), m 0 (by decide), m 1 (by decide), m 2 (by decide), m 3 (by decide), m 4 (by decide), m 22 (by decide), m 25 (by decide)]
    refine ⟨hB, hS, hL, hP, hH, hK, hR, 0, by omega, ?_, ?_, fun j hj => by omega⟩
    · rw [p_wro _ _ _ _ (by decide), p_wrs]; rfl
    · rw [p_wrs]; rfl
  · intro c hc
    rw [p_wro _ _ _ _ (fun z => by subst z; revert hc; decide), p_wro _ _ _ _ (fun z => by subst z; revert hc; decide)]
theorem sim_burn (N : Nat) {h : Hp} (hI : Inv h) : Sim (f_X7_burn N) (f_X8_burn N) h := by
  obtain ⟨w, g, n, kd, co, f, hB, hS, hL, hP, hH, hK, ⟨r, hr, r1, r2, r3⟩, hT⟩ := hI
  refine ⟨nI r, wr h 0 12 0, wr (wr h 0 12 0) 25 25 0, ?_, ?_, ?_, ?_⟩
  · unfold f_X7_burn; rw [p_lt, p_lt, r1]
  · unfold f_X8_burn; rw [p_lt, p_lt, p_wro _ _ _ _ (by decide), r2]
  · refine ⟨w, g, n, kd, co, f, ?_⟩
    have c : ∀ a, a ≠ 0 → a ≠ 25 → (wr (wr h 0 12 0) 25 25 0).1 a = h.1 a := fun a h1 h2 => by rw [p_wro _ _ _ _ h2, p_wro _ _ _ _ h1]
    have m : ∀ k, k ≠ 25 → (wr (wr h 0 12 0) 25 25 0).1 25 k = h.1 25 k := fun k hk => by rw [p_wrk _ _ _ _ hk, p_wro _ _ _ _ (by decide)]
    have z : ∀ k, k ≠ 12 → (wr (wr h 0 12 0) 25 25 0).1 0 k = h.1 0 k := fun k hk => by rw [p_wro _ _ _ _ (by decide), p_wrk _ _ _ _ hk]
    unfold IV IB BC BM MB IH IK IR IT at *
    rw [c 1 (by decide) (by decide), c 2 (by decide) (by decide), c 3 (by decide) (by decide), c 4 (by decide) (by decide), c 5 (by decide) (by decide), c 11 (by decide) (by decide), c 20 (by decide) (by decide), c 21 (by decide) (by decide), c 22 (by decide) (by decide), c 26 (by decide) (by decide), c 27 (by decide) (by decide), c 31 (by decide) (by decide), c 32 (by decide) (by decide), c 33 (by decide) (by decide), m 0 (by decide), m 1 (by decide), m 2 (by decide), m 3 (by decide), m 4 (by decide), m 6 (by decide), m 22 (by decide), z 13 (by decide), z 14 (by decide)]
    refine ⟨hB, hS, hL, hP, hH, hK, ⟨0, by omega, ?_, ?_, fun j hj => by omega⟩, hT⟩
    · rw [p_wro _ _ _ _ (by decide), p_wrs]; rfl
    · rw [p_wrs]; rfl
  · intro c hc
    rw [p_wro _ _ _ _ (fun z => by subst z; revert hc; decide), p_wro _ _ _ _ (fun z => by subst z; revert hc; decide)]
/-! attacked, may -/
theorem IB_T {h : Hp} {w g n : Nat} {kd co : Nat → Nat} {f : Nat → Int32} (hB : IB h w g n kd co f) : Tok (h.1 11) := by
  rw [hB.2.2.2.2.1]; exact stt_ok hB.1 f
theorem sim_attacked (N : Nat) (hN : 20 ≤ N) {h : Hp} (hI : Inv h) : Sim (f_X7_attacked N) (f_X8_attacked N) h := by
  obtain ⟨w, g, n, kd, co, f, hV⟩ := id hI
  obtain ⟨hB, -, -, ⟨P, hP⟩, -⟩ := id hV
  obtain ⟨b1, b2, b3, b4, b5, b6, b7, b8, b9⟩ := id hB
  refine Sim_same (atk (stt w g f) n kd co P (h.1 1 2)) hI ?_ ?_
  · unfold f_X7_attacked
    rw [pu_attacked N hN h b4 hP.1 (IB_T hB), p_cl, b5]
  · unfold f_X8_attacked
    rw [pm_attacked 31 N hN h b6 f b7 hP.2.1, p_cl, b8]
theorem turn_and {m : Nat} (hm : m < 2 ^ 31) : nI m &&& 1 = nI (m % 2) := by
  have := pk_andN (n := m) (by omega) (m := 1) 1 (by decide)
  simpa using this
theorem turn_rem {m : Nat} (hm : m < 2 ^ 31) : nI m - nI m / 2 * 2 = nI (m % 2) := pk_rem (d := 2) hm (by omega) (by omega)
theorem sim_may (N : Nat) (hN : 20 ≤ N) (a : Int32) {h : Hp} (hI : Inv h) : Sim (f_X7_may N a) (f_X8_may N a) h := by
  obtain ⟨w, g, n, kd, co, f, hV⟩ := id hI
  obtain ⟨hB, -, -, ⟨P, hP⟩, ⟨m, hm, m1, m2⟩, -⟩ := id hV
  obtain ⟨b1, b2, b3, b4, b5, b6, b7, b8, b9⟩ := id hB
  have hn4 := b4.2.1
  rcases n_case a (s := n) (by omega) with ⟨i, hi, rfl⟩ | ha
  · refine Sim_same (mayI (stt w g f) n kd co P (h.1 1 2) (h.1 1 3) i (m % 2)) hI ?_ ?_
    · unfold f_X7_may
      rw [pu_noMan_in N h b4.1 (by omega) hi, p_cl, if_pos rfl, pu_allowed N hN h b4 hP.1 (IB_T hB) hi (t := m % 2) (by rw [m1]; exact turn_and (by omega)) (by omega), p_cl, b5]
    · unfold f_X8_may f_X8_may_b28
      rw [pm_isMan_in N h b7.1 (by omega) hi, p_cl, if_neg (by decide), if_pos (by decide), m2, turn_rem (by omega), pm_mayOf 31 N (by decide) (by decide) hN h b6 f b7 hP.2.1 hi (by omega), p_cl, b8, b9]
  · refine Sim_same (-2) hI ?_ ?_
    · unfold f_X7_may
      rw [pu_noMan_out N h b4.1 ha, p_cl, if_neg (by decide)]
    · unfold f_X8_may f_X8_may_b28
      rw [pm_isMan_out N h b7.1 (by omega) ha, p_cl, if_pos rfl]
