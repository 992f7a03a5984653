/-! ===== pure rows: the abstract heap, small numbers, bits ===== -/
theorem p_lt {α β : Type} (x : α) (k : α → β) : lt x k = k x := rfl
theorem p_cl (r : Int32) (h : Hp) (k : Int32 → Hp → Option Rs) : cl (some (r, h)) k = k r h := rfl
theorem p_wr (h : Hp) (o k : Nat) (v : Int32) (a b : Nat) : (wr h o k v).1 a b = if a = o then (if b = k then v else h.1 a b) else h.1 a b := by
  unfold wr wrow
  by_cases ha : a = o
  · subst ha; simp only [if_true]; rfl
  · simp only [ha, if_false]
theorem p_wrs (h : Hp) (o k : Nat) (v : Int32) : (wr h o k v).1 o k = v := by rw [p_wr, if_pos rfl, if_pos rfl]
theorem p_wro (h : Hp) (o k : Nat) (v : Int32) {a : Nat} (ha : a ≠ o) : (wr h o k v).1 a = h.1 a := by
  funext b; rw [p_wr, if_neg ha]
theorem p_wrk (h : Hp) (o k : Nat) (v : Int32) {b : Nat} (hb : b ≠ k) : (wr h o k v).1 o b = h.1 o b := by rw [p_wr, if_pos rfl, if_neg hb]
theorem p_wr2 (h : Hp) (o k : Nat) (v : Int32) : (wr h o k v).2 = h.2 := rfl
theorem p_wrow (h : Hp) (o : Nat) (f : Nat → Int32) (a : Nat) : (wrow h o f).1 a = if a = o then f else h.1 a := rfl
theorem p_wrows (h : Hp) (o : Nat) (f : Nat → Int32) : (wrow h o f).1 o = f := by rw [p_wrow, if_pos rfl]
theorem p_wrowo (h : Hp) (o : Nat) (f : Nat → Int32) {a : Nat} (ha : a ≠ o) : (wrow h o f).1 a = h.1 a := by rw [p_wrow, if_neg ha]
theorem p_wrow2 (h : Hp) (o : Nat) (f : Nat → Int32) : (wrow h o f).2 = h.2 := rfl
theorem p_wrl1 (h : Hp) (v : Int64) : (wrl h v).1 = h.1 := rfl
theorem p_wrl2 (h : Hp) (v : Int64) : (wrl h v).2 = v := rfl
theorem p_ib {j n : Nat} (h : j < n) (hn : n < 2 ^ 31) : ib (nI j) n = true := by
  have e := nI_toInt (n := j) (by omega)
  simp only [ib, e, Bool.and_eq_true, decide_eq_true_eq]
  omega
theorem p_ix {j : Nat} (h : j < 2 ^ 31) : ix (nI j) = j := nI_clamp h
theorem p_of {x : Int32} (h : 0 ≤ x.toInt) : ∃ j : Nat, j < 2 ^ 31 ∧ x = nI j := nI_of (fun q => by have := Int32.lt_iff_toInt_lt.mp q; have e : (0 : Int32).toInt = 0 := rfl; omega)
/-- a number is below 0, or small and below n, or n at least -/
theorem p_ib_iff {x : Int32} {n : Nat} : ib x n = true ↔ vp_in x n := by
  rw [vp_in_iff]; simp only [ib, Bool.and_eq_true, decide_eq_true_eq]
theorem p_nat {x : Int32} {n : Nat} (hn : n < 2 ^ 31) (h1 : ¬ x < 0) (h2 : ¬ nI n ≤ x) : ∃ j, j < n ∧ x = nI j := by
  rcases pk_ix x hn with h | h | h
  · exact absurd h h1
  · exact absurd h h2
  · exact h
theorem p_m1 : (-1 : Int32) < 0 := by decide
theorem p_nI_ne_m1 {n : Nat} (h : n < 2 ^ 31) : ¬ nI n = -1 := by
  intro e
  have h1 := nI_toInt h
  rw [e] at h1
  have h2 : (-1 : Int32).toInt = -1 := rfl
  omega
/-! bits -/
def bt (x : Int32) (i : Nat) : Bool := x.toBitVec.getLsbD i
theorem b_ext {x y : Int32} (h : ∀ i, i < 32 → bt x i = bt y i) : x = y := Int32.toBitVec_inj.mp (BitVec.eq_of_getLsbD_eq (fun i hi => h i hi))
theorem b_or (x y : Int32) (i : Nat) : bt (x ||| y) i = (bt x i || bt y i) := by unfold bt; rw [Int32.toBitVec_or, BitVec.getLsbD_or]
theorem b_and (x y : Int32) (i : Nat) : bt (x &&& y) i = (bt x i && bt y i) := by unfold bt; rw [Int32.toBitVec_and, BitVec.getLsbD_and]
theorem b_xor (x y : Int32) (i : Nat) : bt (x ^^^ y) i = (bt x i ^^ bt y i) := by unfold bt; rw [Int32.toBitVec_xor, BitVec.getLsbD_xor]
theorem b_big {x : Int32} {i : Nat} (h : 32 ≤ i) : bt x i = false := BitVec.getLsbD_of_ge _ _ h
theorem b_m1 : ∀ i, i < 32 → bt (-1) i = true := by decide +kernel
theorem b_0 (i : Nat) : bt 0 i = false := BitVec.getLsbD_zero
theorem b_1 : ∀ i, i < 32 → bt 1 i = decide (i = 0) := by decide +kernel
theorem b_15 : ∀ i, i < 32 → bt 15 i = decide (i < 4) := by decide +kernel
theorem b_65535 : ∀ i, i < 32 → bt 65535 i = decide (i < 16) := by decide +kernel
theorem b_not (x : Int32) {i : Nat} (hi : i < 32) : bt (x ^^^ (-1)) i = !bt x i := by rw [b_xor, b_m1 i hi]; simp
theorem s_l : ∀ n, n < 32 → ((nI n &&& 31).toBitVec.smod 32).toNat = n := by decide +kernel
theorem b_shl (n : Nat) (hn : n < 32) (x : Int32) {i : Nat} (hi : i < 32) : bt (x <<< (nI n &&& 31)) i = (decide (n ≤ i) && bt x (i - n)) := by
  unfold bt
  rw [Int32.toBitVec_shiftLeft]
  show (x.toBitVec <<< ((nI n &&& 31).toBitVec.smod 32).toNat).getLsbD i = _
  rw [s_l n hn, BitVec.getLsbD_shiftLeft]
  rcases Nat.lt_or_ge i n with h | h
  · simp [h, Nat.not_le.mpr h]
  · simp [hi, h, Nat.not_lt.mpr h]
theorem b_sshr (n : Nat) (hn : n < 32) (x : Int32) {i : Nat} (hi : i < 32) : bt (x >>> (nI n &&& 31)) i = if n + i < 32 then bt x (n + i) else bt x 31 := by
  unfold bt
  rw [Int32.toBitVec_shiftRight]
  show (x.toBitVec.sshiftRight ((nI n &&& 31).toBitVec.smod 32).toNat).getLsbD i = _
  rw [s_l n hn, BitVec.getLsbD_sshiftRight, BitVec.msb_eq_getLsbD_last]
  simp [hi]
/-- bit k of x, as both programs ask for it -/
def bi (x k : Int32) : Int32 := (x >>> (k &&& 31)) &&& 1
theorem bi_bt (x : Int32) {k : Nat} (hk : k < 32) : bi x (nI k) = if bt x k then 1 else 0 := by
  apply b_ext
  intro i hi
  unfold bi
  rw [b_and, b_sshr k hk x hi, b_1 i hi]
  by_cases h0 : i = 0
  · subst h0
    simp only [Nat.add_zero, hk, if_true, decide_true, Bool.and_true]
    cases bt x k <;> simp [b_0, b_1]
  · simp only [h0, decide_false, Bool.and_false]
    cases bt x k <;> simp [b_0, b_1 i hi, h0]
theorem bi_1 {x : Int32} {k : Nat} (hk : k < 32) : bi x (nI k) = 1 ↔ bt x k = true := by
  rw [bi_bt x hk]; cases bt x k <;> simp
theorem bi_0 {x : Int32} {k : Nat} (hk : k < 32) : bi x (nI k) = 0 ↔ bt x k = false := by
  rw [bi_bt x hk]; cases bt x k <;> simp
theorem bi_01 (x k : Int32) (hk : ∃ j, j < 32 ∧ k = nI j) : bi x k = 0 ∨ bi x k = 1 := by
  obtain ⟨j, hj, rfl⟩ := hk
  rw [bi_bt x hj]; cases bt x j <;> simp
/-- the set of one square -/
def sg (k : Int32) : Int32 := (1 : Int32) <<< (k &&& 31)
theorem sg_bt {k i : Nat} (hk : k < 32) (hi : i < 32) : bt (sg (nI k)) i = decide (i = k) := by
  unfold sg
  rw [b_shl k hk 1 hi]
  by_cases h : k ≤ i
  · rw [b_1 (i - k) (by omega)]
    by_cases h2 : i = k
    · simp [h2]
    · simp [h2, show ¬ i - k = 0 by omega]
  · simp [h, show ¬ i = k by omega]
/-! places: four bits a man -/
def plc (p : Int32) (i : Nat) : Int32 := (p >>> (((4 : Int32) * nI i) &&& 31)) &&& 15
def mvd (p : Int32) (i : Nat) (s : Int32) : Int32 := (p &&& (((15 : Int32) <<< (((4 : Int32) * nI i) &&& 31)) ^^^ (-1))) ||| (s <<< (((4 : Int32) * nI i) &&& 31))
theorem p_4 (i : Nat) : (4 : Int32) * nI i = nI (4 * i) := pk_mul 4 i
theorem plc_bt (p : Int32) {i j : Nat} (hi : i < 4) (hj : j < 32) : bt (plc p i) j = (decide (j < 4) && bt p (4 * i + j)) := by
  unfold plc
  rw [p_4, b_and, b_sshr (4 * i) (by omega) p hj, b_15 j hj]
  by_cases h : j < 4
  · rw [if_pos (by omega)]; simp [h]
  · simp [h]
theorem p_placeOf (N : Nat) (p : Int32) (i : Nat) (h : Hp) : f_X7_placeOf N (nI i) p h = some (plc p i, h) := rfl
theorem p_moved (N : Nat) (p s : Int32) (i : Nat) (h : Hp) : f_X7_moved N p (nI i) s h = some (mvd p i s, h) := rfl
theorem p_bit (N : Nat) (x k : Int32) (h : Hp) : f_X7_bit N x k h = some (bi x k, h) := rfl
/-- a number below 16 by its bits -/
theorem b_lt16 : ∀ n, n < 16 → ∀ j, j < 32 → bt (nI n) j = (decide (j < 4) && n.testBit j) := by decide +kernel
theorem mvd_bt (p : Int32) {i n j : Nat} (hi : i < 4) (hn : n < 16) (hj : j < 32) : bt (mvd p i (nI n)) j = if 4 * i ≤ j ∧ j < 4 * i + 4 then n.testBit (j - 4 * i) else bt p j := by
  unfold mvd
  rw [p_4, b_or, b_and, b_not _ hj, b_shl (4 * i) (by omega) 15 hj, b_shl (4 * i) (by omega) _ hj]
  by_cases h : 4 * i ≤ j
  · rw [b_15 (j - 4 * i) (by omega), b_lt16 n hn (j - 4 * i) (by omega)]
    by_cases h2 : j < 4 * i + 4
    · simp [h, h2, show j - 4 * i < 4 by omega]
    · simp [h, h2, show ¬ j - 4 * i < 4 by omega]
  · simp [h]
theorem plc_mvd_self (p : Int32) {i n : Nat} (hi : i < 4) (hn : n < 16) : plc (mvd p i (nI n)) i = nI n := by
  apply b_ext
  intro j hj
  rw [plc_bt _ hi hj, b_lt16 n hn j hj]
  by_cases h : j < 4
  · rw [mvd_bt p hi hn (by omega), if_pos (by omega), show 4 * i + j - 4 * i = j by omega]
  · simp [h]
theorem plc_mvd_ne (p : Int32) {i k n : Nat} (hi : i < 4) (hk : k < 4) (hn : n < 16) (hik : k ≠ i) : plc (mvd p i (nI n)) k = plc p k := by
  apply b_ext
  intro j hj
  rw [plc_bt _ hk hj, plc_bt _ hk hj]
  by_cases h : j < 4
  · rw [mvd_bt p hi hn (by omega), if_neg (by omega)]
  · simp [h]
/-- a position of n men: nothing stands above their bits -/
def ps_ok (p : Int32) (n : Nat) : Prop := ∀ j, j < 32 → 4 * n ≤ j → bt p j = false
theorem ps_mvd {p : Int32} {i n k : Nat} (h : ps_ok p n) (hi : i < n) (hn : n ≤ 4) (hk : k < 16) : ps_ok (mvd p i (nI k)) n := by
  intro j hj hj2
  rw [mvd_bt p (by omega) hk hj, if_neg (by omega)]
  exact h j hj hj2
theorem ps_add {p : Int32} {n k : Nat} (h : ps_ok p n) (hn : n < 4) (hk : k < 16) : ps_ok (mvd p n (nI k)) (n + 1) := by
  intro j hj hj2
  rw [mvd_bt p hn hk hj, if_neg (by omega)]
  exact h j hj (by omega)
theorem ps_ext {p q : Int32} {n : Nat} (hp : ps_ok p n) (hq : ps_ok q n) (hn : n ≤ 4) (h : ∀ i, i < n → plc p i = plc q i) : p = q := by
  apply b_ext
  intro j hj
  by_cases hj2 : 4 * n ≤ j
  · rw [hp j hj hj2, hq j hj hj2]
  · have e := congrArg (fun x => bt x (j % 4)) (h (j / 4) (by omega))
    rw [plc_bt _ (by omega) (by omega), plc_bt _ (by omega) (by omega)] at e
    simpa [show j % 4 < 4 by omega, show 4 * (j / 4) + j % 4 = j by omega] using e
theorem plc_lt (p : Int32) {i : Nat} (hi : i < 4) : ∃ s, s < 16 ∧ plc p i = nI s := by
  unfold plc
  obtain ⟨j, h1, h2⟩ := pk_andE (p >>> (((4 : Int32) * nI i) &&& 31)) (m := 15) 4 (by decide +kernel)
  exact ⟨j, h1, h2⟩
