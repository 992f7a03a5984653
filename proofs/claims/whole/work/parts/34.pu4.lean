/-! ===== men: who is where, who attacks whom, who may hop where ===== -/
/-- an or over the numbers below n -/
def orf (f : Nat → Int32) : Nat → Int32
  | 0 => 0
  | n + 1 => orf f n ||| f n
theorem orf_bt (f : Nat → Int32) (b : Nat) : ∀ n, bt (orf f n) b = true ↔ ∃ i, i < n ∧ bt (f i) b = true := by
  intro n
  induction n with
  | zero => simp [orf, b_0]
  | succ n ih =>
    show bt (orf f n ||| f n) b = true ↔ _
    rw [b_or, Bool.or_eq_true, ih]
    constructor
    · rintro (⟨i, h1, h2⟩ | h)
      · exact ⟨i, by omega, h2⟩
      · exact ⟨n, by omega, h⟩
    · rintro ⟨i, h1, h2⟩
      by_cases h : i = n
      · exact Or.inr (h ▸ h2)
      · exact Or.inl ⟨i, by omega, h2⟩
theorem orf_congr {f g : Nat → Int32} : ∀ {n : Nat}, (∀ i, i < n → f i = g i) → orf f n = orf g n
  | 0, _ => rfl
  | n + 1, h => by
    show orf f n ||| f n = orf g n ||| g n
    rw [orf_congr (fun i hi => h i (by omega)), h n (by omega)]
theorem bt_iff {x y : Int32} (h : ∀ b, b < 32 → (bt x b = true ↔ bt y b = true)) : x = y := b_ext (fun b hb => by
  have := h b hb
  cases hx : bt x b <;> cases hy : bt y b <;> simp_all)
/-- the squares that are taken -/
def tkn (P : Nat → Nat) (n : Nat) : Int32 := orf (fun i => sg (nI (P i))) n
/-- what the class's cells say of the men: n of them, of kinds kd and colours co -/
def BC (h : Hp) (n : Nat) (kd co : Nat → Nat) : Prop := h.1 1 4 = nI n ∧ n ≤ 4 ∧ ∀ i, i < n → h.1 2 i = nI (kd i) ∧ kd i < 4 ∧ h.1 3 i = nI (co i) ∧ co i < 2
/-- the same of the model's -/
def BM (h : Hp) (n : Nat) (kd co : Nat → Nat) : Prop := h.1 25 4 = nI n ∧ n ≤ 4 ∧ ∀ i, i < n → h.1 26 (4 * i) = nI (kd i) ∧ kd i < 4 ∧ h.1 26 (4 * i + 1) = nI (co i) ∧ co i < 2
/-- a position of the class, read as squares -/
def PC (p : Int32) (n : Nat) (P : Nat → Nat) : Prop := ps_ok p n ∧ ∀ i, i < n → plc p i = nI (P i) ∧ P i < 12
theorem PC_mvd {p : Int32} {n i s : Nat} {P : Nat → Nat} (h : PC p n P) (hn : n ≤ 4) (hi : i < n) (hs : s < 12) : PC (mvd p i (nI s)) n (fun j => if j = i then s else P j) := by
  refine ⟨ps_mvd h.1 hi hn (by omega), fun j hj => ?_⟩
  dsimp only
  by_cases hji : j = i
  · subst hji
    rw [plc_mvd_self p (by omega) (by omega), if_pos rfl]
    exact ⟨rfl, hs⟩
  · rw [plc_mvd_ne p (by omega) (by omega) (by omega) hji, if_neg hji]
    exact h.2 j hj
theorem pu_taken_l (o N : Nat) (h : Hp) {n : Nat} (hn : h.1 o 4 = nI n) (hn4 : n ≤ 4) {p : Int32} {P : Nat → Nat} (hp : PC p n P) : ∀ (m i : Nat), i ≤ n → n - i < m → f_X5_taken_l4 o N m p (tkn P i) (nI i) h = some (tkn P n, h) := by
  intro m
  induction m with
  | zero => intro i _ h2; omega
  | succ m ih =>
    intro i hi hm
    show f_X5_taken_b4 o N (f_X5_taken_l4 o N m) p (tkn P i) (nI i) h = _
    unfold f_X5_taken_b4
    rw [hn]
    by_cases hc : n ≤ i
    · have e : i = n := by omega
      subst e
      rw [if_pos (nI_le (Nat.le_refl _) (by omega))]
    · rw [if_neg (nI_ge (by omega) (by omega)), p_placeOf, p_cl, p_lt, p_lt, nI_1, (hp.2 i (by omega)).1]
      exact ih (i + 1) (by omega) (by omega)
theorem pu_taken (o N : Nat) (hN : 5 ≤ N) (h : Hp) {n : Nat} (hn : h.1 o 4 = nI n) (hn4 : n ≤ 4) {p : Int32} {P : Nat → Nat} (hp : PC p n P) : f_X5_taken o N p h = some (tkn P n, h) := by
  unfold f_X5_taken
  rw [p_lt, p_lt]
  exact pu_taken_l o N h hn hn4 hp N 0 (by omega) (by omega)
theorem pm_taken_l (w N : Nat) (h : Hp) {n : Nat} (hn : h.1 25 4 = nI n) (hn4 : n ≤ 4) {P : Nat → Nat} (hp : ∀ i, i < n → h.1 w i = nI (P i)) : ∀ (m i : Nat), i ≤ n → n - i < m → f_X8_takenBy_l4 w N m (tkn P i) (nI i) h = some (tkn P n, h) := by
  intro m
  induction m with
  | zero => intro i _ h2; omega
  | succ m ih =>
    intro i hi hm
    show f_X8_takenBy_b4 w N (f_X8_takenBy_l4 w N m) (tkn P i) (nI i) h = _
    unfold f_X8_takenBy_b4
    rw [hn]
    by_cases hc : n ≤ i
    · have e : i = n := by omega
      subst e
      rw [if_pos (nI_le (Nat.le_refl _) (by omega))]
    · rw [if_neg (nI_ge (by omega) (by omega)), if_pos (p_ib (by omega) (by omega)), p_lt, p_lt, nI_1, p_ix (by omega), hp i (by omega)]
      exact ih (i + 1) (by omega) (by omega)
theorem pm_taken (w N : Nat) (hN : 5 ≤ N) (h : Hp) {n : Nat} (hn : h.1 25 4 = nI n) (hn4 : n ≤ 4) {P : Nat → Nat} (hp : ∀ i, i < n → h.1 w i = nI (P i)) : f_X8_takenBy w N h = some (tkn P n, h) := by
  unfold f_X8_takenBy
  rw [p_lt, p_lt]
  exact pm_taken_l w N h hn hn4 hp N 0 (by omega) (by omega)
/-- the squares that man i reaches -/
def rcm (T : Nat → Int32) (n : Nat) (kd : Nat → Nat) (P : Nat → Nat) (ho : Int32) (i : Nat) : Int32 := rch T (kd i) (P i) ho (tkn P n)
/-- who is attacked -/
def atk (T : Nat → Int32) (n : Nat) (kd co : Nat → Nat) (P : Nat → Nat) (ho : Int32) : Int32 := orf (fun j => orf (fun i => if co i = co j then 0 else if bt (rcm T n kd P ho i) (P j) = true then sg (nI j) else 0) n) n
theorem if_bt (c : Prop) [Decidable c] (x y : Int32) (b : Nat) : bt (if c then x else y) b = if c then bt x b else bt y b := by split <;> rfl
theorem pu_att1 (N : Nat) (hN : 20 ≤ N) (h : Hp) {n : Nat} {kd co : Nat → Nat} (hB : BC h n kd co) {p ho : Int32} {P : Nat → Nat} (hp : PC p n P) (hT : Tok (h.1 11)) : ∀ (m i : Nat), i ≤ n → n - i < m → f_X1_attackedMen_l18 N m p ho (tkn P n) (orf (fun i => if co i = 0 then rcm (h.1 11) n kd P ho i else 0) i) (orf (fun i => if co i = 0 then 0 else rcm (h.1 11) n kd P ho i) i) (nI i) h = f_X1_attackedMen_l99 N N p (orf (fun i => if co i = 0 then rcm (h.1 11) n kd P ho i else 0) n) (orf (fun i => if co i = 0 then 0 else rcm (h.1 11) n kd P ho i) n) 0 0 h := by
  obtain ⟨hn, hn4, hB⟩ := hB
  intro m
  induction m with
  | zero => intro i _ h2; omega
  | succ m ih =>
    intro i hi hm
    show f_X1_attackedMen_b18 N (f_X1_attackedMen_l18 N m) p ho (tkn P n) _ _ (nI i) h = _
    unfold f_X1_attackedMen_b18 f_X1_attackedMen_b87
    rw [hn]
    by_cases hc : n ≤ i
    · have e : i = n := by omega
      subst e
      rw [if_pos (nI_le (Nat.le_refl _) (by omega)), p_lt, p_lt]
    · obtain ⟨b1, b2, b3, b4⟩ := hB i (by omega)
      rw [if_neg (nI_ge (by omega) (by omega)), if_pos (p_ib (by omega) (by omega)), p_placeOf, p_cl, p_ix (by omega), b1, (hp.2 i (by omega)).1, pu_reached N hN (kd i) (P i) b2 (hp.2 i (by omega)).2 ho _ h hT, p_cl, p_lt, if_pos (p_ib (by omega) (by omega)), b3]
      have step := ih (i + 1) (by omega) (by omega)
      by_cases c0 : co i = 0
      · rw [if_pos (by rw [c0]; rfl), p_lt, p_lt, nI_1]
        rw [← step]
        congr 1
        · show _ = orf _ i ||| _
          dsimp only
          rw [if_pos c0]
          rfl
        · show _ = orf _ i ||| _
          dsimp only
          rw [if_pos c0, or_0]
      · rw [if_neg (nI_ne0 (by omega) (by omega)), p_lt, p_lt, nI_1]
        rw [← step]
        congr 1
        · show _ = orf _ i ||| _
          dsimp only
          rw [if_neg c0, or_0]
        · show _ = orf _ i ||| _
          dsimp only
          rw [if_neg c0]
          rfl
theorem bi_shl {x : Int32} {q j : Nat} (hq : q < 32) (hj : j < 32) : bi x (nI q) <<< (nI j &&& 31) = if bt x q = true then sg (nI j) else 0 := by
  rw [bi_bt x hq]
  cases bt x q
  · simp only [Bool.false_eq_true, if_false]
    apply b_ext; intro i hi
    rw [b_shl j hj _ hi, b_0, b_0]; simp
  · simp only [if_true]; rfl
theorem pu_att2 (N : Nat) (h : Hp) {n : Nat} {kd co : Nat → Nat} (hB : BC h n kd co) {p A B : Int32} {P : Nat → Nat} (hp : PC p n P) : ∀ (m i : Nat), i ≤ n → n - i < m → f_X1_attackedMen_l99 N m p A B (orf (fun j => if bt (if co j = 0 then B else A) (P j) = true then sg (nI j) else 0) i) (nI i) h = some (orf (fun j => if bt (if co j = 0 then B else A) (P j) = true then sg (nI j) else 0) n, h) := by
  obtain ⟨hn, hn4, hB⟩ := hB
  intro m
  induction m with
  | zero => intro i _ h2; omega
  | succ m ih =>
    intro i hi hm
    show f_X1_attackedMen_b99 N (f_X1_attackedMen_l99 N m) p A B _ (nI i) h = _
    unfold f_X1_attackedMen_b99 f_X1_attackedMen_b131
    rw [hn]
    by_cases hc : n ≤ i
    · have e : i = n := by omega
      subst e
      rw [if_pos (nI_le (Nat.le_refl _) (by omega))]
    · obtain ⟨b1, b2, b3, b4⟩ := hB i (by omega)
      have hP := hp.2 i (by omega)
      rw [if_neg (nI_ge (by omega) (by omega)), if_pos (p_ib (by omega) (by omega)), p_ix (by omega), b3]
      have step := ih (i + 1) (by omega) (by omega)
      have key : ∀ s0 : Int32, s0 = (if co i = 0 then B else A) → (lt s0 (fun x1 => cl (f_X7_placeOf N (nI i) p h) (fun r2 h3 => cl (f_X7_bit N x1 r2 h3) (fun r4 h5 => lt ((orf (fun j => if bt (if co j = 0 then B else A) (P j) = true then sg (nI j) else 0) i) ||| (r4 <<< (nI i &&& 31))) (fun x6 => lt (nI i + 1) (fun x7 => f_X1_attackedMen_l99 N m p A B x6 x7 h5)))))) = some (orf (fun j => if bt (if co j = 0 then B else A) (P j) = true then sg (nI j) else 0) n, h) := by
        intro s0 hs
        subst hs
        rw [p_lt, p_placeOf, p_cl, p_bit, p_cl, p_lt, p_lt, nI_1, hP.1, bi_shl (by omega) (by omega)]
        exact step
      by_cases c0 : co i = 0
      · rw [if_pos (by rw [c0]; rfl)]
        exact key B (by rw [if_pos c0])
      · rw [if_neg (nI_ne0 (by omega) (by omega))]
        exact key A (by rw [if_neg c0])
theorem pu_attacked (N : Nat) (hN : 20 ≤ N) (h : Hp) {n : Nat} {kd co : Nat → Nat} (hB : BC h n kd co) {p ho : Int32} {P : Nat → Nat} (hp : PC p n P) (hT : Tok (h.1 11)) : f_X1_attackedMen N p ho h = some (atk (h.1 11) n kd co P ho, h) := by
  unfold f_X1_attackedMen
  have hn4 := hB.2.1
  rw [pu_taken 1 N (by omega) h hB.1 hB.2.1 hp, p_cl, p_lt, p_lt, p_lt, p_lt]
  have e1 := pu_att1 N hN h hB (ho := ho) hp hT N 0 (by omega) (by omega)
  have e2 := pu_att2 N h hB (A := orf (fun i => if co i = 0 then rcm (h.1 11) n kd P ho i else 0) n) (B := orf (fun i => if co i = 0 then 0 else rcm (h.1 11) n kd P ho i) n) hp N 0 (by omega) (by omega)
  refine e1.trans (e2.trans ?_)
  congr 2
  unfold atk
  apply orf_congr
  intro j hj
  apply bt_iff
  intro b hb
  rw [orf_bt]
  obtain ⟨-, -, -, c4⟩ := hB.2.2 j hj
  have key : bt (if co j = 0 then orf (fun i => if co i = 0 then 0 else rcm (h.1 11) n kd P ho i) n else orf (fun i => if co i = 0 then rcm (h.1 11) n kd P ho i else 0) n) (P j) = true ↔ ∃ i, i < n ∧ ¬ co i = co j ∧ bt (rcm (h.1 11) n kd P ho i) (P j) = true := by
    by_cases c0 : co j = 0
    · rw [if_pos c0, orf_bt]
      constructor
      · rintro ⟨i, h1, h2⟩
        by_cases c1 : co i = 0
        · rw [if_pos c1, b_0] at h2; cases h2
        · rw [if_neg c1] at h2; exact ⟨i, h1, by omega, h2⟩
      · rintro ⟨i, h1, h2, h3⟩
        exact ⟨i, h1, by rw [if_neg (by omega)]; exact h3⟩
    · rw [if_neg c0, orf_bt]
      constructor
      · rintro ⟨i, h1, h2⟩
        by_cases c1 : co i = 0
        · rw [if_pos c1] at h2; exact ⟨i, h1, by omega, h2⟩
        · rw [if_neg c1, b_0] at h2; cases h2
      · rintro ⟨i, h1, h2, h3⟩
        obtain ⟨-, -, -, d4⟩ := hB.2.2 i h1
        exact ⟨i, h1, by rw [if_pos (by omega)]; exact h3⟩
  constructor
  · intro hx
    by_cases hk : bt (if co j = 0 then orf (fun i => if co i = 0 then 0 else rcm (h.1 11) n kd P ho i) n else orf (fun i => if co i = 0 then rcm (h.1 11) n kd P ho i else 0) n) (P j) = true
    · rw [if_pos hk] at hx
      obtain ⟨i, h1, h2, h3⟩ := key.mp hk
      exact ⟨i, h1, by rw [if_neg h2, if_pos h3]; exact hx⟩
    · rw [if_neg hk, b_0] at hx; cases hx
  · rintro ⟨i, h1, h2⟩
    by_cases c1 : co i = co j
    · rw [if_pos c1, b_0] at h2; cases h2
    · rw [if_neg c1] at h2
      by_cases c2 : bt (rcm (h.1 11) n kd P ho i) (P j) = true
      · rw [if_pos c2] at h2
        rw [if_pos (key.mpr ⟨i, h1, c1, c2⟩)]
        exact h2
      · rw [if_neg c2, b_0] at h2; cases h2
