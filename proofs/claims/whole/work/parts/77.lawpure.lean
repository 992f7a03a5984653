/-! ===== the law, in pure words: every script answers 1 ===== -/
theorem SimS_law {fc fm : Hp → Option Rs} {h : Hp} (hC : CH h) (S : Sim fc fm h) : SimS fc fm h := by
  obtain ⟨r, h1, h2, a, b, c, d⟩ := S
  exact ⟨r, h1, h2, a, b, c, CH_fr d hC⟩
theorem law_if {c : Prop} [Decidable c] {A B : Option Rs} (h1 : c → ∃ h', A = some (1, h')) (h2 : ¬ c → ∃ h', B = some (1, h')) : ∃ h', (if c then A else B) = some (1, h') := by
  by_cases hc : c
  · rw [if_pos hc]; exact h1 hc
  · rw [if_neg hc]; exact h2 hc
theorem law_0 {fc fm F : Hp → Option Rs} {h : Hp} (S : SimS fc fm h) (K : ∀ h2, Inv h2 → CH h2 → ∃ h', F h2 = some (1, h')) : ∃ h', cl (fc h) (fun r1 h2 => cl (fm h2) (fun r3 h4 => if r1 = r3 then F h4 else some (0, h4))) = some (1, h') := by
  obtain ⟨r, h1, h2, a, b, c, d⟩ := S
  rw [a, p_cl, b, p_cl, if_pos rfl]
  exact K h2 c d
theorem law_1 {c1 : Prop} [Decidable c1] (b1 : c1) {fc fm F : Hp → Option Rs} {h : Hp} (S : SimS fc fm h) (K : ∀ h2, Inv h2 → CH h2 → ∃ h', F h2 = some (1, h')) : ∃ h', (if c1 then cl (fc h) (fun r1 h2 => if c1 then cl (fm h2) (fun r3 h4 => if r1 = r3 then F h4 else some (0, h4)) else none) else none) = some (1, h') := by
  obtain ⟨r, h1, h2, a, b, c, d⟩ := S
  rw [if_pos b1, a, p_cl, if_pos b1, b, p_cl, if_pos rfl]
  exact K h2 c d
theorem law_2 {c1 c2 : Prop} [Decidable c1] [Decidable c2] (b1 : c1) (b2 : c2) {fc fm F : Hp → Option Rs} {h : Hp} (S : SimS fc fm h) (K : ∀ h2, Inv h2 → CH h2 → ∃ h', F h2 = some (1, h')) : ∃ h', (if c1 then if c2 then cl (fc h) (fun r1 h2 => if c1 then if c2 then cl (fm h2) (fun r3 h4 => if r1 = r3 then F h4 else some (0, h4)) else none else none) else none else none) = some (1, h') := by
  obtain ⟨r, h1, h2, a, b, c, d⟩ := S
  rw [if_pos b1, if_pos b2, a, p_cl, if_pos b1, if_pos b2, b, p_cl, if_pos rfl]
  exact K h2 c d
theorem law_3 {c1 c2 c3 : Prop} [Decidable c1] [Decidable c2] [Decidable c3] (b1 : c1) (b2 : c2) (b3 : c3) {fc fm F : Hp → Option Rs} {h : Hp} (S : SimS fc fm h) (K : ∀ h2, Inv h2 → CH h2 → ∃ h', F h2 = some (1, h')) : ∃ h', (if c1 then if c2 then if c3 then cl (fc h) (fun r1 h2 => if c1 then if c2 then if c3 then cl (fm h2) (fun r3 h4 => if r1 = r3 then F h4 else some (0, h4)) else none else none else none) else none else none else none) = some (1, h') := by
  obtain ⟨r, h1, h2, a, b, c, d⟩ := S
  rw [if_pos b1, if_pos b2, if_pos b3, a, p_cl, if_pos b1, if_pos b2, if_pos b3, b, p_cl, if_pos rfl]
  exact K h2 c d
theorem law_end {L i : Nat} (hL : L ≤ 2048) (hi : i ≤ 2048) : (Int32.ofNat L - 4 < nI i) ↔ ¬ (i + 4 ≤ L) := by
  show (nI L - nI 4 < nI i) ↔ _
  rw [Int32.lt_iff_toInt_lt, nI_toInt (by omega), pk_sub_toInt (by omega) (by omega)]
  omega
set_option maxRecDepth 20000 in
theorem law_l (L : Nat) (hL : L ≤ 2048) (xs : Nat → Int32) (N : Nat) (hN : 60000 ≤ N) : ∀ (e i : Nat) (h : Hp), Inv h → CH h → i ≤ L → L - i < e → ∃ h', f_law_l18 L xs N e (nI i) h = some (1, h') := by
  intro e
  induction e with
  | zero => intro i h _ _ _ h2; omega
  | succ e ih =>
    intro i h hI hC hi he
    show ∃ h', f_law_b18 L xs N (f_law_l18 L xs N e) (nI i) h = _
    unfold f_law_b18
    refine law_if (fun _ => ⟨h, rfl⟩) (fun hc => ?_)
    have hc : i + 4 ≤ L := Nat.not_lt.mp (fun z => hc ((law_end hL (by omega)).mpr (by omega)))
    have go : ∀ h2, Inv h2 → CH h2 → ∃ h', f_law_b874 L xs N (f_law_l18 L xs N e) (nI i) h2 = some (1, h') := fun h2 i2 c2 => by
      unfold f_law_b874
      rw [p_lt, show nI i + 4 = nI (i + 4) from nI_add i 4]
      exact ih (i + 4) h2 i2 c2 (by omega) (by omega)
    have b0 : ib (nI i) L = true := p_ib (by omega) (by omega)
    have b1 : ib (nI i + 1) L = true := by rw [show nI i + 1 = nI (i + 1) from nI_add i 1]; exact p_ib (by omega) (by omega)
    have b2 : ib (nI i + 2) L = true := by rw [show nI i + 2 = nI (i + 2) from nI_add i 2]; exact p_ib (by omega) (by omega)
    have b3 : ib (nI i + 3) L = true := by rw [show nI i + 3 = nI (i + 3) from nI_add i 3]; exact p_ib (by omega) (by omega)
    refine law_if (fun _ => ?_) (fun z => absurd b0 z)
    refine law_if (fun _ => law_3 b1 b2 b3 (SimS_law hC (sim_write N (by omega) _ _ hI)) go) (fun _ => ?_)
    refine law_if (fun _ => law_0 (SimS_law hC (sim_erase N hI)) go) (fun _ => ?_)
    refine law_if (fun _ => law_0 (SimS_law hC (sim_fault N (by omega) hI)) go) (fun _ => ?_)
    refine law_if (fun _ => law_0 (sim_board N (by omega) hI hC) go) (fun _ => ?_)
    refine law_if (fun _ => law_2 b1 b2 (SimS_law hC (sim_square N (by omega) _ _ hI)) go) (fun _ => ?_)
    refine law_if (fun _ => law_2 b1 b2 (SimS_law hC (sim_man N _ _ hI)) go) (fun _ => ?_)
    refine law_if (fun _ => law_2 b1 b2 (SimS_law hC (sim_as N (by omega) _ _ hI)) go) (fun _ => ?_)
    refine law_if (fun _ => law_1 b1 (SimS_law hC (sim_may N (by omega) _ hI)) go) (fun _ => ?_)
    refine law_if (fun _ => law_2 b1 b2 (SimS_law hC (sim_hop N (by omega) _ _ hI)) go) (fun _ => ?_)
    refine law_if (fun _ => law_0 (SimS_law hC (sim_attacked N (by omega) hI)) go) (fun _ => ?_)
    refine law_if (fun _ => law_1 b1 (SimS_law hC (sim_keep N (by omega) _ hI)) go) (fun _ => ?_)
    refine law_if (fun _ => law_1 b1 (SimS_law hC (sim_back N (by omega) _ hI)) go) (fun _ => ?_)
    refine law_if (fun _ => law_2 b1 b2 (SimS_law hC (sim_net N (by omega) _ _ hI)) go) (fun _ => ?_)
    refine law_if (fun _ => law_2 b1 b2 (SimS_law hC (sim_part N (by omega) _ _ hI)) go) (fun _ => ?_)
    refine law_if (fun _ => law_2 b1 b2 (SimS_law hC (sim_shape N (by omega) _ _ hI)) go) (fun _ => ?_)
    refine law_if (fun _ => law_3 b1 b2 b3 (SimS_law hC (sim_ring N (by omega) _ _ _ hI)) go) (fun _ => ?_)
    refine law_if (fun _ => law_1 b1 (SimS_law hC (sim_turned N (by omega) _ hI)) go) (fun _ => ?_)
    refine law_if (fun _ => law_0 (sim_fewest N (by omega) hI hC) go) (fun _ => ?_)
    refine law_if (fun _ => law_2 b1 b2 (sim_way N (by omega) _ _ hI hC) go) (fun _ => ?_)
    refine law_if (fun _ => law_0 (sim_alike N (by omega) hI hC) go) (fun _ => ?_)
    refine law_if (fun _ => law_1 b1 (sim_many N (by omega) _ hI hC) go) (fun _ => ?_)
    refine law_if (fun _ => law_1 b1 (sim_farthest N (by omega) _ hI hC) go) (fun _ => ?_)
    refine law_if (fun _ => law_1 b1 (sim_left N (by omega) _ hI hC) go) (fun _ => ?_)
    refine law_if (fun _ => law_1 b1 (sim_added N (by omega) _ hI hC) go) (fun _ => ?_)
    refine law_if (fun _ => law_2 b1 b2 (SimS_law hC (sim_row N _ _ hI)) go) (fun _ => ?_)
    refine law_if (fun _ => law_0 (SimS_law hC (sim_burn N hI)) go) (fun _ => ?_)
    refine law_if (fun _ => law_0 (SimS_law hC (sim_judge N (by omega) hI)) go) (fun _ => ?_)
    refine law_if (fun _ => law_1 b1 (SimS_law hC (sim_count N (by omega) _ hI)) go) (fun _ => ?_)
    exact go h hI hC
theorem law_pure (L : Nat) (hL : L ≤ 2048) (xs : Nat → Int32) (h : Hp) (hI : Inv h) (hC : CH h) : ∃ h', f_law L xs 60000 h = some (1, h') := by
  unfold f_law
  rw [p_lt]
  exact law_l L hL xs 60000 (by omega) 60000 0 h hI hC (Nat.zero_le _) (by omega)
/-! ===== the start ===== -/
theorem hpS_CH : CH hpS := Or.inl rfl
theorem hpS_PQ {a : Nat → Int32} (p : Int32) (hp : p = 0) : ∃ P, PQ p a (3 * 3) 0 P := by
  subst hp
  exact ⟨fun _ => 0, ⟨fun j _ _ => b_0 j, fun i hi => absurd hi (Nat.not_lt_zero i)⟩, fun i hi => absurd hi (Nat.not_lt_zero i), fun i j hi => absurd hi (Nat.not_lt_zero i)⟩
theorem hpS_Inv : Inv hpS := by
  have n0 : ∀ i : Nat, ¬ i < 0 := Nat.not_lt_zero
  refine ⟨3, 3, 0, fun _ => 0, fun _ => 0, hp0.1 11, ⟨by unfold bd; omega, rfl, rfl, ⟨rfl, by omega, fun i hi => absurd hi (n0 i)⟩, rfl, ⟨by unfold bd; omega, rfl, rfl⟩, ⟨rfl, by omega, fun i hi => absurd hi (n0 i)⟩, rfl, rfl⟩, hpS_PQ _ rfl, hpS_PQ _ rfl, hpS_PQ _ rfl, ⟨0, by omega, rfl, rfl⟩, fun k hk => ?_, ⟨0, by omega, rfl, rfl, fun j hj => absurd hj (n0 j)⟩, ⟨0, by omega, rfl, rfl, fun j hj => absurd hj (n0 j)⟩⟩
  rcases lt2 hk with rfl | rfl
  · exact Or.inl ⟨rfl, rfl⟩
  · exact Or.inl ⟨rfl, rfl⟩
