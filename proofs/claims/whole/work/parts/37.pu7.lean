/-! ===== square, man, as, hop, keep, back, row ===== -/
theorem IV_mk {h h' : Hp} {w g n : Nat} {kd co : Nat → Nat} {f : Nat → Int32} (hV : IV h w g n kd co f) (e1 : h'.1 1 = h.1 1) (e2 : h'.1 2 = h.1 2) (e3 : h'.1 3 = h.1 3) (e11 : h'.1 11 = h.1 11) (m : ∀ k, k < 5 → h'.1 25 k = h.1 25 k) (e26 : h'.1 26 = h.1 26) (hP : ∃ P, PQ (h'.1 0 13) (h'.1 31) (w * g) n P) (hH : IH h') (hK : ∀ k, k < 2 → IK h' (w * g) n k) (hR : IR h' (w * g) n) (hT : IT h') : IV h' w g n kd co f := by
  obtain ⟨hB, hS, hL, -⟩ := hV
  refine ⟨?_, ?_, ?_, hP, hH, hK, hR, hT⟩
  · unfold IB BC BM MB at *
    rw [m 0 (by decide), m 1 (by decide), m 2 (by decide), m 3 (by decide), m 4 (by decide), e1, e2, e3, e11, e26]
    exact hB
  · rw [e1, e26]; exact hS
  · rw [e1, e26]; exact hL
theorem IK_congr {h h' : Hp} {s n k : Nat} (e20 : h'.1 20 = h.1 20) (e21 : h'.1 21 = h.1 21) (e22 : h'.1 22 = h.1 22) (e32 : h'.1 32 = h.1 32) (e33 : h'.1 33 = h.1 33) (hK : IK h s n k) : IK h' s n k := by
  unfold IK at *; rw [e20, e21, e22, e32, e33]; exact hK
theorem IR_congr {h h' : Hp} {s n : Nat} (e0 : h'.1 0 12 = h.1 0 12) (e25 : h'.1 25 25 = h.1 25 25) (e23 : h'.1 23 = h.1 23) (e24 : h'.1 24 = h.1 24) (e34 : h'.1 34 = h.1 34) (hR : IR h s n) : IR h' s n := by
  unfold IR at *; rw [e0, e25, e23, e24, e34]; exact hR
theorem IT_congr {h h' : Hp} (e4 : h'.1 4 1 = h.1 4 1) (e25 : h'.1 25 6 = h.1 25 6) (e5 : h'.1 5 = h.1 5) (e27 : h'.1 27 = h.1 27) (hT : IT h) : IT h' := by
  unfold IT at *; rw [e4, e25, e5, e27]; exact hT
theorem IH_congr {h h' : Hp} (e0 : h'.1 0 14 = h.1 0 14) (e25 : h'.1 25 22 = h.1 25 22) (hH : IH h) : IH h' := by
  unfold IH at *; rw [e0, e25]; exact hH
/-! square -/
def lastm (P : Nat → Nat) (q : Nat) : Nat → Int32
  | 0 => -1
  | i + 1 => if P i = q then nI i else lastm P q i
theorem lastm_none {P : Nat → Nat} {q : Nat} : ∀ {n : Nat}, (∀ i, i < n → P i ≠ q) → lastm P q n = -1
  | 0, _ => rfl
  | n + 1, h => by
    show (if P n = q then nI n else lastm P q n) = -1
    rw [if_neg (h n (by omega)), lastm_none (fun i hi => h i (by omega))]
theorem lastm_at {P : Nat → Nat} {q i : Nat} : ∀ {n : Nat}, i < n → P i = q → (∀ a b, a < n → b < n → P a = P b → a = b) → lastm P q n = nI i
  | 0, h, _, _ => by omega
  | n + 1, h, hq, hj => by
    show (if P n = q then nI n else lastm P q n) = nI i
    by_cases c : P n = q
    · rw [if_pos c, hj n i (by omega) h (by rw [c, hq])]
    · have hi : i ≠ n := fun z => c (by rw [← z]; exact hq)
      rw [if_neg c, lastm_at (by omega) hq (fun a b ha hb => hj a b (by omega) (by omega))]
theorem pu_manOf_l (o N : Nat) (h : Hp) {n q : Nat} (hn : h.1 o 4 = nI n) (hn4 : n ≤ 4) (hq : q < 12) {p : Int32} {P : Nat → Nat} (hp : PC p n P) (hj : ∀ a b, a < n → b < n → P a = P b → a = b) : ∀ (m i : Nat), i ≤ n → n - i < m → (∀ j, j < i → P j ≠ q) → f_X5_manOf_l2 o N m p (nI q) (nI i) h = some (lastm P q n, h) := by
  intro m
  induction m with
  | zero => intro i _ h2; omega
  | succ m ih =>
    intro i hi hm hno
    show f_X5_manOf_b2 o N (f_X5_manOf_l2 o N m) p (nI q) (nI i) h = _
    unfold f_X5_manOf_b2
    rw [hn]
    by_cases hc : n ≤ i
    · have e : i = n := by omega
      subst e
      rw [if_pos (nI_le (Nat.le_refl _) (by omega)), lastm_none hno]
    · obtain ⟨p1, p2⟩ := hp.2 i (by omega)
      rw [if_neg (nI_ge (by omega) (by omega)), p_placeOf, p_cl, p1]
      by_cases c : P i = q
      · rw [if_pos (by rw [c]), lastm_at (i := i) (by omega) c hj]
      · rw [if_neg (by rw [nI_eq (by omega) (by omega)]; exact c), p_lt, nI_1]
        refine ih (i + 1) (by omega) (by omega) (fun j hj2 => ?_)
        by_cases hji : j = i
        · rw [hji]; exact c
        · exact hno j (by omega)
theorem pu_manOf (o N : Nat) (hN : 5 ≤ N) (h : Hp) {n q : Nat} (hn : h.1 o 4 = nI n) (hn4 : n ≤ 4) (hq : q < 12) {p : Int32} {P : Nat → Nat} (hp : PC p n P) (hj : ∀ a b, a < n → b < n → P a = P b → a = b) : f_X5_manOf o N p (nI q) h = some (lastm P q n, h) := by
  unfold f_X5_manOf
  rw [p_lt]
  exact pu_manOf_l o N h hn hn4 hq hp hj N 0 (by omega) (by omega) (fun j hj => by omega)
theorem p_4x3 (i : Nat) : (4 : Int32) * nI i + 3 = nI (4 * i + 3) := by rw [p_4x, show (3 : Int32) = nI 3 from rfl, nI_add]
theorem pm_square_l (N : Nat) (h : Hp) {n q : Nat} (hn : h.1 25 4 = nI n) (hn4 : n ≤ 4) (hq : q < 12) {P L : Nat → Nat} (hp : ∀ i, i < n → h.1 31 i = nI (P i) ∧ P i < 12) (hl : ∀ i, i < n → h.1 26 (4 * i + 3) = nI (L i) ∧ L i < 12) (what : Int32) : ∀ (m i : Nat), i ≤ n → n - i < m → f_X8_square_l19 N m (nI q) what (lastm P q i) (lastm L q i) (nI i) h = some (if what = 0 then bi (h.1 25 2) (nI q) else if what = 1 then lastm P q n else if what = 2 then lastm L q n else -3, h) := by
  intro m
  induction m with
  | zero => intro i _ h2; omega
  | succ m ih =>
    intro i hi hm
    show f_X8_square_b19 N (f_X8_square_l19 N m) (nI q) what (lastm P q i) (lastm L q i) (nI i) h = _
    unfold f_X8_square_b19 f_X8_square_b112
    rw [hn]
    by_cases hc : n ≤ i
    · have e : i = n := by omega
      subst e
      rw [if_pos (nI_le (Nat.le_refl _) (by omega))]
      by_cases c0 : what = 0
      · rw [if_pos c0, if_pos c0]; rfl
      · rw [if_neg c0, if_neg c0]
        by_cases c1 : what = 1
        · rw [if_pos c1, if_pos c1]
        · rw [if_neg c1, if_neg c1]
          by_cases c2 : what = 2
          · rw [if_pos c2, if_pos c2]
          · rw [if_neg c2, if_neg c2]
    · obtain ⟨p1, p2⟩ := hp i (by omega)
      obtain ⟨l1, l2⟩ := hl i (by omega)
      have step := ih (i + 1) (by omega) (by omega)
      rw [if_neg (nI_ge (by omega) (by omega)), if_pos (p_ib (by omega) (by omega)), p_ix (by omega), p1]
      have key : ∀ s0, s0 = lastm P q (i + 1) → f_X8_square_b45 N (f_X8_square_l19 N m) (nI q) what (lastm L q i) (nI i) s0 h = some (if what = 0 then bi (h.1 25 2) (nI q) else if what = 1 then lastm P q n else if what = 2 then lastm L q n else -3, h) := by
        intro s0 hs
        subst hs
        unfold f_X8_square_b45 f_X8_square_b68
        rw [p_lt, p_4x3, if_pos (p_ib (by omega) (by omega)), p_ix (by omega), l1]
        by_cases c : L i = q
        · rw [if_pos (by rw [c]), p_lt, p_lt, nI_1]
          have e : lastm L q (i + 1) = nI i := by show (if L i = q then nI i else _) = _; rw [if_pos c]
          rw [← e]; exact step
        · rw [if_neg (by rw [nI_eq (by omega) (by omega)]; exact c), p_lt, p_lt, nI_1]
          have e : lastm L q (i + 1) = lastm L q i := by show (if L i = q then nI i else _) = _; rw [if_neg c]
          rw [← e]; exact step
      by_cases c : P i = q
      · rw [if_pos (by rw [c])]
        exact key _ (by show _ = (if P i = q then nI i else _); rw [if_pos c])
      · rw [if_neg (by rw [nI_eq (by omega) (by omega)]; exact c)]
        exact key _ (by show _ = (if P i = q then nI i else _); rw [if_neg c])
theorem sim_square (N : Nat) (hN : 20 ≤ N) (a b : Int32) {h : Hp} (hI : Inv h) : Sim (f_X7_square N a b) (f_X8_square N a b) h := by
  obtain ⟨w, g, n, kd, co, f, hV⟩ := id hI
  obtain ⟨hB, -, ⟨L, hL⟩, ⟨P, hP⟩, -⟩ := id hV
  obtain ⟨b1, b2, b3, b4, b5, b6, b7, b8, b9⟩ := id hB
  have hn4 := b4.2.1
  have h12 := b1.2.2.2.2
  rcases n_case a (s := w * g) (by omega) with ⟨q, hq, rfl⟩ | ha
  · refine Sim_same (if b = 0 then bi (h.1 1 2) (nI q) else if b = 1 then lastm P q n else if b = 2 then lastm L q n else -3) hI ?_ ?_
    · unfold f_X7_square
      rw [pu_noSq_in N h b2 b3 (by omega) hq, p_cl, if_pos rfl]
      by_cases c0 : b = 0
      · rw [if_pos c0, if_pos c0, p_bit, p_cl]
      · rw [if_neg c0, if_neg c0]
        by_cases c1 : b = 1
        · rw [if_pos c1, if_pos c1, pu_manOf 1 N (by omega) h b4.1 hn4 (by omega) hP.1 hP.2.2, p_cl]
        · rw [if_neg c1, if_neg c1]
          by_cases c2 : b = 2
          · rw [if_pos c2, if_pos c2, pu_manOf 1 N (by omega) h b4.1 hn4 (by omega) hL.1 hL.2.2, p_cl]
          · rw [if_neg c2, if_neg c2]
    · unfold f_X8_square
      rw [pm_isSq_in N h b6.2.1 b6.2.2 (by omega) hq, p_cl, if_neg (by decide), p_lt, p_lt, p_lt, ← b8]
      exact pm_square_l N h b7.1 hn4 (by omega) (fun i hi => ⟨(hP.2.1 i hi).1, by have := (hP.2.1 i hi).2; omega⟩) (fun i hi => ⟨(hL.2.1 i hi).1, by have := (hL.2.1 i hi).2; omega⟩) b N 0 (by omega) (by omega)
  · refine Sim_same (-2) hI ?_ ?_
    · unfold f_X7_square
      rw [pu_noSq_out N h b2 b3 ha, p_cl, if_neg (by decide)]
    · unfold f_X8_square
      rw [pm_isSq_out N h b6.2.1 b6.2.2 (by omega) ha, p_cl, if_pos rfl]
/-! man -/
theorem sim_man (N : Nat) (a b : Int32) {h : Hp} (hI : Inv h) : Sim (f_X7_man N a b) (f_X8_man N a b) h := by
  obtain ⟨w, g, n, kd, co, f, hV⟩ := id hI
  obtain ⟨hB, -, ⟨L, hL⟩, ⟨P, hP⟩, -⟩ := id hV
  obtain ⟨b1, b2, b3, b4, b5, b6, b7, b8, b9⟩ := id hB
  have hn4 := b4.2.1
  rcases n_case a (s := n) (by omega) with ⟨i, hi, rfl⟩ | ha
  · obtain ⟨c1, c2, c3, c4⟩ := b4.2.2 i hi
    obtain ⟨d1, d2, d3, d4⟩ := b7.2.2 i hi
    refine Sim_same (if b = 0 then nI (kd i) else if b = 1 then nI (co i) else if b = 2 then nI (P i) else if b = 3 then nI (L i) else -3) hI ?_ ?_
    · unfold f_X7_man
      rw [pu_noMan_in N h b4.1 (by omega) hi, p_cl, if_pos rfl]
      by_cases e0 : b = 0
      · rw [if_pos e0, if_pos e0, if_pos (p_ib (by omega) (by omega)), p_ix (by omega), c1]
      · rw [if_neg e0, if_neg e0]
        by_cases e1 : b = 1
        · rw [if_pos e1, if_pos e1, if_pos (p_ib (by omega) (by omega)), p_ix (by omega), c3]
        · rw [if_neg e1, if_neg e1]
          by_cases e2 : b = 2
          · rw [if_pos e2, if_pos e2, p_placeOf, p_cl, (hP.1.2 i hi).1]
          · rw [if_neg e2, if_neg e2]
            by_cases e3 : b = 3
            · rw [if_pos e3, if_pos e3, p_placeOf, p_cl, (hL.1.2 i hi).1]
            · rw [if_neg e3, if_neg e3]
    · unfold f_X8_man f_X8_man_b49
      rw [pm_isMan_in N h b7.1 (by omega) hi, p_cl, if_neg (by decide), pm_in, p_cl]
      rcases n_case b (s := 4) (by omega) with ⟨j, hj, rfl⟩ | hb
      · rw [if_neg (nI_pos (n := j) (by omega)), if_neg (show ¬ (3 : Int32) < nI j from nI_nlt (a := 3) (by omega) (by omega)), if_neg (by decide)]
        have hjj : j = 0 ∨ j = 1 ∨ j = 2 ∨ j = 3 := by omega
        rcases hjj with rfl | rfl | rfl | rfl
        · rw [if_neg (by decide), p_4x, show nI 0 = (0 : Int32) from rfl, show nI (4 * i) + 0 = nI (4 * i) by rw [show (0 : Int32) = nI 0 from rfl, nI_add]; rfl, if_pos (p_ib (by omega) (by omega)), p_ix (by omega), d1, if_pos rfl]
        · rw [if_neg (by decide), p_4x, nI_add, if_pos (p_ib (by omega) (by omega)), p_ix (by omega), d3, if_neg (by decide), if_pos (by decide)]
        · rw [if_pos (by decide), if_pos (p_ib (by omega) (by omega)), p_ix (by omega), (hP.2.1 i hi).1, if_neg (by decide), if_neg (by decide), if_pos (by decide)]
        · rw [if_neg (by decide), p_4x, nI_add, if_pos (p_ib (by omega) (by omega)), p_ix (by omega), show h.1 26 (4 * i + 3) = nI (L i) from (hL.2.1 i hi).1, if_neg (by decide), if_neg (by decide), if_neg (by decide), if_pos (by decide)]
      · have hne : ∀ j, j < 4 → ¬ b = nI j := by
          intro j hj z
          subst z
          rcases hb with hb | hb
          · exact nI_pos (n := j) (by omega) hb
          · exact nI_ge (a := j) (b := 4) (by omega) (by omega) hb
        have fin : some ((-3 : Int32), h) = some (if b = 0 then nI (kd i) else if b = 1 then nI (co i) else if b = 2 then nI (P i) else if b = 3 then nI (L i) else -3, h) := by
          rw [if_neg (show ¬ b = 0 from hne 0 (by omega)), if_neg (show ¬ b = 1 from hne 1 (by omega)), if_neg (show ¬ b = 2 from hne 2 (by omega)), if_neg (show ¬ b = 3 from hne 3 (by omega))]
        rw [← fin]
        by_cases h0 : b < 0
        · rw [if_pos h0, if_pos rfl]
        · rw [if_neg h0, if_pos (show (3 : Int32) < b by have := n_m1g (n := 4) (by omega) h0 (hb.resolve_left h0); exact this), if_pos rfl]
  · refine Sim_same (-2) hI ?_ ?_
    · unfold f_X7_man
      rw [pu_noMan_out N h b4.1 ha, p_cl, if_neg (by decide)]
    · unfold f_X8_man
      rw [pm_isMan_out N h b7.1 (by omega) ha, p_cl, if_pos rfl]
/-! hop -/
theorem mayI_bt {T : Nat → Int32} {n : Nat} {kd co : Nat → Nat} {P : Nat → Nat} {ho lw : Int32} {i t q : Nat} (hq : q < 32) (h : bt (mayI T n kd co P ho lw i t) q = true) : q < 12 ∧ bt (opn T n kd co P ho lw i t) q = true := by
  obtain ⟨s, hs, h2⟩ := (orf_bt _ _ _).mp h
  split at h2
  · rename_i c
    rw [sg_bt (by omega) hq] at h2
    have e := of_decide_eq_true h2
    subst e
    exact ⟨hs, c.1⟩
  · rw [b_0] at h2; cases h2
theorem tkn_bt {P : Nat → Nat} {n j : Nat} (hj : j < n) (h12 : P j < 12) : bt (tkn P n) (P j) = true := (orf_bt _ _ _).mpr ⟨j, hj, by rw [sg_bt (by omega) (by omega)]; simp⟩
theorem opn_free {T : Nat → Int32} {n : Nat} {kd co : Nat → Nat} {P : Nat → Nat} {ho lw : Int32} {i t q : Nat} (hP : ∀ j, j < n → P j < 12) (hq : q < 32) (h : bt (opn T n kd co P ho lw i t) q = true) : ∀ j, j < n → P j ≠ q := by
  intro j hj e
  unfold opn at h
  split at h
  · rw [b_0] at h; cases h
  · rw [b_and, b_not _ hq, ← e, tkn_bt hj (hP j hj)] at h
    simp at h
theorem PQ_hop {p : Int32} {a : Nat → Int32} {s n i q : Nat} {P : Nat → Nat} (hP : PQ p a s n P) (hn : n ≤ 4) (hs : s ≤ 12) (hi : i < n) (hq : q < s) (hf : ∀ j, j < n → P j ≠ q) {a' : Nat → Int32} (ha : ∀ j, j < n → a' j = if j = i then nI q else a j) : PQ (mvd p i (nI q)) a' s n (mvP P i q) := by
  refine ⟨PC_mvd hP.1 hn hi (by omega), fun j hj => ?_, fun x y hx hy e => ?_⟩
  · rw [ha j hj]
    unfold mvP
    by_cases c : j = i
    · rw [if_pos c, if_pos c]; exact ⟨rfl, hq⟩
    · rw [if_neg c, if_neg c]; exact hP.2.1 j hj
  · unfold mvP at e
    by_cases c1 : x = i <;> by_cases c2 : y = i
    · omega
    · rw [if_pos c1, if_neg c2] at e; exact absurd e.symm (hf y hy)
    · rw [if_neg c1, if_pos c2] at e; exact absurd e (hf x hx)
    · rw [if_neg c1, if_neg c2] at e; exact hP.2.2 x y hx hy e
theorem sim_hop (N : Nat) (hN : 20 ≤ N) (a b : Int32) {h : Hp} (hI : Inv h) : Sim (f_X7_hop N a b) (f_X8_hop N a b) h := by
  obtain ⟨w, g, n, kd, co, f, hV⟩ := id hI
  obtain ⟨hB, hS, hL, ⟨P, hP⟩, ⟨m, hm, m1, m2⟩, hK, hR, hT⟩ := id hV
  obtain ⟨b1, b2, b3, b4, b5, b6, b7, b8, b9⟩ := id hB
  have hn4 := b4.2.1
  have h12 := b1.2.2.2.2
  have unk : (a < 0 ∨ nI n ≤ a) ∨ (b < 0 ∨ nI (w * g) ≤ b) → Sim (f_X7_hop N a b) (f_X8_hop N a b) h := by
    intro hu
    refine Sim_same (-2) hI ?_ ?_
    · unfold f_X7_hop f_X7_hop_b16
      rcases n_case a (s := n) (by omega) with ⟨i, hi, rfl⟩ | ha
      · rw [pu_noMan_in N h b4.1 (by omega) hi, p_cl, if_pos rfl]
        rcases hu with hu | hu
        · rcases hu with hu | hu
          · exact absurd hu (nI_pos (by omega))
          · exact absurd hu (nI_ge hi (by omega))
        · rw [pu_noSq_out N h b2 b3 hu, p_cl, if_neg (by decide)]
      · rw [pu_noMan_out N h b4.1 ha, p_cl, if_neg (by decide)]
    · unfold f_X8_hop f_X8_hop_b16
      rcases n_case a (s := n) (by omega) with ⟨i, hi, rfl⟩ | ha
      · rw [pm_isMan_in N h b7.1 (by omega) hi, p_cl, if_neg (by decide)]
        rcases hu with hu | hu
        · rcases hu with hu | hu
          · exact absurd hu (nI_pos (by omega))
          · exact absurd hu (nI_ge hi (by omega))
        · rw [pm_isSq_out N h b6.2.1 b6.2.2 (by omega) hu, p_cl, if_pos rfl]
      · rw [pm_isMan_out N h b7.1 (by omega) ha, p_cl, if_pos rfl]
  rcases n_case a (s := n) (by omega) with ⟨i, hi, rfl⟩ | ha
  rotate_left
  · exact unk (Or.inl ha)
  rcases n_case b (s := w * g) (by omega) with ⟨q, hq, rfl⟩ | hb
  rotate_left
  · exact unk (Or.inr hb)
  have cls : ∀ K : Int32 → Hp → Option Rs, cl (f_X1_allowed N (nI i) (h.1 0 13) (h.1 0 14) (h.1 1 2) h) K = K (mayI (stt w g f) n kd co P (h.1 1 2) (h.1 1 3) i (m % 2)) h := by
    intro K
    rw [pu_allowed N hN h b4 hP.1 (IB_T hB) hi (t := m % 2) (by rw [m1]; exact turn_and (by omega)) (by omega), p_cl, b5]
  have mdl : ∀ K : Int32 → Hp → Option Rs, cl (f_X8_mayOf 31 N (nI i) (h.1 25 22 - h.1 25 22 / 2 * 2) h) K = K (mayI (stt w g f) n kd co P (h.1 1 2) (h.1 1 3) i (m % 2)) h := by
    intro K
    rw [m2, turn_rem (by omega), pm_mayOf 31 N (by decide) (by decide) hN h b6 f b7 hP.2.1 hi (by omega), p_cl, b8, b9]
  generalize hM : mayI (stt w g f) n kd co P (h.1 1 2) (h.1 1 3) i (m % 2) = M at cls mdl
  by_cases c1 : bi M (nI q) = 0
  · refine Sim_same (-4) hI ?_ ?_
    · unfold f_X7_hop
      rw [pu_noMan_in N h b4.1 (by omega) hi, p_cl, if_pos rfl, pu_noSq_in N h b2 b3 (by omega) hq, p_cl, if_pos rfl, cls, p_bit, p_cl, if_pos c1]
    · unfold f_X8_hop
      rw [pm_isMan_in N h b7.1 (by omega) hi, p_cl, if_neg (by decide), pm_isSq_in N h b6.2.1 b6.2.2 (by omega) hq, p_cl, if_neg (by decide), if_pos (by decide), mdl, pm_has, p_cl, if_neg (show ¬ bi M (nI q) = 1 by rw [c1]; decide), if_pos rfl]
  · have c1' : bi M (nI q) = 1 := (bi_01 M (nI q) ⟨q, by omega, rfl⟩).resolve_left c1
    by_cases c2 : m = 9999
    · refine Sim_same (-5) hI ?_ ?_
      · unfold f_X7_hop
        rw [pu_noMan_in N h b4.1 (by omega) hi, p_cl, if_pos rfl, pu_noSq_in N h b2 b3 (by omega) hq, p_cl, if_pos rfl, cls, p_bit, p_cl, if_neg c1, m1, c2, if_neg (by decide)]
      · unfold f_X8_hop
        rw [pm_isMan_in N h b7.1 (by omega) hi, p_cl, if_neg (by decide), pm_isSq_in N h b6.2.1 b6.2.2 (by omega) hq, p_cl, if_neg (by decide), if_pos (by decide), mdl, pm_has, p_cl, if_pos c1', if_neg (by decide), m2, c2, if_pos (by decide)]
    · have hfree : ∀ j, j < n → P j ≠ q := by
        have x1 := (bi_1 (x := M) (k := q) (by omega)).mp c1'
        rw [← hM] at x1
        exact opn_free (fun j hj => by have := (hP.2.1 j hj).2; omega) (by omega) (mayI_bt (by omega) x1).2
      refine ⟨nI (m + 1), wr (wr h 0 13 (mvd (h.1 0 13) i (nI q))) 0 14 (nI (m + 1)), wr (wr (wr (wr h 0 13 (mvd (h.1 0 13) i (nI q))) 0 14 (nI (m + 1))) 31 i (nI q)) 25 22 (nI (m + 1)), ?_, ?_, ?_, ?_⟩
      · unfold f_X7_hop
        rw [pu_noMan_in N h b4.1 (by omega) hi, p_cl, if_pos rfl, pu_noSq_in N h b2 b3 (by omega) hq, p_cl, if_pos rfl, cls, p_bit, p_cl, if_neg c1, m1, if_pos (show nI m < 9999 from nI_lt (b := 9999) (by omega) (by omega)), p_moved, p_cl, p_lt, p_lt, p_wrs, p_wrk _ _ _ _ (by decide), m1, nI_1]
      · generalize hh : wr (wr h 0 13 (mvd (h.1 0 13) i (nI q))) 0 14 (nI (m + 1)) = h1
        have cc : ∀ c, c ≠ 0 → h1.1 c = h.1 c := fun c hc => by rw [← hh, p_wro _ _ _ _ hc, p_wro _ _ _ _ hc]
        have hM1 : MB h1 w g := by unfold MB; rw [cc 25 (by decide)]; exact b6
        have hB1 : BM h1 n kd co := by unfold BM; rw [cc 25 (by decide), cc 26 (by decide)]; exact b7
        unfold f_X8_hop
        rw [pm_isMan_in N h1 hB1.1 (by omega) hi, p_cl, if_neg (by decide), pm_isSq_in N h1 hM1.2.1 hM1.2.2 (by omega) hq, p_cl, if_neg (by decide), if_pos (by decide), cc 25 (by decide), m2, turn_rem (by omega), pm_mayOf 31 N (by decide) (by decide) hN h1 hM1 f hB1 (P := P) (by rw [cc 31 (by decide)]; exact hP.2.1) hi (by omega), p_cl, cc 25 (by decide), b8, b9, hM, pm_has, p_cl, if_pos c1', if_neg (by decide), cc 25 (by decide), m2, if_neg (show ¬ nI m = 9999 by rw [show (9999 : Int32) = nI 9999 from rfl, nI_eq (by omega) (by omega)]; exact c2), if_pos (p_ib (by omega) (by omega)), p_lt, p_lt, p_ix (by omega), p_wrs, p_wro _ _ _ _ (by decide), cc 25 (by decide), m2, nI_1]
      · refine ⟨w, g, n, kd, co, f, ?_⟩
        have c : ∀ a, a ≠ 0 → a ≠ 25 → a ≠ 31 → (wr (wr (wr (wr h 0 13 (mvd (h.1 0 13) i (nI q))) 0 14 (nI (m + 1))) 31 i (nI q)) 25 22 (nI (m + 1))).1 a = h.1 a := fun a h1 h2 h3 => by rw [p_wro _ _ _ _ h2, p_wro _ _ _ _ h3, p_wro _ _ _ _ h1, p_wro _ _ _ _ h1]
        have mm : ∀ k, k ≠ 22 → (wr (wr (wr (wr h 0 13 (mvd (h.1 0 13) i (nI q))) 0 14 (nI (m + 1))) 31 i (nI q)) 25 22 (nI (m + 1))).1 25 k = h.1 25 k := fun k hk => by rw [p_wrk _ _ _ _ hk, p_wro _ _ _ _ (by decide), p_wro _ _ _ _ (by decide), p_wro _ _ _ _ (by decide)]
        refine IV_mk hV (c 1 (by decide) (by decide) (by decide)) (c 2 (by decide) (by decide) (by decide)) (c 3 (by decide) (by decide) (by decide)) (c 11 (by decide) (by decide) (by decide)) (fun k hk => mm k (by omega)) (c 26 (by decide) (by decide) (by decide)) ?_ ?_ (fun k hk => IK_congr (c 20 (by decide) (by decide) (by decide)) (c 21 (by decide) (by decide) (by decide)) (c 22 (by decide) (by decide) (by decide)) (c 32 (by decide) (by decide) (by decide)) (c 33 (by decide) (by decide) (by decide)) (hK k hk)) ?_ ?_
        · refine ⟨mvP P i q, ?_⟩
          rw [p_wro _ _ _ _ (by decide), p_wro _ _ _ _ (by decide), p_wrk _ _ _ _ (by decide), p_wrs]
          refine PQ_hop hP hn4 h12 hi hq hfree (fun j hj => ?_)
          rw [p_wro _ _ _ _ (by decide)]
          by_cases c3 : j = i
          · rw [c3, p_wrs, if_pos rfl]
          · rw [p_wrk _ _ _ _ c3, p_wro _ _ _ _ (by decide), p_wro _ _ _ _ (by decide), if_neg c3]
        · refine ⟨m + 1, by omega, ?_, ?_⟩
          · rw [p_wro _ _ _ _ (by decide), p_wro _ _ _ _ (by decide), p_wrs]
          · rw [p_wrs]
        · refine IR_congr ?_ (mm 25 (by decide)) (c 23 (by decide) (by decide) (by decide)) (c 24 (by decide) (by decide) (by decide)) (c 34 (by decide) (by decide) (by decide)) hR
          rw [p_wro _ _ _ _ (by decide), p_wro _ _ _ _ (by decide), p_wrk _ _ _ _ (by decide), p_wrk _ _ _ _ (by decide)]
        · exact IT_congr (by rw [c 4 (by decide) (by decide) (by decide)]) (mm 6 (by decide)) (c 5 (by decide) (by decide) (by decide)) (c 27 (by decide) (by decide) (by decide)) hT
      · intro c hc
        rw [p_wro _ _ _ _ (fun z => by subst z; revert hc; decide), p_wro _ _ _ _ (fun z => by subst z; revert hc; decide), p_wro _ _ _ _ (fun z => by subst z; revert hc; decide), p_wro _ _ _ _ (fun z => by subst z; revert hc; decide)]
