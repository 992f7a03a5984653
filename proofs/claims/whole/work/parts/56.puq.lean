/-! ===== left, added ===== -/
theorem or_and_back {ho : Int32} {q : Nat} (hq : q < 32) (h : bt ho q = false) : (ho ||| sg (nI q)) &&& (sg (nI q) ^^^ (-1)) = ho := by
  apply bt_iff
  intro b hb
  rw [b_and, b_or, b_not _ hb, sg_bt hq hb, Bool.and_eq_true, Bool.or_eq_true]
  by_cases e : b = q
  · subst e; simp [h]
  · simp [e]
theorem and_or_back {ho : Int32} {q : Nat} (hq : q < 32) (h : bt ho q = true) : (ho &&& (sg (nI q) ^^^ (-1))) ||| sg (nI q) = ho := by
  apply bt_iff
  intro b hb
  rw [b_or, b_and, b_not _ hb, sg_bt hq hb]
  by_cases e : b = q
  · subst e; simp [h]
  · simp [e]
theorem pm_left_l (N : Nat) (h : Hp) {n q : Nat} (hn : h.1 25 4 = nI n) (hn4 : n ≤ 4) (hq : q < 12) {P L : Nat → Nat} (hP : ∀ i, i < n → h.1 31 i = nI (P i) ∧ P i < 12) (hL : ∀ i, i < n → h.1 26 (4 * i + 3) = nI (L i) ∧ L i < 12) : ∀ (e i : Nat) (b : Bool), i ≤ n → n - i < e → f_X8_left_l22 N e (nI q) (b2i b) (nI i) h = if (b || anyr (fun i => decide (P i = q) || decide (L i = q)) (n - i) i) = true then some (-4, h) else cl (f_X8_fewestBy N 0 (wr h 25 2 (h.1 25 2 ||| sg (nI q)))) (fun r2 h3 => some (r2, wr h3 25 2 (h3.1 25 2 &&& (sg (nI q) ^^^ (-1))))) := by
  intro e
  induction e with
  | zero => intro i b _ h2; omega
  | succ e ih =>
    intro i b hi he
    show f_X8_left_b22 N (f_X8_left_l22 N e) (nI q) (b2i b) (nI i) h = _
    unfold f_X8_left_b22 f_X8_left_b58 f_X8_left_b63
    rw [hn]
    by_cases hc : i = n
    · subst hc
      rw [if_pos (nI_le (Nat.le_refl _) (by omega)), Nat.sub_self]
      simp only [p_lt]
      cases b
      · rw [if_pos (by decide)]; rfl
      · rw [if_neg (by decide)]; rfl
    · have p1 := hP i (by omega)
      have l1 := hL i (by omega)
      obtain ⟨r, hr⟩ : ∃ r, n - i = r + 1 := ⟨n - i - 1, by omega⟩
      have s1 := ih (i + 1) true (by omega) (by omega)
      have s0 := ih (i + 1) false (by omega) (by omega)
      rw [show n - (i + 1) = r by omega] at s1 s0
      rw [if_neg (nI_ge (by omega) (by omega)), hr]
      simp only [p_lt, nI_1]
      show _ = if (b || ((decide (P i = q) || decide (L i = q)) || anyr (fun i => decide (P i = q) || decide (L i = q)) r (i + 1))) = true then _ else _
      cases b
      · rw [if_pos (by decide), if_pos (p_ib (by omega) (by omega)), p_ix (by omega), p1.1, p_4x3, if_pos (p_ib (by omega) (by omega)), p_ix (by omega), l1.1]
        by_cases c1 : P i = q
        · rw [if_pos (by rw [c1]), decide_eq_true c1]
          exact s1
        · rw [if_neg (by rw [nI_eq (by omega) (by omega)]; exact c1), decide_eq_false c1]
          by_cases c2 : L i = q
          · rw [if_pos (by rw [c2]), decide_eq_true c2]
            exact s1
          · rw [if_neg (by rw [nI_eq (by omega) (by omega)]; exact c2), decide_eq_false c2]
            exact s0
      · rw [if_neg (by decide)]
        exact s1
/-- the model's search with other holes, and the holes put back -/
theorem sim_other (N : Nat) (hN : 60000 ≤ N) {h h1 : Hp} {ho : Int32} {w g m : Nat} {f : Nat → Int32} {l gl : List Nat} {Q : List Nd} (Y : SY h h1 ho w g m f l gl Q) (back : Int32 → Int32) (hb : back ho = h1.1 25 2) : ∃ h2, cl (f_X8_fewestBy N 0 (wr h1 25 2 ho)) (fun r2 h3 => some (r2, wr h3 25 2 (back (h3.1 25 2)))) = some (depM Q (lowf (fun j => decide ((Q.getD j d0).sq = gl)) Q.length 0), h2) ∧ Inv h2 ∧ CH h2 := by
  obtain ⟨h2, e2, F2⟩ := pm_fewestBy N hN Y (h1' := wr h1 25 2 ho) (fun c hc => by rw [p_wro _ _ _ _ hc]) (fun k hk => by rw [p_wrk _ _ _ _ hk]) (by rw [p_wrs]) false
  rw [low_home Y] at e2
  have e25 : h2.1 25 2 = ho := by rw [F2.2 2 (by decide), p_wrs]
  have hJ := SY_inv Y (h2 := wr h2 25 2 (back (h2.1 25 2))) (fun c hc hc2 => by rw [p_wro _ _ _ _ hc, F2.1 c hc hc2, p_wro _ _ _ _ hc]) (fun k hk => by
    by_cases e : k = 2
    · rw [e, p_wrs, e25, hb]
    · rw [p_wrk _ _ _ _ e, F2.2 k hk, p_wrk _ _ _ _ e])
  exact ⟨_, by rw [show (0 : Int32) = b2i false from rfl, e2, p_cl], hJ.1, hJ.2⟩
theorem sim_left (N : Nat) (hN : 60000 ≤ N) (a : Int32) {h : Hp} (hI : Inv h) (hC : CH h) : SimS (f_X7_left N a) (f_X8_left N a) h := by
  obtain ⟨w, g, n, kd, co, f, hV⟩ := id hI
  obtain ⟨hB, -, ⟨L, hL⟩, ⟨P, hP⟩, -⟩ := id hV
  obtain ⟨b1, b2, b3, b4, b5, b6, b7, b8, b9⟩ := id hB
  have h12 := b1.2.2.2.2
  have hn4 := b4.2.1
  rcases n_case a (s := w * g) (by omega) with ⟨q, hq, rfl⟩ | ha
  rotate_left
  · refine SimS_same (-2) hI hC ?_ ?_
    · unfold f_X7_left
      rw [pu_noSq_out N h b2 b3 ha, p_cl, if_neg n10]
    · unfold f_X8_left
      rw [pm_isSq_out N h b6.2.1 b6.2.2 (by omega) ha, p_cl, if_pos rfl]
  have used : bt ((h.1 1 2 ||| tkn P n) ||| tkn L n) q = (bt (h.1 1 2) q || anyr (fun i => decide (P i = q) || decide (L i = q)) n 0) := by
    rw [b_or, b_or, Bool.or_assoc]
    congr 1
    have key : (bt (tkn P n) q || bt (tkn L n) q) = true ↔ anyr (fun i => decide (P i = q) || decide (L i = q)) n 0 = true := by
      rw [Bool.or_eq_true, anyr_iff]
      constructor
      · rintro (z | z)
        · obtain ⟨i, i1, i2⟩ := (orf_bt _ _ _).mp z
          rw [sg_bt (by have := (hP.1.2 i i1).2; omega) (by omega)] at i2
          exact ⟨i, by omega, by omega, by rw [decide_eq_true (of_decide_eq_true i2).symm]; rfl⟩
        · obtain ⟨i, i1, i2⟩ := (orf_bt _ _ _).mp z
          rw [sg_bt (by have := (hL.1.2 i i1).2; omega) (by omega)] at i2
          exact ⟨i, by omega, by omega, by rw [decide_eq_true (of_decide_eq_true i2).symm]; simp⟩
      · rintro ⟨i, i1, i2, i3⟩
        rw [Bool.or_eq_true] at i3
        rcases i3 with i3 | i3
        · left
          exact (orf_bt _ _ _).mpr ⟨i, by omega, by rw [of_decide_eq_true i3]; exact sg_self (by omega)⟩
        · right
          exact (orf_bt _ _ _).mpr ⟨i, by omega, by rw [of_decide_eq_true i3]; exact sg_self (by omega)⟩
    cases hx : (bt (tkn P n) q || bt (tkn L n) q) <;> cases hy : anyr (fun i => decide (P i = q) || decide (L i = q)) n 0
    · rfl
    · rw [key.mpr hy] at hx; cases hx
    · rw [key.mp hx] at hy; cases hy
    · rfl
  have mP : ∀ i, i < n → h.1 31 i = nI (P i) ∧ P i < 12 := fun i hi => ⟨(hP.2.1 i hi).1, (hP.1.2 i hi).2⟩
  have mL : ∀ i, i < n → h.1 26 (4 * i + 3) = nI (L i) ∧ L i < 12 := fun i hi => ⟨(hL.2.1 i hi).1, (hL.1.2 i hi).2⟩
  have hb2 : ∀ x : Int32, (if bi x (nI q) = 1 then (1 : Int32) else 0) = b2i (bt x q) := fun x => by
    cases hx : bt x q with
    | true => rw [bi_e1 (by omega) hx]; rfl
    | false => rw [bi_e0 (by omega) (by rw [hx]; decide)]; rfl
  by_cases cu : bt ((h.1 1 2 ||| tkn P n) ||| tkn L n) q = true
  · refine SimS_same (-4) hI hC ?_ ?_
    · unfold f_X7_left
      rw [pu_noSq_in N h b2 b3 (by omega) hq, p_cl, if_pos rfl, pu_taken 1 N (by omega) h b4.1 hn4 hP.1, p_cl, pu_taken 1 N (by omega) h b4.1 hn4 hL.1, p_cl, p_lt, p_bit, p_cl, bi_e1 (by omega) cu, if_pos rfl]
    · unfold f_X8_left
      rw [pm_isSq_in N h b6.2.1 b6.2.2 (by omega) hq, p_cl, if_neg n10, pm_has, p_cl, p_lt, p_lt, b8, hb2]
      have e := pm_left_l N h b7.1 hn4 (show q < 12 by omega) mP mL N 0 (bt (h.1 1 2) q) (by omega) (by omega)
      rw [Nat.sub_zero, ← used, if_pos cu] at e
      exact e
  · obtain ⟨w', g', m, f', l, gl, Q, h1, e1, Y⟩ := srch N (by omega) hI hC (h.1 1 2 ||| sg (nI q))
    have f25 := Y.fr 25 (by omega)
    have hnot : bt (h.1 1 2) q = false := by
      cases hx : bt (h.1 1 2) q with
      | false => rfl
      | true => rw [used, hx] at cu; exact absurd rfl cu
    obtain ⟨h2, e2, I2, C2⟩ := sim_other N hN Y (fun x => x &&& (sg (nI q) ^^^ (-1))) (by rw [or_and_back (by omega) hnot, f25]; exact b8.symm)
    refine ⟨depM Q (lowf (fun j => decide ((Q.getD j d0).sq = gl)) Q.length 0), h1, h2, ?_, ?_, I2, C2⟩
    · unfold f_X7_left
      rw [pu_noSq_in N h b2 b3 (by omega) hq, p_cl, if_pos rfl, pu_taken 1 N (by omega) h b4.1 hn4 hP.1, p_cl, pu_taken 1 N (by omega) h b4.1 hn4 hL.1, p_cl, p_lt, p_bit, p_cl, bi_e0 (by omega) cu, if_neg n01]
      show cl (f_X4_explore N (h.1 0 13) (h.1 0 14) (h.1 1 2 ||| sg (nI q)) h) _ = _
      rw [e1, p_cl]
      exact cls_few N (by omega) Y
    · have hM1 : MB h1 w g := by unfold MB; rw [f25]; exact b6
      unfold f_X8_left
      rw [pm_isSq_in N h1 hM1.2.1 hM1.2.2 (by omega) hq, p_cl, if_neg n10, pm_has, p_cl, p_lt, p_lt, f25, b8, hb2]
      have e := pm_left_l N h1 (n := n) (by rw [f25]; exact b7.1) hn4 (show q < 12 by omega) (P := P) (L := L) (fun i hi => by rw [Y.fr 31 (by omega)]; exact mP i hi) (fun i hi => by rw [Y.fr 26 (by omega)]; exact mL i hi) N 0 (bt (h.1 1 2) q) (by omega) (by omega)
      rw [Nat.sub_zero, ← used, if_neg cu, f25, b8] at e
      exact e.trans e2
theorem sim_added (N : Nat) (hN : 60000 ≤ N) (a : Int32) {h : Hp} (hI : Inv h) (hC : CH h) : SimS (f_X7_added N a) (f_X8_added N a) h := by
  obtain ⟨w, g, n, kd, co, f, hV⟩ := id hI
  have hB := hV.1
  obtain ⟨b1, b2, b3, b4, b5, b6, b7, b8, b9⟩ := id hB
  have h12 := b1.2.2.2.2
  rcases n_case a (s := w * g) (by omega) with ⟨q, hq, rfl⟩ | ha
  rotate_left
  · refine SimS_same (-2) hI hC ?_ ?_
    · unfold f_X7_added
      rw [pu_noSq_out N h b2 b3 ha, p_cl, if_neg n10]
    · unfold f_X8_added
      rw [pm_isSq_out N h b6.2.1 b6.2.2 (by omega) ha, p_cl, if_pos rfl]
  by_cases cu : bt (h.1 1 2) q = true
  rotate_left
  · refine SimS_same (-4) hI hC ?_ ?_
    · unfold f_X7_added
      rw [pu_noSq_in N h b2 b3 (by omega) hq, p_cl, if_pos rfl, p_bit, p_cl, bi_e0 (by omega) cu, if_pos rfl]
    · unfold f_X8_added
      rw [pm_isSq_in N h b6.2.1 b6.2.2 (by omega) hq, p_cl, if_neg n10, pm_has, p_cl, b8, bi_e0 (by omega) cu, if_neg n01, if_pos rfl]
  obtain ⟨w', g', m, f', l, gl, Q, h1, e1, Y⟩ := srch N (by omega) hI hC (h.1 1 2 &&& (sg (nI q) ^^^ (-1)))
  have f25 := Y.fr 25 (by omega)
  obtain ⟨h2, e2, I2, C2⟩ := sim_other N hN Y (fun x => x ||| sg (nI q)) (by rw [and_or_back (by omega) cu, f25]; exact b8.symm)
  refine ⟨depM Q (lowf (fun j => decide ((Q.getD j d0).sq = gl)) Q.length 0), h1, h2, ?_, ?_, I2, C2⟩
  · unfold f_X7_added
    rw [pu_noSq_in N h b2 b3 (by omega) hq, p_cl, if_pos rfl, p_bit, p_cl, bi_e1 (by omega) cu, if_neg n10]
    show cl (f_X4_explore N (h.1 0 13) (h.1 0 14) (h.1 1 2 &&& (sg (nI q) ^^^ (-1))) h) _ = _
    rw [e1, p_cl]
    exact cls_few N (by omega) Y
  · have hM1 : MB h1 w g := by unfold MB; rw [f25]; exact b6
    unfold f_X8_added
    rw [pm_isSq_in N h1 hM1.2.1 hM1.2.2 (by omega) hq, p_cl, if_neg n10, pm_has, p_cl, f25, b8, bi_e1 (by omega) cu, if_pos rfl, if_neg n10]
    simp only [p_lt]
    exact e2
/-! ===== way ===== -/
theorem plc_xor (a b : Int32) {i : Nat} (hi : i < 4) : plc ((a ^^^ b) &&& 65535) i = 0 ↔ plc a i = plc b i := by
  have key : ∀ j, j < 4 → bt (plc ((a ^^^ b) &&& 65535) i) j = (bt (plc a i) j ^^ bt (plc b i) j) := by
    intro j hj
    rw [plc_bt _ hi (by omega), plc_bt _ hi (by omega), plc_bt _ hi (by omega), b_and, b_xor, b_65535 _ (by omega)]
    simp [hj, show 4 * i + j < 16 by omega]
  constructor
  · intro h
    apply b_ext
    intro j hj
    by_cases c : j < 4
    · have := key j c
      rw [h, b_0] at this
      cases hx : bt (plc a i) j <;> cases hy : bt (plc b i) j <;> rw [hx, hy] at this <;> first | rfl | cases this
    · rw [plc_bt _ hi hj, plc_bt _ hi hj]; simp [c]
  · intro h
    apply b_ext
    intro j hj
    rw [b_0]
    by_cases c : j < 4
    · rw [key j c, h]; simp
    · rw [plc_bt _ hi hj]; simp [c]
/-- the class's answer at the found hop -/
theorem pu_hop_end (N : Nat) (hN : 20 ≤ N) {p : Pm} {z t0 : Nat} {Q : List Nd} (V : VQ p z t0 Q) {h : Hp} (R : RC h Q) (hn : h.1 1 4 = nI p.n) {j : Nat} (h0 : 0 < j) (hj : j < Q.length) (what : Int32) : f_X4_hopTowards_b54 N what (nI j) h = some (if what = 0 then nI (Q.getD j d0).mn else nI (Q.getD j d0).ms, h) := by
  have hlen := VQ_len V
  obtain ⟨a1, a2, a3, a4, a5, a6⟩ := V.par j h0 hj
  have o := V.ok _ (getD_in hj)
  have op := V.ok _ (getD_in (show (Q.getD j d0).pa < Q.length by omega))
  have rj := R.2 j hj
  have rp := R.2 (Q.getD j d0).pa (by omega)
  have hn4 := o.1.2.1
  have r18 : h.1 18 j = nI (Q.getD j d0).pa := by rw [rj.2.2, if_neg (by omega)]
  have gset := gP_set (s := (Q.getD j d0).ms) op.1.1 a3
  rw [← a5] at gset
  have gmn : gP (Q.getD j d0).sq (Q.getD j d0).mn = (Q.getD j d0).ms := by rw [gset]; unfold mvP; rw [if_pos rfl]
  have goth : ∀ i, i ≠ (Q.getD j d0).mn → gP (Q.getD j d0).sq i = gP (Q.getD (Q.getD j d0).pa d0).sq i := fun i hi => by rw [gset]; unfold mvP; rw [if_neg hi]
  have loop : ∀ (e i : Nat), i ≤ (Q.getD j d0).mn → (Q.getD j d0).mn - i < e → f_X4_hopTowards_l99 N e what (nI j) ((nI (cdN (Q.getD j d0).sq (Q.getD j d0).tn) ^^^ nI (cdN (Q.getD (Q.getD j d0).pa d0).sq (Q.getD (Q.getD j d0).pa d0).tn)) &&& 65535) (nI i) h = some (if what = 0 then nI (Q.getD j d0).mn else nI (Q.getD j d0).ms, h) := by
    intro e
    induction e with
    | zero => intro i _ h2; omega
    | succ e ih =>
      intro i hi he
      show f_X4_hopTowards_b99 N (f_X4_hopTowards_l99 N e) what (nI j) _ (nI i) h = _
      unfold f_X4_hopTowards_b99 f_X4_hopTowards_b142
      have pj : plc (nI (cdN (Q.getD j d0).sq (Q.getD j d0).tn)) i = nI (gP (Q.getD j d0).sq i) := plc_c16 o.1 o.2.2.2.1 (by omega)
      have pp : plc (nI (cdN (Q.getD (Q.getD j d0).pa d0).sq (Q.getD (Q.getD j d0).pa d0).tn)) i = nI (gP (Q.getD (Q.getD j d0).pa d0).sq i) := plc_c16 op.1 op.2.2.2.1 (by omega)
      have gl1 := gP_lt (i := i) o.1
      have gl2 := gP_lt (i := i) op.1
      rw [hn, if_neg (nI_ge (by omega) (by omega)), p_placeOf, p_cl]
      by_cases c : i = (Q.getD j d0).mn
      · have hne : ¬ plc ((nI (cdN (Q.getD j d0).sq (Q.getD j d0).tn) ^^^ nI (cdN (Q.getD (Q.getD j d0).pa d0).sq (Q.getD (Q.getD j d0).pa d0).tn)) &&& 65535) i = 0 := by
          rw [plc_xor _ _ (by omega), pj, pp, nI_eq (by omega) (by omega)]
          rw [c, gmn]
          exact Ne.symm a6
        rw [if_neg hne, if_pos (p_ib (show j < 23760 by omega) (by omega)), p_placeOf, p_cl, p_ix (by omega), rj.1, pj, ite_some]
        rw [c, gmn]
      · have heq : plc ((nI (cdN (Q.getD j d0).sq (Q.getD j d0).tn) ^^^ nI (cdN (Q.getD (Q.getD j d0).pa d0).sq (Q.getD (Q.getD j d0).pa d0).tn)) &&& 65535) i = 0 := by
          rw [plc_xor _ _ (by omega), pj, pp, goth i c]
        rw [if_pos heq, p_lt, nI_1]
        exact ih (i + 1) (by omega) (by omega)
  unfold f_X4_hopTowards_b54
  rw [if_neg (nI_pos (n := j) (by omega)), if_pos (p_ib (show j < 23760 by omega) (by omega)), p_ix (by omega), r18, if_pos (nI_pos' (by omega)), if_pos (p_ib (show j < 23760 by omega) (by omega)), if_pos (p_ib (show j < 23760 by omega) (by omega)), if_pos (p_ib (show (Q.getD j d0).pa < 23760 by omega) (by omega)), p_lt, p_lt, p_ix (by omega), rj.1, rp.1]
  exact loop N 0 (by omega) (by omega)
/-- both walk back along parents to the same hop -/
theorem way_back (N : Nat) (hN : 20 ≤ N) {p : Pm} {z t0 : Nat} {Q : List Nd} (V : VQ p z t0 Q) {h h2 : Hp} (R : RC h Q) (hn : h.1 1 4 = nI p.n) (M : RM p.n h2 Q) {i : Nat} (what : Int32) : ∀ (r d j : Nat), d = i + r → j < Q.length → (Q.getD j d0).dp = d + 1 → ∃ v, (∀ e, r < e → f_X4_hopTowards_l28 N e (nI i) what (nI j) (nI d) h = some (v, h)) ∧ ∀ e, r < e → f_X8_way_l39 N e (nI i) what (nI (mcX (Q.getD j d0))) h2 = some (v, h2) := by
  have hlen := VQ_len V
  intro r
  induction r with
  | zero =>
    intro d j hd hj hdp
    have hdj := V.dj j hj
    have h0 : 0 < j := by
      rcases Nat.eq_zero_or_pos j with z | z
      · subst z; rw [V.d1] at hdp; omega
      · exact z
    obtain ⟨a1, a2, a3, a4, a5, a6⟩ := V.par j h0 hj
    have o := V.ok _ (getD_in hj)
    have hm : mcX (Q.getD j d0) < 41472 := mc_lt o.1 o.2.2.2.1
    have mj := M.2.1 j hj
    have hn4 := o.1.2.1
    refine ⟨if what = 0 then nI (Q.getD j d0).mn else nI (Q.getD j d0).ms, fun e he => ?_, fun e he => ?_⟩
    · obtain ⟨e, rfl⟩ : ∃ x, e = x + 1 := ⟨e - 1, by omega⟩
      show f_X4_hopTowards_b28 N (f_X4_hopTowards_l28 N e) (nI i) what (nI j) (nI d) h = _
      unfold f_X4_hopTowards_b28
      rw [if_pos (nI_le (by omega) (by omega))]
      exact pu_hop_end N hN V R hn h0 hj what
    · obtain ⟨e, rfl⟩ : ∃ x, e = x + 1 := ⟨e - 1, by omega⟩
      show f_X8_way_b39 N (f_X8_way_l39 N e) (nI i) what (nI (mcX (Q.getD j d0))) h2 = _
      unfold f_X8_way_b39 f_X8_way_b86
      rw [if_pos (p_ib hm (by omega)), p_ix (by omega), mj.2.1, hdp, nI_1, if_pos (nI_le (by omega) (by omega)), if_pos (p_ib hm (by omega)), if_pos (show ¬ (12 : Int32) = 0 by decide), if_pos (p_ib hm (by omega)), if_pos (show ¬ (12 : Int32) = 0 by decide), (mj.2.2 h0).2, show (12 : Int32) = nI 12 from rfl, pk_rem (by omega) (by omega) (by omega), pk_div (by omega) (by omega) (by omega), show (12 * (Q.getD j d0).mn + (Q.getD j d0).ms) / 12 = (Q.getD j d0).mn by omega, show (12 * (Q.getD j d0).mn + (Q.getD j d0).ms) % 12 = (Q.getD j d0).ms by omega, ite_some]
  | succ r ih =>
    intro d j hd hj hdp
    have hdj := V.dj j hj
    have h0 : 0 < j := by
      rcases Nat.eq_zero_or_pos j with z | z
      · subst z; rw [V.d1] at hdp; omega
      · exact z
    obtain ⟨a1, a2, a3, a4, a5, a6⟩ := V.par j h0 hj
    have o := V.ok _ (getD_in hj)
    have hm : mcX (Q.getD j d0) < 41472 := mc_lt o.1 o.2.2.2.1
    have mj := M.2.1 j hj
    have rj := R.2 j hj
    have r18 : h.1 18 j = nI (Q.getD j d0).pa := by rw [rj.2.2, if_neg (by omega)]
    obtain ⟨d, rfl⟩ : ∃ x, d = x + 1 := ⟨d - 1, by omega⟩
    obtain ⟨v, v1, v2⟩ := ih d (Q.getD j d0).pa (by omega) (by omega) (by omega)
    refine ⟨v, fun e he => ?_, fun e he => ?_⟩
    · obtain ⟨e, rfl⟩ : ∃ x, e = x + 1 := ⟨e - 1, by omega⟩
      show f_X4_hopTowards_b28 N (f_X4_hopTowards_l28 N e) (nI i) what (nI j) (nI (d + 1)) h = _
      unfold f_X4_hopTowards_b28
      rw [if_neg (nI_ge (by omega) (by omega)), if_neg (nI_pos (by omega)), if_pos (p_ib (show j < 23760 by omega) (by omega)), p_lt, p_lt, p_ix (by omega), r18, pk_m1]
      exact v1 e (by omega)
    · obtain ⟨e, rfl⟩ : ∃ x, e = x + 1 := ⟨e - 1, by omega⟩
      show f_X8_way_b39 N (f_X8_way_l39 N e) (nI i) what (nI (mcX (Q.getD j d0))) h2 = _
      unfold f_X8_way_b39
      rw [if_pos (p_ib hm (by omega)), p_ix (by omega), mj.2.1, hdp, nI_1, if_neg (nI_ge (by omega) (by omega)), if_pos (p_ib hm (by omega)), p_lt, (mj.2.2 h0).1]
      exact v2 e (by omega)
theorem sim_way (N : Nat) (hN : 60000 ≤ N) (a b : Int32) {h : Hp} (hI : Inv h) (hC : CH h) : SimS (f_X7_way N a b) (f_X8_way N a b) h := by
  by_cases ha : a < 0
  · refine SimS_same (-3) hI hC ?_ ?_
    · unfold f_X7_way f_X7_way_b13; rw [if_pos ha]
    · unfold f_X8_way f_X8_way_b13; rw [if_pos ha]
  rcases n_case b (s := 2) (by omega) with ⟨k, hk, rfl⟩ | hb
  rotate_left
  · refine SimS_same (-3) hI hC ?_ ?_
    · unfold f_X7_way f_X7_way_b13
      rw [if_neg ha]
      by_cases h0 : b < 0
      · rw [if_pos h0]
      · rw [if_neg h0, if_neg (show ¬ b ≤ 1 from Int32.not_le.mpr (n_m1g (n := 2) (by omega) h0 (hb.resolve_left h0)))]
    · unfold f_X8_way f_X8_way_b13
      rw [if_neg ha, pm_in, p_cl]
      by_cases h0 : b < 0
      · rw [if_pos h0, if_pos rfl]
      · rw [if_neg h0, if_pos (show (1 : Int32) < b from n_m1g (n := 2) (by omega) h0 (hb.resolve_left h0)), if_pos rfl]
  obtain ⟨i, hi31, rfl⟩ := nI_of ha
  obtain ⟨w, g, m, f, l, gl, Q, h1, e1, Y⟩ := srch N (by omega) hI hC (h.1 1 2)
  obtain ⟨h2, e2, F2, R2⟩ := pm_firstHome N hN Y (h1' := h1) (fun _ _ => rfl) (fun _ _ => rfl) (SY_self Y) false
  rw [low_home Y] at e2
  have hJ := SY_inv Y F2.1 F2.2
  have K := QK_of Y.vq
  have hlen := K.len
  have hn1 : h1.1 1 4 = nI (pmH h (h.1 1 2)).n := by rw [Y.fr 1 (by omega)]; exact Y.sx.cq.bc.1
  have cfirst := pu_firstHome N (by omega) h1 K Y.rc (gl := gl) (by rw [Y.fr 1 (by omega)]; exact Y.sx.go) Y.sx.okg
  generalize lowf (fun j => decide ((Q.getD j d0).sq = gl)) Q.length 0 = r at *
  have cls : f_X7_way N (nI i) (nI k) h = cl (f_X4_hopTowards N (resC r Q.length) (nI i) (nI k) h1) (fun r4 h5 => some (r4, h5)) := by
    unfold f_X7_way
    rw [if_neg ha, if_neg (nI_pos (n := k) (by omega)), if_pos (show nI k ≤ 1 from nI_le (b := 1) (by omega) (by omega)), e1, p_cl, cfirst, p_cl]
  have mdl : f_X8_way N (nI i) (nI k) h1 = (if resM Q r = -1 then f_X8_way_b37 N h2 else if ib (resM Q r) 41472 = true then if nI i < (h2.1 35 (ix (resM Q r))) then f_X8_way_l39 N N (nI i) (nI k) (resM Q r) h2 else f_X8_way_b37 N h2 else none) := by
    unfold f_X8_way
    rw [if_neg ha, pm_in, p_cl, if_neg (nI_pos (n := k) (by omega)), if_neg (show ¬ (1 : Int32) < nI k from nI_nlt (a := 1) (by omega) (by omega)), if_neg n10, show (0 : Int32) = b2i false from rfl, e2, p_cl, p_lt]
  by_cases c : r < Q.length
  · have o := K.ok r c
    have hm : mcX (Q.getD r d0) < 41472 := mc_lt o.1 o.2
    have hdj := K.dj r c
    have er : resM Q r = nI (mcX (Q.getD r d0)) := by unfold resM; rw [if_pos c]
    have erc : resC r Q.length = nI r := by unfold resC; rw [if_pos c]
    rw [er, if_neg (p_nI_ne_m1 (by omega)), if_pos (p_ib hm (by omega)), p_ix (by omega), (R2.2.1 r c).2.1] at mdl
    by_cases cd : i < (Q.getD r d0).dp
    · obtain ⟨v, v1, v2⟩ := way_back N (by omega) Y.vq Y.rc hn1 R2 (i := i) (nI k) ((Q.getD r d0).dp - 1 - i) ((Q.getD r d0).dp - 1) r (by omega) c (by omega)
      refine ⟨v, h1, h2, ?_, ?_, hJ.1, hJ.2⟩
      · rw [cls]
        unfold f_X4_hopTowards
        rw [if_neg ha, pu_depthOf N h1 K Y.rc, p_cl, if_pos c, if_pos (nI_lt cd (by omega)), p_lt, erc, if_pos (p_ib (show r < 23760 by omega) (by omega)), p_ix (by omega), (Y.rc.2 r c).2.1, p_lt, show nI (Q.getD r d0).dp - 1 = nI ((Q.getD r d0).dp - 1) from pk_sub (b := 1) (by omega), v1 N (by omega), p_cl]
      · rw [mdl, if_pos (nI_lt cd (by omega))]
        exact v2 N (by omega)
    · refine ⟨-1, h1, h2, ?_, ?_, hJ.1, hJ.2⟩
      · rw [cls]
        unfold f_X4_hopTowards f_X4_hopTowards_b13
        rw [if_neg ha, pu_depthOf N h1 K Y.rc, p_cl, if_pos c, if_neg (nI_nlt (by omega) hi31), p_cl]
      · rw [mdl, if_neg (nI_nlt (by omega) hi31)]
        rfl
  · have er : resM Q r = -1 := by unfold resM; rw [if_neg c]
    rw [er, if_pos rfl] at mdl
    refine ⟨-1, h1, h2, ?_, mdl, hJ.1, hJ.2⟩
    rw [cls]
    unfold f_X4_hopTowards f_X4_hopTowards_b13
    rw [if_neg ha, pu_depthOf N h1 K Y.rc, p_cl, if_neg c, if_neg (fun z => ha (Int32.lt_trans z p_m1)), p_cl]
