/-! ===== turned: the calls ===== -/
theorem pu_allAre_l (N : Nat) (h : Hp) {m k : Nat} (hk : k < 4) {kd co : Nat → Nat} (hB : BC h m kd co) : ∀ (e i : Nat), i ≤ m → m - i < e → f_X7_allAre_l2 N e (nI k) (nI i) h = some (if allr (fun i => decide (kd i = k)) (m - i) i = true then 1 else 0, h) := by
  obtain ⟨hm, hm4, hB⟩ := hB
  intro e
  induction e with
  | zero => intro i _ h2; omega
  | succ e ih =>
    intro i hi he
    show f_X7_allAre_b2 N (f_X7_allAre_l2 N e) (nI k) (nI i) h = _
    unfold f_X7_allAre_b2
    rw [hm]
    by_cases hc : i = m
    · subst hc
      rw [if_pos (nI_le (Nat.le_refl _) (by omega)), if_pos (by decide), show i - i = 0 by omega]
      rfl
    · obtain ⟨b1, b2, -⟩ := hB i (by omega)
      obtain ⟨r, hr⟩ : ∃ r, m - i = r + 1 := ⟨m - i - 1, by omega⟩
      have step := ih (i + 1) (by omega) (by omega)
      rw [show m - (i + 1) = r by omega] at step
      rw [hr, if_neg (nI_ge (by omega) (by omega)), if_pos (p_ib (by omega) (by omega)), p_ix (by omega), b1]
      show _ = some (if (decide (kd i = k) && allr (fun i => decide (kd i = k)) r (i + 1)) = true then 1 else 0, h)
      by_cases c : kd i = k
      · rw [if_pos (by rw [c]), p_lt, nI_1, step, decide_eq_true c]
        rfl
      · rw [if_neg (by rw [nI_eq (by omega) (by omega)]; exact c), if_pos (by decide), decide_eq_false c]
        rfl
theorem pu_allAre (N : Nat) (hN : 20 ≤ N) (h : Hp) {m k : Nat} (hk : k < 4) {kd co : Nat → Nat} (hB : BC h m kd co) : f_X7_allAre N (nI k) h = some (if allr (fun i => decide (kd i = k)) m 0 = true then 1 else 0, h) := by
  have := hB.2.1
  unfold f_X7_allAre
  rw [p_lt]
  exact pu_allAre_l N h hk hB N 0 (by omega) (by omega)
/-- what the model asks of man i -/
def areb (kd : Nat → Nat) (k : Nat) (x : Int32) (P L : Nat → Nat) (i : Nat) : Bool := decide (kd i = k) && (bt x (P i) && bt x (L i))
theorem pm_are_l (N : Nat) (h : Hp) {m k : Nat} (hk : k < 4) {kd co : Nat → Nat} (hB : BM h m kd co) (x : Int32) {P L : Nat → Nat} (hP : ∀ i, i < m → h.1 31 i = nI (P i) ∧ P i < 12) (hL : ∀ i, i < m → h.1 26 (4 * i + 3) = nI (L i) ∧ L i < 12) : ∀ (e i : Nat) (b : Bool), i ≤ m → m - i < e → f_X8_turned_l54 N e (nI k) x (if b = true then 1 else 0) (nI i) h = if (b && allr (areb kd k x P L) (m - i) i) = true then cl (f_X8_layRing N (nI k) (h.1 31 0) h) (fun r1 h2 => f_X8_turned_l150 N N r1 0 0 h2) else some (-4, h) := by
  obtain ⟨hm, hm4, hB⟩ := hB
  intro e
  induction e with
  | zero => intro i _ _ h2; omega
  | succ e ih =>
    intro i b hi he
    show f_X8_turned_b54 N (f_X8_turned_l54 N e) (nI k) x _ (nI i) h = _
    unfold f_X8_turned_b54 f_X8_turned_b116 f_X8_turned_b117
    rw [hm]
    by_cases hc : i = m
    · subst hc
      rw [if_pos (nI_le (Nat.le_refl _) (by omega)), show i - i = 0 by omega]
      cases b
      · rw [if_pos (by decide)]; rfl
      · rw [if_neg (by decide), if_pos (by decide)]; rfl
    · obtain ⟨b1, b2, -⟩ := hB i (by omega)
      have p1 := hP i (by omega)
      have l1 := hL i (by omega)
      obtain ⟨r, hr⟩ : ∃ r, m - i = r + 1 := ⟨m - i - 1, by omega⟩
      have s1 := ih (i + 1) true (by omega) (by omega)
      have s0 := ih (i + 1) false (by omega) (by omega)
      rw [show m - (i + 1) = r by omega] at s1 s0
      rw [if_pos rfl] at s1
      rw [if_neg (by decide)] at s0
      rw [hr, if_neg (nI_ge (by omega) (by omega))]
      simp only [p_lt, nI_1]
      show _ = if (b && (areb kd k x P L i && allr (areb kd k x P L) r (i + 1))) = true then _ else _
      cases b
      · rw [if_pos (by decide), s0]; rfl
      · rw [if_neg (by decide), p_4x, if_pos (p_ib (by omega) (by omega)), p_ix (by omega), b1]
        unfold areb at s1 s0 ⊢
        by_cases c1 : kd i = k
        · rw [if_pos (by rw [c1]), if_pos (p_ib (by omega) (by omega)), p_ix (by omega), p1.1, pm_has, p_cl, decide_eq_true c1]
          by_cases c2 : bt x (P i) = true
          · rw [bi_e1 (by omega) c2, if_pos rfl, if_neg n10, show nI (4 * i) + 3 = nI (4 * i + 3) from nI_add _ 3, if_pos (p_ib (by omega) (by omega)), p_ix (by omega), l1.1, pm_has, p_cl, c2]
            by_cases c3 : bt x (L i) = true
            · rw [bi_e1 (by omega) c3, if_pos rfl, if_neg n10, s1, c3]; rfl
            · rw [bi_e0 (by omega) c3, if_neg n01, if_pos rfl, s0, show bt x (L i) = false by simpa using c3]; rfl
          · rw [bi_e0 (by omega) c2, if_neg n01, if_pos rfl, s0, show bt x (P i) = false by simpa using c2]; rfl
        · rw [if_neg (by rw [nI_eq (by omega) (by omega)]; exact c1), s0, decide_eq_false c1]; rfl
/-- the model's answer -4, whatever the shape, if a man or goal isn't of the part -/
theorem pm_turned_no (N : Nat) (hN : 200 ≤ N) (h : Hp) {w g : Nat} (hM : MB h w g) (f : Nat → Int32) {m k : Nat} (hk : k < 4) {kd co : Nat → Nat} (hB : BM h m kd co) (hm0 : 0 < m) {J : Nat → Int32} (eJ : njc (stt w g f) k (h.1 25 2) = J) {P L : Nat → Nat} (hP : ∀ i, i < m → h.1 31 i = nI (P i) ∧ P i < w * g) (hL : ∀ i, i < m → h.1 26 (4 * i + 3) = nI (L i) ∧ L i < w * g) (hno : allr (areb kd k (if bt (h.1 25 2) (P 0) = true then 0 else prt J (P 0)) P L) m 0 = false ∨ (bt (h.1 25 2) (P 0) = false ∧ ¬ shpJ J (prt J (P 0)) = 2)) : f_X8_turned N (nI k) h = some (-4, h) := by
  have h12 := hM.1.2.2.2.2
  have hm4 := hB.2.1
  have p0 := hP 0 hm0
  have hJ := NJ_nj hM.1 hk f (h.1 25 2)
  have are := pm_are_l N h hk hB (if bt (h.1 25 2) (P 0) = true then 0 else prt J (P 0)) (P := P) (L := L) (fun i hi => ⟨(hP i hi).1, by have := (hP i hi).2; omega⟩) (fun i hi => ⟨(hL i hi).1, by have := (hL i hi).2; omega⟩) N 0 true (by omega) (by omega)
  have hsh : ∃ r, f_X8_shapeOf N (nI k) (nI (P 0)) h = some (nI r, h) ∧ r ≤ 5 ∧ (bt (h.1 25 2) (P 0) = false → r = shpJ J (prt J (P 0))) := by
    by_cases ch : bt (h.1 25 2) (P 0) = true
    · refine ⟨2, ?_, by omega, fun z => by rw [ch] at z; cases z⟩
      unfold f_X8_shapeOf
      rw [pm_partOf N (by omega) h hM f hk p0.2, if_pos ch, p_cl, p_lt, pm_bits N (by omega), p_cl, cnt_z]
      simp only [p_lt]
      have e := pm_shape_l N (by omega) h hM f hk 0 (s := 0) (by omega) rfl (Or.inr rfl) N 0 (by omega) (by omega)
      refine Eq.trans e ?_
      rw [if_neg (by omega), if_neg (by omega), swt_z, if_pos rfl]
      rfl
    · refine ⟨shpJ J (prt J (P 0)), ?_, shp_le _ _ _ _ _, fun _ => rfl⟩
      have := pm_shapeOf N (by omega) h hM f hk p0.2 (by simpa using ch)
      rw [eJ] at this
      exact this
  obtain ⟨r, r1, r2, r3⟩ := hsh
  unfold f_X8_turned f_X8_turned_b34
  rw [pm_in3 N h hk, p_cl, if_neg n10, hB.1, if_neg (nI_ne0 hm0 (by omega)), if_pos (by decide)]
  show cl (f_X8_shapeOf N (nI k) (h.1 31 0) h) _ = _
  rw [p0.1, r1, p_cl]
  by_cases c : r = 2
  · rcases hno with hno | ⟨hno, hn2⟩
    · rw [c, if_pos (show nI 2 = 2 from rfl), if_pos (by decide)]
      show cl (f_X8_partOf N (nI k) (h.1 31 0) h) _ = _
      rw [p0.1, pm_partOf N (by omega) h hM f hk p0.2, eJ, p_cl]
      simp only [p_lt]
      rw [if_pos rfl, Nat.sub_zero, hno, Bool.and_false, if_neg (show ¬ false = true by decide)] at are
      exact are
    · exact absurd ((r3 hno).symm.trans c) hn2
  · rw [if_neg (by rw [show (2 : Int32) = nI 2 from rfl, nI_eq (by omega) (by omega)]; exact c)]
theorem sim_turned (N : Nat) (hN : 200 ≤ N) (a : Int32) {h : Hp} (hI : Inv h) : Sim (f_X7_turned N a) (f_X8_turned N a) h := by
  obtain ⟨w, g, m, kd, co, f, hV⟩ := id hI
  obtain ⟨hB, -, ⟨L, hL⟩, ⟨P, hP⟩, -⟩ := id hV
  obtain ⟨b1, b2, b3, b4, b5, b6, b7, b8, b9⟩ := id hB
  have h12 := b1.2.2.2.2
  have hm4 := b4.2.1
  rcases n_case a (s := 4) (by omega) with ⟨k, hk, rfl⟩ | ha
  rotate_left
  · refine Sim_same (-3) hI ?_ ?_
    · unfold f_X7_turned
      rw [pu_noKind_out N h ha, p_cl, if_neg n10]
    · unfold f_X8_turned
      rw [pm_in3_out N h ha, p_cl, if_pos rfl]
  rcases Nat.eq_zero_or_pos m with hm0 | hm0
  · refine Sim_same (-4) hI ?_ ?_
    · unfold f_X7_turned f_X7_turned_b28
      rw [pu_noKind N k hk, p_cl, if_pos rfl, b4.1, hm0, if_pos (by decide)]
    · unfold f_X8_turned f_X8_turned_b34
      rw [pm_in3 N h hk, p_cl, if_neg n10, b7.1, hm0, if_pos (by decide)]
  have p0 := hP.2.1 0 hm0
  have hne : ¬ nI m = 0 := nI_ne0 hm0 (by omega)
  have mP : ∀ i, i < m → h.1 31 i = nI (P i) ∧ P i < w * g := hP.2.1
  have mL : ∀ i, i < m → h.1 26 (4 * i + 3) = nI (L i) ∧ L i < w * g := hL.2.1
  by_cases ck : allr (fun i => decide (kd i = k)) m 0 = true
  rotate_left
  · refine Sim_same (-4) hI ?_ ?_
    · unfold f_X7_turned f_X7_turned_b28
      rw [pu_noKind N k hk, p_cl, if_pos rfl, b4.1, if_neg hne, pu_allAre N (by omega) h hk b4, p_cl, if_neg ck, if_pos rfl]
    · refine pm_turned_no N hN h b6 f hk b7 hm0 rfl mP mL (Or.inl ?_)
      cases hx : allr (areb kd k (if bt (h.1 25 2) (P 0) = true then 0 else prt (njc (stt w g f) k (h.1 25 2)) (P 0)) P L) m 0 with
      | false => rfl
      | true =>
        exfalso
        apply ck
        rw [allr_iff] at hx ⊢
        intro x h1 h2
        have := hx x h1 h2
        unfold areb at this
        rw [Bool.and_eq_true] at this
        exact this.1
  obtain ⟨h2, e2, k2, c2⟩ := pu_knot N (by omega) hk h (IB_T hB) (h.1 1 2)
  have hI2 := Inv_net hI (fun a h1 h2 _ => c2 a h1 h2)
  rw [b5] at k2
  have hJ := NJ_nj b1 hk f (h.1 1 2)
  have hM2 : MB h2 w g := by unfold MB; rw [c2 25 (by decide) (by decide)]; exact b6
  have hB2 : BM h2 m kd co := by unfold BM; rw [c2 25 (by decide) (by decide), c2 26 (by decide) (by decide)]; exact b7
  have hc : h2.1 25 2 = h.1 1 2 := by rw [c2 25 (by decide) (by decide)]; exact b8
  have mP2 : ∀ i, i < m → h2.1 31 i = nI (P i) ∧ P i < w * g := by rw [c2 31 (by decide) (by decide)]; exact mP
  have mL2 : ∀ i, i < m → h2.1 26 (4 * i + 3) = nI (L i) ∧ L i < w * g := by rw [c2 26 (by decide) (by decide)]; exact mL
  have pc2 : PC (h2.1 0 13) m P := by rw [c2 0 (by decide) (by decide)]; exact hP.1
  have lc2 : PC (h2.1 1 6) m L := by rw [c2 1 (by decide) (by decide)]; exact hL.1
  have hm2 : h2.1 1 4 = nI m := by rw [c2 1 (by decide) (by decide)]; exact b4.1
  generalize eJ : njc (stt w g f) k (h.1 1 2) = J at *
  generalize ex : (if bt (h.1 1 2) (P 0) = true then 0 else prt J (P 0)) = x at *
  have hp12 : P 0 < 12 := by have := p0.2; omega
  have xB : B12 x ∧ sdg J x 12 % 2 = 0 := by
    rw [← ex]
    split
    · exact ⟨B12_0, by rw [sdg_z]⟩
    · obtain ⟨q1, q2, q3⟩ := prt_cl hJ hp12
      exact ⟨q1, sdg_even hJ q2⟩
  have sh := pu_shapeOf N (by omega) hJ h2 k2 xB.1 xB.2
  rw [show shp (cnt (bt x) 12) (swt J x 1 12) (swt J x 2 12) (swt J x 3 12) (sdg J x 12) = shpJ J x from rfl] at sh
  have hle : shpJ J x ≤ 5 := shp_le _ _ _ _ _
  have part : f_X2_partAt N (nI (P 0)) h2 = some (x, h2) := by rw [pu_partAt N (by omega) h2 k2 hp12, ex]
  -- the class, up to the shape
  have cls : f_X7_turned N (nI k) h = (if nI (shpJ J x) = 2 then if ((tkn P m ||| tkn L m) &&& (x ^^^ (-1))) = 0 then cl (f_J6_bitCount_0f7a4 N x h2) (fun r18 h19 => cl (f_X7_orderIsKept N r18 h19) (fun r20 h21 => if r20 = 0 then f_X7_turned_b128 N 0 h21 else f_X7_turned_b128 N 1 h21)) else some (-4, h2) else some (-4, h2)) := by
    unfold f_X7_turned f_X7_turned_b109
    rw [pu_noKind N k hk, p_cl, if_pos rfl, b4.1, if_neg hne, pu_allAre N (by omega) h hk b4, p_cl, if_pos ck, if_neg n10, e2, p_cl, show (0 : Int32) = nI 0 from rfl, p_placeOf, p_cl, (pc2.2 0 hm0).1, part, p_cl, p_lt, pu_taken 1 N (by omega) h2 hm2 hm4 pc2, p_cl, pu_taken 1 N (by omega) h2 hm2 hm4 lc2, p_cl, p_lt, sh, p_cl]
  by_cases call : allr (areb kd k x P L) m 0 = true
  rotate_left
  · have need : ¬ ((tkn P m ||| tkn L m) &&& (x ^^^ (-1))) = 0 := by
      intro z
      apply call
      rw [allr_iff] at ck ⊢
      intro i h1 h2
      unfold areb
      have hi : i < m := by omega
      have sub : ∀ q, q < 12 → bt (tkn P m ||| tkn L m) q = true → bt x q = true := by
        intro q hq hb
        have zb := congrArg (fun y => bt y q) z
        rw [b_and, hb, b_not _ (by omega), b_0] at zb
        simpa using zb
      have tP : bt (tkn P m) (P i) = true := (orf_bt _ _ _).mpr ⟨i, hi, sg_self (by have := (mP i hi).2; omega)⟩
      have tL : bt (tkn L m) (L i) = true := (orf_bt _ _ _).mpr ⟨i, hi, sg_self (by have := (mL i hi).2; omega)⟩
      rw [ck i h1 h2, sub (P i) (by have := (mP i hi).2; omega) (by rw [b_or, tP]; rfl), sub (L i) (by have := (mL i hi).2; omega) (by rw [b_or, tL, Bool.or_true])]
      rfl
    refine ⟨-4, h2, h2, ?_, ?_, hI2.1, hI2.2⟩
    · rw [cls, if_neg need]
      split <;> rfl
    · refine pm_turned_no N hN h2 hM2 f hk hB2 hm0 (J := J) (by rw [hc]; exact eJ) mP2 mL2 (Or.inl ?_)
      rw [hc, ex]
      simpa using call
  have call' := (allr_iff _ _ _).mp call
  have inx : ∀ i, i < m → bt x (P i) = true ∧ bt x (L i) = true := by
    intro i hi
    have := call' i (by omega) (by omega)
    unfold areb at this
    rw [Bool.and_eq_true, Bool.and_eq_true] at this
    exact this.2
  have hh : bt (h.1 1 2) (P 0) = false := by
    cases hx : bt (h.1 1 2) (P 0) with
    | false => rfl
    | true =>
      rw [if_pos hx] at ex
      have := (inx 0 hm0).1
      rw [← ex, b_0] at this
      cases this
  rw [if_neg (by rw [hh]; decide)] at ex
  subst ex
  by_cases cs : shpJ J (prt J (P 0)) = 2
  rotate_left
  · refine ⟨-4, h2, h2, ?_, ?_, hI2.1, hI2.2⟩
    · rw [cls, if_neg (by rw [show (2 : Int32) = nI 2 from rfl, nI_eq (by omega) (by omega)]; exact cs)]
    · exact pm_turned_no N hN h2 hM2 f hk hB2 hm0 (J := J) (by rw [hc]; exact eJ) mP2 mL2 (Or.inr ⟨by rw [hc]; exact hh, cs⟩)
  have R := RG_of hJ hp12 cs
  obtain ⟨n, n0, n1, n2, n3, n4, n5, n6⟩ := rw_ring R
  obtain ⟨h3, e3, c3, r3⟩ := pm_layRing N (by omega) h2 hM2 f hk p0.2 (J := J) (by rw [hc]; exact eJ.symm) R n0 n1 n2 n3
  have hI3 := Inv_net hI (fun a h1 h2 h3 => by rw [c3 a h3, c2 a h1 h2])
  have need : ((tkn P m ||| tkn L m) &&& (prt J (P 0) ^^^ (-1))) = 0 := by
    apply bt_iff
    intro b hb
    rw [b_and, b_not _ hb, b_0, b_or]
    constructor
    · intro z
      rw [Bool.and_eq_true, Bool.or_eq_true] at z
      exfalso
      obtain ⟨z1, z2⟩ := z
      have : bt (prt J (P 0)) b = true := by
        rcases z1 with z1 | z1
        · obtain ⟨i, i1, i2⟩ := (orf_bt _ _ _).mp z1
          rw [sg_bt (by have := (mP i i1).2; omega) hb] at i2
          rw [of_decide_eq_true i2]; exact (inx i i1).1
        · obtain ⟨i, i1, i2⟩ := (orf_bt _ _ _).mp z1
          rw [sg_bt (by have := (mL i i1).2; omega) hb] at i2
          rw [of_decide_eq_true i2]; exact (inx i i1).2
      rw [this] at z2
      simp at z2
    · intro z; cases z
  have exP : ∀ i, i < m → ∃ j, j < n ∧ rw' J (P 0) j = P i := fun i hi => n6 _ (inx i hi).1
  have exL : ∀ i, i < m → ∃ j, j < n ∧ rw' J (P 0) j = L i := fun i hi => n6 _ (inx i hi).2
  have x00 : ixr J (P 0) n (P 0) = 0 := by
    obtain ⟨-, -, q⟩ := ixr_spec (exP 0 hm0)
    rcases Nat.eq_zero_or_pos (ixr J (P 0) n (P 0)) with z | z
    · exact z
    · exact absurd rfl (q 0 z)
  have hpo : (fun i => dst n (ixr J (P 0) n (P 0)) (ixr J (P 0) n (P i))) = fun i => ixr J (P 0) n (P i) := by
    funext i
    rw [x00]
    rfl
  have order := pu_order_l N hN R h2 k2 n1 hm2 pc2 lc2 hm4 exP exL N 1 (by omega) (by omega) (by omega)
  rw [hpo] at order
  have xpi : ∀ a b, a < m → b < m → ixr J (P 0) n (P a) = ixr J (P 0) n (P b) → a = b := fun a b ha hb z => hP.2.2 a b ha hb (by rw [← (ixr_spec (exP a ha)).1, ← (ixr_spec (exP b hb)).1, z])
  have xli : ∀ a b, a < m → b < m → dst n (ixr J (P 0) n (L 0)) (ixr J (P 0) n (L a)) = dst n (ixr J (P 0) n (L 0)) (ixr J (P 0) n (L b)) → a = b := fun a b ha hb z => by
    have g0 := (ixr_spec (exL 0 hm0)).2.1
    have ga := (ixr_spec (exL a ha)).2.1
    have gb := (ixr_spec (exL b hb)).2.1
    have e := dst_mod g0 ga
    rw [z, dst_mod g0 gb] at e
    exact hL.2.2 a b ha hb (by rw [← (ixr_spec (exL a ha)).1, ← (ixr_spec (exL b hb)).1, e])
  have same := ord_same hm0 (po := fun i => ixr J (P 0) n (P i)) (of := fun i => dst n (ixr J (P 0) n (L 0)) (ixr J (P 0) n (L i))) x00 (by show dst n _ _ = 0; unfold dst; rw [if_pos (Nat.le_refl _)]; omega) xpi xli
  have mend := tk_end (m := m) (po := fun i => ixr J (P 0) n (P i)) (of := fun i => dst n (ixr J (P 0) n (L 0)) (ixr J (P 0) n (L i))) (fun i hi => by have := dst_lt (ixr_spec (exL 0 hm0)).2.1 (ixr_spec (exL i hi)).2.1; show dst n _ _ < 100; omega) xpi (n := n) (fun i hi => (ixr_spec (exP i hi)).2.1)
  have m3 : h3.1 25 4 = nI m := by rw [c3 25 (by decide)]; exact hB2.1
  have mP3 : ∀ i, i < m → h3.1 31 i = nI (P i) ∧ P i < 12 := fun i hi => by rw [c3 31 (by decide)]; exact ⟨(mP2 i hi).1, by have := (mP2 i hi).2; omega⟩
  have mL3 : ∀ i, i < m → h3.1 26 (4 * i + 3) = nI (L i) ∧ L i < 12 := fun i hi => by rw [c3 26 (by decide)]; exact ⟨(mL2 i hi).1, by have := (mL2 i hi).2; omega⟩
  have hW3 : ∀ i, i < n → h3.1 40 i = nI (rw' J (P 0) i) ∧ rw' J (P 0) i < 12 := fun i hi => ⟨r3 i hi, (rw_spec R i).2.1⟩
  have hxp : ∀ i, i < m → ixr J (P 0) n (P i) < n ∧ rw' J (P 0) (ixr J (P 0) n (P i)) = P i := fun i hi => ⟨(ixr_spec (exP i hi)).2.1, (ixr_spec (exP i hi)).1⟩
  have hxl : ∀ i, i < m → ixr J (P 0) n (L i) < n ∧ rw' J (P 0) (ixr J (P 0) n (L i)) = L i := fun i hi => ⟨(ixr_spec (exL i hi)).2.1, (ixr_spec (exL i hi)).1⟩
  have ms := pm_start_l N hN h3 hm4 m3 (by omega) n1 hW3 n4 mP3 mL3 hxp hxl hm0 N 0 (by omega) (by omega)
  rw [if_neg (by omega)] at ms
  have mk := pm_tk_l N hN h3 hm4 m3 (by omega) n1 hW3 n4 mP3 mL3 hxp hxl (g0 := ixr J (P 0) n (L 0)) (hxl 0 hm0).1 N 0 (-1, 1) (by omega) (by omega)
  have shm := pm_shapeOf N (by omega) h2 hM2 f hk p0.2 (by rw [hc]; exact hh)
  rw [hc, eJ, cs] at shm
  have pmp := pm_partOf N (by omega) h2 hM2 f hk p0.2
  rw [hc, eJ, if_neg (by rw [hh]; decide)] at pmp
  have are := pm_are_l N h2 hk hB2 (prt J (P 0)) (P := P) (L := L) (fun i hi => ⟨(mP2 i hi).1, by have := (mP2 i hi).2; omega⟩) (fun i hi => ⟨(mL2 i hi).1, by have := (mL2 i hi).2; omega⟩) N 0 true (by omega) (by omega)
  rw [if_pos rfl, Nat.sub_zero, call, if_pos (by decide), (mP2 0 hm0).1, e3, p_cl] at are
  have cres : f_X7_turned N (nI k) h = some (if allr (fun a => allr (okp (fun i => ixr J (P 0) n (P i)) (fun i => dst n (ixr J (P 0) n (L 0)) (ixr J (P 0) n (L i))) a) (a - 1) 1) (m - 1) 1 = true then 1 else 0, h2) := by
    rw [cls, if_pos (by rw [cs]; rfl), if_pos need, pu_bitCount N xB.1, p_cl, n5]
    unfold f_X7_orderIsKept f_X7_turned_b128
    rw [show (0 : Int32) = nI 0 from rfl, p_placeOf, p_cl, (pc2.2 0 hm0).1]
    simp only [p_lt]
    show cl (f_X7_orderIsKept_l11 N N (nI n) (nI (P 0)) (nI 1) h2) _ = _
    rw [order, p_cl]
    split
    · rw [if_neg (by decide)]
    · rw [if_pos (by decide)]
  have mres : f_X8_turned N (nI k) h2 = some (if (tk (fun i => ixr J (P 0) n (P i)) (fun i => dst n (ixr J (P 0) n (L 0)) (ixr J (P 0) n (L i))) m n 0 (-1, 1)).2 = 0 then 0 else 1, h3) := by
    unfold f_X8_turned
    rw [pm_in3 N h2 hk, p_cl, if_neg n10, hB2.1, if_neg hne, if_pos (by decide)]
    show cl (f_X8_shapeOf N (nI k) (h2.1 31 0) h2) _ = _
    rw [(mP2 0 hm0).1, shm, p_cl, if_pos (show nI 2 = 2 from rfl), if_pos (by decide)]
    show cl (f_X8_partOf N (nI k) (h2.1 31 0) h2) _ = _
    rw [(mP2 0 hm0).1, pmp, p_cl]
    simp only [p_lt]
    exact are.trans (ms.trans mk)
  refine ⟨_, h2, h3, cres, ?_, hI3.1, hI3.2⟩
  rw [mres]
  congr 2
  rcases mend with ⟨m1, m2⟩ | ⟨m1, m2⟩
  · rw [m1, if_neg n10, if_pos (same.mp m2)]
  · rw [m1, if_pos rfl, if_neg (fun z => m2 (same.mpr z))]
