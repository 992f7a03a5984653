/-! ===== net, part, shape ===== -/
theorem pu_noKind_out (N : Nat) (h : Hp) {a : Int32} (ha : a < 0 ∨ nI 4 ≤ a) : f_X7_noKind N a h = some (1, h) := by
  unfold f_X7_noKind f_X7_noKind_b14
  by_cases h0 : a < 0
  · rw [if_pos h0]; rfl
  · have h1 : (3 : Int32) < a := n_m1g (n := 4) (by omega) h0 (ha.resolve_left h0)
    rw [if_neg h0, if_neg (Int32.not_le.mpr h1)]; rfl
theorem pm_in3 (N : Nat) (h : Hp) {k : Nat} (hk : k < 4) : f_X8_in N (nI k) 0 3 h = some (1, h) := by
  rw [pm_in, if_neg (nI_pos (n := k) (by omega)), if_neg (show ¬ (3 : Int32) < nI k from nI_nlt (a := 3) (by omega) (by omega))]
theorem pm_in3_out (N : Nat) (h : Hp) {a : Int32} (ha : a < 0 ∨ nI 4 ≤ a) : f_X8_in N a 0 3 h = some (0, h) := by
  rw [pm_in]
  by_cases h0 : a < 0
  · rw [if_pos h0]
  · rw [if_neg h0, if_pos (show (3 : Int32) < a from n_m1g (n := 4) (by omega) h0 (ha.resolve_left h0))]
/-- what the nets' calls leave as it is -/
theorem Inv_net {h h2 : Hp} (hI : Inv h) (c : ∀ a, a ≠ 13 → a ≠ 14 → a ≠ 40 → h2.1 a = h.1 a) : Inv h2 ∧ Fr h h2 := by
  obtain ⟨w, g, n, kd, co, f, hV⟩ := hI
  refine ⟨⟨w, g, n, kd, co, f, IV_fr (fun a ha => c a (fun z => by subst z; revert ha; decide) (fun z => by subst z; revert ha; decide) (fun z => by subst z; revert ha; decide)) (fun k _ => by rw [c 25 (by decide) (by decide) (by decide)]) hV⟩, fun a ha => c a (fun z => by subst z; revert ha; decide) (fun z => by subst z; revert ha; decide) (fun z => by subst z; revert ha; decide)⟩
theorem sim_net (N : Nat) (hN : 20 ≤ N) (a b : Int32) {h : Hp} (hI : Inv h) : Sim (f_X7_net N a b) (f_X8_net N a b) h := by
  obtain ⟨w, g, n, kd, co, f, hV⟩ := id hI
  have hB := hV.1
  obtain ⟨b1, b2, b3, b4, b5, b6, b7, b8, b9⟩ := id hB
  have h12 := b1.2.2.2.2
  rcases n_case b (s := w * g) (by omega) with ⟨q, hq, rfl⟩ | hb
  rotate_left
  · refine Sim_same (-2) hI ?_ ?_
    · unfold f_X7_net
      rw [pu_noSq_out N h b2 b3 hb, p_cl, if_neg n10]
    · unfold f_X8_net
      rw [pm_isSq_out N h b6.2.1 b6.2.2 (by omega) hb, p_cl, if_pos rfl]
  rcases n_case a (s := 4) (by omega) with ⟨k, hk, rfl⟩ | ha
  rotate_left
  · refine Sim_same (-3) hI ?_ ?_
    · unfold f_X7_net
      rw [pu_noSq_in N h b2 b3 (by omega) hq, p_cl, if_pos rfl, pu_noKind_out N h ha, p_cl, if_neg n10]
    · unfold f_X8_net f_X8_net_b31
      rw [pm_isSq_in N h b6.2.1 b6.2.2 (by omega) hq, p_cl, if_neg n10, pm_in3_out N h ha, p_cl, if_pos rfl]
  obtain ⟨h2, e2, k2, c2⟩ := pu_knot N hN hk h (IB_T hB) (h.1 1 2)
  have hI2 := Inv_net hI (fun a h1 h2 _ => c2 a h1 h2)
  refine ⟨njc (stt w g f) k (h.1 1 2) q, h2, h2, ?_, ?_, hI2.1, hI2.2⟩
  · unfold f_X7_net
    rw [pu_noSq_in N h b2 b3 (by omega) hq, p_cl, if_pos rfl, pu_noKind N k hk, p_cl, if_pos rfl, e2, p_cl, if_pos (p_ib (by omega) (by omega)), p_ix (by omega), k2.1 q (by omega), b5]
  · have hM2 : MB h2 w g := by unfold MB; rw [c2 25 (by decide) (by decide)]; exact b6
    unfold f_X8_net f_X8_net_b31
    rw [pm_isSq_in N h2 hM2.2.1 hM2.2.2 (by omega) hq, p_cl, if_neg n10, pm_in3 N h2 hk, p_cl, if_neg n10, pm_joined N hN h2 hM2 f hk hq, p_cl, c2 25 (by decide) (by decide), b8]
theorem sim_part (N : Nat) (hN : 20 ≤ N) (a b : Int32) {h : Hp} (hI : Inv h) : Sim (f_X7_part N a b) (f_X8_part N a b) h := by
  obtain ⟨w, g, n, kd, co, f, hV⟩ := id hI
  have hB := hV.1
  obtain ⟨b1, b2, b3, b4, b5, b6, b7, b8, b9⟩ := id hB
  have h12 := b1.2.2.2.2
  rcases n_case b (s := w * g) (by omega) with ⟨q, hq, rfl⟩ | hb
  rotate_left
  · refine Sim_same (-2) hI ?_ ?_
    · unfold f_X7_part
      rw [pu_noSq_out N h b2 b3 hb, p_cl, if_neg n10]
    · unfold f_X8_part
      rw [pm_isSq_out N h b6.2.1 b6.2.2 (by omega) hb, p_cl, if_pos rfl]
  rcases n_case a (s := 4) (by omega) with ⟨k, hk, rfl⟩ | ha
  rotate_left
  · refine Sim_same (-3) hI ?_ ?_
    · unfold f_X7_part
      rw [pu_noSq_in N h b2 b3 (by omega) hq, p_cl, if_pos rfl, pu_noKind_out N h ha, p_cl, if_neg n10]
    · unfold f_X8_part f_X8_part_b31
      rw [pm_isSq_in N h b6.2.1 b6.2.2 (by omega) hq, p_cl, if_neg n10, pm_in3_out N h ha, p_cl, if_pos rfl]
  obtain ⟨h2, e2, k2, c2⟩ := pu_knot N hN hk h (IB_T hB) (h.1 1 2)
  have hI2 := Inv_net hI (fun a h1 h2 _ => c2 a h1 h2)
  refine ⟨if bt (h.1 1 2) q = true then 0 else prt (njc (stt w g f) k (h.1 1 2)) q, h2, h2, ?_, ?_, hI2.1, hI2.2⟩
  · unfold f_X7_part
    rw [pu_noSq_in N h b2 b3 (by omega) hq, p_cl, if_pos rfl, pu_noKind N k hk, p_cl, if_pos rfl, e2, p_cl, pu_partAt N hN h2 k2 (by omega), p_cl, b5]
  · have hM2 : MB h2 w g := by unfold MB; rw [c2 25 (by decide) (by decide)]; exact b6
    unfold f_X8_part f_X8_part_b31
    rw [pm_isSq_in N h2 hM2.2.1 hM2.2.2 (by omega) hq, p_cl, if_neg n10, pm_in3 N h2 hk, p_cl, if_neg n10, pm_partOf N hN h2 hM2 f hk hq, p_cl, c2 25 (by decide) (by decide), b8]
theorem sim_shape (N : Nat) (hN : 20 ≤ N) (a b : Int32) {h : Hp} (hI : Inv h) : Sim (f_X7_shape N a b) (f_X8_shape N a b) h := by
  obtain ⟨w, g, n, kd, co, f, hV⟩ := id hI
  have hB := hV.1
  obtain ⟨b1, b2, b3, b4, b5, b6, b7, b8, b9⟩ := id hB
  have h12 := b1.2.2.2.2
  rcases n_case b (s := w * g) (by omega) with ⟨q, hq, rfl⟩ | hb
  rotate_left
  · refine Sim_same (-2) hI ?_ ?_
    · unfold f_X7_shape
      rw [pu_noSq_out N h b2 b3 hb, p_cl, if_neg n10]
    · unfold f_X8_shape
      rw [pm_isSq_out N h b6.2.1 b6.2.2 (by omega) hb, p_cl, if_pos rfl]
  rcases n_case a (s := 4) (by omega) with ⟨k, hk, rfl⟩ | ha
  rotate_left
  · refine Sim_same (-3) hI ?_ ?_
    · unfold f_X7_shape
      rw [pu_noSq_in N h b2 b3 (by omega) hq, p_cl, if_pos rfl, pu_noKind_out N h ha, p_cl, if_neg n10]
    · unfold f_X8_shape f_X8_shape_b45
      rw [pm_isSq_in N h b6.2.1 b6.2.2 (by omega) hq, p_cl, if_neg n10, pm_in3_out N h ha, p_cl, if_pos rfl]
  by_cases c : bt (h.1 1 2) q = true
  · refine Sim_same (-4) hI ?_ ?_
    · unfold f_X7_shape
      rw [pu_noSq_in N h b2 b3 (by omega) hq, p_cl, if_pos rfl, pu_noKind N k hk, p_cl, if_pos rfl, p_bit, p_cl, bi_e1 (by omega) c, if_pos rfl]
    · unfold f_X8_shape f_X8_shape_b45
      rw [pm_isSq_in N h b6.2.1 b6.2.2 (by omega) hq, p_cl, if_neg n10, pm_in3 N h hk, p_cl, if_neg n10, pm_has, p_cl, b8, bi_e1 (by omega) c, if_pos rfl, if_neg n10]
  obtain ⟨h2, e2, k2, c2⟩ := pu_knot N hN hk h (IB_T hB) (h.1 1 2)
  have hI2 := Inv_net hI (fun a h1 h2 _ => c2 a h1 h2)
  rw [b5] at k2
  have hJ := NJ_nj b1 hk f (h.1 1 2)
  obtain ⟨q1, q2, q3⟩ := prt_cl hJ (p := q) (by omega)
  refine ⟨nI (shpJ (njc (stt w g f) k (h.1 1 2)) (prt (njc (stt w g f) k (h.1 1 2)) q)), h2, h2, ?_, ?_, hI2.1, hI2.2⟩
  · unfold f_X7_shape
    rw [pu_noSq_in N h b2 b3 (by omega) hq, p_cl, if_pos rfl, pu_noKind N k hk, p_cl, if_pos rfl, p_bit, p_cl, bi_e0 (by omega) c, if_neg n01, e2, p_cl, pu_partAt N hN h2 k2 (by omega), p_cl, if_neg c, pu_shapeOf N hN hJ h2 k2 q1 (sdg_even hJ q2), p_cl]
    rfl
  · have hM2 : MB h2 w g := by unfold MB; rw [c2 25 (by decide) (by decide)]; exact b6
    have hc : h2.1 25 2 = h.1 1 2 := by rw [c2 25 (by decide) (by decide)]; exact b8
    unfold f_X8_shape f_X8_shape_b45
    rw [pm_isSq_in N h2 hM2.2.1 hM2.2.2 (by omega) hq, p_cl, if_neg n10, pm_in3 N h2 hk, p_cl, if_neg n10, pm_has, p_cl, hc, bi_e0 (by omega) c, if_neg n01, if_pos rfl, pm_shapeOf N hN h2 hM2 f hk hq (by rw [hc]; simpa using c), p_cl, hc]
/-! ===== rings ===== -/
/-- the walk around: the set of the square before, the square -/
def rst (J : Nat → Int32) (p : Nat) : Nat → Int32 × Nat
  | 0 => (0, p)
  | n + 1 => (sg (nI (rst J p n).2), low (J (rst J p n).2 &&& ((rst J p n).1 ^^^ (-1))))
def rw' (J : Nat → Int32) (p n : Nat) : Nat := (rst J p n).2
/-- a part that is a ring -/
def RG (J : Nat → Int32) (p : Nat) : Prop := (NJ J) ∧ (p < 12) ∧ (∀ a, bt (prt J p) a = true → dg J a = 2)
theorem RG.nj {J : Nat → Int32} {p : Nat} (q_ : RG J p) : NJ J := q_.1
theorem RG.p12 {J : Nat → Int32} {p : Nat} (q_ : RG J p) : p < 12 := q_.2.1
theorem RG.two {J : Nat → Int32} {p : Nat} (q_ : RG J p) : ∀ a, bt (prt J p) a = true → dg J a = 2 := q_.2.2
theorem two_el {J : Nat → Int32} (hJ : NJ J) {a : Nat} (h : dg J a = 2) : ∃ x y, x < y ∧ y < 12 ∧ ∀ b, bt (J a) b = true ↔ b = x ∨ b = y := by
  obtain ⟨x, y, h1, h2, h3⟩ := cnt_2 h
  refine ⟨x, y, h1, h2, fun b => ?_⟩
  constructor
  · intro q
    exact (h3 b (hJ.b12 a b (bt_32 q) q)).mp q
  · intro q
    have hb : b < 12 := by omega
    exact (h3 b hb).mpr q
/-- three squares joined to a: two are the same -/
theorem two_same {J : Nat → Int32} (hJ : NJ J) {a b c d : Nat} (h : dg J a = 2) (hb : bt (J a) b = true) (hc : bt (J a) c = true) (hd : bt (J a) d = true) (h1 : b ≠ c) : d = b ∨ d = c := by
  obtain ⟨x, y, _, _, q⟩ := two_el hJ h
  have := (q b).mp hb
  have := (q c).mp hc
  have := (q d).mp hd
  omega
theorem rw_spec {J : Nat → Int32} {p : Nat} (R : RG J p) : ∀ n, bt (prt J p) (rw' J p n) = true ∧ rw' J p n < 12 ∧ bt (J (rw' J p n)) (rw' J p (n + 1)) = true ∧ (∀ m, n = m + 1 → rw' J p (n + 1) ≠ rw' J p m) ∧ ∃ b, b < 12 ∧ bt (J (rw' J p n) &&& ((rst J p n).1 ^^^ (-1))) b = true := by
  obtain ⟨q1, q2, q3⟩ := prt_cl R.nj R.p12
  -- a square of the part has a joined square besides any one
  have other : ∀ a, bt (prt J p) a = true → ∀ z : Int32, (z = 0 ∨ ∃ c, c < 12 ∧ z = sg (nI c)) → ∃ b, b < 12 ∧ bt (J a &&& (z ^^^ (-1))) b = true := by
    intro a ha z hz
    obtain ⟨x, y, h1, h2, h3⟩ := two_el R.nj (R.two a ha)
    have hx : bt (J a) x = true := (h3 x).mpr (Or.inl rfl)
    have hy : bt (J a) y = true := (h3 y).mpr (Or.inr rfl)
    rcases hz with rfl | ⟨c, hc, rfl⟩
    · exact ⟨x, by omega, by rw [b_and, b_not _ (by omega), hx, b_0]; rfl⟩
    · by_cases e : x = c
      · exact ⟨y, by omega, by rw [b_and, b_not _ (by omega), hy, sg_bt (by omega) (by omega), decide_eq_false (by omega)]; rfl⟩
      · exact ⟨x, by omega, by rw [b_and, b_not _ (by omega), hx, sg_bt (by omega) (by omega), decide_eq_false e]; rfl⟩
  have main : ∀ n, bt (prt J p) (rw' J p n) = true ∧ ((rst J p n).1 = 0 ∨ ∃ c, c < 12 ∧ (rst J p n).1 = sg (nI c)) := by
    intro n
    induction n with
    | zero => exact ⟨q3, Or.inl rfl⟩
    | succ n ih =>
      have h12 := q1 _ (bt_32 ih.1) ih.1
      obtain ⟨l1, l2, -⟩ := low_in (other _ ih.1 _ ih.2)
      rw [b_and, Bool.and_eq_true] at l1
      exact ⟨q2 _ ih.1 _ l1.1, Or.inr ⟨rw' J p n, h12, rfl⟩⟩
  intro n
  have h12 := q1 _ (bt_32 (main n).1) (main n).1
  have ex := other _ (main n).1 _ (main n).2
  obtain ⟨l1, l2, -⟩ := low_in ex
  have l1' := l1
  rw [b_and, Bool.and_eq_true] at l1
  refine ⟨(main n).1, h12, l1.1, ?_, ex⟩
  rintro m rfl
  intro z
  have l3 := l1.2
  rw [b_not _ (by have := l2; unfold rw' at *; omega)] at l3
  have hm12 := q1 _ (bt_32 (main m).1) (main m).1
  have e : (rst J p (m + 1)).1 = sg (nI (rw' J p m)) := rfl
  have hlow : low (J (rst J p (m + 1)).2 &&& ((rst J p (m + 1)).1 ^^^ (-1))) = rw' J p m := z
  rw [show rw' J p (m + 1) = (rst J p (m + 1)).2 from rfl, hlow, e, sg_bt (by omega) (by omega)] at l3
  simp at l3
/-- as long as the walk isn't back, it meets new squares -/
theorem rw_new {J : Nat → Int32} {p : Nat} (R : RG J p) : ∀ k, (∀ j, 1 ≤ j → j ≤ k → rw' J p j ≠ p) → ∀ i j, i < j → j ≤ k → rw' J p i ≠ rw' J p j := by
  intro k
  induction k with
  | zero => intro _ i j h1 h2; omega
  | succ k ih =>
    intro hp i j hij hj
    have old := ih (fun j h1 h2 => hp j h1 (by omega))
    by_cases hjk : j ≤ k
    · exact old i j hij hjk
    · have ej : j = k + 1 := by omega
      subst ej
      intro e
      by_cases hi0 : i = 0
      · subst hi0
        exact hp (k + 1) (by omega) (by omega) e.symm
      · obtain ⟨i, rfl⟩ : ∃ r, i = r + 1 := ⟨i - 1, by omega⟩
        obtain ⟨s1, s2, s3, s4, -⟩ := rw_spec R k
        by_cases hik : i + 1 = k
        · rw [hik] at e
          rw [← e, R.nj.irr] at s3; cases s3
        · -- w k is joined to w (i+1) = w (k+1)
          have j1 : bt (J (rw' J p (i + 1))) (rw' J p k) = true := by rw [e]; exact R.nj.sym _ _ s3
          obtain ⟨t1, t2, t3, t4, -⟩ := rw_spec R i
          obtain ⟨u1, u2, u3, u4, -⟩ := rw_spec R (i + 1)
          have j2 : bt (J (rw' J p (i + 1))) (rw' J p i) = true := R.nj.sym _ _ t3
          rcases two_same R.nj (R.two _ u1) j2 u3 j1 (Ne.symm (u4 i rfl)) with q | q
          · exact old i k (by omega) (by omega) q.symm
          · by_cases hk2 : i + 1 + 1 = k
            · have := s4 (i + 1) (by omega)
              exact this e.symm
            · exact old (i + 1 + 1) k (by omega) (by omega) q.symm
theorem inj_le {f : Nat → Nat} {m n : Nat} (h1 : ∀ i j, i < j → j < m → f i ≠ f j) (h2 : ∀ i, i < m → f i < n) : m ≤ n := by
  have nd : ((List.range m).map f).Nodup := by
    rw [List.nodup_iff_pairwise_ne, List.pairwise_map]
    have : (List.range m).Pairwise (fun a b => a < b ∧ b < m) := by
      rw [List.pairwise_iff_getElem]
      intro i j hi hj hij
      simp at hi hj ⊢
      omega
    exact this.imp (fun ⟨a, b⟩ => h1 _ _ a b)
  have := nd_len nd (m := List.range n) (fun x hx => by
    obtain ⟨i, hi, rfl⟩ := List.mem_map.mp hx
    exact List.mem_range.mpr (h2 i (List.mem_range.mp hi)))
  simpa using this
/-- the walk comes back, behind as many steps as the part has squares; its squares are all of them -/
theorem rw_ring {J : Nat → Int32} {p : Nat} (R : RG J p) : ∃ n, 3 ≤ n ∧ n ≤ 12 ∧ rw' J p n = p ∧ (∀ j, 1 ≤ j → j < n → rw' J p j ≠ p) ∧ (∀ i j, i < j → j < n → rw' J p i ≠ rw' J p j) ∧ cnt (bt (prt J p)) 12 = n ∧ ∀ b, bt (prt J p) b = true → ∃ i, i < n ∧ rw' J p i = b := by
  obtain ⟨q1, q2, q3⟩ := prt_cl R.nj R.p12
  have hex : ∃ n, 1 ≤ n ∧ n ≤ 12 ∧ rw' J p n = p := by
    apply Classical.byContradiction
    intro hn
    have := rw_new R 12 (fun j h1 h2 z => hn ⟨j, h1, h2, z⟩)
    have := inj_le (f := rw' J p) (m := 13) (n := 12) (fun i j h1 h2 => this i j h1 (by omega)) (fun i _ => (rw_spec R i).2.1)
    omega
  obtain ⟨n, ⟨h1, h2, h3⟩, h4⟩ := pk_least _ hex
  have first : ∀ j, 1 ≤ j → j < n → rw' J p j ≠ p := fun j a b z => h4 j b ⟨a, by omega, z⟩
  have dist : ∀ i j, i < j → j < n → rw' J p i ≠ rw' J p j := fun i j a b => rw_new R (n - 1) (fun j c d => first j c (by omega)) i j a (by omega)
  have hp0 : rw' J p 0 = p := rfl
  have n1 : n ≠ 1 := by
    rintro rfl
    have := (rw_spec R 0).2.2.1
    rw [h3, hp0, R.nj.irr] at this; cases this
  have n2 : n ≠ 2 := by
    rintro rfl
    exact (rw_spec R 1).2.2.2.1 0 rfl h3
  have n3 : 3 ≤ n := by omega
  -- the walk's squares are closed
  have key : ∀ i, i < n → ∀ b, bt (J (rw' J p i)) b = true → ∃ j, j < n ∧ rw' J p j = b := by
    intro i hi b hb
    by_cases hi0 : i = 0
    · subst hi0
      have a1 := (rw_spec R 0).2.2.1
      have a2 := (rw_spec R (n - 1)).2.2.1
      rw [show n - 1 + 1 = n by omega, h3] at a2
      have a3 := R.nj.sym _ _ a2
      rw [hp0] at hb a1
      rcases two_same R.nj (R.two p q3) a1 a3 hb (dist 1 (n - 1) (by omega) (by omega)) with e | e
      · exact ⟨1, by omega, e.symm⟩
      · exact ⟨n - 1, by omega, e.symm⟩
    · obtain ⟨i, rfl⟩ : ∃ r, i = r + 1 := ⟨i - 1, by omega⟩
      obtain ⟨t1, t2, t3, t4, -⟩ := rw_spec R i
      obtain ⟨u1, u2, u3, u4, -⟩ := rw_spec R (i + 1)
      rcases two_same R.nj (R.two _ u1) (R.nj.sym _ _ t3) u3 hb (Ne.symm (u4 i rfl)) with e | e
      · exact ⟨i, by omega, e.symm⟩
      · by_cases hl : i + 1 + 1 = n
        · rw [hl, h3] at e
          exact ⟨0, by omega, e ▸ rfl⟩
        · exact ⟨i + 1 + 1, by omega, e.symm⟩
  have hset : ∀ b, bt (orf (fun i => sg (nI (rw' J p i))) n) b = true ↔ ∃ i, i < n ∧ rw' J p i = b := by
    intro b
    rw [orf_bt]
    constructor
    · rintro ⟨i, a1, a2⟩
      rw [sg_bt (by have := (rw_spec R i).2.1; omega) (bt_32 a2)] at a2
      exact ⟨i, a1, (of_decide_eq_true a2).symm⟩
    · rintro ⟨i, a1, rfl⟩
      exact ⟨i, a1, sg_self (by have := (rw_spec R i).2.1; omega)⟩
  have all : ∀ b, bt (prt J p) b = true → ∃ i, i < n ∧ rw' J p i = b := by
    intro b hb
    refine (hset b).mp (prt_min R.p12 ?_ ?_ b hb)
    · intro a ha c hc
      obtain ⟨i, a1, rfl⟩ := (hset a).mp ha
      exact (hset c).mpr (key i a1 c hc)
    · exact (hset p).mpr ⟨0, by omega, rfl⟩
  refine ⟨n, n3, h2, h3, first, dist, ?_, all⟩
  have nd : ((List.range n).map (rw' J p)).Nodup := by
    rw [List.nodup_iff_pairwise_ne, List.pairwise_map]
    have : (List.range n).Pairwise (fun a b => a < b ∧ b < n) := by
      rw [List.pairwise_iff_getElem]
      intro i j hi hj hij
      simp at hi hj ⊢
      omega
    exact this.imp (fun ⟨a, b⟩ => dist _ _ a b)
  have l1 := nd_len nd (m := (List.range 12).filter (bt (prt J p))) (fun x hx => by
    obtain ⟨i, hi, rfl⟩ := List.mem_map.mp hx
    rw [List.mem_filter]
    exact ⟨List.mem_range.mpr (rw_spec R i).2.1, (rw_spec R i).1⟩)
  have l2 := nd_len (l := (List.range 12).filter (bt (prt J p))) (m := (List.range n).map (rw' J p)) (List.nodup_range.filter _) (fun x hx => by
    obtain ⟨_, a2⟩ := List.mem_filter.mp hx
    obtain ⟨i, a3, a4⟩ := all x a2
    exact List.mem_map.mpr ⟨i, List.mem_range.mpr a3, a4⟩)
  rw [cnt_list]
  simp at l1 l2
  omega
