/-! ===== ring ===== -/
theorem shp_2 {s o t r d : Nat} (h : shp s o t r d = 2) : t = s ∧ s ≠ 0 := by
  unfold shp at h
  split at h
  · cases h
  · split at h
    · split at h <;> cases h
    · split at h
      · split at h
        · rename_i c
          split at h
          · cases h
          · rename_i c2; exact ⟨c, c2⟩
        · split at h <;> cases h
      · cases h
theorem RG_of {J : Nat → Int32} (hJ : NJ J) {p : Nat} (hp : p < 12) (h : shpJ J (prt J p) = 2) : RG J p := by
  obtain ⟨h1, -⟩ := shp_2 h
  obtain ⟨q1, q2, q3⟩ := prt_cl hJ hp
  exact ⟨hJ, hp, fun a ha => (swt_all h1).1 a (q1 a (bt_32 ha) ha) ha⟩
theorem cnt_z (n : Nat) : cnt (bt 0) n = 0 := by
  induction n with
  | zero => rfl
  | succ n ih => rw [cnt_s, ih, b_0, if_neg (by decide)]
theorem swt_z (J : Nat → Int32) (j n : Nat) : swt J 0 j n = 0 := by
  induction n with
  | zero => rfl
  | succ n ih => rw [swt_s, ih, b_0, if_neg (by decide)]
theorem sdg_z (J : Nat → Int32) (n : Nat) : sdg J 0 n = 0 := by
  induction n with
  | zero => rfl
  | succ n ih => rw [sdg_s, ih, b_0, if_neg (by decide)]
theorem shpJ_0 (J : Nat → Int32) : shpJ J 0 = 5 := by
  unfold shpJ
  rw [cnt_z, swt_z, swt_z, swt_z, sdg_z]
  rfl
theorem shp_le (s o t r d : Nat) : shp s o t r d ≤ 5 := by
  unfold shp
  (repeat' split) <;> omega
theorem pu_around_l (N : Nat) {J : Nat → Int32} {p : Nat} (R : RG J p) {ho : Int32} (h : Hp) (hK : KN h J ho) {i : Nat} (hi : i < 100) : ∀ (e n : Nat), n ≤ i → i - n < e → f_X2_around_l8 N e (nI i) (rst J p n).1 (nI (rw' J p n)) (nI n) h = some (nI (rw' J p i), h) := by
  intro e
  induction e with
  | zero => intro n _ h2; omega
  | succ e ih =>
    intro n hn he
    show f_X2_around_b8 N (f_X2_around_l8 N e) (nI i) (rst J p n).1 (nI (rw' J p n)) (nI n) h = _
    unfold f_X2_around_b8
    by_cases hc : n = i
    · subst hc
      rw [if_pos (nI_le (Nat.le_refl _) (by omega))]
    · obtain ⟨s1, s2, s3, s4, s5⟩ := rw_spec R n
      have hb : B12 (J (rw' J p n) &&& ((rst J p n).1 ^^^ (-1))) := fun b hb q => by
        rw [b_and, Bool.and_eq_true] at q
        exact R.nj.b12 _ b hb q.1
      rw [if_neg (nI_ge (by omega) (by omega)), if_neg (nI_pos (by omega)), if_pos (show nI (rw' J p n) < 12 from nI_lt (b := 12) (by omega) (by omega)), if_pos (p_ib (by omega) (by omega)), p_lt, p_lt, p_ix (by omega), hK.1 _ s2, pu_tz N hb s5 h, p_cl, p_lt, p_lt, nI_1]
      exact ih (n + 1) (by omega) (by omega)
theorem pu_around (N : Nat) (hN : 200 ≤ N) {J : Nat → Int32} {p : Nat} (R : RG J p) {ho : Int32} (h : Hp) (hK : KN h J ho) {i : Nat} (hi : i < 100) : f_X2_around N (nI p) (nI i) h = some (nI (rw' J p i), h) := by
  unfold f_X2_around
  rw [p_lt, p_lt, p_lt]
  exact pu_around_l N R h hK hi N 0 (by omega) (by omega)
theorem pm_ring_l (N : Nat) (hN : 20 ≤ N) {w g k p : Nat} (h : Hp) (hM : MB h w g) (f : Nat → Int32) (hk : k < 4) {J : Nat → Int32} (eJ : J = njc (stt w g f) k (h.1 25 2)) (R : RG J p) {n : Nat} (n1 : n ≤ 12) (n2 : rw' J p n = p) (n3 : ∀ j, 1 ≤ j → j < n → rw' J p j ≠ p) : ∀ (e j : Nat) (h' : Hp), (∀ c, c ≠ 40 → h'.1 c = h.1 c) → (∀ i, i < j → h'.1 40 i = nI (rw' J p i)) → 1 ≤ j → j ≤ n → n - j < e → ∃ h2, f_X8_layRing_l20 N e (nI k) (nI p) (nI j) (nI (rw' J p j)) h' = some (nI n, h2) ∧ (∀ c, c ≠ 40 → h2.1 c = h.1 c) ∧ ∀ i, i < n → h2.1 40 i = nI (rw' J p i) := by
  have hp12 := R.p12
  intro e
  induction e with
  | zero => intro j h' _ _ _ _ h2; omega
  | succ e ih =>
    intro j h' hc hr h1 hj he
    obtain ⟨s1, s2, s3, s4, s5⟩ := rw_spec R j
    show ∃ h2, f_X8_layRing_b20 N (f_X8_layRing_l20 N e) (nI k) (nI p) (nI j) (nI (rw' J p j)) h' = _ ∧ _
    unfold f_X8_layRing_b20
    by_cases hjn : j = n
    · subst hjn
      rw [if_pos (by rw [n2])]
      exact ⟨h', rfl, hc, hr⟩
    · have hne := n3 j h1 (by omega)
      have hlt : rw' J p j < w * g := by
        have := s3
        rw [eJ] at this
        rw [← eJ] at this
        rw [eJ] at s3
        have q := (njc_in hM.1 hk f _ s3).1
        rw [← eJ] at q
        exact q
      have hM' : MB (wr h' 40 j (nI (rw' J p j))) w g := by unfold MB; rw [p_wro _ _ _ _ (by decide), hc 25 (by decide)]; exact hM
      have hJ' := pm_joined N hN (wr h' 40 j (nI (rw' J p j))) hM' f hk hlt
      rw [p_wro _ _ _ _ (show (25 : Nat) ≠ 40 by decide), hc 25 (by decide), ← eJ] at hJ'
      obtain ⟨y, rfl⟩ : ∃ y, j = y + 1 := ⟨j - 1, by omega⟩
      rw [if_neg (by rw [nI_eq (by omega) (by omega)]; exact hne), if_pos (p_ib (by omega) (by omega)), p_lt, p_lt, p_ix (by omega), hJ', p_cl, nI_1, show nI (y + 1 + 1) - 2 = nI y from pk_sub (a := y + 1 + 1) (b := 2) (by omega) ▸ rfl, if_pos (p_ib (by omega) (by omega)), p_ix (by omega), p_wrk _ _ _ _ (show y ≠ y + 1 by omega), hr y (by omega)]
      have e2 : (rst J p (y + 1)).1 = sg (nI (rw' J p y)) := rfl
      rw [e2] at s5
      have elow := pm_lowest N hN s5 (wr h' 40 (y + 1) (nI (rw' J p (y + 1))))
      unfold sg at elow
      rw [elow, p_cl, p_lt]
      have := ih (y + 1 + 1) (wr h' 40 (y + 1) (nI (rw' J p (y + 1)))) (fun c hcc => by rw [p_wro _ _ _ _ hcc, hc c hcc]) (fun i hi => by
        by_cases hiy : i = y + 1
        · rw [hiy, p_wrs]
        · rw [p_wrk _ _ _ _ hiy]; exact hr i (by omega)) (by omega) (by omega) (by omega)
      exact this
theorem pm_layRing (N : Nat) (hN : 20 ≤ N) {w g k p : Nat} (h : Hp) (hM : MB h w g) (f : Nat → Int32) (hk : k < 4) (hp : p < w * g) {J : Nat → Int32} (eJ : J = njc (stt w g f) k (h.1 25 2)) (R : RG J p) {n : Nat} (n0 : 3 ≤ n) (n1 : n ≤ 12) (n2 : rw' J p n = p) (n3 : ∀ j, 1 ≤ j → j < n → rw' J p j ≠ p) : ∃ h2, f_X8_layRing N (nI k) (nI p) h = some (nI n, h2) ∧ (∀ c, c ≠ 40 → h2.1 c = h.1 c) ∧ ∀ i, i < n → h2.1 40 i = nI (rw' J p i) := by
  have h12 := hM.1.2.2.2.2
  obtain ⟨s1, s2, s3, s4, s5⟩ := rw_spec R 0
  have hM' : MB (wr h 40 0 (nI p)) w g := by unfold MB; rw [p_wro _ _ _ _ (by decide)]; exact hM
  have hJ' := pm_joined N hN (wr h 40 0 (nI p)) hM' f hk hp
  rw [p_wro _ _ _ _ (show (25 : Nat) ≠ 40 by decide), ← eJ] at hJ'
  have e0 : J p &&& ((0 : Int32) ^^^ (-1)) = J p := by
    apply bt_iff
    intro b hb
    rw [b_and, b_not _ hb, b_0]
    simp
  have s5' : ∃ b, b < 12 ∧ bt (J p) b = true := by
    obtain ⟨b, b1, b2⟩ := s5
    rw [show (rst J p 0).1 = 0 from rfl, show rw' J p 0 = p from rfl, e0] at b2
    exact ⟨b, b1, b2⟩
  have elow := pm_lowest N hN s5' (wr h 40 0 (nI p))
  have e1 : rw' J p 1 = low (J p) := by
    show low (J p &&& ((0 : Int32) ^^^ (-1))) = _
    rw [e0]
  unfold f_X8_layRing
  rw [p_lt, if_pos (by decide), p_lt]
  show ∃ h2, cl (f_X8_joined N (nI k) (nI p) (wr h 40 0 (nI p))) _ = _ ∧ _
  rw [hJ', p_cl, elow, p_cl, p_lt, ← e1]
  exact pm_ring_l N hN h hM f hk eJ R n1 n2 n3 N 1 (wr h 40 0 (nI p)) (fun c hc => by rw [p_wro _ _ _ _ hc]) (fun i hi => by
    have : i = 0 := by omega
    subst this
    rw [p_wrs]; rfl) (by omega) (by omega) (by omega)
theorem sim_ring (N : Nat) (hN : 200 ≤ N) (a b c : Int32) {h : Hp} (hI : Inv h) : Sim (f_X7_ring N a b c) (f_X8_ring N a b c) h := by
  obtain ⟨w, g, n, kd, co, f, hV⟩ := id hI
  have hB := hV.1
  obtain ⟨b1, b2, b3, b4, b5, b6, b7, b8, b9⟩ := id hB
  have h12 := b1.2.2.2.2
  rcases n_case b (s := w * g) (by omega) with ⟨q, hq, rfl⟩ | hb
  rotate_left
  · refine Sim_same (-2) hI ?_ ?_
    · unfold f_X7_ring
      rw [pu_noSq_out N h b2 b3 hb, p_cl, if_neg n10]
    · unfold f_X8_ring
      rw [pm_isSq_out N h b6.2.1 b6.2.2 (by omega) hb, p_cl, if_pos rfl]
  rcases n_case a (s := 4) (by omega) with ⟨k, hk, rfl⟩ | ha
  rotate_left
  · refine Sim_same (-3) hI ?_ ?_
    · unfold f_X7_ring f_X7_ring_b22
      rw [pu_noSq_in N h b2 b3 (by omega) hq, p_cl, if_pos rfl, pu_noKind_out N h ha, p_cl, if_neg n10]
    · unfold f_X8_ring f_X8_ring_b24
      rw [pm_isSq_in N h b6.2.1 b6.2.2 (by omega) hq, p_cl, if_neg n10, pm_in3_out N h ha, p_cl, if_pos rfl]
  by_cases hc0 : 0 ≤ c
  rotate_left
  · refine Sim_same (-3) hI ?_ ?_
    · unfold f_X7_ring f_X7_ring_b22
      rw [pu_noSq_in N h b2 b3 (by omega) hq, p_cl, if_pos rfl, pu_noKind N k hk, p_cl, if_pos rfl, if_neg hc0]
    · unfold f_X8_ring f_X8_ring_b24
      rw [pm_isSq_in N h b6.2.1 b6.2.2 (by omega) hq, p_cl, if_neg n10, pm_in3 N h hk, p_cl, if_neg n10, if_neg hc0]
  obtain ⟨h2, e2, k2, c2⟩ := pu_knot N (by omega) hk h (IB_T hB) (h.1 1 2)
  have hI2 := Inv_net hI (fun a h1 h2 _ => c2 a h1 h2)
  rw [b5] at k2
  have hJ := NJ_nj b1 hk f (h.1 1 2)
  have hM2 : MB h2 w g := by unfold MB; rw [c2 25 (by decide) (by decide)]; exact b6
  have hc : h2.1 25 2 = h.1 1 2 := by rw [c2 25 (by decide) (by decide)]; exact b8
  generalize eJ : njc (stt w g f) k (h.1 1 2) = J at *
  by_cases ch : bt (h.1 1 2) q = true
  · have sh := pu_shapeOf N (by omega) hJ h2 k2 B12_0 (by rw [sdg_z])
    rw [show shp (cnt (bt 0) 12) (swt J 0 1 12) (swt J 0 2 12) (swt J 0 3 12) (sdg J 0 12) = 5 from shpJ_0 J] at sh
    refine ⟨-4, h2, h2, ?_, ?_, hI2.1, hI2.2⟩
    · unfold f_X7_ring
      rw [pu_noSq_in N h b2 b3 (by omega) hq, p_cl, if_pos rfl, pu_noKind N k hk, p_cl, if_pos rfl, if_pos hc0, e2, p_cl, pu_partAt N (by omega) h2 k2 (by omega), p_cl, p_lt, if_pos ch, sh, p_cl, if_neg (by decide)]
    · unfold f_X8_ring f_X8_ring_b48
      rw [pm_isSq_in N h2 hM2.2.1 hM2.2.2 (by omega) hq, p_cl, if_neg n10, pm_in3 N h2 hk, p_cl, if_neg n10, if_pos hc0, pm_has, p_cl, hc, bi_e1 (by omega) ch, if_pos rfl, if_neg n10]
  obtain ⟨q1, q2, q3⟩ := prt_cl hJ (p := q) (by omega)
  have sh := pu_shapeOf N (by omega) hJ h2 k2 q1 (sdg_even hJ q2)
  rw [show shp (cnt (bt (prt J q)) 12) (swt J (prt J q) 1 12) (swt J (prt J q) 2 12) (swt J (prt J q) 3 12) (sdg J (prt J q) 12) = shpJ J (prt J q) from rfl] at sh
  have shm := pm_shapeOf N (by omega) h2 hM2 f hk hq (by rw [hc]; simpa using ch)
  rw [hc, eJ] at shm
  have hle : shpJ J (prt J q) ≤ 5 := shp_le _ _ _ _ _
  by_cases c2s : shpJ J (prt J q) = 2
  rotate_left
  · have ns : ¬ nI (shpJ J (prt J q)) = 2 := by rw [show (2 : Int32) = nI 2 from rfl, nI_eq (by omega) (by omega)]; exact c2s
    refine ⟨-4, h2, h2, ?_, ?_, hI2.1, hI2.2⟩
    · unfold f_X7_ring
      rw [pu_noSq_in N h b2 b3 (by omega) hq, p_cl, if_pos rfl, pu_noKind N k hk, p_cl, if_pos rfl, if_pos hc0, e2, p_cl, pu_partAt N (by omega) h2 k2 (by omega), p_cl, p_lt, if_neg ch, sh, p_cl, if_neg ns]
    · unfold f_X8_ring f_X8_ring_b48
      rw [pm_isSq_in N h2 hM2.2.1 hM2.2.2 (by omega) hq, p_cl, if_neg n10, pm_in3 N h2 hk, p_cl, if_neg n10, if_pos hc0, pm_has, p_cl, hc, bi_e0 (by omega) ch, if_neg n01, if_pos rfl, shm, p_cl, if_neg ns]
  have R := RG_of hJ (by omega) c2s
  obtain ⟨m, m0, m1, m2, m3, m4, m5, m6⟩ := rw_ring R
  obtain ⟨h3, e3, c3, r3⟩ := pm_layRing N (by omega) h2 hM2 f hk hq (J := J) (by rw [hc]; exact eJ.symm) R m0 m1 m2 m3
  have hI3 := Inv_net hI (fun a h1 h2 h3 => by rw [c3 a h3, c2 a h1 h2])
  have ns : nI (shpJ J (prt J q)) = 2 := by rw [c2s]; rfl
  obtain ⟨i, hi31, rfl⟩ := nI_of (x := c) (Int32.not_lt.mpr hc0)
  by_cases him : i < m
  · refine ⟨nI (rw' J q i), h2, h3, ?_, ?_, hI3.1, hI3.2⟩
    · unfold f_X7_ring
      rw [pu_noSq_in N h b2 b3 (by omega) hq, p_cl, if_pos rfl, pu_noKind N k hk, p_cl, if_pos rfl, if_pos hc0, e2, p_cl, pu_partAt N (by omega) h2 k2 (by omega), p_cl, p_lt, if_neg ch, sh, p_cl, if_pos ns, pu_bitCount N q1, p_cl, m5, if_pos (nI_lt him (by omega)), pu_around N hN R h2 k2 (by omega), p_cl]
    · unfold f_X8_ring f_X8_ring_b71
      rw [pm_isSq_in N h2 hM2.2.1 hM2.2.2 (by omega) hq, p_cl, if_neg n10, pm_in3 N h2 hk, p_cl, if_neg n10, if_pos hc0, pm_has, p_cl, hc, bi_e0 (by omega) ch, if_neg n01, if_pos rfl, shm, p_cl, if_pos ns, e3, p_cl, if_neg (nI_ge him (by omega)), if_pos (p_ib (by omega) (by omega)), p_ix (by omega), r3 i him]
  · refine ⟨-1, h2, h3, ?_, ?_, hI3.1, hI3.2⟩
    · unfold f_X7_ring
      rw [pu_noSq_in N h b2 b3 (by omega) hq, p_cl, if_pos rfl, pu_noKind N k hk, p_cl, if_pos rfl, if_pos hc0, e2, p_cl, pu_partAt N (by omega) h2 k2 (by omega), p_cl, p_lt, if_neg ch, sh, p_cl, if_pos ns, pu_bitCount N q1, p_cl, m5, if_neg (nI_nlt (by omega) (by omega))]
    · unfold f_X8_ring f_X8_ring_b71
      rw [pm_isSq_in N h2 hM2.2.1 hM2.2.2 (by omega) hq, p_cl, if_neg n10, pm_in3 N h2 hk, p_cl, if_neg n10, if_pos hc0, pm_has, p_cl, hc, bi_e0 (by omega) ch, if_neg n01, if_pos rfl, shm, p_cl, if_pos ns, e3, p_cl, if_pos (nI_le (by omega) (by omega))]
