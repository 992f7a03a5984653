/-! ===== the model's lines ===== -/
theorem ML_w {j : Nat} {h : Hp} (k : Nat) (v : Int32) (hk : k ∈ [8, 9, 11, 12, 13, 15, 16, 17]) : MK j h (wr h 25 k v) := ⟨fun c hc => by rw [p_wro _ _ _ _ (fun z => hc (by simp [z]))], fun x hx => by rw [p_wrk _ _ _ _ (fun z => hx (by rw [z]; exact hk))], fun x _ => by rw [p_wro _ _ _ _ (by decide)]⟩
theorem a0_1 (j : Nat) : nI (4 * j) + 1 = nI (4 * j + 1) := nI_1 _
theorem a0_2 (j : Nat) : nI (4 * j) + 2 = nI (4 * j + 2) := nI_add _ 2
theorem a0_3 (j : Nat) : nI (4 * j) + 3 = nI (4 * j + 3) := nI_add _ 3
theorem pm_board (N : Nat) (hN : 300 ≤ N) (h : Hp) {t : Nat} {B : Nat → Nat} (T : TM h t B) {k j : Nat} (hj : j < 12) (e8 : h.1 25 8 = nI k) (hk : k ≤ t) (s : Bs) (e30 : h.1 30 (4 * j) = nI 8) : ∃ r h', f_X8_isBoard N (nI (4 * j)) h = some (r, h') ∧ ML t j h h' s (pBoard t B k) r := by
  have ht := T.1
  have hle := ne_le (B := B) hk
  obtain ⟨r1, h1, a1, F1, b1, c1, q1⟩ := pm_num N hN h T (lo := 2) (hi := 4) (wh := 4 * j + 1) e8 hk (by omega) (by omega) (by omega)
  have K1 := MN_mk (j := j) F1 (by omega)
  unfold f_X8_isBoard f_X8_isBoard_b24 f_X8_isBoard_b73 f_X8_isBoard_b78
  rw [a0_1, a0_2, show f_X8_isNumber N (nI (4 * j + 1)) 2 4 h = some (r1, h1) from a1, p_cl]
  rcases q1 with ⟨x, x1, x2, x3⟩ | ⟨x1, x2, x3⟩
  rotate_left
  · rw [x2, if_pos rfl, if_pos (by decide)]
    refine ⟨0, h1, rfl, ?_⟩
    unfold pBoard
    rw [x1]
    exact ⟨K1, rfl, x3⟩
  have hx := rN_in x1
  have hle2 := ne_le (B := B) hle.1
  have T1 := TM_mk T K1
  obtain ⟨r2, h2, a2, F2, b2, c2, q2⟩ := pm_num N hN h1 T1 (lo := 2) (hi := 4) (wh := 4 * j + 2) c1 hle.1 (by omega) (by omega) (by omega)
  have K2 := MK_tr K1 (MN_mk (j := j) F2 (by omega))
  rw [x2, if_neg n10, show f_X8_isNumber N (nI (4 * j + 2)) 2 4 h1 = some (r2, h2) from a2, p_cl]
  have ep : pBoard t B k = (match rN t B (ne t B k) 2 4 with
    | none => .error () (nb t B (ne t B k))
    | some r => if x * r ≤ 12 then .ok ((.inr (.inr (.inr (.inl (x, r)))))) (ne t B (ne t B k)) else .error () (nb t B (ne t B k))) := by
    unfold pBoard
    rw [x1]
    rfl
  rw [ep]
  rcases q2 with ⟨y, y1, y2, y3⟩ | ⟨y1, y2, y3⟩
  rotate_left
  · rw [y2, if_pos rfl, if_pos (by decide)]
    refine ⟨0, h2, rfl, ?_⟩
    rw [y1]
    exact ⟨K2, rfl, y3⟩
  have hy := rN_in y1
  have r31 : h2.1 30 (4 * j + 1) = nI x := by rw [F2.2.2 _ (by omega)]; exact x3
  have r30 : h2.1 30 (4 * j) = nI 8 := by rw [F2.2.2 _ (by omega), F1.2.2 _ (by omega)]; exact e30
  have hxy : x * y < 100 := Nat.lt_of_le_of_lt (Nat.mul_le_mul hx.2 hy.2) (by omega)
  rw [y2, if_neg n10, if_pos (p_ib (by omega) (by omega)), if_pos (p_ib (by omega) (by omega)), p_ix (by omega), p_ix (by omega), r31, y3, pk_mul, p_lt, p_lt, p_lt, y1]
  dsimp only
  generalize eh5 : wr (wr (wr h2 25 15 (nI (x * y))) 25 16 0) 25 17 0 = h5
  have K5 : MK j h h5 := by rw [← eh5]; exact MK_tr (MK_tr (MK_tr K2 (ML_w 15 _ (by decide))) (ML_w 16 _ (by decide))) (ML_w 17 _ (by decide))
  have o5 : ∀ c, c ≠ 25 → h5.1 c = h2.1 c := fun c hc => by rw [← eh5, p_wro _ _ _ _ hc, p_wro _ _ _ _ hc, p_wro _ _ _ _ hc]
  have g15 : h5.1 25 15 = nI (x * y) := by rw [← eh5, p_wrk _ _ _ _ (by decide), p_wrk _ _ _ _ (by decide), p_wrs]
  have g16 : h5.1 25 16 = 0 := by rw [← eh5, p_wrk _ _ _ _ (by decide), p_wrs]
  have g17 : h5.1 25 17 = nI 0 := by rw [← eh5, p_wrs]; rfl
  have g8 : h5.1 25 8 = nI (ne t B (ne t B k)) := by rw [← eh5, p_wrk _ _ _ _ (by decide), p_wrk _ _ _ _ (by decide), p_wrk _ _ _ _ (by decide)]; exact c2
  have g9 : h5.1 25 9 = nI (nb t B (ne t B k)) := by rw [← eh5, p_wrk _ _ _ _ (by decide), p_wrk _ _ _ _ (by decide), p_wrk _ _ _ _ (by decide)]; exact b2
  rw [g15]
  by_cases c : x * y ≤ 12
  · rw [if_pos (show nI (x * y) < 13 from nI_lt (b := 13) (by omega) (by omega)), if_pos (by decide), if_pos c]
    refine ⟨1, h5, rfl, K5, rfl, ⟨g15, g16, g17, fun i hi => (by cases hi)⟩, ⟨?_, ?_, ?_⟩, g8, hle2.1⟩
    · rw [o5 30 (by decide)]; exact r30
    · rw [o5 30 (by decide)]; exact r31
    · rw [o5 30 (by decide)]; exact y3
  · rw [if_neg (show ¬ nI (x * y) < 13 from nI_nlt (b := 13) (by omega) (by omega)), pm_fails, p_cl, if_pos rfl, if_pos (by decide), if_neg c, g9]
    exact ⟨0, _, rfl, MK_tr K5 (ML_w 13 _ (by decide)), rfl, by rw [p_wrs]⟩
theorem RD_w {h : Hp} {s : Bs} (R : RD h s) {k : Nat} (v : Int32) (hk : k ∉ [15, 16, 17]) : RD (wr h 25 k v) s := by
  unfold RD
  rw [p_wrk _ _ _ _ (fun z => hk (by simp [← z])), p_wrk _ _ _ _ (fun z => hk (by simp [← z])), p_wrk _ _ _ _ (fun z => hk (by simp [← z])), p_wro _ _ _ _ (by decide), p_wro _ _ _ _ (by decide)]
  exact R
theorem pm_hole (N : Nat) (hN : 300 ≤ N) (h : Hp) {t : Nat} {B : Nat → Nat} (T : TM h t B) {k j : Nat} (hj : j < 12) (e8 : h.1 25 8 = nI k) (hk : k ≤ t) {s : Bs} (W : WB s) (R : RD h s) (e30 : h.1 30 (4 * j) = nI 9) : ∃ r h', f_X8_isHole N (nI (4 * j)) h = some (r, h') ∧ ML t j h h' s (pHole t B s k) r := by
  have ht := T.1
  have hle := ne_le (B := B) hk
  have h12 := W.1.2.2.2.2
  have wp := wg_pos W.1
  have hn4 := W.2.1
  obtain ⟨r1, h1, a1, F1, b1, c1, q1⟩ := pm_num N hN h T (lo := 0) (hi := s.w * s.g - 1) (wh := 4 * j + 1) e8 hk (by omega) (by omega) (by omega)
  have K1 := MN_mk (j := j) F1 (by omega)
  have R1 := RD_mn R F1
  unfold f_X8_isHole f_X8_isHole_b69
  rw [a0_1, R.1, show nI (s.w * s.g) - 1 = nI (s.w * s.g - 1) from pk_sub (b := 1) (by omega), show f_X8_isNumber N (nI (4 * j + 1)) 0 (nI (s.w * s.g - 1)) h = some (r1, h1) from a1, p_cl]
  rcases q1 with ⟨x, x1, x2, x3⟩ | ⟨x1, x2, x3⟩
  rotate_left
  · rw [x2, if_pos rfl, if_pos (by decide)]
    refine ⟨0, h1, rfl, ?_⟩
    unfold pHole
    rw [x1]
    exact ⟨K1, rfl, x3⟩
  have hx := rN_in x1
  have ep : pHole t B s k = if (bt s.ho x || (occ s.n s.S x || occ s.n s.L x)) = true then .error () (nb t B k) else .ok ((.inr (.inr (.inr (.inr x))))) (ne t B k) := by
    unfold pHole
    rw [x1]
  have bad : ∃ r h', (cl (f_X8_fails N h1) fun r1 h2 => if zk r1 = true then some (r1, h2) else none) = some (r, h') ∧ ML t j h h' s (.error () (nb t B k)) r := by
    rw [pm_fails, p_cl, if_pos (by decide), b1]
    exact ⟨0, _, rfl, MK_tr K1 (ML_w 13 _ (by decide)), rfl, by rw [p_wrs]⟩
  have r30 : h1.1 30 (4 * j) = nI 9 := by rw [F1.2.2 _ (by omega)]; exact e30
  rw [ep, x2, if_neg n10, if_pos (p_ib (by omega) (by omega)), p_lt, p_ix (by omega), x3, pm_has, p_cl, R1.2.1]
  have io1 := pm_isOf 28 N (by omega) h1 (n := s.n) (q := x) (P := s.S) hn4 (by omega) (fun i hi => ⟨(R1.2.2.2 i hi).1, by have := (W.2.2.1 i hi).2.2.1; omega⟩)
  have io2 := pm_isOf 29 N (by omega) h1 (n := s.n) (q := x) (P := s.L) hn4 (by omega) (fun i hi => ⟨(R1.2.2.2 i hi).2, by have := (W.2.2.1 i hi).2.2.2; omega⟩)
  cases hb : bt s.ho x with
  | true =>
    rw [bi_e1 (by omega) hb, if_pos rfl, if_neg n10, Bool.true_or, if_pos rfl]
    exact bad
  | false =>
    rw [bi_e0 (by omega) (by rw [hb]; decide), if_neg n01, if_pos rfl, R1.2.2.1, io1, p_cl, Bool.false_or]
    cases ho1 : occ s.n s.S x with
    | true =>
      rw [if_neg (by decide), Bool.true_or, if_pos rfl]
      exact bad
    | false =>
      rw [if_pos (by decide), R1.2.2.1, io2, p_cl, Bool.false_or]
      cases ho2 : occ s.n s.L x with
      | true =>
        rw [if_neg (by decide), if_pos rfl]
        exact bad
      | false =>
        rw [if_pos (by decide), p_lt, if_pos (by decide), if_neg (by decide)]
        refine ⟨1, _, rfl, MK_tr K1 (ML_w 16 _ (by decide)), rfl, ⟨by rw [p_wrk _ _ _ _ (by decide)]; exact R1.1, by rw [p_wrs, R1.2.1]; rfl, by rw [p_wrk _ _ _ _ (by decide)]; exact R1.2.2.1, fun i hi => by rw [p_wro _ _ _ _ (by decide), p_wro _ _ _ _ (by decide)]; exact R1.2.2.2 i hi⟩, ⟨by rw [p_wro _ _ _ _ (by decide)]; exact r30, by rw [p_wro _ _ _ _ (by decide)]; exact x3⟩, by rw [p_wrk _ _ _ _ (by decide)]; exact c1, hle.1⟩
theorem pm_man (N : Nat) (hN : 300 ≤ N) (h : Hp) {t : Nat} {B : Nat → Nat} (T : TM h t B) {b k j kind : Nat} (hkind : kind < 4) (hj : j < 12) (e9 : h.1 25 9 = nI b) (e8 : h.1 25 8 = nI k) (hk : k ≤ t) {s : Bs} (W : WB s) (R : RD h s) (e30 : h.1 30 (4 * j) = nI kind) : ∃ r h', f_X8_isManLine N (nI (4 * j)) h = some (r, h') ∧ ML t j h h' s (pMan t B s kind b k) r := by
  have ht := T.1
  have hle := ne_le (B := B) hk
  have h12 := W.1.2.2.2.2
  have wp := wg_pos W.1
  have hn4 := W.2.1
  unfold f_X8_isManLine f_X8_isManLine_b42 f_X8_isManLine_b84 f_X8_isManLine_b148
  rw [R.2.2.1]
  by_cases hfull : 4 ≤ s.n
  · have en : s.n = 4 := by omega
    have ep : pMan t B s kind b k = .error () b := by unfold pMan; rw [if_pos hfull]
    rw [ep, if_pos (show nI s.n = 4 by rw [en]; rfl), pm_fails, p_cl, if_pos (by decide), e9]
    exact ⟨0, _, rfl, ML_w 13 _ (by decide), rfl, by rw [p_wrs]⟩
  rw [if_neg (show ¬ nI s.n = 4 by rw [show (4 : Int32) = nI 4 from rfl, nI_eq (by omega) (by omega)]; omega), a0_1, a0_2, a0_3]
  obtain ⟨r1, h1, a1, F1, b1, c1, q1⟩ := pm_num N hN h T (lo := 0) (hi := 1) (wh := 4 * j + 1) e8 hk (by omega) (by omega) (by omega)
  have K1 := MN_mk (j := j) F1 (by omega)
  have R1 := RD_mn R F1
  have T1 := TM_mk T K1
  rw [show f_X8_isNumber N (nI (4 * j + 1)) 0 1 h = some (r1, h1) from a1, p_cl]
  rcases q1 with ⟨co, x1, x2, x3⟩ | ⟨x1, x2, x3⟩
  rotate_left
  · rw [x2, if_pos rfl, if_pos (by decide)]
    refine ⟨0, h1, rfl, ?_⟩
    unfold pMan
    rw [if_neg hfull, x1]
    exact ⟨K1, rfl, x3⟩
  have e1 : pMan t B s kind b k = (match rN t B (ne t B k) 0 (s.w * s.g - 1) with
    | none => .error () (nb t B (ne t B k))
    | some a => if (bt s.ho a || occ s.n s.S a) = true then .error () (nb t B (ne t B k)) else match rN t B (ne t B (ne t B k)) 0 (s.w * s.g - 1) with
      | none => .error () (nb t B (ne t B (ne t B k)))
      | some d => if (bt s.ho d || occ s.n s.L d) = true then .error () (nb t B (ne t B (ne t B k))) else .ok ((.inl (kind, co, a, d))) (ne t B (ne t B (ne t B k)))) := by
    unfold pMan
    rw [if_neg hfull, x1]
    rfl
  rw [e1]
  have hle2 := ne_le (B := B) hle.1
  obtain ⟨r2, h2, a2, F2, b2, c2, q2⟩ := pm_num N hN h1 T1 (lo := 0) (hi := s.w * s.g - 1) (wh := 4 * j + 2) c1 hle.1 (by omega) (by omega) (by omega)
  have K2 := MK_tr K1 (MN_mk (j := j) F2 (by omega))
  have R2 := RD_mn R1 F2
  have T2 := TM_mk T K2
  rw [x2, if_neg n10, R1.1, show nI (s.w * s.g) - 1 = nI (s.w * s.g - 1) from pk_sub (b := 1) (by omega), show f_X8_isNumber N (nI (4 * j + 2)) 0 (nI (s.w * s.g - 1)) h1 = some (r2, h2) from a2, p_cl]
  rcases q2 with ⟨a, y1, y2, y3⟩ | ⟨y1, y2, y3⟩
  rotate_left
  · rw [y2, if_pos rfl, if_pos (by decide)]
    refine ⟨0, h2, rfl, ?_⟩
    rw [y1]
    exact ⟨K2, rfl, y3⟩
  have hy := rN_in y1
  rw [y2, if_neg n10, if_pos (p_ib (show 4 * j + 2 < 48 by omega) (by omega)), p_ix (by omega), y3, pm_has, p_cl, R2.2.1, y1]
  dsimp only
  have bad2 : ∃ r h', (cl (f_X8_fails N h2) fun r1 h2 => if zk r1 = true then some (r1, h2) else none) = some (r, h') ∧ ML t j h h' s (.error () (nb t B (ne t B k))) r := by
    rw [pm_fails, p_cl, if_pos (by decide), b2]
    exact ⟨0, _, rfl, MK_tr K2 (ML_w 13 _ (by decide)), rfl, by rw [p_wrs]⟩
  have io1 := pm_isOf 28 N (by omega) h2 (n := s.n) (q := a) (P := s.S) hn4 (by omega) (fun i hi => ⟨(R2.2.2.2 i hi).1, by have := (W.2.2.1 i hi).2.2.1; omega⟩)
  cases hb : bt s.ho a with
  | true =>
    rw [bi_e1 (by omega) hb, if_pos rfl, if_neg n10, Bool.true_or, if_pos rfl]
    exact bad2
  | false =>
  rw [bi_e0 (by omega) (by rw [hb]; decide), if_neg n01, if_pos rfl, if_pos (p_ib (show 4 * j + 2 < 48 by omega) (by omega)), R2.2.2.1, y3, io1, p_cl, Bool.false_or]
  cases ho1 : occ s.n s.S a with
  | true =>
    rw [if_neg (by decide), if_pos rfl]
    exact bad2
  | false =>
  rw [if_pos (by decide), if_neg (by decide)]
  have hle3 := ne_le (B := B) hle2.1
  obtain ⟨r3, h3, a3, F3, b3, c3, q3⟩ := pm_num N hN h2 T2 (lo := 0) (hi := s.w * s.g - 1) (wh := 4 * j + 3) c2 hle2.1 (by omega) (by omega) (by omega)
  have K3 := MK_tr K2 (MN_mk (j := j) F3 (by omega))
  have R3 := RD_mn R2 F3
  rw [R2.1, show nI (s.w * s.g) - 1 = nI (s.w * s.g - 1) from pk_sub (b := 1) (by omega), show f_X8_isNumber N (nI (4 * j + 3)) 0 (nI (s.w * s.g - 1)) h2 = some (r3, h3) from a3, p_cl]
  rcases q3 with ⟨d, z1, z2, z3⟩ | ⟨z1, z2, z3⟩
  rotate_left
  · rw [z2, if_pos rfl, if_pos (by decide)]
    refine ⟨0, h3, rfl, ?_⟩
    rw [z1]
    exact ⟨K3, rfl, z3⟩
  have hz := rN_in z1
  rw [z2, if_neg n10, if_pos (p_ib (show 4 * j + 3 < 48 by omega) (by omega)), p_ix (by omega), z3, pm_has, p_cl, R3.2.1, z1]
  dsimp only
  have bad3 : ∃ r h', (cl (f_X8_fails N h3) fun r1 h2 => if zk r1 = true then some (r1, h2) else none) = some (r, h') ∧ ML t j h h' s (.error () (nb t B (ne t B (ne t B k)))) r := by
    rw [pm_fails, p_cl, if_pos (by decide), b3]
    exact ⟨0, _, rfl, MK_tr K3 (ML_w 13 _ (by decide)), rfl, by rw [p_wrs]⟩
  have io2 := pm_isOf 29 N (by omega) h3 (n := s.n) (q := d) (P := s.L) hn4 (by omega) (fun i hi => ⟨(R3.2.2.2 i hi).2, by have := (W.2.2.1 i hi).2.2.2; omega⟩)
  cases hb2 : bt s.ho d with
  | true =>
    rw [bi_e1 (by omega) hb2, if_pos rfl, if_neg n10, Bool.true_or, if_pos rfl]
    exact bad3
  | false =>
  rw [bi_e0 (by omega) (by rw [hb2]; decide), if_neg n01, if_pos rfl, if_pos (p_ib (show 4 * j + 3 < 48 by omega) (by omega)), R3.2.2.1, z3, io2, p_cl, Bool.false_or]
  cases ho2 : occ s.n s.L d with
  | true =>
    rw [if_neg (by decide), if_pos rfl]
    exact bad3
  | false =>
  have y33 : h3.1 30 (4 * j + 2) = nI a := by rw [F3.2.2 _ (by omega)]; exact y3
  have x33 : h3.1 30 (4 * j + 1) = nI co := by rw [F3.2.2 _ (by omega), F2.2.2 _ (by omega)]; exact x3
  have e303 : h3.1 30 (4 * j) = nI kind := by rw [F3.2.2 _ (by omega), F2.2.2 _ (by omega), F1.2.2 _ (by omega)]; exact e30
  rw [if_pos (by decide), if_neg (show ¬ false = true by decide), if_pos (p_ib (show 4 * j + 2 < 48 by omega) (by omega)), R3.2.2.1, if_pos (p_ib (show s.n < 4 by omega) (by omega)), p_lt, if_pos (p_ib (show 4 * j + 3 < 48 by omega) (by omega)), p_wro _ _ _ _ (show (25 : Nat) ≠ 28 by decide), R3.2.2.1, if_pos (p_ib (show s.n < 4 by omega) (by omega)), p_lt, p_lt, if_pos (by decide), p_ix (by omega), y33, p_wro _ _ _ _ (show (30 : Nat) ≠ 28 by decide), z3, p_wro _ _ _ _ (show (25 : Nat) ≠ 29 by decide), p_wro _ _ _ _ (show (25 : Nat) ≠ 28 by decide), R3.2.2.1, nI_1]
  generalize eh6 : wr (wr (wr h3 28 s.n (nI a)) 29 s.n (nI d)) 25 17 (nI (s.n + 1)) = h6
  have o6 : ∀ c, c ≠ 25 → c ≠ 28 → c ≠ 29 → h6.1 c = h3.1 c := fun c c1 c2 c3 => by rw [← eh6, p_wro _ _ _ _ c1, p_wro _ _ _ _ c3, p_wro _ _ _ _ c2]
  have o25 : ∀ x, x ≠ 17 → h6.1 25 x = h3.1 25 x := fun x hx => by rw [← eh6, p_wrk _ _ _ _ hx, p_wro _ _ _ _ (by decide), p_wro _ _ _ _ (by decide)]
  have K6 : MK j h3 h6 := ⟨fun c hc => o6 c (fun z => hc (by simp [z])) (fun z => hc (by simp [z])) (fun z => hc (by simp [z])), fun x hx => o25 x (fun z => hx (by simp [z])), fun x _ => by rw [o6 30 (by decide) (by decide) (by decide)]⟩
  refine ⟨1, h6, rfl, MK_tr K3 K6, rfl, ⟨by rw [o25 15 (by decide)]; exact R3.1, by rw [o25 16 (by decide)]; exact R3.2.1, by rw [← eh6, p_wrs]; rfl, fun i hi => ?_⟩, ⟨by rw [o6 30 (by decide) (by decide) (by decide)]; exact e303, by rw [o6 30 (by decide) (by decide) (by decide)]; exact x33, by rw [o6 30 (by decide) (by decide) (by decide)]; exact y33, by rw [o6 30 (by decide) (by decide) (by decide)]; exact z3, hkind⟩, by rw [o25 8 (by decide)]; exact c3, hle3.1⟩
  have hi' : i < s.n + 1 := hi
  have g28 : h6.1 28 i = if i = s.n then nI a else h3.1 28 i := by rw [← eh6, p_wro _ _ _ _ (by decide), p_wro _ _ _ _ (by decide), p_wr, if_pos rfl]
  have g29 : h6.1 29 i = if i = s.n then nI d else h3.1 29 i := by rw [← eh6, p_wro _ _ _ _ (by decide), p_wr, if_pos rfl, p_wro _ _ _ _ (by decide)]
  show h6.1 28 i = nI (updN s.S s.n a i) ∧ h6.1 29 i = nI (updN s.L s.n d i)
  rw [g28, g29]
  unfold updN
  by_cases e : i = s.n
  · rw [if_pos e, if_pos e, if_pos e, if_pos e]; exact ⟨rfl, rfl⟩
  · rw [if_neg e, if_neg e, if_neg e, if_neg e]; exact R3.2.2.2 i (by omega)
