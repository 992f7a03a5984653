/-! ===== X7 square ===== -/
abbrev rm_X7_square : Room := { frames := 2, cells := 0, slots := 0, locals := 44 }
theorem fd_X7_square_10 : FdO wsX7_square RX7 10 RX7 TX7 15 7 0 := ⟨by decide +kernel, rfl, by decide, by decide +kernel⟩
theorem fd_X7_square_126 : FdO wsX7_square RX7 126 RX5 TX5 9 5 2 := ⟨by decide +kernel, rfl, by decide, by decide +kernel⟩
theorem fd_X7_square_133 : FdO wsX7_square RX7 133 RX7 TX7 15 7 13 := ⟨by decide +kernel, rfl, by decide, by decide +kernel⟩
theorem fd_X7_square_139 : FdO wsX7_square RX7 139 RX5 TX5 9 5 6 := ⟨by decide +kernel, rfl, by decide, by decide +kernel⟩
theorem cw_X7_square_X5_manOf : CwO rm_X7_square yX5_manOf wsX5_manOf cX5_manOf 4 (some .int) rm_X5_manOf 2 := ⟨⟨_, rfl⟩, rfl, rfl, by decide +kernel, by decide, by decide⟩
theorem cw_X7_square_X7_bit : CwO rm_X7_square yX7_bit wsX7_bit cX7_bit 2 (some .int) rm_X7_bit 2 := ⟨⟨_, rfl⟩, rfl, rfl, by decide +kernel, by decide, by decide⟩
theorem cw_X7_square_X7_noSquare : CwO rm_X7_square yX7_noSquare wsX7_noSquare cX7_noSquare 2 (some .boolean) rm_X7_noSquare 1 := ⟨⟨_, rfl⟩, rfl, rfl, by decide +kernel, by decide, by decide⟩
set_option maxRecDepth 20000 in
theorem f_X7_square_ok {l : Launch} {G : Gx} {N : Nat} {a0 : Int32} {a1 : Int32} {h : Hp} {z : Rs} (e : f_X7_square N a0 a1 h = some z) : CI l G yX7_square wsX7_square rm_X7_square [.ref (G.1 0), .int a0, .int a1] h z := by
  refine m_int _ (by decide) rfl [(0, .ref (G.1 0)), (1, .int a0), (2, .int a1)] rfl (Nat.le_of_ble_eq_true rfl) (fun X O => ?_)
  unfold f_X7_square at e
  refine v_aload_n O dX7_square_0 0 rfl rfl ?_
  refine v_iload_n O dX7_square_1 1 rfl rfl ?_
  refine v_cVi O [.int a0] [] gX7_square_X7_noSquare cw_X7_square_X7_noSquare rfl rfl (g25 O (by decide)) (cg_0 G _) rfl rfl (Nat.le_of_ble_eq_true rfl) dX7_square_2 e (fun _ e9 => f_X7_noSquare_ok e9) (fun r1 h2 e => ?_)
  refine v_if_eq O dX7_square_5 11 (by decide) e (fun e => ?_) (fun e => ?_)
  · refine v_iload_n O dX7_square_11 2 rfl rfl ?_
    refine v_if (c := a1 = 0) e (fun c0 e => ?_) (fun c0 e => ?_)
    · refine v_tabIn O dX7_square_12 c0 (by decide) (by decide) (by first | rfl | decide) 40 (by decide) ?_
      refine v_aload_n O dX7_square_40 0 rfl rfl ?_
      refine v_get O fd_X7_square_10 (g25 O (by decide)) (cg_0 G _) rfl dX7_square_41 ?_
      refine v_get O fd_X7_square_126 (g25 O (by decide)) (cg_1 G _) rfl dX7_square_44 ?_
      refine v_iload_n O dX7_square_47 1 rfl rfl ?_
      refine v_cSi O [.int (h2.1 1 2), .int a0] [] gX7_square_X7_bit cw_X7_square_X7_bit rfl rfl (Nat.le_of_ble_eq_true rfl) dX7_square_48 e (fun _ e9 => f_X7_bit_ok e9) (fun r3 h4 e => ?_)
      exact v_iret O dX7_square_51 e
    refine v_if (c := a1 = 1) e (fun c1 e => ?_) (fun c1 e => ?_)
    · refine v_tabIn O dX7_square_12 c1 (by decide) (by decide) (by first | rfl | decide) 52 (by decide) ?_
      refine v_aload_n O dX7_square_52 0 rfl rfl ?_
      refine v_get O fd_X7_square_10 (g25 O (by decide)) (cg_0 G _) rfl dX7_square_53 ?_
      refine v_aload_n O dX7_square_56 0 rfl rfl ?_
      refine v_get O fd_X7_square_133 (g25 O (by decide)) (cg_0 G _) rfl dX7_square_57 ?_
      refine v_iload_n O dX7_square_60 1 rfl rfl ?_
      refine v_cVi O [.int (h2.1 0 13), .int a0] [] gX7_square_X5_manOf cw_X7_square_X5_manOf rfl rfl (g25 O (by decide)) (cg_1 G _) rfl rfl (Nat.le_of_ble_eq_true rfl) dX7_square_61 e (fun _ e9 => f_X5_manOf_ok_1 e9) (fun r5 h6 e => ?_)
      exact v_iret O dX7_square_64 e
    refine v_if (c := a1 = 2) e (fun c2 e => ?_) (fun c2 e => ?_)
    · refine v_tabIn O dX7_square_12 c2 (by decide) (by decide) (by first | rfl | decide) 65 (by decide) ?_
      refine v_aload_n O dX7_square_65 0 rfl rfl ?_
      refine v_get O fd_X7_square_10 (g25 O (by decide)) (cg_0 G _) rfl dX7_square_66 ?_
      refine v_aload_n O dX7_square_69 0 rfl rfl ?_
      refine v_get O fd_X7_square_10 (g25 O (by decide)) (cg_0 G _) rfl dX7_square_70 ?_
      refine v_get O fd_X7_square_139 (g25 O (by decide)) (cg_1 G _) rfl dX7_square_73 ?_
      refine v_iload_n O dX7_square_76 1 rfl rfl ?_
      refine v_cVi O [.int (h2.1 1 6), .int a0] [] gX7_square_X5_manOf cw_X7_square_X5_manOf rfl rfl (g25 O (by decide)) (cg_1 G _) rfl rfl (Nat.le_of_ble_eq_true rfl) dX7_square_77 e (fun _ e9 => f_X5_manOf_ok_1 e9) (fun r7 h8 e => ?_)
      exact v_iret O dX7_square_80 e
    refine v_tabOut O dX7_square_12 (by have q0 := lv_neT (a := 0) c0 rfl; have q1 := lv_neT (a := 1) c1 rfl; have q2 := lv_neT (a := 2) c2 rfl; omega) 81 (by decide) ?_
    refine v_bipush (v := (-3)) O dX7_square_81 (by decide) ?_
    exact v_iret O dX7_square_83 e
  · refine v_bipush (v := (-2)) O dX7_square_8 (by decide) ?_
    exact v_iret O dX7_square_10 e
/-! ===== X7 allAre ===== -/
abbrev rm_X7_allAre : Room := { frames := 0, cells := 0, slots := 0, locals := 0 }
theorem fd_X7_allAre_10 : FdO wsX7_allAre RX7 10 RX7 TX7 15 7 0 := ⟨by decide +kernel, rfl, by decide, by decide +kernel⟩
theorem fd_X7_allAre_145 : FdO wsX7_allAre RX7 145 RX5 TX5 9 5 7 := ⟨by decide +kernel, rfl, by decide, by decide +kernel⟩
theorem fd_X7_allAre_202 : FdO wsX7_allAre RX7 202 RX5 TX5 9 5 4 := ⟨by decide +kernel, rfl, by decide, by decide +kernel⟩
set_option maxRecDepth 20000 in
theorem f_X7_allAre_b2_ok {X : Cx} {G : Gx} {z : Rs} (O : Ok X G cX7_allAre RX7 3 wsX7_allAre (some .boolean) rm_X7_allAre) (N : Nat) (k2 : Int32 → Int32 → Hp → Option Rs) (hk2 : ∀ (v1 : Int32) (v2 : Int32) (h : Hp), k2 v1 v2 h = some z → V X G 3 (QI X G z) h 2 [(0, .ref (G.1 0)), (1, .int v1), (2, .int v2)] []) (v1 : Int32) (v2 : Int32) (h : Hp) (e : f_X7_allAre_b2 N k2 v1 v2 h = some z) : V X G 3 (QI X G z) h 2 [(0, .ref (G.1 0)), (1, .int v1), (2, .int v2)] [] := by
  unfold f_X7_allAre_b2 at e
  refine v_iload_n O dX7_allAre_2 2 rfl rfl ?_
  refine v_aload_n O dX7_allAre_3 0 rfl rfl ?_
  refine v_get O fd_X7_allAre_10 (g25 O (by decide)) (cg_0 G _) rfl dX7_allAre_4 ?_
  refine v_get O fd_X7_allAre_202 (g25 O (by decide)) (cg_1 G _) rfl dX7_allAre_7 ?_
  refine v_icmp_ge O dX7_allAre_10 34 (by decide) e (fun e => ?_) (fun e => ?_)
  · refine v_iconst (v := 1) O dX7_allAre_34 (by decide) ?_
    exact v_zret O dX7_allAre_35 e
  · refine v_aload_n O dX7_allAre_13 0 rfl rfl ?_
    refine v_get O fd_X7_allAre_10 (g25 O (by decide)) (cg_0 G _) rfl dX7_allAre_14 ?_
    refine v_get O fd_X7_allAre_145 (g25 O (by decide)) (cg_1 G _) rfl dX7_allAre_17 ?_
    refine v_iload_n O dX7_allAre_20 2 rfl rfl ?_
    refine v_iald O (g25 O (by decide)) (cg_2 G _) dX7_allAre_21 e (fun e => ?_)
    refine v_iload_n O dX7_allAre_22 1 rfl rfl ?_
    refine v_icmp_eq O dX7_allAre_23 28 (by decide) e (fun e => ?_) (fun e => ?_)
    · refine v_iinc (v := 1) O dX7_allAre_28 2 rfl (by decide) (by decide) (fun x1 => [(2, .int x1), (0, .ref (G.1 0)), (1, .int v1)]) (fun _ => rfl) e (fun x1 e => ?_)
      refine v_goto O dX7_allAre_31 2 (by decide) ?_
      refine v_sub [1, 2, 0] rfl ?_
      exact hk2 _ _ _ e
    · refine v_iconst (v := 0) O dX7_allAre_26 (by decide) ?_
      exact v_zret O dX7_allAre_27 e
theorem f_X7_allAre_l2_ok {X : Cx} {G : Gx} {z : Rs} (O : Ok X G cX7_allAre RX7 3 wsX7_allAre (some .boolean) rm_X7_allAre) (N : Nat) : ∀ (n : Nat) (v1 : Int32) (v2 : Int32) (h : Hp), f_X7_allAre_l2 N n v1 v2 h = some z → V X G 3 (QI X G z) h 2 [(0, .ref (G.1 0)), (1, .int v1), (2, .int v2)] [] := by
  intro n
  induction n with
  | zero => intro v1 v2 h e; cases e
  | succ n ih => intro v1 v2 h e; exact f_X7_allAre_b2_ok O N _ ih v1 v2 h e
set_option maxRecDepth 20000 in
theorem f_X7_allAre_ok {l : Launch} {G : Gx} {N : Nat} {a0 : Int32} {h : Hp} {z : Rs} (e : f_X7_allAre N a0 h = some z) : CI l G yX7_allAre wsX7_allAre rm_X7_allAre [.ref (G.1 0), .int a0] h z := by
  refine m_bool _ (by decide) rfl [(0, .ref (G.1 0)), (1, .int a0)] rfl (Nat.le_of_ble_eq_true rfl) (fun X O => ?_)
  unfold f_X7_allAre at e
  refine v_iconst (v := 0) O dX7_allAre_0 (by decide) ?_
  refine v_istore_n O dX7_allAre_1 rfl (by decide) (fun x1 => [(2, .int x1), (0, .ref (G.1 0)), (1, .int a0)]) (fun _ => rfl) e (fun x1 e => ?_)
  refine v_sub [1, 2, 0] rfl ?_
  exact f_X7_allAre_l2_ok O N N _ _ _ e
/-! ===== X2 stepsTo ===== -/
abbrev rm_X2_stepsTo : Room := { frames := 2, cells := 0, slots := 0, locals := 47 }
theorem cw_X2_stepsTo_X2_around : CwO rm_X2_stepsTo yX2_around wsX2_around cX2_around 7 (some .int) rm_X2_around 2 := ⟨⟨_, rfl⟩, rfl, rfl, by decide +kernel, by decide, by decide⟩
set_option maxRecDepth 20000 in
theorem f_X2_stepsTo_b2_ok {X : Cx} {G : Gx} {z : Rs} (O : Ok X G cX2_stepsTo RX2 4 wsX2_stepsTo (some .int) rm_X2_stepsTo) (N : Nat) (k2 : Int32 → Int32 → Int32 → Hp → Option Rs) (hk2 : ∀ (v1 : Int32) (v2 : Int32) (v3 : Int32) (h : Hp), k2 v1 v2 v3 h = some z → V X G 4 (QI X G z) h 2 [(0, .ref (G.1 13)), (1, .int v1), (2, .int v2), (3, .int v3)] []) (v1 : Int32) (v2 : Int32) (v3 : Int32) (h : Hp) (e : f_X2_stepsTo_b2 N k2 v1 v2 v3 h = some z) : V X G 4 (QI X G z) h 2 [(0, .ref (G.1 13)), (1, .int v1), (2, .int v2), (3, .int v3)] [] := by
  unfold f_X2_stepsTo_b2 at e
  refine v_iload_n O dX2_stepsTo_2 3 rfl rfl ?_
  refine v_bipush (v := 12) O dX2_stepsTo_3 (by decide) ?_
  refine v_icmp_ge O dX2_stepsTo_5 26 (by decide) e (fun e => ?_) (fun e => ?_)
  · refine v_iconst (v := (-1)) O dX2_stepsTo_26 (by decide) ?_
    exact v_iret O dX2_stepsTo_27 e
  · refine v_aload_n O dX2_stepsTo_8 0 rfl rfl ?_
    refine v_iload_n O dX2_stepsTo_9 1 rfl rfl ?_
    refine v_iload_n O dX2_stepsTo_10 3 rfl rfl ?_
    refine v_cVi O [.int v1, .int v3] [] gX2_stepsTo_X2_around cw_X2_stepsTo_X2_around rfl rfl (g25 O (by decide)) (cg_13 G _) rfl rfl (Nat.le_of_ble_eq_true rfl) dX2_stepsTo_11 e (fun _ e9 => f_X2_around_ok e9) (fun r1 h2 e => ?_)
    refine v_iload_n O dX2_stepsTo_14 2 rfl rfl ?_
    refine v_icmp_ne O dX2_stepsTo_15 20 (by decide) e (fun e => ?_) (fun e => ?_)
    · refine v_iinc (v := 1) O dX2_stepsTo_20 3 rfl (by decide) (by decide) (fun x3 => [(3, .int x3), (0, .ref (G.1 13)), (1, .int v1), (2, .int v2)]) (fun _ => rfl) e (fun x3 e => ?_)
      refine v_goto O dX2_stepsTo_23 2 (by decide) ?_
      refine v_sub [1, 2, 3, 0] rfl ?_
      exact hk2 _ _ _ _ e
    · refine v_iload_n O dX2_stepsTo_18 3 rfl rfl ?_
      exact v_iret O dX2_stepsTo_19 e
theorem f_X2_stepsTo_l2_ok {X : Cx} {G : Gx} {z : Rs} (O : Ok X G cX2_stepsTo RX2 4 wsX2_stepsTo (some .int) rm_X2_stepsTo) (N : Nat) : ∀ (n : Nat) (v1 : Int32) (v2 : Int32) (v3 : Int32) (h : Hp), f_X2_stepsTo_l2 N n v1 v2 v3 h = some z → V X G 4 (QI X G z) h 2 [(0, .ref (G.1 13)), (1, .int v1), (2, .int v2), (3, .int v3)] [] := by
  intro n
  induction n with
  | zero => intro v1 v2 v3 h e; cases e
  | succ n ih => intro v1 v2 v3 h e; exact f_X2_stepsTo_b2_ok O N _ ih v1 v2 v3 h e
set_option maxRecDepth 20000 in
theorem f_X2_stepsTo_ok {l : Launch} {G : Gx} {N : Nat} {a0 : Int32} {a1 : Int32} {h : Hp} {z : Rs} (e : f_X2_stepsTo N a0 a1 h = some z) : CI l G yX2_stepsTo wsX2_stepsTo rm_X2_stepsTo [.ref (G.1 13), .int a0, .int a1] h z := by
  refine m_int _ (by decide) rfl [(0, .ref (G.1 13)), (1, .int a0), (2, .int a1)] rfl (Nat.le_of_ble_eq_true rfl) (fun X O => ?_)
  unfold f_X2_stepsTo at e
  refine v_iconst (v := 0) O dX2_stepsTo_0 (by decide) ?_
  refine v_istore_n O dX2_stepsTo_1 rfl (by decide) (fun x1 => [(3, .int x1), (0, .ref (G.1 13)), (1, .int a0), (2, .int a1)]) (fun _ => rfl) e (fun x1 e => ?_)
  refine v_sub [1, 2, 3, 0] rfl ?_
  exact f_X2_stepsTo_l2_ok O N N _ _ _ _ e
/-! ===== X7 stepsAround ===== -/
abbrev rm_X7_stepsAround : Room := { frames := 3, cells := 0, slots := 0, locals := 70 }
theorem fd_X7_stepsAround_53 : FdO wsX7_stepsAround RX7 53 RX7 TX7 15 7 5 := ⟨by decide +kernel, rfl, by decide, by decide +kernel⟩
theorem cw_X7_stepsAround_X2_stepsTo : CwO rm_X7_stepsAround yX2_stepsTo wsX2_stepsTo cX2_stepsTo 4 (some .int) rm_X2_stepsTo 2 := ⟨⟨_, rfl⟩, rfl, rfl, by decide +kernel, by decide, by decide⟩
theorem cw_X7_stepsAround_X7_placeOf : CwO rm_X7_stepsAround yX7_placeOf wsX7_placeOf cX7_placeOf 2 (some .int) rm_X7_placeOf 2 := ⟨⟨_, rfl⟩, rfl, rfl, by decide +kernel, by decide, by decide⟩
set_option maxRecDepth 20000 in
theorem f_X7_stepsAround_b44_ok {X : Cx} {G : Gx} {z : Rs} (O : Ok X G cX7_stepsAround RX7 6 wsX7_stepsAround (some .int) rm_X7_stepsAround) (N : Nat) (s0 : Int32) (h : Hp) (e : f_X7_stepsAround_b44 N s0 h = some z) : V X G 6 (QI X G z) h 44 [] [.int s0] := by
  unfold f_X7_stepsAround_b44 at e
  exact v_iret O dX7_stepsAround_44 e
set_option maxRecDepth 20000 in
theorem f_X7_stepsAround_ok {l : Launch} {G : Gx} {N : Nat} {a0 : Int32} {a1 : Int32} {a2 : Int32} {a3 : Int32} {h : Hp} {z : Rs} (e : f_X7_stepsAround N a0 a1 a2 a3 h = some z) : CI l G yX7_stepsAround wsX7_stepsAround rm_X7_stepsAround [.ref (G.1 0), .int a0, .int a1, .int a2, .int a3] h z := by
  refine m_int _ (by decide) rfl [(0, .ref (G.1 0)), (1, .int a0), (2, .int a1), (3, .int a2), (4, .int a3)] rfl (Nat.le_of_ble_eq_true rfl) (fun X O => ?_)
  unfold f_X7_stepsAround at e
  refine v_aload_n O dX7_stepsAround_0 0 rfl rfl ?_
  refine v_get O fd_X7_stepsAround_53 (g25 O (by decide)) (cg_0 G _) rfl dX7_stepsAround_1 ?_
  refine v_iload_n O dX7_stepsAround_4 1 rfl rfl ?_
  refine v_iload_n O dX7_stepsAround_5 2 rfl rfl ?_
  refine v_iload_n O dX7_stepsAround_6 3 rfl rfl ?_
  refine v_cSi O [.int a1, .int a2] [.int a0, .ref (G.1 13)] gX7_stepsAround_X7_placeOf cw_X7_stepsAround_X7_placeOf rfl rfl (Nat.le_of_ble_eq_true rfl) dX7_stepsAround_7 e (fun _ e9 => f_X7_placeOf_ok e9) (fun r1 h2 e => ?_)
  refine v_cVi O [.int a0, .int r1] [] gX7_stepsAround_X2_stepsTo cw_X7_stepsAround_X2_stepsTo rfl rfl (g25 O (by decide)) (cg_13 G _) rfl rfl (Nat.le_of_ble_eq_true rfl) dX7_stepsAround_10 e (fun _ e9 => f_X2_stepsTo_ok e9) (fun r3 h4 e => ?_)
  refine v_aload_n O dX7_stepsAround_13 0 rfl rfl ?_
  refine v_get O fd_X7_stepsAround_53 (g25 O (by decide)) (cg_0 G _) rfl dX7_stepsAround_14 ?_
  refine v_iload_n O dX7_stepsAround_17 1 rfl rfl ?_
  refine v_iconst (v := 0) O dX7_stepsAround_18 (by decide) ?_
  refine v_iload_n O dX7_stepsAround_19 3 rfl rfl ?_
  refine v_cSi O [.int 0, .int a2] [.int a0, .ref (G.1 13), .int r3] gX7_stepsAround_X7_placeOf cw_X7_stepsAround_X7_placeOf rfl rfl (Nat.le_of_ble_eq_true rfl) dX7_stepsAround_20 e (fun _ e9 => f_X7_placeOf_ok e9) (fun r5 h6 e => ?_)
  refine v_cVi O [.int a0, .int r5] [.int r3] gX7_stepsAround_X2_stepsTo cw_X7_stepsAround_X2_stepsTo rfl rfl (g25 O (by decide)) (cg_13 G _) rfl rfl (Nat.le_of_ble_eq_true rfl) dX7_stepsAround_23 e (fun _ e9 => f_X2_stepsTo_ok e9) (fun r7 h8 e => ?_)
  refine v_isub O dX7_stepsAround_26 ?_
  refine v_istore O dX7_stepsAround_27 (by decide) (fun x9 => [(5, .int x9), (0, .ref (G.1 0)), (1, .int a0), (2, .int a1), (3, .int a2), (4, .int a3)]) (fun _ => rfl) e (fun x9 e => ?_)
  refine v_iload O dX7_stepsAround_29 0 rfl ?_
  refine v_if_ge O dX7_stepsAround_31 42 (by decide) e (fun e => ?_) (fun e => ?_)
  · refine v_iload O dX7_stepsAround_42 0 rfl ?_
    refine v_sub [] rfl ?_
    exact f_X7_stepsAround_b44_ok O N _ _ e
  · refine v_iload O dX7_stepsAround_34 0 rfl ?_
    refine v_iload O dX7_stepsAround_36 5 rfl ?_
    refine v_iadd O dX7_stepsAround_38 ?_
    refine v_goto O dX7_stepsAround_39 44 (by decide) ?_
    refine v_sub [] rfl ?_
    exact f_X7_stepsAround_b44_ok O N _ _ e
/-! ===== X7 orderIsKept ===== -/
abbrev rm_X7_orderIsKept : Room := { frames := 4, cells := 0, slots := 0, locals := 95 }
theorem fd_X7_orderIsKept_10 : FdO wsX7_orderIsKept RX7 10 RX7 TX7 15 7 0 := ⟨by decide +kernel, rfl, by decide, by decide +kernel⟩
theorem fd_X7_orderIsKept_133 : FdO wsX7_orderIsKept RX7 133 RX7 TX7 15 7 13 := ⟨by decide +kernel, rfl, by decide, by decide +kernel⟩
theorem fd_X7_orderIsKept_139 : FdO wsX7_orderIsKept RX7 139 RX5 TX5 9 5 6 := ⟨by decide +kernel, rfl, by decide, by decide +kernel⟩
theorem fd_X7_orderIsKept_202 : FdO wsX7_orderIsKept RX7 202 RX5 TX5 9 5 4 := ⟨by decide +kernel, rfl, by decide, by decide +kernel⟩
theorem cw_X7_orderIsKept_X7_placeOf : CwO rm_X7_orderIsKept yX7_placeOf wsX7_placeOf cX7_placeOf 2 (some .int) rm_X7_placeOf 2 := ⟨⟨_, rfl⟩, rfl, rfl, by decide +kernel, by decide, by decide⟩
theorem cw_X7_orderIsKept_X7_stepsAround : CwO rm_X7_orderIsKept yX7_stepsAround wsX7_stepsAround cX7_stepsAround 6 (some .int) rm_X7_stepsAround 4 := ⟨⟨_, rfl⟩, rfl, rfl, by decide +kernel, by decide, by decide⟩
set_option maxRecDepth 20000 in
theorem f_X7_orderIsKept_b101_ok {X : Cx} {G : Gx} {z : Rs} (O : Ok X G cX7_orderIsKept RX7 7 wsX7_orderIsKept (some .boolean) rm_X7_orderIsKept) (N : Nat) (k11 : Int32 → Int32 → Int32 → Hp → Option Rs) (k25 : Int32 → Int32 → Int32 → Int32 → Hp → Option Rs) (hk11 : ∀ (v1 : Int32) (v2 : Int32) (v3 : Int32) (h : Hp), k11 v1 v2 v3 h = some z → V X G 7 (QI X G z) h 11 [(0, .ref (G.1 0)), (1, .int v1), (2, .int v2), (3, .int v3)] []) (hk25 : ∀ (v1 : Int32) (v2 : Int32) (v3 : Int32) (v4 : Int32) (h : Hp), k25 v1 v2 v3 v4 h = some z → V X G 7 (QI X G z) h 25 [(0, .ref (G.1 0)), (1, .int v1), (2, .int v2), (3, .int v3), (4, .int v4)] []) (v1 : Int32) (v2 : Int32) (v3 : Int32) (v4 : Int32) (v5 : Int32) (s0 : Int32) (h : Hp) (e : f_X7_orderIsKept_b101 N k11 k25 v1 v2 v3 v4 v5 s0 h = some z) : V X G 7 (QI X G z) h 101 [(0, .ref (G.1 0)), (1, .int v1), (2, .int v2), (3, .int v3), (4, .int v4), (5, .int v5)] [.int s0] := by
  unfold f_X7_orderIsKept_b101 at e
  refine v_istore O dX7_orderIsKept_101 (by decide) (fun x1 => [(6, .int x1), (0, .ref (G.1 0)), (1, .int v1), (2, .int v2), (3, .int v3), (4, .int v4), (5, .int v5)]) (fun _ => rfl) e (fun x1 e => ?_)
  refine v_iload O dX7_orderIsKept_103 6 rfl ?_
  refine v_iload O dX7_orderIsKept_105 0 rfl ?_
  refine v_icmp_eq O dX7_orderIsKept_107 112 (by decide) e (fun e => ?_) (fun e => ?_)
  · refine v_iinc (v := 1) O dX7_orderIsKept_112 5 rfl (by decide) (by decide) (fun x2 => [(4, .int x2), (6, .int x1), (0, .ref (G.1 0)), (1, .int v1), (2, .int v2), (3, .int v3), (5, .int v5)]) (fun _ => rfl) e (fun x2 e => ?_)
    refine v_goto O dX7_orderIsKept_115 25 (by decide) ?_
    refine v_sub [2, 3, 4, 5, 0] rfl ?_
    exact hk25 _ _ _ _ _ e
  · refine v_iconst (v := 0) O dX7_orderIsKept_110 (by decide) ?_
    exact v_zret O dX7_orderIsKept_111 e
set_option maxRecDepth 20000 in
theorem f_X7_orderIsKept_b62_ok {X : Cx} {G : Gx} {z : Rs} (O : Ok X G cX7_orderIsKept RX7 7 wsX7_orderIsKept (some .boolean) rm_X7_orderIsKept) (N : Nat) (k11 : Int32 → Int32 → Int32 → Hp → Option Rs) (k25 : Int32 → Int32 → Int32 → Int32 → Hp → Option Rs) (hk11 : ∀ (v1 : Int32) (v2 : Int32) (v3 : Int32) (h : Hp), k11 v1 v2 v3 h = some z → V X G 7 (QI X G z) h 11 [(0, .ref (G.1 0)), (1, .int v1), (2, .int v2), (3, .int v3)] []) (hk25 : ∀ (v1 : Int32) (v2 : Int32) (v3 : Int32) (v4 : Int32) (h : Hp), k25 v1 v2 v3 v4 h = some z → V X G 7 (QI X G z) h 25 [(0, .ref (G.1 0)), (1, .int v1), (2, .int v2), (3, .int v3), (4, .int v4)] []) (v1 : Int32) (v2 : Int32) (v3 : Int32) (v4 : Int32) (s0 : Int32) (h : Hp) (e : f_X7_orderIsKept_b62 N k11 k25 v1 v2 v3 v4 s0 h = some z) : V X G 7 (QI X G z) h 62 [(0, .ref (G.1 0)), (1, .int v1), (2, .int v2), (3, .int v3), (4, .int v4)] [.int s0] := by
  unfold f_X7_orderIsKept_b62 at e
  refine v_istore O dX7_orderIsKept_62 (by decide) (fun x1 => [(5, .int x1), (0, .ref (G.1 0)), (1, .int v1), (2, .int v2), (3, .int v3), (4, .int v4)]) (fun _ => rfl) e (fun x1 e => ?_)
  refine v_aload_n O dX7_orderIsKept_64 1 rfl rfl ?_
  refine v_iload_n O dX7_orderIsKept_65 3 rfl rfl ?_
  refine v_iload_n O dX7_orderIsKept_66 4 rfl rfl ?_
  refine v_aload_n O dX7_orderIsKept_67 1 rfl rfl ?_
  refine v_get O fd_X7_orderIsKept_10 (g25 O (by decide)) (cg_0 G _) rfl dX7_orderIsKept_68 ?_
  refine v_get O fd_X7_orderIsKept_139 (g25 O (by decide)) (cg_1 G _) rfl dX7_orderIsKept_71 ?_
  refine v_iload_n O dX7_orderIsKept_74 2 rfl rfl ?_
  refine v_cVi O [.int v2, .int v3, .int (h.1 1 6), .int v1] [] gX7_orderIsKept_X7_stepsAround cw_X7_orderIsKept_X7_stepsAround rfl rfl (g25 O (by decide)) (cg_0 G _) rfl rfl (Nat.le_of_ble_eq_true rfl) dX7_orderIsKept_75 e (fun _ e9 => f_X7_stepsAround_ok e9) (fun r2 h3 e => ?_)
  refine v_aload_n O dX7_orderIsKept_78 1 rfl rfl ?_
  refine v_iload_n O dX7_orderIsKept_79 3 rfl rfl ?_
  refine v_iload O dX7_orderIsKept_80 5 rfl ?_
  refine v_aload_n O dX7_orderIsKept_82 1 rfl rfl ?_
  refine v_get O fd_X7_orderIsKept_10 (g25 O (by decide)) (cg_0 G _) rfl dX7_orderIsKept_83 ?_
  refine v_get O fd_X7_orderIsKept_139 (g25 O (by decide)) (cg_1 G _) rfl dX7_orderIsKept_86 ?_
  refine v_iload_n O dX7_orderIsKept_89 2 rfl rfl ?_
  refine v_cVi O [.int v2, .int v4, .int (h3.1 1 6), .int v1] [.int r2] gX7_orderIsKept_X7_stepsAround cw_X7_orderIsKept_X7_stepsAround rfl rfl (g25 O (by decide)) (cg_0 G _) rfl rfl (Nat.le_of_ble_eq_true rfl) dX7_orderIsKept_90 e (fun _ e9 => f_X7_stepsAround_ok e9) (fun r4 h5 e => ?_)
  refine v_icmp_ge O dX7_orderIsKept_93 100 (by decide) e (fun e => ?_) (fun e => ?_)
  · refine v_iconst (v := 0) O dX7_orderIsKept_100 (by decide) ?_
    refine v_sub [1, 2, 3, 4, 5, 0] rfl ?_
    exact f_X7_orderIsKept_b101_ok O N k11 k25 hk11 hk25 _ _ _ _ _ _ _ e
  · refine v_iconst (v := 1) O dX7_orderIsKept_96 (by decide) ?_
    refine v_goto O dX7_orderIsKept_97 101 (by decide) ?_
    refine v_sub [1, 2, 3, 4, 5, 0] rfl ?_
    exact f_X7_orderIsKept_b101_ok O N k11 k25 hk11 hk25 _ _ _ _ _ _ _ e
set_option maxRecDepth 20000 in
theorem f_X7_orderIsKept_b25_ok {X : Cx} {G : Gx} {z : Rs} (O : Ok X G cX7_orderIsKept RX7 7 wsX7_orderIsKept (some .boolean) rm_X7_orderIsKept) (N : Nat) (k11 : Int32 → Int32 → Int32 → Hp → Option Rs) (k25 : Int32 → Int32 → Int32 → Int32 → Hp → Option Rs) (hk11 : ∀ (v1 : Int32) (v2 : Int32) (v3 : Int32) (h : Hp), k11 v1 v2 v3 h = some z → V X G 7 (QI X G z) h 11 [(0, .ref (G.1 0)), (1, .int v1), (2, .int v2), (3, .int v3)] []) (hk25 : ∀ (v1 : Int32) (v2 : Int32) (v3 : Int32) (v4 : Int32) (h : Hp), k25 v1 v2 v3 v4 h = some z → V X G 7 (QI X G z) h 25 [(0, .ref (G.1 0)), (1, .int v1), (2, .int v2), (3, .int v3), (4, .int v4)] []) (v1 : Int32) (v2 : Int32) (v3 : Int32) (v4 : Int32) (h : Hp) (e : f_X7_orderIsKept_b25 N k11 k25 v1 v2 v3 v4 h = some z) : V X G 7 (QI X G z) h 25 [(0, .ref (G.1 0)), (1, .int v1), (2, .int v2), (3, .int v3), (4, .int v4)] [] := by
  unfold f_X7_orderIsKept_b25 at e
  refine v_iload O dX7_orderIsKept_25 4 rfl ?_
  refine v_iload_n O dX7_orderIsKept_27 3 rfl rfl ?_
  refine v_icmp_ge O dX7_orderIsKept_28 118 (by decide) e (fun e => ?_) (fun e => ?_)
  · refine v_iinc (v := 1) O dX7_orderIsKept_118 3 rfl (by decide) (by decide) (fun x1 => [(3, .int x1), (0, .ref (G.1 0)), (1, .int v1), (2, .int v2), (4, .int v4)]) (fun _ => rfl) e (fun x1 e => ?_)
    refine v_goto O dX7_orderIsKept_121 11 (by decide) ?_
    refine v_sub [1, 2, 3, 0] rfl ?_
    exact hk11 _ _ _ _ e
  · refine v_aload_n O dX7_orderIsKept_31 0 rfl rfl ?_
    refine v_iload_n O dX7_orderIsKept_32 2 rfl rfl ?_
    refine v_iload_n O dX7_orderIsKept_33 3 rfl rfl ?_
    refine v_aload_n O dX7_orderIsKept_34 0 rfl rfl ?_
    refine v_get O fd_X7_orderIsKept_133 (g25 O (by decide)) (cg_0 G _) rfl dX7_orderIsKept_35 ?_
    refine v_iload_n O dX7_orderIsKept_38 1 rfl rfl ?_
    refine v_cVi O [.int v2, .int v3, .int (h.1 0 13), .int v1] [] gX7_orderIsKept_X7_stepsAround cw_X7_orderIsKept_X7_stepsAround rfl rfl (g25 O (by decide)) (cg_0 G _) rfl rfl (Nat.le_of_ble_eq_true rfl) dX7_orderIsKept_39 e (fun _ e9 => f_X7_stepsAround_ok e9) (fun r2 h3 e => ?_)
    refine v_aload_n O dX7_orderIsKept_42 0 rfl rfl ?_
    refine v_iload_n O dX7_orderIsKept_43 2 rfl rfl ?_
    refine v_iload O dX7_orderIsKept_44 4 rfl ?_
    refine v_aload_n O dX7_orderIsKept_46 0 rfl rfl ?_
    refine v_get O fd_X7_orderIsKept_133 (g25 O (by decide)) (cg_0 G _) rfl dX7_orderIsKept_47 ?_
    refine v_iload_n O dX7_orderIsKept_50 1 rfl rfl ?_
    refine v_cVi O [.int v2, .int v4, .int (h3.1 0 13), .int v1] [.int r2] gX7_orderIsKept_X7_stepsAround cw_X7_orderIsKept_X7_stepsAround rfl rfl (g25 O (by decide)) (cg_0 G _) rfl rfl (Nat.le_of_ble_eq_true rfl) dX7_orderIsKept_51 e (fun _ e9 => f_X7_stepsAround_ok e9) (fun r4 h5 e => ?_)
    refine v_icmp_ge O dX7_orderIsKept_54 61 (by decide) e (fun e => ?_) (fun e => ?_)
    · refine v_iconst (v := 0) O dX7_orderIsKept_61 (by decide) ?_
      exact f_X7_orderIsKept_b62_ok O N k11 k25 hk11 hk25 _ _ _ _ _ _ e
    · refine v_iconst (v := 1) O dX7_orderIsKept_57 (by decide) ?_
      refine v_goto O dX7_orderIsKept_58 62 (by decide) ?_
      exact f_X7_orderIsKept_b62_ok O N k11 k25 hk11 hk25 _ _ _ _ _ _ e
theorem f_X7_orderIsKept_l25_ok {X : Cx} {G : Gx} {z : Rs} (O : Ok X G cX7_orderIsKept RX7 7 wsX7_orderIsKept (some .boolean) rm_X7_orderIsKept) (N : Nat) (k11 : Int32 → Int32 → Int32 → Hp → Option Rs) (hk11 : ∀ (v1 : Int32) (v2 : Int32) (v3 : Int32) (h : Hp), k11 v1 v2 v3 h = some z → V X G 7 (QI X G z) h 11 [(0, .ref (G.1 0)), (1, .int v1), (2, .int v2), (3, .int v3)] []) : ∀ (n : Nat) (v1 : Int32) (v2 : Int32) (v3 : Int32) (v4 : Int32) (h : Hp), f_X7_orderIsKept_l25 N k11 n v1 v2 v3 v4 h = some z → V X G 7 (QI X G z) h 25 [(0, .ref (G.1 0)), (1, .int v1), (2, .int v2), (3, .int v3), (4, .int v4)] [] := by
  intro n
  induction n with
  | zero => intro v1 v2 v3 v4 h e; cases e
  | succ n ih => intro v1 v2 v3 v4 h e; exact f_X7_orderIsKept_b25_ok O N k11 _ hk11 ih v1 v2 v3 v4 h e
set_option maxRecDepth 20000 in
theorem f_X7_orderIsKept_b11_ok {X : Cx} {G : Gx} {z : Rs} (O : Ok X G cX7_orderIsKept RX7 7 wsX7_orderIsKept (some .boolean) rm_X7_orderIsKept) (N : Nat) (k11 : Int32 → Int32 → Int32 → Hp → Option Rs) (hk11 : ∀ (v1 : Int32) (v2 : Int32) (v3 : Int32) (h : Hp), k11 v1 v2 v3 h = some z → V X G 7 (QI X G z) h 11 [(0, .ref (G.1 0)), (1, .int v1), (2, .int v2), (3, .int v3)] []) (v1 : Int32) (v2 : Int32) (v3 : Int32) (h : Hp) (e : f_X7_orderIsKept_b11 N k11 v1 v2 v3 h = some z) : V X G 7 (QI X G z) h 11 [(0, .ref (G.1 0)), (1, .int v1), (2, .int v2), (3, .int v3)] [] := by
  unfold f_X7_orderIsKept_b11 at e
  refine v_iload_n O dX7_orderIsKept_11 3 rfl rfl ?_
  refine v_aload_n O dX7_orderIsKept_12 0 rfl rfl ?_
  refine v_get O fd_X7_orderIsKept_10 (g25 O (by decide)) (cg_0 G _) rfl dX7_orderIsKept_13 ?_
  refine v_get O fd_X7_orderIsKept_202 (g25 O (by decide)) (cg_1 G _) rfl dX7_orderIsKept_16 ?_
  refine v_icmp_ge O dX7_orderIsKept_19 124 (by decide) e (fun e => ?_) (fun e => ?_)
  · refine v_iconst (v := 1) O dX7_orderIsKept_124 (by decide) ?_
    exact v_zret O dX7_orderIsKept_125 e
  · refine v_iconst (v := 1) O dX7_orderIsKept_22 (by decide) ?_
    refine v_istore O dX7_orderIsKept_23 (by decide) (fun x1 => [(4, .int x1), (0, .ref (G.1 0)), (1, .int v1), (2, .int v2), (3, .int v3)]) (fun _ => rfl) e (fun x1 e => ?_)
    refine v_sub [1, 2, 3, 4, 0] rfl ?_
    exact f_X7_orderIsKept_l25_ok O N k11 hk11 N _ _ _ _ _ e
theorem f_X7_orderIsKept_l11_ok {X : Cx} {G : Gx} {z : Rs} (O : Ok X G cX7_orderIsKept RX7 7 wsX7_orderIsKept (some .boolean) rm_X7_orderIsKept) (N : Nat) : ∀ (n : Nat) (v1 : Int32) (v2 : Int32) (v3 : Int32) (h : Hp), f_X7_orderIsKept_l11 N n v1 v2 v3 h = some z → V X G 7 (QI X G z) h 11 [(0, .ref (G.1 0)), (1, .int v1), (2, .int v2), (3, .int v3)] [] := by
  intro n
  induction n with
  | zero => intro v1 v2 v3 h e; cases e
  | succ n ih => intro v1 v2 v3 h e; exact f_X7_orderIsKept_b11_ok O N _ ih v1 v2 v3 h e
set_option maxRecDepth 20000 in
theorem f_X7_orderIsKept_ok {l : Launch} {G : Gx} {N : Nat} {a0 : Int32} {h : Hp} {z : Rs} (e : f_X7_orderIsKept N a0 h = some z) : CI l G yX7_orderIsKept wsX7_orderIsKept rm_X7_orderIsKept [.ref (G.1 0), .int a0] h z := by
  refine m_bool _ (by decide) rfl [(0, .ref (G.1 0)), (1, .int a0)] rfl (Nat.le_of_ble_eq_true rfl) (fun X O => ?_)
  unfold f_X7_orderIsKept at e
  refine v_iconst (v := 0) O dX7_orderIsKept_0 (by decide) ?_
  refine v_aload_n O dX7_orderIsKept_1 0 rfl rfl ?_
  refine v_get O fd_X7_orderIsKept_133 (g25 O (by decide)) (cg_0 G _) rfl dX7_orderIsKept_2 ?_
  refine v_cSi O [.int 0, .int (h.1 0 13)] [] gX7_orderIsKept_X7_placeOf cw_X7_orderIsKept_X7_placeOf rfl rfl (Nat.le_of_ble_eq_true rfl) dX7_orderIsKept_5 e (fun _ e9 => f_X7_placeOf_ok e9) (fun r1 h2 e => ?_)
  refine v_istore_n O dX7_orderIsKept_8 rfl (by decide) (fun x3 => [(2, .int x3), (0, .ref (G.1 0)), (1, .int a0)]) (fun _ => rfl) e (fun x3 e => ?_)
  refine v_iconst (v := 1) O dX7_orderIsKept_9 (by decide) ?_
  refine v_istore_n O dX7_orderIsKept_10 rfl (by decide) (fun x4 => [(3, .int x4), (2, .int x3), (0, .ref (G.1 0)), (1, .int a0)]) (fun _ => rfl) e (fun x4 e => ?_)
  refine v_sub [2, 3, 1, 0] rfl ?_
  exact f_X7_orderIsKept_l11_ok O N N _ _ _ _ e
/-! ===== X7 turned ===== -/
abbrev rm_X7_turned : Room := { frames := 5, cells := 0, slots := 0, locals := 121 }
theorem fd_X7_turned_10 : FdO wsX7_turned RX7 10 RX7 TX7 15 7 0 := ⟨by decide +kernel, rfl, by decide, by decide +kernel⟩
theorem fd_X7_turned_53 : FdO wsX7_turned RX7 53 RX7 TX7 15 7 5 := ⟨by decide +kernel, rfl, by decide, by decide +kernel⟩
theorem fd_X7_turned_126 : FdO wsX7_turned RX7 126 RX5 TX5 9 5 2 := ⟨by decide +kernel, rfl, by decide, by decide +kernel⟩
theorem fd_X7_turned_133 : FdO wsX7_turned RX7 133 RX7 TX7 15 7 13 := ⟨by decide +kernel, rfl, by decide, by decide +kernel⟩
theorem fd_X7_turned_139 : FdO wsX7_turned RX7 139 RX5 TX5 9 5 6 := ⟨by decide +kernel, rfl, by decide, by decide +kernel⟩
theorem fd_X7_turned_202 : FdO wsX7_turned RX7 202 RX5 TX5 9 5 4 := ⟨by decide +kernel, rfl, by decide, by decide +kernel⟩
theorem cw_X7_turned_J6_bitCount_0f7a4 : CwO rm_X7_turned yJ6_bitCount_0f7a4 wsJ6_bitCount_0f7a4 cJ6_bitCount_0f7a4 1 (some .int) rm_J6_bitCount_0f7a4 1 := ⟨⟨_, rfl⟩, rfl, rfl, by decide +kernel, by decide, by decide⟩
theorem cw_X7_turned_X2_knot : CwO rm_X7_turned yX2_knot wsX2_knot cX2_knot 4 (none) rm_X2_knot 2 := ⟨⟨_, rfl⟩, rfl, rfl, by decide +kernel, by decide, by decide⟩
theorem cw_X7_turned_X2_partAt : CwO rm_X7_turned yX2_partAt wsX2_partAt cX2_partAt 6 (some .int) rm_X2_partAt 1 := ⟨⟨_, rfl⟩, rfl, rfl, by decide +kernel, by decide, by decide⟩
theorem cw_X7_turned_X2_shapeOf : CwO rm_X7_turned yX2_shapeOf wsX2_shapeOf cX2_shapeOf 7 (some .int) rm_X2_shapeOf 1 := ⟨⟨_, rfl⟩, rfl, rfl, by decide +kernel, by decide, by decide⟩
theorem cw_X7_turned_X5_taken : CwO rm_X7_turned yX5_taken wsX5_taken cX5_taken 4 (some .int) rm_X5_taken 1 := ⟨⟨_, rfl⟩, rfl, rfl, by decide +kernel, by decide, by decide⟩
theorem cw_X7_turned_X7_allAre : CwO rm_X7_turned yX7_allAre wsX7_allAre cX7_allAre 3 (some .boolean) rm_X7_allAre 1 := ⟨⟨_, rfl⟩, rfl, rfl, by decide +kernel, by decide, by decide⟩
theorem cw_X7_turned_X7_noKind : CwO rm_X7_turned yX7_noKind wsX7_noKind cX7_noKind 1 (some .boolean) rm_X7_noKind 1 := ⟨⟨_, rfl⟩, rfl, rfl, by decide +kernel, by decide, by decide⟩
theorem cw_X7_turned_X7_orderIsKept : CwO rm_X7_turned yX7_orderIsKept wsX7_orderIsKept cX7_orderIsKept 7 (some .boolean) rm_X7_orderIsKept 1 := ⟨⟨_, rfl⟩, rfl, rfl, by decide +kernel, by decide, by decide⟩
theorem cw_X7_turned_X7_placeOf : CwO rm_X7_turned yX7_placeOf wsX7_placeOf cX7_placeOf 2 (some .int) rm_X7_placeOf 2 := ⟨⟨_, rfl⟩, rfl, rfl, by decide +kernel, by decide, by decide⟩
set_option maxRecDepth 20000 in
theorem f_X7_turned_b28_ok {X : Cx} {G : Gx} {z : Rs} (O : Ok X G cX7_turned RX7 4 wsX7_turned (some .int) rm_X7_turned) (N : Nat) (h : Hp) (e : f_X7_turned_b28 N h = some z) : V X G 4 (QI X G z) h 28 [] [] := by
  unfold f_X7_turned_b28 at e
  refine v_bipush (v := (-4)) O dX7_turned_28 (by decide) ?_
  exact v_iret O dX7_turned_30 e
set_option maxRecDepth 20000 in
theorem f_X7_turned_b109_ok {X : Cx} {G : Gx} {z : Rs} (O : Ok X G cX7_turned RX7 4 wsX7_turned (some .int) rm_X7_turned) (N : Nat) (h : Hp) (e : f_X7_turned_b109 N h = some z) : V X G 4 (QI X G z) h 109 [] [] := by
  unfold f_X7_turned_b109 at e
  refine v_bipush (v := (-4)) O dX7_turned_109 (by decide) ?_
  exact v_iret O dX7_turned_111 e
set_option maxRecDepth 20000 in
theorem f_X7_turned_b128_ok {X : Cx} {G : Gx} {z : Rs} (O : Ok X G cX7_turned RX7 4 wsX7_turned (some .int) rm_X7_turned) (N : Nat) (s0 : Int32) (h : Hp) (e : f_X7_turned_b128 N s0 h = some z) : V X G 4 (QI X G z) h 128 [] [.int s0] := by
  unfold f_X7_turned_b128 at e
  exact v_iret O dX7_turned_128 e
set_option maxRecDepth 20000 in
theorem f_X7_turned_ok {l : Launch} {G : Gx} {N : Nat} {a0 : Int32} {h : Hp} {z : Rs} (e : f_X7_turned N a0 h = some z) : CI l G yX7_turned wsX7_turned rm_X7_turned [.ref (G.1 0), .int a0] h z := by
  refine m_int _ (by decide) rfl [(0, .ref (G.1 0)), (1, .int a0)] rfl (Nat.le_of_ble_eq_true rfl) (fun X O => ?_)
  unfold f_X7_turned at e
  refine v_iload_n O dX7_turned_0 1 rfl rfl ?_
  refine v_cSi O [.int a0] [] gX7_turned_X7_noKind cw_X7_turned_X7_noKind rfl rfl (Nat.le_of_ble_eq_true rfl) dX7_turned_1 e (fun _ e9 => f_X7_noKind_ok e9) (fun r1 h2 e => ?_)
  refine v_if_eq O dX7_turned_4 10 (by decide) e (fun e => ?_) (fun e => ?_)
  · refine v_aload_n O dX7_turned_10 0 rfl rfl ?_
    refine v_get O fd_X7_turned_10 (g25 O (by decide)) (cg_0 G _) rfl dX7_turned_11 ?_
    refine v_get O fd_X7_turned_202 (g25 O (by decide)) (cg_1 G _) rfl dX7_turned_14 ?_
    refine v_if_eq O dX7_turned_17 28 (by decide) e (fun e => ?_) (fun e => ?_)
    · refine v_sub [] rfl ?_
      exact f_X7_turned_b28_ok O N _ e
    · refine v_aload_n O dX7_turned_20 0 rfl rfl ?_
      refine v_iload_n O dX7_turned_21 1 rfl rfl ?_
      refine v_cVi O [.int a0] [] gX7_turned_X7_allAre cw_X7_turned_X7_allAre rfl rfl (g25 O (by decide)) (cg_0 G _) rfl rfl (Nat.le_of_ble_eq_true rfl) dX7_turned_22 e (fun _ e9 => f_X7_allAre_ok e9) (fun r3 h4 e => ?_)
      refine v_if_ne O dX7_turned_25 31 (by decide) e (fun e => ?_) (fun e => ?_)
      · refine v_aload_n O dX7_turned_31 0 rfl rfl ?_
        refine v_get O fd_X7_turned_53 (g25 O (by decide)) (cg_0 G _) rfl dX7_turned_32 ?_
        refine v_iload_n O dX7_turned_35 1 rfl rfl ?_
        refine v_aload_n O dX7_turned_36 0 rfl rfl ?_
        refine v_get O fd_X7_turned_10 (g25 O (by decide)) (cg_0 G _) rfl dX7_turned_37 ?_
        refine v_get O fd_X7_turned_126 (g25 O (by decide)) (cg_1 G _) rfl dX7_turned_40 ?_
        refine v_cVv O [.int a0, .int (h4.1 1 2)] [] gX7_turned_X2_knot cw_X7_turned_X2_knot rfl rfl (g25 O (by decide)) (cg_13 G _) rfl rfl (Nat.le_of_ble_eq_true rfl) dX7_turned_43 e (fun _ e9 => f_X2_knot_ok e9) (fun _ h5 e => ?_)
        refine v_aload_n O dX7_turned_46 0 rfl rfl ?_
        refine v_get O fd_X7_turned_53 (g25 O (by decide)) (cg_0 G _) rfl dX7_turned_47 ?_
        refine v_iconst (v := 0) O dX7_turned_50 (by decide) ?_
        refine v_aload_n O dX7_turned_51 0 rfl rfl ?_
        refine v_get O fd_X7_turned_133 (g25 O (by decide)) (cg_0 G _) rfl dX7_turned_52 ?_
        refine v_cSi O [.int 0, .int (h5.1 0 13)] [.ref (G.1 13)] gX7_turned_X7_placeOf cw_X7_turned_X7_placeOf rfl rfl (Nat.le_of_ble_eq_true rfl) dX7_turned_55 e (fun _ e9 => f_X7_placeOf_ok e9) (fun r6 h7 e => ?_)
        refine v_cVi O [.int r6] [] gX7_turned_X2_partAt cw_X7_turned_X2_partAt rfl rfl (g25 O (by decide)) (cg_13 G _) rfl rfl (Nat.le_of_ble_eq_true rfl) dX7_turned_58 e (fun _ e9 => f_X2_partAt_ok e9) (fun r8 h9 e => ?_)
        refine v_istore_n O dX7_turned_61 rfl (by decide) (fun x10 => [(2, .int x10), (0, .ref (G.1 0)), (1, .int a0)]) (fun _ => rfl) e (fun x10 e => ?_)
        refine v_aload_n O dX7_turned_62 1 rfl rfl ?_
        refine v_get O fd_X7_turned_10 (g25 O (by decide)) (cg_0 G _) rfl dX7_turned_63 ?_
        refine v_aload_n O dX7_turned_66 1 rfl rfl ?_
        refine v_get O fd_X7_turned_133 (g25 O (by decide)) (cg_0 G _) rfl dX7_turned_67 ?_
        refine v_cVi O [.int (h9.1 0 13)] [] gX7_turned_X5_taken cw_X7_turned_X5_taken rfl rfl (g25 O (by decide)) (cg_1 G _) rfl rfl (Nat.le_of_ble_eq_true rfl) dX7_turned_70 e (fun _ e9 => f_X5_taken_ok_1 e9) (fun r11 h12 e => ?_)
        refine v_aload_n O dX7_turned_73 1 rfl rfl ?_
        refine v_get O fd_X7_turned_10 (g25 O (by decide)) (cg_0 G _) rfl dX7_turned_74 ?_
        refine v_aload_n O dX7_turned_77 1 rfl rfl ?_
        refine v_get O fd_X7_turned_10 (g25 O (by decide)) (cg_0 G _) rfl dX7_turned_78 ?_
        refine v_get O fd_X7_turned_139 (g25 O (by decide)) (cg_1 G _) rfl dX7_turned_81 ?_
        refine v_cVi O [.int (h12.1 1 6)] [.int r11] gX7_turned_X5_taken cw_X7_turned_X5_taken rfl rfl (g25 O (by decide)) (cg_1 G _) rfl rfl (Nat.le_of_ble_eq_true rfl) dX7_turned_84 e (fun _ e9 => f_X5_taken_ok_1 e9) (fun r13 h14 e => ?_)
        refine v_ior O dX7_turned_87 ?_
        refine v_istore_n O dX7_turned_88 rfl (by decide) (fun x15 => [(3, .int x15), (2, .int x10), (0, .ref (G.1 0)), (1, .int a0)]) (fun _ => rfl) e (fun x15 e => ?_)
        refine v_aload_n O dX7_turned_89 2 rfl rfl ?_
        refine v_get O fd_X7_turned_53 (g25 O (by decide)) (cg_0 G _) rfl dX7_turned_90 ?_
        refine v_iload_n O dX7_turned_93 1 rfl rfl ?_
        refine v_cVi O [.int x10] [] gX7_turned_X2_shapeOf cw_X7_turned_X2_shapeOf rfl rfl (g25 O (by decide)) (cg_13 G _) rfl rfl (Nat.le_of_ble_eq_true rfl) dX7_turned_94 e (fun _ e9 => f_X2_shapeOf_ok e9) (fun r16 h17 e => ?_)
        refine v_iconst (v := 2) O dX7_turned_97 (by decide) ?_
        refine v_icmp_ne O dX7_turned_98 109 (by decide) e (fun e => ?_) (fun e => ?_)
        · refine v_sub [] rfl ?_
          exact f_X7_turned_b109_ok O N _ e
        · refine v_iload_n O dX7_turned_101 0 rfl rfl ?_
          refine v_iload_n O dX7_turned_102 1 rfl rfl ?_
          refine v_iconst (v := (-1)) O dX7_turned_103 (by decide) ?_
          refine v_ixor O dX7_turned_104 ?_
          refine v_iand O dX7_turned_105 ?_
          refine v_if_eq O dX7_turned_106 112 (by decide) e (fun e => ?_) (fun e => ?_)
          · refine v_aload_n O dX7_turned_112 2 rfl rfl ?_
            refine v_iload_n O dX7_turned_113 1 rfl rfl ?_
            refine v_cSi O [.int x10] [.ref (G.1 0)] gX7_turned_J6_bitCount_0f7a4 cw_X7_turned_J6_bitCount_0f7a4 rfl rfl (Nat.le_of_ble_eq_true rfl) dX7_turned_114 e (fun _ e9 => f_J6_bitCount_0f7a4_ok e9) (fun r18 h19 e => ?_)
            refine v_cVi O [.int r18] [] gX7_turned_X7_orderIsKept cw_X7_turned_X7_orderIsKept rfl rfl (g25 O (by decide)) (cg_0 G _) rfl rfl (Nat.le_of_ble_eq_true rfl) dX7_turned_117 e (fun _ e9 => f_X7_orderIsKept_ok e9) (fun r20 h21 e => ?_)
            refine v_if_eq O dX7_turned_120 127 (by decide) e (fun e => ?_) (fun e => ?_)
            · refine v_iconst (v := 0) O dX7_turned_127 (by decide) ?_
              refine v_sub [] rfl ?_
              exact f_X7_turned_b128_ok O N _ _ e
            · refine v_iconst (v := 1) O dX7_turned_123 (by decide) ?_
              refine v_goto O dX7_turned_124 128 (by decide) ?_
              refine v_sub [] rfl ?_
              exact f_X7_turned_b128_ok O N _ _ e
          · refine v_sub [] rfl ?_
            exact f_X7_turned_b109_ok O N _ e
      · refine v_sub [] rfl ?_
        exact f_X7_turned_b28_ok O N _ e
  · refine v_bipush (v := (-3)) O dX7_turned_7 (by decide) ?_
    exact v_iret O dX7_turned_9 e
/-! ===== X4 hopTowards ===== -/
abbrev rm_X4_hopTowards : Room := { frames := 1, cells := 0, slots := 0, locals := 21 }
theorem fd_X4_hopTowards_15 : FdO wsX4_hopTowards RX4 15 RX4 TX4 8 4 3 := ⟨by decide +kernel, rfl, by decide, by decide +kernel⟩
theorem fd_X4_hopTowards_18 : FdO wsX4_hopTowards RX4 18 RX4 TX4 8 4 4 := ⟨by decide +kernel, rfl, by decide, by decide +kernel⟩
theorem fd_X4_hopTowards_21 : FdO wsX4_hopTowards RX4 21 RX4 TX4 8 4 5 := ⟨by decide +kernel, rfl, by decide, by decide +kernel⟩
theorem fd_X4_hopTowards_24 : FdO wsX4_hopTowards RX4 24 RX4 TX4 8 4 0 := ⟨by decide +kernel, rfl, by decide, by decide +kernel⟩
theorem fd_X4_hopTowards_57 : FdO wsX4_hopTowards RX4 57 RX5 TX5 9 5 4 := ⟨by decide +kernel, rfl, by decide, by decide +kernel⟩
theorem cw_X4_hopTowards_X4_depthOf : CwO rm_X4_hopTowards yX4_depthOf wsX4_depthOf cX4_depthOf 2 (some .int) rm_X4_depthOf 1 := ⟨⟨_, rfl⟩, rfl, rfl, by decide +kernel, by decide, by decide⟩
theorem cw_X4_hopTowards_X7_placeOf : CwO rm_X4_hopTowards yX7_placeOf wsX7_placeOf cX7_placeOf 2 (some .int) rm_X7_placeOf 2 := ⟨⟨_, rfl⟩, rfl, rfl, by decide +kernel, by decide, by decide⟩
theorem sn_X4_hopTowards_X7_placeOf : Cond.static yX7_placeOf ∈ wsX4_hopTowards ∧ Cond.initialized yX7_placeOf.cls ∈ wsX4_hopTowards := ⟨by decide +kernel, by decide +kernel⟩
set_option maxRecDepth 20000 in
theorem f_X4_hopTowards_b13_ok {X : Cx} {G : Gx} {z : Rs} (O : Ok X G cX4_hopTowards RX4 7 wsX4_hopTowards (some .int) rm_X4_hopTowards) (N : Nat) (h : Hp) (e : f_X4_hopTowards_b13 N h = some z) : V X G 7 (QI X G z) h 13 [] [] := by
  unfold f_X4_hopTowards_b13 at e
  refine v_iconst (v := (-1)) O dX4_hopTowards_13 (by decide) ?_
  exact v_iret O dX4_hopTowards_14 e
set_option maxRecDepth 20000 in
theorem f_X4_hopTowards_b69_ok {X : Cx} {G : Gx} {z : Rs} (O : Ok X G cX4_hopTowards RX4 7 wsX4_hopTowards (some .int) rm_X4_hopTowards) (N : Nat) (h : Hp) (e : f_X4_hopTowards_b69 N h = some z) : V X G 7 (QI X G z) h 69 [] [] := by
  unfold f_X4_hopTowards_b69 at e
  refine v_iconst (v := (-1)) O dX4_hopTowards_69 (by decide) ?_
  exact v_iret O dX4_hopTowards_70 e
set_option maxRecDepth 20000 in
theorem f_X4_hopTowards_b142_ok {X : Cx} {G : Gx} {z : Rs} (O : Ok X G cX4_hopTowards RX4 7 wsX4_hopTowards (some .int) rm_X4_hopTowards) (N : Nat) (s0 : Int32) (h : Hp) (e : f_X4_hopTowards_b142 N s0 h = some z) : V X G 7 (QI X G z) h 142 [] [.int s0] := by
  unfold f_X4_hopTowards_b142 at e
  exact v_iret O dX4_hopTowards_142 e
set_option maxRecDepth 20000 in
theorem f_X4_hopTowards_b99_ok {X : Cx} {G : Gx} {z : Rs} (O : Ok X G cX4_hopTowards RX4 7 wsX4_hopTowards (some .int) rm_X4_hopTowards) (N : Nat) (k99 : Int32 → Int32 → Int32 → Int32 → Hp → Option Rs) (hk99 : ∀ (v3 : Int32) (v4 : Int32) (v5 : Int32) (v6 : Int32) (h : Hp), k99 v3 v4 v5 v6 h = some z → V X G 7 (QI X G z) h 99 [(0, .ref (G.1 15)), (3, .int v3), (4, .int v4), (5, .int v5), (6, .int v6)] []) (v3 : Int32) (v4 : Int32) (v5 : Int32) (v6 : Int32) (h : Hp) (e : f_X4_hopTowards_b99 N k99 v3 v4 v5 v6 h = some z) : V X G 7 (QI X G z) h 99 [(0, .ref (G.1 15)), (3, .int v3), (4, .int v4), (5, .int v5), (6, .int v6)] [] := by
  unfold f_X4_hopTowards_b99 at e
  refine v_iload O dX4_hopTowards_99 4 rfl ?_
  refine v_aload_n O dX4_hopTowards_101 0 rfl rfl ?_
  refine v_get O fd_X4_hopTowards_24 (g25 O (by decide)) (cg_15 G _) rfl dX4_hopTowards_102 ?_
  refine v_get O fd_X4_hopTowards_57 (g25 O (by decide)) (cg_1 G _) rfl dX4_hopTowards_105 ?_
  refine v_icmp_ge O dX4_hopTowards_108 149 (by decide) e (fun e => ?_) (fun e => ?_)
  · refine v_iconst (v := (-1)) O dX4_hopTowards_149 (by decide) ?_
    exact v_iret O dX4_hopTowards_150 e
  · refine v_iload O dX4_hopTowards_111 4 rfl ?_
    refine v_iload O dX4_hopTowards_113 3 rfl ?_
    refine v_cNi O [.int v6, .int v5] [] 9 rfl gX4_hopTowards_X7_placeOf_n93 sn_X4_hopTowards_X7_placeOf.1 sn_X4_hopTowards_X7_placeOf.2 cw_X4_hopTowards_X7_placeOf rfl rfl (Nat.le_of_ble_eq_true rfl) dX4_hopTowards_115 e (fun _ e9 => f_X7_placeOf_ok e9) (fun r1 h2 e => ?_)
    refine v_if_eq O dX4_hopTowards_118 143 (by decide) e (fun e => ?_) (fun e => ?_)
    · refine v_iinc (v := 1) O dX4_hopTowards_143 4 rfl (by decide) (by decide) (fun x3 => [(6, .int x3), (0, .ref (G.1 15)), (3, .int v3), (4, .int v4), (5, .int v5)]) (fun _ => rfl) e (fun x3 e => ?_)
      refine v_goto O dX4_hopTowards_146 99 (by decide) ?_
      refine v_sub [1, 2, 3, 4, 0] rfl ?_
      exact hk99 _ _ _ _ _ e
    · refine v_iload_n O dX4_hopTowards_121 1 rfl rfl ?_
      refine v_if_ne O dX4_hopTowards_122 130 (by decide) e (fun e => ?_) (fun e => ?_)
      · refine v_iload O dX4_hopTowards_130 4 rfl ?_
        refine v_aload_n O dX4_hopTowards_132 0 rfl rfl ?_
        refine v_get O fd_X4_hopTowards_15 (g25 O (by decide)) (cg_15 G _) rfl dX4_hopTowards_133 ?_
        refine v_iload O dX4_hopTowards_136 2 rfl ?_
        refine v_iald O (g25 O (by decide)) (cg_17 G _) dX4_hopTowards_138 e (fun e => ?_)
        refine v_cNi O [.int v6, .int (h2.1 17 (ix v4))] [] 9 rfl gX4_hopTowards_X7_placeOf_n93 sn_X4_hopTowards_X7_placeOf.1 sn_X4_hopTowards_X7_placeOf.2 cw_X4_hopTowards_X7_placeOf rfl rfl (Nat.le_of_ble_eq_true rfl) dX4_hopTowards_139 e (fun _ e9 => f_X7_placeOf_ok e9) (fun r4 h5 e => ?_)
        refine v_sub [] rfl ?_
        exact f_X4_hopTowards_b142_ok O N _ _ e
      · refine v_iload O dX4_hopTowards_125 4 rfl ?_
        refine v_goto O dX4_hopTowards_127 142 (by decide) ?_
        refine v_sub [] rfl ?_
        exact f_X4_hopTowards_b142_ok O N _ _ e
theorem f_X4_hopTowards_l99_ok {X : Cx} {G : Gx} {z : Rs} (O : Ok X G cX4_hopTowards RX4 7 wsX4_hopTowards (some .int) rm_X4_hopTowards) (N : Nat) : ∀ (n : Nat) (v3 : Int32) (v4 : Int32) (v5 : Int32) (v6 : Int32) (h : Hp), f_X4_hopTowards_l99 N n v3 v4 v5 v6 h = some z → V X G 7 (QI X G z) h 99 [(0, .ref (G.1 15)), (3, .int v3), (4, .int v4), (5, .int v5), (6, .int v6)] [] := by
  intro n
  induction n with
  | zero => intro v3 v4 v5 v6 h e; cases e
  | succ n ih => intro v3 v4 v5 v6 h e; exact f_X4_hopTowards_b99_ok O N _ ih v3 v4 v5 v6 h e
set_option maxRecDepth 20000 in
theorem f_X4_hopTowards_b54_ok {X : Cx} {G : Gx} {z : Rs} (O : Ok X G cX4_hopTowards RX4 7 wsX4_hopTowards (some .int) rm_X4_hopTowards) (N : Nat) (v3 : Int32) (v4 : Int32) (h : Hp) (e : f_X4_hopTowards_b54 N v3 v4 h = some z) : V X G 7 (QI X G z) h 54 [(0, .ref (G.1 15)), (3, .int v3), (4, .int v4)] [] := by
  unfold f_X4_hopTowards_b54 at e
  refine v_iload O dX4_hopTowards_54 2 rfl ?_
  refine v_if_lt O dX4_hopTowards_56 69 (by decide) e (fun e => ?_) (fun e => ?_)
  · refine v_sub [] rfl ?_
    exact f_X4_hopTowards_b69_ok O N _ e
  · refine v_aload_n O dX4_hopTowards_59 0 rfl rfl ?_
    refine v_get O fd_X4_hopTowards_18 (g25 O (by decide)) (cg_15 G _) rfl dX4_hopTowards_60 ?_
    refine v_iload O dX4_hopTowards_63 2 rfl ?_
    refine v_iald O (g25 O (by decide)) (cg_18 G _) dX4_hopTowards_65 e (fun e => ?_)
    refine v_if_ge O dX4_hopTowards_66 71 (by decide) e (fun e => ?_) (fun e => ?_)
    · refine v_aload_n O dX4_hopTowards_71 0 rfl rfl ?_
      refine v_get O fd_X4_hopTowards_15 (g25 O (by decide)) (cg_15 G _) rfl dX4_hopTowards_72 ?_
      refine v_iload O dX4_hopTowards_75 2 rfl ?_
      refine v_iald O (g25 O (by decide)) (cg_17 G _) dX4_hopTowards_77 e (fun e => ?_)
      refine v_aload_n O dX4_hopTowards_78 0 rfl rfl ?_
      refine v_get O fd_X4_hopTowards_15 (g25 O (by decide)) (cg_15 G _) rfl dX4_hopTowards_79 ?_
      refine v_aload_n O dX4_hopTowards_82 0 rfl rfl ?_
      refine v_get O fd_X4_hopTowards_18 (g25 O (by decide)) (cg_15 G _) rfl dX4_hopTowards_83 ?_
      refine v_iload O dX4_hopTowards_86 2 rfl ?_
      refine v_iald O (g25 O (by decide)) (cg_18 G _) dX4_hopTowards_88 e (fun e => ?_)
      refine v_iald O (g25 O (by decide)) (cg_17 G _) dX4_hopTowards_89 e (fun e => ?_)
      refine v_ixor O dX4_hopTowards_90 ?_
      refine v_ldc (v := 65535) O dX4_hopTowards_91 (by decide +kernel) ?_
      refine v_iand O dX4_hopTowards_93 ?_
      refine v_istore O dX4_hopTowards_94 (by decide) (fun x1 => [(5, .int x1), (0, .ref (G.1 15)), (3, .int v3), (4, .int v4)]) (fun _ => rfl) e (fun x1 e => ?_)
      refine v_iconst (v := 0) O dX4_hopTowards_96 (by decide) ?_
      refine v_istore O dX4_hopTowards_97 (by decide) (fun x2 => [(6, .int x2), (5, .int x1), (0, .ref (G.1 15)), (3, .int v3), (4, .int v4)]) (fun _ => rfl) e (fun x2 e => ?_)
      refine v_sub [2, 3, 4, 1, 0] rfl ?_
      exact f_X4_hopTowards_l99_ok O N N _ _ _ _ _ e
    · refine v_sub [] rfl ?_
      exact f_X4_hopTowards_b69_ok O N _ e
set_option maxRecDepth 20000 in
theorem f_X4_hopTowards_b28_ok {X : Cx} {G : Gx} {z : Rs} (O : Ok X G cX4_hopTowards RX4 7 wsX4_hopTowards (some .int) rm_X4_hopTowards) (N : Nat) (k28 : Int32 → Int32 → Int32 → Int32 → Hp → Option Rs) (hk28 : ∀ (v2 : Int32) (v3 : Int32) (v4 : Int32) (v5 : Int32) (h : Hp), k28 v2 v3 v4 v5 h = some z → V X G 7 (QI X G z) h 28 [(0, .ref (G.1 15)), (2, .int v2), (3, .int v3), (4, .int v4), (5, .int v5)] []) (v2 : Int32) (v3 : Int32) (v4 : Int32) (v5 : Int32) (h : Hp) (e : f_X4_hopTowards_b28 N k28 v2 v3 v4 v5 h = some z) : V X G 7 (QI X G z) h 28 [(0, .ref (G.1 15)), (2, .int v2), (3, .int v3), (4, .int v4), (5, .int v5)] [] := by
  unfold f_X4_hopTowards_b28 at e
  refine v_iload O dX4_hopTowards_28 4 rfl ?_
  refine v_iload_n O dX4_hopTowards_30 1 rfl rfl ?_
  refine v_icmp_le O dX4_hopTowards_31 54 (by decide) e (fun e => ?_) (fun e => ?_)
  · refine v_sub [0, 2, 3] rfl ?_
    exact f_X4_hopTowards_b54_ok O N _ _ _ e
  · refine v_iload O dX4_hopTowards_34 3 rfl ?_
    refine v_if_lt O dX4_hopTowards_36 54 (by decide) e (fun e => ?_) (fun e => ?_)
    · refine v_sub [0, 2, 3] rfl ?_
      exact f_X4_hopTowards_b54_ok O N _ _ _ e
    · refine v_aload_n O dX4_hopTowards_39 0 rfl rfl ?_
      refine v_get O fd_X4_hopTowards_18 (g25 O (by decide)) (cg_15 G _) rfl dX4_hopTowards_40 ?_
      refine v_iload O dX4_hopTowards_43 3 rfl ?_
      refine v_iald O (g25 O (by decide)) (cg_18 G _) dX4_hopTowards_45 e (fun e => ?_)
      refine v_istore O dX4_hopTowards_46 (by decide) (fun x1 => [(4, .int x1), (0, .ref (G.1 15)), (2, .int v2), (3, .int v3), (5, .int v5)]) (fun _ => rfl) e (fun x1 e => ?_)
      refine v_iinc (v := (-1)) O dX4_hopTowards_48 4 rfl (by decide) (by decide) (fun x2 => [(5, .int x2), (4, .int x1), (0, .ref (G.1 15)), (2, .int v2), (3, .int v3)]) (fun _ => rfl) e (fun x2 e => ?_)
      refine v_goto O dX4_hopTowards_51 28 (by decide) ?_
      refine v_sub [2, 3, 4, 1, 0] rfl ?_
      exact hk28 _ _ _ _ _ e
theorem f_X4_hopTowards_l28_ok {X : Cx} {G : Gx} {z : Rs} (O : Ok X G cX4_hopTowards RX4 7 wsX4_hopTowards (some .int) rm_X4_hopTowards) (N : Nat) : ∀ (n : Nat) (v2 : Int32) (v3 : Int32) (v4 : Int32) (v5 : Int32) (h : Hp), f_X4_hopTowards_l28 N n v2 v3 v4 v5 h = some z → V X G 7 (QI X G z) h 28 [(0, .ref (G.1 15)), (2, .int v2), (3, .int v3), (4, .int v4), (5, .int v5)] [] := by
  intro n
  induction n with
  | zero => intro v2 v3 v4 v5 h e; cases e
  | succ n ih => intro v2 v3 v4 v5 h e; exact f_X4_hopTowards_b28_ok O N _ ih v2 v3 v4 v5 h e
set_option maxRecDepth 20000 in
theorem f_X4_hopTowards_ok {l : Launch} {G : Gx} {N : Nat} {a0 : Int32} {a1 : Int32} {a2 : Int32} {h : Hp} {z : Rs} (e : f_X4_hopTowards N a0 a1 a2 h = some z) : CI l G yX4_hopTowards wsX4_hopTowards rm_X4_hopTowards [.ref (G.1 15), .int a0, .int a1, .int a2] h z := by
  refine m_int _ (by decide) rfl [(0, .ref (G.1 15)), (1, .int a0), (2, .int a1), (3, .int a2)] rfl (Nat.le_of_ble_eq_true rfl) (fun X O => ?_)
  unfold f_X4_hopTowards at e
  refine v_iload_n O dX4_hopTowards_0 2 rfl rfl ?_
  refine v_if_lt O dX4_hopTowards_1 13 (by decide) e (fun e => ?_) (fun e => ?_)
  · refine v_sub [] rfl ?_
    exact f_X4_hopTowards_b13_ok O N _ e
  · refine v_iload_n O dX4_hopTowards_4 2 rfl rfl ?_
    refine v_aload_n O dX4_hopTowards_5 0 rfl rfl ?_
    refine v_iload_n O dX4_hopTowards_6 1 rfl rfl ?_
    refine v_cVi O [.int a0] [.int a1] gX4_hopTowards_X4_depthOf cw_X4_hopTowards_X4_depthOf rfl rfl (g25 O (by decide)) (cg_15 G _) rfl rfl (Nat.le_of_ble_eq_true rfl) dX4_hopTowards_7 e (fun _ e9 => f_X4_depthOf_ok e9) (fun r1 h2 e => ?_)
    refine v_icmp_lt O dX4_hopTowards_10 15 (by decide) e (fun e => ?_) (fun e => ?_)
    · refine v_iload_n O dX4_hopTowards_15 1 rfl rfl ?_
      refine v_istore O dX4_hopTowards_16 (by decide) (fun x3 => [(4, .int x3), (0, .ref (G.1 15)), (1, .int a0), (2, .int a1), (3, .int a2)]) (fun _ => rfl) e (fun x3 e => ?_)
      refine v_aload_n O dX4_hopTowards_18 1 rfl rfl ?_
      refine v_get O fd_X4_hopTowards_21 (g25 O (by decide)) (cg_15 G _) rfl dX4_hopTowards_19 ?_
      refine v_iload_n O dX4_hopTowards_22 2 rfl rfl ?_
      refine v_iald O (g25 O (by decide)) (cg_19 G _) dX4_hopTowards_23 e (fun e => ?_)
      refine v_iconst (v := 1) O dX4_hopTowards_24 (by decide) ?_
      refine v_isub O dX4_hopTowards_25 ?_
      refine v_istore O dX4_hopTowards_26 (by decide) (fun x4 => [(5, .int x4), (4, .int x3), (0, .ref (G.1 15)), (1, .int a0), (2, .int a1), (3, .int a2)]) (fun _ => rfl) e (fun x4 e => ?_)
      refine v_sub [2, 4, 5, 1, 0] rfl ?_
      exact f_X4_hopTowards_l28_ok O N N _ _ _ _ _ e
    · refine v_sub [] rfl ?_
      exact f_X4_hopTowards_b13_ok O N _ e
/-! ===== X7 way ===== -/
abbrev rm_X7_way : Room := { frames := 6, cells := 0, slots := 0, locals := 154 }
theorem fd_X7_way_10 : FdO wsX7_way RX7 10 RX7 TX7 15 7 0 := ⟨by decide +kernel, rfl, by decide, by decide +kernel⟩
theorem fd_X7_way_62 : FdO wsX7_way RX7 62 RX7 TX7 15 7 6 := ⟨by decide +kernel, rfl, by decide, by decide +kernel⟩
theorem fd_X7_way_126 : FdO wsX7_way RX7 126 RX5 TX5 9 5 2 := ⟨by decide +kernel, rfl, by decide, by decide +kernel⟩
theorem fd_X7_way_133 : FdO wsX7_way RX7 133 RX7 TX7 15 7 13 := ⟨by decide +kernel, rfl, by decide, by decide +kernel⟩
theorem fd_X7_way_166 : FdO wsX7_way RX7 166 RX7 TX7 15 7 14 := ⟨by decide +kernel, rfl, by decide, by decide +kernel⟩
theorem cw_X7_way_X4_explore : CwO rm_X7_way yX4_explore wsX4_explore cX4_explore 8 (none) rm_X4_explore 3 := ⟨⟨_, rfl⟩, rfl, rfl, by decide +kernel, by decide, by decide⟩
theorem cw_X7_way_X4_firstHome : CwO rm_X7_way yX4_firstHome wsX4_firstHome cX4_firstHome 2 (some .int) rm_X4_firstHome 0 := ⟨⟨_, rfl⟩, rfl, rfl, by decide +kernel, by decide, by decide⟩
theorem cw_X7_way_X4_hopTowards : CwO rm_X7_way yX4_hopTowards wsX4_hopTowards cX4_hopTowards 7 (some .int) rm_X4_hopTowards 3 := ⟨⟨_, rfl⟩, rfl, rfl, by decide +kernel, by decide, by decide⟩
set_option maxRecDepth 20000 in
theorem f_X7_way_b13_ok {X : Cx} {G : Gx} {z : Rs} (O : Ok X G cX7_way RX7 3 wsX7_way (some .int) rm_X7_way) (N : Nat) (h : Hp) (e : f_X7_way_b13 N h = some z) : V X G 3 (QI X G z) h 13 [] [] := by
  unfold f_X7_way_b13 at e
  refine v_bipush (v := (-3)) O dX7_way_13 (by decide) ?_
  exact v_iret O dX7_way_15 e
set_option maxRecDepth 20000 in
theorem f_X7_way_ok {l : Launch} {G : Gx} {N : Nat} {a0 : Int32} {a1 : Int32} {h : Hp} {z : Rs} (e : f_X7_way N a0 a1 h = some z) : CI l G yX7_way wsX7_way rm_X7_way [.ref (G.1 0), .int a0, .int a1] h z := by
  refine m_int _ (by decide) rfl [(0, .ref (G.1 0)), (1, .int a0), (2, .int a1)] rfl (Nat.le_of_ble_eq_true rfl) (fun X O => ?_)
  unfold f_X7_way at e
  refine v_iload_n O dX7_way_0 1 rfl rfl ?_
  refine v_if_lt O dX7_way_1 13 (by decide) e (fun e => ?_) (fun e => ?_)
  · refine v_sub [] rfl ?_
    exact f_X7_way_b13_ok O N _ e
  · refine v_iload_n O dX7_way_4 2 rfl rfl ?_
    refine v_if_lt O dX7_way_5 13 (by decide) e (fun e => ?_) (fun e => ?_)
    · refine v_sub [] rfl ?_
      exact f_X7_way_b13_ok O N _ e
    · refine v_iload_n O dX7_way_8 2 rfl rfl ?_
      refine v_iconst (v := 1) O dX7_way_9 (by decide) ?_
      refine v_icmp_le O dX7_way_10 16 (by decide) e (fun e => ?_) (fun e => ?_)
      · refine v_aload_n O dX7_way_16 0 rfl rfl ?_
        refine v_get O fd_X7_way_62 (g25 O (by decide)) (cg_0 G _) rfl dX7_way_17 ?_
        refine v_aload_n O dX7_way_20 0 rfl rfl ?_
        refine v_get O fd_X7_way_133 (g25 O (by decide)) (cg_0 G _) rfl dX7_way_21 ?_
        refine v_aload_n O dX7_way_24 0 rfl rfl ?_
        refine v_get O fd_X7_way_166 (g25 O (by decide)) (cg_0 G _) rfl dX7_way_25 ?_
        refine v_aload_n O dX7_way_28 0 rfl rfl ?_
        refine v_get O fd_X7_way_10 (g25 O (by decide)) (cg_0 G _) rfl dX7_way_29 ?_
        refine v_get O fd_X7_way_126 (g25 O (by decide)) (cg_1 G _) rfl dX7_way_32 ?_
        refine v_cVv O [.int (h.1 0 13), .int (h.1 0 14), .int (h.1 1 2)] [] gX7_way_X4_explore cw_X7_way_X4_explore rfl rfl (g25 O (by decide)) (cg_15 G _) rfl rfl (Nat.le_of_ble_eq_true rfl) dX7_way_35 e (fun _ e9 => f_X4_explore_ok e9) (fun _ h1 e => ?_)
        refine v_aload_n O dX7_way_38 0 rfl rfl ?_
        refine v_get O fd_X7_way_62 (g25 O (by decide)) (cg_0 G _) rfl dX7_way_39 ?_
        refine v_aload_n O dX7_way_42 0 rfl rfl ?_
        refine v_get O fd_X7_way_62 (g25 O (by decide)) (cg_0 G _) rfl dX7_way_43 ?_
        refine v_cVi O [] [.ref (G.1 15)] gX7_way_X4_firstHome cw_X7_way_X4_firstHome rfl rfl (g25 O (by decide)) (cg_15 G _) rfl rfl (Nat.le_of_ble_eq_true rfl) dX7_way_46 e (fun _ e9 => f_X4_firstHome_ok e9) (fun r2 h3 e => ?_)
        refine v_iload_n O dX7_way_49 1 rfl rfl ?_
        refine v_iload_n O dX7_way_50 2 rfl rfl ?_
        refine v_cVi O [.int r2, .int a0, .int a1] [] gX7_way_X4_hopTowards cw_X7_way_X4_hopTowards rfl rfl (g25 O (by decide)) (cg_15 G _) rfl rfl (Nat.le_of_ble_eq_true rfl) dX7_way_51 e (fun _ e9 => f_X4_hopTowards_ok e9) (fun r4 h5 e => ?_)
        exact v_iret O dX7_way_54 e
      · refine v_sub [] rfl ?_
        exact f_X7_way_b13_ok O N _ e
/-! ===== X6 append ===== -/
abbrev rm_X6_append : Room := { frames := 0, cells := 0, slots := 0, locals := 0 }
theorem fd_X6_append_9 : FdO wsX6_append RX6 9 RX6 TX6 4 6 0 := ⟨by decide +kernel, rfl, by decide, by decide +kernel⟩
theorem fd_X6_append_15 : FdO wsX6_append RX6 15 RX6 TX6 4 6 1 := ⟨by decide +kernel, rfl, by decide, by decide +kernel⟩
set_option maxRecDepth 20000 in
theorem f_X6_append_ok {l : Launch} {G : Gx} {N : Nat} {a0 : Int32} {h : Hp} {z : Rs} (e : f_X6_append N a0 h = some z) : CV l G yX6_append wsX6_append rm_X6_append [.ref (G.1 4), .int a0] h z := by
  refine m_void _ (by decide) rfl [(0, .ref (G.1 4)), (1, .int a0)] rfl (Nat.le_of_ble_eq_true rfl) (fun X O => ?_)
  unfold f_X6_append at e
  refine v_aload_n O dX6_append_0 0 rfl rfl ?_
  refine v_get O fd_X6_append_15 (g25 O (by decide)) (cg_4 G _) rfl dX6_append_1 ?_
  refine v_sipush (v := 200) O dX6_append_4 (by decide) ?_
  refine v_icmp_lt O dX6_append_7 11 (by decide) e (fun e => ?_) (fun e => ?_)
  · refine v_aload_n O dX6_append_11 0 rfl rfl ?_
    refine v_get O fd_X6_append_9 (g25 O (by decide)) (cg_4 G _) rfl dX6_append_12 ?_
    refine v_aload_n O dX6_append_15 0 rfl rfl ?_
    refine v_get O fd_X6_append_15 (g25 O (by decide)) (cg_4 G _) rfl dX6_append_16 ?_
    refine v_iload_n O dX6_append_19 1 rfl rfl ?_
    refine v_iast O (g25 O (by decide)) (cg_5 G _) (cw_5 G _ _ _) dX6_append_20 e (fun h1 e => ?_)
    refine v_aload_n O dX6_append_21 0 rfl rfl ?_
    refine v_dup O dX6_append_22 rfl ?_
    refine v_get O fd_X6_append_15 (g25 O (by decide)) (cg_4 G _) rfl dX6_append_23 ?_
    refine v_iconst (v := 1) O dX6_append_26 (by decide) ?_
    refine v_iadd O dX6_append_27 ?_
    refine v_put O fd_X6_append_15 fp_X6_1 (g25 O (by decide)) (cg_4 G _) (Nat.le_of_ble_eq_true rfl) (cs_4_1 G _ _) dX6_append_28 e (fun h2 e => ?_)
    exact v_vret O dX6_append_31 e
  · exact v_vret O dX6_append_10 e
/-! ===== X7 write ===== -/
abbrev rm_X7_write : Room := { frames := 1, cells := 0, slots := 0, locals := 21 }
theorem fd_X7_write_19 : FdO wsX7_write RX7 19 RX7 TX7 15 7 1 := ⟨by decide +kernel, rfl, by decide, by decide +kernel⟩
theorem fd_X7_write_94 : FdO wsX7_write RX7 94 RX6 TX6 4 6 1 := ⟨by decide +kernel, rfl, by decide, by decide +kernel⟩
theorem cw_X7_write_X6_append : CwO rm_X7_write yX6_append wsX6_append cX6_append 2 (none) rm_X6_append 1 := ⟨⟨_, rfl⟩, rfl, rfl, by decide +kernel, by decide, by decide⟩
set_option maxRecDepth 20000 in
theorem f_X7_write_b11_ok {X : Cx} {G : Gx} {z : Rs} (O : Ok X G cX7_write RX7 5 wsX7_write (some .int) rm_X7_write) (N : Nat) (h : Hp) (e : f_X7_write_b11 N h = some z) : V X G 5 (QI X G z) h 11 [] [] := by
  unfold f_X7_write_b11 at e
  refine v_bipush (v := (-3)) O dX7_write_11 (by decide) ?_
  exact v_iret O dX7_write_13 e
set_option maxRecDepth 20000 in
theorem f_X7_write_b35_ok {X : Cx} {G : Gx} {z : Rs} (O : Ok X G cX7_write RX7 5 wsX7_write (some .int) rm_X7_write) (N : Nat) (k35 : Int64 → Int32 → Int32 → Hp → Option Rs) (hk35 : ∀ (v1 : Int64) (v3 : Int32) (v4 : Int32) (h : Hp), k35 v1 v3 v4 h = some z → V X G 5 (QI X G z) h 35 [(0, .ref (G.1 0)), (1, .long v1), (3, .int v3), (4, .int v4)] []) (v1 : Int64) (v3 : Int32) (v4 : Int32) (h : Hp) (e : f_X7_write_b35 N k35 v1 v3 v4 h = some z) : V X G 5 (QI X G z) h 35 [(0, .ref (G.1 0)), (1, .long v1), (3, .int v3), (4, .int v4)] [] := by
  unfold f_X7_write_b35 at e
  refine v_iload O dX7_write_35 3 rfl ?_
  refine v_iload_n O dX7_write_37 2 rfl rfl ?_
  refine v_icmp_ge O dX7_write_38 66 (by decide) e (fun e => ?_) (fun e => ?_)
  · refine v_aload_n O dX7_write_66 0 rfl rfl ?_
    refine v_get O fd_X7_write_19 (g25 O (by decide)) (cg_0 G _) rfl dX7_write_67 ?_
    refine v_get O fd_X7_write_94 (g25 O (by decide)) (cg_4 G _) rfl dX7_write_70 ?_
    exact v_iret O dX7_write_73 e
  · refine v_aload_n O dX7_write_41 0 rfl rfl ?_
    refine v_get O fd_X7_write_19 (g25 O (by decide)) (cg_0 G _) rfl dX7_write_42 ?_
    refine v_lload_n O dX7_write_45 1 rfl rfl ?_
    refine v_bipush (v := 8) O dX7_write_46 (by decide) ?_
    refine v_iload O dX7_write_48 3 rfl ?_
    refine v_imul O dX7_write_50 ?_
    refine v_lshr O dX7_write_51 ?_
    refine v_ldc2 (v := 255) O dX7_write_52 (by decide +kernel) ?_
    refine v_land O dX7_write_55 ?_
    refine v_l2i O dX7_write_56 ?_
    refine v_cVv O [.int (((v1 >>> (((8 : Int32) * v4).toInt64 &&& 63)) &&& 255).toInt32)] [] gX7_write_X6_append cw_X7_write_X6_append rfl rfl (g25 O (by decide)) (cg_4 G _) rfl rfl (Nat.le_of_ble_eq_true rfl) dX7_write_57 e (fun _ e9 => f_X6_append_ok e9) (fun _ h1 e => ?_)
    refine v_iinc (v := 1) O dX7_write_60 3 rfl (by decide) (by decide) (fun x2 => [(4, .int x2), (0, .ref (G.1 0)), (1, .long v1), (3, .int v3)]) (fun _ => rfl) e (fun x2 e => ?_)
    refine v_goto O dX7_write_63 35 (by decide) ?_
    refine v_sub [1, 2, 3, 0] rfl ?_
    exact hk35 _ _ _ _ e
theorem f_X7_write_l35_ok {X : Cx} {G : Gx} {z : Rs} (O : Ok X G cX7_write RX7 5 wsX7_write (some .int) rm_X7_write) (N : Nat) : ∀ (n : Nat) (v1 : Int64) (v3 : Int32) (v4 : Int32) (h : Hp), f_X7_write_l35 N n v1 v3 v4 h = some z → V X G 5 (QI X G z) h 35 [(0, .ref (G.1 0)), (1, .long v1), (3, .int v3), (4, .int v4)] [] := by
  intro n
  induction n with
  | zero => intro v1 v3 v4 h e; cases e
  | succ n ih => intro v1 v3 v4 h e; exact f_X7_write_b35_ok O N _ ih v1 v3 v4 h e
set_option maxRecDepth 20000 in
theorem f_X7_write_ok {l : Launch} {G : Gx} {N : Nat} {a0 : Int64} {a1 : Int32} {h : Hp} {z : Rs} (e : f_X7_write N a0 a1 h = some z) : CI l G yX7_write wsX7_write rm_X7_write [.ref (G.1 0), .long a0, .int a1] h z := by
  refine m_int _ (by decide) rfl [(0, .ref (G.1 0)), (1, .long a0), (3, .int a1)] rfl (Nat.le_of_ble_eq_true rfl) (fun X O => ?_)
  unfold f_X7_write at e
  refine v_iload_n O dX7_write_0 2 rfl rfl ?_
  refine v_iconst (v := 1) O dX7_write_1 (by decide) ?_
  refine v_icmp_lt O dX7_write_2 11 (by decide) e (fun e => ?_) (fun e => ?_)
  · refine v_sub [] rfl ?_
    exact f_X7_write_b11_ok O N _ e
  · refine v_iload_n O dX7_write_5 2 rfl rfl ?_
    refine v_bipush (v := 8) O dX7_write_6 (by decide) ?_
    refine v_icmp_le O dX7_write_8 14 (by decide) e (fun e => ?_) (fun e => ?_)
    · refine v_aload_n O dX7_write_14 0 rfl rfl ?_
      refine v_get O fd_X7_write_19 (g25 O (by decide)) (cg_0 G _) rfl dX7_write_15 ?_
      refine v_get O fd_X7_write_94 (g25 O (by decide)) (cg_4 G _) rfl dX7_write_18 ?_
      refine v_iload_n O dX7_write_21 2 rfl rfl ?_
      refine v_iadd O dX7_write_22 ?_
      refine v_sipush (v := 200) O dX7_write_23 (by decide) ?_
      refine v_icmp_le O dX7_write_26 32 (by decide) e (fun e => ?_) (fun e => ?_)
      · refine v_iconst (v := 0) O dX7_write_32 (by decide) ?_
        refine v_istore O dX7_write_33 (by decide) (fun x1 => [(4, .int x1), (0, .ref (G.1 0)), (1, .long a0), (3, .int a1)]) (fun _ => rfl) e (fun x1 e => ?_)
        refine v_sub [1, 2, 3, 0] rfl ?_
        exact f_X7_write_l35_ok O N N _ _ _ _ e
      · refine v_bipush (v := (-5)) O dX7_write_29 (by decide) ?_
        exact v_iret O dX7_write_31 e
    · refine v_sub [] rfl ?_
      exact f_X7_write_b11_ok O N _ e
