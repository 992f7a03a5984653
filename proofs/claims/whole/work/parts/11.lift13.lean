/-! ===== X8 board ===== -/
abbrev rm_X8_board : Room := { frames := 6, cells := 0, slots := 0, locals := 131 }
theorem fd_X8_board_16 : FdO wsX8_board RX8 16 RX8 TX8 34 8 5 := ⟨by decide +kernel, rfl, by decide, by decide +kernel⟩
theorem fd_X8_board_32 : FdO wsX8_board RX8 32 RX8 TX8 34 8 21 := ⟨by decide +kernel, rfl, by decide, by decide +kernel⟩
theorem fd_X8_board_38 : FdO wsX8_board RX8 38 RX8 TX8 34 8 24 := ⟨by decide +kernel, rfl, by decide, by decide +kernel⟩
theorem fd_X8_board_68 : FdO wsX8_board RX8 68 RX8 TX8 34 8 4 := ⟨by decide +kernel, rfl, by decide, by decide +kernel⟩
theorem fd_X8_board_71 : FdO wsX8_board RX8 71 RX8 TX8 34 8 6 := ⟨by decide +kernel, rfl, by decide, by decide +kernel⟩
theorem fd_X8_board_164 : FdO wsX8_board RX8 164 RX8 TX8 34 8 14 := ⟨by decide +kernel, rfl, by decide, by decide +kernel⟩
theorem fd_X8_board_183 : FdO wsX8_board RX8 183 RX8 TX8 34 8 22 := ⟨by decide +kernel, rfl, by decide, by decide +kernel⟩
theorem fd_X8_board_186 : FdO wsX8_board RX8 186 RX8 TX8 34 8 25 := ⟨by decide +kernel, rfl, by decide, by decide +kernel⟩
theorem cw_X8_board_X8_doLine : CwO rm_X8_board yX8_doLine wsX8_doLine cX8_doLine 3 (none) rm_X8_doLine 1 := ⟨⟨_, rfl⟩, rfl, rfl, by decide +kernel, by decide, by decide⟩
theorem cw_X8_board_X8_isRead : CwO rm_X8_board yX8_isRead wsX8_isRead cX8_isRead 2 (some .boolean) rm_X8_isRead 0 := ⟨⟨_, rfl⟩, rfl, rfl, by decide +kernel, by decide, by decide⟩
set_option maxRecDepth 20000 in
theorem f_X8_board_b40_ok {X : Cx} {G : Gx} {z : Rs} (h41 : 41 ≤ gN G) (O : Ok X G cX8_board RX8 2 wsX8_board (some .int) rm_X8_board) (N : Nat) (k40 : Int32 → Hp → Option Rs) (hk40 : ∀ (v1 : Int32) (h : Hp), k40 v1 h = some z → V X G 2 (QI X G z) h 40 [(0, .ref (G.1 25)), (1, .int v1)] []) (v1 : Int32) (h : Hp) (e : f_X8_board_b40 N k40 v1 h = some z) : V X G 2 (QI X G z) h 40 [(0, .ref (G.1 25)), (1, .int v1)] [] := by
  unfold f_X8_board_b40 at e
  refine v_iload_n O dX8_board_40 1 rfl rfl ?_
  refine v_aload_n O dX8_board_41 0 rfl rfl ?_
  refine v_get O fd_X8_board_68 (g41 h41 (by decide)) (cg_25 G _) rfl dX8_board_42 ?_
  refine v_icmp_ge O dX8_board_45 70 (by decide) e (fun e => ?_) (fun e => ?_)
  · refine v_aload_n O dX8_board_70 0 rfl rfl ?_
    refine v_iconst (v := 0) O dX8_board_71 (by decide) ?_
    refine v_put O fd_X8_board_183 fp_X8_22 (g41 h41 (by decide)) (cg_25 G _) (Nat.le_of_ble_eq_true rfl) (cs_25_22 G _ _) dX8_board_72 e (fun h1 e => ?_)
    refine v_aload_n O dX8_board_75 0 rfl rfl ?_
    refine v_iconst (v := 0) O dX8_board_76 (by decide) ?_
    refine v_put O fd_X8_board_186 fp_X8_25 (g41 h41 (by decide)) (cg_25 G _) (Nat.le_of_ble_eq_true rfl) (cs_25_25 G _ _) dX8_board_77 e (fun h2 e => ?_)
    refine v_aload_n O dX8_board_80 0 rfl rfl ?_
    refine v_get O fd_X8_board_38 (g41 h41 (by decide)) (cg_25 G _) rfl dX8_board_81 ?_
    refine v_iconst (v := 0) O dX8_board_84 (by decide) ?_
    refine v_iconst (v := 0) O dX8_board_85 (by decide) ?_
    refine v_zast O (g41 h41 (by decide)) (cg_33 G _) (cw_33 G _ _ _) dX8_board_86 e (fun h3 e => ?_)
    refine v_aload_n O dX8_board_87 0 rfl rfl ?_
    refine v_get O fd_X8_board_38 (g41 h41 (by decide)) (cg_25 G _) rfl dX8_board_88 ?_
    refine v_iconst (v := 1) O dX8_board_91 (by decide) ?_
    refine v_iconst (v := 0) O dX8_board_92 (by decide) ?_
    refine v_zast O (g41 h41 (by decide)) (cg_33 G _) (cw_33 G _ _ _) dX8_board_93 e (fun h4 e => ?_)
    refine v_aload_n O dX8_board_94 0 rfl rfl ?_
    refine v_get O fd_X8_board_164 (g41 h41 (by decide)) (cg_25 G _) rfl dX8_board_95 ?_
    exact v_iret O dX8_board_98 e
  · refine v_aload_n O dX8_board_48 0 rfl rfl ?_
    refine v_get O fd_X8_board_32 (g41 h41 (by decide)) (cg_25 G _) rfl dX8_board_49 ?_
    refine v_iload_n O dX8_board_52 1 rfl rfl ?_
    refine v_aload_n O dX8_board_53 0 rfl rfl ?_
    refine v_get O fd_X8_board_16 (g41 h41 (by decide)) (cg_25 G _) rfl dX8_board_54 ?_
    refine v_iconst (v := 4) O dX8_board_57 (by decide) ?_
    refine v_iload_n O dX8_board_58 1 rfl rfl ?_
    refine v_imul O dX8_board_59 ?_
    refine v_iconst (v := 2) O dX8_board_60 (by decide) ?_
    refine v_iadd O dX8_board_61 ?_
    refine v_iald O (g41 h41 (by decide)) (cg_26 G _) dX8_board_62 e (fun e => ?_)
    refine v_iast O (g41 h41 (by decide)) (cg_31 G _) (cw_31 G _ _ _) dX8_board_63 e (fun h5 e => ?_)
    refine v_iinc (v := 1) O dX8_board_64 1 rfl (by decide) (by decide) (fun x6 => [(1, .int x6), (0, .ref (G.1 25))]) (fun _ => rfl) e (fun x6 e => ?_)
    refine v_goto O dX8_board_67 40 (by decide) ?_
    refine v_sub [1, 0] rfl ?_
    exact hk40 _ _ e
theorem f_X8_board_l40_ok {X : Cx} {G : Gx} {z : Rs} (h41 : 41 ≤ gN G) (O : Ok X G cX8_board RX8 2 wsX8_board (some .int) rm_X8_board) (N : Nat) : ∀ (n : Nat) (v1 : Int32) (h : Hp), f_X8_board_l40 N n v1 h = some z → V X G 2 (QI X G z) h 40 [(0, .ref (G.1 25)), (1, .int v1)] [] := by
  intro n
  induction n with
  | zero => intro v1 h e; cases e
  | succ n ih => intro v1 h e; exact f_X8_board_b40_ok h41 O N _ ih v1 h e
set_option maxRecDepth 20000 in
theorem f_X8_board_b12_ok {X : Cx} {G : Gx} {z : Rs} (h41 : 41 ≤ gN G) (O : Ok X G cX8_board RX8 2 wsX8_board (some .int) rm_X8_board) (N : Nat) (k12 : Int32 → Hp → Option Rs) (hk12 : ∀ (v1 : Int32) (h : Hp), k12 v1 h = some z → V X G 2 (QI X G z) h 12 [(0, .ref (G.1 25)), (1, .int v1)] []) (v1 : Int32) (h : Hp) (e : f_X8_board_b12 N k12 v1 h = some z) : V X G 2 (QI X G z) h 12 [(0, .ref (G.1 25)), (1, .int v1)] [] := by
  unfold f_X8_board_b12 at e
  refine v_iload_n O dX8_board_12 1 rfl rfl ?_
  refine v_aload_n O dX8_board_13 0 rfl rfl ?_
  refine v_get O fd_X8_board_164 (g41 h41 (by decide)) (cg_25 G _) rfl dX8_board_14 ?_
  refine v_icmp_ge O dX8_board_17 33 (by decide) e (fun e => ?_) (fun e => ?_)
  · refine v_aload_n O dX8_board_33 0 rfl rfl ?_
    refine v_iconst (v := 0) O dX8_board_34 (by decide) ?_
    refine v_put O fd_X8_board_71 fp_X8_6 (g41 h41 (by decide)) (cg_25 G _) (Nat.le_of_ble_eq_true rfl) (cs_25_6 G _ _) dX8_board_35 e (fun h1 e => ?_)
    refine v_iconst (v := 0) O dX8_board_38 (by decide) ?_
    refine v_istore_n O dX8_board_39 rfl (by decide) (fun x2 => [(1, .int x2), (0, .ref (G.1 25))]) (fun _ => rfl) e (fun x2 e => ?_)
    refine v_sub [1, 0] rfl ?_
    exact f_X8_board_l40_ok h41 O N N _ _ e
  · refine v_aload_n O dX8_board_20 0 rfl rfl ?_
    refine v_iconst (v := 4) O dX8_board_21 (by decide) ?_
    refine v_iload_n O dX8_board_22 1 rfl rfl ?_
    refine v_imul O dX8_board_23 ?_
    refine v_cVv O [.int ((4 : Int32) * v1)] [] gX8_board_X8_doLine cw_X8_board_X8_doLine rfl rfl (g41 h41 (by decide)) (cg_25 G _) rfl rfl (Nat.le_of_ble_eq_true rfl) dX8_board_24 e (fun _ e9 => f_X8_doLine_ok h41 e9) (fun _ h3 e => ?_)
    refine v_iinc (v := 1) O dX8_board_27 1 rfl (by decide) (by decide) (fun x4 => [(1, .int x4), (0, .ref (G.1 25))]) (fun _ => rfl) e (fun x4 e => ?_)
    refine v_goto O dX8_board_30 12 (by decide) ?_
    refine v_sub [1, 0] rfl ?_
    exact hk12 _ _ e
theorem f_X8_board_l12_ok {X : Cx} {G : Gx} {z : Rs} (h41 : 41 ≤ gN G) (O : Ok X G cX8_board RX8 2 wsX8_board (some .int) rm_X8_board) (N : Nat) : ∀ (n : Nat) (v1 : Int32) (h : Hp), f_X8_board_l12 N n v1 h = some z → V X G 2 (QI X G z) h 12 [(0, .ref (G.1 25)), (1, .int v1)] [] := by
  intro n
  induction n with
  | zero => intro v1 h e; cases e
  | succ n ih => intro v1 h e; exact f_X8_board_b12_ok h41 O N _ ih v1 h e
set_option maxRecDepth 20000 in
theorem f_X8_board_ok {l : Launch} {G : Gx} {N : Nat} (h41 : 41 ≤ gN G) {h : Hp} {z : Rs} (e : f_X8_board N h = some z) : CI l G yX8_board wsX8_board rm_X8_board [.ref (G.1 25)] h z := by
  refine m_int _ (by decide) rfl [(0, .ref (G.1 25))] rfl (Nat.le_of_ble_eq_true rfl) (fun X O => ?_)
  unfold f_X8_board at e
  refine v_aload_n O dX8_board_0 0 rfl rfl ?_
  refine v_cVi O [] [] gX8_board_X8_isRead cw_X8_board_X8_isRead rfl rfl (g41 h41 (by decide)) (cg_25 G _) rfl rfl (Nat.le_of_ble_eq_true rfl) dX8_board_1 e (fun _ e9 => f_X8_isRead_ok h41 e9) (fun r1 h2 e => ?_)
  refine v_if_ne O dX8_board_4 10 (by decide) e (fun e => ?_) (fun e => ?_)
  · refine v_iconst (v := 0) O dX8_board_10 (by decide) ?_
    refine v_istore_n O dX8_board_11 rfl (by decide) (fun x3 => [(1, .int x3), (0, .ref (G.1 25))]) (fun _ => rfl) e (fun x3 e => ?_)
    refine v_sub [1, 0] rfl ?_
    exact f_X8_board_l12_ok h41 O N N _ _ e
  · refine v_bipush (v := (-4)) O dX8_board_7 (by decide) ?_
    exact v_iret O dX8_board_9 e
/-! ===== X8 burn ===== -/
abbrev rm_X8_burn : Room := { frames := 0, cells := 0, slots := 0, locals := 0 }
theorem fd_X8_burn_186 : FdO wsX8_burn RX8 186 RX8 TX8 34 8 25 := ⟨by decide +kernel, rfl, by decide, by decide +kernel⟩
set_option maxRecDepth 20000 in
theorem f_X8_burn_ok {l : Launch} {G : Gx} {N : Nat} (h41 : 41 ≤ gN G) {h : Hp} {z : Rs} (e : f_X8_burn N h = some z) : CI l G yX8_burn wsX8_burn rm_X8_burn [.ref (G.1 25)] h z := by
  refine m_int _ (by decide) rfl [(0, .ref (G.1 25))] rfl (Nat.le_of_ble_eq_true rfl) (fun X O => ?_)
  unfold f_X8_burn at e
  refine v_aload_n O dX8_burn_0 0 rfl rfl ?_
  refine v_get O fd_X8_burn_186 (g41 h41 (by decide)) (cg_25 G _) rfl dX8_burn_1 ?_
  refine v_istore_n O dX8_burn_4 rfl (by decide) (fun x1 => [(1, .int x1), (0, .ref (G.1 25))]) (fun _ => rfl) e (fun x1 e => ?_)
  refine v_aload_n O dX8_burn_5 1 rfl rfl ?_
  refine v_iconst (v := 0) O dX8_burn_6 (by decide) ?_
  refine v_put O fd_X8_burn_186 fp_X8_25 (g41 h41 (by decide)) (cg_25 G _) (Nat.le_of_ble_eq_true rfl) (cs_25_25 G _ _) dX8_burn_7 e (fun h2 e => ?_)
  refine v_iload_n O dX8_burn_10 0 rfl rfl ?_
  exact v_iret O dX8_burn_11 e
/-! ===== X8 count ===== -/
abbrev rm_X8_count : Room := { frames := 0, cells := 0, slots := 0, locals := 0 }
theorem fd_X8_count_7 : FdO wsX8_count RX8 7 RX8 TX8 34 8 0 := ⟨by decide +kernel, rfl, by decide, by decide +kernel⟩
theorem fd_X8_count_13 : FdO wsX8_count RX8 13 RX8 TX8 34 8 1 := ⟨by decide +kernel, rfl, by decide, by decide +kernel⟩
theorem fd_X8_count_16 : FdO wsX8_count RX8 16 RX8 TX8 34 8 5 := ⟨by decide +kernel, rfl, by decide, by decide +kernel⟩
theorem fd_X8_count_32 : FdO wsX8_count RX8 32 RX8 TX8 34 8 21 := ⟨by decide +kernel, rfl, by decide, by decide +kernel⟩
theorem fd_X8_count_68 : FdO wsX8_count RX8 68 RX8 TX8 34 8 4 := ⟨by decide +kernel, rfl, by decide, by decide +kernel⟩
theorem fd_X8_count_71 : FdO wsX8_count RX8 71 RX8 TX8 34 8 6 := ⟨by decide +kernel, rfl, by decide, by decide +kernel⟩
theorem fd_X8_count_167 : FdO wsX8_count RX8 167 RX8 TX8 34 8 2 := ⟨by decide +kernel, rfl, by decide, by decide +kernel⟩
theorem fd_X8_count_176 : FdO wsX8_count RX8 176 RX8 TX8 34 8 3 := ⟨by decide +kernel, rfl, by decide, by decide +kernel⟩
theorem fd_X8_count_183 : FdO wsX8_count RX8 183 RX8 TX8 34 8 22 := ⟨by decide +kernel, rfl, by decide, by decide +kernel⟩
theorem fd_X8_count_186 : FdO wsX8_count RX8 186 RX8 TX8 34 8 25 := ⟨by decide +kernel, rfl, by decide, by decide +kernel⟩
set_option maxRecDepth 20000 in
theorem f_X8_count_b39_ok {X : Cx} {G : Gx} {z : Rs} (h41 : 41 ≤ gN G) (O : Ok X G cX8_count RX8 4 wsX8_count (some .int) rm_X8_count) (N : Nat) (k4 : Int32 → Int32 → Int32 → Hp → Option Rs) (hk4 : ∀ (v1 : Int32) (v2 : Int32) (v3 : Int32) (h : Hp), k4 v1 v2 v3 h = some z → V X G 4 (QI X G z) h 4 [(0, .ref (G.1 25)), (1, .int v1), (2, .int v2), (3, .int v3)] []) (v1 : Int32) (v3 : Int32) (s0 : Int32) (s1 : Int32) (h : Hp) (e : f_X8_count_b39 N k4 v1 v3 s0 s1 h = some z) : V X G 4 (QI X G z) h 39 [(0, .ref (G.1 25)), (1, .int v1), (3, .int v3)] [.int s0, .int s1] := by
  unfold f_X8_count_b39 at e
  refine v_ior O dX8_count_39 ?_
  refine v_istore_n O dX8_count_40 rfl (by decide) (fun x1 => [(2, .int x1), (0, .ref (G.1 25)), (1, .int v1), (3, .int v3)]) (fun _ => rfl) e (fun x1 e => ?_)
  refine v_iinc (v := 1) O dX8_count_41 3 rfl (by decide) (by decide) (fun x2 => [(3, .int x2), (2, .int x1), (0, .ref (G.1 25)), (1, .int v1)]) (fun _ => rfl) e (fun x2 e => ?_)
  refine v_goto O dX8_count_44 4 (by decide) ?_
  refine v_sub [2, 3, 1, 0] rfl ?_
  exact hk4 _ _ _ _ e
set_option maxRecDepth 20000 in
theorem f_X8_count_b4_ok {X : Cx} {G : Gx} {z : Rs} (h41 : 41 ≤ gN G) (O : Ok X G cX8_count RX8 4 wsX8_count (some .int) rm_X8_count) (N : Nat) (k4 : Int32 → Int32 → Int32 → Hp → Option Rs) (hk4 : ∀ (v1 : Int32) (v2 : Int32) (v3 : Int32) (h : Hp), k4 v1 v2 v3 h = some z → V X G 4 (QI X G z) h 4 [(0, .ref (G.1 25)), (1, .int v1), (2, .int v2), (3, .int v3)] []) (v1 : Int32) (v2 : Int32) (v3 : Int32) (h : Hp) (e : f_X8_count_b4 N k4 v1 v2 v3 h = some z) : V X G 4 (QI X G z) h 4 [(0, .ref (G.1 25)), (1, .int v1), (2, .int v2), (3, .int v3)] [] := by
  unfold f_X8_count_b4 at e
  refine v_iload_n O dX8_count_4 3 rfl rfl ?_
  refine v_aload_n O dX8_count_5 0 rfl rfl ?_
  refine v_get O fd_X8_count_68 (g41 h41 (by decide)) (cg_25 G _) rfl dX8_count_6 ?_
  refine v_icmp_ge O dX8_count_9 47 (by decide) e (fun e => ?_) (fun e => ?_)
  · refine v_iload_n O dX8_count_47 1 rfl rfl ?_
    refine v_if (c := v1 = 0) e (fun c0 e => ?_) (fun c0 e => ?_)
    · refine v_tabIn O dX8_count_48 c0 (by decide) (by decide) (by first | rfl | decide) 100 (by decide) ?_
      refine v_aload_n O dX8_count_100 0 rfl rfl ?_
      refine v_get O fd_X8_count_7 (g41 h41 (by decide)) (cg_25 G _) rfl dX8_count_101 ?_
      exact v_iret O dX8_count_104 e
    refine v_if (c := v1 = 1) e (fun c1 e => ?_) (fun c1 e => ?_)
    · refine v_tabIn O dX8_count_48 c1 (by decide) (by decide) (by first | rfl | decide) 105 (by decide) ?_
      refine v_aload_n O dX8_count_105 0 rfl rfl ?_
      refine v_get O fd_X8_count_13 (g41 h41 (by decide)) (cg_25 G _) rfl dX8_count_106 ?_
      exact v_iret O dX8_count_109 e
    refine v_if (c := v1 = 2) e (fun c2 e => ?_) (fun c2 e => ?_)
    · refine v_tabIn O dX8_count_48 c2 (by decide) (by decide) (by first | rfl | decide) 110 (by decide) ?_
      refine v_aload_n O dX8_count_110 0 rfl rfl ?_
      refine v_get O fd_X8_count_68 (g41 h41 (by decide)) (cg_25 G _) rfl dX8_count_111 ?_
      exact v_iret O dX8_count_114 e
    refine v_if (c := v1 = 3) e (fun c3 e => ?_) (fun c3 e => ?_)
    · refine v_tabIn O dX8_count_48 c3 (by decide) (by decide) (by first | rfl | decide) 115 (by decide) ?_
      refine v_aload_n O dX8_count_115 0 rfl rfl ?_
      refine v_get O fd_X8_count_167 (g41 h41 (by decide)) (cg_25 G _) rfl dX8_count_116 ?_
      exact v_iret O dX8_count_119 e
    refine v_if (c := v1 = 4) e (fun c4 e => ?_) (fun c4 e => ?_)
    · refine v_tabIn O dX8_count_48 c4 (by decide) (by decide) (by first | rfl | decide) 120 (by decide) ?_
      refine v_aload_n O dX8_count_120 0 rfl rfl ?_
      refine v_get O fd_X8_count_176 (g41 h41 (by decide)) (cg_25 G _) rfl dX8_count_121 ?_
      exact v_iret O dX8_count_124 e
    refine v_if (c := v1 = 5) e (fun c5 e => ?_) (fun c5 e => ?_)
    · refine v_tabIn O dX8_count_48 c5 (by decide) (by decide) (by first | rfl | decide) 125 (by decide) ?_
      refine v_aload_n O dX8_count_125 0 rfl rfl ?_
      refine v_get O fd_X8_count_183 (g41 h41 (by decide)) (cg_25 G _) rfl dX8_count_126 ?_
      exact v_iret O dX8_count_129 e
    refine v_if (c := v1 = 6) e (fun c6 e => ?_) (fun c6 e => ?_)
    · refine v_tabIn O dX8_count_48 c6 (by decide) (by decide) (by first | rfl | decide) 130 (by decide) ?_
      refine v_iload_n O dX8_count_130 2 rfl rfl ?_
      exact v_iret O dX8_count_131 e
    refine v_if (c := v1 = 7) e (fun c7 e => ?_) (fun c7 e => ?_)
    · refine v_tabIn O dX8_count_48 c7 (by decide) (by decide) (by first | rfl | decide) 132 (by decide) ?_
      refine v_aload_n O dX8_count_132 0 rfl rfl ?_
      refine v_get O fd_X8_count_186 (g41 h41 (by decide)) (cg_25 G _) rfl dX8_count_133 ?_
      exact v_iret O dX8_count_136 e
    refine v_if (c := v1 = 8) e (fun c8 e => ?_) (fun c8 e => ?_)
    · refine v_tabIn O dX8_count_48 c8 (by decide) (by decide) (by first | rfl | decide) 137 (by decide) ?_
      refine v_aload_n O dX8_count_137 0 rfl rfl ?_
      refine v_get O fd_X8_count_71 (g41 h41 (by decide)) (cg_25 G _) rfl dX8_count_138 ?_
      exact v_iret O dX8_count_141 e
    refine v_tabOut O dX8_count_48 (by have q0 := lv_neT (a := 0) c0 rfl; have q1 := lv_neT (a := 1) c1 rfl; have q2 := lv_neT (a := 2) c2 rfl; have q3 := lv_neT (a := 3) c3 rfl; have q4 := lv_neT (a := 4) c4 rfl; have q5 := lv_neT (a := 5) c5 rfl; have q6 := lv_neT (a := 6) c6 rfl; have q7 := lv_neT (a := 7) c7 rfl; have q8 := lv_neT (a := 8) c8 rfl; omega) 142 (by decide) ?_
    refine v_bipush (v := (-3)) O dX8_count_142 (by decide) ?_
    exact v_iret O dX8_count_144 e
  · refine v_iload_n O dX8_count_12 2 rfl rfl ?_
    refine v_aload_n O dX8_count_13 0 rfl rfl ?_
    refine v_get O fd_X8_count_32 (g41 h41 (by decide)) (cg_25 G _) rfl dX8_count_14 ?_
    refine v_iload_n O dX8_count_17 3 rfl rfl ?_
    refine v_iald O (g41 h41 (by decide)) (cg_31 G _) dX8_count_18 e (fun e => ?_)
    refine v_aload_n O dX8_count_19 0 rfl rfl ?_
    refine v_get O fd_X8_count_16 (g41 h41 (by decide)) (cg_25 G _) rfl dX8_count_20 ?_
    refine v_iconst (v := 4) O dX8_count_23 (by decide) ?_
    refine v_iload_n O dX8_count_24 3 rfl rfl ?_
    refine v_imul O dX8_count_25 ?_
    refine v_iconst (v := 3) O dX8_count_26 (by decide) ?_
    refine v_iadd O dX8_count_27 ?_
    refine v_iald O (g41 h41 (by decide)) (cg_26 G _) dX8_count_28 e (fun e => ?_)
    refine v_icmp_ne O dX8_count_29 38 (by decide) e (fun e => ?_) (fun e => ?_)
    · refine v_iconst (v := 0) O dX8_count_38 (by decide) ?_
      refine v_sub [0, 1, 3] rfl ?_
      exact f_X8_count_b39_ok h41 O N k4 hk4 _ _ _ _ _ e
    · refine v_iconst (v := 1) O dX8_count_32 (by decide) ?_
      refine v_iload_n O dX8_count_33 3 rfl rfl ?_
      refine v_ishl O dX8_count_34 ?_
      refine v_goto O dX8_count_35 39 (by decide) ?_
      refine v_sub [0, 1, 3] rfl ?_
      exact f_X8_count_b39_ok h41 O N k4 hk4 _ _ _ _ _ e
theorem f_X8_count_l4_ok {X : Cx} {G : Gx} {z : Rs} (h41 : 41 ≤ gN G) (O : Ok X G cX8_count RX8 4 wsX8_count (some .int) rm_X8_count) (N : Nat) : ∀ (n : Nat) (v1 : Int32) (v2 : Int32) (v3 : Int32) (h : Hp), f_X8_count_l4 N n v1 v2 v3 h = some z → V X G 4 (QI X G z) h 4 [(0, .ref (G.1 25)), (1, .int v1), (2, .int v2), (3, .int v3)] [] := by
  intro n
  induction n with
  | zero => intro v1 v2 v3 h e; cases e
  | succ n ih => intro v1 v2 v3 h e; exact f_X8_count_b4_ok h41 O N _ ih v1 v2 v3 h e
set_option maxRecDepth 20000 in
theorem f_X8_count_ok {l : Launch} {G : Gx} {N : Nat} (h41 : 41 ≤ gN G) {a0 : Int32} {h : Hp} {z : Rs} (e : f_X8_count N a0 h = some z) : CI l G yX8_count wsX8_count rm_X8_count [.ref (G.1 25), .int a0] h z := by
  refine m_int _ (by decide) rfl [(0, .ref (G.1 25)), (1, .int a0)] rfl (Nat.le_of_ble_eq_true rfl) (fun X O => ?_)
  unfold f_X8_count at e
  refine v_iconst (v := 0) O dX8_count_0 (by decide) ?_
  refine v_istore_n O dX8_count_1 rfl (by decide) (fun x1 => [(2, .int x1), (0, .ref (G.1 25)), (1, .int a0)]) (fun _ => rfl) e (fun x1 e => ?_)
  refine v_iconst (v := 0) O dX8_count_2 (by decide) ?_
  refine v_istore_n O dX8_count_3 rfl (by decide) (fun x2 => [(3, .int x2), (2, .int x1), (0, .ref (G.1 25)), (1, .int a0)]) (fun _ => rfl) e (fun x2 e => ?_)
  refine v_sub [2, 3, 1, 0] rfl ?_
  exact f_X8_count_l4_ok h41 O N N _ _ _ _ e
/-! ===== X8 erase ===== -/
abbrev rm_X8_erase : Room := { frames := 0, cells := 0, slots := 0, locals := 0 }
theorem fd_X8_erase_71 : FdO wsX8_erase RX8 71 RX8 TX8 34 8 6 := ⟨by decide +kernel, rfl, by decide, by decide +kernel⟩
set_option maxRecDepth 20000 in
theorem f_X8_erase_ok {l : Launch} {G : Gx} {N : Nat} (h41 : 41 ≤ gN G) {h : Hp} {z : Rs} (e : f_X8_erase N h = some z) : CI l G yX8_erase wsX8_erase rm_X8_erase [.ref (G.1 25)] h z := by
  refine m_int _ (by decide) rfl [(0, .ref (G.1 25))] rfl (Nat.le_of_ble_eq_true rfl) (fun X O => ?_)
  unfold f_X8_erase at e
  refine v_aload_n O dX8_erase_0 0 rfl rfl ?_
  refine v_get O fd_X8_erase_71 (g41 h41 (by decide)) (cg_25 G _) rfl dX8_erase_1 ?_
  refine v_istore_n O dX8_erase_4 rfl (by decide) (fun x1 => [(1, .int x1), (0, .ref (G.1 25))]) (fun _ => rfl) e (fun x1 e => ?_)
  refine v_aload_n O dX8_erase_5 1 rfl rfl ?_
  refine v_iconst (v := 0) O dX8_erase_6 (by decide) ?_
  refine v_put O fd_X8_erase_71 fp_X8_6 (g41 h41 (by decide)) (cg_25 G _) (Nat.le_of_ble_eq_true rfl) (cs_25_6 G _ _) dX8_erase_7 e (fun h2 e => ?_)
  refine v_iload_n O dX8_erase_10 0 rfl rfl ?_
  exact v_iret O dX8_erase_11 e
/-! ===== X8 farthest ===== -/
abbrev rm_X8_farthest : Room := { frames := 7, cells := 0, slots := 0, locals := 186 }
theorem fd_X8_farthest_46 : FdO wsX8_farthest RX8 46 RX8 TX8 34 8 27 := ⟨by decide +kernel, rfl, by decide, by decide +kernel⟩
theorem fd_X8_farthest_49 : FdO wsX8_farthest RX8 49 RX8 TX8 34 8 28 := ⟨by decide +kernel, rfl, by decide, by decide +kernel⟩
theorem fd_X8_farthest_241 : FdO wsX8_farthest RX8 241 RX8 TX8 34 8 31 := ⟨by decide +kernel, rfl, by decide, by decide +kernel⟩
theorem cw_X8_farthest_X8_in : CwO rm_X8_farthest yX8_in wsX8_in cX8_in 3 (some .boolean) rm_X8_in 3 := ⟨⟨_, rfl⟩, rfl, rfl, by decide +kernel, by decide, by decide⟩
theorem cw_X8_farthest_X8_layLine : CwO rm_X8_farthest yX8_layLine wsX8_layLine cX8_layLine 9 (none) rm_X8_layLine 0 := ⟨⟨_, rfl⟩, rfl, rfl, by decide +kernel, by decide, by decide⟩
set_option maxRecDepth 20000 in
theorem f_X8_farthest_b69_ok {X : Cx} {G : Gx} {z : Rs} (h41 : 41 ≤ gN G) (O : Ok X G cX8_farthest RX8 5 wsX8_farthest (some .int) rm_X8_farthest) (N : Nat) (k38 : Int32 → Int32 → Int32 → Int32 → Hp → Option Rs) (hk38 : ∀ (v1 : Int32) (v2 : Int32) (v3 : Int32) (v4 : Int32) (h : Hp), k38 v1 v2 v3 v4 h = some z → V X G 5 (QI X G z) h 38 [(0, .ref (G.1 25)), (1, .int v1), (2, .int v2), (3, .int v3), (4, .int v4)] []) (v1 : Int32) (v2 : Int32) (v4 : Int32) (s0 : Int32) (s1 : Int32) (h : Hp) (e : f_X8_farthest_b69 N k38 v1 v2 v4 s0 s1 h = some z) : V X G 5 (QI X G z) h 69 [(0, .ref (G.1 25)), (1, .int v1), (2, .int v2), (4, .int v4)] [.int s0, .int s1] := by
  unfold f_X8_farthest_b69 at e
  refine v_iadd O dX8_farthest_69 ?_
  refine v_istore_n O dX8_farthest_70 rfl (by decide) (fun x1 => [(3, .int x1), (0, .ref (G.1 25)), (1, .int v1), (2, .int v2), (4, .int v4)]) (fun _ => rfl) e (fun x1 e => ?_)
  refine v_iinc (v := 1) O dX8_farthest_71 4 rfl (by decide) (by decide) (fun x2 => [(4, .int x2), (3, .int x1), (0, .ref (G.1 25)), (1, .int v1), (2, .int v2)]) (fun _ => rfl) e (fun x2 e => ?_)
  refine v_goto O dX8_farthest_74 38 (by decide) ?_
  refine v_sub [2, 3, 4, 1, 0] rfl ?_
  exact hk38 _ _ _ _ _ e
set_option maxRecDepth 20000 in
theorem f_X8_farthest_b86_ok {X : Cx} {G : Gx} {z : Rs} (h41 : 41 ≤ gN G) (O : Ok X G cX8_farthest RX8 5 wsX8_farthest (some .int) rm_X8_farthest) (N : Nat) (s0 : Int32) (h : Hp) (e : f_X8_farthest_b86 N s0 h = some z) : V X G 5 (QI X G z) h 86 [] [.int s0] := by
  unfold f_X8_farthest_b86 at e
  exact v_iret O dX8_farthest_86 e
set_option maxRecDepth 20000 in
theorem f_X8_farthest_b38_ok {X : Cx} {G : Gx} {z : Rs} (h41 : 41 ≤ gN G) (O : Ok X G cX8_farthest RX8 5 wsX8_farthest (some .int) rm_X8_farthest) (N : Nat) (k38 : Int32 → Int32 → Int32 → Int32 → Hp → Option Rs) (hk38 : ∀ (v1 : Int32) (v2 : Int32) (v3 : Int32) (v4 : Int32) (h : Hp), k38 v1 v2 v3 v4 h = some z → V X G 5 (QI X G z) h 38 [(0, .ref (G.1 25)), (1, .int v1), (2, .int v2), (3, .int v3), (4, .int v4)] []) (v1 : Int32) (v2 : Int32) (v3 : Int32) (v4 : Int32) (h : Hp) (e : f_X8_farthest_b38 N k38 v1 v2 v3 v4 h = some z) : V X G 5 (QI X G z) h 38 [(0, .ref (G.1 25)), (1, .int v1), (2, .int v2), (3, .int v3), (4, .int v4)] [] := by
  unfold f_X8_farthest_b38 at e
  refine v_iload O dX8_farthest_38 4 rfl ?_
  refine v_aload_n O dX8_farthest_40 0 rfl rfl ?_
  refine v_get O fd_X8_farthest_241 (g41 h41 (by decide)) (cg_25 G _) rfl dX8_farthest_41 ?_
  refine v_icmp_ge O dX8_farthest_44 77 (by decide) e (fun e => ?_) (fun e => ?_)
  · refine v_iload_n O dX8_farthest_77 1 rfl rfl ?_
    refine v_if_ne O dX8_farthest_78 85 (by decide) e (fun e => ?_) (fun e => ?_)
    · refine v_iload_n O dX8_farthest_85 3 rfl rfl ?_
      refine v_sub [] rfl ?_
      exact f_X8_farthest_b86_ok h41 O N _ _ e
    · refine v_iload_n O dX8_farthest_81 2 rfl rfl ?_
      refine v_goto O dX8_farthest_82 86 (by decide) ?_
      refine v_sub [] rfl ?_
      exact f_X8_farthest_b86_ok h41 O N _ _ e
  · refine v_iload_n O dX8_farthest_47 3 rfl rfl ?_
    refine v_aload_n O dX8_farthest_48 0 rfl rfl ?_
    refine v_get O fd_X8_farthest_46 (g41 h41 (by decide)) (cg_25 G _) rfl dX8_farthest_49 ?_
    refine v_aload_n O dX8_farthest_52 0 rfl rfl ?_
    refine v_get O fd_X8_farthest_49 (g41 h41 (by decide)) (cg_25 G _) rfl dX8_farthest_53 ?_
    refine v_iload O dX8_farthest_56 4 rfl ?_
    refine v_iald O (g41 h41 (by decide)) (cg_36 G _) dX8_farthest_58 e (fun e => ?_)
    refine v_iald O (g41 h41 (by decide)) (cg_35 G _) dX8_farthest_59 e (fun e => ?_)
    refine v_iload_n O dX8_farthest_60 2 rfl rfl ?_
    refine v_icmp_ne O dX8_farthest_61 68 (by decide) e (fun e => ?_) (fun e => ?_)
    · refine v_iconst (v := 0) O dX8_farthest_68 (by decide) ?_
      refine v_sub [0, 1, 2, 4] rfl ?_
      exact f_X8_farthest_b69_ok h41 O N k38 hk38 _ _ _ _ _ _ e
    · refine v_iconst (v := 1) O dX8_farthest_64 (by decide) ?_
      refine v_goto O dX8_farthest_65 69 (by decide) ?_
      refine v_sub [0, 1, 2, 4] rfl ?_
      exact f_X8_farthest_b69_ok h41 O N k38 hk38 _ _ _ _ _ _ e
theorem f_X8_farthest_l38_ok {X : Cx} {G : Gx} {z : Rs} (h41 : 41 ≤ gN G) (O : Ok X G cX8_farthest RX8 5 wsX8_farthest (some .int) rm_X8_farthest) (N : Nat) : ∀ (n : Nat) (v1 : Int32) (v2 : Int32) (v3 : Int32) (v4 : Int32) (h : Hp), f_X8_farthest_l38 N n v1 v2 v3 v4 h = some z → V X G 5 (QI X G z) h 38 [(0, .ref (G.1 25)), (1, .int v1), (2, .int v2), (3, .int v3), (4, .int v4)] [] := by
  intro n
  induction n with
  | zero => intro v1 v2 v3 v4 h e; cases e
  | succ n ih => intro v1 v2 v3 v4 h e; exact f_X8_farthest_b38_ok h41 O N _ ih v1 v2 v3 v4 h e
set_option maxRecDepth 20000 in
theorem f_X8_farthest_ok {l : Launch} {G : Gx} {N : Nat} (h41 : 41 ≤ gN G) {a0 : Int32} {h : Hp} {z : Rs} (e : f_X8_farthest N a0 h = some z) : CI l G yX8_farthest wsX8_farthest rm_X8_farthest [.ref (G.1 25), .int a0] h z := by
  refine m_int _ (by decide) rfl [(0, .ref (G.1 25)), (1, .int a0)] rfl (Nat.le_of_ble_eq_true rfl) (fun X O => ?_)
  unfold f_X8_farthest at e
  refine v_iload_n O dX8_farthest_0 1 rfl rfl ?_
  refine v_iconst (v := 0) O dX8_farthest_1 (by decide) ?_
  refine v_iconst (v := 1) O dX8_farthest_2 (by decide) ?_
  refine v_cSi O [.int a0, .int 0, .int 1] [] gX8_farthest_X8_in cw_X8_farthest_X8_in rfl rfl (Nat.le_of_ble_eq_true rfl) dX8_farthest_3 e (fun _ e9 => f_X8_in_ok e9) (fun r1 h2 e => ?_)
  refine v_if_ne O dX8_farthest_6 12 (by decide) e (fun e => ?_) (fun e => ?_)
  · refine v_aload_n O dX8_farthest_12 0 rfl rfl ?_
    refine v_cVv O [] [] gX8_farthest_X8_layLine cw_X8_farthest_X8_layLine rfl rfl (g41 h41 (by decide)) (cg_25 G _) rfl rfl (Nat.le_of_ble_eq_true rfl) dX8_farthest_13 e (fun _ e9 => f_X8_layLine_ok h41 e9) (fun _ h3 e => ?_)
    refine v_aload_n O dX8_farthest_16 0 rfl rfl ?_
    refine v_get O fd_X8_farthest_46 (g41 h41 (by decide)) (cg_25 G _) rfl dX8_farthest_17 ?_
    refine v_aload_n O dX8_farthest_20 0 rfl rfl ?_
    refine v_get O fd_X8_farthest_49 (g41 h41 (by decide)) (cg_25 G _) rfl dX8_farthest_21 ?_
    refine v_aload_n O dX8_farthest_24 0 rfl rfl ?_
    refine v_get O fd_X8_farthest_241 (g41 h41 (by decide)) (cg_25 G _) rfl dX8_farthest_25 ?_
    refine v_iconst (v := 1) O dX8_farthest_28 (by decide) ?_
    refine v_isub O dX8_farthest_29 ?_
    refine v_iald O (g41 h41 (by decide)) (cg_36 G _) dX8_farthest_30 e (fun e => ?_)
    refine v_iald O (g41 h41 (by decide)) (cg_35 G _) dX8_farthest_31 e (fun e => ?_)
    refine v_istore_n O dX8_farthest_32 rfl (by decide) (fun x4 => [(2, .int x4), (0, .ref (G.1 25)), (1, .int a0)]) (fun _ => rfl) e (fun x4 e => ?_)
    refine v_iconst (v := 0) O dX8_farthest_33 (by decide) ?_
    refine v_istore_n O dX8_farthest_34 rfl (by decide) (fun x5 => [(3, .int x5), (2, .int x4), (0, .ref (G.1 25)), (1, .int a0)]) (fun _ => rfl) e (fun x5 e => ?_)
    refine v_iconst (v := 0) O dX8_farthest_35 (by decide) ?_
    refine v_istore O dX8_farthest_36 (by decide) (fun x6 => [(4, .int x6), (3, .int x5), (2, .int x4), (0, .ref (G.1 25)), (1, .int a0)]) (fun _ => rfl) e (fun x6 e => ?_)
    refine v_sub [3, 4, 2, 1, 0] rfl ?_
    exact f_X8_farthest_l38_ok h41 O N N _ _ _ _ _ e
  · refine v_bipush (v := (-3)) O dX8_farthest_9 (by decide) ?_
    exact v_iret O dX8_farthest_11 e
/-! ===== X8 fault ===== -/
abbrev rm_X8_fault : Room := { frames := 6, cells := 0, slots := 0, locals := 131 }
theorem fd_X8_fault_104 : FdO wsX8_fault RX8 104 RX8 TX8 34 8 13 := ⟨by decide +kernel, rfl, by decide, by decide +kernel⟩
theorem cw_X8_fault_X8_isRead : CwO rm_X8_fault yX8_isRead wsX8_isRead cX8_isRead 2 (some .boolean) rm_X8_isRead 0 := ⟨⟨_, rfl⟩, rfl, rfl, by decide +kernel, by decide, by decide⟩
set_option maxRecDepth 20000 in
theorem f_X8_fault_b15_ok {X : Cx} {G : Gx} {z : Rs} (h41 : 41 ≤ gN G) (O : Ok X G cX8_fault RX8 1 wsX8_fault (some .int) rm_X8_fault) (N : Nat) (s0 : Int32) (h : Hp) (e : f_X8_fault_b15 N s0 h = some z) : V X G 1 (QI X G z) h 15 [] [.int s0] := by
  unfold f_X8_fault_b15 at e
  exact v_iret O dX8_fault_15 e
set_option maxRecDepth 20000 in
theorem f_X8_fault_ok {l : Launch} {G : Gx} {N : Nat} (h41 : 41 ≤ gN G) {h : Hp} {z : Rs} (e : f_X8_fault N h = some z) : CI l G yX8_fault wsX8_fault rm_X8_fault [.ref (G.1 25)] h z := by
  refine m_int _ (by decide) rfl [(0, .ref (G.1 25))] rfl (Nat.le_of_ble_eq_true rfl) (fun X O => ?_)
  unfold f_X8_fault at e
  refine v_aload_n O dX8_fault_0 0 rfl rfl ?_
  refine v_cVi O [] [] gX8_fault_X8_isRead cw_X8_fault_X8_isRead rfl rfl (g41 h41 (by decide)) (cg_25 G _) rfl rfl (Nat.le_of_ble_eq_true rfl) dX8_fault_1 e (fun _ e9 => f_X8_isRead_ok h41 e9) (fun r1 h2 e => ?_)
  refine v_if_eq O dX8_fault_4 11 (by decide) e (fun e => ?_) (fun e => ?_)
  · refine v_aload_n O dX8_fault_11 0 rfl rfl ?_
    refine v_get O fd_X8_fault_104 (g41 h41 (by decide)) (cg_25 G _) rfl dX8_fault_12 ?_
    refine v_sub [] rfl ?_
    exact f_X8_fault_b15_ok h41 O N _ _ e
  · refine v_iconst (v := (-1)) O dX8_fault_7 (by decide) ?_
    refine v_goto O dX8_fault_8 15 (by decide) ?_
    refine v_sub [] rfl ?_
    exact f_X8_fault_b15_ok h41 O N _ _ e
/-! ===== X8 fewest ===== -/
abbrev rm_X8_fewest : Room := { frames := 9, cells := 0, slots := 0, locals := 230 }
theorem cw_X8_fewest_X8_fewestBy : CwO rm_X8_fewest yX8_fewestBy wsX8_fewestBy cX8_fewestBy 3 (some .int) rm_X8_fewestBy 1 := ⟨⟨_, rfl⟩, rfl, rfl, by decide +kernel, by decide, by decide⟩
set_option maxRecDepth 20000 in
theorem f_X8_fewest_ok {l : Launch} {G : Gx} {N : Nat} (h41 : 41 ≤ gN G) {h : Hp} {z : Rs} (e : f_X8_fewest N h = some z) : CI l G yX8_fewest wsX8_fewest rm_X8_fewest [.ref (G.1 25)] h z := by
  refine m_int _ (by decide) rfl [(0, .ref (G.1 25))] rfl (Nat.le_of_ble_eq_true rfl) (fun X O => ?_)
  unfold f_X8_fewest at e
  refine v_aload_n O dX8_fewest_0 0 rfl rfl ?_
  refine v_iconst (v := 0) O dX8_fewest_1 (by decide) ?_
  refine v_cVi O [.int 0] [] gX8_fewest_X8_fewestBy cw_X8_fewest_X8_fewestBy rfl rfl (g41 h41 (by decide)) (cg_25 G _) rfl rfl (Nat.le_of_ble_eq_true rfl) dX8_fewest_2 e (fun _ e9 => f_X8_fewestBy_ok h41 e9) (fun r1 h2 e => ?_)
  exact v_iret O dX8_fewest_5 e
/-! ===== X8 hop ===== -/
abbrev rm_X8_hop : Room := { frames := 6, cells := 0, slots := 0, locals := 158 }
theorem fd_X8_hop_32 : FdO wsX8_hop RX8 32 RX8 TX8 34 8 21 := ⟨by decide +kernel, rfl, by decide, by decide +kernel⟩
theorem fd_X8_hop_183 : FdO wsX8_hop RX8 183 RX8 TX8 34 8 22 := ⟨by decide +kernel, rfl, by decide, by decide +kernel⟩
theorem cw_X8_hop_X8_has : CwO rm_X8_hop yX8_has wsX8_has cX8_has 2 (some .boolean) rm_X8_has 2 := ⟨⟨_, rfl⟩, rfl, rfl, by decide +kernel, by decide, by decide⟩
theorem cw_X8_hop_X8_isMan : CwO rm_X8_hop yX8_isMan wsX8_isMan cX8_isMan 2 (some .boolean) rm_X8_isMan 1 := ⟨⟨_, rfl⟩, rfl, rfl, by decide +kernel, by decide, by decide⟩
theorem cw_X8_hop_X8_isSquare : CwO rm_X8_hop yX8_isSquare wsX8_isSquare cX8_isSquare 2 (some .boolean) rm_X8_isSquare 1 := ⟨⟨_, rfl⟩, rfl, rfl, by decide +kernel, by decide, by decide⟩
theorem cw_X8_hop_X8_mayOf : CwO rm_X8_hop yX8_mayOf wsX8_mayOf cX8_mayOf 9 (some .int) rm_X8_mayOf 3 := ⟨⟨_, rfl⟩, rfl, rfl, by decide +kernel, by decide, by decide⟩
set_option maxRecDepth 20000 in
theorem f_X8_hop_b16_ok {X : Cx} {G : Gx} {z : Rs} (h41 : 41 ≤ gN G) (O : Ok X G cX8_hop RX8 3 wsX8_hop (some .int) rm_X8_hop) (N : Nat) (h : Hp) (e : f_X8_hop_b16 N h = some z) : V X G 3 (QI X G z) h 16 [] [] := by
  unfold f_X8_hop_b16 at e
  refine v_bipush (v := (-2)) O dX8_hop_16 (by decide) ?_
  exact v_iret O dX8_hop_18 e
set_option maxRecDepth 20000 in
theorem f_X8_hop_ok {l : Launch} {G : Gx} {N : Nat} (h41 : 41 ≤ gN G) {a0 : Int32} {a1 : Int32} {h : Hp} {z : Rs} (e : f_X8_hop N a0 a1 h = some z) : CI l G yX8_hop wsX8_hop rm_X8_hop [.ref (G.1 25), .int a0, .int a1] h z := by
  refine m_int _ (by decide) rfl [(0, .ref (G.1 25)), (1, .int a0), (2, .int a1)] rfl (Nat.le_of_ble_eq_true rfl) (fun X O => ?_)
  unfold f_X8_hop at e
  refine v_aload_n O dX8_hop_0 0 rfl rfl ?_
  refine v_iload_n O dX8_hop_1 1 rfl rfl ?_
  refine v_cVi O [.int a0] [] gX8_hop_X8_isMan cw_X8_hop_X8_isMan rfl rfl (g41 h41 (by decide)) (cg_25 G _) rfl rfl (Nat.le_of_ble_eq_true rfl) dX8_hop_2 e (fun _ e9 => f_X8_isMan_ok h41 e9) (fun r1 h2 e => ?_)
  refine v_if_eq O dX8_hop_5 16 (by decide) e (fun e => ?_) (fun e => ?_)
  · refine v_sub [] rfl ?_
    exact f_X8_hop_b16_ok h41 O N _ e
  · refine v_aload_n O dX8_hop_8 0 rfl rfl ?_
    refine v_iload_n O dX8_hop_9 2 rfl rfl ?_
    refine v_cVi O [.int a1] [] gX8_hop_X8_isSquare cw_X8_hop_X8_isSquare rfl rfl (g41 h41 (by decide)) (cg_25 G _) rfl rfl (Nat.le_of_ble_eq_true rfl) dX8_hop_10 e (fun _ e9 => f_X8_isSquare_ok h41 e9) (fun r3 h4 e => ?_)
    refine v_if_ne O dX8_hop_13 19 (by decide) e (fun e => ?_) (fun e => ?_)
    · refine v_aload_n O dX8_hop_19 0 rfl rfl ?_
      refine v_aload_n O dX8_hop_20 0 rfl rfl ?_
      refine v_get O fd_X8_hop_32 (g41 h41 (by decide)) (cg_25 G _) rfl dX8_hop_21 ?_
      refine v_iload_n O dX8_hop_24 1 rfl rfl ?_
      refine v_aload_n O dX8_hop_25 0 rfl rfl ?_
      refine v_get O fd_X8_hop_183 (g41 h41 (by decide)) (cg_25 G _) rfl dX8_hop_26 ?_
      refine v_iconst (v := 2) O dX8_hop_29 (by decide) ?_
      refine v_irem O dX8_hop_30 e (fun e => ?_)
      refine v_cVi O [.ref (G.1 31), .int a0, .int ((h4.1 25 22) - (h4.1 25 22) / 2 * 2)] [] gX8_hop_X8_mayOf cw_X8_hop_X8_mayOf rfl rfl (g41 h41 (by decide)) (cg_25 G _) rfl rfl (Nat.le_of_ble_eq_true rfl) dX8_hop_31 e (fun _ e9 => f_X8_mayOf_ok_31 h41 e9) (fun r5 h6 e => ?_)
      refine v_iload_n O dX8_hop_34 2 rfl rfl ?_
      refine v_cSi O [.int r5, .int a1] [] gX8_hop_X8_has cw_X8_hop_X8_has rfl rfl (Nat.le_of_ble_eq_true rfl) dX8_hop_35 e (fun _ e9 => f_X8_has_ok e9) (fun r7 h8 e => ?_)
      refine v_if_ne O dX8_hop_38 44 (by decide) e (fun e => ?_) (fun e => ?_)
      · refine v_aload_n O dX8_hop_44 0 rfl rfl ?_
        refine v_get O fd_X8_hop_183 (g41 h41 (by decide)) (cg_25 G _) rfl dX8_hop_45 ?_
        refine v_sipush (v := 9999) O dX8_hop_48 (by decide) ?_
        refine v_icmp_ne O dX8_hop_51 57 (by decide) e (fun e => ?_) (fun e => ?_)
        · refine v_aload_n O dX8_hop_57 0 rfl rfl ?_
          refine v_get O fd_X8_hop_32 (g41 h41 (by decide)) (cg_25 G _) rfl dX8_hop_58 ?_
          refine v_iload_n O dX8_hop_61 1 rfl rfl ?_
          refine v_iload_n O dX8_hop_62 2 rfl rfl ?_
          refine v_iast O (g41 h41 (by decide)) (cg_31 G _) (cw_31 G _ _ _) dX8_hop_63 e (fun h9 e => ?_)
          refine v_aload_n O dX8_hop_64 0 rfl rfl ?_
          refine v_dup O dX8_hop_65 rfl ?_
          refine v_get O fd_X8_hop_183 (g41 h41 (by decide)) (cg_25 G _) rfl dX8_hop_66 ?_
          refine v_iconst (v := 1) O dX8_hop_69 (by decide) ?_
          refine v_iadd O dX8_hop_70 ?_
          refine v_put O fd_X8_hop_183 fp_X8_22 (g41 h41 (by decide)) (cg_25 G _) (Nat.le_of_ble_eq_true rfl) (cs_25_22 G _ _) dX8_hop_71 e (fun h10 e => ?_)
          refine v_aload_n O dX8_hop_74 0 rfl rfl ?_
          refine v_get O fd_X8_hop_183 (g41 h41 (by decide)) (cg_25 G _) rfl dX8_hop_75 ?_
          exact v_iret O dX8_hop_78 e
        · refine v_bipush (v := (-5)) O dX8_hop_54 (by decide) ?_
          exact v_iret O dX8_hop_56 e
      · refine v_bipush (v := (-4)) O dX8_hop_41 (by decide) ?_
        exact v_iret O dX8_hop_43 e
    · refine v_sub [] rfl ?_
      exact f_X8_hop_b16_ok h41 O N _ e
/-! ===== X8 judge ===== -/
abbrev rm_X8_judge : Room := { frames := 6, cells := 0, slots := 0, locals := 158 }
theorem fd_X8_judge_32 : FdO wsX8_judge RX8 32 RX8 TX8 34 8 21 := ⟨by decide +kernel, rfl, by decide, by decide +kernel⟩
theorem fd_X8_judge_42 : FdO wsX8_judge RX8 42 RX8 TX8 34 8 26 := ⟨by decide +kernel, rfl, by decide, by decide +kernel⟩
theorem fd_X8_judge_58 : FdO wsX8_judge RX8 58 RX8 TX8 34 8 32 := ⟨by decide +kernel, rfl, by decide, by decide +kernel⟩
theorem fd_X8_judge_68 : FdO wsX8_judge RX8 68 RX8 TX8 34 8 4 := ⟨by decide +kernel, rfl, by decide, by decide +kernel⟩
theorem fd_X8_judge_183 : FdO wsX8_judge RX8 183 RX8 TX8 34 8 22 := ⟨by decide +kernel, rfl, by decide, by decide +kernel⟩
theorem fd_X8_judge_186 : FdO wsX8_judge RX8 186 RX8 TX8 34 8 25 := ⟨by decide +kernel, rfl, by decide, by decide +kernel⟩
theorem cw_X8_judge_X8_has : CwO rm_X8_judge yX8_has wsX8_has cX8_has 2 (some .boolean) rm_X8_has 2 := ⟨⟨_, rfl⟩, rfl, rfl, by decide +kernel, by decide, by decide⟩
theorem cw_X8_judge_X8_mayOf : CwO rm_X8_judge yX8_mayOf wsX8_mayOf cX8_mayOf 9 (some .int) rm_X8_mayOf 3 := ⟨⟨_, rfl⟩, rfl, rfl, by decide +kernel, by decide, by decide⟩
set_option maxRecDepth 20000 in
theorem f_X8_judge_b30_ok {X : Cx} {G : Gx} {z : Rs} (h41 : 41 ≤ gN G) (O : Ok X G cX8_judge RX8 2 wsX8_judge (some .int) rm_X8_judge) (N : Nat) (k30 : Int32 → Hp → Option Rs) (hk30 : ∀ (v1 : Int32) (h : Hp), k30 v1 h = some z → V X G 2 (QI X G z) h 30 [(0, .ref (G.1 25)), (1, .int v1)] []) (v1 : Int32) (h : Hp) (e : f_X8_judge_b30 N k30 v1 h = some z) : V X G 2 (QI X G z) h 30 [(0, .ref (G.1 25)), (1, .int v1)] [] := by
  unfold f_X8_judge_b30 at e
  refine v_iload_n O dX8_judge_30 1 rfl rfl ?_
  refine v_aload_n O dX8_judge_31 0 rfl rfl ?_
  refine v_get O fd_X8_judge_186 (g41 h41 (by decide)) (cg_25 G _) rfl dX8_judge_32 ?_
  refine v_icmp_ge O dX8_judge_35 109 (by decide) e (fun e => ?_) (fun e => ?_)
  · refine v_iconst (v := (-1)) O dX8_judge_109 (by decide) ?_
    exact v_iret O dX8_judge_110 e
  · refine v_aload_n O dX8_judge_38 0 rfl rfl ?_
    refine v_aload_n O dX8_judge_39 0 rfl rfl ?_
    refine v_get O fd_X8_judge_58 (g41 h41 (by decide)) (cg_25 G _) rfl dX8_judge_40 ?_
    refine v_aload_n O dX8_judge_43 0 rfl rfl ?_
    refine v_get O fd_X8_judge_42 (g41 h41 (by decide)) (cg_25 G _) rfl dX8_judge_44 ?_
    refine v_iconst (v := 2) O dX8_judge_47 (by decide) ?_
    refine v_iload_n O dX8_judge_48 1 rfl rfl ?_
    refine v_imul O dX8_judge_49 ?_
    refine v_iald O (g41 h41 (by decide)) (cg_34 G _) dX8_judge_50 e (fun e => ?_)
    refine v_aload_n O dX8_judge_51 0 rfl rfl ?_
    refine v_get O fd_X8_judge_183 (g41 h41 (by decide)) (cg_25 G _) rfl dX8_judge_52 ?_
    refine v_iload_n O dX8_judge_55 1 rfl rfl ?_
    refine v_iadd O dX8_judge_56 ?_
    refine v_iconst (v := 2) O dX8_judge_57 (by decide) ?_
    refine v_irem O dX8_judge_58 e (fun e => ?_)
    refine v_cVi O [.ref (G.1 39), .int (h.1 34 (ix ((2 : Int32) * v1))), .int (((h.1 25 22) + v1) - ((h.1 25 22) + v1) / 2 * 2)] [] gX8_judge_X8_mayOf cw_X8_judge_X8_mayOf rfl rfl (g41 h41 (by decide)) (cg_25 G _) rfl rfl (Nat.le_of_ble_eq_true rfl) dX8_judge_59 e (fun _ e9 => f_X8_mayOf_ok_39 h41 e9) (fun r1 h2 e => ?_)
    refine v_aload_n O dX8_judge_62 0 rfl rfl ?_
    refine v_get O fd_X8_judge_42 (g41 h41 (by decide)) (cg_25 G _) rfl dX8_judge_63 ?_
    refine v_iconst (v := 2) O dX8_judge_66 (by decide) ?_
    refine v_iload_n O dX8_judge_67 1 rfl rfl ?_
    refine v_imul O dX8_judge_68 ?_
    refine v_iconst (v := 1) O dX8_judge_69 (by decide) ?_
    refine v_iadd O dX8_judge_70 ?_
    refine v_iald O (g41 h41 (by decide)) (cg_34 G _) dX8_judge_71 e (fun e => ?_)
    refine v_cSi O [.int r1, .int (h2.1 34 (ix (((2 : Int32) * v1) + 1)))] [] gX8_judge_X8_has cw_X8_judge_X8_has rfl rfl (Nat.le_of_ble_eq_true rfl) dX8_judge_72 e (fun _ e9 => f_X8_has_ok e9) (fun r3 h4 e => ?_)
    refine v_if_ne O dX8_judge_75 80 (by decide) e (fun e => ?_) (fun e => ?_)
    · refine v_aload_n O dX8_judge_80 0 rfl rfl ?_
      refine v_get O fd_X8_judge_58 (g41 h41 (by decide)) (cg_25 G _) rfl dX8_judge_81 ?_
      refine v_aload_n O dX8_judge_84 0 rfl rfl ?_
      refine v_get O fd_X8_judge_42 (g41 h41 (by decide)) (cg_25 G _) rfl dX8_judge_85 ?_
      refine v_iconst (v := 2) O dX8_judge_88 (by decide) ?_
      refine v_iload_n O dX8_judge_89 1 rfl rfl ?_
      refine v_imul O dX8_judge_90 ?_
      refine v_iald O (g41 h41 (by decide)) (cg_34 G _) dX8_judge_91 e (fun e => ?_)
      refine v_aload_n O dX8_judge_92 0 rfl rfl ?_
      refine v_get O fd_X8_judge_42 (g41 h41 (by decide)) (cg_25 G _) rfl dX8_judge_93 ?_
      refine v_iconst (v := 2) O dX8_judge_96 (by decide) ?_
      refine v_iload_n O dX8_judge_97 1 rfl rfl ?_
      refine v_imul O dX8_judge_98 ?_
      refine v_iconst (v := 1) O dX8_judge_99 (by decide) ?_
      refine v_iadd O dX8_judge_100 ?_
      refine v_iald O (g41 h41 (by decide)) (cg_34 G _) dX8_judge_101 e (fun e => ?_)
      refine v_iast O (g41 h41 (by decide)) (cg_39 G _) (cw_39 G _ _ _) dX8_judge_102 e (fun h5 e => ?_)
      refine v_iinc (v := 1) O dX8_judge_103 1 rfl (by decide) (by decide) (fun x6 => [(1, .int x6), (0, .ref (G.1 25))]) (fun _ => rfl) e (fun x6 e => ?_)
      refine v_goto O dX8_judge_106 30 (by decide) ?_
      refine v_sub [1, 0] rfl ?_
      exact hk30 _ _ e
    · refine v_iload_n O dX8_judge_78 1 rfl rfl ?_
      exact v_iret O dX8_judge_79 e
theorem f_X8_judge_l30_ok {X : Cx} {G : Gx} {z : Rs} (h41 : 41 ≤ gN G) (O : Ok X G cX8_judge RX8 2 wsX8_judge (some .int) rm_X8_judge) (N : Nat) : ∀ (n : Nat) (v1 : Int32) (h : Hp), f_X8_judge_l30 N n v1 h = some z → V X G 2 (QI X G z) h 30 [(0, .ref (G.1 25)), (1, .int v1)] [] := by
  intro n
  induction n with
  | zero => intro v1 h e; cases e
  | succ n ih => intro v1 h e; exact f_X8_judge_b30_ok h41 O N _ ih v1 h e
set_option maxRecDepth 20000 in
theorem f_X8_judge_b2_ok {X : Cx} {G : Gx} {z : Rs} (h41 : 41 ≤ gN G) (O : Ok X G cX8_judge RX8 2 wsX8_judge (some .int) rm_X8_judge) (N : Nat) (k2 : Int32 → Hp → Option Rs) (hk2 : ∀ (v1 : Int32) (h : Hp), k2 v1 h = some z → V X G 2 (QI X G z) h 2 [(0, .ref (G.1 25)), (1, .int v1)] []) (v1 : Int32) (h : Hp) (e : f_X8_judge_b2 N k2 v1 h = some z) : V X G 2 (QI X G z) h 2 [(0, .ref (G.1 25)), (1, .int v1)] [] := by
  unfold f_X8_judge_b2 at e
  refine v_iload_n O dX8_judge_2 1 rfl rfl ?_
  refine v_aload_n O dX8_judge_3 0 rfl rfl ?_
  refine v_get O fd_X8_judge_68 (g41 h41 (by decide)) (cg_25 G _) rfl dX8_judge_4 ?_
  refine v_icmp_ge O dX8_judge_7 28 (by decide) e (fun e => ?_) (fun e => ?_)
  · refine v_iconst (v := 0) O dX8_judge_28 (by decide) ?_
    refine v_istore_n O dX8_judge_29 rfl (by decide) (fun x1 => [(1, .int x1), (0, .ref (G.1 25))]) (fun _ => rfl) e (fun x1 e => ?_)
    refine v_sub [1, 0] rfl ?_
    exact f_X8_judge_l30_ok h41 O N N _ _ e
  · refine v_aload_n O dX8_judge_10 0 rfl rfl ?_
    refine v_get O fd_X8_judge_58 (g41 h41 (by decide)) (cg_25 G _) rfl dX8_judge_11 ?_
    refine v_iload_n O dX8_judge_14 1 rfl rfl ?_
    refine v_aload_n O dX8_judge_15 0 rfl rfl ?_
    refine v_get O fd_X8_judge_32 (g41 h41 (by decide)) (cg_25 G _) rfl dX8_judge_16 ?_
    refine v_iload_n O dX8_judge_19 1 rfl rfl ?_
    refine v_iald O (g41 h41 (by decide)) (cg_31 G _) dX8_judge_20 e (fun e => ?_)
    refine v_iast O (g41 h41 (by decide)) (cg_39 G _) (cw_39 G _ _ _) dX8_judge_21 e (fun h2 e => ?_)
    refine v_iinc (v := 1) O dX8_judge_22 1 rfl (by decide) (by decide) (fun x3 => [(1, .int x3), (0, .ref (G.1 25))]) (fun _ => rfl) e (fun x3 e => ?_)
    refine v_goto O dX8_judge_25 2 (by decide) ?_
    refine v_sub [1, 0] rfl ?_
    exact hk2 _ _ e
theorem f_X8_judge_l2_ok {X : Cx} {G : Gx} {z : Rs} (h41 : 41 ≤ gN G) (O : Ok X G cX8_judge RX8 2 wsX8_judge (some .int) rm_X8_judge) (N : Nat) : ∀ (n : Nat) (v1 : Int32) (h : Hp), f_X8_judge_l2 N n v1 h = some z → V X G 2 (QI X G z) h 2 [(0, .ref (G.1 25)), (1, .int v1)] [] := by
  intro n
  induction n with
  | zero => intro v1 h e; cases e
  | succ n ih => intro v1 h e; exact f_X8_judge_b2_ok h41 O N _ ih v1 h e
set_option maxRecDepth 20000 in
theorem f_X8_judge_ok {l : Launch} {G : Gx} {N : Nat} (h41 : 41 ≤ gN G) {h : Hp} {z : Rs} (e : f_X8_judge N h = some z) : CI l G yX8_judge wsX8_judge rm_X8_judge [.ref (G.1 25)] h z := by
  refine m_int _ (by decide) rfl [(0, .ref (G.1 25))] rfl (Nat.le_of_ble_eq_true rfl) (fun X O => ?_)
  unfold f_X8_judge at e
  refine v_iconst (v := 0) O dX8_judge_0 (by decide) ?_
  refine v_istore_n O dX8_judge_1 rfl (by decide) (fun x1 => [(1, .int x1), (0, .ref (G.1 25))]) (fun _ => rfl) e (fun x1 e => ?_)
  refine v_sub [1, 0] rfl ?_
  exact f_X8_judge_l2_ok h41 O N N _ _ e
/-! ===== X8 keep ===== -/
abbrev rm_X8_keep : Room := { frames := 1, cells := 0, slots := 0, locals := 22 }
theorem fd_X8_keep_32 : FdO wsX8_keep RX8 32 RX8 TX8 34 8 21 := ⟨by decide +kernel, rfl, by decide, by decide +kernel⟩
theorem fd_X8_keep_35 : FdO wsX8_keep RX8 35 RX8 TX8 34 8 23 := ⟨by decide +kernel, rfl, by decide, by decide +kernel⟩
theorem fd_X8_keep_38 : FdO wsX8_keep RX8 38 RX8 TX8 34 8 24 := ⟨by decide +kernel, rfl, by decide, by decide +kernel⟩
theorem fd_X8_keep_183 : FdO wsX8_keep RX8 183 RX8 TX8 34 8 22 := ⟨by decide +kernel, rfl, by decide, by decide +kernel⟩
theorem cw_X8_keep_X8_in : CwO rm_X8_keep yX8_in wsX8_in cX8_in 3 (some .boolean) rm_X8_in 3 := ⟨⟨_, rfl⟩, rfl, rfl, by decide +kernel, by decide, by decide⟩
set_option maxRecDepth 20000 in
theorem f_X8_keep_b14_ok {X : Cx} {G : Gx} {z : Rs} (h41 : 41 ≤ gN G) (O : Ok X G cX8_keep RX8 3 wsX8_keep (some .int) rm_X8_keep) (N : Nat) (k14 : Int32 → Int32 → Hp → Option Rs) (hk14 : ∀ (v1 : Int32) (v2 : Int32) (h : Hp), k14 v1 v2 h = some z → V X G 3 (QI X G z) h 14 [(0, .ref (G.1 25)), (1, .int v1), (2, .int v2)] []) (v1 : Int32) (v2 : Int32) (h : Hp) (e : f_X8_keep_b14 N k14 v1 v2 h = some z) : V X G 3 (QI X G z) h 14 [(0, .ref (G.1 25)), (1, .int v1), (2, .int v2)] [] := by
  unfold f_X8_keep_b14 at e
  refine v_iload_n O dX8_keep_14 2 rfl rfl ?_
  refine v_iconst (v := 4) O dX8_keep_15 (by decide) ?_
  refine v_icmp_ge O dX8_keep_16 41 (by decide) e (fun e => ?_) (fun e => ?_)
  · refine v_aload_n O dX8_keep_41 0 rfl rfl ?_
    refine v_get O fd_X8_keep_35 (g41 h41 (by decide)) (cg_25 G _) rfl dX8_keep_42 ?_
    refine v_iconst (v := 5) O dX8_keep_45 (by decide) ?_
    refine v_iload_n O dX8_keep_46 1 rfl rfl ?_
    refine v_imul O dX8_keep_47 ?_
    refine v_iconst (v := 4) O dX8_keep_48 (by decide) ?_
    refine v_iadd O dX8_keep_49 ?_
    refine v_aload_n O dX8_keep_50 0 rfl rfl ?_
    refine v_get O fd_X8_keep_183 (g41 h41 (by decide)) (cg_25 G _) rfl dX8_keep_51 ?_
    refine v_iast O (g41 h41 (by decide)) (cg_32 G _) (cw_32 G _ _ _) dX8_keep_54 e (fun h1 e => ?_)
    refine v_aload_n O dX8_keep_55 0 rfl rfl ?_
    refine v_get O fd_X8_keep_38 (g41 h41 (by decide)) (cg_25 G _) rfl dX8_keep_56 ?_
    refine v_iload_n O dX8_keep_59 1 rfl rfl ?_
    refine v_iconst (v := 1) O dX8_keep_60 (by decide) ?_
    refine v_zast O (g41 h41 (by decide)) (cg_33 G _) (cw_33 G _ _ _) dX8_keep_61 e (fun h2 e => ?_)
    refine v_aload_n O dX8_keep_62 0 rfl rfl ?_
    refine v_get O fd_X8_keep_183 (g41 h41 (by decide)) (cg_25 G _) rfl dX8_keep_63 ?_
    exact v_iret O dX8_keep_66 e
  · refine v_aload_n O dX8_keep_19 0 rfl rfl ?_
    refine v_get O fd_X8_keep_35 (g41 h41 (by decide)) (cg_25 G _) rfl dX8_keep_20 ?_
    refine v_iconst (v := 5) O dX8_keep_23 (by decide) ?_
    refine v_iload_n O dX8_keep_24 1 rfl rfl ?_
    refine v_imul O dX8_keep_25 ?_
    refine v_iload_n O dX8_keep_26 2 rfl rfl ?_
    refine v_iadd O dX8_keep_27 ?_
    refine v_aload_n O dX8_keep_28 0 rfl rfl ?_
    refine v_get O fd_X8_keep_32 (g41 h41 (by decide)) (cg_25 G _) rfl dX8_keep_29 ?_
    refine v_iload_n O dX8_keep_32 2 rfl rfl ?_
    refine v_iald O (g41 h41 (by decide)) (cg_31 G _) dX8_keep_33 e (fun e => ?_)
    refine v_iast O (g41 h41 (by decide)) (cg_32 G _) (cw_32 G _ _ _) dX8_keep_34 e (fun h3 e => ?_)
    refine v_iinc (v := 1) O dX8_keep_35 2 rfl (by decide) (by decide) (fun x4 => [(2, .int x4), (0, .ref (G.1 25)), (1, .int v1)]) (fun _ => rfl) e (fun x4 e => ?_)
    refine v_goto O dX8_keep_38 14 (by decide) ?_
    refine v_sub [1, 2, 0] rfl ?_
    exact hk14 _ _ _ e
theorem f_X8_keep_l14_ok {X : Cx} {G : Gx} {z : Rs} (h41 : 41 ≤ gN G) (O : Ok X G cX8_keep RX8 3 wsX8_keep (some .int) rm_X8_keep) (N : Nat) : ∀ (n : Nat) (v1 : Int32) (v2 : Int32) (h : Hp), f_X8_keep_l14 N n v1 v2 h = some z → V X G 3 (QI X G z) h 14 [(0, .ref (G.1 25)), (1, .int v1), (2, .int v2)] [] := by
  intro n
  induction n with
  | zero => intro v1 v2 h e; cases e
  | succ n ih => intro v1 v2 h e; exact f_X8_keep_b14_ok h41 O N _ ih v1 v2 h e
set_option maxRecDepth 20000 in
theorem f_X8_keep_ok {l : Launch} {G : Gx} {N : Nat} (h41 : 41 ≤ gN G) {a0 : Int32} {h : Hp} {z : Rs} (e : f_X8_keep N a0 h = some z) : CI l G yX8_keep wsX8_keep rm_X8_keep [.ref (G.1 25), .int a0] h z := by
  refine m_int _ (by decide) rfl [(0, .ref (G.1 25)), (1, .int a0)] rfl (Nat.le_of_ble_eq_true rfl) (fun X O => ?_)
  unfold f_X8_keep at e
  refine v_iload_n O dX8_keep_0 1 rfl rfl ?_
  refine v_iconst (v := 0) O dX8_keep_1 (by decide) ?_
  refine v_iconst (v := 1) O dX8_keep_2 (by decide) ?_
  refine v_cSi O [.int a0, .int 0, .int 1] [] gX8_keep_X8_in cw_X8_keep_X8_in rfl rfl (Nat.le_of_ble_eq_true rfl) dX8_keep_3 e (fun _ e9 => f_X8_in_ok e9) (fun r1 h2 e => ?_)
  refine v_if_ne O dX8_keep_6 12 (by decide) e (fun e => ?_) (fun e => ?_)
  · refine v_iconst (v := 0) O dX8_keep_12 (by decide) ?_
    refine v_istore_n O dX8_keep_13 rfl (by decide) (fun x3 => [(2, .int x3), (0, .ref (G.1 25)), (1, .int a0)]) (fun _ => rfl) e (fun x3 e => ?_)
    refine v_sub [1, 2, 0] rfl ?_
    exact f_X8_keep_l14_ok h41 O N N _ _ _ e
  · refine v_bipush (v := (-2)) O dX8_keep_9 (by decide) ?_
    exact v_iret O dX8_keep_11 e
