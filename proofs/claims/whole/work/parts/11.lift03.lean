/-! ===== X6 number ===== -/
abbrev rm_X6_number : Room := { frames := 1, cells := 0, slots := 0, locals := 20 }
theorem fd_X6_number_9 : FdO wsX6_number RX6 9 RX6 TX6 4 6 0 := ⟨by decide +kernel, rfl, by decide, by decide +kernel⟩
theorem fd_X6_number_19 : FdO wsX6_number RX6 19 RX6 TX6 4 6 2 := ⟨by decide +kernel, rfl, by decide, by decide +kernel⟩
theorem fd_X6_number_22 : FdO wsX6_number RX6 22 RX6 TX6 4 6 3 := ⟨by decide +kernel, rfl, by decide, by decide +kernel⟩
theorem cw_X6_number_X6_isDigit : CwO rm_X6_number yX6_isDigit wsX6_isDigit cX6_isDigit 1 (some .boolean) rm_X6_isDigit 1 := ⟨⟨_, rfl⟩, rfl, rfl, by decide +kernel, by decide, by decide⟩
theorem cw_X6_number_X6_isOver : CwO rm_X6_number yX6_isOver wsX6_isOver cX6_isOver 1 (some .boolean) rm_X6_isOver 0 := ⟨⟨_, rfl⟩, rfl, rfl, by decide +kernel, by decide, by decide⟩
set_option maxRecDepth 20000 in
theorem f_X6_number_b35_ok {X : Cx} {G : Gx} {z : Rs} (O : Ok X G cX6_number RX6 3 wsX6_number (some .int) rm_X6_number) (N : Nat) (h : Hp) (e : f_X6_number_b35 N h = some z) : V X G 3 (QI X G z) h 35 [] [] := by
  unfold f_X6_number_b35 at e
  refine v_iconst (v := (-1)) O dX6_number_35 (by decide) ?_
  exact v_iret O dX6_number_36 e
set_option maxRecDepth 20000 in
theorem f_X6_number_b44_ok {X : Cx} {G : Gx} {z : Rs} (O : Ok X G cX6_number RX6 3 wsX6_number (some .int) rm_X6_number) (N : Nat) (k44 : Int32 → Int32 → Hp → Option Rs) (hk44 : ∀ (v1 : Int32) (v2 : Int32) (h : Hp), k44 v1 v2 h = some z → V X G 3 (QI X G z) h 44 [(0, .ref (G.1 4)), (1, .int v1), (2, .int v2)] []) (v1 : Int32) (v2 : Int32) (h : Hp) (e : f_X6_number_b44 N k44 v1 v2 h = some z) : V X G 3 (QI X G z) h 44 [(0, .ref (G.1 4)), (1, .int v1), (2, .int v2)] [] := by
  unfold f_X6_number_b44 at e
  refine v_iload_n O dX6_number_44 2 rfl rfl ?_
  refine v_aload_n O dX6_number_45 0 rfl rfl ?_
  refine v_get O fd_X6_number_22 (g25 O (by decide)) (cg_4 G _) rfl dX6_number_46 ?_
  refine v_icmp_ge O dX6_number_49 73 (by decide) e (fun e => ?_) (fun e => ?_)
  · refine v_iload_n O dX6_number_73 1 rfl rfl ?_
    exact v_iret O dX6_number_74 e
  · refine v_iload_n O dX6_number_52 1 rfl rfl ?_
    refine v_bipush (v := 10) O dX6_number_53 (by decide) ?_
    refine v_imul O dX6_number_55 ?_
    refine v_aload_n O dX6_number_56 0 rfl rfl ?_
    refine v_get O fd_X6_number_9 (g25 O (by decide)) (cg_4 G _) rfl dX6_number_57 ?_
    refine v_iload_n O dX6_number_60 2 rfl rfl ?_
    refine v_iald O (g25 O (by decide)) (cg_5 G _) dX6_number_61 e (fun e => ?_)
    refine v_iadd O dX6_number_62 ?_
    refine v_bipush (v := 48) O dX6_number_63 (by decide) ?_
    refine v_isub O dX6_number_65 ?_
    refine v_istore_n O dX6_number_66 rfl (by decide) (fun x1 => [(1, .int x1), (0, .ref (G.1 4)), (2, .int v2)]) (fun _ => rfl) e (fun x1 e => ?_)
    refine v_iinc (v := 1) O dX6_number_67 2 rfl (by decide) (by decide) (fun x2 => [(2, .int x2), (1, .int x1), (0, .ref (G.1 4))]) (fun _ => rfl) e (fun x2 e => ?_)
    refine v_goto O dX6_number_70 44 (by decide) ?_
    refine v_sub [2, 1, 0] rfl ?_
    exact hk44 _ _ _ e
theorem f_X6_number_l44_ok {X : Cx} {G : Gx} {z : Rs} (O : Ok X G cX6_number RX6 3 wsX6_number (some .int) rm_X6_number) (N : Nat) : ∀ (n : Nat) (v1 : Int32) (v2 : Int32) (h : Hp), f_X6_number_l44 N n v1 v2 h = some z → V X G 3 (QI X G z) h 44 [(0, .ref (G.1 4)), (1, .int v1), (2, .int v2)] [] := by
  intro n
  induction n with
  | zero => intro v1 v2 h e; cases e
  | succ n ih => intro v1 v2 h e; exact f_X6_number_b44_ok O N _ ih v1 v2 h e
set_option maxRecDepth 20000 in
theorem f_X6_number_ok {l : Launch} {G : Gx} {N : Nat} {h : Hp} {z : Rs} (e : f_X6_number N h = some z) : CI l G yX6_number wsX6_number rm_X6_number [.ref (G.1 4)] h z := by
  refine m_int _ (by decide) rfl [(0, .ref (G.1 4))] rfl (Nat.le_of_ble_eq_true rfl) (fun X O => ?_)
  unfold f_X6_number at e
  refine v_aload_n O dX6_number_0 0 rfl rfl ?_
  refine v_cVi O [] [] gX6_number_X6_isOver cw_X6_number_X6_isOver rfl rfl (g25 O (by decide)) (cg_4 G _) rfl rfl (Nat.le_of_ble_eq_true rfl) dX6_number_1 e (fun _ e9 => f_X6_isOver_ok e9) (fun r1 h2 e => ?_)
  refine v_if_ne O dX6_number_4 35 (by decide) e (fun e => ?_) (fun e => ?_)
  · refine v_sub [] rfl ?_
    exact f_X6_number_b35_ok O N _ e
  · refine v_aload_n O dX6_number_7 0 rfl rfl ?_
    refine v_get O fd_X6_number_9 (g25 O (by decide)) (cg_4 G _) rfl dX6_number_8 ?_
    refine v_aload_n O dX6_number_11 0 rfl rfl ?_
    refine v_get O fd_X6_number_19 (g25 O (by decide)) (cg_4 G _) rfl dX6_number_12 ?_
    refine v_iald O (g25 O (by decide)) (cg_5 G _) dX6_number_15 e (fun e => ?_)
    refine v_cSi O [.int (h2.1 5 (ix (h2.1 4 2)))] [] gX6_number_X6_isDigit cw_X6_number_X6_isDigit rfl rfl (Nat.le_of_ble_eq_true rfl) dX6_number_16 e (fun _ e9 => f_X6_isDigit_ok e9) (fun r3 h4 e => ?_)
    refine v_if_eq O dX6_number_19 35 (by decide) e (fun e => ?_) (fun e => ?_)
    · refine v_sub [] rfl ?_
      exact f_X6_number_b35_ok O N _ e
    · refine v_aload_n O dX6_number_22 0 rfl rfl ?_
      refine v_get O fd_X6_number_22 (g25 O (by decide)) (cg_4 G _) rfl dX6_number_23 ?_
      refine v_aload_n O dX6_number_26 0 rfl rfl ?_
      refine v_get O fd_X6_number_19 (g25 O (by decide)) (cg_4 G _) rfl dX6_number_27 ?_
      refine v_isub O dX6_number_30 ?_
      refine v_iconst (v := 2) O dX6_number_31 (by decide) ?_
      refine v_icmp_le O dX6_number_32 37 (by decide) e (fun e => ?_) (fun e => ?_)
      · refine v_iconst (v := 0) O dX6_number_37 (by decide) ?_
        refine v_istore_n O dX6_number_38 rfl (by decide) (fun x5 => [(1, .int x5), (0, .ref (G.1 4))]) (fun _ => rfl) e (fun x5 e => ?_)
        refine v_aload_n O dX6_number_39 1 rfl rfl ?_
        refine v_get O fd_X6_number_19 (g25 O (by decide)) (cg_4 G _) rfl dX6_number_40 ?_
        refine v_istore_n O dX6_number_43 rfl (by decide) (fun x6 => [(2, .int x6), (1, .int x5), (0, .ref (G.1 4))]) (fun _ => rfl) e (fun x6 e => ?_)
        refine v_sub [2, 1, 0] rfl ?_
        exact f_X6_number_l44_ok O N N _ _ _ e
      · refine v_sub [] rfl ?_
        exact f_X6_number_b35_ok O N _ e
/-! ===== X3 readNumber ===== -/
abbrev rm_X3_readNumber : Room := { frames := 3, cells := 0, slots := 0, locals := 61 }
theorem fd_X3_readNumber_18 : FdO wsX3_readNumber RX3 18 RX3 TX3 4 3 3 := ⟨by decide +kernel, rfl, by decide, by decide +kernel⟩
theorem fd_X3_readNumber_26 : FdO wsX3_readNumber RX3 26 RX3 TX3 4 3 1 := ⟨by decide +kernel, rfl, by decide, by decide +kernel⟩
theorem cw_X3_readNumber_X3_refuseIf : CwO rm_X3_readNumber yX3_refuseIf wsX3_refuseIf cX3_refuseIf 2 (none) rm_X3_refuseIf 1 := ⟨⟨_, rfl⟩, rfl, rfl, by decide +kernel, by decide, by decide⟩
theorem cw_X3_readNumber_X6_next : CwO rm_X3_readNumber yX6_next wsX6_next cX6_next 1 (none) rm_X6_next 0 := ⟨⟨_, rfl⟩, rfl, rfl, by decide +kernel, by decide, by decide⟩
theorem cw_X3_readNumber_X6_number : CwO rm_X3_readNumber yX6_number wsX6_number cX6_number 3 (some .int) rm_X6_number 0 := ⟨⟨_, rfl⟩, rfl, rfl, by decide +kernel, by decide, by decide⟩
set_option maxRecDepth 20000 in
theorem f_X3_readNumber_b41_ok {X : Cx} {G : Gx} {z : Rs} (O : Ok X G cX3_readNumber RX3 4 wsX3_readNumber (some .int) rm_X3_readNumber) (N : Nat) (v3 : Int32) (s0 : Int32) (h : Hp) (e : f_X3_readNumber_b41 N v3 s0 h = some z) : V X G 4 (QI X G z) h 41 [(3, .int v3)] [.int s0, .ref (G.1 6)] := by
  unfold f_X3_readNumber_b41 at e
  refine v_cVv O [.int s0] [] gX3_readNumber_X3_refuseIf cw_X3_readNumber_X3_refuseIf rfl rfl (g25 O (by decide)) (cg_6 G _) rfl rfl (Nat.le_of_ble_eq_true rfl) dX3_readNumber_41 e (fun _ e9 => f_X3_refuseIf_ok e9) (fun _ h1 e => ?_)
  refine v_iload_n O dX3_readNumber_44 0 rfl rfl ?_
  exact v_iret O dX3_readNumber_45 e
set_option maxRecDepth 20000 in
theorem f_X3_readNumber_b36_ok {X : Cx} {G : Gx} {z : Rs} (O : Ok X G cX3_readNumber RX3 4 wsX3_readNumber (some .int) rm_X3_readNumber) (N : Nat) (v3 : Int32) (h : Hp) (e : f_X3_readNumber_b36 N v3 h = some z) : V X G 4 (QI X G z) h 36 [(3, .int v3)] [.ref (G.1 6)] := by
  unfold f_X3_readNumber_b36 at e
  refine v_iconst (v := 1) O dX3_readNumber_36 (by decide) ?_
  refine v_goto O dX3_readNumber_37 41 (by decide) ?_
  exact f_X3_readNumber_b41_ok O N _ _ _ e
set_option maxRecDepth 20000 in
theorem f_X3_readNumber_ok {l : Launch} {G : Gx} {N : Nat} {a0 : Int32} {a1 : Int32} {h : Hp} {z : Rs} (e : f_X3_readNumber N a0 a1 h = some z) : CI l G yX3_readNumber wsX3_readNumber rm_X3_readNumber [.ref (G.1 6), .int a0, .int a1] h z := by
  refine m_int _ (by decide) rfl [(0, .ref (G.1 6)), (1, .int a0), (2, .int a1)] rfl (Nat.le_of_ble_eq_true rfl) (fun X O => ?_)
  unfold f_X3_readNumber at e
  refine v_aload_n O dX3_readNumber_0 0 rfl rfl ?_
  refine v_get O fd_X3_readNumber_26 (g25 O (by decide)) (cg_6 G _) rfl dX3_readNumber_1 ?_
  refine v_iconst (v := (-1)) O dX3_readNumber_4 (by decide) ?_
  refine v_icmp_eq O dX3_readNumber_5 10 (by decide) e (fun e => ?_) (fun e => ?_)
  · refine v_aload_n O dX3_readNumber_10 0 rfl rfl ?_
    refine v_get O fd_X3_readNumber_18 (g25 O (by decide)) (cg_6 G _) rfl dX3_readNumber_11 ?_
    refine v_cVv O [] [] gX3_readNumber_X6_next cw_X3_readNumber_X6_next rfl rfl (g25 O (by decide)) (cg_4 G _) rfl rfl (Nat.le_of_ble_eq_true rfl) dX3_readNumber_14 e (fun _ e9 => f_X6_next_ok e9) (fun _ h1 e => ?_)
    refine v_aload_n O dX3_readNumber_17 0 rfl rfl ?_
    refine v_get O fd_X3_readNumber_18 (g25 O (by decide)) (cg_6 G _) rfl dX3_readNumber_18 ?_
    refine v_cVi O [] [] gX3_readNumber_X6_number cw_X3_readNumber_X6_number rfl rfl (g25 O (by decide)) (cg_4 G _) rfl rfl (Nat.le_of_ble_eq_true rfl) dX3_readNumber_21 e (fun _ e9 => f_X6_number_ok e9) (fun r2 h3 e => ?_)
    refine v_istore_n O dX3_readNumber_24 rfl (by decide) (fun x4 => [(3, .int x4), (0, .ref (G.1 6)), (1, .int a0), (2, .int a1)]) (fun _ => rfl) e (fun x4 e => ?_)
    refine v_aload_n O dX3_readNumber_25 1 rfl rfl ?_
    refine v_iload_n O dX3_readNumber_26 0 rfl rfl ?_
    refine v_iload_n O dX3_readNumber_27 2 rfl rfl ?_
    refine v_icmp_lt O dX3_readNumber_28 36 (by decide) e (fun e => ?_) (fun e => ?_)
    · refine v_sub [0] rfl ?_
      exact f_X3_readNumber_b36_ok O N _ _ e
    · refine v_iload_n O dX3_readNumber_31 0 rfl rfl ?_
      refine v_iload_n O dX3_readNumber_32 3 rfl rfl ?_
      refine v_icmp_le O dX3_readNumber_33 40 (by decide) e (fun e => ?_) (fun e => ?_)
      · refine v_iconst (v := 0) O dX3_readNumber_40 (by decide) ?_
        refine v_sub [0] rfl ?_
        exact f_X3_readNumber_b41_ok O N _ _ _ e
      · refine v_sub [0] rfl ?_
        exact f_X3_readNumber_b36_ok O N _ _ e
  · refine v_iload_n O dX3_readNumber_8 1 rfl rfl ?_
    exact v_iret O dX3_readNumber_9 e
/-! ===== X3 readHole ===== -/
abbrev rm_X3_readHole : Room := { frames := 4, cells := 0, slots := 0, locals := 84 }
theorem fd_X3_readHole_12 : FdO wsX3_readHole RX3 12 RX3 TX3 4 3 0 := ⟨by decide +kernel, rfl, by decide, by decide +kernel⟩
theorem fd_X3_readHole_26 : FdO wsX3_readHole RX3 26 RX3 TX3 4 3 1 := ⟨by decide +kernel, rfl, by decide, by decide +kernel⟩
theorem fd_X3_readHole_113 : FdO wsX3_readHole RX3 113 RX5 TX5 9 5 5 := ⟨by decide +kernel, rfl, by decide, by decide +kernel⟩
theorem fd_X3_readHole_119 : FdO wsX3_readHole RX3 119 RX5 TX5 9 5 6 := ⟨by decide +kernel, rfl, by decide, by decide +kernel⟩
theorem fd_X3_readHole_122 : FdO wsX3_readHole RX3 122 RX5 TX5 9 5 2 := ⟨by decide +kernel, rfl, by decide, by decide +kernel⟩
theorem cw_X3_readHole_X3_isHole : CwO rm_X3_readHole yX3_isHole wsX3_isHole cX3_isHole 2 (some .boolean) rm_X3_isHole 1 := ⟨⟨_, rfl⟩, rfl, rfl, by decide +kernel, by decide, by decide⟩
theorem cw_X3_readHole_X3_readNumber : CwO rm_X3_readHole yX3_readNumber wsX3_readNumber cX3_readNumber 4 (some .int) rm_X3_readNumber 2 := ⟨⟨_, rfl⟩, rfl, rfl, by decide +kernel, by decide, by decide⟩
theorem cw_X3_readHole_X3_refuseIf : CwO rm_X3_readHole yX3_refuseIf wsX3_refuseIf cX3_refuseIf 2 (none) rm_X3_refuseIf 1 := ⟨⟨_, rfl⟩, rfl, rfl, by decide +kernel, by decide, by decide⟩
theorem cw_X3_readHole_X5_manOf : CwO rm_X3_readHole yX5_manOf wsX5_manOf cX5_manOf 4 (some .int) rm_X5_manOf 2 := ⟨⟨_, rfl⟩, rfl, rfl, by decide +kernel, by decide, by decide⟩
theorem cw_X3_readHole_X5_squares : CwO rm_X3_readHole yX5_squares wsX5_squares cX5_squares 1 (some .int) rm_X5_squares 0 := ⟨⟨_, rfl⟩, rfl, rfl, by decide +kernel, by decide, by decide⟩
set_option maxRecDepth 20000 in
theorem f_X3_readHole_b103_ok {X : Cx} {G : Gx} {z : Rs} (O : Ok X G cX3_readHole RX3 2 wsX3_readHole (none) rm_X3_readHole) (N : Nat) (h : Hp) (e : f_X3_readHole_b103 N h = some z) : V X G 2 (QV X G z) h 103 [] [] := by
  unfold f_X3_readHole_b103 at e
  exact v_vret O dX3_readHole_103 e
set_option maxRecDepth 20000 in
theorem f_X3_readHole_b77_ok {X : Cx} {G : Gx} {z : Rs} (O : Ok X G cX3_readHole RX3 2 wsX3_readHole (none) rm_X3_readHole) (N : Nat) (v1 : Int32) (s0 : Int32) (h : Hp) (e : f_X3_readHole_b77 N v1 s0 h = some z) : V X G 2 (QV X G z) h 77 [(0, .ref (G.1 6)), (1, .int v1)] [.int s0, .ref (G.1 6)] := by
  unfold f_X3_readHole_b77 at e
  refine v_cVv O [.int s0] [] gX3_readHole_X3_refuseIf cw_X3_readHole_X3_refuseIf rfl rfl (g25 O (by decide)) (cg_6 G _) rfl rfl (Nat.le_of_ble_eq_true rfl) dX3_readHole_77 e (fun _ e9 => f_X3_refuseIf_ok e9) (fun _ h1 e => ?_)
  refine v_aload_n O dX3_readHole_80 0 rfl rfl ?_
  refine v_get O fd_X3_readHole_26 (g25 O (by decide)) (cg_6 G _) rfl dX3_readHole_81 ?_
  refine v_iconst (v := (-1)) O dX3_readHole_84 (by decide) ?_
  refine v_icmp_ne O dX3_readHole_85 103 (by decide) e (fun e => ?_) (fun e => ?_)
  · refine v_sub [] rfl ?_
    exact f_X3_readHole_b103_ok O N _ e
  · refine v_aload_n O dX3_readHole_88 0 rfl rfl ?_
    refine v_get O fd_X3_readHole_12 (g25 O (by decide)) (cg_6 G _) rfl dX3_readHole_89 ?_
    refine v_dup O dX3_readHole_92 rfl ?_
    refine v_get O fd_X3_readHole_122 (g25 O (by decide)) (cg_7 G _) rfl dX3_readHole_93 ?_
    refine v_iconst (v := 1) O dX3_readHole_96 (by decide) ?_
    refine v_iload_n O dX3_readHole_97 1 rfl rfl ?_
    refine v_ishl O dX3_readHole_98 ?_
    refine v_ior O dX3_readHole_99 ?_
    refine v_put O fd_X3_readHole_122 fp_X5_2 (g25 O (by decide)) (cg_7 G _) (Nat.le_of_ble_eq_true rfl) (cs_7_2 G _ _) dX3_readHole_100 e (fun h2 e => ?_)
    refine v_sub [] rfl ?_
    exact f_X3_readHole_b103_ok O N _ e
set_option maxRecDepth 20000 in
theorem f_X3_readHole_b49_ok {X : Cx} {G : Gx} {z : Rs} (O : Ok X G cX3_readHole RX3 2 wsX3_readHole (none) rm_X3_readHole) (N : Nat) (v1 : Int32) (s0 : Int32) (h : Hp) (e : f_X3_readHole_b49 N v1 s0 h = some z) : V X G 2 (QV X G z) h 49 [(0, .ref (G.1 6)), (1, .int v1)] [.int s0, .ref (G.1 6)] := by
  unfold f_X3_readHole_b49 at e
  refine v_cVv O [.int s0] [] gX3_readHole_X3_refuseIf cw_X3_readHole_X3_refuseIf rfl rfl (g25 O (by decide)) (cg_6 G _) rfl rfl (Nat.le_of_ble_eq_true rfl) dX3_readHole_49 e (fun _ e9 => f_X3_refuseIf_ok e9) (fun _ h1 e => ?_)
  refine v_aload_n O dX3_readHole_52 0 rfl rfl ?_
  refine v_aload_n O dX3_readHole_53 0 rfl rfl ?_
  refine v_get O fd_X3_readHole_12 (g25 O (by decide)) (cg_6 G _) rfl dX3_readHole_54 ?_
  refine v_aload_n O dX3_readHole_57 0 rfl rfl ?_
  refine v_get O fd_X3_readHole_12 (g25 O (by decide)) (cg_6 G _) rfl dX3_readHole_58 ?_
  refine v_get O fd_X3_readHole_119 (g25 O (by decide)) (cg_7 G _) rfl dX3_readHole_61 ?_
  refine v_iload_n O dX3_readHole_64 1 rfl rfl ?_
  refine v_cVi O [.int (h1.1 7 6), .int v1] [.ref (G.1 6)] gX3_readHole_X5_manOf cw_X3_readHole_X5_manOf rfl rfl (g25 O (by decide)) (cg_7 G _) rfl rfl (Nat.le_of_ble_eq_true rfl) dX3_readHole_65 e (fun _ e9 => f_X5_manOf_ok_7 e9) (fun r2 h3 e => ?_)
  refine v_iconst (v := (-1)) O dX3_readHole_68 (by decide) ?_
  refine v_icmp_eq O dX3_readHole_69 76 (by decide) e (fun e => ?_) (fun e => ?_)
  · refine v_iconst (v := 0) O dX3_readHole_76 (by decide) ?_
    exact f_X3_readHole_b77_ok O N _ _ _ e
  · refine v_iconst (v := 1) O dX3_readHole_72 (by decide) ?_
    refine v_goto O dX3_readHole_73 77 (by decide) ?_
    exact f_X3_readHole_b77_ok O N _ _ _ e
set_option maxRecDepth 20000 in
theorem f_X3_readHole_ok {l : Launch} {G : Gx} {N : Nat} {h : Hp} {z : Rs} (e : f_X3_readHole N h = some z) : CV l G yX3_readHole wsX3_readHole rm_X3_readHole [.ref (G.1 6)] h z := by
  refine m_void _ (by decide) rfl [(0, .ref (G.1 6))] rfl (Nat.le_of_ble_eq_true rfl) (fun X O => ?_)
  unfold f_X3_readHole at e
  refine v_aload_n O dX3_readHole_0 0 rfl rfl ?_
  refine v_iconst (v := 0) O dX3_readHole_1 (by decide) ?_
  refine v_aload_n O dX3_readHole_2 0 rfl rfl ?_
  refine v_get O fd_X3_readHole_12 (g25 O (by decide)) (cg_6 G _) rfl dX3_readHole_3 ?_
  refine v_cVi O [] [.int 0, .ref (G.1 6)] gX3_readHole_X5_squares cw_X3_readHole_X5_squares rfl rfl (g25 O (by decide)) (cg_7 G _) rfl rfl (Nat.le_of_ble_eq_true rfl) dX3_readHole_6 e (fun _ e9 => f_X5_squares_ok_7 e9) (fun r1 h2 e => ?_)
  refine v_iconst (v := 1) O dX3_readHole_9 (by decide) ?_
  refine v_isub O dX3_readHole_10 ?_
  refine v_cVi O [.int 0, .int (r1 - 1)] [] gX3_readHole_X3_readNumber cw_X3_readHole_X3_readNumber rfl rfl (g25 O (by decide)) (cg_6 G _) rfl rfl (Nat.le_of_ble_eq_true rfl) dX3_readHole_11 e (fun _ e9 => f_X3_readNumber_ok e9) (fun r3 h4 e => ?_)
  refine v_istore_n O dX3_readHole_14 rfl (by decide) (fun x5 => [(1, .int x5), (0, .ref (G.1 6))]) (fun _ => rfl) e (fun x5 e => ?_)
  refine v_aload_n O dX3_readHole_15 1 rfl rfl ?_
  refine v_aload_n O dX3_readHole_16 1 rfl rfl ?_
  refine v_iload_n O dX3_readHole_17 0 rfl rfl ?_
  refine v_cVi O [.int x5] [.ref (G.1 6)] gX3_readHole_X3_isHole cw_X3_readHole_X3_isHole rfl rfl (g25 O (by decide)) (cg_6 G _) rfl rfl (Nat.le_of_ble_eq_true rfl) dX3_readHole_18 e (fun _ e9 => f_X3_isHole_ok e9) (fun r6 h7 e => ?_)
  refine v_cVv O [.int r6] [] gX3_readHole_X3_refuseIf cw_X3_readHole_X3_refuseIf rfl rfl (g25 O (by decide)) (cg_6 G _) rfl rfl (Nat.le_of_ble_eq_true rfl) dX3_readHole_21 e (fun _ e9 => f_X3_refuseIf_ok e9) (fun _ h8 e => ?_)
  refine v_aload_n O dX3_readHole_24 1 rfl rfl ?_
  refine v_aload_n O dX3_readHole_25 1 rfl rfl ?_
  refine v_get O fd_X3_readHole_12 (g25 O (by decide)) (cg_6 G _) rfl dX3_readHole_26 ?_
  refine v_aload_n O dX3_readHole_29 1 rfl rfl ?_
  refine v_get O fd_X3_readHole_12 (g25 O (by decide)) (cg_6 G _) rfl dX3_readHole_30 ?_
  refine v_get O fd_X3_readHole_113 (g25 O (by decide)) (cg_7 G _) rfl dX3_readHole_33 ?_
  refine v_iload_n O dX3_readHole_36 0 rfl rfl ?_
  refine v_cVi O [.int (h8.1 7 5), .int x5] [.ref (G.1 6)] gX3_readHole_X5_manOf cw_X3_readHole_X5_manOf rfl rfl (g25 O (by decide)) (cg_7 G _) rfl rfl (Nat.le_of_ble_eq_true rfl) dX3_readHole_37 e (fun _ e9 => f_X5_manOf_ok_7 e9) (fun r9 h10 e => ?_)
  refine v_iconst (v := (-1)) O dX3_readHole_40 (by decide) ?_
  refine v_icmp_eq O dX3_readHole_41 48 (by decide) e (fun e => ?_) (fun e => ?_)
  · refine v_iconst (v := 0) O dX3_readHole_48 (by decide) ?_
    refine v_sub [1, 0] rfl ?_
    exact f_X3_readHole_b49_ok O N _ _ _ e
  · refine v_iconst (v := 1) O dX3_readHole_44 (by decide) ?_
    refine v_goto O dX3_readHole_45 49 (by decide) ?_
    refine v_sub [1, 0] rfl ?_
    exact f_X3_readHole_b49_ok O N _ _ _ e
/-! ===== X5 addMan ===== -/
abbrev rm_X5_addMan : Room := { frames := 1, cells := 0, slots := 0, locals := 22 }
theorem fd_X5_addMan_9 : FdO wsX5_addMan RX5 9 RX5 TX5 9 5 7 := ⟨by decide +kernel, rfl, by decide, by decide +kernel⟩
theorem fd_X5_addMan_15 : FdO wsX5_addMan RX5 15 RX5 TX5 9 5 8 := ⟨by decide +kernel, rfl, by decide, by decide +kernel⟩
theorem fd_X5_addMan_34 : FdO wsX5_addMan RX5 34 RX5 TX5 9 5 4 := ⟨by decide +kernel, rfl, by decide, by decide +kernel⟩
theorem fd_X5_addMan_37 : FdO wsX5_addMan RX5 37 RX5 TX5 9 5 5 := ⟨by decide +kernel, rfl, by decide, by decide +kernel⟩
theorem fd_X5_addMan_40 : FdO wsX5_addMan RX5 40 RX5 TX5 9 5 6 := ⟨by decide +kernel, rfl, by decide, by decide +kernel⟩
theorem cw_X5_addMan_X7_moved : CwO rm_X5_addMan yX7_moved wsX7_moved cX7_moved 3 (some .int) rm_X7_moved 3 := ⟨⟨_, rfl⟩, rfl, rfl, by decide +kernel, by decide, by decide⟩
theorem sn_X5_addMan_X7_moved : Cond.static yX7_moved ∈ wsX5_addMan ∧ Cond.initialized yX7_moved.cls ∈ wsX5_addMan := ⟨by decide +kernel, by decide +kernel⟩
set_option maxRecDepth 20000 in
theorem f_X5_addMan_ok_1 {l : Launch} {G : Gx} {N : Nat} {a0 : Int32} {a1 : Int32} {a2 : Int32} {a3 : Int32} {h : Hp} {z : Rs} (e : f_X5_addMan 1 N a0 a1 a2 a3 h = some z) : CV l G yX5_addMan wsX5_addMan rm_X5_addMan [.ref (G.1 1), .int a0, .int a1, .int a2, .int a3] h z := by
  refine m_void _ (by decide) rfl [(0, .ref (G.1 1)), (1, .int a0), (2, .int a1), (3, .int a2), (4, .int a3)] rfl (Nat.le_of_ble_eq_true rfl) (fun X O => ?_)
  unfold f_X5_addMan at e
  refine v_aload_n O dX5_addMan_0 0 rfl rfl ?_
  refine v_get O fd_X5_addMan_34 (g25 O (by decide)) (cg_1 G _) rfl dX5_addMan_1 ?_
  refine v_iconst (v := 4) O dX5_addMan_4 (by decide) ?_
  refine v_icmp_lt O dX5_addMan_5 9 (by decide) e (fun e => ?_) (fun e => ?_)
  · refine v_aload_n O dX5_addMan_9 0 rfl rfl ?_
    refine v_get O fd_X5_addMan_9 (g25 O (by decide)) (cg_1 G _) rfl dX5_addMan_10 ?_
    refine v_aload_n O dX5_addMan_13 0 rfl rfl ?_
    refine v_get O fd_X5_addMan_34 (g25 O (by decide)) (cg_1 G _) rfl dX5_addMan_14 ?_
    refine v_iload_n O dX5_addMan_17 1 rfl rfl ?_
    refine v_iast O (g25 O (by decide)) (cg_2 G _) (cw_2 G _ _ _) dX5_addMan_18 e (fun h1 e => ?_)
    refine v_aload_n O dX5_addMan_19 0 rfl rfl ?_
    refine v_get O fd_X5_addMan_15 (g25 O (by decide)) (cg_1 G _) rfl dX5_addMan_20 ?_
    refine v_aload_n O dX5_addMan_23 0 rfl rfl ?_
    refine v_get O fd_X5_addMan_34 (g25 O (by decide)) (cg_1 G _) rfl dX5_addMan_24 ?_
    refine v_iload_n O dX5_addMan_27 2 rfl rfl ?_
    refine v_iast O (g25 O (by decide)) (cg_3 G _) (cw_3 G _ _ _) dX5_addMan_28 e (fun h2 e => ?_)
    refine v_aload_n O dX5_addMan_29 0 rfl rfl ?_
    refine v_aload_n O dX5_addMan_30 0 rfl rfl ?_
    refine v_get O fd_X5_addMan_37 (g25 O (by decide)) (cg_1 G _) rfl dX5_addMan_31 ?_
    refine v_aload_n O dX5_addMan_34 0 rfl rfl ?_
    refine v_get O fd_X5_addMan_34 (g25 O (by decide)) (cg_1 G _) rfl dX5_addMan_35 ?_
    refine v_iload_n O dX5_addMan_38 3 rfl rfl ?_
    refine v_cNi O [.int (h2.1 1 5), .int (h2.1 1 4), .int a2] [.ref (G.1 1)] 10 rfl gX5_addMan_X7_moved_n43 sn_X5_addMan_X7_moved.1 sn_X5_addMan_X7_moved.2 cw_X5_addMan_X7_moved rfl rfl (Nat.le_of_ble_eq_true rfl) dX5_addMan_39 e (fun _ e9 => f_X7_moved_ok e9) (fun r3 h4 e => ?_)
    refine v_put O fd_X5_addMan_37 fp_X5_5 (g25 O (by decide)) (cg_1 G _) (Nat.le_of_ble_eq_true rfl) (cs_1_5 G _ _) dX5_addMan_42 e (fun h5 e => ?_)
    refine v_aload_n O dX5_addMan_45 0 rfl rfl ?_
    refine v_aload_n O dX5_addMan_46 0 rfl rfl ?_
    refine v_get O fd_X5_addMan_40 (g25 O (by decide)) (cg_1 G _) rfl dX5_addMan_47 ?_
    refine v_aload_n O dX5_addMan_50 0 rfl rfl ?_
    refine v_get O fd_X5_addMan_34 (g25 O (by decide)) (cg_1 G _) rfl dX5_addMan_51 ?_
    refine v_iload O dX5_addMan_54 4 rfl ?_
    refine v_cNi O [.int (h5.1 1 6), .int (h5.1 1 4), .int a3] [.ref (G.1 1)] 10 rfl gX5_addMan_X7_moved_n43 sn_X5_addMan_X7_moved.1 sn_X5_addMan_X7_moved.2 cw_X5_addMan_X7_moved rfl rfl (Nat.le_of_ble_eq_true rfl) dX5_addMan_56 e (fun _ e9 => f_X7_moved_ok e9) (fun r6 h7 e => ?_)
    refine v_put O fd_X5_addMan_40 fp_X5_6 (g25 O (by decide)) (cg_1 G _) (Nat.le_of_ble_eq_true rfl) (cs_1_6 G _ _) dX5_addMan_59 e (fun h8 e => ?_)
    refine v_aload_n O dX5_addMan_62 0 rfl rfl ?_
    refine v_dup O dX5_addMan_63 rfl ?_
    refine v_get O fd_X5_addMan_34 (g25 O (by decide)) (cg_1 G _) rfl dX5_addMan_64 ?_
    refine v_iconst (v := 1) O dX5_addMan_67 (by decide) ?_
    refine v_iadd O dX5_addMan_68 ?_
    refine v_put O fd_X5_addMan_34 fp_X5_4 (g25 O (by decide)) (cg_1 G _) (Nat.le_of_ble_eq_true rfl) (cs_1_4 G _ _) dX5_addMan_69 e (fun h9 e => ?_)
    exact v_vret O dX5_addMan_72 e
  · exact v_vret O dX5_addMan_8 e
set_option maxRecDepth 20000 in
theorem f_X5_addMan_ok_7 {l : Launch} {G : Gx} {N : Nat} {a0 : Int32} {a1 : Int32} {a2 : Int32} {a3 : Int32} {h : Hp} {z : Rs} (e : f_X5_addMan 7 N a0 a1 a2 a3 h = some z) : CV l G yX5_addMan wsX5_addMan rm_X5_addMan [.ref (G.1 7), .int a0, .int a1, .int a2, .int a3] h z := by
  refine m_void _ (by decide) rfl [(0, .ref (G.1 7)), (1, .int a0), (2, .int a1), (3, .int a2), (4, .int a3)] rfl (Nat.le_of_ble_eq_true rfl) (fun X O => ?_)
  unfold f_X5_addMan at e
  refine v_aload_n O dX5_addMan_0 0 rfl rfl ?_
  refine v_get O fd_X5_addMan_34 (g25 O (by decide)) (cg_7 G _) rfl dX5_addMan_1 ?_
  refine v_iconst (v := 4) O dX5_addMan_4 (by decide) ?_
  refine v_icmp_lt O dX5_addMan_5 9 (by decide) e (fun e => ?_) (fun e => ?_)
  · refine v_aload_n O dX5_addMan_9 0 rfl rfl ?_
    refine v_get O fd_X5_addMan_9 (g25 O (by decide)) (cg_7 G _) rfl dX5_addMan_10 ?_
    refine v_aload_n O dX5_addMan_13 0 rfl rfl ?_
    refine v_get O fd_X5_addMan_34 (g25 O (by decide)) (cg_7 G _) rfl dX5_addMan_14 ?_
    refine v_iload_n O dX5_addMan_17 1 rfl rfl ?_
    refine v_iast O (g25 O (by decide)) (cg_8 G _) (cw_8 G _ _ _) dX5_addMan_18 e (fun h1 e => ?_)
    refine v_aload_n O dX5_addMan_19 0 rfl rfl ?_
    refine v_get O fd_X5_addMan_15 (g25 O (by decide)) (cg_7 G _) rfl dX5_addMan_20 ?_
    refine v_aload_n O dX5_addMan_23 0 rfl rfl ?_
    refine v_get O fd_X5_addMan_34 (g25 O (by decide)) (cg_7 G _) rfl dX5_addMan_24 ?_
    refine v_iload_n O dX5_addMan_27 2 rfl rfl ?_
    refine v_iast O (g25 O (by decide)) (cg_9 G _) (cw_9 G _ _ _) dX5_addMan_28 e (fun h2 e => ?_)
    refine v_aload_n O dX5_addMan_29 0 rfl rfl ?_
    refine v_aload_n O dX5_addMan_30 0 rfl rfl ?_
    refine v_get O fd_X5_addMan_37 (g25 O (by decide)) (cg_7 G _) rfl dX5_addMan_31 ?_
    refine v_aload_n O dX5_addMan_34 0 rfl rfl ?_
    refine v_get O fd_X5_addMan_34 (g25 O (by decide)) (cg_7 G _) rfl dX5_addMan_35 ?_
    refine v_iload_n O dX5_addMan_38 3 rfl rfl ?_
    refine v_cNi O [.int (h2.1 7 5), .int (h2.1 7 4), .int a2] [.ref (G.1 7)] 10 rfl gX5_addMan_X7_moved_n43 sn_X5_addMan_X7_moved.1 sn_X5_addMan_X7_moved.2 cw_X5_addMan_X7_moved rfl rfl (Nat.le_of_ble_eq_true rfl) dX5_addMan_39 e (fun _ e9 => f_X7_moved_ok e9) (fun r3 h4 e => ?_)
    refine v_put O fd_X5_addMan_37 fp_X5_5 (g25 O (by decide)) (cg_7 G _) (Nat.le_of_ble_eq_true rfl) (cs_7_5 G _ _) dX5_addMan_42 e (fun h5 e => ?_)
    refine v_aload_n O dX5_addMan_45 0 rfl rfl ?_
    refine v_aload_n O dX5_addMan_46 0 rfl rfl ?_
    refine v_get O fd_X5_addMan_40 (g25 O (by decide)) (cg_7 G _) rfl dX5_addMan_47 ?_
    refine v_aload_n O dX5_addMan_50 0 rfl rfl ?_
    refine v_get O fd_X5_addMan_34 (g25 O (by decide)) (cg_7 G _) rfl dX5_addMan_51 ?_
    refine v_iload O dX5_addMan_54 4 rfl ?_
    refine v_cNi O [.int (h5.1 7 6), .int (h5.1 7 4), .int a3] [.ref (G.1 7)] 10 rfl gX5_addMan_X7_moved_n43 sn_X5_addMan_X7_moved.1 sn_X5_addMan_X7_moved.2 cw_X5_addMan_X7_moved rfl rfl (Nat.le_of_ble_eq_true rfl) dX5_addMan_56 e (fun _ e9 => f_X7_moved_ok e9) (fun r6 h7 e => ?_)
    refine v_put O fd_X5_addMan_40 fp_X5_6 (g25 O (by decide)) (cg_7 G _) (Nat.le_of_ble_eq_true rfl) (cs_7_6 G _ _) dX5_addMan_59 e (fun h8 e => ?_)
    refine v_aload_n O dX5_addMan_62 0 rfl rfl ?_
    refine v_dup O dX5_addMan_63 rfl ?_
    refine v_get O fd_X5_addMan_34 (g25 O (by decide)) (cg_7 G _) rfl dX5_addMan_64 ?_
    refine v_iconst (v := 1) O dX5_addMan_67 (by decide) ?_
    refine v_iadd O dX5_addMan_68 ?_
    refine v_put O fd_X5_addMan_34 fp_X5_4 (g25 O (by decide)) (cg_7 G _) (Nat.le_of_ble_eq_true rfl) (cs_7_4 G _ _) dX5_addMan_69 e (fun h9 e => ?_)
    exact v_vret O dX5_addMan_72 e
  · exact v_vret O dX5_addMan_8 e
/-! ===== X3 readMan ===== -/
abbrev rm_X3_readMan : Room := { frames := 4, cells := 0, slots := 0, locals := 84 }
theorem fd_X3_readMan_12 : FdO wsX3_readMan RX3 12 RX3 TX3 4 3 0 := ⟨by decide +kernel, rfl, by decide, by decide +kernel⟩
theorem fd_X3_readMan_26 : FdO wsX3_readMan RX3 26 RX3 TX3 4 3 1 := ⟨by decide +kernel, rfl, by decide, by decide +kernel⟩
theorem fd_X3_readMan_113 : FdO wsX3_readMan RX3 113 RX5 TX5 9 5 5 := ⟨by decide +kernel, rfl, by decide, by decide +kernel⟩
theorem fd_X3_readMan_119 : FdO wsX3_readMan RX3 119 RX5 TX5 9 5 6 := ⟨by decide +kernel, rfl, by decide, by decide +kernel⟩
theorem fd_X3_readMan_125 : FdO wsX3_readMan RX3 125 RX5 TX5 9 5 4 := ⟨by decide +kernel, rfl, by decide, by decide +kernel⟩
theorem cw_X3_readMan_X3_isHole : CwO rm_X3_readMan yX3_isHole wsX3_isHole cX3_isHole 2 (some .boolean) rm_X3_isHole 1 := ⟨⟨_, rfl⟩, rfl, rfl, by decide +kernel, by decide, by decide⟩
theorem cw_X3_readMan_X3_readNumber : CwO rm_X3_readMan yX3_readNumber wsX3_readNumber cX3_readNumber 4 (some .int) rm_X3_readNumber 2 := ⟨⟨_, rfl⟩, rfl, rfl, by decide +kernel, by decide, by decide⟩
theorem cw_X3_readMan_X3_refuseIf : CwO rm_X3_readMan yX3_refuseIf wsX3_refuseIf cX3_refuseIf 2 (none) rm_X3_refuseIf 1 := ⟨⟨_, rfl⟩, rfl, rfl, by decide +kernel, by decide, by decide⟩
theorem cw_X3_readMan_X5_addMan : CwO rm_X3_readMan yX5_addMan wsX5_addMan cX5_addMan 5 (none) rm_X5_addMan 4 := ⟨⟨_, rfl⟩, rfl, rfl, by decide +kernel, by decide, by decide⟩
theorem cw_X3_readMan_X5_manOf : CwO rm_X3_readMan yX5_manOf wsX5_manOf cX5_manOf 4 (some .int) rm_X5_manOf 2 := ⟨⟨_, rfl⟩, rfl, rfl, by decide +kernel, by decide, by decide⟩
theorem cw_X3_readMan_X5_squares : CwO rm_X3_readMan yX5_squares wsX5_squares cX5_squares 1 (some .int) rm_X5_squares 0 := ⟨⟨_, rfl⟩, rfl, rfl, by decide +kernel, by decide, by decide⟩
set_option maxRecDepth 20000 in
theorem f_X3_readMan_b152_ok {X : Cx} {G : Gx} {z : Rs} (O : Ok X G cX3_readMan RX3 5 wsX3_readMan (none) rm_X3_readMan) (N : Nat) (h : Hp) (e : f_X3_readMan_b152 N h = some z) : V X G 5 (QV X G z) h 152 [] [] := by
  unfold f_X3_readMan_b152 at e
  exact v_vret O dX3_readMan_152 e
set_option maxRecDepth 20000 in
theorem f_X3_readMan_b129_ok {X : Cx} {G : Gx} {z : Rs} (O : Ok X G cX3_readMan RX3 5 wsX3_readMan (none) rm_X3_readMan) (N : Nat) (v1 : Int32) (v2 : Int32) (v3 : Int32) (v4 : Int32) (s0 : Int32) (h : Hp) (e : f_X3_readMan_b129 N v1 v2 v3 v4 s0 h = some z) : V X G 5 (QV X G z) h 129 [(0, .ref (G.1 6)), (1, .int v1), (2, .int v2), (3, .int v3), (4, .int v4)] [.int s0, .ref (G.1 6)] := by
  unfold f_X3_readMan_b129 at e
  refine v_cVv O [.int s0] [] gX3_readMan_X3_refuseIf cw_X3_readMan_X3_refuseIf rfl rfl (g25 O (by decide)) (cg_6 G _) rfl rfl (Nat.le_of_ble_eq_true rfl) dX3_readMan_129 e (fun _ e9 => f_X3_refuseIf_ok e9) (fun _ h1 e => ?_)
  refine v_aload_n O dX3_readMan_132 0 rfl rfl ?_
  refine v_get O fd_X3_readMan_26 (g25 O (by decide)) (cg_6 G _) rfl dX3_readMan_133 ?_
  refine v_iconst (v := (-1)) O dX3_readMan_136 (by decide) ?_
  refine v_icmp_ne O dX3_readMan_137 152 (by decide) e (fun e => ?_) (fun e => ?_)
  · refine v_sub [] rfl ?_
    exact f_X3_readMan_b152_ok O N _ e
  · refine v_aload_n O dX3_readMan_140 0 rfl rfl ?_
    refine v_get O fd_X3_readMan_12 (g25 O (by decide)) (cg_6 G _) rfl dX3_readMan_141 ?_
    refine v_iload_n O dX3_readMan_144 1 rfl rfl ?_
    refine v_iload_n O dX3_readMan_145 2 rfl rfl ?_
    refine v_iload_n O dX3_readMan_146 3 rfl rfl ?_
    refine v_iload O dX3_readMan_147 4 rfl ?_
    refine v_cVv O [.int v1, .int v2, .int v3, .int v4] [] gX3_readMan_X5_addMan cw_X3_readMan_X5_addMan rfl rfl (g25 O (by decide)) (cg_7 G _) rfl rfl (Nat.le_of_ble_eq_true rfl) dX3_readMan_149 e (fun _ e9 => f_X5_addMan_ok_7 e9) (fun _ h2 e => ?_)
    refine v_sub [] rfl ?_
    exact f_X3_readMan_b152_ok O N _ e
set_option maxRecDepth 20000 in
theorem f_X3_readMan_b124_ok {X : Cx} {G : Gx} {z : Rs} (O : Ok X G cX3_readMan RX3 5 wsX3_readMan (none) rm_X3_readMan) (N : Nat) (v1 : Int32) (v2 : Int32) (v3 : Int32) (v4 : Int32) (h : Hp) (e : f_X3_readMan_b124 N v1 v2 v3 v4 h = some z) : V X G 5 (QV X G z) h 124 [(0, .ref (G.1 6)), (1, .int v1), (2, .int v2), (3, .int v3), (4, .int v4)] [.ref (G.1 6)] := by
  unfold f_X3_readMan_b124 at e
  refine v_iconst (v := 1) O dX3_readMan_124 (by decide) ?_
  refine v_goto O dX3_readMan_125 129 (by decide) ?_
  exact f_X3_readMan_b129_ok O N _ _ _ _ _ _ e
set_option maxRecDepth 20000 in
theorem f_X3_readMan_b75_ok {X : Cx} {G : Gx} {z : Rs} (O : Ok X G cX3_readMan RX3 5 wsX3_readMan (none) rm_X3_readMan) (N : Nat) (v1 : Int32) (v2 : Int32) (v3 : Int32) (s0 : Int32) (h : Hp) (e : f_X3_readMan_b75 N v1 v2 v3 s0 h = some z) : V X G 5 (QV X G z) h 75 [(0, .ref (G.1 6)), (1, .int v1), (2, .int v2), (3, .int v3)] [.int s0, .ref (G.1 6)] := by
  unfold f_X3_readMan_b75 at e
  refine v_cVv O [.int s0] [] gX3_readMan_X3_refuseIf cw_X3_readMan_X3_refuseIf rfl rfl (g25 O (by decide)) (cg_6 G _) rfl rfl (Nat.le_of_ble_eq_true rfl) dX3_readMan_75 e (fun _ e9 => f_X3_refuseIf_ok e9) (fun _ h1 e => ?_)
  refine v_aload_n O dX3_readMan_78 0 rfl rfl ?_
  refine v_iconst (v := 0) O dX3_readMan_79 (by decide) ?_
  refine v_aload_n O dX3_readMan_80 0 rfl rfl ?_
  refine v_get O fd_X3_readMan_12 (g25 O (by decide)) (cg_6 G _) rfl dX3_readMan_81 ?_
  refine v_cVi O [] [.int 0, .ref (G.1 6)] gX3_readMan_X5_squares cw_X3_readMan_X5_squares rfl rfl (g25 O (by decide)) (cg_7 G _) rfl rfl (Nat.le_of_ble_eq_true rfl) dX3_readMan_84 e (fun _ e9 => f_X5_squares_ok_7 e9) (fun r2 h3 e => ?_)
  refine v_iconst (v := 1) O dX3_readMan_87 (by decide) ?_
  refine v_isub O dX3_readMan_88 ?_
  refine v_cVi O [.int 0, .int (r2 - 1)] [] gX3_readMan_X3_readNumber cw_X3_readMan_X3_readNumber rfl rfl (g25 O (by decide)) (cg_6 G _) rfl rfl (Nat.le_of_ble_eq_true rfl) dX3_readMan_89 e (fun _ e9 => f_X3_readNumber_ok e9) (fun r4 h5 e => ?_)
  refine v_istore O dX3_readMan_92 (by decide) (fun x6 => [(4, .int x6), (0, .ref (G.1 6)), (1, .int v1), (2, .int v2), (3, .int v3)]) (fun _ => rfl) e (fun x6 e => ?_)
  refine v_aload_n O dX3_readMan_94 1 rfl rfl ?_
  refine v_aload_n O dX3_readMan_95 1 rfl rfl ?_
  refine v_iload O dX3_readMan_96 0 rfl ?_
  refine v_cVi O [.int x6] [.ref (G.1 6)] gX3_readMan_X3_isHole cw_X3_readMan_X3_isHole rfl rfl (g25 O (by decide)) (cg_6 G _) rfl rfl (Nat.le_of_ble_eq_true rfl) dX3_readMan_98 e (fun _ e9 => f_X3_isHole_ok e9) (fun r7 h8 e => ?_)
  refine v_if_ne O dX3_readMan_101 124 (by decide) e (fun e => ?_) (fun e => ?_)
  · refine v_sub [1, 2, 3, 4, 0] rfl ?_
    exact f_X3_readMan_b124_ok O N _ _ _ _ _ e
  · refine v_aload_n O dX3_readMan_104 1 rfl rfl ?_
    refine v_get O fd_X3_readMan_12 (g25 O (by decide)) (cg_6 G _) rfl dX3_readMan_105 ?_
    refine v_aload_n O dX3_readMan_108 1 rfl rfl ?_
    refine v_get O fd_X3_readMan_12 (g25 O (by decide)) (cg_6 G _) rfl dX3_readMan_109 ?_
    refine v_get O fd_X3_readMan_119 (g25 O (by decide)) (cg_7 G _) rfl dX3_readMan_112 ?_
    refine v_iload O dX3_readMan_115 0 rfl ?_
    refine v_cVi O [.int (h8.1 7 6), .int x6] [.ref (G.1 6)] gX3_readMan_X5_manOf cw_X3_readMan_X5_manOf rfl rfl (g25 O (by decide)) (cg_7 G _) rfl rfl (Nat.le_of_ble_eq_true rfl) dX3_readMan_117 e (fun _ e9 => f_X5_manOf_ok_7 e9) (fun r9 h10 e => ?_)
    refine v_iconst (v := (-1)) O dX3_readMan_120 (by decide) ?_
    refine v_icmp_eq O dX3_readMan_121 128 (by decide) e (fun e => ?_) (fun e => ?_)
    · refine v_iconst (v := 0) O dX3_readMan_128 (by decide) ?_
      refine v_sub [1, 2, 3, 4, 0] rfl ?_
      exact f_X3_readMan_b129_ok O N _ _ _ _ _ _ e
    · refine v_sub [1, 2, 3, 4, 0] rfl ?_
      exact f_X3_readMan_b124_ok O N _ _ _ _ _ e
set_option maxRecDepth 20000 in
theorem f_X3_readMan_b70_ok {X : Cx} {G : Gx} {z : Rs} (O : Ok X G cX3_readMan RX3 5 wsX3_readMan (none) rm_X3_readMan) (N : Nat) (v1 : Int32) (v2 : Int32) (v3 : Int32) (h : Hp) (e : f_X3_readMan_b70 N v1 v2 v3 h = some z) : V X G 5 (QV X G z) h 70 [(0, .ref (G.1 6)), (1, .int v1), (2, .int v2), (3, .int v3)] [.ref (G.1 6)] := by
  unfold f_X3_readMan_b70 at e
  refine v_iconst (v := 1) O dX3_readMan_70 (by decide) ?_
  refine v_goto O dX3_readMan_71 75 (by decide) ?_
  exact f_X3_readMan_b75_ok O N _ _ _ _ _ e
set_option maxRecDepth 20000 in
theorem f_X3_readMan_b17_ok {X : Cx} {G : Gx} {z : Rs} (O : Ok X G cX3_readMan RX3 5 wsX3_readMan (none) rm_X3_readMan) (N : Nat) (v1 : Int32) (s0 : Int32) (h : Hp) (e : f_X3_readMan_b17 N v1 s0 h = some z) : V X G 5 (QV X G z) h 17 [(0, .ref (G.1 6)), (1, .int v1)] [.int s0, .ref (G.1 6)] := by
  unfold f_X3_readMan_b17 at e
  refine v_cVv O [.int s0] [] gX3_readMan_X3_refuseIf cw_X3_readMan_X3_refuseIf rfl rfl (g25 O (by decide)) (cg_6 G _) rfl rfl (Nat.le_of_ble_eq_true rfl) dX3_readMan_17 e (fun _ e9 => f_X3_refuseIf_ok e9) (fun _ h1 e => ?_)
  refine v_aload_n O dX3_readMan_20 0 rfl rfl ?_
  refine v_iconst (v := 0) O dX3_readMan_21 (by decide) ?_
  refine v_iconst (v := 1) O dX3_readMan_22 (by decide) ?_
  refine v_cVi O [.int 0, .int 1] [] gX3_readMan_X3_readNumber cw_X3_readMan_X3_readNumber rfl rfl (g25 O (by decide)) (cg_6 G _) rfl rfl (Nat.le_of_ble_eq_true rfl) dX3_readMan_23 e (fun _ e9 => f_X3_readNumber_ok e9) (fun r2 h3 e => ?_)
  refine v_istore_n O dX3_readMan_26 rfl (by decide) (fun x4 => [(2, .int x4), (0, .ref (G.1 6)), (1, .int v1)]) (fun _ => rfl) e (fun x4 e => ?_)
  refine v_aload_n O dX3_readMan_27 1 rfl rfl ?_
  refine v_iconst (v := 0) O dX3_readMan_28 (by decide) ?_
  refine v_aload_n O dX3_readMan_29 1 rfl rfl ?_
  refine v_get O fd_X3_readMan_12 (g25 O (by decide)) (cg_6 G _) rfl dX3_readMan_30 ?_
  refine v_cVi O [] [.int 0, .ref (G.1 6)] gX3_readMan_X5_squares cw_X3_readMan_X5_squares rfl rfl (g25 O (by decide)) (cg_7 G _) rfl rfl (Nat.le_of_ble_eq_true rfl) dX3_readMan_33 e (fun _ e9 => f_X5_squares_ok_7 e9) (fun r5 h6 e => ?_)
  refine v_iconst (v := 1) O dX3_readMan_36 (by decide) ?_
  refine v_isub O dX3_readMan_37 ?_
  refine v_cVi O [.int 0, .int (r5 - 1)] [] gX3_readMan_X3_readNumber cw_X3_readMan_X3_readNumber rfl rfl (g25 O (by decide)) (cg_6 G _) rfl rfl (Nat.le_of_ble_eq_true rfl) dX3_readMan_38 e (fun _ e9 => f_X3_readNumber_ok e9) (fun r7 h8 e => ?_)
  refine v_istore_n O dX3_readMan_41 rfl (by decide) (fun x9 => [(3, .int x9), (2, .int x4), (0, .ref (G.1 6)), (1, .int v1)]) (fun _ => rfl) e (fun x9 e => ?_)
  refine v_aload_n O dX3_readMan_42 2 rfl rfl ?_
  refine v_aload_n O dX3_readMan_43 2 rfl rfl ?_
  refine v_iload_n O dX3_readMan_44 0 rfl rfl ?_
  refine v_cVi O [.int x9] [.ref (G.1 6)] gX3_readMan_X3_isHole cw_X3_readMan_X3_isHole rfl rfl (g25 O (by decide)) (cg_6 G _) rfl rfl (Nat.le_of_ble_eq_true rfl) dX3_readMan_45 e (fun _ e9 => f_X3_isHole_ok e9) (fun r10 h11 e => ?_)
  refine v_if_ne O dX3_readMan_48 70 (by decide) e (fun e => ?_) (fun e => ?_)
  · refine v_sub [2, 3, 1, 0] rfl ?_
    exact f_X3_readMan_b70_ok O N _ _ _ _ e
  · refine v_aload_n O dX3_readMan_51 2 rfl rfl ?_
    refine v_get O fd_X3_readMan_12 (g25 O (by decide)) (cg_6 G _) rfl dX3_readMan_52 ?_
    refine v_aload_n O dX3_readMan_55 2 rfl rfl ?_
    refine v_get O fd_X3_readMan_12 (g25 O (by decide)) (cg_6 G _) rfl dX3_readMan_56 ?_
    refine v_get O fd_X3_readMan_113 (g25 O (by decide)) (cg_7 G _) rfl dX3_readMan_59 ?_
    refine v_iload_n O dX3_readMan_62 0 rfl rfl ?_
    refine v_cVi O [.int (h11.1 7 5), .int x9] [.ref (G.1 6)] gX3_readMan_X5_manOf cw_X3_readMan_X5_manOf rfl rfl (g25 O (by decide)) (cg_7 G _) rfl rfl (Nat.le_of_ble_eq_true rfl) dX3_readMan_63 e (fun _ e9 => f_X5_manOf_ok_7 e9) (fun r12 h13 e => ?_)
    refine v_iconst (v := (-1)) O dX3_readMan_66 (by decide) ?_
    refine v_icmp_eq O dX3_readMan_67 74 (by decide) e (fun e => ?_) (fun e => ?_)
    · refine v_iconst (v := 0) O dX3_readMan_74 (by decide) ?_
      refine v_sub [2, 3, 1, 0] rfl ?_
      exact f_X3_readMan_b75_ok O N _ _ _ _ _ e
    · refine v_sub [2, 3, 1, 0] rfl ?_
      exact f_X3_readMan_b70_ok O N _ _ _ _ e
set_option maxRecDepth 20000 in
theorem f_X3_readMan_ok {l : Launch} {G : Gx} {N : Nat} {a0 : Int32} {h : Hp} {z : Rs} (e : f_X3_readMan N a0 h = some z) : CV l G yX3_readMan wsX3_readMan rm_X3_readMan [.ref (G.1 6), .int a0] h z := by
  refine m_void _ (by decide) rfl [(0, .ref (G.1 6)), (1, .int a0)] rfl (Nat.le_of_ble_eq_true rfl) (fun X O => ?_)
  unfold f_X3_readMan at e
  refine v_aload_n O dX3_readMan_0 0 rfl rfl ?_
  refine v_aload_n O dX3_readMan_1 0 rfl rfl ?_
  refine v_get O fd_X3_readMan_12 (g25 O (by decide)) (cg_6 G _) rfl dX3_readMan_2 ?_
  refine v_get O fd_X3_readMan_125 (g25 O (by decide)) (cg_7 G _) rfl dX3_readMan_5 ?_
  refine v_iconst (v := 4) O dX3_readMan_8 (by decide) ?_
  refine v_icmp_lt O dX3_readMan_9 16 (by decide) e (fun e => ?_) (fun e => ?_)
  · refine v_iconst (v := 0) O dX3_readMan_16 (by decide) ?_
    exact f_X3_readMan_b17_ok O N _ _ _ e
  · refine v_iconst (v := 1) O dX3_readMan_12 (by decide) ?_
    refine v_goto O dX3_readMan_13 17 (by decide) ?_
    exact f_X3_readMan_b17_ok O N _ _ _ e
/-! ===== X5 takeMenAway ===== -/
abbrev rm_X5_takeMenAway : Room := { frames := 0, cells := 0, slots := 0, locals := 0 }
theorem fd_X5_takeMenAway_34 : FdO wsX5_takeMenAway RX5 34 RX5 TX5 9 5 4 := ⟨by decide +kernel, rfl, by decide, by decide +kernel⟩
theorem fd_X5_takeMenAway_37 : FdO wsX5_takeMenAway RX5 37 RX5 TX5 9 5 5 := ⟨by decide +kernel, rfl, by decide, by decide +kernel⟩
theorem fd_X5_takeMenAway_40 : FdO wsX5_takeMenAway RX5 40 RX5 TX5 9 5 6 := ⟨by decide +kernel, rfl, by decide, by decide +kernel⟩
set_option maxRecDepth 20000 in
theorem f_X5_takeMenAway_ok_1 {l : Launch} {G : Gx} {N : Nat} {h : Hp} {z : Rs} (e : f_X5_takeMenAway 1 N h = some z) : CV l G yX5_takeMenAway wsX5_takeMenAway rm_X5_takeMenAway [.ref (G.1 1)] h z := by
  refine m_void _ (by decide) rfl [(0, .ref (G.1 1))] rfl (Nat.le_of_ble_eq_true rfl) (fun X O => ?_)
  unfold f_X5_takeMenAway at e
  refine v_aload_n O dX5_takeMenAway_0 0 rfl rfl ?_
  refine v_iconst (v := 0) O dX5_takeMenAway_1 (by decide) ?_
  refine v_put O fd_X5_takeMenAway_34 fp_X5_4 (g25 O (by decide)) (cg_1 G _) (Nat.le_of_ble_eq_true rfl) (cs_1_4 G _ _) dX5_takeMenAway_2 e (fun h1 e => ?_)
  refine v_aload_n O dX5_takeMenAway_5 0 rfl rfl ?_
  refine v_iconst (v := 0) O dX5_takeMenAway_6 (by decide) ?_
  refine v_put O fd_X5_takeMenAway_37 fp_X5_5 (g25 O (by decide)) (cg_1 G _) (Nat.le_of_ble_eq_true rfl) (cs_1_5 G _ _) dX5_takeMenAway_7 e (fun h2 e => ?_)
  refine v_aload_n O dX5_takeMenAway_10 0 rfl rfl ?_
  refine v_iconst (v := 0) O dX5_takeMenAway_11 (by decide) ?_
  refine v_put O fd_X5_takeMenAway_40 fp_X5_6 (g25 O (by decide)) (cg_1 G _) (Nat.le_of_ble_eq_true rfl) (cs_1_6 G _ _) dX5_takeMenAway_12 e (fun h3 e => ?_)
  exact v_vret O dX5_takeMenAway_15 e
set_option maxRecDepth 20000 in
theorem f_X5_takeMenAway_ok_7 {l : Launch} {G : Gx} {N : Nat} {h : Hp} {z : Rs} (e : f_X5_takeMenAway 7 N h = some z) : CV l G yX5_takeMenAway wsX5_takeMenAway rm_X5_takeMenAway [.ref (G.1 7)] h z := by
  refine m_void _ (by decide) rfl [(0, .ref (G.1 7))] rfl (Nat.le_of_ble_eq_true rfl) (fun X O => ?_)
  unfold f_X5_takeMenAway at e
  refine v_aload_n O dX5_takeMenAway_0 0 rfl rfl ?_
  refine v_iconst (v := 0) O dX5_takeMenAway_1 (by decide) ?_
  refine v_put O fd_X5_takeMenAway_34 fp_X5_4 (g25 O (by decide)) (cg_7 G _) (Nat.le_of_ble_eq_true rfl) (cs_7_4 G _ _) dX5_takeMenAway_2 e (fun h1 e => ?_)
  refine v_aload_n O dX5_takeMenAway_5 0 rfl rfl ?_
  refine v_iconst (v := 0) O dX5_takeMenAway_6 (by decide) ?_
  refine v_put O fd_X5_takeMenAway_37 fp_X5_5 (g25 O (by decide)) (cg_7 G _) (Nat.le_of_ble_eq_true rfl) (cs_7_5 G _ _) dX5_takeMenAway_7 e (fun h2 e => ?_)
  refine v_aload_n O dX5_takeMenAway_10 0 rfl rfl ?_
  refine v_iconst (v := 0) O dX5_takeMenAway_11 (by decide) ?_
  refine v_put O fd_X5_takeMenAway_40 fp_X5_6 (g25 O (by decide)) (cg_7 G _) (Nat.le_of_ble_eq_true rfl) (cs_7_6 G _ _) dX5_takeMenAway_12 e (fun h3 e => ?_)
  exact v_vret O dX5_takeMenAway_15 e
/-! ===== X5 lay ===== -/
abbrev rm_X5_lay : Room := { frames := 1, cells := 0, slots := 0, locals := 20 }
theorem fd_X5_lay_18 : FdO wsX5_lay RX5 18 RX5 TX5 9 5 0 := ⟨by decide +kernel, rfl, by decide, by decide +kernel⟩
theorem fd_X5_lay_22 : FdO wsX5_lay RX5 22 RX5 TX5 9 5 1 := ⟨by decide +kernel, rfl, by decide, by decide +kernel⟩
theorem fd_X5_lay_25 : FdO wsX5_lay RX5 25 RX5 TX5 9 5 2 := ⟨by decide +kernel, rfl, by decide, by decide +kernel⟩
theorem fd_X5_lay_28 : FdO wsX5_lay RX5 28 RX5 TX5 9 5 3 := ⟨by decide +kernel, rfl, by decide, by decide +kernel⟩
theorem cw_X5_lay_X5_takeMenAway : CwO rm_X5_lay yX5_takeMenAway wsX5_takeMenAway cX5_takeMenAway 1 (none) rm_X5_takeMenAway 0 := ⟨⟨_, rfl⟩, rfl, rfl, by decide +kernel, by decide, by decide⟩
set_option maxRecDepth 20000 in
theorem f_X5_lay_ok_1 {l : Launch} {G : Gx} {N : Nat} {a0 : Int32} {a1 : Int32} {h : Hp} {z : Rs} (e : f_X5_lay 1 N a0 a1 h = some z) : CV l G yX5_lay wsX5_lay rm_X5_lay [.ref (G.1 1), .int a0, .int a1] h z := by
  refine m_void _ (by decide) rfl [(0, .ref (G.1 1)), (1, .int a0), (2, .int a1)] rfl (Nat.le_of_ble_eq_true rfl) (fun X O => ?_)
  unfold f_X5_lay at e
  refine v_aload_n O dX5_lay_0 0 rfl rfl ?_
  refine v_iload_n O dX5_lay_1 1 rfl rfl ?_
  refine v_put O fd_X5_lay_18 fp_X5_0 (g25 O (by decide)) (cg_1 G _) (Nat.le_of_ble_eq_true rfl) (cs_1_0 G _ _) dX5_lay_2 e (fun h1 e => ?_)
  refine v_aload_n O dX5_lay_5 0 rfl rfl ?_
  refine v_iload_n O dX5_lay_6 2 rfl rfl ?_
  refine v_put O fd_X5_lay_22 fp_X5_1 (g25 O (by decide)) (cg_1 G _) (Nat.le_of_ble_eq_true rfl) (cs_1_1 G _ _) dX5_lay_7 e (fun h2 e => ?_)
  refine v_aload_n O dX5_lay_10 0 rfl rfl ?_
  refine v_iconst (v := 0) O dX5_lay_11 (by decide) ?_
  refine v_put O fd_X5_lay_25 fp_X5_2 (g25 O (by decide)) (cg_1 G _) (Nat.le_of_ble_eq_true rfl) (cs_1_2 G _ _) dX5_lay_12 e (fun h3 e => ?_)
  refine v_aload_n O dX5_lay_15 0 rfl rfl ?_
  refine v_iconst (v := 0) O dX5_lay_16 (by decide) ?_
  refine v_put O fd_X5_lay_28 fp_X5_3 (g25 O (by decide)) (cg_1 G _) (Nat.le_of_ble_eq_true rfl) (cs_1_3 G _ _) dX5_lay_17 e (fun h4 e => ?_)
  refine v_aload_n O dX5_lay_20 0 rfl rfl ?_
  refine v_cVv O [] [] gX5_lay_X5_takeMenAway cw_X5_lay_X5_takeMenAway rfl rfl (g25 O (by decide)) (cg_1 G _) rfl rfl (Nat.le_of_ble_eq_true rfl) dX5_lay_21 e (fun _ e9 => f_X5_takeMenAway_ok_1 e9) (fun _ h5 e => ?_)
  exact v_vret O dX5_lay_24 e
set_option maxRecDepth 20000 in
theorem f_X5_lay_ok_7 {l : Launch} {G : Gx} {N : Nat} {a0 : Int32} {a1 : Int32} {h : Hp} {z : Rs} (e : f_X5_lay 7 N a0 a1 h = some z) : CV l G yX5_lay wsX5_lay rm_X5_lay [.ref (G.1 7), .int a0, .int a1] h z := by
  refine m_void _ (by decide) rfl [(0, .ref (G.1 7)), (1, .int a0), (2, .int a1)] rfl (Nat.le_of_ble_eq_true rfl) (fun X O => ?_)
  unfold f_X5_lay at e
  refine v_aload_n O dX5_lay_0 0 rfl rfl ?_
  refine v_iload_n O dX5_lay_1 1 rfl rfl ?_
  refine v_put O fd_X5_lay_18 fp_X5_0 (g25 O (by decide)) (cg_7 G _) (Nat.le_of_ble_eq_true rfl) (cs_7_0 G _ _) dX5_lay_2 e (fun h1 e => ?_)
  refine v_aload_n O dX5_lay_5 0 rfl rfl ?_
  refine v_iload_n O dX5_lay_6 2 rfl rfl ?_
  refine v_put O fd_X5_lay_22 fp_X5_1 (g25 O (by decide)) (cg_7 G _) (Nat.le_of_ble_eq_true rfl) (cs_7_1 G _ _) dX5_lay_7 e (fun h2 e => ?_)
  refine v_aload_n O dX5_lay_10 0 rfl rfl ?_
  refine v_iconst (v := 0) O dX5_lay_11 (by decide) ?_
  refine v_put O fd_X5_lay_25 fp_X5_2 (g25 O (by decide)) (cg_7 G _) (Nat.le_of_ble_eq_true rfl) (cs_7_2 G _ _) dX5_lay_12 e (fun h3 e => ?_)
  refine v_aload_n O dX5_lay_15 0 rfl rfl ?_
  refine v_iconst (v := 0) O dX5_lay_16 (by decide) ?_
  refine v_put O fd_X5_lay_28 fp_X5_3 (g25 O (by decide)) (cg_7 G _) (Nat.le_of_ble_eq_true rfl) (cs_7_3 G _ _) dX5_lay_17 e (fun h4 e => ?_)
  refine v_aload_n O dX5_lay_20 0 rfl rfl ?_
  refine v_cVv O [] [] gX5_lay_X5_takeMenAway cw_X5_lay_X5_takeMenAway rfl rfl (g25 O (by decide)) (cg_7 G _) rfl rfl (Nat.le_of_ble_eq_true rfl) dX5_lay_21 e (fun _ e9 => f_X5_takeMenAway_ok_7 e9) (fun _ h5 e => ?_)
  exact v_vret O dX5_lay_24 e
/-! ===== X3 readSize ===== -/
abbrev rm_X3_readSize : Room := { frames := 4, cells := 0, slots := 0, locals := 84 }
theorem fd_X3_readSize_12 : FdO wsX3_readSize RX3 12 RX3 TX3 4 3 0 := ⟨by decide +kernel, rfl, by decide, by decide +kernel⟩
theorem fd_X3_readSize_26 : FdO wsX3_readSize RX3 26 RX3 TX3 4 3 1 := ⟨by decide +kernel, rfl, by decide, by decide +kernel⟩
theorem cw_X3_readSize_X3_readNumber : CwO rm_X3_readSize yX3_readNumber wsX3_readNumber cX3_readNumber 4 (some .int) rm_X3_readNumber 2 := ⟨⟨_, rfl⟩, rfl, rfl, by decide +kernel, by decide, by decide⟩
theorem cw_X3_readSize_X3_refuseIf : CwO rm_X3_readSize yX3_refuseIf wsX3_refuseIf cX3_refuseIf 2 (none) rm_X3_refuseIf 1 := ⟨⟨_, rfl⟩, rfl, rfl, by decide +kernel, by decide, by decide⟩
theorem cw_X3_readSize_X5_lay : CwO rm_X3_readSize yX5_lay wsX5_lay cX5_lay 3 (none) rm_X5_lay 2 := ⟨⟨_, rfl⟩, rfl, rfl, by decide +kernel, by decide, by decide⟩
set_option maxRecDepth 20000 in
theorem f_X3_readSize_b48_ok {X : Cx} {G : Gx} {z : Rs} (O : Ok X G cX3_readSize RX3 3 wsX3_readSize (none) rm_X3_readSize) (N : Nat) (h : Hp) (e : f_X3_readSize_b48 N h = some z) : V X G 3 (QV X G z) h 48 [] [] := by
  unfold f_X3_readSize_b48 at e
  exact v_vret O dX3_readSize_48 e
set_option maxRecDepth 20000 in
theorem f_X3_readSize_b28_ok {X : Cx} {G : Gx} {z : Rs} (O : Ok X G cX3_readSize RX3 3 wsX3_readSize (none) rm_X3_readSize) (N : Nat) (v1 : Int32) (v2 : Int32) (s0 : Int32) (h : Hp) (e : f_X3_readSize_b28 N v1 v2 s0 h = some z) : V X G 3 (QV X G z) h 28 [(0, .ref (G.1 6)), (1, .int v1), (2, .int v2)] [.int s0, .ref (G.1 6)] := by
  unfold f_X3_readSize_b28 at e
  refine v_cVv O [.int s0] [] gX3_readSize_X3_refuseIf cw_X3_readSize_X3_refuseIf rfl rfl (g25 O (by decide)) (cg_6 G _) rfl rfl (Nat.le_of_ble_eq_true rfl) dX3_readSize_28 e (fun _ e9 => f_X3_refuseIf_ok e9) (fun _ h1 e => ?_)
  refine v_aload_n O dX3_readSize_31 0 rfl rfl ?_
  refine v_get O fd_X3_readSize_26 (g25 O (by decide)) (cg_6 G _) rfl dX3_readSize_32 ?_
  refine v_iconst (v := (-1)) O dX3_readSize_35 (by decide) ?_
  refine v_icmp_ne O dX3_readSize_36 48 (by decide) e (fun e => ?_) (fun e => ?_)
  · refine v_sub [] rfl ?_
    exact f_X3_readSize_b48_ok O N _ e
  · refine v_aload_n O dX3_readSize_39 0 rfl rfl ?_
    refine v_get O fd_X3_readSize_12 (g25 O (by decide)) (cg_6 G _) rfl dX3_readSize_40 ?_
    refine v_iload_n O dX3_readSize_43 1 rfl rfl ?_
    refine v_iload_n O dX3_readSize_44 2 rfl rfl ?_
    refine v_cVv O [.int v1, .int v2] [] gX3_readSize_X5_lay cw_X3_readSize_X5_lay rfl rfl (g25 O (by decide)) (cg_7 G _) rfl rfl (Nat.le_of_ble_eq_true rfl) dX3_readSize_45 e (fun _ e9 => f_X5_lay_ok_7 e9) (fun _ h2 e => ?_)
    refine v_sub [] rfl ?_
    exact f_X3_readSize_b48_ok O N _ e
set_option maxRecDepth 20000 in
theorem f_X3_readSize_ok {l : Launch} {G : Gx} {N : Nat} {h : Hp} {z : Rs} (e : f_X3_readSize N h = some z) : CV l G yX3_readSize wsX3_readSize rm_X3_readSize [.ref (G.1 6)] h z := by
  refine m_void _ (by decide) rfl [(0, .ref (G.1 6))] rfl (Nat.le_of_ble_eq_true rfl) (fun X O => ?_)
  unfold f_X3_readSize at e
  refine v_aload_n O dX3_readSize_0 0 rfl rfl ?_
  refine v_iconst (v := 2) O dX3_readSize_1 (by decide) ?_
  refine v_iconst (v := 4) O dX3_readSize_2 (by decide) ?_
  refine v_cVi O [.int 2, .int 4] [] gX3_readSize_X3_readNumber cw_X3_readSize_X3_readNumber rfl rfl (g25 O (by decide)) (cg_6 G _) rfl rfl (Nat.le_of_ble_eq_true rfl) dX3_readSize_3 e (fun _ e9 => f_X3_readNumber_ok e9) (fun r1 h2 e => ?_)
  refine v_istore_n O dX3_readSize_6 rfl (by decide) (fun x3 => [(1, .int x3), (0, .ref (G.1 6))]) (fun _ => rfl) e (fun x3 e => ?_)
  refine v_aload_n O dX3_readSize_7 1 rfl rfl ?_
  refine v_iconst (v := 2) O dX3_readSize_8 (by decide) ?_
  refine v_iconst (v := 4) O dX3_readSize_9 (by decide) ?_
  refine v_cVi O [.int 2, .int 4] [] gX3_readSize_X3_readNumber cw_X3_readSize_X3_readNumber rfl rfl (g25 O (by decide)) (cg_6 G _) rfl rfl (Nat.le_of_ble_eq_true rfl) dX3_readSize_10 e (fun _ e9 => f_X3_readNumber_ok e9) (fun r4 h5 e => ?_)
  refine v_istore_n O dX3_readSize_13 rfl (by decide) (fun x6 => [(2, .int x6), (1, .int x3), (0, .ref (G.1 6))]) (fun _ => rfl) e (fun x6 e => ?_)
  refine v_aload_n O dX3_readSize_14 2 rfl rfl ?_
  refine v_iload_n O dX3_readSize_15 1 rfl rfl ?_
  refine v_iload_n O dX3_readSize_16 0 rfl rfl ?_
  refine v_imul O dX3_readSize_17 ?_
  refine v_bipush (v := 12) O dX3_readSize_18 (by decide) ?_
  refine v_icmp_le O dX3_readSize_20 27 (by decide) e (fun e => ?_) (fun e => ?_)
  · refine v_iconst (v := 0) O dX3_readSize_27 (by decide) ?_
    refine v_sub [2, 1, 0] rfl ?_
    exact f_X3_readSize_b28_ok O N _ _ _ _ e
  · refine v_iconst (v := 1) O dX3_readSize_23 (by decide) ?_
    refine v_goto O dX3_readSize_24 28 (by decide) ?_
    refine v_sub [2, 1, 0] rfl ?_
    exact f_X3_readSize_b28_ok O N _ _ _ _ e
