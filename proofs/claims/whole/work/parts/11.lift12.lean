/-! ===== X8 isHole ===== -/
abbrev rm_X8_isHole : Room := { frames := 3, cells := 0, slots := 0, locals := 65 }
theorem fd_X8_isHole_23 : FdO wsX8_isHole RX8 23 RX8 TX8 34 8 18 := ⟨by decide +kernel, rfl, by decide, by decide +kernel⟩
theorem fd_X8_isHole_26 : FdO wsX8_isHole RX8 26 RX8 TX8 34 8 19 := ⟨by decide +kernel, rfl, by decide, by decide +kernel⟩
theorem fd_X8_isHole_29 : FdO wsX8_isHole RX8 29 RX8 TX8 34 8 20 := ⟨by decide +kernel, rfl, by decide, by decide +kernel⟩
theorem fd_X8_isHole_117 : FdO wsX8_isHole RX8 117 RX8 TX8 34 8 15 := ⟨by decide +kernel, rfl, by decide, by decide +kernel⟩
theorem fd_X8_isHole_120 : FdO wsX8_isHole RX8 120 RX8 TX8 34 8 16 := ⟨by decide +kernel, rfl, by decide, by decide +kernel⟩
theorem fd_X8_isHole_123 : FdO wsX8_isHole RX8 123 RX8 TX8 34 8 17 := ⟨by decide +kernel, rfl, by decide, by decide +kernel⟩
theorem cw_X8_isHole_X8_fails : CwO rm_X8_isHole yX8_fails wsX8_fails cX8_fails 1 (some .boolean) rm_X8_fails 0 := ⟨⟨_, rfl⟩, rfl, rfl, by decide +kernel, by decide, by decide⟩
theorem cw_X8_isHole_X8_has : CwO rm_X8_isHole yX8_has wsX8_has cX8_has 2 (some .boolean) rm_X8_has 2 := ⟨⟨_, rfl⟩, rfl, rfl, by decide +kernel, by decide, by decide⟩
theorem cw_X8_isHole_X8_isNumber : CwO rm_X8_isHole yX8_isNumber wsX8_isNumber cX8_isNumber 4 (some .boolean) rm_X8_isNumber 3 := ⟨⟨_, rfl⟩, rfl, rfl, by decide +kernel, by decide, by decide⟩
theorem cw_X8_isHole_X8_isOf : CwO rm_X8_isHole yX8_isOf wsX8_isOf cX8_isOf 5 (some .boolean) rm_X8_isOf 3 := ⟨⟨_, rfl⟩, rfl, rfl, by decide +kernel, by decide, by decide⟩
set_option maxRecDepth 20000 in
theorem f_X8_isHole_b69_ok {X : Cx} {G : Gx} {z : Rs} (h41 : 41 ≤ gN G) (O : Ok X G cX8_isHole RX8 3 wsX8_isHole (some .boolean) rm_X8_isHole) (N : Nat) (h : Hp) (e : f_X8_isHole_b69 N h = some z) : V X G 3 (QI X G z) h 69 [(0, .ref (G.1 25))] [] := by
  unfold f_X8_isHole_b69 at e
  refine v_aload_n O dX8_isHole_69 0 rfl rfl ?_
  refine v_cVi O [] [] gX8_isHole_X8_fails cw_X8_isHole_X8_fails rfl rfl (g41 h41 (by decide)) (cg_25 G _) rfl rfl (Nat.le_of_ble_eq_true rfl) dX8_isHole_70 e (fun _ e9 => f_X8_fails_ok h41 e9) (fun r1 h2 e => ?_)
  exact v_zret O dX8_isHole_73 e
set_option maxRecDepth 20000 in
theorem f_X8_isHole_ok {l : Launch} {G : Gx} {N : Nat} (h41 : 41 ≤ gN G) {a0 : Int32} {h : Hp} {z : Rs} (e : f_X8_isHole N a0 h = some z) : CI l G yX8_isHole wsX8_isHole rm_X8_isHole [.ref (G.1 25), .int a0] h z := by
  refine m_bool _ (by decide) rfl [(0, .ref (G.1 25)), (1, .int a0)] rfl (Nat.le_of_ble_eq_true rfl) (fun X O => ?_)
  unfold f_X8_isHole at e
  refine v_aload_n O dX8_isHole_0 0 rfl rfl ?_
  refine v_iload_n O dX8_isHole_1 1 rfl rfl ?_
  refine v_iconst (v := 1) O dX8_isHole_2 (by decide) ?_
  refine v_iadd O dX8_isHole_3 ?_
  refine v_iconst (v := 0) O dX8_isHole_4 (by decide) ?_
  refine v_aload_n O dX8_isHole_5 0 rfl rfl ?_
  refine v_get O fd_X8_isHole_117 (g41 h41 (by decide)) (cg_25 G _) rfl dX8_isHole_6 ?_
  refine v_iconst (v := 1) O dX8_isHole_9 (by decide) ?_
  refine v_isub O dX8_isHole_10 ?_
  refine v_cVi O [.int (a0 + 1), .int 0, .int ((h.1 25 15) - 1)] [] gX8_isHole_X8_isNumber cw_X8_isHole_X8_isNumber rfl rfl (g41 h41 (by decide)) (cg_25 G _) rfl rfl (Nat.le_of_ble_eq_true rfl) dX8_isHole_11 e (fun _ e9 => f_X8_isNumber_ok h41 e9) (fun r1 h2 e => ?_)
  refine v_if_ne O dX8_isHole_14 19 (by decide) e (fun e => ?_) (fun e => ?_)
  · refine v_aload_n O dX8_isHole_19 0 rfl rfl ?_
    refine v_get O fd_X8_isHole_29 (g41 h41 (by decide)) (cg_25 G _) rfl dX8_isHole_20 ?_
    refine v_iload_n O dX8_isHole_23 1 rfl rfl ?_
    refine v_iconst (v := 1) O dX8_isHole_24 (by decide) ?_
    refine v_iadd O dX8_isHole_25 ?_
    refine v_iald O (g41 h41 (by decide)) (cg_30 G _) dX8_isHole_26 e (fun e => ?_)
    refine v_istore_n O dX8_isHole_27 rfl (by decide) (fun x3 => [(2, .int x3), (0, .ref (G.1 25)), (1, .int a0)]) (fun _ => rfl) e (fun x3 e => ?_)
    refine v_aload_n O dX8_isHole_28 1 rfl rfl ?_
    refine v_get O fd_X8_isHole_120 (g41 h41 (by decide)) (cg_25 G _) rfl dX8_isHole_29 ?_
    refine v_iload_n O dX8_isHole_32 0 rfl rfl ?_
    refine v_cSi O [.int (h2.1 25 16), .int x3] [] gX8_isHole_X8_has cw_X8_isHole_X8_has rfl rfl (Nat.le_of_ble_eq_true rfl) dX8_isHole_33 e (fun _ e9 => f_X8_has_ok e9) (fun r4 h5 e => ?_)
    refine v_if_ne O dX8_isHole_36 69 (by decide) e (fun e => ?_) (fun e => ?_)
    · refine v_sub [1] rfl ?_
      exact f_X8_isHole_b69_ok h41 O N _ e
    · refine v_aload_n O dX8_isHole_39 1 rfl rfl ?_
      refine v_get O fd_X8_isHole_23 (g41 h41 (by decide)) (cg_25 G _) rfl dX8_isHole_40 ?_
      refine v_aload_n O dX8_isHole_43 1 rfl rfl ?_
      refine v_get O fd_X8_isHole_123 (g41 h41 (by decide)) (cg_25 G _) rfl dX8_isHole_44 ?_
      refine v_iload_n O dX8_isHole_47 0 rfl rfl ?_
      refine v_cSi O [.ref (G.1 28), .int (h5.1 25 17), .int x3] [] gX8_isHole_X8_isOf cw_X8_isHole_X8_isOf rfl rfl (Nat.le_of_ble_eq_true rfl) dX8_isHole_48 e (fun _ e9 => f_X8_isOf_ok_28 h41 e9) (fun r6 h7 e => ?_)
      refine v_if_ne O dX8_isHole_51 69 (by decide) e (fun e => ?_) (fun e => ?_)
      · refine v_sub [1] rfl ?_
        exact f_X8_isHole_b69_ok h41 O N _ e
      · refine v_aload_n O dX8_isHole_54 1 rfl rfl ?_
        refine v_get O fd_X8_isHole_26 (g41 h41 (by decide)) (cg_25 G _) rfl dX8_isHole_55 ?_
        refine v_aload_n O dX8_isHole_58 1 rfl rfl ?_
        refine v_get O fd_X8_isHole_123 (g41 h41 (by decide)) (cg_25 G _) rfl dX8_isHole_59 ?_
        refine v_iload_n O dX8_isHole_62 0 rfl rfl ?_
        refine v_cSi O [.ref (G.1 29), .int (h7.1 25 17), .int x3] [] gX8_isHole_X8_isOf cw_X8_isHole_X8_isOf rfl rfl (Nat.le_of_ble_eq_true rfl) dX8_isHole_63 e (fun _ e9 => f_X8_isOf_ok_29 h41 e9) (fun r8 h9 e => ?_)
        refine v_if_eq O dX8_isHole_66 74 (by decide) e (fun e => ?_) (fun e => ?_)
        · refine v_aload_n O dX8_isHole_74 1 rfl rfl ?_
          refine v_aload_n O dX8_isHole_75 1 rfl rfl ?_
          refine v_get O fd_X8_isHole_120 (g41 h41 (by decide)) (cg_25 G _) rfl dX8_isHole_76 ?_
          refine v_iconst (v := 1) O dX8_isHole_79 (by decide) ?_
          refine v_iload_n O dX8_isHole_80 0 rfl rfl ?_
          refine v_ishl O dX8_isHole_81 ?_
          refine v_ior O dX8_isHole_82 ?_
          refine v_put O fd_X8_isHole_120 fp_X8_16 (g41 h41 (by decide)) (cg_25 G _) (Nat.le_of_ble_eq_true rfl) (cs_25_16 G _ _) dX8_isHole_83 e (fun h10 e => ?_)
          refine v_iconst (v := 1) O dX8_isHole_86 (by decide) ?_
          exact v_zret O dX8_isHole_87 e
        · refine v_sub [1] rfl ?_
          exact f_X8_isHole_b69_ok h41 O N _ e
  · refine v_iconst (v := 0) O dX8_isHole_17 (by decide) ?_
    exact v_zret O dX8_isHole_18 e
/-! ===== X8 isManLine ===== -/
abbrev rm_X8_isManLine : Room := { frames := 3, cells := 0, slots := 0, locals := 65 }
theorem fd_X8_isManLine_23 : FdO wsX8_isManLine RX8 23 RX8 TX8 34 8 18 := ⟨by decide +kernel, rfl, by decide, by decide +kernel⟩
theorem fd_X8_isManLine_26 : FdO wsX8_isManLine RX8 26 RX8 TX8 34 8 19 := ⟨by decide +kernel, rfl, by decide, by decide +kernel⟩
theorem fd_X8_isManLine_29 : FdO wsX8_isManLine RX8 29 RX8 TX8 34 8 20 := ⟨by decide +kernel, rfl, by decide, by decide +kernel⟩
theorem fd_X8_isManLine_117 : FdO wsX8_isManLine RX8 117 RX8 TX8 34 8 15 := ⟨by decide +kernel, rfl, by decide, by decide +kernel⟩
theorem fd_X8_isManLine_120 : FdO wsX8_isManLine RX8 120 RX8 TX8 34 8 16 := ⟨by decide +kernel, rfl, by decide, by decide +kernel⟩
theorem fd_X8_isManLine_123 : FdO wsX8_isManLine RX8 123 RX8 TX8 34 8 17 := ⟨by decide +kernel, rfl, by decide, by decide +kernel⟩
theorem cw_X8_isManLine_X8_fails : CwO rm_X8_isManLine yX8_fails wsX8_fails cX8_fails 1 (some .boolean) rm_X8_fails 0 := ⟨⟨_, rfl⟩, rfl, rfl, by decide +kernel, by decide, by decide⟩
theorem cw_X8_isManLine_X8_has : CwO rm_X8_isManLine yX8_has wsX8_has cX8_has 2 (some .boolean) rm_X8_has 2 := ⟨⟨_, rfl⟩, rfl, rfl, by decide +kernel, by decide, by decide⟩
theorem cw_X8_isManLine_X8_isNumber : CwO rm_X8_isManLine yX8_isNumber wsX8_isNumber cX8_isNumber 4 (some .boolean) rm_X8_isNumber 3 := ⟨⟨_, rfl⟩, rfl, rfl, by decide +kernel, by decide, by decide⟩
theorem cw_X8_isManLine_X8_isOf : CwO rm_X8_isManLine yX8_isOf wsX8_isOf cX8_isOf 5 (some .boolean) rm_X8_isOf 3 := ⟨⟨_, rfl⟩, rfl, rfl, by decide +kernel, by decide, by decide⟩
set_option maxRecDepth 20000 in
theorem f_X8_isManLine_b42_ok {X : Cx} {G : Gx} {z : Rs} (h41 : 41 ≤ gN G) (O : Ok X G cX8_isManLine RX8 2 wsX8_isManLine (some .boolean) rm_X8_isManLine) (N : Nat) (h : Hp) (e : f_X8_isManLine_b42 N h = some z) : V X G 2 (QI X G z) h 42 [] [] := by
  unfold f_X8_isManLine_b42 at e
  refine v_iconst (v := 0) O dX8_isManLine_42 (by decide) ?_
  exact v_zret O dX8_isManLine_43 e
set_option maxRecDepth 20000 in
theorem f_X8_isManLine_b84_ok {X : Cx} {G : Gx} {z : Rs} (h41 : 41 ≤ gN G) (O : Ok X G cX8_isManLine RX8 2 wsX8_isManLine (some .boolean) rm_X8_isManLine) (N : Nat) (h : Hp) (e : f_X8_isManLine_b84 N h = some z) : V X G 2 (QI X G z) h 84 [(0, .ref (G.1 25))] [] := by
  unfold f_X8_isManLine_b84 at e
  refine v_aload_n O dX8_isManLine_84 0 rfl rfl ?_
  refine v_cVi O [] [] gX8_isManLine_X8_fails cw_X8_isManLine_X8_fails rfl rfl (g41 h41 (by decide)) (cg_25 G _) rfl rfl (Nat.le_of_ble_eq_true rfl) dX8_isManLine_85 e (fun _ e9 => f_X8_fails_ok h41 e9) (fun r1 h2 e => ?_)
  exact v_zret O dX8_isManLine_88 e
set_option maxRecDepth 20000 in
theorem f_X8_isManLine_b148_ok {X : Cx} {G : Gx} {z : Rs} (h41 : 41 ≤ gN G) (O : Ok X G cX8_isManLine RX8 2 wsX8_isManLine (some .boolean) rm_X8_isManLine) (N : Nat) (h : Hp) (e : f_X8_isManLine_b148 N h = some z) : V X G 2 (QI X G z) h 148 [(0, .ref (G.1 25))] [] := by
  unfold f_X8_isManLine_b148 at e
  refine v_aload_n O dX8_isManLine_148 0 rfl rfl ?_
  refine v_cVi O [] [] gX8_isManLine_X8_fails cw_X8_isManLine_X8_fails rfl rfl (g41 h41 (by decide)) (cg_25 G _) rfl rfl (Nat.le_of_ble_eq_true rfl) dX8_isManLine_149 e (fun _ e9 => f_X8_fails_ok h41 e9) (fun r1 h2 e => ?_)
  exact v_zret O dX8_isManLine_152 e
set_option maxRecDepth 20000 in
theorem f_X8_isManLine_ok {l : Launch} {G : Gx} {N : Nat} (h41 : 41 ≤ gN G) {a0 : Int32} {h : Hp} {z : Rs} (e : f_X8_isManLine N a0 h = some z) : CI l G yX8_isManLine wsX8_isManLine rm_X8_isManLine [.ref (G.1 25), .int a0] h z := by
  refine m_bool _ (by decide) rfl [(0, .ref (G.1 25)), (1, .int a0)] rfl (Nat.le_of_ble_eq_true rfl) (fun X O => ?_)
  unfold f_X8_isManLine at e
  refine v_aload_n O dX8_isManLine_0 0 rfl rfl ?_
  refine v_get O fd_X8_isManLine_123 (g41 h41 (by decide)) (cg_25 G _) rfl dX8_isManLine_1 ?_
  refine v_iconst (v := 4) O dX8_isManLine_4 (by decide) ?_
  refine v_icmp_ne O dX8_isManLine_5 13 (by decide) e (fun e => ?_) (fun e => ?_)
  · refine v_aload_n O dX8_isManLine_13 0 rfl rfl ?_
    refine v_iload_n O dX8_isManLine_14 1 rfl rfl ?_
    refine v_iconst (v := 1) O dX8_isManLine_15 (by decide) ?_
    refine v_iadd O dX8_isManLine_16 ?_
    refine v_iconst (v := 0) O dX8_isManLine_17 (by decide) ?_
    refine v_iconst (v := 1) O dX8_isManLine_18 (by decide) ?_
    refine v_cVi O [.int (a0 + 1), .int 0, .int 1] [] gX8_isManLine_X8_isNumber cw_X8_isManLine_X8_isNumber rfl rfl (g41 h41 (by decide)) (cg_25 G _) rfl rfl (Nat.le_of_ble_eq_true rfl) dX8_isManLine_19 e (fun _ e9 => f_X8_isNumber_ok h41 e9) (fun r1 h2 e => ?_)
    refine v_if_eq O dX8_isManLine_22 42 (by decide) e (fun e => ?_) (fun e => ?_)
    · refine v_sub [] rfl ?_
      exact f_X8_isManLine_b42_ok h41 O N _ e
    · refine v_aload_n O dX8_isManLine_25 0 rfl rfl ?_
      refine v_iload_n O dX8_isManLine_26 1 rfl rfl ?_
      refine v_iconst (v := 2) O dX8_isManLine_27 (by decide) ?_
      refine v_iadd O dX8_isManLine_28 ?_
      refine v_iconst (v := 0) O dX8_isManLine_29 (by decide) ?_
      refine v_aload_n O dX8_isManLine_30 0 rfl rfl ?_
      refine v_get O fd_X8_isManLine_117 (g41 h41 (by decide)) (cg_25 G _) rfl dX8_isManLine_31 ?_
      refine v_iconst (v := 1) O dX8_isManLine_34 (by decide) ?_
      refine v_isub O dX8_isManLine_35 ?_
      refine v_cVi O [.int (a0 + 2), .int 0, .int ((h2.1 25 15) - 1)] [] gX8_isManLine_X8_isNumber cw_X8_isManLine_X8_isNumber rfl rfl (g41 h41 (by decide)) (cg_25 G _) rfl rfl (Nat.le_of_ble_eq_true rfl) dX8_isManLine_36 e (fun _ e9 => f_X8_isNumber_ok h41 e9) (fun r3 h4 e => ?_)
      refine v_if_ne O dX8_isManLine_39 44 (by decide) e (fun e => ?_) (fun e => ?_)
      · refine v_aload_n O dX8_isManLine_44 0 rfl rfl ?_
        refine v_get O fd_X8_isManLine_120 (g41 h41 (by decide)) (cg_25 G _) rfl dX8_isManLine_45 ?_
        refine v_aload_n O dX8_isManLine_48 0 rfl rfl ?_
        refine v_get O fd_X8_isManLine_29 (g41 h41 (by decide)) (cg_25 G _) rfl dX8_isManLine_49 ?_
        refine v_iload_n O dX8_isManLine_52 1 rfl rfl ?_
        refine v_iconst (v := 2) O dX8_isManLine_53 (by decide) ?_
        refine v_iadd O dX8_isManLine_54 ?_
        refine v_iald O (g41 h41 (by decide)) (cg_30 G _) dX8_isManLine_55 e (fun e => ?_)
        refine v_cSi O [.int (h4.1 25 16), .int (h4.1 30 (ix (a0 + 2)))] [] gX8_isManLine_X8_has cw_X8_isManLine_X8_has rfl rfl (Nat.le_of_ble_eq_true rfl) dX8_isManLine_56 e (fun _ e9 => f_X8_has_ok e9) (fun r5 h6 e => ?_)
        refine v_if_ne O dX8_isManLine_59 84 (by decide) e (fun e => ?_) (fun e => ?_)
        · refine v_sub [0] rfl ?_
          exact f_X8_isManLine_b84_ok h41 O N _ e
        · refine v_aload_n O dX8_isManLine_62 0 rfl rfl ?_
          refine v_get O fd_X8_isManLine_23 (g41 h41 (by decide)) (cg_25 G _) rfl dX8_isManLine_63 ?_
          refine v_aload_n O dX8_isManLine_66 0 rfl rfl ?_
          refine v_get O fd_X8_isManLine_123 (g41 h41 (by decide)) (cg_25 G _) rfl dX8_isManLine_67 ?_
          refine v_aload_n O dX8_isManLine_70 0 rfl rfl ?_
          refine v_get O fd_X8_isManLine_29 (g41 h41 (by decide)) (cg_25 G _) rfl dX8_isManLine_71 ?_
          refine v_iload_n O dX8_isManLine_74 1 rfl rfl ?_
          refine v_iconst (v := 2) O dX8_isManLine_75 (by decide) ?_
          refine v_iadd O dX8_isManLine_76 ?_
          refine v_iald O (g41 h41 (by decide)) (cg_30 G _) dX8_isManLine_77 e (fun e => ?_)
          refine v_cSi O [.ref (G.1 28), .int (h6.1 25 17), .int (h6.1 30 (ix (a0 + 2)))] [] gX8_isManLine_X8_isOf cw_X8_isManLine_X8_isOf rfl rfl (Nat.le_of_ble_eq_true rfl) dX8_isManLine_78 e (fun _ e9 => f_X8_isOf_ok_28 h41 e9) (fun r7 h8 e => ?_)
          refine v_if_eq O dX8_isManLine_81 89 (by decide) e (fun e => ?_) (fun e => ?_)
          · refine v_aload_n O dX8_isManLine_89 0 rfl rfl ?_
            refine v_iload_n O dX8_isManLine_90 1 rfl rfl ?_
            refine v_iconst (v := 3) O dX8_isManLine_91 (by decide) ?_
            refine v_iadd O dX8_isManLine_92 ?_
            refine v_iconst (v := 0) O dX8_isManLine_93 (by decide) ?_
            refine v_aload_n O dX8_isManLine_94 0 rfl rfl ?_
            refine v_get O fd_X8_isManLine_117 (g41 h41 (by decide)) (cg_25 G _) rfl dX8_isManLine_95 ?_
            refine v_iconst (v := 1) O dX8_isManLine_98 (by decide) ?_
            refine v_isub O dX8_isManLine_99 ?_
            refine v_cVi O [.int (a0 + 3), .int 0, .int ((h8.1 25 15) - 1)] [] gX8_isManLine_X8_isNumber cw_X8_isManLine_X8_isNumber rfl rfl (g41 h41 (by decide)) (cg_25 G _) rfl rfl (Nat.le_of_ble_eq_true rfl) dX8_isManLine_100 e (fun _ e9 => f_X8_isNumber_ok h41 e9) (fun r9 h10 e => ?_)
            refine v_if_ne O dX8_isManLine_103 108 (by decide) e (fun e => ?_) (fun e => ?_)
            · refine v_aload_n O dX8_isManLine_108 0 rfl rfl ?_
              refine v_get O fd_X8_isManLine_120 (g41 h41 (by decide)) (cg_25 G _) rfl dX8_isManLine_109 ?_
              refine v_aload_n O dX8_isManLine_112 0 rfl rfl ?_
              refine v_get O fd_X8_isManLine_29 (g41 h41 (by decide)) (cg_25 G _) rfl dX8_isManLine_113 ?_
              refine v_iload_n O dX8_isManLine_116 1 rfl rfl ?_
              refine v_iconst (v := 3) O dX8_isManLine_117 (by decide) ?_
              refine v_iadd O dX8_isManLine_118 ?_
              refine v_iald O (g41 h41 (by decide)) (cg_30 G _) dX8_isManLine_119 e (fun e => ?_)
              refine v_cSi O [.int (h10.1 25 16), .int (h10.1 30 (ix (a0 + 3)))] [] gX8_isManLine_X8_has cw_X8_isManLine_X8_has rfl rfl (Nat.le_of_ble_eq_true rfl) dX8_isManLine_120 e (fun _ e9 => f_X8_has_ok e9) (fun r11 h12 e => ?_)
              refine v_if_ne O dX8_isManLine_123 148 (by decide) e (fun e => ?_) (fun e => ?_)
              · refine v_sub [0] rfl ?_
                exact f_X8_isManLine_b148_ok h41 O N _ e
              · refine v_aload_n O dX8_isManLine_126 0 rfl rfl ?_
                refine v_get O fd_X8_isManLine_26 (g41 h41 (by decide)) (cg_25 G _) rfl dX8_isManLine_127 ?_
                refine v_aload_n O dX8_isManLine_130 0 rfl rfl ?_
                refine v_get O fd_X8_isManLine_123 (g41 h41 (by decide)) (cg_25 G _) rfl dX8_isManLine_131 ?_
                refine v_aload_n O dX8_isManLine_134 0 rfl rfl ?_
                refine v_get O fd_X8_isManLine_29 (g41 h41 (by decide)) (cg_25 G _) rfl dX8_isManLine_135 ?_
                refine v_iload_n O dX8_isManLine_138 1 rfl rfl ?_
                refine v_iconst (v := 3) O dX8_isManLine_139 (by decide) ?_
                refine v_iadd O dX8_isManLine_140 ?_
                refine v_iald O (g41 h41 (by decide)) (cg_30 G _) dX8_isManLine_141 e (fun e => ?_)
                refine v_cSi O [.ref (G.1 29), .int (h12.1 25 17), .int (h12.1 30 (ix (a0 + 3)))] [] gX8_isManLine_X8_isOf cw_X8_isManLine_X8_isOf rfl rfl (Nat.le_of_ble_eq_true rfl) dX8_isManLine_142 e (fun _ e9 => f_X8_isOf_ok_29 h41 e9) (fun r13 h14 e => ?_)
                refine v_if_eq O dX8_isManLine_145 153 (by decide) e (fun e => ?_) (fun e => ?_)
                · refine v_aload_n O dX8_isManLine_153 0 rfl rfl ?_
                  refine v_get O fd_X8_isManLine_23 (g41 h41 (by decide)) (cg_25 G _) rfl dX8_isManLine_154 ?_
                  refine v_aload_n O dX8_isManLine_157 0 rfl rfl ?_
                  refine v_get O fd_X8_isManLine_123 (g41 h41 (by decide)) (cg_25 G _) rfl dX8_isManLine_158 ?_
                  refine v_aload_n O dX8_isManLine_161 0 rfl rfl ?_
                  refine v_get O fd_X8_isManLine_29 (g41 h41 (by decide)) (cg_25 G _) rfl dX8_isManLine_162 ?_
                  refine v_iload_n O dX8_isManLine_165 1 rfl rfl ?_
                  refine v_iconst (v := 2) O dX8_isManLine_166 (by decide) ?_
                  refine v_iadd O dX8_isManLine_167 ?_
                  refine v_iald O (g41 h41 (by decide)) (cg_30 G _) dX8_isManLine_168 e (fun e => ?_)
                  refine v_iast O (g41 h41 (by decide)) (cg_28 G _) (cw_28 G _ _ _) dX8_isManLine_169 e (fun h15 e => ?_)
                  refine v_aload_n O dX8_isManLine_170 0 rfl rfl ?_
                  refine v_get O fd_X8_isManLine_26 (g41 h41 (by decide)) (cg_25 G _) rfl dX8_isManLine_171 ?_
                  refine v_aload_n O dX8_isManLine_174 0 rfl rfl ?_
                  refine v_get O fd_X8_isManLine_123 (g41 h41 (by decide)) (cg_25 G _) rfl dX8_isManLine_175 ?_
                  refine v_aload_n O dX8_isManLine_178 0 rfl rfl ?_
                  refine v_get O fd_X8_isManLine_29 (g41 h41 (by decide)) (cg_25 G _) rfl dX8_isManLine_179 ?_
                  refine v_iload_n O dX8_isManLine_182 1 rfl rfl ?_
                  refine v_iconst (v := 3) O dX8_isManLine_183 (by decide) ?_
                  refine v_iadd O dX8_isManLine_184 ?_
                  refine v_iald O (g41 h41 (by decide)) (cg_30 G _) dX8_isManLine_185 e (fun e => ?_)
                  refine v_iast O (g41 h41 (by decide)) (cg_29 G _) (cw_29 G _ _ _) dX8_isManLine_186 e (fun h16 e => ?_)
                  refine v_aload_n O dX8_isManLine_187 0 rfl rfl ?_
                  refine v_dup O dX8_isManLine_188 rfl ?_
                  refine v_get O fd_X8_isManLine_123 (g41 h41 (by decide)) (cg_25 G _) rfl dX8_isManLine_189 ?_
                  refine v_iconst (v := 1) O dX8_isManLine_192 (by decide) ?_
                  refine v_iadd O dX8_isManLine_193 ?_
                  refine v_put O fd_X8_isManLine_123 fp_X8_17 (g41 h41 (by decide)) (cg_25 G _) (Nat.le_of_ble_eq_true rfl) (cs_25_17 G _ _) dX8_isManLine_194 e (fun h17 e => ?_)
                  refine v_iconst (v := 1) O dX8_isManLine_197 (by decide) ?_
                  exact v_zret O dX8_isManLine_198 e
                · refine v_sub [0] rfl ?_
                  exact f_X8_isManLine_b148_ok h41 O N _ e
            · refine v_iconst (v := 0) O dX8_isManLine_106 (by decide) ?_
              exact v_zret O dX8_isManLine_107 e
          · refine v_sub [0] rfl ?_
            exact f_X8_isManLine_b84_ok h41 O N _ e
      · refine v_sub [] rfl ?_
        exact f_X8_isManLine_b42_ok h41 O N _ e
  · refine v_aload_n O dX8_isManLine_8 0 rfl rfl ?_
    refine v_cVi O [] [] gX8_isManLine_X8_fails cw_X8_isManLine_X8_fails rfl rfl (g41 h41 (by decide)) (cg_25 G _) rfl rfl (Nat.le_of_ble_eq_true rfl) dX8_isManLine_9 e (fun _ e9 => f_X8_fails_ok h41 e9) (fun r18 h19 e => ?_)
    exact v_zret O dX8_isManLine_12 e
/-! ===== X8 isLine ===== -/
abbrev rm_X8_isLine : Room := { frames := 4, cells := 0, slots := 0, locals := 87 }
theorem fd_X8_isLine_29 : FdO wsX8_isLine RX8 29 RX8 TX8 34 8 20 := ⟨by decide +kernel, rfl, by decide, by decide +kernel⟩
theorem fd_X8_isLine_90 : FdO wsX8_isLine RX8 90 RX8 TX8 34 8 10 := ⟨by decide +kernel, rfl, by decide, by decide +kernel⟩
theorem fd_X8_isLine_123 : FdO wsX8_isLine RX8 123 RX8 TX8 34 8 17 := ⟨by decide +kernel, rfl, by decide, by decide +kernel⟩
theorem cw_X8_isLine_X8_fails : CwO rm_X8_isLine yX8_fails wsX8_fails cX8_fails 1 (some .boolean) rm_X8_fails 0 := ⟨⟨_, rfl⟩, rfl, rfl, by decide +kernel, by decide, by decide⟩
theorem cw_X8_isLine_X8_isBoard : CwO rm_X8_isLine yX8_isBoard wsX8_isBoard cX8_isBoard 2 (some .boolean) rm_X8_isBoard 1 := ⟨⟨_, rfl⟩, rfl, rfl, by decide +kernel, by decide, by decide⟩
theorem cw_X8_isLine_X8_isHole : CwO rm_X8_isLine yX8_isHole wsX8_isHole cX8_isHole 3 (some .boolean) rm_X8_isHole 1 := ⟨⟨_, rfl⟩, rfl, rfl, by decide +kernel, by decide, by decide⟩
theorem cw_X8_isLine_X8_isManLine : CwO rm_X8_isLine yX8_isManLine wsX8_isManLine cX8_isManLine 2 (some .boolean) rm_X8_isManLine 1 := ⟨⟨_, rfl⟩, rfl, rfl, by decide +kernel, by decide, by decide⟩
theorem cw_X8_isLine_X8_nextToken : CwO rm_X8_isLine yX8_nextToken wsX8_nextToken cX8_nextToken 1 (none) rm_X8_nextToken 0 := ⟨⟨_, rfl⟩, rfl, rfl, by decide +kernel, by decide, by decide⟩
set_option maxRecDepth 20000 in
theorem f_X8_isLine_b240_ok {X : Cx} {G : Gx} {z : Rs} (h41 : 41 ≤ gN G) (O : Ok X G cX8_isLine RX8 4 wsX8_isLine (some .boolean) rm_X8_isLine) (N : Nat) (v1 : Int32) (h : Hp) (e : f_X8_isLine_b240 N v1 h = some z) : V X G 4 (QI X G z) h 240 [(0, .ref (G.1 25)), (1, .int v1)] [] := by
  unfold f_X8_isLine_b240 at e
  refine v_aload_n O dX8_isLine_240 0 rfl rfl ?_
  refine v_iload_n O dX8_isLine_241 1 rfl rfl ?_
  refine v_cVi O [.int v1] [] gX8_isLine_X8_isManLine cw_X8_isLine_X8_isManLine rfl rfl (g41 h41 (by decide)) (cg_25 G _) rfl rfl (Nat.le_of_ble_eq_true rfl) dX8_isLine_242 e (fun _ e9 => f_X8_isManLine_ok h41 e9) (fun r1 h2 e => ?_)
  exact v_zret O dX8_isLine_245 e
set_option maxRecDepth 20000 in
theorem f_X8_isLine_b246_ok {X : Cx} {G : Gx} {z : Rs} (h41 : 41 ≤ gN G) (O : Ok X G cX8_isLine RX8 4 wsX8_isLine (some .boolean) rm_X8_isLine) (N : Nat) (h : Hp) (e : f_X8_isLine_b246 N h = some z) : V X G 4 (QI X G z) h 246 [] [] := by
  unfold f_X8_isLine_b246 at e
  refine v_iconst (v := 1) O dX8_isLine_246 (by decide) ?_
  exact v_zret O dX8_isLine_247 e
set_option maxRecDepth 20000 in
theorem f_X8_isLine_b177_ok {X : Cx} {G : Gx} {z : Rs} (h41 : 41 ≤ gN G) (O : Ok X G cX8_isLine RX8 4 wsX8_isLine (some .boolean) rm_X8_isLine) (N : Nat) (v1 : Int32) (s0 : Int32) (s1 : Int32) (h : Hp) (e : f_X8_isLine_b177 N v1 s0 s1 h = some z) : V X G 4 (QI X G z) h 177 [(0, .ref (G.1 25)), (1, .int v1)] [.int s0, .int s1, .ref (G.1 30)] := by
  unfold f_X8_isLine_b177 at e
  refine v_iast O (g41 h41 (by decide)) (cg_30 G _) (cw_30 G _ _ _) dX8_isLine_177 e (fun h1 e => ?_)
  refine v_aload_n O dX8_isLine_178 0 rfl rfl ?_
  refine v_get O fd_X8_isLine_29 (g41 h41 (by decide)) (cg_25 G _) rfl dX8_isLine_179 ?_
  refine v_iload_n O dX8_isLine_182 1 rfl rfl ?_
  refine v_iald O (g41 h41 (by decide)) (cg_30 G _) dX8_isLine_183 e (fun e => ?_)
  refine v_if (c := (h1.1 30 (ix v1)) = 0) e (fun c0 e => ?_) (fun c0 e => ?_)
  · refine v_tabIn O dX8_isLine_184 c0 (by decide) (by decide) (by first | rfl | decide) 240 (by decide) ?_
    exact f_X8_isLine_b240_ok h41 O N _ _ e
  refine v_if (c := (h1.1 30 (ix v1)) = 1) e (fun c1 e => ?_) (fun c1 e => ?_)
  · refine v_tabIn O dX8_isLine_184 c1 (by decide) (by decide) (by first | rfl | decide) 240 (by decide) ?_
    exact f_X8_isLine_b240_ok h41 O N _ _ e
  refine v_if (c := (h1.1 30 (ix v1)) = 2) e (fun c2 e => ?_) (fun c2 e => ?_)
  · refine v_tabIn O dX8_isLine_184 c2 (by decide) (by decide) (by first | rfl | decide) 240 (by decide) ?_
    exact f_X8_isLine_b240_ok h41 O N _ _ e
  refine v_if (c := (h1.1 30 (ix v1)) = 3) e (fun c3 e => ?_) (fun c3 e => ?_)
  · refine v_tabIn O dX8_isLine_184 c3 (by decide) (by decide) (by first | rfl | decide) 240 (by decide) ?_
    exact f_X8_isLine_b240_ok h41 O N _ _ e
  refine v_if (c := (h1.1 30 (ix v1)) = 4) e (fun c4 e => ?_) (fun c4 e => ?_)
  · refine v_tabIn O dX8_isLine_184 c4 (by decide) (by decide) (by first | rfl | decide) 246 (by decide) ?_
    refine v_sub [] rfl ?_
    exact f_X8_isLine_b246_ok h41 O N _ e
  refine v_if (c := (h1.1 30 (ix v1)) = 5) e (fun c5 e => ?_) (fun c5 e => ?_)
  · refine v_tabIn O dX8_isLine_184 c5 (by decide) (by decide) (by first | rfl | decide) 246 (by decide) ?_
    refine v_sub [] rfl ?_
    exact f_X8_isLine_b246_ok h41 O N _ e
  refine v_if (c := (h1.1 30 (ix v1)) = 6) e (fun c6 e => ?_) (fun c6 e => ?_)
  · refine v_tabIn O dX8_isLine_184 c6 (by decide) (by decide) (by first | rfl | decide) 246 (by decide) ?_
    refine v_sub [] rfl ?_
    exact f_X8_isLine_b246_ok h41 O N _ e
  refine v_if (c := (h1.1 30 (ix v1)) = 7) e (fun c7 e => ?_) (fun c7 e => ?_)
  · refine v_tabIn O dX8_isLine_184 c7 (by decide) (by decide) (by first | rfl | decide) 248 (by decide) ?_
    refine v_aload_n O dX8_isLine_248 0 rfl rfl ?_
    refine v_iconst (v := 0) O dX8_isLine_249 (by decide) ?_
    refine v_put O fd_X8_isLine_123 fp_X8_17 (g41 h41 (by decide)) (cg_25 G _) (Nat.le_of_ble_eq_true rfl) (cs_25_17 G _ _) dX8_isLine_250 e (fun h2 e => ?_)
    refine v_iconst (v := 1) O dX8_isLine_253 (by decide) ?_
    exact v_zret O dX8_isLine_254 e
  refine v_if (c := (h1.1 30 (ix v1)) = 8) e (fun c8 e => ?_) (fun c8 e => ?_)
  · refine v_tabIn O dX8_isLine_184 c8 (by decide) (by decide) (by first | rfl | decide) 255 (by decide) ?_
    refine v_aload_n O dX8_isLine_255 0 rfl rfl ?_
    refine v_iload_n O dX8_isLine_256 1 rfl rfl ?_
    refine v_cVi O [.int v1] [] gX8_isLine_X8_isBoard cw_X8_isLine_X8_isBoard rfl rfl (g41 h41 (by decide)) (cg_25 G _) rfl rfl (Nat.le_of_ble_eq_true rfl) dX8_isLine_257 e (fun _ e9 => f_X8_isBoard_ok h41 e9) (fun r3 h4 e => ?_)
    exact v_zret O dX8_isLine_260 e
  refine v_if (c := (h1.1 30 (ix v1)) = 9) e (fun c9 e => ?_) (fun c9 e => ?_)
  · refine v_tabIn O dX8_isLine_184 c9 (by decide) (by decide) (by first | rfl | decide) 261 (by decide) ?_
    refine v_aload_n O dX8_isLine_261 0 rfl rfl ?_
    refine v_iload_n O dX8_isLine_262 1 rfl rfl ?_
    refine v_cVi O [.int v1] [] gX8_isLine_X8_isHole cw_X8_isLine_X8_isHole rfl rfl (g41 h41 (by decide)) (cg_25 G _) rfl rfl (Nat.le_of_ble_eq_true rfl) dX8_isLine_263 e (fun _ e9 => f_X8_isHole_ok h41 e9) (fun r5 h6 e => ?_)
    exact v_zret O dX8_isLine_266 e
  refine v_tabOut O dX8_isLine_184 (by have q0 := lv_neT (a := 0) c0 rfl; have q1 := lv_neT (a := 1) c1 rfl; have q2 := lv_neT (a := 2) c2 rfl; have q3 := lv_neT (a := 3) c3 rfl; have q4 := lv_neT (a := 4) c4 rfl; have q5 := lv_neT (a := 5) c5 rfl; have q6 := lv_neT (a := 6) c6 rfl; have q7 := lv_neT (a := 7) c7 rfl; have q8 := lv_neT (a := 8) c8 rfl; have q9 := lv_neT (a := 9) c9 rfl; omega) 267 (by decide) ?_
  refine v_aload_n O dX8_isLine_267 0 rfl rfl ?_
  refine v_cVi O [] [] gX8_isLine_X8_fails cw_X8_isLine_X8_fails rfl rfl (g41 h41 (by decide)) (cg_25 G _) rfl rfl (Nat.le_of_ble_eq_true rfl) dX8_isLine_268 e (fun _ e9 => f_X8_fails_ok h41 e9) (fun r7 h8 e => ?_)
  exact v_zret O dX8_isLine_271 e
set_option maxRecDepth 20000 in
theorem f_X8_isLine_b161_ok {X : Cx} {G : Gx} {z : Rs} (h41 : 41 ≤ gN G) (O : Ok X G cX8_isLine RX8 4 wsX8_isLine (some .boolean) rm_X8_isLine) (N : Nat) (v1 : Int32) (v2 : Int32) (s0 : Int32) (h : Hp) (e : f_X8_isLine_b161 N v1 v2 s0 h = some z) : V X G 4 (QI X G z) h 161 [(0, .ref (G.1 25)), (1, .int v1), (2, .int v2)] [.int s0] := by
  unfold f_X8_isLine_b161 at e
  refine v_istore_n O dX8_isLine_161 rfl (by decide) (fun x1 => [(3, .int x1), (0, .ref (G.1 25)), (1, .int v1), (2, .int v2)]) (fun _ => rfl) e (fun x1 e => ?_)
  refine v_aload_n O dX8_isLine_162 1 rfl rfl ?_
  refine v_get O fd_X8_isLine_29 (g41 h41 (by decide)) (cg_25 G _) rfl dX8_isLine_163 ?_
  refine v_iload_n O dX8_isLine_166 2 rfl rfl ?_
  refine v_iload_n O dX8_isLine_167 3 rfl rfl ?_
  refine v_iconst (v := (-1)) O dX8_isLine_168 (by decide) ?_
  refine v_icmp_ne O dX8_isLine_169 176 (by decide) e (fun e => ?_) (fun e => ?_)
  · refine v_iload_n O dX8_isLine_176 3 rfl rfl ?_
    refine v_sub [1, 2] rfl ?_
    exact f_X8_isLine_b177_ok h41 O N _ _ _ _ e
  · refine v_iload_n O dX8_isLine_172 0 rfl rfl ?_
    refine v_goto O dX8_isLine_173 177 (by decide) ?_
    refine v_sub [1, 2] rfl ?_
    exact f_X8_isLine_b177_ok h41 O N _ _ _ _ e
set_option maxRecDepth 20000 in
theorem f_X8_isLine_b80_ok {X : Cx} {G : Gx} {z : Rs} (h41 : 41 ≤ gN G) (O : Ok X G cX8_isLine RX8 4 wsX8_isLine (some .boolean) rm_X8_isLine) (N : Nat) (v1 : Int32) (s0 : Int32) (h : Hp) (e : f_X8_isLine_b80 N v1 s0 h = some z) : V X G 4 (QI X G z) h 80 [(0, .ref (G.1 25)), (1, .int v1)] [.int s0] := by
  unfold f_X8_isLine_b80 at e
  refine v_istore_n O dX8_isLine_80 rfl (by decide) (fun x1 => [(2, .int x1), (0, .ref (G.1 25)), (1, .int v1)]) (fun _ => rfl) e (fun x1 e => ?_)
  refine v_aload_n O dX8_isLine_81 1 rfl rfl ?_
  refine v_get O fd_X8_isLine_90 (g41 h41 (by decide)) (cg_25 G _) rfl dX8_isLine_82 ?_
  refine v_ldc2 (v := 11055682) O dX8_isLine_85 (by decide +kernel) ?_
  refine v_lcmp O dX8_isLine_88 ?_
  refine v_if_ne O dX8_isLine_89 96 (by decide) e (fun e => ?_) (fun e => ?_)
  · refine v_aload_n O dX8_isLine_96 1 rfl rfl ?_
    refine v_get O fd_X8_isLine_90 (g41 h41 (by decide)) (cg_25 G _) rfl dX8_isLine_97 ?_
    refine v_ldc2 (v := 374873) O dX8_isLine_100 (by decide +kernel) ?_
    refine v_lcmp O dX8_isLine_103 ?_
    refine v_if_ne O dX8_isLine_104 112 (by decide) e (fun e => ?_) (fun e => ?_)
    · refine v_aload_n O dX8_isLine_112 1 rfl rfl ?_
      refine v_get O fd_X8_isLine_90 (g41 h41 (by decide)) (cg_25 G _) rfl dX8_isLine_113 ?_
      refine v_ldc2 (v := 40586) O dX8_isLine_116 (by decide +kernel) ?_
      refine v_lcmp O dX8_isLine_119 ?_
      refine v_if_ne O dX8_isLine_120 128 (by decide) e (fun e => ?_) (fun e => ?_)
      · refine v_aload_n O dX8_isLine_128 1 rfl rfl ?_
        refine v_get O fd_X8_isLine_90 (g41 h41 (by decide)) (cg_25 G _) rfl dX8_isLine_129 ?_
        refine v_ldc2 (v := 1359346) O dX8_isLine_132 (by decide +kernel) ?_
        refine v_lcmp O dX8_isLine_135 ?_
        refine v_if_ne O dX8_isLine_136 144 (by decide) e (fun e => ?_) (fun e => ?_)
        · refine v_aload_n O dX8_isLine_144 1 rfl rfl ?_
          refine v_get O fd_X8_isLine_90 (g41 h41 (by decide)) (cg_25 G _) rfl dX8_isLine_145 ?_
          refine v_ldc2 (v := 168728) O dX8_isLine_148 (by decide +kernel) ?_
          refine v_lcmp O dX8_isLine_151 ?_
          refine v_if_ne O dX8_isLine_152 160 (by decide) e (fun e => ?_) (fun e => ?_)
          · refine v_iconst (v := (-1)) O dX8_isLine_160 (by decide) ?_
            refine v_sub [1, 2, 0] rfl ?_
            exact f_X8_isLine_b161_ok h41 O N _ _ _ _ e
          · refine v_bipush (v := 9) O dX8_isLine_155 (by decide) ?_
            refine v_goto O dX8_isLine_157 161 (by decide) ?_
            refine v_sub [1, 2, 0] rfl ?_
            exact f_X8_isLine_b161_ok h41 O N _ _ _ _ e
        · refine v_bipush (v := 8) O dX8_isLine_139 (by decide) ?_
          refine v_goto O dX8_isLine_141 161 (by decide) ?_
          refine v_sub [1, 2, 0] rfl ?_
          exact f_X8_isLine_b161_ok h41 O N _ _ _ _ e
      · refine v_bipush (v := 7) O dX8_isLine_123 (by decide) ?_
        refine v_goto O dX8_isLine_125 161 (by decide) ?_
        refine v_sub [1, 2, 0] rfl ?_
        exact f_X8_isLine_b161_ok h41 O N _ _ _ _ e
    · refine v_bipush (v := 6) O dX8_isLine_107 (by decide) ?_
      refine v_goto O dX8_isLine_109 161 (by decide) ?_
      refine v_sub [1, 2, 0] rfl ?_
      exact f_X8_isLine_b161_ok h41 O N _ _ _ _ e
  · refine v_iconst (v := 5) O dX8_isLine_92 (by decide) ?_
    refine v_goto O dX8_isLine_93 161 (by decide) ?_
    refine v_sub [1, 2, 0] rfl ?_
    exact f_X8_isLine_b161_ok h41 O N _ _ _ _ e
set_option maxRecDepth 20000 in
theorem f_X8_isLine_ok {l : Launch} {G : Gx} {N : Nat} (h41 : 41 ≤ gN G) {a0 : Int32} {h : Hp} {z : Rs} (e : f_X8_isLine N a0 h = some z) : CI l G yX8_isLine wsX8_isLine rm_X8_isLine [.ref (G.1 25), .int a0] h z := by
  refine m_bool _ (by decide) rfl [(0, .ref (G.1 25)), (1, .int a0)] rfl (Nat.le_of_ble_eq_true rfl) (fun X O => ?_)
  unfold f_X8_isLine at e
  refine v_aload_n O dX8_isLine_0 0 rfl rfl ?_
  refine v_cVv O [] [] gX8_isLine_X8_nextToken cw_X8_isLine_X8_nextToken rfl rfl (g41 h41 (by decide)) (cg_25 G _) rfl rfl (Nat.le_of_ble_eq_true rfl) dX8_isLine_1 e (fun _ e9 => f_X8_nextToken_ok h41 e9) (fun _ h1 e => ?_)
  refine v_aload_n O dX8_isLine_4 0 rfl rfl ?_
  refine v_get O fd_X8_isLine_90 (g41 h41 (by decide)) (cg_25 G _) rfl dX8_isLine_5 ?_
  refine v_ldc2 (v := 165460637) O dX8_isLine_8 (by decide +kernel) ?_
  refine v_lcmp O dX8_isLine_11 ?_
  refine v_if_ne O dX8_isLine_12 19 (by decide) e (fun e => ?_) (fun e => ?_)
  · refine v_aload_n O dX8_isLine_19 0 rfl rfl ?_
    refine v_get O fd_X8_isLine_90 (g41 h41 (by decide)) (cg_25 G _) rfl dX8_isLine_20 ?_
    refine v_ldc2 (v := 223459) O dX8_isLine_23 (by decide +kernel) ?_
    refine v_lcmp O dX8_isLine_26 ?_
    refine v_if_ne O dX8_isLine_27 34 (by decide) e (fun e => ?_) (fun e => ?_)
    · refine v_aload_n O dX8_isLine_34 0 rfl rfl ?_
      refine v_get O fd_X8_isLine_90 (g41 h41 (by decide)) (cg_25 G _) rfl dX8_isLine_35 ?_
      refine v_ldc2 (v := 365645) O dX8_isLine_38 (by decide +kernel) ?_
      refine v_lcmp O dX8_isLine_41 ?_
      refine v_if_ne O dX8_isLine_42 49 (by decide) e (fun e => ?_) (fun e => ?_)
      · refine v_aload_n O dX8_isLine_49 0 rfl rfl ?_
        refine v_get O fd_X8_isLine_90 (g41 h41 (by decide)) (cg_25 G _) rfl dX8_isLine_50 ?_
        refine v_ldc2 (v := 33861013) O dX8_isLine_53 (by decide +kernel) ?_
        refine v_lcmp O dX8_isLine_56 ?_
        refine v_if_ne O dX8_isLine_57 64 (by decide) e (fun e => ?_) (fun e => ?_)
        · refine v_aload_n O dX8_isLine_64 0 rfl rfl ?_
          refine v_get O fd_X8_isLine_90 (g41 h41 (by decide)) (cg_25 G _) rfl dX8_isLine_65 ?_
          refine v_ldc2 (v := 131360) O dX8_isLine_68 (by decide +kernel) ?_
          refine v_lcmp O dX8_isLine_71 ?_
          refine v_if_ne O dX8_isLine_72 79 (by decide) e (fun e => ?_) (fun e => ?_)
          · refine v_iconst (v := (-1)) O dX8_isLine_79 (by decide) ?_
            exact f_X8_isLine_b80_ok h41 O N _ _ _ e
          · refine v_iconst (v := 4) O dX8_isLine_75 (by decide) ?_
            refine v_goto O dX8_isLine_76 80 (by decide) ?_
            exact f_X8_isLine_b80_ok h41 O N _ _ _ e
        · refine v_iconst (v := 3) O dX8_isLine_60 (by decide) ?_
          refine v_goto O dX8_isLine_61 80 (by decide) ?_
          exact f_X8_isLine_b80_ok h41 O N _ _ _ e
      · refine v_iconst (v := 2) O dX8_isLine_45 (by decide) ?_
        refine v_goto O dX8_isLine_46 80 (by decide) ?_
        exact f_X8_isLine_b80_ok h41 O N _ _ _ e
    · refine v_iconst (v := 1) O dX8_isLine_30 (by decide) ?_
      refine v_goto O dX8_isLine_31 80 (by decide) ?_
      exact f_X8_isLine_b80_ok h41 O N _ _ _ e
  · refine v_iconst (v := 0) O dX8_isLine_15 (by decide) ?_
    refine v_goto O dX8_isLine_16 80 (by decide) ?_
    exact f_X8_isLine_b80_ok h41 O N _ _ _ e
/-! ===== X8 isRead ===== -/
abbrev rm_X8_isRead : Room := { frames := 5, cells := 0, slots := 0, locals := 110 }
theorem fd_X8_isRead_7 : FdO wsX8_isRead RX8 7 RX8 TX8 34 8 0 := ⟨by decide +kernel, rfl, by decide, by decide +kernel⟩
theorem fd_X8_isRead_13 : FdO wsX8_isRead RX8 13 RX8 TX8 34 8 1 := ⟨by decide +kernel, rfl, by decide, by decide +kernel⟩
theorem fd_X8_isRead_16 : FdO wsX8_isRead RX8 16 RX8 TX8 34 8 5 := ⟨by decide +kernel, rfl, by decide, by decide +kernel⟩
theorem fd_X8_isRead_23 : FdO wsX8_isRead RX8 23 RX8 TX8 34 8 18 := ⟨by decide +kernel, rfl, by decide, by decide +kernel⟩
theorem fd_X8_isRead_26 : FdO wsX8_isRead RX8 26 RX8 TX8 34 8 19 := ⟨by decide +kernel, rfl, by decide, by decide +kernel⟩
theorem fd_X8_isRead_68 : FdO wsX8_isRead RX8 68 RX8 TX8 34 8 4 := ⟨by decide +kernel, rfl, by decide, by decide +kernel⟩
theorem fd_X8_isRead_76 : FdO wsX8_isRead RX8 76 RX8 TX8 34 8 8 := ⟨by decide +kernel, rfl, by decide, by decide +kernel⟩
theorem fd_X8_isRead_90 : FdO wsX8_isRead RX8 90 RX8 TX8 34 8 10 := ⟨by decide +kernel, rfl, by decide, by decide +kernel⟩
theorem fd_X8_isRead_117 : FdO wsX8_isRead RX8 117 RX8 TX8 34 8 15 := ⟨by decide +kernel, rfl, by decide, by decide +kernel⟩
theorem fd_X8_isRead_120 : FdO wsX8_isRead RX8 120 RX8 TX8 34 8 16 := ⟨by decide +kernel, rfl, by decide, by decide +kernel⟩
theorem fd_X8_isRead_123 : FdO wsX8_isRead RX8 123 RX8 TX8 34 8 17 := ⟨by decide +kernel, rfl, by decide, by decide +kernel⟩
theorem fd_X8_isRead_164 : FdO wsX8_isRead RX8 164 RX8 TX8 34 8 14 := ⟨by decide +kernel, rfl, by decide, by decide +kernel⟩
theorem fd_X8_isRead_167 : FdO wsX8_isRead RX8 167 RX8 TX8 34 8 2 := ⟨by decide +kernel, rfl, by decide, by decide +kernel⟩
theorem cw_X8_isRead_X8_fails : CwO rm_X8_isRead yX8_fails wsX8_fails cX8_fails 1 (some .boolean) rm_X8_fails 0 := ⟨⟨_, rfl⟩, rfl, rfl, by decide +kernel, by decide, by decide⟩
theorem cw_X8_isRead_X8_isLine : CwO rm_X8_isRead yX8_isLine wsX8_isLine cX8_isLine 4 (some .boolean) rm_X8_isLine 1 := ⟨⟨_, rfl⟩, rfl, rfl, by decide +kernel, by decide, by decide⟩
theorem cw_X8_isRead_X8_nextToken : CwO rm_X8_isRead yX8_nextToken wsX8_nextToken cX8_nextToken 1 (none) rm_X8_nextToken 0 := ⟨⟨_, rfl⟩, rfl, rfl, by decide +kernel, by decide, by decide⟩
set_option maxRecDepth 20000 in
theorem f_X8_isRead_b147_ok {X : Cx} {G : Gx} {z : Rs} (h41 : 41 ≤ gN G) (O : Ok X G cX8_isRead RX8 2 wsX8_isRead (some .boolean) rm_X8_isRead) (N : Nat) (k89 : Int32 → Hp → Option Rs) (hk89 : ∀ (v1 : Int32) (h : Hp), k89 v1 h = some z → V X G 2 (QI X G z) h 89 [(0, .ref (G.1 25)), (1, .int v1)] []) (s0 : Int32) (h : Hp) (e : f_X8_isRead_b147 N k89 s0 h = some z) : V X G 2 (QI X G z) h 147 [(0, .ref (G.1 25))] [.int s0] := by
  unfold f_X8_isRead_b147 at e
  refine v_istore_n O dX8_isRead_147 rfl (by decide) (fun x1 => [(1, .int x1), (0, .ref (G.1 25))]) (fun _ => rfl) e (fun x1 e => ?_)
  refine v_goto O dX8_isRead_148 89 (by decide) ?_
  refine v_sub [1, 0] rfl ?_
  exact hk89 _ _ e
set_option maxRecDepth 20000 in
theorem f_X8_isRead_b146_ok {X : Cx} {G : Gx} {z : Rs} (h41 : 41 ≤ gN G) (O : Ok X G cX8_isRead RX8 2 wsX8_isRead (some .boolean) rm_X8_isRead) (N : Nat) (k89 : Int32 → Hp → Option Rs) (hk89 : ∀ (v1 : Int32) (h : Hp), k89 v1 h = some z → V X G 2 (QI X G z) h 89 [(0, .ref (G.1 25)), (1, .int v1)] []) (h : Hp) (e : f_X8_isRead_b146 N k89 h = some z) : V X G 2 (QI X G z) h 146 [(0, .ref (G.1 25))] [] := by
  unfold f_X8_isRead_b146 at e
  refine v_iconst (v := 0) O dX8_isRead_146 (by decide) ?_
  exact f_X8_isRead_b147_ok h41 O N k89 hk89 _ _ e
set_option maxRecDepth 20000 in
theorem f_X8_isRead_b174_ok {X : Cx} {G : Gx} {z : Rs} (h41 : 41 ≤ gN G) (O : Ok X G cX8_isRead RX8 2 wsX8_isRead (some .boolean) rm_X8_isRead) (N : Nat) (s0 : Int32) (h : Hp) (e : f_X8_isRead_b174 N s0 h = some z) : V X G 2 (QI X G z) h 174 [] [.int s0] := by
  unfold f_X8_isRead_b174 at e
  exact v_zret O dX8_isRead_174 e
set_option maxRecDepth 20000 in
theorem f_X8_isRead_b169_ok {X : Cx} {G : Gx} {z : Rs} (h41 : 41 ≤ gN G) (O : Ok X G cX8_isRead RX8 2 wsX8_isRead (some .boolean) rm_X8_isRead) (N : Nat) (h : Hp) (e : f_X8_isRead_b169 N h = some z) : V X G 2 (QI X G z) h 169 [] [] := by
  unfold f_X8_isRead_b169 at e
  refine v_iconst (v := 1) O dX8_isRead_169 (by decide) ?_
  refine v_goto O dX8_isRead_170 174 (by decide) ?_
  exact f_X8_isRead_b174_ok h41 O N _ _ e
set_option maxRecDepth 20000 in
theorem f_X8_isRead_b89_ok {X : Cx} {G : Gx} {z : Rs} (h41 : 41 ≤ gN G) (O : Ok X G cX8_isRead RX8 2 wsX8_isRead (some .boolean) rm_X8_isRead) (N : Nat) (k89 : Int32 → Hp → Option Rs) (hk89 : ∀ (v1 : Int32) (h : Hp), k89 v1 h = some z → V X G 2 (QI X G z) h 89 [(0, .ref (G.1 25)), (1, .int v1)] []) (v1 : Int32) (h : Hp) (e : f_X8_isRead_b89 N k89 v1 h = some z) : V X G 2 (QI X G z) h 89 [(0, .ref (G.1 25)), (1, .int v1)] [] := by
  unfold f_X8_isRead_b89 at e
  refine v_iload_n O dX8_isRead_89 1 rfl rfl ?_
  refine v_if_eq O dX8_isRead_90 151 (by decide) e (fun e => ?_) (fun e => ?_)
  · refine v_aload_n O dX8_isRead_151 0 rfl rfl ?_
    refine v_get O fd_X8_isRead_90 (g41 h41 (by decide)) (cg_25 G _) rfl dX8_isRead_152 ?_
    refine v_ldc2 (v := (-2)) O dX8_isRead_155 (by decide +kernel) ?_
    refine v_lcmp O dX8_isRead_158 ?_
    refine v_if_eq O dX8_isRead_159 169 (by decide) e (fun e => ?_) (fun e => ?_)
    · refine v_sub [] rfl ?_
      exact f_X8_isRead_b169_ok h41 O N _ e
    · refine v_aload_n O dX8_isRead_162 0 rfl rfl ?_
      refine v_cVi O [] [] gX8_isRead_X8_fails cw_X8_isRead_X8_fails rfl rfl (g41 h41 (by decide)) (cg_25 G _) rfl rfl (Nat.le_of_ble_eq_true rfl) dX8_isRead_163 e (fun _ e9 => f_X8_fails_ok h41 e9) (fun r1 h2 e => ?_)
      refine v_if_eq O dX8_isRead_166 173 (by decide) e (fun e => ?_) (fun e => ?_)
      · refine v_iconst (v := 0) O dX8_isRead_173 (by decide) ?_
        refine v_sub [] rfl ?_
        exact f_X8_isRead_b174_ok h41 O N _ _ e
      · refine v_sub [] rfl ?_
        exact f_X8_isRead_b169_ok h41 O N _ e
  · refine v_aload_n O dX8_isRead_93 0 rfl rfl ?_
    refine v_iconst (v := 4) O dX8_isRead_94 (by decide) ?_
    refine v_aload_n O dX8_isRead_95 0 rfl rfl ?_
    refine v_get O fd_X8_isRead_164 (g41 h41 (by decide)) (cg_25 G _) rfl dX8_isRead_96 ?_
    refine v_imul O dX8_isRead_99 ?_
    refine v_cVi O [.int ((4 : Int32) * (h.1 25 14))] [] gX8_isRead_X8_isLine cw_X8_isRead_X8_isLine rfl rfl (g41 h41 (by decide)) (cg_25 G _) rfl rfl (Nat.le_of_ble_eq_true rfl) dX8_isRead_100 e (fun _ e9 => f_X8_isLine_ok h41 e9) (fun r3 h4 e => ?_)
    refine v_if_ne O dX8_isRead_103 108 (by decide) e (fun e => ?_) (fun e => ?_)
    · refine v_aload_n O dX8_isRead_108 0 rfl rfl ?_
      refine v_dup O dX8_isRead_109 rfl ?_
      refine v_get O fd_X8_isRead_164 (g41 h41 (by decide)) (cg_25 G _) rfl dX8_isRead_110 ?_
      refine v_iconst (v := 1) O dX8_isRead_113 (by decide) ?_
      refine v_iadd O dX8_isRead_114 ?_
      refine v_put O fd_X8_isRead_164 fp_X8_14 (g41 h41 (by decide)) (cg_25 G _) (Nat.le_of_ble_eq_true rfl) (cs_25_14 G _ _) dX8_isRead_115 e (fun h5 e => ?_)
      refine v_aload_n O dX8_isRead_118 0 rfl rfl ?_
      refine v_cVv O [] [] gX8_isRead_X8_nextToken cw_X8_isRead_X8_nextToken rfl rfl (g41 h41 (by decide)) (cg_25 G _) rfl rfl (Nat.le_of_ble_eq_true rfl) dX8_isRead_119 e (fun _ e9 => f_X8_nextToken_ok h41 e9) (fun _ h6 e => ?_)
      refine v_aload_n O dX8_isRead_122 0 rfl rfl ?_
      refine v_get O fd_X8_isRead_90 (g41 h41 (by decide)) (cg_25 G _) rfl dX8_isRead_123 ?_
      refine v_ldc2 (v := (-3)) O dX8_isRead_126 (by decide +kernel) ?_
      refine v_lcmp O dX8_isRead_129 ?_
      refine v_if_ne O dX8_isRead_130 146 (by decide) e (fun e => ?_) (fun e => ?_)
      · refine v_sub [0] rfl ?_
        exact f_X8_isRead_b146_ok h41 O N k89 hk89 _ e
      · refine v_aload_n O dX8_isRead_133 0 rfl rfl ?_
        refine v_get O fd_X8_isRead_164 (g41 h41 (by decide)) (cg_25 G _) rfl dX8_isRead_134 ?_
        refine v_bipush (v := 12) O dX8_isRead_137 (by decide) ?_
        refine v_icmp_ge O dX8_isRead_139 146 (by decide) e (fun e => ?_) (fun e => ?_)
        · refine v_sub [0] rfl ?_
          exact f_X8_isRead_b146_ok h41 O N k89 hk89 _ e
        · refine v_iconst (v := 1) O dX8_isRead_142 (by decide) ?_
          refine v_goto O dX8_isRead_143 147 (by decide) ?_
          refine v_sub [0] rfl ?_
          exact f_X8_isRead_b147_ok h41 O N k89 hk89 _ _ e
    · refine v_iconst (v := 0) O dX8_isRead_106 (by decide) ?_
      exact v_zret O dX8_isRead_107 e
theorem f_X8_isRead_l89_ok {X : Cx} {G : Gx} {z : Rs} (h41 : 41 ≤ gN G) (O : Ok X G cX8_isRead RX8 2 wsX8_isRead (some .boolean) rm_X8_isRead) (N : Nat) : ∀ (n : Nat) (v1 : Int32) (h : Hp), f_X8_isRead_l89 N n v1 h = some z → V X G 2 (QI X G z) h 89 [(0, .ref (G.1 25)), (1, .int v1)] [] := by
  intro n
  induction n with
  | zero => intro v1 h e; cases e
  | succ n ih => intro v1 h e; exact f_X8_isRead_b89_ok h41 O N _ ih v1 h e
set_option maxRecDepth 20000 in
theorem f_X8_isRead_b41_ok {X : Cx} {G : Gx} {z : Rs} (h41 : 41 ≤ gN G) (O : Ok X G cX8_isRead RX8 2 wsX8_isRead (some .boolean) rm_X8_isRead) (N : Nat) (k41 : Int32 → Hp → Option Rs) (hk41 : ∀ (v1 : Int32) (h : Hp), k41 v1 h = some z → V X G 2 (QI X G z) h 41 [(0, .ref (G.1 25)), (1, .int v1)] []) (v1 : Int32) (h : Hp) (e : f_X8_isRead_b41 N k41 v1 h = some z) : V X G 2 (QI X G z) h 41 [(0, .ref (G.1 25)), (1, .int v1)] [] := by
  unfold f_X8_isRead_b41 at e
  refine v_iload_n O dX8_isRead_41 1 rfl rfl ?_
  refine v_aload_n O dX8_isRead_42 0 rfl rfl ?_
  refine v_get O fd_X8_isRead_68 (g41 h41 (by decide)) (cg_25 G _) rfl dX8_isRead_43 ?_
  refine v_icmp_ge O dX8_isRead_46 87 (by decide) e (fun e => ?_) (fun e => ?_)
  · refine v_iconst (v := 1) O dX8_isRead_87 (by decide) ?_
    refine v_istore_n O dX8_isRead_88 rfl (by decide) (fun x1 => [(1, .int x1), (0, .ref (G.1 25))]) (fun _ => rfl) e (fun x1 e => ?_)
    refine v_sub [1, 0] rfl ?_
    exact f_X8_isRead_l89_ok h41 O N N _ _ e
  · refine v_aload_n O dX8_isRead_49 0 rfl rfl ?_
    refine v_get O fd_X8_isRead_23 (g41 h41 (by decide)) (cg_25 G _) rfl dX8_isRead_50 ?_
    refine v_iload_n O dX8_isRead_53 1 rfl rfl ?_
    refine v_aload_n O dX8_isRead_54 0 rfl rfl ?_
    refine v_get O fd_X8_isRead_16 (g41 h41 (by decide)) (cg_25 G _) rfl dX8_isRead_55 ?_
    refine v_iconst (v := 4) O dX8_isRead_58 (by decide) ?_
    refine v_iload_n O dX8_isRead_59 1 rfl rfl ?_
    refine v_imul O dX8_isRead_60 ?_
    refine v_iconst (v := 2) O dX8_isRead_61 (by decide) ?_
    refine v_iadd O dX8_isRead_62 ?_
    refine v_iald O (g41 h41 (by decide)) (cg_26 G _) dX8_isRead_63 e (fun e => ?_)
    refine v_iast O (g41 h41 (by decide)) (cg_28 G _) (cw_28 G _ _ _) dX8_isRead_64 e (fun h2 e => ?_)
    refine v_aload_n O dX8_isRead_65 0 rfl rfl ?_
    refine v_get O fd_X8_isRead_26 (g41 h41 (by decide)) (cg_25 G _) rfl dX8_isRead_66 ?_
    refine v_iload_n O dX8_isRead_69 1 rfl rfl ?_
    refine v_aload_n O dX8_isRead_70 0 rfl rfl ?_
    refine v_get O fd_X8_isRead_16 (g41 h41 (by decide)) (cg_25 G _) rfl dX8_isRead_71 ?_
    refine v_iconst (v := 4) O dX8_isRead_74 (by decide) ?_
    refine v_iload_n O dX8_isRead_75 1 rfl rfl ?_
    refine v_imul O dX8_isRead_76 ?_
    refine v_iconst (v := 3) O dX8_isRead_77 (by decide) ?_
    refine v_iadd O dX8_isRead_78 ?_
    refine v_iald O (g41 h41 (by decide)) (cg_26 G _) dX8_isRead_79 e (fun e => ?_)
    refine v_iast O (g41 h41 (by decide)) (cg_29 G _) (cw_29 G _ _ _) dX8_isRead_80 e (fun h3 e => ?_)
    refine v_iinc (v := 1) O dX8_isRead_81 1 rfl (by decide) (by decide) (fun x4 => [(1, .int x4), (0, .ref (G.1 25))]) (fun _ => rfl) e (fun x4 e => ?_)
    refine v_goto O dX8_isRead_84 41 (by decide) ?_
    refine v_sub [1, 0] rfl ?_
    exact hk41 _ _ e
theorem f_X8_isRead_l41_ok {X : Cx} {G : Gx} {z : Rs} (h41 : 41 ≤ gN G) (O : Ok X G cX8_isRead RX8 2 wsX8_isRead (some .boolean) rm_X8_isRead) (N : Nat) : ∀ (n : Nat) (v1 : Int32) (h : Hp), f_X8_isRead_l41 N n v1 h = some z → V X G 2 (QI X G z) h 41 [(0, .ref (G.1 25)), (1, .int v1)] [] := by
  intro n
  induction n with
  | zero => intro v1 h e; cases e
  | succ n ih => intro v1 h e; exact f_X8_isRead_b41_ok h41 O N _ ih v1 h e
set_option maxRecDepth 20000 in
theorem f_X8_isRead_ok {l : Launch} {G : Gx} {N : Nat} (h41 : 41 ≤ gN G) {h : Hp} {z : Rs} (e : f_X8_isRead N h = some z) : CI l G yX8_isRead wsX8_isRead rm_X8_isRead [.ref (G.1 25)] h z := by
  refine m_bool _ (by decide) rfl [(0, .ref (G.1 25))] rfl (Nat.le_of_ble_eq_true rfl) (fun X O => ?_)
  unfold f_X8_isRead at e
  refine v_aload_n O dX8_isRead_0 0 rfl rfl ?_
  refine v_iconst (v := 0) O dX8_isRead_1 (by decide) ?_
  refine v_put O fd_X8_isRead_76 fp_X8_8 (g41 h41 (by decide)) (cg_25 G _) (Nat.le_of_ble_eq_true rfl) (cs_25_8 G _ _) dX8_isRead_2 e (fun h1 e => ?_)
  refine v_aload_n O dX8_isRead_5 0 rfl rfl ?_
  refine v_iconst (v := 0) O dX8_isRead_6 (by decide) ?_
  refine v_put O fd_X8_isRead_164 fp_X8_14 (g41 h41 (by decide)) (cg_25 G _) (Nat.le_of_ble_eq_true rfl) (cs_25_14 G _ _) dX8_isRead_7 e (fun h2 e => ?_)
  refine v_aload_n O dX8_isRead_10 0 rfl rfl ?_
  refine v_aload_n O dX8_isRead_11 0 rfl rfl ?_
  refine v_get O fd_X8_isRead_7 (g41 h41 (by decide)) (cg_25 G _) rfl dX8_isRead_12 ?_
  refine v_aload_n O dX8_isRead_15 0 rfl rfl ?_
  refine v_get O fd_X8_isRead_13 (g41 h41 (by decide)) (cg_25 G _) rfl dX8_isRead_16 ?_
  refine v_imul O dX8_isRead_19 ?_
  refine v_put O fd_X8_isRead_117 fp_X8_15 (g41 h41 (by decide)) (cg_25 G _) (Nat.le_of_ble_eq_true rfl) (cs_25_15 G _ _) dX8_isRead_20 e (fun h3 e => ?_)
  refine v_aload_n O dX8_isRead_23 0 rfl rfl ?_
  refine v_aload_n O dX8_isRead_24 0 rfl rfl ?_
  refine v_get O fd_X8_isRead_167 (g41 h41 (by decide)) (cg_25 G _) rfl dX8_isRead_25 ?_
  refine v_put O fd_X8_isRead_120 fp_X8_16 (g41 h41 (by decide)) (cg_25 G _) (Nat.le_of_ble_eq_true rfl) (cs_25_16 G _ _) dX8_isRead_28 e (fun h4 e => ?_)
  refine v_aload_n O dX8_isRead_31 0 rfl rfl ?_
  refine v_aload_n O dX8_isRead_32 0 rfl rfl ?_
  refine v_get O fd_X8_isRead_68 (g41 h41 (by decide)) (cg_25 G _) rfl dX8_isRead_33 ?_
  refine v_put O fd_X8_isRead_123 fp_X8_17 (g41 h41 (by decide)) (cg_25 G _) (Nat.le_of_ble_eq_true rfl) (cs_25_17 G _ _) dX8_isRead_36 e (fun h5 e => ?_)
  refine v_iconst (v := 0) O dX8_isRead_39 (by decide) ?_
  refine v_istore_n O dX8_isRead_40 rfl (by decide) (fun x6 => [(1, .int x6), (0, .ref (G.1 25))]) (fun _ => rfl) e (fun x6 e => ?_)
  refine v_sub [1, 0] rfl ?_
  exact f_X8_isRead_l41_ok h41 O N N _ _ e
