/-! ===== X3 readLine ===== -/
abbrev rm_X3_readLine : Room := { frames := 5, cells := 0, slots := 0, locals := 108 }
theorem fd_X3_readLine_12 : FdO wsX3_readLine RX3 12 RX3 TX3 4 3 0 := ⟨by decide +kernel, rfl, by decide, by decide +kernel⟩
theorem fd_X3_readLine_18 : FdO wsX3_readLine RX3 18 RX3 TX3 4 3 3 := ⟨by decide +kernel, rfl, by decide, by decide +kernel⟩
theorem fd_X3_readLine_85 : FdO wsX3_readLine RX3 85 RX5 TX5 9 5 3 := ⟨by decide +kernel, rfl, by decide, by decide +kernel⟩
theorem cw_X3_readLine_X3_readHole : CwO rm_X3_readLine yX3_readHole wsX3_readHole cX3_readHole 2 (none) rm_X3_readHole 0 := ⟨⟨_, rfl⟩, rfl, rfl, by decide +kernel, by decide, by decide⟩
theorem cw_X3_readLine_X3_readMan : CwO rm_X3_readLine yX3_readMan wsX3_readMan cX3_readMan 5 (none) rm_X3_readMan 1 := ⟨⟨_, rfl⟩, rfl, rfl, by decide +kernel, by decide, by decide⟩
theorem cw_X3_readLine_X3_readSize : CwO rm_X3_readLine yX3_readSize wsX3_readSize cX3_readSize 3 (none) rm_X3_readSize 0 := ⟨⟨_, rfl⟩, rfl, rfl, by decide +kernel, by decide, by decide⟩
theorem cw_X3_readLine_X3_refuseIf : CwO rm_X3_readLine yX3_refuseIf wsX3_refuseIf cX3_refuseIf 2 (none) rm_X3_refuseIf 1 := ⟨⟨_, rfl⟩, rfl, rfl, by decide +kernel, by decide, by decide⟩
theorem cw_X3_readLine_X5_takeMenAway : CwO rm_X3_readLine yX5_takeMenAway wsX5_takeMenAway cX5_takeMenAway 1 (none) rm_X5_takeMenAway 0 := ⟨⟨_, rfl⟩, rfl, rfl, by decide +kernel, by decide, by decide⟩
theorem cw_X3_readLine_X6_spells : CwO rm_X3_readLine yX6_spells wsX6_spells cX6_spells 3 (some .boolean) rm_X6_spells 1 := ⟨⟨_, rfl⟩, rfl, rfl, by decide +kernel, by decide, by decide⟩
set_option maxRecDepth 20000 in
theorem f_X3_readLine_b214_ok {X : Cx} {G : Gx} {z : Rs} (O : Ok X G cX3_readLine RX3 1 wsX3_readLine (none) rm_X3_readLine) (N : Nat) (h : Hp) (e : f_X3_readLine_b214 N h = some z) : V X G 1 (QV X G z) h 214 [] [] := by
  unfold f_X3_readLine_b214 at e
  exact v_vret O dX3_readLine_214 e
set_option maxRecDepth 20000 in
theorem f_X3_readLine_ok {l : Launch} {G : Gx} {N : Nat} {h : Hp} {z : Rs} (e : f_X3_readLine N h = some z) : CV l G yX3_readLine wsX3_readLine rm_X3_readLine [.ref (G.1 6)] h z := by
  refine m_void _ (by decide) rfl [(0, .ref (G.1 6))] rfl (Nat.le_of_ble_eq_true rfl) (fun X O => ?_)
  unfold f_X3_readLine at e
  refine v_aload_n O dX3_readLine_0 0 rfl rfl ?_
  refine v_get O fd_X3_readLine_18 (g25 O (by decide)) (cg_6 G _) rfl dX3_readLine_1 ?_
  refine v_ldcS O 0 (by decide) dX3_readLine_4 ?_
  refine v_cVi O [.ref (gK G 0)] [] gX3_readLine_X6_spells cw_X3_readLine_X6_spells rfl rfl (g25 O (by decide)) (cg_4 G _) rfl rfl (Nat.le_of_ble_eq_true rfl) dX3_readLine_6 e (fun _ e9 => f_X6_spells_ok (by decide) e9) (fun r1 h2 e => ?_)
  refine v_if_eq O dX3_readLine_9 19 (by decide) e (fun e => ?_) (fun e => ?_)
  · refine v_aload_n O dX3_readLine_19 0 rfl rfl ?_
    refine v_get O fd_X3_readLine_18 (g25 O (by decide)) (cg_6 G _) rfl dX3_readLine_20 ?_
    refine v_ldcS O 1 (by decide) dX3_readLine_23 ?_
    refine v_cVi O [.ref (gK G 1)] [] gX3_readLine_X6_spells cw_X3_readLine_X6_spells rfl rfl (g25 O (by decide)) (cg_4 G _) rfl rfl (Nat.le_of_ble_eq_true rfl) dX3_readLine_25 e (fun _ e9 => f_X6_spells_ok (by decide) e9) (fun r3 h4 e => ?_)
    refine v_if_eq O dX3_readLine_28 38 (by decide) e (fun e => ?_) (fun e => ?_)
    · refine v_aload_n O dX3_readLine_38 0 rfl rfl ?_
      refine v_get O fd_X3_readLine_18 (g25 O (by decide)) (cg_6 G _) rfl dX3_readLine_39 ?_
      refine v_ldcS O 2 (by decide) dX3_readLine_42 ?_
      refine v_cVi O [.ref (gK G 2)] [] gX3_readLine_X6_spells cw_X3_readLine_X6_spells rfl rfl (g25 O (by decide)) (cg_4 G _) rfl rfl (Nat.le_of_ble_eq_true rfl) dX3_readLine_44 e (fun _ e9 => f_X6_spells_ok (by decide) e9) (fun r5 h6 e => ?_)
      refine v_if_eq O dX3_readLine_47 58 (by decide) e (fun e => ?_) (fun e => ?_)
      · refine v_aload_n O dX3_readLine_58 0 rfl rfl ?_
        refine v_get O fd_X3_readLine_18 (g25 O (by decide)) (cg_6 G _) rfl dX3_readLine_59 ?_
        refine v_ldcS O 3 (by decide) dX3_readLine_62 ?_
        refine v_cVi O [.ref (gK G 3)] [] gX3_readLine_X6_spells cw_X3_readLine_X6_spells rfl rfl (g25 O (by decide)) (cg_4 G _) rfl rfl (Nat.le_of_ble_eq_true rfl) dX3_readLine_64 e (fun _ e9 => f_X6_spells_ok (by decide) e9) (fun r7 h8 e => ?_)
        refine v_if_eq O dX3_readLine_67 78 (by decide) e (fun e => ?_) (fun e => ?_)
        · refine v_aload_n O dX3_readLine_78 0 rfl rfl ?_
          refine v_get O fd_X3_readLine_18 (g25 O (by decide)) (cg_6 G _) rfl dX3_readLine_79 ?_
          refine v_ldcS O 4 (by decide) dX3_readLine_82 ?_
          refine v_cVi O [.ref (gK G 4)] [] gX3_readLine_X6_spells cw_X3_readLine_X6_spells rfl rfl (g25 O (by decide)) (cg_4 G _) rfl rfl (Nat.le_of_ble_eq_true rfl) dX3_readLine_84 e (fun _ e9 => f_X6_spells_ok (by decide) e9) (fun r9 h10 e => ?_)
          refine v_if_eq O dX3_readLine_87 98 (by decide) e (fun e => ?_) (fun e => ?_)
          · refine v_aload_n O dX3_readLine_98 0 rfl rfl ?_
            refine v_get O fd_X3_readLine_18 (g25 O (by decide)) (cg_6 G _) rfl dX3_readLine_99 ?_
            refine v_ldcS O 5 (by decide) dX3_readLine_102 ?_
            refine v_cVi O [.ref (gK G 5)] [] gX3_readLine_X6_spells cw_X3_readLine_X6_spells rfl rfl (g25 O (by decide)) (cg_4 G _) rfl rfl (Nat.le_of_ble_eq_true rfl) dX3_readLine_104 e (fun _ e9 => f_X6_spells_ok (by decide) e9) (fun r11 h12 e => ?_)
            refine v_if_eq O dX3_readLine_107 118 (by decide) e (fun e => ?_) (fun e => ?_)
            · refine v_aload_n O dX3_readLine_118 0 rfl rfl ?_
              refine v_get O fd_X3_readLine_18 (g25 O (by decide)) (cg_6 G _) rfl dX3_readLine_119 ?_
              refine v_ldcS O 6 (by decide) dX3_readLine_122 ?_
              refine v_cVi O [.ref (gK G 6)] [] gX3_readLine_X6_spells cw_X3_readLine_X6_spells rfl rfl (g25 O (by decide)) (cg_4 G _) rfl rfl (Nat.le_of_ble_eq_true rfl) dX3_readLine_124 e (fun _ e9 => f_X6_spells_ok (by decide) e9) (fun r13 h14 e => ?_)
              refine v_if_eq O dX3_readLine_127 141 (by decide) e (fun e => ?_) (fun e => ?_)
              · refine v_aload_n O dX3_readLine_141 0 rfl rfl ?_
                refine v_get O fd_X3_readLine_18 (g25 O (by decide)) (cg_6 G _) rfl dX3_readLine_142 ?_
                refine v_ldcS O 7 (by decide) dX3_readLine_145 ?_
                refine v_cVi O [.ref (gK G 7)] [] gX3_readLine_X6_spells cw_X3_readLine_X6_spells rfl rfl (g25 O (by decide)) (cg_4 G _) rfl rfl (Nat.le_of_ble_eq_true rfl) dX3_readLine_147 e (fun _ e9 => f_X6_spells_ok (by decide) e9) (fun r15 h16 e => ?_)
                refine v_if_eq O dX3_readLine_150 164 (by decide) e (fun e => ?_) (fun e => ?_)
                · refine v_aload_n O dX3_readLine_164 0 rfl rfl ?_
                  refine v_get O fd_X3_readLine_18 (g25 O (by decide)) (cg_6 G _) rfl dX3_readLine_165 ?_
                  refine v_ldcS O 8 (by decide) dX3_readLine_168 ?_
                  refine v_cVi O [.ref (gK G 8)] [] gX3_readLine_X6_spells cw_X3_readLine_X6_spells rfl rfl (g25 O (by decide)) (cg_4 G _) rfl rfl (Nat.le_of_ble_eq_true rfl) dX3_readLine_170 e (fun _ e9 => f_X6_spells_ok (by decide) e9) (fun r17 h18 e => ?_)
                  refine v_if_eq O dX3_readLine_173 187 (by decide) e (fun e => ?_) (fun e => ?_)
                  · refine v_aload_n O dX3_readLine_187 0 rfl rfl ?_
                    refine v_get O fd_X3_readLine_18 (g25 O (by decide)) (cg_6 G _) rfl dX3_readLine_188 ?_
                    refine v_ldcS O 9 (by decide) dX3_readLine_191 ?_
                    refine v_cVi O [.ref (gK G 9)] [] gX3_readLine_X6_spells cw_X3_readLine_X6_spells rfl rfl (g25 O (by decide)) (cg_4 G _) rfl rfl (Nat.le_of_ble_eq_true rfl) dX3_readLine_193 e (fun _ e9 => f_X6_spells_ok (by decide) e9) (fun r19 h20 e => ?_)
                    refine v_if_eq O dX3_readLine_196 209 (by decide) e (fun e => ?_) (fun e => ?_)
                    · refine v_aload_n O dX3_readLine_209 0 rfl rfl ?_
                      refine v_iconst (v := 1) O dX3_readLine_210 (by decide) ?_
                      refine v_cVv O [.int 1] [] gX3_readLine_X3_refuseIf cw_X3_readLine_X3_refuseIf rfl rfl (g25 O (by decide)) (cg_6 G _) rfl rfl (Nat.le_of_ble_eq_true rfl) dX3_readLine_211 e (fun _ e9 => f_X3_refuseIf_ok e9) (fun _ h21 e => ?_)
                      refine v_sub [] rfl ?_
                      exact f_X3_readLine_b214_ok O N _ e
                    · refine v_aload_n O dX3_readLine_199 0 rfl rfl ?_
                      refine v_get O fd_X3_readLine_12 (g25 O (by decide)) (cg_6 G _) rfl dX3_readLine_200 ?_
                      refine v_cVv O [] [] gX3_readLine_X5_takeMenAway cw_X3_readLine_X5_takeMenAway rfl rfl (g25 O (by decide)) (cg_7 G _) rfl rfl (Nat.le_of_ble_eq_true rfl) dX3_readLine_203 e (fun _ e9 => f_X5_takeMenAway_ok_7 e9) (fun _ h22 e => ?_)
                      refine v_goto O dX3_readLine_206 214 (by decide) ?_
                      refine v_sub [] rfl ?_
                      exact f_X3_readLine_b214_ok O N _ e
                  · refine v_aload_n O dX3_readLine_176 0 rfl rfl ?_
                    refine v_get O fd_X3_readLine_12 (g25 O (by decide)) (cg_6 G _) rfl dX3_readLine_177 ?_
                    refine v_iconst (v := 2) O dX3_readLine_180 (by decide) ?_
                    refine v_put O fd_X3_readLine_85 fp_X5_3 (g25 O (by decide)) (cg_7 G _) (Nat.le_of_ble_eq_true rfl) (cs_7_3 G _ _) dX3_readLine_181 e (fun h23 e => ?_)
                    refine v_goto O dX3_readLine_184 214 (by decide) ?_
                    refine v_sub [] rfl ?_
                    exact f_X3_readLine_b214_ok O N _ e
                · refine v_aload_n O dX3_readLine_153 0 rfl rfl ?_
                  refine v_get O fd_X3_readLine_12 (g25 O (by decide)) (cg_6 G _) rfl dX3_readLine_154 ?_
                  refine v_iconst (v := 1) O dX3_readLine_157 (by decide) ?_
                  refine v_put O fd_X3_readLine_85 fp_X5_3 (g25 O (by decide)) (cg_7 G _) (Nat.le_of_ble_eq_true rfl) (cs_7_3 G _ _) dX3_readLine_158 e (fun h24 e => ?_)
                  refine v_goto O dX3_readLine_161 214 (by decide) ?_
                  refine v_sub [] rfl ?_
                  exact f_X3_readLine_b214_ok O N _ e
              · refine v_aload_n O dX3_readLine_130 0 rfl rfl ?_
                refine v_get O fd_X3_readLine_12 (g25 O (by decide)) (cg_6 G _) rfl dX3_readLine_131 ?_
                refine v_iconst (v := 0) O dX3_readLine_134 (by decide) ?_
                refine v_put O fd_X3_readLine_85 fp_X5_3 (g25 O (by decide)) (cg_7 G _) (Nat.le_of_ble_eq_true rfl) (cs_7_3 G _ _) dX3_readLine_135 e (fun h25 e => ?_)
                refine v_goto O dX3_readLine_138 214 (by decide) ?_
                refine v_sub [] rfl ?_
                exact f_X3_readLine_b214_ok O N _ e
            · refine v_aload_n O dX3_readLine_110 0 rfl rfl ?_
              refine v_iconst (v := 3) O dX3_readLine_111 (by decide) ?_
              refine v_cVv O [.int 3] [] gX3_readLine_X3_readMan cw_X3_readLine_X3_readMan rfl rfl (g25 O (by decide)) (cg_6 G _) rfl rfl (Nat.le_of_ble_eq_true rfl) dX3_readLine_112 e (fun _ e9 => f_X3_readMan_ok e9) (fun _ h26 e => ?_)
              refine v_goto O dX3_readLine_115 214 (by decide) ?_
              refine v_sub [] rfl ?_
              exact f_X3_readLine_b214_ok O N _ e
          · refine v_aload_n O dX3_readLine_90 0 rfl rfl ?_
            refine v_iconst (v := 2) O dX3_readLine_91 (by decide) ?_
            refine v_cVv O [.int 2] [] gX3_readLine_X3_readMan cw_X3_readLine_X3_readMan rfl rfl (g25 O (by decide)) (cg_6 G _) rfl rfl (Nat.le_of_ble_eq_true rfl) dX3_readLine_92 e (fun _ e9 => f_X3_readMan_ok e9) (fun _ h27 e => ?_)
            refine v_goto O dX3_readLine_95 214 (by decide) ?_
            refine v_sub [] rfl ?_
            exact f_X3_readLine_b214_ok O N _ e
        · refine v_aload_n O dX3_readLine_70 0 rfl rfl ?_
          refine v_iconst (v := 1) O dX3_readLine_71 (by decide) ?_
          refine v_cVv O [.int 1] [] gX3_readLine_X3_readMan cw_X3_readLine_X3_readMan rfl rfl (g25 O (by decide)) (cg_6 G _) rfl rfl (Nat.le_of_ble_eq_true rfl) dX3_readLine_72 e (fun _ e9 => f_X3_readMan_ok e9) (fun _ h28 e => ?_)
          refine v_goto O dX3_readLine_75 214 (by decide) ?_
          refine v_sub [] rfl ?_
          exact f_X3_readLine_b214_ok O N _ e
      · refine v_aload_n O dX3_readLine_50 0 rfl rfl ?_
        refine v_iconst (v := 0) O dX3_readLine_51 (by decide) ?_
        refine v_cVv O [.int 0] [] gX3_readLine_X3_readMan cw_X3_readLine_X3_readMan rfl rfl (g25 O (by decide)) (cg_6 G _) rfl rfl (Nat.le_of_ble_eq_true rfl) dX3_readLine_52 e (fun _ e9 => f_X3_readMan_ok e9) (fun _ h29 e => ?_)
        refine v_goto O dX3_readLine_55 214 (by decide) ?_
        refine v_sub [] rfl ?_
        exact f_X3_readLine_b214_ok O N _ e
    · refine v_aload_n O dX3_readLine_31 0 rfl rfl ?_
      refine v_cVv O [] [] gX3_readLine_X3_readHole cw_X3_readLine_X3_readHole rfl rfl (g25 O (by decide)) (cg_6 G _) rfl rfl (Nat.le_of_ble_eq_true rfl) dX3_readLine_32 e (fun _ e9 => f_X3_readHole_ok e9) (fun _ h30 e => ?_)
      refine v_goto O dX3_readLine_35 214 (by decide) ?_
      refine v_sub [] rfl ?_
      exact f_X3_readLine_b214_ok O N _ e
  · refine v_aload_n O dX3_readLine_12 0 rfl rfl ?_
    refine v_cVv O [] [] gX3_readLine_X3_readSize cw_X3_readLine_X3_readSize rfl rfl (g25 O (by decide)) (cg_6 G _) rfl rfl (Nat.le_of_ble_eq_true rfl) dX3_readLine_13 e (fun _ e9 => f_X3_readSize_ok e9) (fun _ h31 e => ?_)
    refine v_goto O dX3_readLine_16 214 (by decide) ?_
    refine v_sub [] rfl ?_
    exact f_X3_readLine_b214_ok O N _ e
/-! ===== X5 copy ===== -/
abbrev rm_X5_copy : Room := { frames := 1, cells := 0, slots := 0, locals := 40 }
theorem fd_X5_copy_9 : FdO wsX5_copy RX5 9 RX5 TX5 9 5 7 := ⟨by decide +kernel, rfl, by decide, by decide +kernel⟩
theorem fd_X5_copy_15 : FdO wsX5_copy RX5 15 RX5 TX5 9 5 8 := ⟨by decide +kernel, rfl, by decide, by decide +kernel⟩
theorem fd_X5_copy_18 : FdO wsX5_copy RX5 18 RX5 TX5 9 5 0 := ⟨by decide +kernel, rfl, by decide, by decide +kernel⟩
theorem fd_X5_copy_22 : FdO wsX5_copy RX5 22 RX5 TX5 9 5 1 := ⟨by decide +kernel, rfl, by decide, by decide +kernel⟩
theorem fd_X5_copy_25 : FdO wsX5_copy RX5 25 RX5 TX5 9 5 2 := ⟨by decide +kernel, rfl, by decide, by decide +kernel⟩
theorem fd_X5_copy_28 : FdO wsX5_copy RX5 28 RX5 TX5 9 5 3 := ⟨by decide +kernel, rfl, by decide, by decide +kernel⟩
theorem fd_X5_copy_34 : FdO wsX5_copy RX5 34 RX5 TX5 9 5 4 := ⟨by decide +kernel, rfl, by decide, by decide +kernel⟩
theorem fd_X5_copy_37 : FdO wsX5_copy RX5 37 RX5 TX5 9 5 5 := ⟨by decide +kernel, rfl, by decide, by decide +kernel⟩
theorem fd_X5_copy_40 : FdO wsX5_copy RX5 40 RX5 TX5 9 5 6 := ⟨by decide +kernel, rfl, by decide, by decide +kernel⟩
theorem ac_X5_copy : Cond.methodLink RX5 47 arraycopyName ∈ wsX5_copy ∧ Cond.native arraycopyName ∈ wsX5_copy ∧ Cond.static arraycopyName ∈ wsX5_copy ∧ Cond.initialized "java/lang/System" ∈ wsX5_copy := ⟨by decide +kernel, by decide +kernel, by decide +kernel, by decide +kernel⟩
set_option maxRecDepth 20000 in
theorem f_X5_copy_ok_1_7 {l : Launch} {G : Gx} {N : Nat} {h : Hp} {z : Rs} (e : f_X5_copy 1 7 N h = some z) : CV l G yX5_copy wsX5_copy rm_X5_copy [.ref (G.1 1), .ref (G.1 7)] h z := by
  refine m_void _ (by decide) rfl [(0, .ref (G.1 1)), (1, .ref (G.1 7))] rfl (Nat.le_of_ble_eq_true rfl) (fun X O => ?_)
  unfold f_X5_copy at e
  refine v_aload_n O dX5_copy_0 0 rfl rfl ?_
  refine v_aload_n O dX5_copy_1 1 rfl rfl ?_
  refine v_get O fd_X5_copy_18 (g25 O (by decide)) (cg_7 G _) rfl dX5_copy_2 ?_
  refine v_put O fd_X5_copy_18 fp_X5_0 (g25 O (by decide)) (cg_1 G _) (Nat.le_of_ble_eq_true rfl) (cs_1_0 G _ _) dX5_copy_5 e (fun h1 e => ?_)
  refine v_aload_n O dX5_copy_8 0 rfl rfl ?_
  refine v_aload_n O dX5_copy_9 1 rfl rfl ?_
  refine v_get O fd_X5_copy_22 (g25 O (by decide)) (cg_7 G _) rfl dX5_copy_10 ?_
  refine v_put O fd_X5_copy_22 fp_X5_1 (g25 O (by decide)) (cg_1 G _) (Nat.le_of_ble_eq_true rfl) (cs_1_1 G _ _) dX5_copy_13 e (fun h2 e => ?_)
  refine v_aload_n O dX5_copy_16 0 rfl rfl ?_
  refine v_aload_n O dX5_copy_17 1 rfl rfl ?_
  refine v_get O fd_X5_copy_25 (g25 O (by decide)) (cg_7 G _) rfl dX5_copy_18 ?_
  refine v_put O fd_X5_copy_25 fp_X5_2 (g25 O (by decide)) (cg_1 G _) (Nat.le_of_ble_eq_true rfl) (cs_1_2 G _ _) dX5_copy_21 e (fun h3 e => ?_)
  refine v_aload_n O dX5_copy_24 0 rfl rfl ?_
  refine v_aload_n O dX5_copy_25 1 rfl rfl ?_
  refine v_get O fd_X5_copy_28 (g25 O (by decide)) (cg_7 G _) rfl dX5_copy_26 ?_
  refine v_put O fd_X5_copy_28 fp_X5_3 (g25 O (by decide)) (cg_1 G _) (Nat.le_of_ble_eq_true rfl) (cs_1_3 G _ _) dX5_copy_29 e (fun h4 e => ?_)
  refine v_aload_n O dX5_copy_32 0 rfl rfl ?_
  refine v_aload_n O dX5_copy_33 1 rfl rfl ?_
  refine v_get O fd_X5_copy_34 (g25 O (by decide)) (cg_7 G _) rfl dX5_copy_34 ?_
  refine v_put O fd_X5_copy_34 fp_X5_4 (g25 O (by decide)) (cg_1 G _) (Nat.le_of_ble_eq_true rfl) (cs_1_4 G _ _) dX5_copy_37 e (fun h5 e => ?_)
  refine v_aload_n O dX5_copy_40 0 rfl rfl ?_
  refine v_aload_n O dX5_copy_41 1 rfl rfl ?_
  refine v_get O fd_X5_copy_37 (g25 O (by decide)) (cg_7 G _) rfl dX5_copy_42 ?_
  refine v_put O fd_X5_copy_37 fp_X5_5 (g25 O (by decide)) (cg_1 G _) (Nat.le_of_ble_eq_true rfl) (cs_1_5 G _ _) dX5_copy_45 e (fun h6 e => ?_)
  refine v_aload_n O dX5_copy_48 0 rfl rfl ?_
  refine v_aload_n O dX5_copy_49 1 rfl rfl ?_
  refine v_get O fd_X5_copy_40 (g25 O (by decide)) (cg_7 G _) rfl dX5_copy_50 ?_
  refine v_put O fd_X5_copy_40 fp_X5_6 (g25 O (by decide)) (cg_1 G _) (Nat.le_of_ble_eq_true rfl) (cs_1_6 G _ _) dX5_copy_53 e (fun h7 e => ?_)
  refine v_aload_n O dX5_copy_56 1 rfl rfl ?_
  refine v_get O fd_X5_copy_9 (g25 O (by decide)) (cg_7 G _) rfl dX5_copy_57 ?_
  refine v_iconst (v := 0) O dX5_copy_60 (by decide) ?_
  refine v_aload_n O dX5_copy_61 0 rfl rfl ?_
  refine v_get O fd_X5_copy_9 (g25 O (by decide)) (cg_1 G _) rfl dX5_copy_62 ?_
  refine v_iconst (v := 0) O dX5_copy_65 (by decide) ?_
  refine v_iconst (v := 4) O dX5_copy_66 (by decide) ?_
  refine v_copy O ac_X5_copy (g25 O (by decide)) (cg_8 G _) (g25 O (by decide)) (cg_2 G _) (cr_2 G _) (by decide) ⟨by decide, Nat.le_of_ble_eq_true rfl⟩ dX5_copy_67 e (fun h8 e => ?_)
  refine v_aload_n O dX5_copy_70 1 rfl rfl ?_
  refine v_get O fd_X5_copy_15 (g25 O (by decide)) (cg_7 G _) rfl dX5_copy_71 ?_
  refine v_iconst (v := 0) O dX5_copy_74 (by decide) ?_
  refine v_aload_n O dX5_copy_75 0 rfl rfl ?_
  refine v_get O fd_X5_copy_15 (g25 O (by decide)) (cg_1 G _) rfl dX5_copy_76 ?_
  refine v_iconst (v := 0) O dX5_copy_79 (by decide) ?_
  refine v_iconst (v := 4) O dX5_copy_80 (by decide) ?_
  refine v_copy O ac_X5_copy (g25 O (by decide)) (cg_9 G _) (g25 O (by decide)) (cg_3 G _) (cr_3 G _) (by decide) ⟨by decide, Nat.le_of_ble_eq_true rfl⟩ dX5_copy_81 e (fun h9 e => ?_)
  exact v_vret O dX5_copy_84 e
set_option maxRecDepth 20000 in
theorem f_X5_copy_ok_7_1 {l : Launch} {G : Gx} {N : Nat} {h : Hp} {z : Rs} (e : f_X5_copy 7 1 N h = some z) : CV l G yX5_copy wsX5_copy rm_X5_copy [.ref (G.1 7), .ref (G.1 1)] h z := by
  refine m_void _ (by decide) rfl [(0, .ref (G.1 7)), (1, .ref (G.1 1))] rfl (Nat.le_of_ble_eq_true rfl) (fun X O => ?_)
  unfold f_X5_copy at e
  refine v_aload_n O dX5_copy_0 0 rfl rfl ?_
  refine v_aload_n O dX5_copy_1 1 rfl rfl ?_
  refine v_get O fd_X5_copy_18 (g25 O (by decide)) (cg_1 G _) rfl dX5_copy_2 ?_
  refine v_put O fd_X5_copy_18 fp_X5_0 (g25 O (by decide)) (cg_7 G _) (Nat.le_of_ble_eq_true rfl) (cs_7_0 G _ _) dX5_copy_5 e (fun h1 e => ?_)
  refine v_aload_n O dX5_copy_8 0 rfl rfl ?_
  refine v_aload_n O dX5_copy_9 1 rfl rfl ?_
  refine v_get O fd_X5_copy_22 (g25 O (by decide)) (cg_1 G _) rfl dX5_copy_10 ?_
  refine v_put O fd_X5_copy_22 fp_X5_1 (g25 O (by decide)) (cg_7 G _) (Nat.le_of_ble_eq_true rfl) (cs_7_1 G _ _) dX5_copy_13 e (fun h2 e => ?_)
  refine v_aload_n O dX5_copy_16 0 rfl rfl ?_
  refine v_aload_n O dX5_copy_17 1 rfl rfl ?_
  refine v_get O fd_X5_copy_25 (g25 O (by decide)) (cg_1 G _) rfl dX5_copy_18 ?_
  refine v_put O fd_X5_copy_25 fp_X5_2 (g25 O (by decide)) (cg_7 G _) (Nat.le_of_ble_eq_true rfl) (cs_7_2 G _ _) dX5_copy_21 e (fun h3 e => ?_)
  refine v_aload_n O dX5_copy_24 0 rfl rfl ?_
  refine v_aload_n O dX5_copy_25 1 rfl rfl ?_
  refine v_get O fd_X5_copy_28 (g25 O (by decide)) (cg_1 G _) rfl dX5_copy_26 ?_
  refine v_put O fd_X5_copy_28 fp_X5_3 (g25 O (by decide)) (cg_7 G _) (Nat.le_of_ble_eq_true rfl) (cs_7_3 G _ _) dX5_copy_29 e (fun h4 e => ?_)
  refine v_aload_n O dX5_copy_32 0 rfl rfl ?_
  refine v_aload_n O dX5_copy_33 1 rfl rfl ?_
  refine v_get O fd_X5_copy_34 (g25 O (by decide)) (cg_1 G _) rfl dX5_copy_34 ?_
  refine v_put O fd_X5_copy_34 fp_X5_4 (g25 O (by decide)) (cg_7 G _) (Nat.le_of_ble_eq_true rfl) (cs_7_4 G _ _) dX5_copy_37 e (fun h5 e => ?_)
  refine v_aload_n O dX5_copy_40 0 rfl rfl ?_
  refine v_aload_n O dX5_copy_41 1 rfl rfl ?_
  refine v_get O fd_X5_copy_37 (g25 O (by decide)) (cg_1 G _) rfl dX5_copy_42 ?_
  refine v_put O fd_X5_copy_37 fp_X5_5 (g25 O (by decide)) (cg_7 G _) (Nat.le_of_ble_eq_true rfl) (cs_7_5 G _ _) dX5_copy_45 e (fun h6 e => ?_)
  refine v_aload_n O dX5_copy_48 0 rfl rfl ?_
  refine v_aload_n O dX5_copy_49 1 rfl rfl ?_
  refine v_get O fd_X5_copy_40 (g25 O (by decide)) (cg_1 G _) rfl dX5_copy_50 ?_
  refine v_put O fd_X5_copy_40 fp_X5_6 (g25 O (by decide)) (cg_7 G _) (Nat.le_of_ble_eq_true rfl) (cs_7_6 G _ _) dX5_copy_53 e (fun h7 e => ?_)
  refine v_aload_n O dX5_copy_56 1 rfl rfl ?_
  refine v_get O fd_X5_copy_9 (g25 O (by decide)) (cg_1 G _) rfl dX5_copy_57 ?_
  refine v_iconst (v := 0) O dX5_copy_60 (by decide) ?_
  refine v_aload_n O dX5_copy_61 0 rfl rfl ?_
  refine v_get O fd_X5_copy_9 (g25 O (by decide)) (cg_7 G _) rfl dX5_copy_62 ?_
  refine v_iconst (v := 0) O dX5_copy_65 (by decide) ?_
  refine v_iconst (v := 4) O dX5_copy_66 (by decide) ?_
  refine v_copy O ac_X5_copy (g25 O (by decide)) (cg_2 G _) (g25 O (by decide)) (cg_8 G _) (cr_8 G _) (by decide) ⟨by decide, Nat.le_of_ble_eq_true rfl⟩ dX5_copy_67 e (fun h8 e => ?_)
  refine v_aload_n O dX5_copy_70 1 rfl rfl ?_
  refine v_get O fd_X5_copy_15 (g25 O (by decide)) (cg_1 G _) rfl dX5_copy_71 ?_
  refine v_iconst (v := 0) O dX5_copy_74 (by decide) ?_
  refine v_aload_n O dX5_copy_75 0 rfl rfl ?_
  refine v_get O fd_X5_copy_15 (g25 O (by decide)) (cg_7 G _) rfl dX5_copy_76 ?_
  refine v_iconst (v := 0) O dX5_copy_79 (by decide) ?_
  refine v_iconst (v := 4) O dX5_copy_80 (by decide) ?_
  refine v_copy O ac_X5_copy (g25 O (by decide)) (cg_3 G _) (g25 O (by decide)) (cg_9 G _) (cr_9 G _) (by decide) ⟨by decide, Nat.le_of_ble_eq_true rfl⟩ dX5_copy_81 e (fun h9 e => ?_)
  exact v_vret O dX5_copy_84 e
/-! ===== X6 rewind ===== -/
abbrev rm_X6_rewind : Room := { frames := 0, cells := 0, slots := 0, locals := 0 }
theorem fd_X6_rewind_19 : FdO wsX6_rewind RX6 19 RX6 TX6 4 6 2 := ⟨by decide +kernel, rfl, by decide, by decide +kernel⟩
theorem fd_X6_rewind_22 : FdO wsX6_rewind RX6 22 RX6 TX6 4 6 3 := ⟨by decide +kernel, rfl, by decide, by decide +kernel⟩
set_option maxRecDepth 20000 in
theorem f_X6_rewind_ok {l : Launch} {G : Gx} {N : Nat} {h : Hp} {z : Rs} (e : f_X6_rewind N h = some z) : CV l G yX6_rewind wsX6_rewind rm_X6_rewind [.ref (G.1 4)] h z := by
  refine m_void _ (by decide) rfl [(0, .ref (G.1 4))] rfl (Nat.le_of_ble_eq_true rfl) (fun X O => ?_)
  unfold f_X6_rewind at e
  refine v_aload_n O dX6_rewind_0 0 rfl rfl ?_
  refine v_iconst (v := 0) O dX6_rewind_1 (by decide) ?_
  refine v_put O fd_X6_rewind_19 fp_X6_2 (g25 O (by decide)) (cg_4 G _) (Nat.le_of_ble_eq_true rfl) (cs_4_2 G _ _) dX6_rewind_2 e (fun h1 e => ?_)
  refine v_aload_n O dX6_rewind_5 0 rfl rfl ?_
  refine v_iconst (v := 0) O dX6_rewind_6 (by decide) ?_
  refine v_put O fd_X6_rewind_22 fp_X6_3 (g25 O (by decide)) (cg_4 G _) (Nat.le_of_ble_eq_true rfl) (cs_4_3 G _ _) dX6_rewind_7 e (fun h2 e => ?_)
  exact v_vret O dX6_rewind_10 e
/-! ===== X3 read ===== -/
abbrev rm_X3_read : Room := { frames := 6, cells := 0, slots := 0, locals := 128 }
theorem fd_X3_read_12 : FdO wsX3_read RX3 12 RX3 TX3 4 3 0 := ⟨by decide +kernel, rfl, by decide, by decide +kernel⟩
theorem fd_X3_read_18 : FdO wsX3_read RX3 18 RX3 TX3 4 3 3 := ⟨by decide +kernel, rfl, by decide, by decide +kernel⟩
theorem fd_X3_read_26 : FdO wsX3_read RX3 26 RX3 TX3 4 3 1 := ⟨by decide +kernel, rfl, by decide, by decide +kernel⟩
theorem fd_X3_read_30 : FdO wsX3_read RX3 30 RX3 TX3 4 3 2 := ⟨by decide +kernel, rfl, by decide, by decide +kernel⟩
theorem cw_X3_read_X3_readBehindLine : CwO rm_X3_read yX3_readBehindLine wsX3_readBehindLine cX3_readBehindLine 1 (some .boolean) rm_X3_readBehindLine 0 := ⟨⟨_, rfl⟩, rfl, rfl, by decide +kernel, by decide, by decide⟩
theorem cw_X3_read_X3_readLine : CwO rm_X3_read yX3_readLine wsX3_readLine cX3_readLine 1 (none) rm_X3_readLine 0 := ⟨⟨_, rfl⟩, rfl, rfl, by decide +kernel, by decide, by decide⟩
theorem cw_X3_read_X5_copy : CwO rm_X3_read yX5_copy wsX5_copy cX5_copy 2 (none) rm_X5_copy 1 := ⟨⟨_, rfl⟩, rfl, rfl, by decide +kernel, by decide, by decide⟩
theorem cw_X3_read_X6_next : CwO rm_X3_read yX6_next wsX6_next cX6_next 1 (none) rm_X6_next 0 := ⟨⟨_, rfl⟩, rfl, rfl, by decide +kernel, by decide, by decide⟩
theorem cw_X3_read_X6_rewind : CwO rm_X3_read yX6_rewind wsX6_rewind cX6_rewind 1 (none) rm_X6_rewind 0 := ⟨⟨_, rfl⟩, rfl, rfl, by decide +kernel, by decide, by decide⟩
set_option maxRecDepth 20000 in
theorem f_X3_read_b69_ok {X : Cx} {G : Gx} {z : Rs} (O : Ok X G cX3_read RX3 3 wsX3_read (none) rm_X3_read) (N : Nat) (h : Hp) (e : f_X3_read_b69 N h = some z) : V X G 3 (QV X G z) h 69 [] [] := by
  unfold f_X3_read_b69 at e
  exact v_vret O dX3_read_69 e
set_option maxRecDepth 20000 in
theorem f_X3_read_b27_ok {X : Cx} {G : Gx} {z : Rs} (O : Ok X G cX3_read RX3 3 wsX3_read (none) rm_X3_read) (N : Nat) (k27 : Int32 → Hp → Option Rs) (hk27 : ∀ (v2 : Int32) (h : Hp), k27 v2 h = some z → V X G 3 (QV X G z) h 27 [(0, .ref (G.1 6)), (2, .int v2)] []) (v2 : Int32) (h : Hp) (e : f_X3_read_b27 N k27 v2 h = some z) : V X G 3 (QV X G z) h 27 [(0, .ref (G.1 6)), (2, .int v2)] [] := by
  unfold f_X3_read_b27 at e
  refine v_iload_n O dX3_read_27 1 rfl rfl ?_
  refine v_if_eq O dX3_read_28 69 (by decide) e (fun e => ?_) (fun e => ?_)
  · refine v_sub [] rfl ?_
    exact f_X3_read_b69_ok O N _ e
  · refine v_aload_n O dX3_read_31 0 rfl rfl ?_
    refine v_get O fd_X3_read_30 (g25 O (by decide)) (cg_6 G _) rfl dX3_read_32 ?_
    refine v_bipush (v := 12) O dX3_read_35 (by decide) ?_
    refine v_icmp_ge O dX3_read_37 69 (by decide) e (fun e => ?_) (fun e => ?_)
    · refine v_sub [] rfl ?_
      exact f_X3_read_b69_ok O N _ e
    · refine v_aload_n O dX3_read_40 0 rfl rfl ?_
      refine v_get O fd_X3_read_18 (g25 O (by decide)) (cg_6 G _) rfl dX3_read_41 ?_
      refine v_cVv O [] [] gX3_read_X6_next cw_X3_read_X6_next rfl rfl (g25 O (by decide)) (cg_4 G _) rfl rfl (Nat.le_of_ble_eq_true rfl) dX3_read_44 e (fun _ e9 => f_X6_next_ok e9) (fun _ h1 e => ?_)
      refine v_aload_n O dX3_read_47 0 rfl rfl ?_
      refine v_cVv O [] [] gX3_read_X3_readLine cw_X3_read_X3_readLine rfl rfl (g25 O (by decide)) (cg_6 G _) rfl rfl (Nat.le_of_ble_eq_true rfl) dX3_read_48 e (fun _ e9 => f_X3_readLine_ok e9) (fun _ h2 e => ?_)
      refine v_aload_n O dX3_read_51 0 rfl rfl ?_
      refine v_dup O dX3_read_52 rfl ?_
      refine v_get O fd_X3_read_30 (g25 O (by decide)) (cg_6 G _) rfl dX3_read_53 ?_
      refine v_iconst (v := 1) O dX3_read_56 (by decide) ?_
      refine v_iadd O dX3_read_57 ?_
      refine v_put O fd_X3_read_30 fp_X3_2 (g25 O (by decide)) (cg_6 G _) (Nat.le_of_ble_eq_true rfl) (cs_6_2 G _ _) dX3_read_58 e (fun h3 e => ?_)
      refine v_aload_n O dX3_read_61 0 rfl rfl ?_
      refine v_cVi O [] [] gX3_read_X3_readBehindLine cw_X3_read_X3_readBehindLine rfl rfl (g25 O (by decide)) (cg_6 G _) rfl rfl (Nat.le_of_ble_eq_true rfl) dX3_read_62 e (fun _ e9 => f_X3_readBehindLine_ok e9) (fun r4 h5 e => ?_)
      refine v_istore_n O dX3_read_65 rfl (by decide) (fun x6 => [(2, .int x6), (0, .ref (G.1 6))]) (fun _ => rfl) e (fun x6 e => ?_)
      refine v_goto O dX3_read_66 27 (by decide) ?_
      refine v_sub [1, 0] rfl ?_
      exact hk27 _ _ e
theorem f_X3_read_l27_ok {X : Cx} {G : Gx} {z : Rs} (O : Ok X G cX3_read RX3 3 wsX3_read (none) rm_X3_read) (N : Nat) : ∀ (n : Nat) (v2 : Int32) (h : Hp), f_X3_read_l27 N n v2 h = some z → V X G 3 (QV X G z) h 27 [(0, .ref (G.1 6)), (2, .int v2)] [] := by
  intro n
  induction n with
  | zero => intro v2 h e; cases e
  | succ n ih => intro v2 h e; exact f_X3_read_b27_ok O N _ ih v2 h e
set_option maxRecDepth 20000 in
theorem f_X3_read_ok {l : Launch} {G : Gx} {N : Nat} {h : Hp} {z : Rs} (e : f_X3_read N h = some z) : CV l G yX3_read wsX3_read rm_X3_read [.ref (G.1 6), .ref (G.1 1)] h z := by
  refine m_void _ (by decide) rfl [(0, .ref (G.1 6)), (1, .ref (G.1 1))] rfl (Nat.le_of_ble_eq_true rfl) (fun X O => ?_)
  unfold f_X3_read at e
  refine v_aload_n O dX3_read_0 0 rfl rfl ?_
  refine v_get O fd_X3_read_12 (g25 O (by decide)) (cg_6 G _) rfl dX3_read_1 ?_
  refine v_aload_n O dX3_read_4 1 rfl rfl ?_
  refine v_cVv O [.ref (G.1 1)] [] gX3_read_X5_copy cw_X3_read_X5_copy rfl rfl (g25 O (by decide)) (cg_7 G _) rfl rfl (Nat.le_of_ble_eq_true rfl) dX3_read_5 e (fun _ e9 => f_X5_copy_ok_7_1 e9) (fun _ h1 e => ?_)
  refine v_aload_n O dX3_read_8 0 rfl rfl ?_
  refine v_iconst (v := (-1)) O dX3_read_9 (by decide) ?_
  refine v_put O fd_X3_read_26 fp_X3_1 (g25 O (by decide)) (cg_6 G _) (Nat.le_of_ble_eq_true rfl) (cs_6_1 G _ _) dX3_read_10 e (fun h2 e => ?_)
  refine v_aload_n O dX3_read_13 0 rfl rfl ?_
  refine v_iconst (v := 0) O dX3_read_14 (by decide) ?_
  refine v_put O fd_X3_read_30 fp_X3_2 (g25 O (by decide)) (cg_6 G _) (Nat.le_of_ble_eq_true rfl) (cs_6_2 G _ _) dX3_read_15 e (fun h3 e => ?_)
  refine v_aload_n O dX3_read_18 0 rfl rfl ?_
  refine v_get O fd_X3_read_18 (g25 O (by decide)) (cg_6 G _) rfl dX3_read_19 ?_
  refine v_cVv O [] [] gX3_read_X6_rewind cw_X3_read_X6_rewind rfl rfl (g25 O (by decide)) (cg_4 G _) rfl rfl (Nat.le_of_ble_eq_true rfl) dX3_read_22 e (fun _ e9 => f_X6_rewind_ok e9) (fun _ h4 e => ?_)
  refine v_iconst (v := 1) O dX3_read_25 (by decide) ?_
  refine v_istore_n O dX3_read_26 rfl (by decide) (fun x5 => [(2, .int x5), (0, .ref (G.1 6)), (1, .ref (G.1 1))]) (fun _ => rfl) e (fun x5 e => ?_)
  refine v_sub [1, 0] rfl ?_
  exact f_X3_read_l27_ok O N N _ _ e
/-! ===== X0 lay ===== -/
abbrev rm_X0_lay : Room := { frames := 1, cells := 0, slots := 0, locals := 23 }
theorem fd_X0_lay_11 : FdO wsX0_lay RX0 11 RX0 TX0 1 0 0 := ⟨by decide +kernel, rfl, by decide, by decide +kernel⟩
theorem cw_X0_lay_J7_fill_53178 : CwO rm_X0_lay yJ7_fill_53178 wsJ7_fill_53178 cJ7_fill_53178 4 (none) rm_J7_fill_53178 2 := ⟨⟨_, rfl⟩, rfl, rfl, by decide +kernel, by decide, by decide⟩
set_option maxRecDepth 20000 in
theorem f_X0_lay_b116_ok {X : Cx} {G : Gx} {z : Rs} (O : Ok X G cX0_lay RX0 8 wsX0_lay (none) rm_X0_lay) (N : Nat) (k16 : Int32 → Int32 → Int32 → Hp → Option Rs) (k32 : Int32 → Int32 → Int32 → Int32 → Hp → Option Rs) (hk16 : ∀ (v1 : Int32) (v2 : Int32) (v3 : Int32) (h : Hp), k16 v1 v2 v3 h = some z → V X G 8 (QV X G z) h 16 [(0, .ref (G.1 10)), (1, .int v1), (2, .int v2), (3, .int v3)] []) (hk32 : ∀ (v1 : Int32) (v2 : Int32) (v3 : Int32) (v4 : Int32) (h : Hp), k32 v1 v2 v3 v4 h = some z → V X G 8 (QV X G z) h 32 [(0, .ref (G.1 10)), (1, .int v1), (2, .int v2), (3, .int v3), (4, .int v4)] []) (v1 : Int32) (v2 : Int32) (v3 : Int32) (v4 : Int32) (h : Hp) (e : f_X0_lay_b116 N k16 k32 v1 v2 v3 v4 h = some z) : V X G 8 (QV X G z) h 116 [(0, .ref (G.1 10)), (1, .int v1), (2, .int v2), (3, .int v3), (4, .int v4)] [] := by
  unfold f_X0_lay_b116 at e
  refine v_iinc (v := 1) O dX0_lay_116 4 rfl (by decide) (by decide) (fun x1 => [(4, .int x1), (0, .ref (G.1 10)), (1, .int v1), (2, .int v2), (3, .int v3)]) (fun _ => rfl) e (fun x1 e => ?_)
  refine v_goto O dX0_lay_119 32 (by decide) ?_
  refine v_sub [1, 2, 3, 4, 0] rfl ?_
  exact hk32 _ _ _ _ _ e
set_option maxRecDepth 20000 in
theorem f_X0_lay_b90_ok {X : Cx} {G : Gx} {z : Rs} (O : Ok X G cX0_lay RX0 8 wsX0_lay (none) rm_X0_lay) (N : Nat) (k16 : Int32 → Int32 → Int32 → Hp → Option Rs) (k32 : Int32 → Int32 → Int32 → Int32 → Hp → Option Rs) (hk16 : ∀ (v1 : Int32) (v2 : Int32) (v3 : Int32) (h : Hp), k16 v1 v2 v3 h = some z → V X G 8 (QV X G z) h 16 [(0, .ref (G.1 10)), (1, .int v1), (2, .int v2), (3, .int v3)] []) (hk32 : ∀ (v1 : Int32) (v2 : Int32) (v3 : Int32) (v4 : Int32) (h : Hp), k32 v1 v2 v3 v4 h = some z → V X G 8 (QV X G z) h 32 [(0, .ref (G.1 10)), (1, .int v1), (2, .int v2), (3, .int v3), (4, .int v4)] []) (v1 : Int32) (v2 : Int32) (v3 : Int32) (v4 : Int32) (v5 : Int32) (v6 : Int32) (s0 : Int32) (h : Hp) (e : f_X0_lay_b90 N k16 k32 v1 v2 v3 v4 v5 v6 s0 h = some z) : V X G 8 (QV X G z) h 90 [(0, .ref (G.1 10)), (1, .int v1), (2, .int v2), (3, .int v3), (4, .int v4), (5, .int v5), (6, .int v6)] [.int s0] := by
  unfold f_X0_lay_b90 at e
  refine v_istore O dX0_lay_90 (by decide) (fun x1 => [(7, .int x1), (0, .ref (G.1 10)), (1, .int v1), (2, .int v2), (3, .int v3), (4, .int v4), (5, .int v5), (6, .int v6)]) (fun _ => rfl) e (fun x1 e => ?_)
  refine v_iload O dX0_lay_92 0 rfl ?_
  refine v_if_eq O dX0_lay_94 116 (by decide) e (fun e => ?_) (fun e => ?_)
  · refine v_sub [1, 2, 3, 4, 5] rfl ?_
    exact f_X0_lay_b116_ok O N k16 k32 hk16 hk32 _ _ _ _ _ e
  · refine v_aload_n O dX0_lay_97 1 rfl rfl ?_
    refine v_get O fd_X0_lay_11 (g25 O (by decide)) (cg_10 G _) rfl dX0_lay_98 ?_
    refine v_iload O dX0_lay_101 5 rfl ?_
    refine v_bipush (v := 12) O dX0_lay_103 (by decide) ?_
    refine v_imul O dX0_lay_105 ?_
    refine v_iload_n O dX0_lay_106 4 rfl rfl ?_
    refine v_iadd O dX0_lay_107 ?_
    refine v_iload O dX0_lay_108 7 rfl ?_
    refine v_iload_n O dX0_lay_110 2 rfl rfl ?_
    refine v_imul O dX0_lay_111 ?_
    refine v_iload O dX0_lay_112 6 rfl ?_
    refine v_iadd O dX0_lay_114 ?_
    refine v_iast O (g25 O (by decide)) (cg_11 G _) (cw_11 G _ _ _) dX0_lay_115 e (fun h2 e => ?_)
    refine v_sub [1, 2, 3, 4, 5] rfl ?_
    exact f_X0_lay_b116_ok O N k16 k32 hk16 hk32 _ _ _ _ _ e
set_option maxRecDepth 20000 in
theorem f_X0_lay_b89_ok {X : Cx} {G : Gx} {z : Rs} (O : Ok X G cX0_lay RX0 8 wsX0_lay (none) rm_X0_lay) (N : Nat) (k16 : Int32 → Int32 → Int32 → Hp → Option Rs) (k32 : Int32 → Int32 → Int32 → Int32 → Hp → Option Rs) (hk16 : ∀ (v1 : Int32) (v2 : Int32) (v3 : Int32) (h : Hp), k16 v1 v2 v3 h = some z → V X G 8 (QV X G z) h 16 [(0, .ref (G.1 10)), (1, .int v1), (2, .int v2), (3, .int v3)] []) (hk32 : ∀ (v1 : Int32) (v2 : Int32) (v3 : Int32) (v4 : Int32) (h : Hp), k32 v1 v2 v3 v4 h = some z → V X G 8 (QV X G z) h 32 [(0, .ref (G.1 10)), (1, .int v1), (2, .int v2), (3, .int v3), (4, .int v4)] []) (v1 : Int32) (v2 : Int32) (v3 : Int32) (v4 : Int32) (v5 : Int32) (v6 : Int32) (h : Hp) (e : f_X0_lay_b89 N k16 k32 v1 v2 v3 v4 v5 v6 h = some z) : V X G 8 (QV X G z) h 89 [(0, .ref (G.1 10)), (1, .int v1), (2, .int v2), (3, .int v3), (4, .int v4), (5, .int v5), (6, .int v6)] [] := by
  unfold f_X0_lay_b89 at e
  refine v_iconst (v := 0) O dX0_lay_89 (by decide) ?_
  exact f_X0_lay_b90_ok O N k16 k32 hk16 hk32 _ _ _ _ _ _ _ _ e
set_option maxRecDepth 20000 in
theorem f_X0_lay_b32_ok {X : Cx} {G : Gx} {z : Rs} (O : Ok X G cX0_lay RX0 8 wsX0_lay (none) rm_X0_lay) (N : Nat) (k16 : Int32 → Int32 → Int32 → Hp → Option Rs) (k32 : Int32 → Int32 → Int32 → Int32 → Hp → Option Rs) (hk16 : ∀ (v1 : Int32) (v2 : Int32) (v3 : Int32) (h : Hp), k16 v1 v2 v3 h = some z → V X G 8 (QV X G z) h 16 [(0, .ref (G.1 10)), (1, .int v1), (2, .int v2), (3, .int v3)] []) (hk32 : ∀ (v1 : Int32) (v2 : Int32) (v3 : Int32) (v4 : Int32) (h : Hp), k32 v1 v2 v3 v4 h = some z → V X G 8 (QV X G z) h 32 [(0, .ref (G.1 10)), (1, .int v1), (2, .int v2), (3, .int v3), (4, .int v4)] []) (v1 : Int32) (v2 : Int32) (v3 : Int32) (v4 : Int32) (h : Hp) (e : f_X0_lay_b32 N k16 k32 v1 v2 v3 v4 h = some z) : V X G 8 (QV X G z) h 32 [(0, .ref (G.1 10)), (1, .int v1), (2, .int v2), (3, .int v3), (4, .int v4)] [] := by
  unfold f_X0_lay_b32 at e
  refine v_iload O dX0_lay_32 4 rfl ?_
  refine v_bipush (v := 16) O dX0_lay_34 (by decide) ?_
  refine v_icmp_ge O dX0_lay_36 122 (by decide) e (fun e => ?_) (fun e => ?_)
  · refine v_iinc (v := 1) O dX0_lay_122 3 rfl (by decide) (by decide) (fun x1 => [(3, .int x1), (0, .ref (G.1 10)), (1, .int v1), (2, .int v2), (4, .int v4)]) (fun _ => rfl) e (fun x1 e => ?_)
    refine v_goto O dX0_lay_125 16 (by decide) ?_
    refine v_sub [1, 2, 3, 0] rfl ?_
    exact hk16 _ _ _ _ e
  · refine v_iload_n O dX0_lay_39 3 rfl rfl ?_
    refine v_iload_n O dX0_lay_40 1 rfl rfl ?_
    refine v_irem O dX0_lay_41 e (fun e => ?_)
    refine v_gets O 2 (by decide) (by decide +kernel) dX0_lay_42 ?_
    refine v_iload O dX0_lay_45 4 rfl ?_
    refine v_ti O 2 16 (by decide) rfl dX0_lay_47 e (fun e => ?_)
    refine v_iadd O dX0_lay_48 ?_
    refine v_istore O dX0_lay_49 (by decide) (fun x2 => [(5, .int x2), (0, .ref (G.1 10)), (1, .int v1), (2, .int v2), (3, .int v3), (4, .int v4)]) (fun _ => rfl) e (fun x2 e => ?_)
    refine v_iload_n O dX0_lay_51 4 rfl rfl ?_
    refine v_iload_n O dX0_lay_52 2 rfl rfl ?_
    refine v_idiv O dX0_lay_53 e (fun e => ?_)
    refine v_gets O 3 (by decide) (by decide +kernel) dX0_lay_54 ?_
    refine v_iload O dX0_lay_57 5 rfl ?_
    refine v_ti O 3 16 (by decide) rfl dX0_lay_59 e (fun e => ?_)
    refine v_iadd O dX0_lay_60 ?_
    refine v_istore O dX0_lay_61 (by decide) (fun x3 => [(6, .int x3), (5, .int x2), (0, .ref (G.1 10)), (1, .int v1), (2, .int v2), (3, .int v3), (4, .int v4)]) (fun _ => rfl) e (fun x3 e => ?_)
    refine v_iload O dX0_lay_63 1 rfl ?_
    refine v_if_lt O dX0_lay_65 89 (by decide) e (fun e => ?_) (fun e => ?_)
    · refine v_sub [2, 3, 4, 5, 6, 1, 0] rfl ?_
      exact f_X0_lay_b89_ok O N k16 k32 hk16 hk32 _ _ _ _ _ _ _ e
    · refine v_iload O dX0_lay_68 1 rfl ?_
      refine v_iload_n O dX0_lay_70 3 rfl rfl ?_
      refine v_icmp_ge O dX0_lay_71 89 (by decide) e (fun e => ?_) (fun e => ?_)
      · refine v_sub [2, 3, 4, 5, 6, 1, 0] rfl ?_
        exact f_X0_lay_b89_ok O N k16 k32 hk16 hk32 _ _ _ _ _ _ _ e
      · refine v_iload O dX0_lay_74 0 rfl ?_
        refine v_if_lt O dX0_lay_76 89 (by decide) e (fun e => ?_) (fun e => ?_)
        · refine v_sub [2, 3, 4, 5, 6, 1, 0] rfl ?_
          exact f_X0_lay_b89_ok O N k16 k32 hk16 hk32 _ _ _ _ _ _ _ e
        · refine v_iload O dX0_lay_79 0 rfl ?_
          refine v_iload_n O dX0_lay_81 4 rfl rfl ?_
          refine v_icmp_ge O dX0_lay_82 89 (by decide) e (fun e => ?_) (fun e => ?_)
          · refine v_sub [2, 3, 4, 5, 6, 1, 0] rfl ?_
            exact f_X0_lay_b89_ok O N k16 k32 hk16 hk32 _ _ _ _ _ _ _ e
          · refine v_iconst (v := 1) O dX0_lay_85 (by decide) ?_
            refine v_goto O dX0_lay_86 90 (by decide) ?_
            refine v_sub [2, 3, 4, 5, 6, 1, 0] rfl ?_
            exact f_X0_lay_b90_ok O N k16 k32 hk16 hk32 _ _ _ _ _ _ _ _ e
theorem f_X0_lay_l32_ok {X : Cx} {G : Gx} {z : Rs} (O : Ok X G cX0_lay RX0 8 wsX0_lay (none) rm_X0_lay) (N : Nat) (k16 : Int32 → Int32 → Int32 → Hp → Option Rs) (hk16 : ∀ (v1 : Int32) (v2 : Int32) (v3 : Int32) (h : Hp), k16 v1 v2 v3 h = some z → V X G 8 (QV X G z) h 16 [(0, .ref (G.1 10)), (1, .int v1), (2, .int v2), (3, .int v3)] []) : ∀ (n : Nat) (v1 : Int32) (v2 : Int32) (v3 : Int32) (v4 : Int32) (h : Hp), f_X0_lay_l32 N k16 n v1 v2 v3 v4 h = some z → V X G 8 (QV X G z) h 32 [(0, .ref (G.1 10)), (1, .int v1), (2, .int v2), (3, .int v3), (4, .int v4)] [] := by
  intro n
  induction n with
  | zero => intro v1 v2 v3 v4 h e; cases e
  | succ n ih => intro v1 v2 v3 v4 h e; exact f_X0_lay_b32_ok O N k16 _ hk16 ih v1 v2 v3 v4 h e
set_option maxRecDepth 20000 in
theorem f_X0_lay_b128_ok {X : Cx} {G : Gx} {z : Rs} (O : Ok X G cX0_lay RX0 8 wsX0_lay (none) rm_X0_lay) (N : Nat) (h : Hp) (e : f_X0_lay_b128 N h = some z) : V X G 8 (QV X G z) h 128 [] [] := by
  unfold f_X0_lay_b128 at e
  exact v_vret O dX0_lay_128 e
set_option maxRecDepth 20000 in
theorem f_X0_lay_b16_ok {X : Cx} {G : Gx} {z : Rs} (O : Ok X G cX0_lay RX0 8 wsX0_lay (none) rm_X0_lay) (N : Nat) (k16 : Int32 → Int32 → Int32 → Hp → Option Rs) (hk16 : ∀ (v1 : Int32) (v2 : Int32) (v3 : Int32) (h : Hp), k16 v1 v2 v3 h = some z → V X G 8 (QV X G z) h 16 [(0, .ref (G.1 10)), (1, .int v1), (2, .int v2), (3, .int v3)] []) (v1 : Int32) (v2 : Int32) (v3 : Int32) (h : Hp) (e : f_X0_lay_b16 N k16 v1 v2 v3 h = some z) : V X G 8 (QV X G z) h 16 [(0, .ref (G.1 10)), (1, .int v1), (2, .int v2), (3, .int v3)] [] := by
  unfold f_X0_lay_b16 at e
  refine v_iload_n O dX0_lay_16 3 rfl rfl ?_
  refine v_iload_n O dX0_lay_17 1 rfl rfl ?_
  refine v_iload_n O dX0_lay_18 2 rfl rfl ?_
  refine v_imul O dX0_lay_19 ?_
  refine v_icmp_ge O dX0_lay_20 128 (by decide) e (fun e => ?_) (fun e => ?_)
  · refine v_sub [] rfl ?_
    exact f_X0_lay_b128_ok O N _ e
  · refine v_iload_n O dX0_lay_23 3 rfl rfl ?_
    refine v_bipush (v := 12) O dX0_lay_24 (by decide) ?_
    refine v_icmp_ge O dX0_lay_26 128 (by decide) e (fun e => ?_) (fun e => ?_)
    · refine v_sub [] rfl ?_
      exact f_X0_lay_b128_ok O N _ e
    · refine v_iconst (v := 0) O dX0_lay_29 (by decide) ?_
      refine v_istore O dX0_lay_30 (by decide) (fun x1 => [(4, .int x1), (0, .ref (G.1 10)), (1, .int v1), (2, .int v2), (3, .int v3)]) (fun _ => rfl) e (fun x1 e => ?_)
      refine v_sub [1, 2, 3, 4, 0] rfl ?_
      exact f_X0_lay_l32_ok O N k16 hk16 N _ _ _ _ _ e
theorem f_X0_lay_l16_ok {X : Cx} {G : Gx} {z : Rs} (O : Ok X G cX0_lay RX0 8 wsX0_lay (none) rm_X0_lay) (N : Nat) : ∀ (n : Nat) (v1 : Int32) (v2 : Int32) (v3 : Int32) (h : Hp), f_X0_lay_l16 N n v1 v2 v3 h = some z → V X G 8 (QV X G z) h 16 [(0, .ref (G.1 10)), (1, .int v1), (2, .int v2), (3, .int v3)] [] := by
  intro n
  induction n with
  | zero => intro v1 v2 v3 h e; cases e
  | succ n ih => intro v1 v2 v3 h e; exact f_X0_lay_b16_ok O N _ ih v1 v2 v3 h e
set_option maxRecDepth 20000 in
theorem f_X0_lay_ok {l : Launch} {G : Gx} {N : Nat} {a0 : Int32} {a1 : Int32} {h : Hp} {z : Rs} (e : f_X0_lay N a0 a1 h = some z) : CV l G yX0_lay wsX0_lay rm_X0_lay [.ref (G.1 10), .int a0, .int a1] h z := by
  refine m_void _ (by decide) rfl [(0, .ref (G.1 10)), (1, .int a0), (2, .int a1)] rfl (Nat.le_of_ble_eq_true rfl) (fun X O => ?_)
  unfold f_X0_lay at e
  refine v_aload_n O dX0_lay_0 0 rfl rfl ?_
  refine v_get O fd_X0_lay_11 (g25 O (by decide)) (cg_10 G _) rfl dX0_lay_1 ?_
  refine v_iconst (v := (-1)) O dX0_lay_4 (by decide) ?_
  refine v_cSv O [.ref (G.1 11), .int (-1)] [] gX0_lay_J7_fill_53178 cw_X0_lay_J7_fill_53178 rfl rfl (Nat.le_of_ble_eq_true rfl) dX0_lay_5 e (fun _ e9 => f_J7_fill_53178_11_ok e9) (fun _ h1 e => ?_)
  refine v_iload_n O dX0_lay_8 1 rfl rfl ?_
  refine v_iconst (v := 1) O dX0_lay_9 (by decide) ?_
  refine v_icmp_ge O dX0_lay_10 14 (by decide) e (fun e => ?_) (fun e => ?_)
  · refine v_iconst (v := 0) O dX0_lay_14 (by decide) ?_
    refine v_istore_n O dX0_lay_15 rfl (by decide) (fun x2 => [(3, .int x2), (0, .ref (G.1 10)), (1, .int a0), (2, .int a1)]) (fun _ => rfl) e (fun x2 e => ?_)
    refine v_sub [1, 2, 3, 0] rfl ?_
    exact f_X0_lay_l16_ok O N N _ _ _ _ e
  · exact v_vret O dX0_lay_13 e
/-! ===== X4 forget ===== -/
abbrev rm_X4_forget : Room := { frames := 0, cells := 0, slots := 0, locals := 0 }
theorem fd_X4_forget_32 : FdO wsX4_forget RX4 32 RX4 TX4 8 4 6 := ⟨by decide +kernel, rfl, by decide, by decide +kernel⟩
set_option maxRecDepth 20000 in
theorem f_X4_forget_ok {l : Launch} {G : Gx} {N : Nat} {h : Hp} {z : Rs} (e : f_X4_forget N h = some z) : CV l G yX4_forget wsX4_forget rm_X4_forget [.ref (G.1 15)] h z := by
  refine m_void _ (by decide) rfl [(0, .ref (G.1 15))] rfl (Nat.le_of_ble_eq_true rfl) (fun X O => ?_)
  unfold f_X4_forget at e
  refine v_aload_n O dX4_forget_0 0 rfl rfl ?_
  refine v_iconst (v := 0) O dX4_forget_1 (by decide) ?_
  refine v_put O fd_X4_forget_32 fp_X4_6 (g25 O (by decide)) (cg_15 G _) (Nat.le_of_ble_eq_true rfl) (cs_15_6 G _ _) dX4_forget_2 e (fun h1 e => ?_)
  exact v_vret O dX4_forget_5 e
/-! ===== X7 beginAnew ===== -/
abbrev rm_X7_beginAnew : Room := { frames := 2, cells := 0, slots := 0, locals := 50 }
theorem fd_X7_beginAnew_10 : FdO wsX7_beginAnew RX7 10 RX7 TX7 15 7 0 := ⟨by decide +kernel, rfl, by decide, by decide +kernel⟩
theorem fd_X7_beginAnew_35 : FdO wsX7_beginAnew RX7 35 RX7 TX7 15 7 3 := ⟨by decide +kernel, rfl, by decide, by decide +kernel⟩
theorem fd_X7_beginAnew_62 : FdO wsX7_beginAnew RX7 62 RX7 TX7 15 7 6 := ⟨by decide +kernel, rfl, by decide, by decide +kernel⟩
theorem fd_X7_beginAnew_73 : FdO wsX7_beginAnew RX7 73 RX7 TX7 15 7 9 := ⟨by decide +kernel, rfl, by decide, by decide +kernel⟩
theorem fd_X7_beginAnew_83 : FdO wsX7_beginAnew RX7 83 RX5 TX5 9 5 0 := ⟨by decide +kernel, rfl, by decide, by decide +kernel⟩
theorem fd_X7_beginAnew_87 : FdO wsX7_beginAnew RX7 87 RX5 TX5 9 5 1 := ⟨by decide +kernel, rfl, by decide, by decide +kernel⟩
theorem fd_X7_beginAnew_133 : FdO wsX7_beginAnew RX7 133 RX7 TX7 15 7 13 := ⟨by decide +kernel, rfl, by decide, by decide +kernel⟩
theorem fd_X7_beginAnew_166 : FdO wsX7_beginAnew RX7 166 RX7 TX7 15 7 14 := ⟨by decide +kernel, rfl, by decide, by decide +kernel⟩
theorem fd_X7_beginAnew_234 : FdO wsX7_beginAnew RX7 234 RX7 TX7 15 7 12 := ⟨by decide +kernel, rfl, by decide, by decide +kernel⟩
theorem fd_X7_beginAnew_249 : FdO wsX7_beginAnew RX7 249 RX5 TX5 9 5 5 := ⟨by decide +kernel, rfl, by decide, by decide +kernel⟩
theorem cw_X7_beginAnew_X0_lay : CwO rm_X7_beginAnew yX0_lay wsX0_lay cX0_lay 8 (none) rm_X0_lay 2 := ⟨⟨_, rfl⟩, rfl, rfl, by decide +kernel, by decide, by decide⟩
theorem cw_X7_beginAnew_X4_forget : CwO rm_X7_beginAnew yX4_forget wsX4_forget cX4_forget 1 (none) rm_X4_forget 0 := ⟨⟨_, rfl⟩, rfl, rfl, by decide +kernel, by decide, by decide⟩
set_option maxRecDepth 20000 in
theorem f_X7_beginAnew_b51_ok {X : Cx} {G : Gx} {z : Rs} (O : Ok X G cX7_beginAnew RX7 2 wsX7_beginAnew (none) rm_X7_beginAnew) (N : Nat) (k51 : Int32 → Hp → Option Rs) (hk51 : ∀ (v1 : Int32) (h : Hp), k51 v1 h = some z → V X G 2 (QV X G z) h 51 [(0, .ref (G.1 0)), (1, .int v1)] []) (v1 : Int32) (h : Hp) (e : f_X7_beginAnew_b51 N k51 v1 h = some z) : V X G 2 (QV X G z) h 51 [(0, .ref (G.1 0)), (1, .int v1)] [] := by
  unfold f_X7_beginAnew_b51 at e
  refine v_iload_n O dX7_beginAnew_51 1 rfl rfl ?_
  refine v_iconst (v := 2) O dX7_beginAnew_52 (by decide) ?_
  refine v_icmp_ge O dX7_beginAnew_53 69 (by decide) e (fun e => ?_) (fun e => ?_)
  · exact v_vret O dX7_beginAnew_69 e
  · refine v_aload_n O dX7_beginAnew_56 0 rfl rfl ?_
    refine v_get O fd_X7_beginAnew_73 (g25 O (by decide)) (cg_0 G _) rfl dX7_beginAnew_57 ?_
    refine v_iload_n O dX7_beginAnew_60 1 rfl rfl ?_
    refine v_iconst (v := 0) O dX7_beginAnew_61 (by decide) ?_
    refine v_zast O (g25 O (by decide)) (cg_22 G _) (cw_22 G _ _ _) dX7_beginAnew_62 e (fun h1 e => ?_)
    refine v_iinc (v := 1) O dX7_beginAnew_63 1 rfl (by decide) (by decide) (fun x2 => [(1, .int x2), (0, .ref (G.1 0))]) (fun _ => rfl) e (fun x2 e => ?_)
    refine v_goto O dX7_beginAnew_66 51 (by decide) ?_
    refine v_sub [1, 0] rfl ?_
    exact hk51 _ _ e
theorem f_X7_beginAnew_l51_ok {X : Cx} {G : Gx} {z : Rs} (O : Ok X G cX7_beginAnew RX7 2 wsX7_beginAnew (none) rm_X7_beginAnew) (N : Nat) : ∀ (n : Nat) (v1 : Int32) (h : Hp), f_X7_beginAnew_l51 N n v1 h = some z → V X G 2 (QV X G z) h 51 [(0, .ref (G.1 0)), (1, .int v1)] [] := by
  intro n
  induction n with
  | zero => intro v1 h e; cases e
  | succ n ih => intro v1 h e; exact f_X7_beginAnew_b51_ok O N _ ih v1 h e
set_option maxRecDepth 20000 in
theorem f_X7_beginAnew_ok {l : Launch} {G : Gx} {N : Nat} {h : Hp} {z : Rs} (e : f_X7_beginAnew N h = some z) : CV l G yX7_beginAnew wsX7_beginAnew rm_X7_beginAnew [.ref (G.1 0)] h z := by
  refine m_void _ (by decide) rfl [(0, .ref (G.1 0))] rfl (Nat.le_of_ble_eq_true rfl) (fun X O => ?_)
  unfold f_X7_beginAnew at e
  refine v_aload_n O dX7_beginAnew_0 0 rfl rfl ?_
  refine v_get O fd_X7_beginAnew_35 (g25 O (by decide)) (cg_0 G _) rfl dX7_beginAnew_1 ?_
  refine v_aload_n O dX7_beginAnew_4 0 rfl rfl ?_
  refine v_get O fd_X7_beginAnew_10 (g25 O (by decide)) (cg_0 G _) rfl dX7_beginAnew_5 ?_
  refine v_get O fd_X7_beginAnew_83 (g25 O (by decide)) (cg_1 G _) rfl dX7_beginAnew_8 ?_
  refine v_aload_n O dX7_beginAnew_11 0 rfl rfl ?_
  refine v_get O fd_X7_beginAnew_10 (g25 O (by decide)) (cg_0 G _) rfl dX7_beginAnew_12 ?_
  refine v_get O fd_X7_beginAnew_87 (g25 O (by decide)) (cg_1 G _) rfl dX7_beginAnew_15 ?_
  refine v_cVv O [.int (h.1 1 0), .int (h.1 1 1)] [] gX7_beginAnew_X0_lay cw_X7_beginAnew_X0_lay rfl rfl (g25 O (by decide)) (cg_10 G _) rfl rfl (Nat.le_of_ble_eq_true rfl) dX7_beginAnew_18 e (fun _ e9 => f_X0_lay_ok e9) (fun _ h1 e => ?_)
  refine v_aload_n O dX7_beginAnew_21 0 rfl rfl ?_
  refine v_get O fd_X7_beginAnew_62 (g25 O (by decide)) (cg_0 G _) rfl dX7_beginAnew_22 ?_
  refine v_cVv O [] [] gX7_beginAnew_X4_forget cw_X7_beginAnew_X4_forget rfl rfl (g25 O (by decide)) (cg_15 G _) rfl rfl (Nat.le_of_ble_eq_true rfl) dX7_beginAnew_25 e (fun _ e9 => f_X4_forget_ok e9) (fun _ h2 e => ?_)
  refine v_aload_n O dX7_beginAnew_28 0 rfl rfl ?_
  refine v_aload_n O dX7_beginAnew_29 0 rfl rfl ?_
  refine v_get O fd_X7_beginAnew_10 (g25 O (by decide)) (cg_0 G _) rfl dX7_beginAnew_30 ?_
  refine v_get O fd_X7_beginAnew_249 (g25 O (by decide)) (cg_1 G _) rfl dX7_beginAnew_33 ?_
  refine v_put O fd_X7_beginAnew_133 fp_X7_13 (g25 O (by decide)) (cg_0 G _) (Nat.le_of_ble_eq_true rfl) (cs_0_13 G _ _) dX7_beginAnew_36 e (fun h3 e => ?_)
  refine v_aload_n O dX7_beginAnew_39 0 rfl rfl ?_
  refine v_iconst (v := 0) O dX7_beginAnew_40 (by decide) ?_
  refine v_put O fd_X7_beginAnew_166 fp_X7_14 (g25 O (by decide)) (cg_0 G _) (Nat.le_of_ble_eq_true rfl) (cs_0_14 G _ _) dX7_beginAnew_41 e (fun h4 e => ?_)
  refine v_aload_n O dX7_beginAnew_44 0 rfl rfl ?_
  refine v_iconst (v := 0) O dX7_beginAnew_45 (by decide) ?_
  refine v_put O fd_X7_beginAnew_234 fp_X7_12 (g25 O (by decide)) (cg_0 G _) (Nat.le_of_ble_eq_true rfl) (cs_0_12 G _ _) dX7_beginAnew_46 e (fun h5 e => ?_)
  refine v_iconst (v := 0) O dX7_beginAnew_49 (by decide) ?_
  refine v_istore_n O dX7_beginAnew_50 rfl (by decide) (fun x6 => [(1, .int x6), (0, .ref (G.1 0))]) (fun _ => rfl) e (fun x6 e => ?_)
  refine v_sub [1, 0] rfl ?_
  exact f_X7_beginAnew_l51_ok O N N _ _ e
/-! ===== X7 board ===== -/
abbrev rm_X7_board : Room := { frames := 7, cells := 0, slots := 0, locals := 150 }
theorem fd_X7_board_10 : FdO wsX7_board RX7 10 RX7 TX7 15 7 0 := ⟨by decide +kernel, rfl, by decide, by decide +kernel⟩
theorem fd_X7_board_19 : FdO wsX7_board RX7 19 RX7 TX7 15 7 1 := ⟨by decide +kernel, rfl, by decide, by decide +kernel⟩
theorem fd_X7_board_28 : FdO wsX7_board RX7 28 RX7 TX7 15 7 2 := ⟨by decide +kernel, rfl, by decide, by decide +kernel⟩
theorem fd_X7_board_94 : FdO wsX7_board RX7 94 RX6 TX6 4 6 1 := ⟨by decide +kernel, rfl, by decide, by decide +kernel⟩
theorem fd_X7_board_107 : FdO wsX7_board RX7 107 RX3 TX3 4 3 1 := ⟨by decide +kernel, rfl, by decide, by decide +kernel⟩
theorem fd_X7_board_110 : FdO wsX7_board RX7 110 RX3 TX3 4 3 0 := ⟨by decide +kernel, rfl, by decide, by decide +kernel⟩
theorem fd_X7_board_119 : FdO wsX7_board RX7 119 RX3 TX3 4 3 2 := ⟨by decide +kernel, rfl, by decide, by decide +kernel⟩
theorem cw_X7_board_X3_read : CwO rm_X7_board yX3_read wsX3_read cX3_read 3 (none) rm_X3_read 1 := ⟨⟨_, rfl⟩, rfl, rfl, by decide +kernel, by decide, by decide⟩
theorem cw_X7_board_X5_copy : CwO rm_X7_board yX5_copy wsX5_copy cX5_copy 2 (none) rm_X5_copy 1 := ⟨⟨_, rfl⟩, rfl, rfl, by decide +kernel, by decide, by decide⟩
theorem cw_X7_board_X7_beginAnew : CwO rm_X7_board yX7_beginAnew wsX7_beginAnew cX7_beginAnew 2 (none) rm_X7_beginAnew 0 := ⟨⟨_, rfl⟩, rfl, rfl, by decide +kernel, by decide, by decide⟩
set_option maxRecDepth 20000 in
theorem f_X7_board_ok {l : Launch} {G : Gx} {N : Nat} {h : Hp} {z : Rs} (e : f_X7_board N h = some z) : CI l G yX7_board wsX7_board rm_X7_board [.ref (G.1 0)] h z := by
  refine m_int _ (by decide) rfl [(0, .ref (G.1 0))] rfl (Nat.le_of_ble_eq_true rfl) (fun X O => ?_)
  unfold f_X7_board at e
  refine v_aload_n O dX7_board_0 0 rfl rfl ?_
  refine v_get O fd_X7_board_28 (g25 O (by decide)) (cg_0 G _) rfl dX7_board_1 ?_
  refine v_aload_n O dX7_board_4 0 rfl rfl ?_
  refine v_get O fd_X7_board_10 (g25 O (by decide)) (cg_0 G _) rfl dX7_board_5 ?_
  refine v_cVv O [.ref (G.1 1)] [] gX7_board_X3_read cw_X7_board_X3_read rfl rfl (g25 O (by decide)) (cg_6 G _) rfl rfl (Nat.le_of_ble_eq_true rfl) dX7_board_8 e (fun _ e9 => f_X3_read_ok e9) (fun _ h1 e => ?_)
  refine v_aload_n O dX7_board_11 0 rfl rfl ?_
  refine v_get O fd_X7_board_28 (g25 O (by decide)) (cg_0 G _) rfl dX7_board_12 ?_
  refine v_get O fd_X7_board_107 (g25 O (by decide)) (cg_6 G _) rfl dX7_board_15 ?_
  refine v_iconst (v := (-1)) O dX7_board_18 (by decide) ?_
  refine v_icmp_eq O dX7_board_19 25 (by decide) e (fun e => ?_) (fun e => ?_)
  · refine v_aload_n O dX7_board_25 0 rfl rfl ?_
    refine v_get O fd_X7_board_10 (g25 O (by decide)) (cg_0 G _) rfl dX7_board_26 ?_
    refine v_aload_n O dX7_board_29 0 rfl rfl ?_
    refine v_get O fd_X7_board_28 (g25 O (by decide)) (cg_0 G _) rfl dX7_board_30 ?_
    refine v_get O fd_X7_board_110 (g25 O (by decide)) (cg_6 G _) rfl dX7_board_33 ?_
    refine v_cVv O [.ref (G.1 7)] [] gX7_board_X5_copy cw_X7_board_X5_copy rfl rfl (g25 O (by decide)) (cg_1 G _) rfl rfl (Nat.le_of_ble_eq_true rfl) dX7_board_36 e (fun _ e9 => f_X5_copy_ok_1_7 e9) (fun _ h2 e => ?_)
    refine v_aload_n O dX7_board_39 0 rfl rfl ?_
    refine v_get O fd_X7_board_19 (g25 O (by decide)) (cg_0 G _) rfl dX7_board_40 ?_
    refine v_iconst (v := 0) O dX7_board_43 (by decide) ?_
    refine v_put O fd_X7_board_94 fp_X6_1 (g25 O (by decide)) (cg_4 G _) (Nat.le_of_ble_eq_true rfl) (cs_4_1 G _ _) dX7_board_44 e (fun h3 e => ?_)
    refine v_aload_n O dX7_board_47 0 rfl rfl ?_
    refine v_cVv O [] [] gX7_board_X7_beginAnew cw_X7_board_X7_beginAnew rfl rfl (g25 O (by decide)) (cg_0 G _) rfl rfl (Nat.le_of_ble_eq_true rfl) dX7_board_48 e (fun _ e9 => f_X7_beginAnew_ok e9) (fun _ h4 e => ?_)
    refine v_aload_n O dX7_board_51 0 rfl rfl ?_
    refine v_get O fd_X7_board_28 (g25 O (by decide)) (cg_0 G _) rfl dX7_board_52 ?_
    refine v_get O fd_X7_board_119 (g25 O (by decide)) (cg_6 G _) rfl dX7_board_55 ?_
    exact v_iret O dX7_board_58 e
  · refine v_bipush (v := (-4)) O dX7_board_22 (by decide) ?_
    exact v_iret O dX7_board_24 e
/-! ===== X7 burn ===== -/
abbrev rm_X7_burn : Room := { frames := 0, cells := 0, slots := 0, locals := 0 }
theorem fd_X7_burn_234 : FdO wsX7_burn RX7 234 RX7 TX7 15 7 12 := ⟨by decide +kernel, rfl, by decide, by decide +kernel⟩
set_option maxRecDepth 20000 in
theorem f_X7_burn_ok {l : Launch} {G : Gx} {N : Nat} {h : Hp} {z : Rs} (e : f_X7_burn N h = some z) : CI l G yX7_burn wsX7_burn rm_X7_burn [.ref (G.1 0)] h z := by
  refine m_int _ (by decide) rfl [(0, .ref (G.1 0))] rfl (Nat.le_of_ble_eq_true rfl) (fun X O => ?_)
  unfold f_X7_burn at e
  refine v_aload_n O dX7_burn_0 0 rfl rfl ?_
  refine v_get O fd_X7_burn_234 (g25 O (by decide)) (cg_0 G _) rfl dX7_burn_1 ?_
  refine v_istore_n O dX7_burn_4 rfl (by decide) (fun x1 => [(1, .int x1), (0, .ref (G.1 0))]) (fun _ => rfl) e (fun x1 e => ?_)
  refine v_aload_n O dX7_burn_5 1 rfl rfl ?_
  refine v_iconst (v := 0) O dX7_burn_6 (by decide) ?_
  refine v_put O fd_X7_burn_234 fp_X7_12 (g25 O (by decide)) (cg_0 G _) (Nat.le_of_ble_eq_true rfl) (cs_0_12 G _ _) dX7_burn_7 e (fun h2 e => ?_)
  refine v_iload_n O dX7_burn_10 0 rfl rfl ?_
  exact v_iret O dX7_burn_11 e
/-! ===== X7 menAtHome ===== -/
abbrev rm_X7_menAtHome : Room := { frames := 1, cells := 0, slots := 0, locals := 21 }
theorem fd_X7_menAtHome_10 : FdO wsX7_menAtHome RX7 10 RX7 TX7 15 7 0 := ⟨by decide +kernel, rfl, by decide, by decide +kernel⟩
theorem fd_X7_menAtHome_133 : FdO wsX7_menAtHome RX7 133 RX7 TX7 15 7 13 := ⟨by decide +kernel, rfl, by decide, by decide +kernel⟩
theorem fd_X7_menAtHome_139 : FdO wsX7_menAtHome RX7 139 RX5 TX5 9 5 6 := ⟨by decide +kernel, rfl, by decide, by decide +kernel⟩
theorem fd_X7_menAtHome_202 : FdO wsX7_menAtHome RX7 202 RX5 TX5 9 5 4 := ⟨by decide +kernel, rfl, by decide, by decide +kernel⟩
theorem cw_X7_menAtHome_X7_placeOf : CwO rm_X7_menAtHome yX7_placeOf wsX7_placeOf cX7_placeOf 2 (some .int) rm_X7_placeOf 2 := ⟨⟨_, rfl⟩, rfl, rfl, by decide +kernel, by decide, by decide⟩
set_option maxRecDepth 20000 in
theorem f_X7_menAtHome_b43_ok {X : Cx} {G : Gx} {z : Rs} (O : Ok X G cX7_menAtHome RX7 3 wsX7_menAtHome (some .int) rm_X7_menAtHome) (N : Nat) (k4 : Int32 → Int32 → Hp → Option Rs) (hk4 : ∀ (v1 : Int32) (v2 : Int32) (h : Hp), k4 v1 v2 h = some z → V X G 3 (QI X G z) h 4 [(0, .ref (G.1 0)), (1, .int v1), (2, .int v2)] []) (v1 : Int32) (v2 : Int32) (h : Hp) (e : f_X7_menAtHome_b43 N k4 v1 v2 h = some z) : V X G 3 (QI X G z) h 43 [(0, .ref (G.1 0)), (1, .int v1), (2, .int v2)] [] := by
  unfold f_X7_menAtHome_b43 at e
  refine v_iinc (v := 1) O dX7_menAtHome_43 2 rfl (by decide) (by decide) (fun x1 => [(2, .int x1), (0, .ref (G.1 0)), (1, .int v1)]) (fun _ => rfl) e (fun x1 e => ?_)
  refine v_goto O dX7_menAtHome_46 4 (by decide) ?_
  refine v_sub [1, 2, 0] rfl ?_
  exact hk4 _ _ _ e
set_option maxRecDepth 20000 in
theorem f_X7_menAtHome_b4_ok {X : Cx} {G : Gx} {z : Rs} (O : Ok X G cX7_menAtHome RX7 3 wsX7_menAtHome (some .int) rm_X7_menAtHome) (N : Nat) (k4 : Int32 → Int32 → Hp → Option Rs) (hk4 : ∀ (v1 : Int32) (v2 : Int32) (h : Hp), k4 v1 v2 h = some z → V X G 3 (QI X G z) h 4 [(0, .ref (G.1 0)), (1, .int v1), (2, .int v2)] []) (v1 : Int32) (v2 : Int32) (h : Hp) (e : f_X7_menAtHome_b4 N k4 v1 v2 h = some z) : V X G 3 (QI X G z) h 4 [(0, .ref (G.1 0)), (1, .int v1), (2, .int v2)] [] := by
  unfold f_X7_menAtHome_b4 at e
  refine v_iload_n O dX7_menAtHome_4 2 rfl rfl ?_
  refine v_aload_n O dX7_menAtHome_5 0 rfl rfl ?_
  refine v_get O fd_X7_menAtHome_10 (g25 O (by decide)) (cg_0 G _) rfl dX7_menAtHome_6 ?_
  refine v_get O fd_X7_menAtHome_202 (g25 O (by decide)) (cg_1 G _) rfl dX7_menAtHome_9 ?_
  refine v_icmp_ge O dX7_menAtHome_12 49 (by decide) e (fun e => ?_) (fun e => ?_)
  · refine v_iload_n O dX7_menAtHome_49 1 rfl rfl ?_
    exact v_iret O dX7_menAtHome_50 e
  · refine v_iload_n O dX7_menAtHome_15 2 rfl rfl ?_
    refine v_aload_n O dX7_menAtHome_16 0 rfl rfl ?_
    refine v_get O fd_X7_menAtHome_133 (g25 O (by decide)) (cg_0 G _) rfl dX7_menAtHome_17 ?_
    refine v_cSi O [.int v2, .int (h.1 0 13)] [] gX7_menAtHome_X7_placeOf cw_X7_menAtHome_X7_placeOf rfl rfl (Nat.le_of_ble_eq_true rfl) dX7_menAtHome_20 e (fun _ e9 => f_X7_placeOf_ok e9) (fun r1 h2 e => ?_)
    refine v_iload_n O dX7_menAtHome_23 2 rfl rfl ?_
    refine v_aload_n O dX7_menAtHome_24 0 rfl rfl ?_
    refine v_get O fd_X7_menAtHome_10 (g25 O (by decide)) (cg_0 G _) rfl dX7_menAtHome_25 ?_
    refine v_get O fd_X7_menAtHome_139 (g25 O (by decide)) (cg_1 G _) rfl dX7_menAtHome_28 ?_
    refine v_cSi O [.int v2, .int (h2.1 1 6)] [.int r1] gX7_menAtHome_X7_placeOf cw_X7_menAtHome_X7_placeOf rfl rfl (Nat.le_of_ble_eq_true rfl) dX7_menAtHome_31 e (fun _ e9 => f_X7_placeOf_ok e9) (fun r3 h4 e => ?_)
    refine v_icmp_ne O dX7_menAtHome_34 43 (by decide) e (fun e => ?_) (fun e => ?_)
    · exact f_X7_menAtHome_b43_ok O N k4 hk4 _ _ _ e
    · refine v_iload_n O dX7_menAtHome_37 1 rfl rfl ?_
      refine v_iconst (v := 1) O dX7_menAtHome_38 (by decide) ?_
      refine v_iload_n O dX7_menAtHome_39 2 rfl rfl ?_
      refine v_ishl O dX7_menAtHome_40 ?_
      refine v_ior O dX7_menAtHome_41 ?_
      refine v_istore_n O dX7_menAtHome_42 rfl (by decide) (fun x5 => [(1, .int x5), (0, .ref (G.1 0)), (2, .int v2)]) (fun _ => rfl) e (fun x5 e => ?_)
      refine v_sub [1, 0, 2] rfl ?_
      exact f_X7_menAtHome_b43_ok O N k4 hk4 _ _ _ e
theorem f_X7_menAtHome_l4_ok {X : Cx} {G : Gx} {z : Rs} (O : Ok X G cX7_menAtHome RX7 3 wsX7_menAtHome (some .int) rm_X7_menAtHome) (N : Nat) : ∀ (n : Nat) (v1 : Int32) (v2 : Int32) (h : Hp), f_X7_menAtHome_l4 N n v1 v2 h = some z → V X G 3 (QI X G z) h 4 [(0, .ref (G.1 0)), (1, .int v1), (2, .int v2)] [] := by
  intro n
  induction n with
  | zero => intro v1 v2 h e; cases e
  | succ n ih => intro v1 v2 h e; exact f_X7_menAtHome_b4_ok O N _ ih v1 v2 h e
set_option maxRecDepth 20000 in
theorem f_X7_menAtHome_ok {l : Launch} {G : Gx} {N : Nat} {h : Hp} {z : Rs} (e : f_X7_menAtHome N h = some z) : CI l G yX7_menAtHome wsX7_menAtHome rm_X7_menAtHome [.ref (G.1 0)] h z := by
  refine m_int _ (by decide) rfl [(0, .ref (G.1 0))] rfl (Nat.le_of_ble_eq_true rfl) (fun X O => ?_)
  unfold f_X7_menAtHome at e
  refine v_iconst (v := 0) O dX7_menAtHome_0 (by decide) ?_
  refine v_istore_n O dX7_menAtHome_1 rfl (by decide) (fun x1 => [(1, .int x1), (0, .ref (G.1 0))]) (fun _ => rfl) e (fun x1 e => ?_)
  refine v_iconst (v := 0) O dX7_menAtHome_2 (by decide) ?_
  refine v_istore_n O dX7_menAtHome_3 rfl (by decide) (fun x2 => [(2, .int x2), (1, .int x1), (0, .ref (G.1 0))]) (fun _ => rfl) e (fun x2 e => ?_)
  refine v_sub [2, 1, 0] rfl ?_
  exact f_X7_menAtHome_l4_ok O N N _ _ _ e
