/-! ===== X8 doLine ===== -/
abbrev rm_X8_doLine : Room := { frames := 0, cells := 0, slots := 0, locals := 0 }
theorem fd_X8_doLine_7 : FdO wsX8_doLine RX8 7 RX8 TX8 34 8 0 := ⟨by decide +kernel, rfl, by decide, by decide +kernel⟩
theorem fd_X8_doLine_13 : FdO wsX8_doLine RX8 13 RX8 TX8 34 8 1 := ⟨by decide +kernel, rfl, by decide, by decide +kernel⟩
theorem fd_X8_doLine_16 : FdO wsX8_doLine RX8 16 RX8 TX8 34 8 5 := ⟨by decide +kernel, rfl, by decide, by decide +kernel⟩
theorem fd_X8_doLine_29 : FdO wsX8_doLine RX8 29 RX8 TX8 34 8 20 := ⟨by decide +kernel, rfl, by decide, by decide +kernel⟩
theorem fd_X8_doLine_68 : FdO wsX8_doLine RX8 68 RX8 TX8 34 8 4 := ⟨by decide +kernel, rfl, by decide, by decide +kernel⟩
theorem fd_X8_doLine_167 : FdO wsX8_doLine RX8 167 RX8 TX8 34 8 2 := ⟨by decide +kernel, rfl, by decide, by decide +kernel⟩
theorem fd_X8_doLine_176 : FdO wsX8_doLine RX8 176 RX8 TX8 34 8 3 := ⟨by decide +kernel, rfl, by decide, by decide +kernel⟩
set_option maxRecDepth 20000 in
theorem f_X8_doLine_b175_ok {X : Cx} {G : Gx} {z : Rs} (h41 : 41 ≤ gN G) (O : Ok X G cX8_doLine RX8 3 wsX8_doLine (none) rm_X8_doLine) (N : Nat) (h : Hp) (e : f_X8_doLine_b175 N h = some z) : V X G 3 (QV X G z) h 175 [] [] := by
  unfold f_X8_doLine_b175 at e
  exact v_vret O dX8_doLine_175 e
set_option maxRecDepth 20000 in
theorem f_X8_doLine_b44_ok {X : Cx} {G : Gx} {z : Rs} (h41 : 41 ≤ gN G) (O : Ok X G cX8_doLine RX8 3 wsX8_doLine (none) rm_X8_doLine) (N : Nat) (v1 : Int32) (h : Hp) (e : f_X8_doLine_b44 N v1 h = some z) : V X G 3 (QV X G z) h 44 [(0, .ref (G.1 25)), (1, .int v1)] [] := by
  unfold f_X8_doLine_b44 at e
  refine v_aload_n O dX8_doLine_44 0 rfl rfl ?_
  refine v_aload_n O dX8_doLine_45 0 rfl rfl ?_
  refine v_get O fd_X8_doLine_29 (g41 h41 (by decide)) (cg_25 G _) rfl dX8_doLine_46 ?_
  refine v_iload_n O dX8_doLine_49 1 rfl rfl ?_
  refine v_iald O (g41 h41 (by decide)) (cg_30 G _) dX8_doLine_50 e (fun e => ?_)
  refine v_iconst (v := 4) O dX8_doLine_51 (by decide) ?_
  refine v_isub O dX8_doLine_52 ?_
  refine v_put O fd_X8_doLine_176 fp_X8_3 (g41 h41 (by decide)) (cg_25 G _) (Nat.le_of_ble_eq_true rfl) (cs_25_3 G _ _) dX8_doLine_53 e (fun h1 e => ?_)
  refine v_goto O dX8_doLine_56 175 (by decide) ?_
  refine v_sub [] rfl ?_
  exact f_X8_doLine_b175_ok h41 O N _ e
set_option maxRecDepth 20000 in
theorem f_X8_doLine_b133_ok {X : Cx} {G : Gx} {z : Rs} (h41 : 41 ≤ gN G) (O : Ok X G cX8_doLine RX8 3 wsX8_doLine (none) rm_X8_doLine) (N : Nat) (k133 : Int32 → Int32 → Hp → Option Rs) (hk133 : ∀ (v1 : Int32) (v2 : Int32) (h : Hp), k133 v1 v2 h = some z → V X G 3 (QV X G z) h 133 [(0, .ref (G.1 25)), (1, .int v1), (2, .int v2)] []) (v1 : Int32) (v2 : Int32) (h : Hp) (e : f_X8_doLine_b133 N k133 v1 v2 h = some z) : V X G 3 (QV X G z) h 133 [(0, .ref (G.1 25)), (1, .int v1), (2, .int v2)] [] := by
  unfold f_X8_doLine_b133 at e
  refine v_iload_n O dX8_doLine_133 2 rfl rfl ?_
  refine v_iconst (v := 4) O dX8_doLine_134 (by decide) ?_
  refine v_icmp_ge O dX8_doLine_135 165 (by decide) e (fun e => ?_) (fun e => ?_)
  · refine v_aload_n O dX8_doLine_165 0 rfl rfl ?_
    refine v_dup O dX8_doLine_166 rfl ?_
    refine v_get O fd_X8_doLine_68 (g41 h41 (by decide)) (cg_25 G _) rfl dX8_doLine_167 ?_
    refine v_iconst (v := 1) O dX8_doLine_170 (by decide) ?_
    refine v_iadd O dX8_doLine_171 ?_
    refine v_put O fd_X8_doLine_68 fp_X8_4 (g41 h41 (by decide)) (cg_25 G _) (Nat.le_of_ble_eq_true rfl) (cs_25_4 G _ _) dX8_doLine_172 e (fun h1 e => ?_)
    refine v_sub [] rfl ?_
    exact f_X8_doLine_b175_ok h41 O N _ e
  · refine v_aload_n O dX8_doLine_138 0 rfl rfl ?_
    refine v_get O fd_X8_doLine_16 (g41 h41 (by decide)) (cg_25 G _) rfl dX8_doLine_139 ?_
    refine v_iconst (v := 4) O dX8_doLine_142 (by decide) ?_
    refine v_aload_n O dX8_doLine_143 0 rfl rfl ?_
    refine v_get O fd_X8_doLine_68 (g41 h41 (by decide)) (cg_25 G _) rfl dX8_doLine_144 ?_
    refine v_imul O dX8_doLine_147 ?_
    refine v_iload_n O dX8_doLine_148 2 rfl rfl ?_
    refine v_iadd O dX8_doLine_149 ?_
    refine v_aload_n O dX8_doLine_150 0 rfl rfl ?_
    refine v_get O fd_X8_doLine_29 (g41 h41 (by decide)) (cg_25 G _) rfl dX8_doLine_151 ?_
    refine v_iload_n O dX8_doLine_154 1 rfl rfl ?_
    refine v_iload_n O dX8_doLine_155 2 rfl rfl ?_
    refine v_iadd O dX8_doLine_156 ?_
    refine v_iald O (g41 h41 (by decide)) (cg_30 G _) dX8_doLine_157 e (fun e => ?_)
    refine v_iast O (g41 h41 (by decide)) (cg_26 G _) (cw_26 G _ _ _) dX8_doLine_158 e (fun h2 e => ?_)
    refine v_iinc (v := 1) O dX8_doLine_159 2 rfl (by decide) (by decide) (fun x3 => [(2, .int x3), (0, .ref (G.1 25)), (1, .int v1)]) (fun _ => rfl) e (fun x3 e => ?_)
    refine v_goto O dX8_doLine_162 133 (by decide) ?_
    refine v_sub [1, 2, 0] rfl ?_
    exact hk133 _ _ _ e
theorem f_X8_doLine_l133_ok {X : Cx} {G : Gx} {z : Rs} (h41 : 41 ≤ gN G) (O : Ok X G cX8_doLine RX8 3 wsX8_doLine (none) rm_X8_doLine) (N : Nat) : ∀ (n : Nat) (v1 : Int32) (v2 : Int32) (h : Hp), f_X8_doLine_l133 N n v1 v2 h = some z → V X G 3 (QV X G z) h 133 [(0, .ref (G.1 25)), (1, .int v1), (2, .int v2)] [] := by
  intro n
  induction n with
  | zero => intro v1 v2 h e; cases e
  | succ n ih => intro v1 v2 h e; exact f_X8_doLine_b133_ok h41 O N _ ih v1 v2 h e
set_option maxRecDepth 20000 in
theorem f_X8_doLine_ok {l : Launch} {G : Gx} {N : Nat} (h41 : 41 ≤ gN G) {a0 : Int32} {h : Hp} {z : Rs} (e : f_X8_doLine N a0 h = some z) : CV l G yX8_doLine wsX8_doLine rm_X8_doLine [.ref (G.1 25), .int a0] h z := by
  refine m_void _ (by decide) rfl [(0, .ref (G.1 25)), (1, .int a0)] rfl (Nat.le_of_ble_eq_true rfl) (fun X O => ?_)
  unfold f_X8_doLine at e
  refine v_aload_n O dX8_doLine_0 0 rfl rfl ?_
  refine v_get O fd_X8_doLine_29 (g41 h41 (by decide)) (cg_25 G _) rfl dX8_doLine_1 ?_
  refine v_iload_n O dX8_doLine_4 1 rfl rfl ?_
  refine v_iald O (g41 h41 (by decide)) (cg_30 G _) dX8_doLine_5 e (fun e => ?_)
  refine v_if (c := (h.1 30 (ix a0)) = 4) e (fun c4 e => ?_) (fun c4 e => ?_)
  · refine v_tabIn O dX8_doLine_6 c4 (by decide) (by decide) (by first | rfl | decide) 44 (by decide) ?_
    exact f_X8_doLine_b44_ok h41 O N _ _ e
  refine v_if (c := (h.1 30 (ix a0)) = 5) e (fun c5 e => ?_) (fun c5 e => ?_)
  · refine v_tabIn O dX8_doLine_6 c5 (by decide) (by decide) (by first | rfl | decide) 44 (by decide) ?_
    exact f_X8_doLine_b44_ok h41 O N _ _ e
  refine v_if (c := (h.1 30 (ix a0)) = 6) e (fun c6 e => ?_) (fun c6 e => ?_)
  · refine v_tabIn O dX8_doLine_6 c6 (by decide) (by decide) (by first | rfl | decide) 44 (by decide) ?_
    exact f_X8_doLine_b44_ok h41 O N _ _ e
  refine v_if (c := (h.1 30 (ix a0)) = 7) e (fun c7 e => ?_) (fun c7 e => ?_)
  · refine v_tabIn O dX8_doLine_6 c7 (by decide) (by decide) (by first | rfl | decide) 59 (by decide) ?_
    refine v_aload_n O dX8_doLine_59 0 rfl rfl ?_
    refine v_iconst (v := 0) O dX8_doLine_60 (by decide) ?_
    refine v_put O fd_X8_doLine_68 fp_X8_4 (g41 h41 (by decide)) (cg_25 G _) (Nat.le_of_ble_eq_true rfl) (cs_25_4 G _ _) dX8_doLine_61 e (fun h1 e => ?_)
    refine v_goto O dX8_doLine_64 175 (by decide) ?_
    refine v_sub [] rfl ?_
    exact f_X8_doLine_b175_ok h41 O N _ e
  refine v_if (c := (h.1 30 (ix a0)) = 8) e (fun c8 e => ?_) (fun c8 e => ?_)
  · refine v_tabIn O dX8_doLine_6 c8 (by decide) (by decide) (by first | rfl | decide) 67 (by decide) ?_
    refine v_aload_n O dX8_doLine_67 0 rfl rfl ?_
    refine v_aload_n O dX8_doLine_68 0 rfl rfl ?_
    refine v_get O fd_X8_doLine_29 (g41 h41 (by decide)) (cg_25 G _) rfl dX8_doLine_69 ?_
    refine v_iload_n O dX8_doLine_72 1 rfl rfl ?_
    refine v_iconst (v := 1) O dX8_doLine_73 (by decide) ?_
    refine v_iadd O dX8_doLine_74 ?_
    refine v_iald O (g41 h41 (by decide)) (cg_30 G _) dX8_doLine_75 e (fun e => ?_)
    refine v_put O fd_X8_doLine_7 fp_X8_0 (g41 h41 (by decide)) (cg_25 G _) (Nat.le_of_ble_eq_true rfl) (cs_25_0 G _ _) dX8_doLine_76 e (fun h2 e => ?_)
    refine v_aload_n O dX8_doLine_79 0 rfl rfl ?_
    refine v_aload_n O dX8_doLine_80 0 rfl rfl ?_
    refine v_get O fd_X8_doLine_29 (g41 h41 (by decide)) (cg_25 G _) rfl dX8_doLine_81 ?_
    refine v_iload_n O dX8_doLine_84 1 rfl rfl ?_
    refine v_iconst (v := 2) O dX8_doLine_85 (by decide) ?_
    refine v_iadd O dX8_doLine_86 ?_
    refine v_iald O (g41 h41 (by decide)) (cg_30 G _) dX8_doLine_87 e (fun e => ?_)
    refine v_put O fd_X8_doLine_13 fp_X8_1 (g41 h41 (by decide)) (cg_25 G _) (Nat.le_of_ble_eq_true rfl) (cs_25_1 G _ _) dX8_doLine_88 e (fun h3 e => ?_)
    refine v_aload_n O dX8_doLine_91 0 rfl rfl ?_
    refine v_iconst (v := 0) O dX8_doLine_92 (by decide) ?_
    refine v_put O fd_X8_doLine_167 fp_X8_2 (g41 h41 (by decide)) (cg_25 G _) (Nat.le_of_ble_eq_true rfl) (cs_25_2 G _ _) dX8_doLine_93 e (fun h4 e => ?_)
    refine v_aload_n O dX8_doLine_96 0 rfl rfl ?_
    refine v_iconst (v := 0) O dX8_doLine_97 (by decide) ?_
    refine v_put O fd_X8_doLine_68 fp_X8_4 (g41 h41 (by decide)) (cg_25 G _) (Nat.le_of_ble_eq_true rfl) (cs_25_4 G _ _) dX8_doLine_98 e (fun h5 e => ?_)
    refine v_aload_n O dX8_doLine_101 0 rfl rfl ?_
    refine v_iconst (v := 0) O dX8_doLine_102 (by decide) ?_
    refine v_put O fd_X8_doLine_176 fp_X8_3 (g41 h41 (by decide)) (cg_25 G _) (Nat.le_of_ble_eq_true rfl) (cs_25_3 G _ _) dX8_doLine_103 e (fun h6 e => ?_)
    refine v_goto O dX8_doLine_106 175 (by decide) ?_
    refine v_sub [] rfl ?_
    exact f_X8_doLine_b175_ok h41 O N _ e
  refine v_if (c := (h.1 30 (ix a0)) = 9) e (fun c9 e => ?_) (fun c9 e => ?_)
  · refine v_tabIn O dX8_doLine_6 c9 (by decide) (by decide) (by first | rfl | decide) 109 (by decide) ?_
    refine v_aload_n O dX8_doLine_109 0 rfl rfl ?_
    refine v_aload_n O dX8_doLine_110 0 rfl rfl ?_
    refine v_get O fd_X8_doLine_167 (g41 h41 (by decide)) (cg_25 G _) rfl dX8_doLine_111 ?_
    refine v_iconst (v := 1) O dX8_doLine_114 (by decide) ?_
    refine v_aload_n O dX8_doLine_115 0 rfl rfl ?_
    refine v_get O fd_X8_doLine_29 (g41 h41 (by decide)) (cg_25 G _) rfl dX8_doLine_116 ?_
    refine v_iload_n O dX8_doLine_119 1 rfl rfl ?_
    refine v_iconst (v := 1) O dX8_doLine_120 (by decide) ?_
    refine v_iadd O dX8_doLine_121 ?_
    refine v_iald O (g41 h41 (by decide)) (cg_30 G _) dX8_doLine_122 e (fun e => ?_)
    refine v_ishl O dX8_doLine_123 ?_
    refine v_ior O dX8_doLine_124 ?_
    refine v_put O fd_X8_doLine_167 fp_X8_2 (g41 h41 (by decide)) (cg_25 G _) (Nat.le_of_ble_eq_true rfl) (cs_25_2 G _ _) dX8_doLine_125 e (fun h7 e => ?_)
    refine v_goto O dX8_doLine_128 175 (by decide) ?_
    refine v_sub [] rfl ?_
    exact f_X8_doLine_b175_ok h41 O N _ e
  refine v_tabOut O dX8_doLine_6 (by have q4 := lv_neT (a := 4) c4 rfl; have q5 := lv_neT (a := 5) c5 rfl; have q6 := lv_neT (a := 6) c6 rfl; have q7 := lv_neT (a := 7) c7 rfl; have q8 := lv_neT (a := 8) c8 rfl; have q9 := lv_neT (a := 9) c9 rfl; omega) 131 (by decide) ?_
  refine v_iconst (v := 0) O dX8_doLine_131 (by decide) ?_
  refine v_istore_n O dX8_doLine_132 rfl (by decide) (fun x8 => [(2, .int x8), (0, .ref (G.1 25)), (1, .int a0)]) (fun _ => rfl) e (fun x8 e => ?_)
  refine v_sub [1, 2, 0] rfl ?_
  exact f_X8_doLine_l133_ok h41 O N N _ _ _ e
/-! ===== X8 fails ===== -/
abbrev rm_X8_fails : Room := { frames := 0, cells := 0, slots := 0, locals := 0 }
theorem fd_X8_fails_79 : FdO wsX8_fails RX8 79 RX8 TX8 34 8 9 := ⟨by decide +kernel, rfl, by decide, by decide +kernel⟩
theorem fd_X8_fails_104 : FdO wsX8_fails RX8 104 RX8 TX8 34 8 13 := ⟨by decide +kernel, rfl, by decide, by decide +kernel⟩
set_option maxRecDepth 20000 in
theorem f_X8_fails_ok {l : Launch} {G : Gx} {N : Nat} (h41 : 41 ≤ gN G) {h : Hp} {z : Rs} (e : f_X8_fails N h = some z) : CI l G yX8_fails wsX8_fails rm_X8_fails [.ref (G.1 25)] h z := by
  refine m_bool _ (by decide) rfl [(0, .ref (G.1 25))] rfl (Nat.le_of_ble_eq_true rfl) (fun X O => ?_)
  unfold f_X8_fails at e
  refine v_aload_n O dX8_fails_0 0 rfl rfl ?_
  refine v_aload_n O dX8_fails_1 0 rfl rfl ?_
  refine v_get O fd_X8_fails_79 (g41 h41 (by decide)) (cg_25 G _) rfl dX8_fails_2 ?_
  refine v_put O fd_X8_fails_104 fp_X8_13 (g41 h41 (by decide)) (cg_25 G _) (Nat.le_of_ble_eq_true rfl) (cs_25_13 G _ _) dX8_fails_5 e (fun h1 e => ?_)
  refine v_iconst (v := 0) O dX8_fails_8 (by decide) ?_
  exact v_zret O dX8_fails_9 e
/-! ===== X8 nextToken ===== -/
abbrev rm_X8_nextToken : Room := { frames := 1, cells := 0, slots := 0, locals := 22 }
theorem fd_X8_nextToken_20 : FdO wsX8_nextToken RX8 20 RX8 TX8 34 8 7 := ⟨by decide +kernel, rfl, by decide, by decide +kernel⟩
theorem fd_X8_nextToken_71 : FdO wsX8_nextToken RX8 71 RX8 TX8 34 8 6 := ⟨by decide +kernel, rfl, by decide, by decide +kernel⟩
theorem fd_X8_nextToken_76 : FdO wsX8_nextToken RX8 76 RX8 TX8 34 8 8 := ⟨by decide +kernel, rfl, by decide, by decide +kernel⟩
theorem fd_X8_nextToken_79 : FdO wsX8_nextToken RX8 79 RX8 TX8 34 8 9 := ⟨by decide +kernel, rfl, by decide, by decide +kernel⟩
theorem fd_X8_nextToken_82 : FdO wsX8_nextToken RX8 82 RX8 TX8 34 8 11 := ⟨by decide +kernel, rfl, by decide, by decide +kernel⟩
theorem fd_X8_nextToken_85 : FdO wsX8_nextToken RX8 85 RX8 TX8 34 8 12 := ⟨by decide +kernel, rfl, by decide, by decide +kernel⟩
theorem fd_X8_nextToken_90 : FdO wsX8_nextToken RX8 90 RX8 TX8 34 8 10 := ⟨by decide +kernel, rfl, by decide, by decide +kernel⟩
theorem cw_X8_nextToken_X8_in : CwO rm_X8_nextToken yX8_in wsX8_in cX8_in 3 (some .boolean) rm_X8_in 3 := ⟨⟨_, rfl⟩, rfl, rfl, by decide +kernel, by decide, by decide⟩
set_option maxRecDepth 20000 in
theorem f_X8_nextToken_b175_ok {X : Cx} {G : Gx} {z : Rs} (h41 : 41 ≤ gN G) (O : Ok X G cX8_nextToken RX8 1 wsX8_nextToken (none) rm_X8_nextToken) (N : Nat) (k101 : Hp → Option Rs) (hk101 : ∀ (h : Hp), k101 h = some z → V X G 1 (QV X G z) h 101 [(0, .ref (G.1 25))] []) (s0 : Int64) (h : Hp) (e : f_X8_nextToken_b175 N k101 s0 h = some z) : V X G 1 (QV X G z) h 175 [(0, .ref (G.1 25))] [.long s0, .ref (G.1 25)] := by
  unfold f_X8_nextToken_b175 at e
  refine v_putl O fd_X8_nextToken_90 fp_X8_10 (g41 h41 (by decide)) (cg_25 G _) (Nat.le_of_ble_eq_true rfl) (cs_25_10 G _ _) dX8_nextToken_175 e (fun h1 e => ?_)
  refine v_aload_n O dX8_nextToken_178 0 rfl rfl ?_
  refine v_dup O dX8_nextToken_179 rfl ?_
  refine v_get O fd_X8_nextToken_76 (g41 h41 (by decide)) (cg_25 G _) rfl dX8_nextToken_180 ?_
  refine v_iconst (v := 1) O dX8_nextToken_183 (by decide) ?_
  refine v_iadd O dX8_nextToken_184 ?_
  refine v_put O fd_X8_nextToken_76 fp_X8_8 (g41 h41 (by decide)) (cg_25 G _) (Nat.le_of_ble_eq_true rfl) (cs_25_8 G _ _) dX8_nextToken_185 e (fun h2 e => ?_)
  refine v_goto O dX8_nextToken_188 101 (by decide) ?_
  exact hk101 _ e
set_option maxRecDepth 20000 in
theorem f_X8_nextToken_b394_ok {X : Cx} {G : Gx} {z : Rs} (h41 : 41 ≤ gN G) (O : Ok X G cX8_nextToken RX8 1 wsX8_nextToken (none) rm_X8_nextToken) (N : Nat) (h : Hp) (e : f_X8_nextToken_b394 N h = some z) : V X G 1 (QV X G z) h 394 [] [] := by
  unfold f_X8_nextToken_b394 at e
  exact v_vret O dX8_nextToken_394 e
set_option maxRecDepth 20000 in
theorem f_X8_nextToken_b216_ok {X : Cx} {G : Gx} {z : Rs} (h41 : 41 ≤ gN G) (O : Ok X G cX8_nextToken RX8 1 wsX8_nextToken (none) rm_X8_nextToken) (N : Nat) (s0 : Int64) (h : Hp) (e : f_X8_nextToken_b216 N s0 h = some z) : V X G 1 (QV X G z) h 216 [] [.long s0, .ref (G.1 25)] := by
  unfold f_X8_nextToken_b216 at e
  refine v_putl O fd_X8_nextToken_90 fp_X8_10 (g41 h41 (by decide)) (cg_25 G _) (Nat.le_of_ble_eq_true rfl) (cs_25_10 G _ _) dX8_nextToken_216 e (fun h1 e => ?_)
  refine v_goto O dX8_nextToken_219 394 (by decide) ?_
  exact f_X8_nextToken_b394_ok h41 O N _ e
set_option maxRecDepth 20000 in
theorem f_X8_nextToken_b191_ok {X : Cx} {G : Gx} {z : Rs} (h41 : 41 ≤ gN G) (O : Ok X G cX8_nextToken RX8 1 wsX8_nextToken (none) rm_X8_nextToken) (N : Nat) (h : Hp) (e : f_X8_nextToken_b191 N h = some z) : V X G 1 (QV X G z) h 191 [(0, .ref (G.1 25))] [] := by
  unfold f_X8_nextToken_b191 at e
  refine v_aload_n O dX8_nextToken_191 0 rfl rfl ?_
  refine v_aload_n O dX8_nextToken_192 0 rfl rfl ?_
  refine v_get O fd_X8_nextToken_76 (g41 h41 (by decide)) (cg_25 G _) rfl dX8_nextToken_193 ?_
  refine v_aload_n O dX8_nextToken_196 0 rfl rfl ?_
  refine v_get O fd_X8_nextToken_79 (g41 h41 (by decide)) (cg_25 G _) rfl dX8_nextToken_197 ?_
  refine v_isub O dX8_nextToken_200 ?_
  refine v_bipush (v := 9) O dX8_nextToken_201 (by decide) ?_
  refine v_icmp_le O dX8_nextToken_203 212 (by decide) e (fun e => ?_) (fun e => ?_)
  · refine v_aload_n O dX8_nextToken_212 0 rfl rfl ?_
    refine v_get O fd_X8_nextToken_90 (g41 h41 (by decide)) (cg_25 G _) rfl dX8_nextToken_213 ?_
    refine v_sub [] rfl ?_
    exact f_X8_nextToken_b216_ok h41 O N _ _ e
  · refine v_ldc2 (v := (-4)) O dX8_nextToken_206 (by decide +kernel) ?_
    refine v_goto O dX8_nextToken_209 216 (by decide) ?_
    refine v_sub [] rfl ?_
    exact f_X8_nextToken_b216_ok h41 O N _ _ e
set_option maxRecDepth 20000 in
theorem f_X8_nextToken_b101_ok {X : Cx} {G : Gx} {z : Rs} (h41 : 41 ≤ gN G) (O : Ok X G cX8_nextToken RX8 1 wsX8_nextToken (none) rm_X8_nextToken) (N : Nat) (k101 : Hp → Option Rs) (hk101 : ∀ (h : Hp), k101 h = some z → V X G 1 (QV X G z) h 101 [(0, .ref (G.1 25))] []) (h : Hp) (e : f_X8_nextToken_b101 N k101 h = some z) : V X G 1 (QV X G z) h 101 [(0, .ref (G.1 25))] [] := by
  unfold f_X8_nextToken_b101 at e
  refine v_aload_n O dX8_nextToken_101 0 rfl rfl ?_
  refine v_get O fd_X8_nextToken_76 (g41 h41 (by decide)) (cg_25 G _) rfl dX8_nextToken_102 ?_
  refine v_aload_n O dX8_nextToken_105 0 rfl rfl ?_
  refine v_get O fd_X8_nextToken_71 (g41 h41 (by decide)) (cg_25 G _) rfl dX8_nextToken_106 ?_
  refine v_icmp_ge O dX8_nextToken_109 191 (by decide) e (fun e => ?_) (fun e => ?_)
  · exact f_X8_nextToken_b191_ok h41 O N _ e
  · refine v_aload_n O dX8_nextToken_112 0 rfl rfl ?_
    refine v_get O fd_X8_nextToken_20 (g41 h41 (by decide)) (cg_25 G _) rfl dX8_nextToken_113 ?_
    refine v_aload_n O dX8_nextToken_116 0 rfl rfl ?_
    refine v_get O fd_X8_nextToken_76 (g41 h41 (by decide)) (cg_25 G _) rfl dX8_nextToken_117 ?_
    refine v_iald O (g41 h41 (by decide)) (cg_27 G _) dX8_nextToken_120 e (fun e => ?_)
    refine v_bipush (v := 97) O dX8_nextToken_121 (by decide) ?_
    refine v_bipush (v := 122) O dX8_nextToken_123 (by decide) ?_
    refine v_cSi O [.int (h.1 27 (ix (h.1 25 8))), .int 97, .int 122] [] gX8_nextToken_X8_in cw_X8_nextToken_X8_in rfl rfl (Nat.le_of_ble_eq_true rfl) dX8_nextToken_125 e (fun _ e9 => f_X8_in_ok e9) (fun r1 h2 e => ?_)
    refine v_if_eq O dX8_nextToken_128 191 (by decide) e (fun e => ?_) (fun e => ?_)
    · exact f_X8_nextToken_b191_ok h41 O N _ e
    · refine v_aload_n O dX8_nextToken_131 0 rfl rfl ?_
      refine v_aload_n O dX8_nextToken_132 0 rfl rfl ?_
      refine v_get O fd_X8_nextToken_76 (g41 h41 (by decide)) (cg_25 G _) rfl dX8_nextToken_133 ?_
      refine v_aload_n O dX8_nextToken_136 0 rfl rfl ?_
      refine v_get O fd_X8_nextToken_79 (g41 h41 (by decide)) (cg_25 G _) rfl dX8_nextToken_137 ?_
      refine v_isub O dX8_nextToken_140 ?_
      refine v_bipush (v := 9) O dX8_nextToken_141 (by decide) ?_
      refine v_icmp_ge O dX8_nextToken_143 172 (by decide) e (fun e => ?_) (fun e => ?_)
      · refine v_ldc2 (v := (-4)) O dX8_nextToken_172 (by decide +kernel) ?_
        exact f_X8_nextToken_b175_ok h41 O N k101 hk101 _ _ e
      · refine v_ldc2 (v := 27) O dX8_nextToken_146 (by decide +kernel) ?_
        refine v_aload_n O dX8_nextToken_149 0 rfl rfl ?_
        refine v_get O fd_X8_nextToken_90 (g41 h41 (by decide)) (cg_25 G _) rfl dX8_nextToken_150 ?_
        refine v_lmul O dX8_nextToken_153 ?_
        refine v_aload_n O dX8_nextToken_154 0 rfl rfl ?_
        refine v_get O fd_X8_nextToken_20 (g41 h41 (by decide)) (cg_25 G _) rfl dX8_nextToken_155 ?_
        refine v_aload_n O dX8_nextToken_158 0 rfl rfl ?_
        refine v_get O fd_X8_nextToken_76 (g41 h41 (by decide)) (cg_25 G _) rfl dX8_nextToken_159 ?_
        refine v_iald O (g41 h41 (by decide)) (cg_27 G _) dX8_nextToken_162 e (fun e => ?_)
        refine v_i2l O dX8_nextToken_163 ?_
        refine v_ladd O dX8_nextToken_164 ?_
        refine v_ldc2 (v := 96) O dX8_nextToken_165 (by decide +kernel) ?_
        refine v_lsub O dX8_nextToken_168 ?_
        refine v_goto O dX8_nextToken_169 175 (by decide) ?_
        exact f_X8_nextToken_b175_ok h41 O N k101 hk101 _ _ e
theorem f_X8_nextToken_l101_ok {X : Cx} {G : Gx} {z : Rs} (h41 : 41 ≤ gN G) (O : Ok X G cX8_nextToken RX8 1 wsX8_nextToken (none) rm_X8_nextToken) (N : Nat) : ∀ (n : Nat) (h : Hp), f_X8_nextToken_l101 N n h = some z → V X G 1 (QV X G z) h 101 [(0, .ref (G.1 25))] [] := by
  intro n
  induction n with
  | zero => intro h e; cases e
  | succ n ih => intro h e; exact f_X8_nextToken_b101_ok h41 O N _ ih h e
set_option maxRecDepth 20000 in
theorem f_X8_nextToken_b307_ok {X : Cx} {G : Gx} {z : Rs} (h41 : 41 ≤ gN G) (O : Ok X G cX8_nextToken RX8 1 wsX8_nextToken (none) rm_X8_nextToken) (N : Nat) (k241 : Hp → Option Rs) (hk241 : ∀ (h : Hp), k241 h = some z → V X G 1 (QV X G z) h 241 [(0, .ref (G.1 25))] []) (s0 : Int32) (h : Hp) (e : f_X8_nextToken_b307 N k241 s0 h = some z) : V X G 1 (QV X G z) h 307 [(0, .ref (G.1 25))] [.int s0, .ref (G.1 25)] := by
  unfold f_X8_nextToken_b307 at e
  refine v_put O fd_X8_nextToken_85 fp_X8_12 (g41 h41 (by decide)) (cg_25 G _) (Nat.le_of_ble_eq_true rfl) (cs_25_12 G _ _) dX8_nextToken_307 e (fun h1 e => ?_)
  refine v_aload_n O dX8_nextToken_310 0 rfl rfl ?_
  refine v_dup O dX8_nextToken_311 rfl ?_
  refine v_get O fd_X8_nextToken_82 (g41 h41 (by decide)) (cg_25 G _) rfl dX8_nextToken_312 ?_
  refine v_iconst (v := 1) O dX8_nextToken_315 (by decide) ?_
  refine v_iadd O dX8_nextToken_316 ?_
  refine v_put O fd_X8_nextToken_82 fp_X8_11 (g41 h41 (by decide)) (cg_25 G _) (Nat.le_of_ble_eq_true rfl) (cs_25_11 G _ _) dX8_nextToken_317 e (fun h2 e => ?_)
  refine v_aload_n O dX8_nextToken_320 0 rfl rfl ?_
  refine v_dup O dX8_nextToken_321 rfl ?_
  refine v_get O fd_X8_nextToken_76 (g41 h41 (by decide)) (cg_25 G _) rfl dX8_nextToken_322 ?_
  refine v_iconst (v := 1) O dX8_nextToken_325 (by decide) ?_
  refine v_iadd O dX8_nextToken_326 ?_
  refine v_put O fd_X8_nextToken_76 fp_X8_8 (g41 h41 (by decide)) (cg_25 G _) (Nat.le_of_ble_eq_true rfl) (cs_25_8 G _ _) dX8_nextToken_327 e (fun h3 e => ?_)
  refine v_goto O dX8_nextToken_330 241 (by decide) ?_
  exact hk241 _ e
set_option maxRecDepth 20000 in
theorem f_X8_nextToken_b351_ok {X : Cx} {G : Gx} {z : Rs} (h41 : 41 ≤ gN G) (O : Ok X G cX8_nextToken RX8 1 wsX8_nextToken (none) rm_X8_nextToken) (N : Nat) (s0 : Int64) (h : Hp) (e : f_X8_nextToken_b351 N s0 h = some z) : V X G 1 (QV X G z) h 351 [] [.long s0, .ref (G.1 25)] := by
  unfold f_X8_nextToken_b351 at e
  refine v_putl O fd_X8_nextToken_90 fp_X8_10 (g41 h41 (by decide)) (cg_25 G _) (Nat.le_of_ble_eq_true rfl) (cs_25_10 G _ _) dX8_nextToken_351 e (fun h1 e => ?_)
  refine v_goto O dX8_nextToken_354 394 (by decide) ?_
  exact f_X8_nextToken_b394_ok h41 O N _ e
set_option maxRecDepth 20000 in
theorem f_X8_nextToken_b333_ok {X : Cx} {G : Gx} {z : Rs} (h41 : 41 ≤ gN G) (O : Ok X G cX8_nextToken RX8 1 wsX8_nextToken (none) rm_X8_nextToken) (N : Nat) (h : Hp) (e : f_X8_nextToken_b333 N h = some z) : V X G 1 (QV X G z) h 333 [(0, .ref (G.1 25))] [] := by
  unfold f_X8_nextToken_b333 at e
  refine v_aload_n O dX8_nextToken_333 0 rfl rfl ?_
  refine v_aload_n O dX8_nextToken_334 0 rfl rfl ?_
  refine v_get O fd_X8_nextToken_82 (g41 h41 (by decide)) (cg_25 G _) rfl dX8_nextToken_335 ?_
  refine v_iconst (v := 2) O dX8_nextToken_338 (by decide) ?_
  refine v_icmp_le O dX8_nextToken_339 348 (by decide) e (fun e => ?_) (fun e => ?_)
  · refine v_ldc2 (v := (-1)) O dX8_nextToken_348 (by decide +kernel) ?_
    refine v_sub [] rfl ?_
    exact f_X8_nextToken_b351_ok h41 O N _ _ e
  · refine v_ldc2 (v := (-4)) O dX8_nextToken_342 (by decide +kernel) ?_
    refine v_goto O dX8_nextToken_345 351 (by decide) ?_
    refine v_sub [] rfl ?_
    exact f_X8_nextToken_b351_ok h41 O N _ _ e
set_option maxRecDepth 20000 in
theorem f_X8_nextToken_b241_ok {X : Cx} {G : Gx} {z : Rs} (h41 : 41 ≤ gN G) (O : Ok X G cX8_nextToken RX8 1 wsX8_nextToken (none) rm_X8_nextToken) (N : Nat) (k241 : Hp → Option Rs) (hk241 : ∀ (h : Hp), k241 h = some z → V X G 1 (QV X G z) h 241 [(0, .ref (G.1 25))] []) (h : Hp) (e : f_X8_nextToken_b241 N k241 h = some z) : V X G 1 (QV X G z) h 241 [(0, .ref (G.1 25))] [] := by
  unfold f_X8_nextToken_b241 at e
  refine v_aload_n O dX8_nextToken_241 0 rfl rfl ?_
  refine v_get O fd_X8_nextToken_76 (g41 h41 (by decide)) (cg_25 G _) rfl dX8_nextToken_242 ?_
  refine v_aload_n O dX8_nextToken_245 0 rfl rfl ?_
  refine v_get O fd_X8_nextToken_71 (g41 h41 (by decide)) (cg_25 G _) rfl dX8_nextToken_246 ?_
  refine v_icmp_ge O dX8_nextToken_249 333 (by decide) e (fun e => ?_) (fun e => ?_)
  · exact f_X8_nextToken_b333_ok h41 O N _ e
  · refine v_aload_n O dX8_nextToken_252 0 rfl rfl ?_
    refine v_get O fd_X8_nextToken_20 (g41 h41 (by decide)) (cg_25 G _) rfl dX8_nextToken_253 ?_
    refine v_aload_n O dX8_nextToken_256 0 rfl rfl ?_
    refine v_get O fd_X8_nextToken_76 (g41 h41 (by decide)) (cg_25 G _) rfl dX8_nextToken_257 ?_
    refine v_iald O (g41 h41 (by decide)) (cg_27 G _) dX8_nextToken_260 e (fun e => ?_)
    refine v_bipush (v := 48) O dX8_nextToken_261 (by decide) ?_
    refine v_bipush (v := 57) O dX8_nextToken_263 (by decide) ?_
    refine v_cSi O [.int (h.1 27 (ix (h.1 25 8))), .int 48, .int 57] [] gX8_nextToken_X8_in cw_X8_nextToken_X8_in rfl rfl (Nat.le_of_ble_eq_true rfl) dX8_nextToken_265 e (fun _ e9 => f_X8_in_ok e9) (fun r1 h2 e => ?_)
    refine v_if_eq O dX8_nextToken_268 333 (by decide) e (fun e => ?_) (fun e => ?_)
    · exact f_X8_nextToken_b333_ok h41 O N _ e
    · refine v_aload_n O dX8_nextToken_271 0 rfl rfl ?_
      refine v_aload_n O dX8_nextToken_272 0 rfl rfl ?_
      refine v_get O fd_X8_nextToken_82 (g41 h41 (by decide)) (cg_25 G _) rfl dX8_nextToken_273 ?_
      refine v_iconst (v := 2) O dX8_nextToken_276 (by decide) ?_
      refine v_icmp_ge O dX8_nextToken_277 303 (by decide) e (fun e => ?_) (fun e => ?_)
      · refine v_aload_n O dX8_nextToken_303 0 rfl rfl ?_
        refine v_get O fd_X8_nextToken_85 (g41 h41 (by decide)) (cg_25 G _) rfl dX8_nextToken_304 ?_
        exact f_X8_nextToken_b307_ok h41 O N k241 hk241 _ _ e
      · refine v_bipush (v := 10) O dX8_nextToken_280 (by decide) ?_
        refine v_aload_n O dX8_nextToken_282 0 rfl rfl ?_
        refine v_get O fd_X8_nextToken_85 (g41 h41 (by decide)) (cg_25 G _) rfl dX8_nextToken_283 ?_
        refine v_imul O dX8_nextToken_286 ?_
        refine v_aload_n O dX8_nextToken_287 0 rfl rfl ?_
        refine v_get O fd_X8_nextToken_20 (g41 h41 (by decide)) (cg_25 G _) rfl dX8_nextToken_288 ?_
        refine v_aload_n O dX8_nextToken_291 0 rfl rfl ?_
        refine v_get O fd_X8_nextToken_76 (g41 h41 (by decide)) (cg_25 G _) rfl dX8_nextToken_292 ?_
        refine v_iald O (g41 h41 (by decide)) (cg_27 G _) dX8_nextToken_295 e (fun e => ?_)
        refine v_iadd O dX8_nextToken_296 ?_
        refine v_bipush (v := 48) O dX8_nextToken_297 (by decide) ?_
        refine v_isub O dX8_nextToken_299 ?_
        refine v_goto O dX8_nextToken_300 307 (by decide) ?_
        exact f_X8_nextToken_b307_ok h41 O N k241 hk241 _ _ e
theorem f_X8_nextToken_l241_ok {X : Cx} {G : Gx} {z : Rs} (h41 : 41 ≤ gN G) (O : Ok X G cX8_nextToken RX8 1 wsX8_nextToken (none) rm_X8_nextToken) (N : Nat) : ∀ (n : Nat) (h : Hp), f_X8_nextToken_l241 N n h = some z → V X G 1 (QV X G z) h 241 [(0, .ref (G.1 25))] [] := by
  intro n
  induction n with
  | zero => intro h e; cases e
  | succ n ih => intro h e; exact f_X8_nextToken_b241_ok h41 O N _ ih h e
set_option maxRecDepth 20000 in
theorem f_X8_nextToken_b381_ok {X : Cx} {G : Gx} {z : Rs} (h41 : 41 ≤ gN G) (O : Ok X G cX8_nextToken RX8 1 wsX8_nextToken (none) rm_X8_nextToken) (N : Nat) (s0 : Int64) (h : Hp) (e : f_X8_nextToken_b381 N s0 h = some z) : V X G 1 (QV X G z) h 381 [(0, .ref (G.1 25))] [.long s0, .ref (G.1 25)] := by
  unfold f_X8_nextToken_b381 at e
  refine v_putl O fd_X8_nextToken_90 fp_X8_10 (g41 h41 (by decide)) (cg_25 G _) (Nat.le_of_ble_eq_true rfl) (cs_25_10 G _ _) dX8_nextToken_381 e (fun h1 e => ?_)
  refine v_aload_n O dX8_nextToken_384 0 rfl rfl ?_
  refine v_dup O dX8_nextToken_385 rfl ?_
  refine v_get O fd_X8_nextToken_76 (g41 h41 (by decide)) (cg_25 G _) rfl dX8_nextToken_386 ?_
  refine v_iconst (v := 1) O dX8_nextToken_389 (by decide) ?_
  refine v_iadd O dX8_nextToken_390 ?_
  refine v_put O fd_X8_nextToken_76 fp_X8_8 (g41 h41 (by decide)) (cg_25 G _) (Nat.le_of_ble_eq_true rfl) (cs_25_8 G _ _) dX8_nextToken_391 e (fun h2 e => ?_)
  refine v_sub [] rfl ?_
  exact f_X8_nextToken_b394_ok h41 O N _ e
set_option maxRecDepth 20000 in
theorem f_X8_nextToken_b38_ok {X : Cx} {G : Gx} {z : Rs} (h41 : 41 ≤ gN G) (O : Ok X G cX8_nextToken RX8 1 wsX8_nextToken (none) rm_X8_nextToken) (N : Nat) (h : Hp) (e : f_X8_nextToken_b38 N h = some z) : V X G 1 (QV X G z) h 38 [(0, .ref (G.1 25))] [] := by
  unfold f_X8_nextToken_b38 at e
  refine v_aload_n O dX8_nextToken_38 0 rfl rfl ?_
  refine v_aload_n O dX8_nextToken_39 0 rfl rfl ?_
  refine v_get O fd_X8_nextToken_76 (g41 h41 (by decide)) (cg_25 G _) rfl dX8_nextToken_40 ?_
  refine v_put O fd_X8_nextToken_79 fp_X8_9 (g41 h41 (by decide)) (cg_25 G _) (Nat.le_of_ble_eq_true rfl) (cs_25_9 G _ _) dX8_nextToken_43 e (fun h1 e => ?_)
  refine v_aload_n O dX8_nextToken_46 0 rfl rfl ?_
  refine v_iconst (v := 0) O dX8_nextToken_47 (by decide) ?_
  refine v_put O fd_X8_nextToken_82 fp_X8_11 (g41 h41 (by decide)) (cg_25 G _) (Nat.le_of_ble_eq_true rfl) (cs_25_11 G _ _) dX8_nextToken_48 e (fun h2 e => ?_)
  refine v_aload_n O dX8_nextToken_51 0 rfl rfl ?_
  refine v_iconst (v := 0) O dX8_nextToken_52 (by decide) ?_
  refine v_put O fd_X8_nextToken_85 fp_X8_12 (g41 h41 (by decide)) (cg_25 G _) (Nat.le_of_ble_eq_true rfl) (cs_25_12 G _ _) dX8_nextToken_53 e (fun h3 e => ?_)
  refine v_aload_n O dX8_nextToken_56 0 rfl rfl ?_
  refine v_get O fd_X8_nextToken_76 (g41 h41 (by decide)) (cg_25 G _) rfl dX8_nextToken_57 ?_
  refine v_aload_n O dX8_nextToken_60 0 rfl rfl ?_
  refine v_get O fd_X8_nextToken_71 (g41 h41 (by decide)) (cg_25 G _) rfl dX8_nextToken_61 ?_
  refine v_icmp_ne O dX8_nextToken_64 77 (by decide) e (fun e => ?_) (fun e => ?_)
  · refine v_aload_n O dX8_nextToken_77 0 rfl rfl ?_
    refine v_get O fd_X8_nextToken_20 (g41 h41 (by decide)) (cg_25 G _) rfl dX8_nextToken_78 ?_
    refine v_aload_n O dX8_nextToken_81 0 rfl rfl ?_
    refine v_get O fd_X8_nextToken_76 (g41 h41 (by decide)) (cg_25 G _) rfl dX8_nextToken_82 ?_
    refine v_iald O (g41 h41 (by decide)) (cg_27 G _) dX8_nextToken_85 e (fun e => ?_)
    refine v_bipush (v := 97) O dX8_nextToken_86 (by decide) ?_
    refine v_bipush (v := 122) O dX8_nextToken_88 (by decide) ?_
    refine v_cSi O [.int (h3.1 27 (ix (h3.1 25 8))), .int 97, .int 122] [] gX8_nextToken_X8_in cw_X8_nextToken_X8_in rfl rfl (Nat.le_of_ble_eq_true rfl) dX8_nextToken_90 e (fun _ e9 => f_X8_in_ok e9) (fun r4 h5 e => ?_)
    refine v_if_eq O dX8_nextToken_93 222 (by decide) e (fun e => ?_) (fun e => ?_)
    · refine v_aload_n O dX8_nextToken_222 0 rfl rfl ?_
      refine v_get O fd_X8_nextToken_20 (g41 h41 (by decide)) (cg_25 G _) rfl dX8_nextToken_223 ?_
      refine v_aload_n O dX8_nextToken_226 0 rfl rfl ?_
      refine v_get O fd_X8_nextToken_76 (g41 h41 (by decide)) (cg_25 G _) rfl dX8_nextToken_227 ?_
      refine v_iald O (g41 h41 (by decide)) (cg_27 G _) dX8_nextToken_230 e (fun e => ?_)
      refine v_bipush (v := 48) O dX8_nextToken_231 (by decide) ?_
      refine v_bipush (v := 57) O dX8_nextToken_233 (by decide) ?_
      refine v_cSi O [.int (h5.1 27 (ix (h5.1 25 8))), .int 48, .int 57] [] gX8_nextToken_X8_in cw_X8_nextToken_X8_in rfl rfl (Nat.le_of_ble_eq_true rfl) dX8_nextToken_235 e (fun _ e9 => f_X8_in_ok e9) (fun r6 h7 e => ?_)
      refine v_if_eq O dX8_nextToken_238 357 (by decide) e (fun e => ?_) (fun e => ?_)
      · refine v_aload_n O dX8_nextToken_357 0 rfl rfl ?_
        refine v_aload_n O dX8_nextToken_358 0 rfl rfl ?_
        refine v_get O fd_X8_nextToken_20 (g41 h41 (by decide)) (cg_25 G _) rfl dX8_nextToken_359 ?_
        refine v_aload_n O dX8_nextToken_362 0 rfl rfl ?_
        refine v_get O fd_X8_nextToken_76 (g41 h41 (by decide)) (cg_25 G _) rfl dX8_nextToken_363 ?_
        refine v_iald O (g41 h41 (by decide)) (cg_27 G _) dX8_nextToken_366 e (fun e => ?_)
        refine v_bipush (v := 59) O dX8_nextToken_367 (by decide) ?_
        refine v_icmp_ne O dX8_nextToken_369 378 (by decide) e (fun e => ?_) (fun e => ?_)
        · refine v_ldc2 (v := (-4)) O dX8_nextToken_378 (by decide +kernel) ?_
          exact f_X8_nextToken_b381_ok h41 O N _ _ e
        · refine v_ldc2 (v := (-3)) O dX8_nextToken_372 (by decide +kernel) ?_
          refine v_goto O dX8_nextToken_375 381 (by decide) ?_
          exact f_X8_nextToken_b381_ok h41 O N _ _ e
      · exact f_X8_nextToken_l241_ok h41 O N N _ e
    · refine v_aload_n O dX8_nextToken_96 0 rfl rfl ?_
      refine v_lconst (v := 0) O dX8_nextToken_97 (by decide) ?_
      refine v_putl O fd_X8_nextToken_90 fp_X8_10 (g41 h41 (by decide)) (cg_25 G _) (Nat.le_of_ble_eq_true rfl) (cs_25_10 G _ _) dX8_nextToken_98 e (fun h8 e => ?_)
      exact f_X8_nextToken_l101_ok h41 O N N _ e
  · refine v_aload_n O dX8_nextToken_67 0 rfl rfl ?_
    refine v_ldc2 (v := (-2)) O dX8_nextToken_68 (by decide +kernel) ?_
    refine v_putl O fd_X8_nextToken_90 fp_X8_10 (g41 h41 (by decide)) (cg_25 G _) (Nat.le_of_ble_eq_true rfl) (cs_25_10 G _ _) dX8_nextToken_71 e (fun h9 e => ?_)
    refine v_goto O dX8_nextToken_74 394 (by decide) ?_
    refine v_sub [] rfl ?_
    exact f_X8_nextToken_b394_ok h41 O N _ e
set_option maxRecDepth 20000 in
theorem f_X8_nextToken_b0_ok {X : Cx} {G : Gx} {z : Rs} (h41 : 41 ≤ gN G) (O : Ok X G cX8_nextToken RX8 1 wsX8_nextToken (none) rm_X8_nextToken) (N : Nat) (k0 : Hp → Option Rs) (hk0 : ∀ (h : Hp), k0 h = some z → V X G 1 (QV X G z) h 0 [(0, .ref (G.1 25))] []) (h : Hp) (e : f_X8_nextToken_b0 N k0 h = some z) : V X G 1 (QV X G z) h 0 [(0, .ref (G.1 25))] [] := by
  unfold f_X8_nextToken_b0 at e
  refine v_aload_n O dX8_nextToken_0 0 rfl rfl ?_
  refine v_get O fd_X8_nextToken_76 (g41 h41 (by decide)) (cg_25 G _) rfl dX8_nextToken_1 ?_
  refine v_aload_n O dX8_nextToken_4 0 rfl rfl ?_
  refine v_get O fd_X8_nextToken_71 (g41 h41 (by decide)) (cg_25 G _) rfl dX8_nextToken_5 ?_
  refine v_icmp_ge O dX8_nextToken_8 38 (by decide) e (fun e => ?_) (fun e => ?_)
  · exact f_X8_nextToken_b38_ok h41 O N _ e
  · refine v_aload_n O dX8_nextToken_11 0 rfl rfl ?_
    refine v_get O fd_X8_nextToken_20 (g41 h41 (by decide)) (cg_25 G _) rfl dX8_nextToken_12 ?_
    refine v_aload_n O dX8_nextToken_15 0 rfl rfl ?_
    refine v_get O fd_X8_nextToken_76 (g41 h41 (by decide)) (cg_25 G _) rfl dX8_nextToken_16 ?_
    refine v_iald O (g41 h41 (by decide)) (cg_27 G _) dX8_nextToken_19 e (fun e => ?_)
    refine v_bipush (v := 32) O dX8_nextToken_20 (by decide) ?_
    refine v_icmp_ne O dX8_nextToken_22 38 (by decide) e (fun e => ?_) (fun e => ?_)
    · exact f_X8_nextToken_b38_ok h41 O N _ e
    · refine v_aload_n O dX8_nextToken_25 0 rfl rfl ?_
      refine v_dup O dX8_nextToken_26 rfl ?_
      refine v_get O fd_X8_nextToken_76 (g41 h41 (by decide)) (cg_25 G _) rfl dX8_nextToken_27 ?_
      refine v_iconst (v := 1) O dX8_nextToken_30 (by decide) ?_
      refine v_iadd O dX8_nextToken_31 ?_
      refine v_put O fd_X8_nextToken_76 fp_X8_8 (g41 h41 (by decide)) (cg_25 G _) (Nat.le_of_ble_eq_true rfl) (cs_25_8 G _ _) dX8_nextToken_32 e (fun h1 e => ?_)
      refine v_goto O dX8_nextToken_35 0 (by decide) ?_
      exact hk0 _ e
theorem f_X8_nextToken_l0_ok {X : Cx} {G : Gx} {z : Rs} (h41 : 41 ≤ gN G) (O : Ok X G cX8_nextToken RX8 1 wsX8_nextToken (none) rm_X8_nextToken) (N : Nat) : ∀ (n : Nat) (h : Hp), f_X8_nextToken_l0 N n h = some z → V X G 1 (QV X G z) h 0 [(0, .ref (G.1 25))] [] := by
  intro n
  induction n with
  | zero => intro h e; cases e
  | succ n ih => intro h e; exact f_X8_nextToken_b0_ok h41 O N _ ih h e
set_option maxRecDepth 20000 in
theorem f_X8_nextToken_ok {l : Launch} {G : Gx} {N : Nat} (h41 : 41 ≤ gN G) {h : Hp} {z : Rs} (e : f_X8_nextToken N h = some z) : CV l G yX8_nextToken wsX8_nextToken rm_X8_nextToken [.ref (G.1 25)] h z := by
  refine m_void _ (by decide) rfl [(0, .ref (G.1 25))] rfl (Nat.le_of_ble_eq_true rfl) (fun X O => ?_)
  unfold f_X8_nextToken at e
  exact f_X8_nextToken_l0_ok h41 O N N _ e
/-! ===== X8 isNumber ===== -/
abbrev rm_X8_isNumber : Room := { frames := 2, cells := 0, slots := 0, locals := 42 }
theorem fd_X8_isNumber_29 : FdO wsX8_isNumber RX8 29 RX8 TX8 34 8 20 := ⟨by decide +kernel, rfl, by decide, by decide +kernel⟩
theorem fd_X8_isNumber_85 : FdO wsX8_isNumber RX8 85 RX8 TX8 34 8 12 := ⟨by decide +kernel, rfl, by decide, by decide +kernel⟩
theorem fd_X8_isNumber_90 : FdO wsX8_isNumber RX8 90 RX8 TX8 34 8 10 := ⟨by decide +kernel, rfl, by decide, by decide +kernel⟩
theorem cw_X8_isNumber_X8_fails : CwO rm_X8_isNumber yX8_fails wsX8_fails cX8_fails 1 (some .boolean) rm_X8_fails 0 := ⟨⟨_, rfl⟩, rfl, rfl, by decide +kernel, by decide, by decide⟩
theorem cw_X8_isNumber_X8_in : CwO rm_X8_isNumber yX8_in wsX8_in cX8_in 3 (some .boolean) rm_X8_in 3 := ⟨⟨_, rfl⟩, rfl, rfl, by decide +kernel, by decide, by decide⟩
theorem cw_X8_isNumber_X8_nextToken : CwO rm_X8_isNumber yX8_nextToken wsX8_nextToken cX8_nextToken 1 (none) rm_X8_nextToken 0 := ⟨⟨_, rfl⟩, rfl, rfl, by decide +kernel, by decide, by decide⟩
set_option maxRecDepth 20000 in
theorem f_X8_isNumber_b27_ok {X : Cx} {G : Gx} {z : Rs} (h41 : 41 ≤ gN G) (O : Ok X G cX8_isNumber RX8 4 wsX8_isNumber (some .boolean) rm_X8_isNumber) (N : Nat) (h : Hp) (e : f_X8_isNumber_b27 N h = some z) : V X G 4 (QI X G z) h 27 [(0, .ref (G.1 25))] [] := by
  unfold f_X8_isNumber_b27 at e
  refine v_aload_n O dX8_isNumber_27 0 rfl rfl ?_
  refine v_cVi O [] [] gX8_isNumber_X8_fails cw_X8_isNumber_X8_fails rfl rfl (g41 h41 (by decide)) (cg_25 G _) rfl rfl (Nat.le_of_ble_eq_true rfl) dX8_isNumber_28 e (fun _ e9 => f_X8_fails_ok h41 e9) (fun r1 h2 e => ?_)
  exact v_zret O dX8_isNumber_31 e
set_option maxRecDepth 20000 in
theorem f_X8_isNumber_ok {l : Launch} {G : Gx} {N : Nat} (h41 : 41 ≤ gN G) {a0 : Int32} {a1 : Int32} {a2 : Int32} {h : Hp} {z : Rs} (e : f_X8_isNumber N a0 a1 a2 h = some z) : CI l G yX8_isNumber wsX8_isNumber rm_X8_isNumber [.ref (G.1 25), .int a0, .int a1, .int a2] h z := by
  refine m_bool _ (by decide) rfl [(0, .ref (G.1 25)), (1, .int a0), (2, .int a1), (3, .int a2)] rfl (Nat.le_of_ble_eq_true rfl) (fun X O => ?_)
  unfold f_X8_isNumber at e
  refine v_aload_n O dX8_isNumber_0 0 rfl rfl ?_
  refine v_cVv O [] [] gX8_isNumber_X8_nextToken cw_X8_isNumber_X8_nextToken rfl rfl (g41 h41 (by decide)) (cg_25 G _) rfl rfl (Nat.le_of_ble_eq_true rfl) dX8_isNumber_1 e (fun _ e9 => f_X8_nextToken_ok h41 e9) (fun _ h1 e => ?_)
  refine v_aload_n O dX8_isNumber_4 0 rfl rfl ?_
  refine v_get O fd_X8_isNumber_90 (g41 h41 (by decide)) (cg_25 G _) rfl dX8_isNumber_5 ?_
  refine v_ldc2 (v := (-1)) O dX8_isNumber_8 (by decide +kernel) ?_
  refine v_lcmp O dX8_isNumber_11 ?_
  refine v_if_ne O dX8_isNumber_12 27 (by decide) e (fun e => ?_) (fun e => ?_)
  · refine v_sub [0] rfl ?_
    exact f_X8_isNumber_b27_ok h41 O N _ e
  · refine v_aload_n O dX8_isNumber_15 0 rfl rfl ?_
    refine v_get O fd_X8_isNumber_85 (g41 h41 (by decide)) (cg_25 G _) rfl dX8_isNumber_16 ?_
    refine v_iload_n O dX8_isNumber_19 2 rfl rfl ?_
    refine v_iload_n O dX8_isNumber_20 3 rfl rfl ?_
    refine v_cSi O [.int (h1.1 25 12), .int a1, .int a2] [] gX8_isNumber_X8_in cw_X8_isNumber_X8_in rfl rfl (Nat.le_of_ble_eq_true rfl) dX8_isNumber_21 e (fun _ e9 => f_X8_in_ok e9) (fun r2 h3 e => ?_)
    refine v_if_ne O dX8_isNumber_24 32 (by decide) e (fun e => ?_) (fun e => ?_)
    · refine v_aload_n O dX8_isNumber_32 0 rfl rfl ?_
      refine v_get O fd_X8_isNumber_29 (g41 h41 (by decide)) (cg_25 G _) rfl dX8_isNumber_33 ?_
      refine v_iload_n O dX8_isNumber_36 1 rfl rfl ?_
      refine v_aload_n O dX8_isNumber_37 0 rfl rfl ?_
      refine v_get O fd_X8_isNumber_85 (g41 h41 (by decide)) (cg_25 G _) rfl dX8_isNumber_38 ?_
      refine v_iast O (g41 h41 (by decide)) (cg_30 G _) (cw_30 G _ _ _) dX8_isNumber_41 e (fun h4 e => ?_)
      refine v_iconst (v := 1) O dX8_isNumber_42 (by decide) ?_
      exact v_zret O dX8_isNumber_43 e
    · refine v_sub [0] rfl ?_
      exact f_X8_isNumber_b27_ok h41 O N _ e
/-! ===== X8 isBoard ===== -/
abbrev rm_X8_isBoard : Room := { frames := 3, cells := 0, slots := 0, locals := 65 }
theorem fd_X8_isBoard_29 : FdO wsX8_isBoard RX8 29 RX8 TX8 34 8 20 := ⟨by decide +kernel, rfl, by decide, by decide +kernel⟩
theorem fd_X8_isBoard_117 : FdO wsX8_isBoard RX8 117 RX8 TX8 34 8 15 := ⟨by decide +kernel, rfl, by decide, by decide +kernel⟩
theorem fd_X8_isBoard_120 : FdO wsX8_isBoard RX8 120 RX8 TX8 34 8 16 := ⟨by decide +kernel, rfl, by decide, by decide +kernel⟩
theorem fd_X8_isBoard_123 : FdO wsX8_isBoard RX8 123 RX8 TX8 34 8 17 := ⟨by decide +kernel, rfl, by decide, by decide +kernel⟩
theorem cw_X8_isBoard_X8_fails : CwO rm_X8_isBoard yX8_fails wsX8_fails cX8_fails 1 (some .boolean) rm_X8_fails 0 := ⟨⟨_, rfl⟩, rfl, rfl, by decide +kernel, by decide, by decide⟩
theorem cw_X8_isBoard_X8_isNumber : CwO rm_X8_isBoard yX8_isNumber wsX8_isNumber cX8_isNumber 4 (some .boolean) rm_X8_isNumber 3 := ⟨⟨_, rfl⟩, rfl, rfl, by decide +kernel, by decide, by decide⟩
set_option maxRecDepth 20000 in
theorem f_X8_isBoard_b24_ok {X : Cx} {G : Gx} {z : Rs} (h41 : 41 ≤ gN G) (O : Ok X G cX8_isBoard RX8 2 wsX8_isBoard (some .boolean) rm_X8_isBoard) (N : Nat) (h : Hp) (e : f_X8_isBoard_b24 N h = some z) : V X G 2 (QI X G z) h 24 [] [] := by
  unfold f_X8_isBoard_b24 at e
  refine v_iconst (v := 0) O dX8_isBoard_24 (by decide) ?_
  exact v_zret O dX8_isBoard_25 e
set_option maxRecDepth 20000 in
theorem f_X8_isBoard_b78_ok {X : Cx} {G : Gx} {z : Rs} (h41 : 41 ≤ gN G) (O : Ok X G cX8_isBoard RX8 2 wsX8_isBoard (some .boolean) rm_X8_isBoard) (N : Nat) (s0 : Int32) (h : Hp) (e : f_X8_isBoard_b78 N s0 h = some z) : V X G 2 (QI X G z) h 78 [] [.int s0] := by
  unfold f_X8_isBoard_b78 at e
  exact v_zret O dX8_isBoard_78 e
set_option maxRecDepth 20000 in
theorem f_X8_isBoard_b73_ok {X : Cx} {G : Gx} {z : Rs} (h41 : 41 ≤ gN G) (O : Ok X G cX8_isBoard RX8 2 wsX8_isBoard (some .boolean) rm_X8_isBoard) (N : Nat) (h : Hp) (e : f_X8_isBoard_b73 N h = some z) : V X G 2 (QI X G z) h 73 [] [] := by
  unfold f_X8_isBoard_b73 at e
  refine v_iconst (v := 1) O dX8_isBoard_73 (by decide) ?_
  refine v_goto O dX8_isBoard_74 78 (by decide) ?_
  exact f_X8_isBoard_b78_ok h41 O N _ _ e
set_option maxRecDepth 20000 in
theorem f_X8_isBoard_ok {l : Launch} {G : Gx} {N : Nat} (h41 : 41 ≤ gN G) {a0 : Int32} {h : Hp} {z : Rs} (e : f_X8_isBoard N a0 h = some z) : CI l G yX8_isBoard wsX8_isBoard rm_X8_isBoard [.ref (G.1 25), .int a0] h z := by
  refine m_bool _ (by decide) rfl [(0, .ref (G.1 25)), (1, .int a0)] rfl (Nat.le_of_ble_eq_true rfl) (fun X O => ?_)
  unfold f_X8_isBoard at e
  refine v_aload_n O dX8_isBoard_0 0 rfl rfl ?_
  refine v_iload_n O dX8_isBoard_1 1 rfl rfl ?_
  refine v_iconst (v := 1) O dX8_isBoard_2 (by decide) ?_
  refine v_iadd O dX8_isBoard_3 ?_
  refine v_iconst (v := 2) O dX8_isBoard_4 (by decide) ?_
  refine v_iconst (v := 4) O dX8_isBoard_5 (by decide) ?_
  refine v_cVi O [.int (a0 + 1), .int 2, .int 4] [] gX8_isBoard_X8_isNumber cw_X8_isBoard_X8_isNumber rfl rfl (g41 h41 (by decide)) (cg_25 G _) rfl rfl (Nat.le_of_ble_eq_true rfl) dX8_isBoard_6 e (fun _ e9 => f_X8_isNumber_ok h41 e9) (fun r1 h2 e => ?_)
  refine v_if_eq O dX8_isBoard_9 24 (by decide) e (fun e => ?_) (fun e => ?_)
  · refine v_sub [] rfl ?_
    exact f_X8_isBoard_b24_ok h41 O N _ e
  · refine v_aload_n O dX8_isBoard_12 0 rfl rfl ?_
    refine v_iload_n O dX8_isBoard_13 1 rfl rfl ?_
    refine v_iconst (v := 2) O dX8_isBoard_14 (by decide) ?_
    refine v_iadd O dX8_isBoard_15 ?_
    refine v_iconst (v := 2) O dX8_isBoard_16 (by decide) ?_
    refine v_iconst (v := 4) O dX8_isBoard_17 (by decide) ?_
    refine v_cVi O [.int (a0 + 2), .int 2, .int 4] [] gX8_isBoard_X8_isNumber cw_X8_isBoard_X8_isNumber rfl rfl (g41 h41 (by decide)) (cg_25 G _) rfl rfl (Nat.le_of_ble_eq_true rfl) dX8_isBoard_18 e (fun _ e9 => f_X8_isNumber_ok h41 e9) (fun r3 h4 e => ?_)
    refine v_if_ne O dX8_isBoard_21 26 (by decide) e (fun e => ?_) (fun e => ?_)
    · refine v_aload_n O dX8_isBoard_26 0 rfl rfl ?_
      refine v_aload_n O dX8_isBoard_27 0 rfl rfl ?_
      refine v_get O fd_X8_isBoard_29 (g41 h41 (by decide)) (cg_25 G _) rfl dX8_isBoard_28 ?_
      refine v_iload_n O dX8_isBoard_31 1 rfl rfl ?_
      refine v_iconst (v := 1) O dX8_isBoard_32 (by decide) ?_
      refine v_iadd O dX8_isBoard_33 ?_
      refine v_iald O (g41 h41 (by decide)) (cg_30 G _) dX8_isBoard_34 e (fun e => ?_)
      refine v_aload_n O dX8_isBoard_35 0 rfl rfl ?_
      refine v_get O fd_X8_isBoard_29 (g41 h41 (by decide)) (cg_25 G _) rfl dX8_isBoard_36 ?_
      refine v_iload_n O dX8_isBoard_39 1 rfl rfl ?_
      refine v_iconst (v := 2) O dX8_isBoard_40 (by decide) ?_
      refine v_iadd O dX8_isBoard_41 ?_
      refine v_iald O (g41 h41 (by decide)) (cg_30 G _) dX8_isBoard_42 e (fun e => ?_)
      refine v_imul O dX8_isBoard_43 ?_
      refine v_put O fd_X8_isBoard_117 fp_X8_15 (g41 h41 (by decide)) (cg_25 G _) (Nat.le_of_ble_eq_true rfl) (cs_25_15 G _ _) dX8_isBoard_44 e (fun h5 e => ?_)
      refine v_aload_n O dX8_isBoard_47 0 rfl rfl ?_
      refine v_iconst (v := 0) O dX8_isBoard_48 (by decide) ?_
      refine v_put O fd_X8_isBoard_120 fp_X8_16 (g41 h41 (by decide)) (cg_25 G _) (Nat.le_of_ble_eq_true rfl) (cs_25_16 G _ _) dX8_isBoard_49 e (fun h6 e => ?_)
      refine v_aload_n O dX8_isBoard_52 0 rfl rfl ?_
      refine v_iconst (v := 0) O dX8_isBoard_53 (by decide) ?_
      refine v_put O fd_X8_isBoard_123 fp_X8_17 (g41 h41 (by decide)) (cg_25 G _) (Nat.le_of_ble_eq_true rfl) (cs_25_17 G _ _) dX8_isBoard_54 e (fun h7 e => ?_)
      refine v_aload_n O dX8_isBoard_57 0 rfl rfl ?_
      refine v_get O fd_X8_isBoard_117 (g41 h41 (by decide)) (cg_25 G _) rfl dX8_isBoard_58 ?_
      refine v_bipush (v := 13) O dX8_isBoard_61 (by decide) ?_
      refine v_icmp_lt O dX8_isBoard_63 73 (by decide) e (fun e => ?_) (fun e => ?_)
      · refine v_sub [] rfl ?_
        exact f_X8_isBoard_b73_ok h41 O N _ e
      · refine v_aload_n O dX8_isBoard_66 0 rfl rfl ?_
        refine v_cVi O [] [] gX8_isBoard_X8_fails cw_X8_isBoard_X8_fails rfl rfl (g41 h41 (by decide)) (cg_25 G _) rfl rfl (Nat.le_of_ble_eq_true rfl) dX8_isBoard_67 e (fun _ e9 => f_X8_fails_ok h41 e9) (fun r8 h9 e => ?_)
        refine v_if_eq O dX8_isBoard_70 77 (by decide) e (fun e => ?_) (fun e => ?_)
        · refine v_iconst (v := 0) O dX8_isBoard_77 (by decide) ?_
          refine v_sub [] rfl ?_
          exact f_X8_isBoard_b78_ok h41 O N _ _ e
        · refine v_sub [] rfl ?_
          exact f_X8_isBoard_b73_ok h41 O N _ e
    · refine v_sub [] rfl ?_
      exact f_X8_isBoard_b24_ok h41 O N _ e
/-! ===== X8 isOf ===== -/
abbrev rm_X8_isOf : Room := { frames := 0, cells := 0, slots := 0, locals := 0 }
set_option maxRecDepth 20000 in
theorem f_X8_isOf_b28_ok_28 {X : Cx} {G : Gx} {z : Rs} (h41 : 41 ≤ gN G) (O : Ok X G cX8_isOf RX8 5 wsX8_isOf (some .boolean) rm_X8_isOf) (N : Nat) (k5 : Int32 → Int32 → Int32 → Int32 → Hp → Option Rs) (hk5 : ∀ (v1 : Int32) (v2 : Int32) (v3 : Int32) (v4 : Int32) (h : Hp), k5 v1 v2 v3 v4 h = some z → V X G 5 (QI X G z) h 5 [(0, .ref (G.1 28)), (1, .int v1), (2, .int v2), (3, .int v3), (4, .int v4)] []) (v1 : Int32) (v2 : Int32) (v4 : Int32) (s0 : Int32) (h : Hp) (e : f_X8_isOf_b28 28 N k5 v1 v2 v4 s0 h = some z) : V X G 5 (QI X G z) h 28 [(0, .ref (G.1 28)), (1, .int v1), (2, .int v2), (4, .int v4)] [.int s0] := by
  unfold f_X8_isOf_b28 at e
  refine v_istore_n O dX8_isOf_28 rfl (by decide) (fun x1 => [(3, .int x1), (0, .ref (G.1 28)), (1, .int v1), (2, .int v2), (4, .int v4)]) (fun _ => rfl) e (fun x1 e => ?_)
  refine v_iinc (v := 1) O dX8_isOf_29 4 rfl (by decide) (by decide) (fun x2 => [(4, .int x2), (3, .int x1), (0, .ref (G.1 28)), (1, .int v1), (2, .int v2)]) (fun _ => rfl) e (fun x2 e => ?_)
  refine v_goto O dX8_isOf_32 5 (by decide) ?_
  refine v_sub [2, 3, 4, 1, 0] rfl ?_
  exact hk5 _ _ _ _ _ e
set_option maxRecDepth 20000 in
theorem f_X8_isOf_b23_ok_28 {X : Cx} {G : Gx} {z : Rs} (h41 : 41 ≤ gN G) (O : Ok X G cX8_isOf RX8 5 wsX8_isOf (some .boolean) rm_X8_isOf) (N : Nat) (k5 : Int32 → Int32 → Int32 → Int32 → Hp → Option Rs) (hk5 : ∀ (v1 : Int32) (v2 : Int32) (v3 : Int32) (v4 : Int32) (h : Hp), k5 v1 v2 v3 v4 h = some z → V X G 5 (QI X G z) h 5 [(0, .ref (G.1 28)), (1, .int v1), (2, .int v2), (3, .int v3), (4, .int v4)] []) (v1 : Int32) (v2 : Int32) (v4 : Int32) (h : Hp) (e : f_X8_isOf_b23 28 N k5 v1 v2 v4 h = some z) : V X G 5 (QI X G z) h 23 [(0, .ref (G.1 28)), (1, .int v1), (2, .int v2), (4, .int v4)] [] := by
  unfold f_X8_isOf_b23 at e
  refine v_iconst (v := 1) O dX8_isOf_23 (by decide) ?_
  refine v_goto O dX8_isOf_24 28 (by decide) ?_
  exact f_X8_isOf_b28_ok_28 h41 O N k5 hk5 _ _ _ _ _ e
set_option maxRecDepth 20000 in
theorem f_X8_isOf_b5_ok_28 {X : Cx} {G : Gx} {z : Rs} (h41 : 41 ≤ gN G) (O : Ok X G cX8_isOf RX8 5 wsX8_isOf (some .boolean) rm_X8_isOf) (N : Nat) (k5 : Int32 → Int32 → Int32 → Int32 → Hp → Option Rs) (hk5 : ∀ (v1 : Int32) (v2 : Int32) (v3 : Int32) (v4 : Int32) (h : Hp), k5 v1 v2 v3 v4 h = some z → V X G 5 (QI X G z) h 5 [(0, .ref (G.1 28)), (1, .int v1), (2, .int v2), (3, .int v3), (4, .int v4)] []) (v1 : Int32) (v2 : Int32) (v3 : Int32) (v4 : Int32) (h : Hp) (e : f_X8_isOf_b5 28 N k5 v1 v2 v3 v4 h = some z) : V X G 5 (QI X G z) h 5 [(0, .ref (G.1 28)), (1, .int v1), (2, .int v2), (3, .int v3), (4, .int v4)] [] := by
  unfold f_X8_isOf_b5 at e
  refine v_iload O dX8_isOf_5 4 rfl ?_
  refine v_iload_n O dX8_isOf_7 1 rfl rfl ?_
  refine v_icmp_ge O dX8_isOf_8 35 (by decide) e (fun e => ?_) (fun e => ?_)
  · refine v_iload_n O dX8_isOf_35 3 rfl rfl ?_
    exact v_zret O dX8_isOf_36 e
  · refine v_iload_n O dX8_isOf_11 3 rfl rfl ?_
    refine v_if_ne O dX8_isOf_12 23 (by decide) e (fun e => ?_) (fun e => ?_)
    · refine v_sub [0, 1, 2, 4] rfl ?_
      exact f_X8_isOf_b23_ok_28 h41 O N k5 hk5 _ _ _ _ e
    · refine v_aload_n O dX8_isOf_15 0 rfl rfl ?_
      refine v_iload O dX8_isOf_16 4 rfl ?_
      refine v_iald O (g41 h41 (by decide)) (cg_28 G _) dX8_isOf_18 e (fun e => ?_)
      refine v_iload_n O dX8_isOf_19 2 rfl rfl ?_
      refine v_icmp_ne O dX8_isOf_20 27 (by decide) e (fun e => ?_) (fun e => ?_)
      · refine v_iconst (v := 0) O dX8_isOf_27 (by decide) ?_
        refine v_sub [0, 1, 2, 4] rfl ?_
        exact f_X8_isOf_b28_ok_28 h41 O N k5 hk5 _ _ _ _ _ e
      · refine v_sub [0, 1, 2, 4] rfl ?_
        exact f_X8_isOf_b23_ok_28 h41 O N k5 hk5 _ _ _ _ e
theorem f_X8_isOf_l5_ok_28 {X : Cx} {G : Gx} {z : Rs} (h41 : 41 ≤ gN G) (O : Ok X G cX8_isOf RX8 5 wsX8_isOf (some .boolean) rm_X8_isOf) (N : Nat) : ∀ (n : Nat) (v1 : Int32) (v2 : Int32) (v3 : Int32) (v4 : Int32) (h : Hp), f_X8_isOf_l5 28 N n v1 v2 v3 v4 h = some z → V X G 5 (QI X G z) h 5 [(0, .ref (G.1 28)), (1, .int v1), (2, .int v2), (3, .int v3), (4, .int v4)] [] := by
  intro n
  induction n with
  | zero => intro v1 v2 v3 v4 h e; cases e
  | succ n ih => intro v1 v2 v3 v4 h e; exact f_X8_isOf_b5_ok_28 h41 O N _ ih v1 v2 v3 v4 h e
set_option maxRecDepth 20000 in
theorem f_X8_isOf_ok_28 {l : Launch} {G : Gx} {N : Nat} (h41 : 41 ≤ gN G) {a1 : Int32} {a2 : Int32} {h : Hp} {z : Rs} (e : f_X8_isOf 28 N a1 a2 h = some z) : CI l G yX8_isOf wsX8_isOf rm_X8_isOf [.ref (G.1 28), .int a1, .int a2] h z := by
  refine m_bool _ (by decide) rfl [(0, .ref (G.1 28)), (1, .int a1), (2, .int a2)] rfl (Nat.le_of_ble_eq_true rfl) (fun X O => ?_)
  unfold f_X8_isOf at e
  refine v_iconst (v := 0) O dX8_isOf_0 (by decide) ?_
  refine v_istore_n O dX8_isOf_1 rfl (by decide) (fun x1 => [(3, .int x1), (0, .ref (G.1 28)), (1, .int a1), (2, .int a2)]) (fun _ => rfl) e (fun x1 e => ?_)
  refine v_iconst (v := 0) O dX8_isOf_2 (by decide) ?_
  refine v_istore O dX8_isOf_3 (by decide) (fun x2 => [(4, .int x2), (3, .int x1), (0, .ref (G.1 28)), (1, .int a1), (2, .int a2)]) (fun _ => rfl) e (fun x2 e => ?_)
  refine v_sub [2, 3, 4, 1, 0] rfl ?_
  exact f_X8_isOf_l5_ok_28 h41 O N N _ _ _ _ _ e
set_option maxRecDepth 20000 in
theorem f_X8_isOf_b28_ok_29 {X : Cx} {G : Gx} {z : Rs} (h41 : 41 ≤ gN G) (O : Ok X G cX8_isOf RX8 5 wsX8_isOf (some .boolean) rm_X8_isOf) (N : Nat) (k5 : Int32 → Int32 → Int32 → Int32 → Hp → Option Rs) (hk5 : ∀ (v1 : Int32) (v2 : Int32) (v3 : Int32) (v4 : Int32) (h : Hp), k5 v1 v2 v3 v4 h = some z → V X G 5 (QI X G z) h 5 [(0, .ref (G.1 29)), (1, .int v1), (2, .int v2), (3, .int v3), (4, .int v4)] []) (v1 : Int32) (v2 : Int32) (v4 : Int32) (s0 : Int32) (h : Hp) (e : f_X8_isOf_b28 29 N k5 v1 v2 v4 s0 h = some z) : V X G 5 (QI X G z) h 28 [(0, .ref (G.1 29)), (1, .int v1), (2, .int v2), (4, .int v4)] [.int s0] := by
  unfold f_X8_isOf_b28 at e
  refine v_istore_n O dX8_isOf_28 rfl (by decide) (fun x1 => [(3, .int x1), (0, .ref (G.1 29)), (1, .int v1), (2, .int v2), (4, .int v4)]) (fun _ => rfl) e (fun x1 e => ?_)
  refine v_iinc (v := 1) O dX8_isOf_29 4 rfl (by decide) (by decide) (fun x2 => [(4, .int x2), (3, .int x1), (0, .ref (G.1 29)), (1, .int v1), (2, .int v2)]) (fun _ => rfl) e (fun x2 e => ?_)
  refine v_goto O dX8_isOf_32 5 (by decide) ?_
  refine v_sub [2, 3, 4, 1, 0] rfl ?_
  exact hk5 _ _ _ _ _ e
set_option maxRecDepth 20000 in
theorem f_X8_isOf_b23_ok_29 {X : Cx} {G : Gx} {z : Rs} (h41 : 41 ≤ gN G) (O : Ok X G cX8_isOf RX8 5 wsX8_isOf (some .boolean) rm_X8_isOf) (N : Nat) (k5 : Int32 → Int32 → Int32 → Int32 → Hp → Option Rs) (hk5 : ∀ (v1 : Int32) (v2 : Int32) (v3 : Int32) (v4 : Int32) (h : Hp), k5 v1 v2 v3 v4 h = some z → V X G 5 (QI X G z) h 5 [(0, .ref (G.1 29)), (1, .int v1), (2, .int v2), (3, .int v3), (4, .int v4)] []) (v1 : Int32) (v2 : Int32) (v4 : Int32) (h : Hp) (e : f_X8_isOf_b23 29 N k5 v1 v2 v4 h = some z) : V X G 5 (QI X G z) h 23 [(0, .ref (G.1 29)), (1, .int v1), (2, .int v2), (4, .int v4)] [] := by
  unfold f_X8_isOf_b23 at e
  refine v_iconst (v := 1) O dX8_isOf_23 (by decide) ?_
  refine v_goto O dX8_isOf_24 28 (by decide) ?_
  exact f_X8_isOf_b28_ok_29 h41 O N k5 hk5 _ _ _ _ _ e
set_option maxRecDepth 20000 in
theorem f_X8_isOf_b5_ok_29 {X : Cx} {G : Gx} {z : Rs} (h41 : 41 ≤ gN G) (O : Ok X G cX8_isOf RX8 5 wsX8_isOf (some .boolean) rm_X8_isOf) (N : Nat) (k5 : Int32 → Int32 → Int32 → Int32 → Hp → Option Rs) (hk5 : ∀ (v1 : Int32) (v2 : Int32) (v3 : Int32) (v4 : Int32) (h : Hp), k5 v1 v2 v3 v4 h = some z → V X G 5 (QI X G z) h 5 [(0, .ref (G.1 29)), (1, .int v1), (2, .int v2), (3, .int v3), (4, .int v4)] []) (v1 : Int32) (v2 : Int32) (v3 : Int32) (v4 : Int32) (h : Hp) (e : f_X8_isOf_b5 29 N k5 v1 v2 v3 v4 h = some z) : V X G 5 (QI X G z) h 5 [(0, .ref (G.1 29)), (1, .int v1), (2, .int v2), (3, .int v3), (4, .int v4)] [] := by
  unfold f_X8_isOf_b5 at e
  refine v_iload O dX8_isOf_5 4 rfl ?_
  refine v_iload_n O dX8_isOf_7 1 rfl rfl ?_
  refine v_icmp_ge O dX8_isOf_8 35 (by decide) e (fun e => ?_) (fun e => ?_)
  · refine v_iload_n O dX8_isOf_35 3 rfl rfl ?_
    exact v_zret O dX8_isOf_36 e
  · refine v_iload_n O dX8_isOf_11 3 rfl rfl ?_
    refine v_if_ne O dX8_isOf_12 23 (by decide) e (fun e => ?_) (fun e => ?_)
    · refine v_sub [0, 1, 2, 4] rfl ?_
      exact f_X8_isOf_b23_ok_29 h41 O N k5 hk5 _ _ _ _ e
    · refine v_aload_n O dX8_isOf_15 0 rfl rfl ?_
      refine v_iload O dX8_isOf_16 4 rfl ?_
      refine v_iald O (g41 h41 (by decide)) (cg_29 G _) dX8_isOf_18 e (fun e => ?_)
      refine v_iload_n O dX8_isOf_19 2 rfl rfl ?_
      refine v_icmp_ne O dX8_isOf_20 27 (by decide) e (fun e => ?_) (fun e => ?_)
      · refine v_iconst (v := 0) O dX8_isOf_27 (by decide) ?_
        refine v_sub [0, 1, 2, 4] rfl ?_
        exact f_X8_isOf_b28_ok_29 h41 O N k5 hk5 _ _ _ _ _ e
      · refine v_sub [0, 1, 2, 4] rfl ?_
        exact f_X8_isOf_b23_ok_29 h41 O N k5 hk5 _ _ _ _ e
theorem f_X8_isOf_l5_ok_29 {X : Cx} {G : Gx} {z : Rs} (h41 : 41 ≤ gN G) (O : Ok X G cX8_isOf RX8 5 wsX8_isOf (some .boolean) rm_X8_isOf) (N : Nat) : ∀ (n : Nat) (v1 : Int32) (v2 : Int32) (v3 : Int32) (v4 : Int32) (h : Hp), f_X8_isOf_l5 29 N n v1 v2 v3 v4 h = some z → V X G 5 (QI X G z) h 5 [(0, .ref (G.1 29)), (1, .int v1), (2, .int v2), (3, .int v3), (4, .int v4)] [] := by
  intro n
  induction n with
  | zero => intro v1 v2 v3 v4 h e; cases e
  | succ n ih => intro v1 v2 v3 v4 h e; exact f_X8_isOf_b5_ok_29 h41 O N _ ih v1 v2 v3 v4 h e
set_option maxRecDepth 20000 in
theorem f_X8_isOf_ok_29 {l : Launch} {G : Gx} {N : Nat} (h41 : 41 ≤ gN G) {a1 : Int32} {a2 : Int32} {h : Hp} {z : Rs} (e : f_X8_isOf 29 N a1 a2 h = some z) : CI l G yX8_isOf wsX8_isOf rm_X8_isOf [.ref (G.1 29), .int a1, .int a2] h z := by
  refine m_bool _ (by decide) rfl [(0, .ref (G.1 29)), (1, .int a1), (2, .int a2)] rfl (Nat.le_of_ble_eq_true rfl) (fun X O => ?_)
  unfold f_X8_isOf at e
  refine v_iconst (v := 0) O dX8_isOf_0 (by decide) ?_
  refine v_istore_n O dX8_isOf_1 rfl (by decide) (fun x1 => [(3, .int x1), (0, .ref (G.1 29)), (1, .int a1), (2, .int a2)]) (fun _ => rfl) e (fun x1 e => ?_)
  refine v_iconst (v := 0) O dX8_isOf_2 (by decide) ?_
  refine v_istore O dX8_isOf_3 (by decide) (fun x2 => [(4, .int x2), (3, .int x1), (0, .ref (G.1 29)), (1, .int a1), (2, .int a2)]) (fun _ => rfl) e (fun x2 e => ?_)
  refine v_sub [2, 3, 4, 1, 0] rfl ?_
  exact f_X8_isOf_l5_ok_29 h41 O N N _ _ _ _ _ e
