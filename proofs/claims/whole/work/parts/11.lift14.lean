/-! ===== X8 left ===== -/
abbrev rm_X8_left : Room := { frames := 9, cells := 0, slots := 0, locals := 230 }
theorem fd_X8_left_16 : FdO wsX8_left RX8 16 RX8 TX8 34 8 5 := ⟨by decide +kernel, rfl, by decide, by decide +kernel⟩
theorem fd_X8_left_32 : FdO wsX8_left RX8 32 RX8 TX8 34 8 21 := ⟨by decide +kernel, rfl, by decide, by decide +kernel⟩
theorem fd_X8_left_68 : FdO wsX8_left RX8 68 RX8 TX8 34 8 4 := ⟨by decide +kernel, rfl, by decide, by decide +kernel⟩
theorem fd_X8_left_167 : FdO wsX8_left RX8 167 RX8 TX8 34 8 2 := ⟨by decide +kernel, rfl, by decide, by decide +kernel⟩
theorem cw_X8_left_X8_fewestBy : CwO rm_X8_left yX8_fewestBy wsX8_fewestBy cX8_fewestBy 3 (some .int) rm_X8_fewestBy 1 := ⟨⟨_, rfl⟩, rfl, rfl, by decide +kernel, by decide, by decide⟩
theorem cw_X8_left_X8_has : CwO rm_X8_left yX8_has wsX8_has cX8_has 2 (some .boolean) rm_X8_has 2 := ⟨⟨_, rfl⟩, rfl, rfl, by decide +kernel, by decide, by decide⟩
theorem cw_X8_left_X8_isSquare : CwO rm_X8_left yX8_isSquare wsX8_isSquare cX8_isSquare 2 (some .boolean) rm_X8_isSquare 1 := ⟨⟨_, rfl⟩, rfl, rfl, by decide +kernel, by decide, by decide⟩
set_option maxRecDepth 20000 in
theorem f_X8_left_b63_ok {X : Cx} {G : Gx} {z : Rs} (h41 : 41 ≤ gN G) (O : Ok X G cX8_left RX8 4 wsX8_left (some .int) rm_X8_left) (N : Nat) (k22 : Int32 → Int32 → Int32 → Hp → Option Rs) (hk22 : ∀ (v1 : Int32) (v2 : Int32) (v3 : Int32) (h : Hp), k22 v1 v2 v3 h = some z → V X G 4 (QI X G z) h 22 [(0, .ref (G.1 25)), (1, .int v1), (2, .int v2), (3, .int v3)] []) (v1 : Int32) (v3 : Int32) (s0 : Int32) (h : Hp) (e : f_X8_left_b63 N k22 v1 v3 s0 h = some z) : V X G 4 (QI X G z) h 63 [(0, .ref (G.1 25)), (1, .int v1), (3, .int v3)] [.int s0] := by
  unfold f_X8_left_b63 at e
  refine v_istore_n O dX8_left_63 rfl (by decide) (fun x1 => [(2, .int x1), (0, .ref (G.1 25)), (1, .int v1), (3, .int v3)]) (fun _ => rfl) e (fun x1 e => ?_)
  refine v_iinc (v := 1) O dX8_left_64 3 rfl (by decide) (by decide) (fun x2 => [(3, .int x2), (2, .int x1), (0, .ref (G.1 25)), (1, .int v1)]) (fun _ => rfl) e (fun x2 e => ?_)
  refine v_goto O dX8_left_67 22 (by decide) ?_
  refine v_sub [2, 3, 1, 0] rfl ?_
  exact hk22 _ _ _ _ e
set_option maxRecDepth 20000 in
theorem f_X8_left_b58_ok {X : Cx} {G : Gx} {z : Rs} (h41 : 41 ≤ gN G) (O : Ok X G cX8_left RX8 4 wsX8_left (some .int) rm_X8_left) (N : Nat) (k22 : Int32 → Int32 → Int32 → Hp → Option Rs) (hk22 : ∀ (v1 : Int32) (v2 : Int32) (v3 : Int32) (h : Hp), k22 v1 v2 v3 h = some z → V X G 4 (QI X G z) h 22 [(0, .ref (G.1 25)), (1, .int v1), (2, .int v2), (3, .int v3)] []) (v1 : Int32) (v3 : Int32) (h : Hp) (e : f_X8_left_b58 N k22 v1 v3 h = some z) : V X G 4 (QI X G z) h 58 [(0, .ref (G.1 25)), (1, .int v1), (3, .int v3)] [] := by
  unfold f_X8_left_b58 at e
  refine v_iconst (v := 1) O dX8_left_58 (by decide) ?_
  refine v_goto O dX8_left_59 63 (by decide) ?_
  exact f_X8_left_b63_ok h41 O N k22 hk22 _ _ _ _ e
set_option maxRecDepth 20000 in
theorem f_X8_left_b22_ok {X : Cx} {G : Gx} {z : Rs} (h41 : 41 ≤ gN G) (O : Ok X G cX8_left RX8 4 wsX8_left (some .int) rm_X8_left) (N : Nat) (k22 : Int32 → Int32 → Int32 → Hp → Option Rs) (hk22 : ∀ (v1 : Int32) (v2 : Int32) (v3 : Int32) (h : Hp), k22 v1 v2 v3 h = some z → V X G 4 (QI X G z) h 22 [(0, .ref (G.1 25)), (1, .int v1), (2, .int v2), (3, .int v3)] []) (v1 : Int32) (v2 : Int32) (v3 : Int32) (h : Hp) (e : f_X8_left_b22 N k22 v1 v2 v3 h = some z) : V X G 4 (QI X G z) h 22 [(0, .ref (G.1 25)), (1, .int v1), (2, .int v2), (3, .int v3)] [] := by
  unfold f_X8_left_b22 at e
  refine v_iload_n O dX8_left_22 3 rfl rfl ?_
  refine v_aload_n O dX8_left_23 0 rfl rfl ?_
  refine v_get O fd_X8_left_68 (g41 h41 (by decide)) (cg_25 G _) rfl dX8_left_24 ?_
  refine v_icmp_ge O dX8_left_27 70 (by decide) e (fun e => ?_) (fun e => ?_)
  · refine v_iload_n O dX8_left_70 2 rfl rfl ?_
    refine v_if_eq O dX8_left_71 77 (by decide) e (fun e => ?_) (fun e => ?_)
    · refine v_aload_n O dX8_left_77 0 rfl rfl ?_
      refine v_aload_n O dX8_left_78 0 rfl rfl ?_
      refine v_get O fd_X8_left_167 (g41 h41 (by decide)) (cg_25 G _) rfl dX8_left_79 ?_
      refine v_iconst (v := 1) O dX8_left_82 (by decide) ?_
      refine v_iload_n O dX8_left_83 1 rfl rfl ?_
      refine v_ishl O dX8_left_84 ?_
      refine v_ior O dX8_left_85 ?_
      refine v_put O fd_X8_left_167 fp_X8_2 (g41 h41 (by decide)) (cg_25 G _) (Nat.le_of_ble_eq_true rfl) (cs_25_2 G _ _) dX8_left_86 e (fun h1 e => ?_)
      refine v_aload_n O dX8_left_89 0 rfl rfl ?_
      refine v_iconst (v := 0) O dX8_left_90 (by decide) ?_
      refine v_cVi O [.int 0] [] gX8_left_X8_fewestBy cw_X8_left_X8_fewestBy rfl rfl (g41 h41 (by decide)) (cg_25 G _) rfl rfl (Nat.le_of_ble_eq_true rfl) dX8_left_91 e (fun _ e9 => f_X8_fewestBy_ok h41 e9) (fun r2 h3 e => ?_)
      refine v_istore_n O dX8_left_94 rfl (by decide) (fun x4 => [(3, .int x4), (0, .ref (G.1 25)), (1, .int v1), (2, .int v2)]) (fun _ => rfl) e (fun x4 e => ?_)
      refine v_aload_n O dX8_left_95 1 rfl rfl ?_
      refine v_aload_n O dX8_left_96 1 rfl rfl ?_
      refine v_get O fd_X8_left_167 (g41 h41 (by decide)) (cg_25 G _) rfl dX8_left_97 ?_
      refine v_iconst (v := 1) O dX8_left_100 (by decide) ?_
      refine v_iload_n O dX8_left_101 2 rfl rfl ?_
      refine v_ishl O dX8_left_102 ?_
      refine v_iconst (v := (-1)) O dX8_left_103 (by decide) ?_
      refine v_ixor O dX8_left_104 ?_
      refine v_iand O dX8_left_105 ?_
      refine v_put O fd_X8_left_167 fp_X8_2 (g41 h41 (by decide)) (cg_25 G _) (Nat.le_of_ble_eq_true rfl) (cs_25_2 G _ _) dX8_left_106 e (fun h5 e => ?_)
      refine v_iload_n O dX8_left_109 0 rfl rfl ?_
      exact v_iret O dX8_left_110 e
    · refine v_bipush (v := (-4)) O dX8_left_74 (by decide) ?_
      exact v_iret O dX8_left_76 e
  · refine v_iload_n O dX8_left_30 2 rfl rfl ?_
    refine v_if_ne O dX8_left_31 58 (by decide) e (fun e => ?_) (fun e => ?_)
    · refine v_sub [0, 1, 3] rfl ?_
      exact f_X8_left_b58_ok h41 O N k22 hk22 _ _ _ e
    · refine v_aload_n O dX8_left_34 0 rfl rfl ?_
      refine v_get O fd_X8_left_32 (g41 h41 (by decide)) (cg_25 G _) rfl dX8_left_35 ?_
      refine v_iload_n O dX8_left_38 3 rfl rfl ?_
      refine v_iald O (g41 h41 (by decide)) (cg_31 G _) dX8_left_39 e (fun e => ?_)
      refine v_iload_n O dX8_left_40 1 rfl rfl ?_
      refine v_icmp_eq O dX8_left_41 58 (by decide) e (fun e => ?_) (fun e => ?_)
      · refine v_sub [0, 1, 3] rfl ?_
        exact f_X8_left_b58_ok h41 O N k22 hk22 _ _ _ e
      · refine v_aload_n O dX8_left_44 0 rfl rfl ?_
        refine v_get O fd_X8_left_16 (g41 h41 (by decide)) (cg_25 G _) rfl dX8_left_45 ?_
        refine v_iconst (v := 4) O dX8_left_48 (by decide) ?_
        refine v_iload_n O dX8_left_49 3 rfl rfl ?_
        refine v_imul O dX8_left_50 ?_
        refine v_iconst (v := 3) O dX8_left_51 (by decide) ?_
        refine v_iadd O dX8_left_52 ?_
        refine v_iald O (g41 h41 (by decide)) (cg_26 G _) dX8_left_53 e (fun e => ?_)
        refine v_iload_n O dX8_left_54 1 rfl rfl ?_
        refine v_icmp_ne O dX8_left_55 62 (by decide) e (fun e => ?_) (fun e => ?_)
        · refine v_iconst (v := 0) O dX8_left_62 (by decide) ?_
          refine v_sub [0, 1, 3] rfl ?_
          exact f_X8_left_b63_ok h41 O N k22 hk22 _ _ _ _ e
        · refine v_sub [0, 1, 3] rfl ?_
          exact f_X8_left_b58_ok h41 O N k22 hk22 _ _ _ e
theorem f_X8_left_l22_ok {X : Cx} {G : Gx} {z : Rs} (h41 : 41 ≤ gN G) (O : Ok X G cX8_left RX8 4 wsX8_left (some .int) rm_X8_left) (N : Nat) : ∀ (n : Nat) (v1 : Int32) (v2 : Int32) (v3 : Int32) (h : Hp), f_X8_left_l22 N n v1 v2 v3 h = some z → V X G 4 (QI X G z) h 22 [(0, .ref (G.1 25)), (1, .int v1), (2, .int v2), (3, .int v3)] [] := by
  intro n
  induction n with
  | zero => intro v1 v2 v3 h e; cases e
  | succ n ih => intro v1 v2 v3 h e; exact f_X8_left_b22_ok h41 O N _ ih v1 v2 v3 h e
set_option maxRecDepth 20000 in
theorem f_X8_left_ok {l : Launch} {G : Gx} {N : Nat} (h41 : 41 ≤ gN G) {a0 : Int32} {h : Hp} {z : Rs} (e : f_X8_left N a0 h = some z) : CI l G yX8_left wsX8_left rm_X8_left [.ref (G.1 25), .int a0] h z := by
  refine m_int _ (by decide) rfl [(0, .ref (G.1 25)), (1, .int a0)] rfl (Nat.le_of_ble_eq_true rfl) (fun X O => ?_)
  unfold f_X8_left at e
  refine v_aload_n O dX8_left_0 0 rfl rfl ?_
  refine v_iload_n O dX8_left_1 1 rfl rfl ?_
  refine v_cVi O [.int a0] [] gX8_left_X8_isSquare cw_X8_left_X8_isSquare rfl rfl (g41 h41 (by decide)) (cg_25 G _) rfl rfl (Nat.le_of_ble_eq_true rfl) dX8_left_2 e (fun _ e9 => f_X8_isSquare_ok h41 e9) (fun r1 h2 e => ?_)
  refine v_if_ne O dX8_left_5 11 (by decide) e (fun e => ?_) (fun e => ?_)
  · refine v_aload_n O dX8_left_11 0 rfl rfl ?_
    refine v_get O fd_X8_left_167 (g41 h41 (by decide)) (cg_25 G _) rfl dX8_left_12 ?_
    refine v_iload_n O dX8_left_15 1 rfl rfl ?_
    refine v_cSi O [.int (h2.1 25 2), .int a0] [] gX8_left_X8_has cw_X8_left_X8_has rfl rfl (Nat.le_of_ble_eq_true rfl) dX8_left_16 e (fun _ e9 => f_X8_has_ok e9) (fun r3 h4 e => ?_)
    refine v_istore_n O dX8_left_19 rfl (by decide) (fun x5 => [(2, .int x5), (0, .ref (G.1 25)), (1, .int a0)]) (fun _ => rfl) e (fun x5 e => ?_)
    refine v_iconst (v := 0) O dX8_left_20 (by decide) ?_
    refine v_istore_n O dX8_left_21 rfl (by decide) (fun x6 => [(3, .int x6), (2, .int x5), (0, .ref (G.1 25)), (1, .int a0)]) (fun _ => rfl) e (fun x6 e => ?_)
    refine v_sub [2, 3, 1, 0] rfl ?_
    exact f_X8_left_l22_ok h41 O N N _ _ _ _ e
  · refine v_bipush (v := (-2)) O dX8_left_8 (by decide) ?_
    exact v_iret O dX8_left_10 e
/-! ===== X8 man ===== -/
abbrev rm_X8_man : Room := { frames := 2, cells := 0, slots := 0, locals := 43 }
theorem fd_X8_man_16 : FdO wsX8_man RX8 16 RX8 TX8 34 8 5 := ⟨by decide +kernel, rfl, by decide, by decide +kernel⟩
theorem fd_X8_man_32 : FdO wsX8_man RX8 32 RX8 TX8 34 8 21 := ⟨by decide +kernel, rfl, by decide, by decide +kernel⟩
theorem cw_X8_man_X8_in : CwO rm_X8_man yX8_in wsX8_in cX8_in 3 (some .boolean) rm_X8_in 3 := ⟨⟨_, rfl⟩, rfl, rfl, by decide +kernel, by decide, by decide⟩
theorem cw_X8_man_X8_isMan : CwO rm_X8_man yX8_isMan wsX8_isMan cX8_isMan 2 (some .boolean) rm_X8_isMan 1 := ⟨⟨_, rfl⟩, rfl, rfl, by decide +kernel, by decide, by decide⟩
set_option maxRecDepth 20000 in
theorem f_X8_man_b49_ok {X : Cx} {G : Gx} {z : Rs} (h41 : 41 ≤ gN G) (O : Ok X G cX8_man RX8 3 wsX8_man (some .int) rm_X8_man) (N : Nat) (s0 : Int32) (h : Hp) (e : f_X8_man_b49 N s0 h = some z) : V X G 3 (QI X G z) h 49 [] [.int s0] := by
  unfold f_X8_man_b49 at e
  exact v_iret O dX8_man_49 e
set_option maxRecDepth 20000 in
theorem f_X8_man_ok {l : Launch} {G : Gx} {N : Nat} (h41 : 41 ≤ gN G) {a0 : Int32} {a1 : Int32} {h : Hp} {z : Rs} (e : f_X8_man N a0 a1 h = some z) : CI l G yX8_man wsX8_man rm_X8_man [.ref (G.1 25), .int a0, .int a1] h z := by
  refine m_int _ (by decide) rfl [(0, .ref (G.1 25)), (1, .int a0), (2, .int a1)] rfl (Nat.le_of_ble_eq_true rfl) (fun X O => ?_)
  unfold f_X8_man at e
  refine v_aload_n O dX8_man_0 0 rfl rfl ?_
  refine v_iload_n O dX8_man_1 1 rfl rfl ?_
  refine v_cVi O [.int a0] [] gX8_man_X8_isMan cw_X8_man_X8_isMan rfl rfl (g41 h41 (by decide)) (cg_25 G _) rfl rfl (Nat.le_of_ble_eq_true rfl) dX8_man_2 e (fun _ e9 => f_X8_isMan_ok h41 e9) (fun r1 h2 e => ?_)
  refine v_if_ne O dX8_man_5 11 (by decide) e (fun e => ?_) (fun e => ?_)
  · refine v_iload_n O dX8_man_11 2 rfl rfl ?_
    refine v_iconst (v := 0) O dX8_man_12 (by decide) ?_
    refine v_iconst (v := 3) O dX8_man_13 (by decide) ?_
    refine v_cSi O [.int a1, .int 0, .int 3] [] gX8_man_X8_in cw_X8_man_X8_in rfl rfl (Nat.le_of_ble_eq_true rfl) dX8_man_14 e (fun _ e9 => f_X8_in_ok e9) (fun r3 h4 e => ?_)
    refine v_if_ne O dX8_man_17 25 (by decide) e (fun e => ?_) (fun e => ?_)
    · refine v_iload_n O dX8_man_25 2 rfl rfl ?_
      refine v_iconst (v := 2) O dX8_man_26 (by decide) ?_
      refine v_icmp_ne O dX8_man_27 39 (by decide) e (fun e => ?_) (fun e => ?_)
      · refine v_aload_n O dX8_man_39 0 rfl rfl ?_
        refine v_get O fd_X8_man_16 (g41 h41 (by decide)) (cg_25 G _) rfl dX8_man_40 ?_
        refine v_iconst (v := 4) O dX8_man_43 (by decide) ?_
        refine v_iload_n O dX8_man_44 1 rfl rfl ?_
        refine v_imul O dX8_man_45 ?_
        refine v_iload_n O dX8_man_46 2 rfl rfl ?_
        refine v_iadd O dX8_man_47 ?_
        refine v_iald O (g41 h41 (by decide)) (cg_26 G _) dX8_man_48 e (fun e => ?_)
        refine v_sub [] rfl ?_
        exact f_X8_man_b49_ok h41 O N _ _ e
      · refine v_aload_n O dX8_man_30 0 rfl rfl ?_
        refine v_get O fd_X8_man_32 (g41 h41 (by decide)) (cg_25 G _) rfl dX8_man_31 ?_
        refine v_iload_n O dX8_man_34 1 rfl rfl ?_
        refine v_iald O (g41 h41 (by decide)) (cg_31 G _) dX8_man_35 e (fun e => ?_)
        refine v_goto O dX8_man_36 49 (by decide) ?_
        refine v_sub [] rfl ?_
        exact f_X8_man_b49_ok h41 O N _ _ e
    · refine v_bipush (v := (-3)) O dX8_man_20 (by decide) ?_
      refine v_goto O dX8_man_22 49 (by decide) ?_
      refine v_sub [] rfl ?_
      exact f_X8_man_b49_ok h41 O N _ _ e
  · refine v_bipush (v := (-2)) O dX8_man_8 (by decide) ?_
    exact v_iret O dX8_man_10 e
/-! ===== X8 many ===== -/
abbrev rm_X8_many : Room := { frames := 7, cells := 0, slots := 0, locals := 186 }
theorem fd_X8_many_46 : FdO wsX8_many RX8 46 RX8 TX8 34 8 27 := ⟨by decide +kernel, rfl, by decide, by decide +kernel⟩
theorem fd_X8_many_49 : FdO wsX8_many RX8 49 RX8 TX8 34 8 28 := ⟨by decide +kernel, rfl, by decide, by decide +kernel⟩
theorem fd_X8_many_241 : FdO wsX8_many RX8 241 RX8 TX8 34 8 31 := ⟨by decide +kernel, rfl, by decide, by decide +kernel⟩
theorem cw_X8_many_X8_layLine : CwO rm_X8_many yX8_layLine wsX8_layLine cX8_layLine 9 (none) rm_X8_layLine 0 := ⟨⟨_, rfl⟩, rfl, rfl, by decide +kernel, by decide, by decide⟩
set_option maxRecDepth 20000 in
theorem f_X8_many_b44_ok {X : Cx} {G : Gx} {z : Rs} (h41 : 41 ≤ gN G) (O : Ok X G cX8_many RX8 4 wsX8_many (some .int) rm_X8_many) (N : Nat) (k15 : Int32 → Int32 → Int32 → Hp → Option Rs) (hk15 : ∀ (v1 : Int32) (v2 : Int32) (v3 : Int32) (h : Hp), k15 v1 v2 v3 h = some z → V X G 4 (QI X G z) h 15 [(0, .ref (G.1 25)), (1, .int v1), (2, .int v2), (3, .int v3)] []) (v1 : Int32) (v3 : Int32) (s0 : Int32) (s1 : Int32) (h : Hp) (e : f_X8_many_b44 N k15 v1 v3 s0 s1 h = some z) : V X G 4 (QI X G z) h 44 [(0, .ref (G.1 25)), (1, .int v1), (3, .int v3)] [.int s0, .int s1] := by
  unfold f_X8_many_b44 at e
  refine v_iadd O dX8_many_44 ?_
  refine v_istore_n O dX8_many_45 rfl (by decide) (fun x1 => [(2, .int x1), (0, .ref (G.1 25)), (1, .int v1), (3, .int v3)]) (fun _ => rfl) e (fun x1 e => ?_)
  refine v_iinc (v := 1) O dX8_many_46 3 rfl (by decide) (by decide) (fun x2 => [(3, .int x2), (2, .int x1), (0, .ref (G.1 25)), (1, .int v1)]) (fun _ => rfl) e (fun x2 e => ?_)
  refine v_goto O dX8_many_49 15 (by decide) ?_
  refine v_sub [2, 3, 1, 0] rfl ?_
  exact hk15 _ _ _ _ e
set_option maxRecDepth 20000 in
theorem f_X8_many_b15_ok {X : Cx} {G : Gx} {z : Rs} (h41 : 41 ≤ gN G) (O : Ok X G cX8_many RX8 4 wsX8_many (some .int) rm_X8_many) (N : Nat) (k15 : Int32 → Int32 → Int32 → Hp → Option Rs) (hk15 : ∀ (v1 : Int32) (v2 : Int32) (v3 : Int32) (h : Hp), k15 v1 v2 v3 h = some z → V X G 4 (QI X G z) h 15 [(0, .ref (G.1 25)), (1, .int v1), (2, .int v2), (3, .int v3)] []) (v1 : Int32) (v2 : Int32) (v3 : Int32) (h : Hp) (e : f_X8_many_b15 N k15 v1 v2 v3 h = some z) : V X G 4 (QI X G z) h 15 [(0, .ref (G.1 25)), (1, .int v1), (2, .int v2), (3, .int v3)] [] := by
  unfold f_X8_many_b15 at e
  refine v_iload_n O dX8_many_15 3 rfl rfl ?_
  refine v_aload_n O dX8_many_16 0 rfl rfl ?_
  refine v_get O fd_X8_many_241 (g41 h41 (by decide)) (cg_25 G _) rfl dX8_many_17 ?_
  refine v_icmp_ge O dX8_many_20 52 (by decide) e (fun e => ?_) (fun e => ?_)
  · refine v_iload_n O dX8_many_52 2 rfl rfl ?_
    exact v_iret O dX8_many_53 e
  · refine v_iload_n O dX8_many_23 2 rfl rfl ?_
    refine v_aload_n O dX8_many_24 0 rfl rfl ?_
    refine v_get O fd_X8_many_46 (g41 h41 (by decide)) (cg_25 G _) rfl dX8_many_25 ?_
    refine v_aload_n O dX8_many_28 0 rfl rfl ?_
    refine v_get O fd_X8_many_49 (g41 h41 (by decide)) (cg_25 G _) rfl dX8_many_29 ?_
    refine v_iload_n O dX8_many_32 3 rfl rfl ?_
    refine v_iald O (g41 h41 (by decide)) (cg_36 G _) dX8_many_33 e (fun e => ?_)
    refine v_iald O (g41 h41 (by decide)) (cg_35 G _) dX8_many_34 e (fun e => ?_)
    refine v_iload_n O dX8_many_35 1 rfl rfl ?_
    refine v_icmp_ne O dX8_many_36 43 (by decide) e (fun e => ?_) (fun e => ?_)
    · refine v_iconst (v := 0) O dX8_many_43 (by decide) ?_
      refine v_sub [0, 1, 3] rfl ?_
      exact f_X8_many_b44_ok h41 O N k15 hk15 _ _ _ _ _ e
    · refine v_iconst (v := 1) O dX8_many_39 (by decide) ?_
      refine v_goto O dX8_many_40 44 (by decide) ?_
      refine v_sub [0, 1, 3] rfl ?_
      exact f_X8_many_b44_ok h41 O N k15 hk15 _ _ _ _ _ e
theorem f_X8_many_l15_ok {X : Cx} {G : Gx} {z : Rs} (h41 : 41 ≤ gN G) (O : Ok X G cX8_many RX8 4 wsX8_many (some .int) rm_X8_many) (N : Nat) : ∀ (n : Nat) (v1 : Int32) (v2 : Int32) (v3 : Int32) (h : Hp), f_X8_many_l15 N n v1 v2 v3 h = some z → V X G 4 (QI X G z) h 15 [(0, .ref (G.1 25)), (1, .int v1), (2, .int v2), (3, .int v3)] [] := by
  intro n
  induction n with
  | zero => intro v1 v2 v3 h e; cases e
  | succ n ih => intro v1 v2 v3 h e; exact f_X8_many_b15_ok h41 O N _ ih v1 v2 v3 h e
set_option maxRecDepth 20000 in
theorem f_X8_many_ok {l : Launch} {G : Gx} {N : Nat} (h41 : 41 ≤ gN G) {a0 : Int32} {h : Hp} {z : Rs} (e : f_X8_many N a0 h = some z) : CI l G yX8_many wsX8_many rm_X8_many [.ref (G.1 25), .int a0] h z := by
  refine m_int _ (by decide) rfl [(0, .ref (G.1 25)), (1, .int a0)] rfl (Nat.le_of_ble_eq_true rfl) (fun X O => ?_)
  unfold f_X8_many at e
  refine v_iload_n O dX8_many_0 1 rfl rfl ?_
  refine v_if_ge O dX8_many_1 7 (by decide) e (fun e => ?_) (fun e => ?_)
  · refine v_aload_n O dX8_many_7 0 rfl rfl ?_
    refine v_cVv O [] [] gX8_many_X8_layLine cw_X8_many_X8_layLine rfl rfl (g41 h41 (by decide)) (cg_25 G _) rfl rfl (Nat.le_of_ble_eq_true rfl) dX8_many_8 e (fun _ e9 => f_X8_layLine_ok h41 e9) (fun _ h1 e => ?_)
    refine v_iconst (v := 0) O dX8_many_11 (by decide) ?_
    refine v_istore_n O dX8_many_12 rfl (by decide) (fun x2 => [(2, .int x2), (0, .ref (G.1 25)), (1, .int a0)]) (fun _ => rfl) e (fun x2 e => ?_)
    refine v_iconst (v := 0) O dX8_many_13 (by decide) ?_
    refine v_istore_n O dX8_many_14 rfl (by decide) (fun x3 => [(3, .int x3), (2, .int x2), (0, .ref (G.1 25)), (1, .int a0)]) (fun _ => rfl) e (fun x3 e => ?_)
    refine v_sub [2, 3, 1, 0] rfl ?_
    exact f_X8_many_l15_ok h41 O N N _ _ _ _ e
  · refine v_bipush (v := (-3)) O dX8_many_4 (by decide) ?_
    exact v_iret O dX8_many_6 e
/-! ===== X8 may ===== -/
abbrev rm_X8_may : Room := { frames := 6, cells := 0, slots := 0, locals := 158 }
theorem fd_X8_may_32 : FdO wsX8_may RX8 32 RX8 TX8 34 8 21 := ⟨by decide +kernel, rfl, by decide, by decide +kernel⟩
theorem fd_X8_may_183 : FdO wsX8_may RX8 183 RX8 TX8 34 8 22 := ⟨by decide +kernel, rfl, by decide, by decide +kernel⟩
theorem cw_X8_may_X8_isMan : CwO rm_X8_may yX8_isMan wsX8_isMan cX8_isMan 2 (some .boolean) rm_X8_isMan 1 := ⟨⟨_, rfl⟩, rfl, rfl, by decide +kernel, by decide, by decide⟩
theorem cw_X8_may_X8_mayOf : CwO rm_X8_may yX8_mayOf wsX8_mayOf cX8_mayOf 9 (some .int) rm_X8_mayOf 3 := ⟨⟨_, rfl⟩, rfl, rfl, by decide +kernel, by decide, by decide⟩
set_option maxRecDepth 20000 in
theorem f_X8_may_b28_ok {X : Cx} {G : Gx} {z : Rs} (h41 : 41 ≤ gN G) (O : Ok X G cX8_may RX8 2 wsX8_may (some .int) rm_X8_may) (N : Nat) (s0 : Int32) (h : Hp) (e : f_X8_may_b28 N s0 h = some z) : V X G 2 (QI X G z) h 28 [] [.int s0] := by
  unfold f_X8_may_b28 at e
  exact v_iret O dX8_may_28 e
set_option maxRecDepth 20000 in
theorem f_X8_may_ok {l : Launch} {G : Gx} {N : Nat} (h41 : 41 ≤ gN G) {a0 : Int32} {h : Hp} {z : Rs} (e : f_X8_may N a0 h = some z) : CI l G yX8_may wsX8_may rm_X8_may [.ref (G.1 25), .int a0] h z := by
  refine m_int _ (by decide) rfl [(0, .ref (G.1 25)), (1, .int a0)] rfl (Nat.le_of_ble_eq_true rfl) (fun X O => ?_)
  unfold f_X8_may at e
  refine v_aload_n O dX8_may_0 0 rfl rfl ?_
  refine v_iload_n O dX8_may_1 1 rfl rfl ?_
  refine v_cVi O [.int a0] [] gX8_may_X8_isMan cw_X8_may_X8_isMan rfl rfl (g41 h41 (by decide)) (cg_25 G _) rfl rfl (Nat.le_of_ble_eq_true rfl) dX8_may_2 e (fun _ e9 => f_X8_isMan_ok h41 e9) (fun r1 h2 e => ?_)
  refine v_if_eq O dX8_may_5 26 (by decide) e (fun e => ?_) (fun e => ?_)
  · refine v_bipush (v := (-2)) O dX8_may_26 (by decide) ?_
    refine v_sub [] rfl ?_
    exact f_X8_may_b28_ok h41 O N _ _ e
  · refine v_aload_n O dX8_may_8 0 rfl rfl ?_
    refine v_aload_n O dX8_may_9 0 rfl rfl ?_
    refine v_get O fd_X8_may_32 (g41 h41 (by decide)) (cg_25 G _) rfl dX8_may_10 ?_
    refine v_iload_n O dX8_may_13 1 rfl rfl ?_
    refine v_aload_n O dX8_may_14 0 rfl rfl ?_
    refine v_get O fd_X8_may_183 (g41 h41 (by decide)) (cg_25 G _) rfl dX8_may_15 ?_
    refine v_iconst (v := 2) O dX8_may_18 (by decide) ?_
    refine v_irem O dX8_may_19 e (fun e => ?_)
    refine v_cVi O [.ref (G.1 31), .int a0, .int ((h2.1 25 22) - (h2.1 25 22) / 2 * 2)] [] gX8_may_X8_mayOf cw_X8_may_X8_mayOf rfl rfl (g41 h41 (by decide)) (cg_25 G _) rfl rfl (Nat.le_of_ble_eq_true rfl) dX8_may_20 e (fun _ e9 => f_X8_mayOf_ok_31 h41 e9) (fun r3 h4 e => ?_)
    refine v_goto O dX8_may_23 28 (by decide) ?_
    refine v_sub [] rfl ?_
    exact f_X8_may_b28_ok h41 O N _ _ e
/-! ===== X8 joined ===== -/
abbrev rm_X8_joined : Room := { frames := 4, cells := 0, slots := 0, locals := 104 }
theorem fd_X8_joined_167 : FdO wsX8_joined RX8 167 RX8 TX8 34 8 2 := ⟨by decide +kernel, rfl, by decide, by decide +kernel⟩
theorem cw_X8_joined_X8_has : CwO rm_X8_joined yX8_has wsX8_has cX8_has 2 (some .boolean) rm_X8_has 2 := ⟨⟨_, rfl⟩, rfl, rfl, by decide +kernel, by decide, by decide⟩
theorem cw_X8_joined_X8_reachOf : CwO rm_X8_joined yX8_reachOf wsX8_reachOf cX8_reachOf 13 (some .int) rm_X8_reachOf 3 := ⟨⟨_, rfl⟩, rfl, rfl, by decide +kernel, by decide, by decide⟩
set_option maxRecDepth 20000 in
theorem f_X8_joined_b22_ok {X : Cx} {G : Gx} {z : Rs} (h41 : 41 ≤ gN G) (O : Ok X G cX8_joined RX8 3 wsX8_joined (some .int) rm_X8_joined) (N : Nat) (s0 : Int32) (h : Hp) (e : f_X8_joined_b22 N s0 h = some z) : V X G 3 (QI X G z) h 22 [] [.int s0] := by
  unfold f_X8_joined_b22 at e
  exact v_iret O dX8_joined_22 e
set_option maxRecDepth 20000 in
theorem f_X8_joined_ok {l : Launch} {G : Gx} {N : Nat} (h41 : 41 ≤ gN G) {a0 : Int32} {a1 : Int32} {h : Hp} {z : Rs} (e : f_X8_joined N a0 a1 h = some z) : CI l G yX8_joined wsX8_joined rm_X8_joined [.ref (G.1 25), .int a0, .int a1] h z := by
  refine m_int _ (by decide) rfl [(0, .ref (G.1 25)), (1, .int a0), (2, .int a1)] rfl (Nat.le_of_ble_eq_true rfl) (fun X O => ?_)
  unfold f_X8_joined at e
  refine v_aload_n O dX8_joined_0 0 rfl rfl ?_
  refine v_get O fd_X8_joined_167 (g41 h41 (by decide)) (cg_25 G _) rfl dX8_joined_1 ?_
  refine v_iload_n O dX8_joined_4 2 rfl rfl ?_
  refine v_cSi O [.int (h.1 25 2), .int a1] [] gX8_joined_X8_has cw_X8_joined_X8_has rfl rfl (Nat.le_of_ble_eq_true rfl) dX8_joined_5 e (fun _ e9 => f_X8_has_ok e9) (fun r1 h2 e => ?_)
  refine v_if_eq O dX8_joined_8 15 (by decide) e (fun e => ?_) (fun e => ?_)
  · refine v_aload_n O dX8_joined_15 0 rfl rfl ?_
    refine v_iload_n O dX8_joined_16 1 rfl rfl ?_
    refine v_iload_n O dX8_joined_17 2 rfl rfl ?_
    refine v_iconst (v := 0) O dX8_joined_18 (by decide) ?_
    refine v_cVi O [.int a0, .int a1, .int 0] [] gX8_joined_X8_reachOf cw_X8_joined_X8_reachOf rfl rfl (g41 h41 (by decide)) (cg_25 G _) rfl rfl (Nat.le_of_ble_eq_true rfl) dX8_joined_19 e (fun _ e9 => f_X8_reachOf_ok h41 e9) (fun r3 h4 e => ?_)
    refine v_sub [] rfl ?_
    exact f_X8_joined_b22_ok h41 O N _ _ e
  · refine v_iconst (v := 0) O dX8_joined_11 (by decide) ?_
    refine v_goto O dX8_joined_12 22 (by decide) ?_
    refine v_sub [] rfl ?_
    exact f_X8_joined_b22_ok h41 O N _ _ e
/-! ===== X8 net ===== -/
abbrev rm_X8_net : Room := { frames := 5, cells := 0, slots := 0, locals := 126 }
theorem cw_X8_net_X8_in : CwO rm_X8_net yX8_in wsX8_in cX8_in 3 (some .boolean) rm_X8_in 3 := ⟨⟨_, rfl⟩, rfl, rfl, by decide +kernel, by decide, by decide⟩
theorem cw_X8_net_X8_isSquare : CwO rm_X8_net yX8_isSquare wsX8_isSquare cX8_isSquare 2 (some .boolean) rm_X8_isSquare 1 := ⟨⟨_, rfl⟩, rfl, rfl, by decide +kernel, by decide, by decide⟩
theorem cw_X8_net_X8_joined : CwO rm_X8_net yX8_joined wsX8_joined cX8_joined 3 (some .int) rm_X8_joined 2 := ⟨⟨_, rfl⟩, rfl, rfl, by decide +kernel, by decide, by decide⟩
set_option maxRecDepth 20000 in
theorem f_X8_net_b31_ok {X : Cx} {G : Gx} {z : Rs} (h41 : 41 ≤ gN G) (O : Ok X G cX8_net RX8 3 wsX8_net (some .int) rm_X8_net) (N : Nat) (s0 : Int32) (h : Hp) (e : f_X8_net_b31 N s0 h = some z) : V X G 3 (QI X G z) h 31 [] [.int s0] := by
  unfold f_X8_net_b31 at e
  exact v_iret O dX8_net_31 e
set_option maxRecDepth 20000 in
theorem f_X8_net_ok {l : Launch} {G : Gx} {N : Nat} (h41 : 41 ≤ gN G) {a0 : Int32} {a1 : Int32} {h : Hp} {z : Rs} (e : f_X8_net N a0 a1 h = some z) : CI l G yX8_net wsX8_net rm_X8_net [.ref (G.1 25), .int a0, .int a1] h z := by
  refine m_int _ (by decide) rfl [(0, .ref (G.1 25)), (1, .int a0), (2, .int a1)] rfl (Nat.le_of_ble_eq_true rfl) (fun X O => ?_)
  unfold f_X8_net at e
  refine v_aload_n O dX8_net_0 0 rfl rfl ?_
  refine v_iload_n O dX8_net_1 2 rfl rfl ?_
  refine v_cVi O [.int a1] [] gX8_net_X8_isSquare cw_X8_net_X8_isSquare rfl rfl (g41 h41 (by decide)) (cg_25 G _) rfl rfl (Nat.le_of_ble_eq_true rfl) dX8_net_2 e (fun _ e9 => f_X8_isSquare_ok h41 e9) (fun r1 h2 e => ?_)
  refine v_if_ne O dX8_net_5 11 (by decide) e (fun e => ?_) (fun e => ?_)
  · refine v_iload_n O dX8_net_11 1 rfl rfl ?_
    refine v_iconst (v := 0) O dX8_net_12 (by decide) ?_
    refine v_iconst (v := 3) O dX8_net_13 (by decide) ?_
    refine v_cSi O [.int a0, .int 0, .int 3] [] gX8_net_X8_in cw_X8_net_X8_in rfl rfl (Nat.le_of_ble_eq_true rfl) dX8_net_14 e (fun _ e9 => f_X8_in_ok e9) (fun r3 h4 e => ?_)
    refine v_if_eq O dX8_net_17 29 (by decide) e (fun e => ?_) (fun e => ?_)
    · refine v_bipush (v := (-3)) O dX8_net_29 (by decide) ?_
      refine v_sub [] rfl ?_
      exact f_X8_net_b31_ok h41 O N _ _ e
    · refine v_aload_n O dX8_net_20 0 rfl rfl ?_
      refine v_iload_n O dX8_net_21 1 rfl rfl ?_
      refine v_iload_n O dX8_net_22 2 rfl rfl ?_
      refine v_cVi O [.int a0, .int a1] [] gX8_net_X8_joined cw_X8_net_X8_joined rfl rfl (g41 h41 (by decide)) (cg_25 G _) rfl rfl (Nat.le_of_ble_eq_true rfl) dX8_net_23 e (fun _ e9 => f_X8_joined_ok h41 e9) (fun r5 h6 e => ?_)
      refine v_goto O dX8_net_26 31 (by decide) ?_
      refine v_sub [] rfl ?_
      exact f_X8_net_b31_ok h41 O N _ _ e
  · refine v_bipush (v := (-2)) O dX8_net_8 (by decide) ?_
    exact v_iret O dX8_net_10 e
/-! ===== X8 partOf ===== -/
abbrev rm_X8_partOf : Room := { frames := 5, cells := 0, slots := 0, locals := 126 }
theorem fd_X8_partOf_7 : FdO wsX8_partOf RX8 7 RX8 TX8 34 8 0 := ⟨by decide +kernel, rfl, by decide, by decide +kernel⟩
theorem fd_X8_partOf_13 : FdO wsX8_partOf RX8 13 RX8 TX8 34 8 1 := ⟨by decide +kernel, rfl, by decide, by decide +kernel⟩
theorem fd_X8_partOf_167 : FdO wsX8_partOf RX8 167 RX8 TX8 34 8 2 := ⟨by decide +kernel, rfl, by decide, by decide +kernel⟩
theorem cw_X8_partOf_X8_has : CwO rm_X8_partOf yX8_has wsX8_has cX8_has 2 (some .boolean) rm_X8_has 2 := ⟨⟨_, rfl⟩, rfl, rfl, by decide +kernel, by decide, by decide⟩
theorem cw_X8_partOf_X8_joined : CwO rm_X8_partOf yX8_joined wsX8_joined cX8_joined 3 (some .int) rm_X8_joined 2 := ⟨⟨_, rfl⟩, rfl, rfl, by decide +kernel, by decide, by decide⟩
set_option maxRecDepth 20000 in
theorem f_X8_partOf_b67_ok {X : Cx} {G : Gx} {z : Rs} (h41 : 41 ≤ gN G) (O : Ok X G cX8_partOf RX8 6 wsX8_partOf (some .int) rm_X8_partOf) (N : Nat) (k22 : Int32 → Int32 → Int32 → Hp → Option Rs) (k32 : Int32 → Int32 → Int32 → Int32 → Hp → Option Rs) (hk22 : ∀ (v1 : Int32) (v3 : Int32) (v4 : Int32) (h : Hp), k22 v1 v3 v4 h = some z → V X G 6 (QI X G z) h 22 [(0, .ref (G.1 25)), (1, .int v1), (3, .int v3), (4, .int v4)] []) (hk32 : ∀ (v1 : Int32) (v3 : Int32) (v4 : Int32) (v5 : Int32) (h : Hp), k32 v1 v3 v4 v5 h = some z → V X G 6 (QI X G z) h 32 [(0, .ref (G.1 25)), (1, .int v1), (3, .int v3), (4, .int v4), (5, .int v5)] []) (v1 : Int32) (v4 : Int32) (v5 : Int32) (s0 : Int32) (s1 : Int32) (h : Hp) (e : f_X8_partOf_b67 N k22 k32 v1 v4 v5 s0 s1 h = some z) : V X G 6 (QI X G z) h 67 [(0, .ref (G.1 25)), (1, .int v1), (4, .int v4), (5, .int v5)] [.int s0, .int s1] := by
  unfold f_X8_partOf_b67 at e
  refine v_ior O dX8_partOf_67 ?_
  refine v_istore_n O dX8_partOf_68 rfl (by decide) (fun x1 => [(3, .int x1), (0, .ref (G.1 25)), (1, .int v1), (4, .int v4), (5, .int v5)]) (fun _ => rfl) e (fun x1 e => ?_)
  refine v_iinc (v := 1) O dX8_partOf_69 4 rfl (by decide) (by decide) (fun x2 => [(5, .int x2), (3, .int x1), (0, .ref (G.1 25)), (1, .int v1), (4, .int v4)]) (fun _ => rfl) e (fun x2 e => ?_)
  refine v_goto O dX8_partOf_72 32 (by decide) ?_
  refine v_sub [2, 3, 1, 4, 0] rfl ?_
  exact hk32 _ _ _ _ _ e
set_option maxRecDepth 20000 in
theorem f_X8_partOf_b32_ok {X : Cx} {G : Gx} {z : Rs} (h41 : 41 ≤ gN G) (O : Ok X G cX8_partOf RX8 6 wsX8_partOf (some .int) rm_X8_partOf) (N : Nat) (k22 : Int32 → Int32 → Int32 → Hp → Option Rs) (k32 : Int32 → Int32 → Int32 → Int32 → Hp → Option Rs) (hk22 : ∀ (v1 : Int32) (v3 : Int32) (v4 : Int32) (h : Hp), k22 v1 v3 v4 h = some z → V X G 6 (QI X G z) h 22 [(0, .ref (G.1 25)), (1, .int v1), (3, .int v3), (4, .int v4)] []) (hk32 : ∀ (v1 : Int32) (v3 : Int32) (v4 : Int32) (v5 : Int32) (h : Hp), k32 v1 v3 v4 v5 h = some z → V X G 6 (QI X G z) h 32 [(0, .ref (G.1 25)), (1, .int v1), (3, .int v3), (4, .int v4), (5, .int v5)] []) (v1 : Int32) (v3 : Int32) (v4 : Int32) (v5 : Int32) (h : Hp) (e : f_X8_partOf_b32 N k22 k32 v1 v3 v4 v5 h = some z) : V X G 6 (QI X G z) h 32 [(0, .ref (G.1 25)), (1, .int v1), (3, .int v3), (4, .int v4), (5, .int v5)] [] := by
  unfold f_X8_partOf_b32 at e
  refine v_iload O dX8_partOf_32 4 rfl ?_
  refine v_aload_n O dX8_partOf_34 0 rfl rfl ?_
  refine v_get O fd_X8_partOf_7 (g41 h41 (by decide)) (cg_25 G _) rfl dX8_partOf_35 ?_
  refine v_aload_n O dX8_partOf_38 0 rfl rfl ?_
  refine v_get O fd_X8_partOf_13 (g41 h41 (by decide)) (cg_25 G _) rfl dX8_partOf_39 ?_
  refine v_imul O dX8_partOf_42 ?_
  refine v_icmp_ge O dX8_partOf_43 75 (by decide) e (fun e => ?_) (fun e => ?_)
  · refine v_iinc (v := 1) O dX8_partOf_75 3 rfl (by decide) (by decide) (fun x1 => [(4, .int x1), (0, .ref (G.1 25)), (1, .int v1), (3, .int v3), (5, .int v5)]) (fun _ => rfl) e (fun x1 e => ?_)
    refine v_goto O dX8_partOf_78 22 (by decide) ?_
    refine v_sub [1, 2, 3, 0] rfl ?_
    exact hk22 _ _ _ _ e
  · refine v_iload_n O dX8_partOf_46 2 rfl rfl ?_
    refine v_iload_n O dX8_partOf_47 2 rfl rfl ?_
    refine v_iload O dX8_partOf_48 4 rfl ?_
    refine v_cSi O [.int v3, .int v5] [.int v3] gX8_partOf_X8_has cw_X8_partOf_X8_has rfl rfl (Nat.le_of_ble_eq_true rfl) dX8_partOf_50 e (fun _ e9 => f_X8_has_ok e9) (fun r2 h3 e => ?_)
    refine v_if_eq O dX8_partOf_53 66 (by decide) e (fun e => ?_) (fun e => ?_)
    · refine v_iconst (v := 0) O dX8_partOf_66 (by decide) ?_
      refine v_sub [0, 1, 3, 4] rfl ?_
      exact f_X8_partOf_b67_ok h41 O N k22 k32 hk22 hk32 _ _ _ _ _ _ e
    · refine v_aload_n O dX8_partOf_56 0 rfl rfl ?_
      refine v_iload_n O dX8_partOf_57 1 rfl rfl ?_
      refine v_iload O dX8_partOf_58 4 rfl ?_
      refine v_cVi O [.int v1, .int v5] [.int v3] gX8_partOf_X8_joined cw_X8_partOf_X8_joined rfl rfl (g41 h41 (by decide)) (cg_25 G _) rfl rfl (Nat.le_of_ble_eq_true rfl) dX8_partOf_60 e (fun _ e9 => f_X8_joined_ok h41 e9) (fun r4 h5 e => ?_)
      refine v_goto O dX8_partOf_63 67 (by decide) ?_
      refine v_sub [0, 1, 3, 4] rfl ?_
      exact f_X8_partOf_b67_ok h41 O N k22 k32 hk22 hk32 _ _ _ _ _ _ e
theorem f_X8_partOf_l32_ok {X : Cx} {G : Gx} {z : Rs} (h41 : 41 ≤ gN G) (O : Ok X G cX8_partOf RX8 6 wsX8_partOf (some .int) rm_X8_partOf) (N : Nat) (k22 : Int32 → Int32 → Int32 → Hp → Option Rs) (hk22 : ∀ (v1 : Int32) (v3 : Int32) (v4 : Int32) (h : Hp), k22 v1 v3 v4 h = some z → V X G 6 (QI X G z) h 22 [(0, .ref (G.1 25)), (1, .int v1), (3, .int v3), (4, .int v4)] []) : ∀ (n : Nat) (v1 : Int32) (v3 : Int32) (v4 : Int32) (v5 : Int32) (h : Hp), f_X8_partOf_l32 N k22 n v1 v3 v4 v5 h = some z → V X G 6 (QI X G z) h 32 [(0, .ref (G.1 25)), (1, .int v1), (3, .int v3), (4, .int v4), (5, .int v5)] [] := by
  intro n
  induction n with
  | zero => intro v1 v3 v4 v5 h e; cases e
  | succ n ih => intro v1 v3 v4 v5 h e; exact f_X8_partOf_b32_ok h41 O N k22 _ hk22 ih v1 v3 v4 v5 h e
set_option maxRecDepth 20000 in
theorem f_X8_partOf_b22_ok {X : Cx} {G : Gx} {z : Rs} (h41 : 41 ≤ gN G) (O : Ok X G cX8_partOf RX8 6 wsX8_partOf (some .int) rm_X8_partOf) (N : Nat) (k22 : Int32 → Int32 → Int32 → Hp → Option Rs) (hk22 : ∀ (v1 : Int32) (v3 : Int32) (v4 : Int32) (h : Hp), k22 v1 v3 v4 h = some z → V X G 6 (QI X G z) h 22 [(0, .ref (G.1 25)), (1, .int v1), (3, .int v3), (4, .int v4)] []) (v1 : Int32) (v3 : Int32) (v4 : Int32) (h : Hp) (e : f_X8_partOf_b22 N k22 v1 v3 v4 h = some z) : V X G 6 (QI X G z) h 22 [(0, .ref (G.1 25)), (1, .int v1), (3, .int v3), (4, .int v4)] [] := by
  unfold f_X8_partOf_b22 at e
  refine v_iload O dX8_partOf_22 3 rfl ?_
  refine v_bipush (v := 12) O dX8_partOf_24 (by decide) ?_
  refine v_icmp_ge O dX8_partOf_26 81 (by decide) e (fun e => ?_) (fun e => ?_)
  · refine v_iload_n O dX8_partOf_81 2 rfl rfl ?_
    exact v_iret O dX8_partOf_82 e
  · refine v_iconst (v := 0) O dX8_partOf_29 (by decide) ?_
    refine v_istore O dX8_partOf_30 (by decide) (fun x1 => [(5, .int x1), (0, .ref (G.1 25)), (1, .int v1), (3, .int v3), (4, .int v4)]) (fun _ => rfl) e (fun x1 e => ?_)
    refine v_sub [1, 2, 3, 4, 0] rfl ?_
    exact f_X8_partOf_l32_ok h41 O N k22 hk22 N _ _ _ _ _ e
theorem f_X8_partOf_l22_ok {X : Cx} {G : Gx} {z : Rs} (h41 : 41 ≤ gN G) (O : Ok X G cX8_partOf RX8 6 wsX8_partOf (some .int) rm_X8_partOf) (N : Nat) : ∀ (n : Nat) (v1 : Int32) (v3 : Int32) (v4 : Int32) (h : Hp), f_X8_partOf_l22 N n v1 v3 v4 h = some z → V X G 6 (QI X G z) h 22 [(0, .ref (G.1 25)), (1, .int v1), (3, .int v3), (4, .int v4)] [] := by
  intro n
  induction n with
  | zero => intro v1 v3 v4 h e; cases e
  | succ n ih => intro v1 v3 v4 h e; exact f_X8_partOf_b22_ok h41 O N _ ih v1 v3 v4 h e
set_option maxRecDepth 20000 in
theorem f_X8_partOf_b18_ok {X : Cx} {G : Gx} {z : Rs} (h41 : 41 ≤ gN G) (O : Ok X G cX8_partOf RX8 6 wsX8_partOf (some .int) rm_X8_partOf) (N : Nat) (v1 : Int32) (s0 : Int32) (h : Hp) (e : f_X8_partOf_b18 N v1 s0 h = some z) : V X G 6 (QI X G z) h 18 [(0, .ref (G.1 25)), (1, .int v1)] [.int s0] := by
  unfold f_X8_partOf_b18 at e
  refine v_istore_n O dX8_partOf_18 rfl (by decide) (fun x1 => [(3, .int x1), (0, .ref (G.1 25)), (1, .int v1)]) (fun _ => rfl) e (fun x1 e => ?_)
  refine v_iconst (v := 0) O dX8_partOf_19 (by decide) ?_
  refine v_istore O dX8_partOf_20 (by decide) (fun x2 => [(4, .int x2), (3, .int x1), (0, .ref (G.1 25)), (1, .int v1)]) (fun _ => rfl) e (fun x2 e => ?_)
  refine v_sub [2, 3, 1, 0] rfl ?_
  exact f_X8_partOf_l22_ok h41 O N N _ _ _ _ e
set_option maxRecDepth 20000 in
theorem f_X8_partOf_ok {l : Launch} {G : Gx} {N : Nat} (h41 : 41 ≤ gN G) {a0 : Int32} {a1 : Int32} {h : Hp} {z : Rs} (e : f_X8_partOf N a0 a1 h = some z) : CI l G yX8_partOf wsX8_partOf rm_X8_partOf [.ref (G.1 25), .int a0, .int a1] h z := by
  refine m_int _ (by decide) rfl [(0, .ref (G.1 25)), (1, .int a0), (2, .int a1)] rfl (Nat.le_of_ble_eq_true rfl) (fun X O => ?_)
  unfold f_X8_partOf at e
  refine v_aload_n O dX8_partOf_0 0 rfl rfl ?_
  refine v_get O fd_X8_partOf_167 (g41 h41 (by decide)) (cg_25 G _) rfl dX8_partOf_1 ?_
  refine v_iload_n O dX8_partOf_4 2 rfl rfl ?_
  refine v_cSi O [.int (h.1 25 2), .int a1] [] gX8_partOf_X8_has cw_X8_partOf_X8_has rfl rfl (Nat.le_of_ble_eq_true rfl) dX8_partOf_5 e (fun _ e9 => f_X8_has_ok e9) (fun r1 h2 e => ?_)
  refine v_if_eq O dX8_partOf_8 15 (by decide) e (fun e => ?_) (fun e => ?_)
  · refine v_iconst (v := 1) O dX8_partOf_15 (by decide) ?_
    refine v_iload_n O dX8_partOf_16 2 rfl rfl ?_
    refine v_ishl O dX8_partOf_17 ?_
    refine v_sub [0, 1] rfl ?_
    exact f_X8_partOf_b18_ok h41 O N _ _ _ e
  · refine v_iconst (v := 0) O dX8_partOf_11 (by decide) ?_
    refine v_goto O dX8_partOf_12 18 (by decide) ?_
    refine v_sub [0, 1] rfl ?_
    exact f_X8_partOf_b18_ok h41 O N _ _ _ e
/-! ===== X8 part ===== -/
abbrev rm_X8_part : Room := { frames := 6, cells := 0, slots := 0, locals := 151 }
theorem cw_X8_part_X8_in : CwO rm_X8_part yX8_in wsX8_in cX8_in 3 (some .boolean) rm_X8_in 3 := ⟨⟨_, rfl⟩, rfl, rfl, by decide +kernel, by decide, by decide⟩
theorem cw_X8_part_X8_isSquare : CwO rm_X8_part yX8_isSquare wsX8_isSquare cX8_isSquare 2 (some .boolean) rm_X8_isSquare 1 := ⟨⟨_, rfl⟩, rfl, rfl, by decide +kernel, by decide, by decide⟩
theorem cw_X8_part_X8_partOf : CwO rm_X8_part yX8_partOf wsX8_partOf cX8_partOf 6 (some .int) rm_X8_partOf 2 := ⟨⟨_, rfl⟩, rfl, rfl, by decide +kernel, by decide, by decide⟩
set_option maxRecDepth 20000 in
theorem f_X8_part_b31_ok {X : Cx} {G : Gx} {z : Rs} (h41 : 41 ≤ gN G) (O : Ok X G cX8_part RX8 3 wsX8_part (some .int) rm_X8_part) (N : Nat) (s0 : Int32) (h : Hp) (e : f_X8_part_b31 N s0 h = some z) : V X G 3 (QI X G z) h 31 [] [.int s0] := by
  unfold f_X8_part_b31 at e
  exact v_iret O dX8_part_31 e
set_option maxRecDepth 20000 in
theorem f_X8_part_ok {l : Launch} {G : Gx} {N : Nat} (h41 : 41 ≤ gN G) {a0 : Int32} {a1 : Int32} {h : Hp} {z : Rs} (e : f_X8_part N a0 a1 h = some z) : CI l G yX8_part wsX8_part rm_X8_part [.ref (G.1 25), .int a0, .int a1] h z := by
  refine m_int _ (by decide) rfl [(0, .ref (G.1 25)), (1, .int a0), (2, .int a1)] rfl (Nat.le_of_ble_eq_true rfl) (fun X O => ?_)
  unfold f_X8_part at e
  refine v_aload_n O dX8_part_0 0 rfl rfl ?_
  refine v_iload_n O dX8_part_1 2 rfl rfl ?_
  refine v_cVi O [.int a1] [] gX8_part_X8_isSquare cw_X8_part_X8_isSquare rfl rfl (g41 h41 (by decide)) (cg_25 G _) rfl rfl (Nat.le_of_ble_eq_true rfl) dX8_part_2 e (fun _ e9 => f_X8_isSquare_ok h41 e9) (fun r1 h2 e => ?_)
  refine v_if_ne O dX8_part_5 11 (by decide) e (fun e => ?_) (fun e => ?_)
  · refine v_iload_n O dX8_part_11 1 rfl rfl ?_
    refine v_iconst (v := 0) O dX8_part_12 (by decide) ?_
    refine v_iconst (v := 3) O dX8_part_13 (by decide) ?_
    refine v_cSi O [.int a0, .int 0, .int 3] [] gX8_part_X8_in cw_X8_part_X8_in rfl rfl (Nat.le_of_ble_eq_true rfl) dX8_part_14 e (fun _ e9 => f_X8_in_ok e9) (fun r3 h4 e => ?_)
    refine v_if_eq O dX8_part_17 29 (by decide) e (fun e => ?_) (fun e => ?_)
    · refine v_bipush (v := (-3)) O dX8_part_29 (by decide) ?_
      refine v_sub [] rfl ?_
      exact f_X8_part_b31_ok h41 O N _ _ e
    · refine v_aload_n O dX8_part_20 0 rfl rfl ?_
      refine v_iload_n O dX8_part_21 1 rfl rfl ?_
      refine v_iload_n O dX8_part_22 2 rfl rfl ?_
      refine v_cVi O [.int a0, .int a1] [] gX8_part_X8_partOf cw_X8_part_X8_partOf rfl rfl (g41 h41 (by decide)) (cg_25 G _) rfl rfl (Nat.le_of_ble_eq_true rfl) dX8_part_23 e (fun _ e9 => f_X8_partOf_ok h41 e9) (fun r5 h6 e => ?_)
      refine v_goto O dX8_part_26 31 (by decide) ?_
      refine v_sub [] rfl ?_
      exact f_X8_part_b31_ok h41 O N _ _ e
  · refine v_bipush (v := (-2)) O dX8_part_8 (by decide) ?_
    exact v_iret O dX8_part_10 e
/-! ===== X8 lowest ===== -/
abbrev rm_X8_lowest : Room := { frames := 1, cells := 0, slots := 0, locals := 21 }
theorem cw_X8_lowest_X8_has : CwO rm_X8_lowest yX8_has wsX8_has cX8_has 2 (some .boolean) rm_X8_has 2 := ⟨⟨_, rfl⟩, rfl, rfl, by decide +kernel, by decide, by decide⟩
set_option maxRecDepth 20000 in
theorem f_X8_lowest_b2_ok {X : Cx} {G : Gx} {z : Rs} (O : Ok X G cX8_lowest RX8 2 wsX8_lowest (some .int) rm_X8_lowest) (N : Nat) (k2 : Int32 → Int32 → Hp → Option Rs) (hk2 : ∀ (v0 : Int32) (v1 : Int32) (h : Hp), k2 v0 v1 h = some z → V X G 2 (QI X G z) h 2 [(0, .int v0), (1, .int v1)] []) (v0 : Int32) (v1 : Int32) (h : Hp) (e : f_X8_lowest_b2 N k2 v0 v1 h = some z) : V X G 2 (QI X G z) h 2 [(0, .int v0), (1, .int v1)] [] := by
  unfold f_X8_lowest_b2 at e
  refine v_iload_n O dX8_lowest_2 0 rfl rfl ?_
  refine v_iload_n O dX8_lowest_3 1 rfl rfl ?_
  refine v_cSi O [.int v0, .int v1] [] gX8_lowest_X8_has cw_X8_lowest_X8_has rfl rfl (Nat.le_of_ble_eq_true rfl) dX8_lowest_4 e (fun _ e9 => f_X8_has_ok e9) (fun r1 h2 e => ?_)
  refine v_if_ne O dX8_lowest_7 16 (by decide) e (fun e => ?_) (fun e => ?_)
  · refine v_iload_n O dX8_lowest_16 1 rfl rfl ?_
    exact v_iret O dX8_lowest_17 e
  · refine v_iinc (v := 1) O dX8_lowest_10 1 rfl (by decide) (by decide) (fun x3 => [(1, .int x3), (0, .int v0)]) (fun _ => rfl) e (fun x3 e => ?_)
    refine v_goto O dX8_lowest_13 2 (by decide) ?_
    refine v_sub [1, 0] rfl ?_
    exact hk2 _ _ _ e
theorem f_X8_lowest_l2_ok {X : Cx} {G : Gx} {z : Rs} (O : Ok X G cX8_lowest RX8 2 wsX8_lowest (some .int) rm_X8_lowest) (N : Nat) : ∀ (n : Nat) (v0 : Int32) (v1 : Int32) (h : Hp), f_X8_lowest_l2 N n v0 v1 h = some z → V X G 2 (QI X G z) h 2 [(0, .int v0), (1, .int v1)] [] := by
  intro n
  induction n with
  | zero => intro v0 v1 h e; cases e
  | succ n ih => intro v0 v1 h e; exact f_X8_lowest_b2_ok O N _ ih v0 v1 h e
set_option maxRecDepth 20000 in
theorem f_X8_lowest_ok {l : Launch} {G : Gx} {N : Nat} {a0 : Int32} {h : Hp} {z : Rs} (e : f_X8_lowest N a0 h = some z) : CI l G yX8_lowest wsX8_lowest rm_X8_lowest [.int a0] h z := by
  refine m_int _ (by decide) rfl [(0, .int a0)] rfl (Nat.le_of_ble_eq_true rfl) (fun X O => ?_)
  unfold f_X8_lowest at e
  refine v_iconst (v := 0) O dX8_lowest_0 (by decide) ?_
  refine v_istore_n O dX8_lowest_1 rfl (by decide) (fun x1 => [(1, .int x1), (0, .int a0)]) (fun _ => rfl) e (fun x1 e => ?_)
  refine v_sub [1, 0] rfl ?_
  exact f_X8_lowest_l2_ok O N N _ _ _ e
/-! ===== X8 layRing ===== -/
abbrev rm_X8_layRing : Room := { frames := 5, cells := 0, slots := 0, locals := 126 }
theorem fd_X8_layRing_61 : FdO wsX8_layRing RX8 61 RX8 TX8 34 8 33 := ⟨by decide +kernel, rfl, by decide, by decide +kernel⟩
theorem cw_X8_layRing_X8_joined : CwO rm_X8_layRing yX8_joined wsX8_joined cX8_joined 3 (some .int) rm_X8_joined 2 := ⟨⟨_, rfl⟩, rfl, rfl, by decide +kernel, by decide, by decide⟩
theorem cw_X8_layRing_X8_lowest : CwO rm_X8_layRing yX8_lowest wsX8_lowest cX8_lowest 2 (some .int) rm_X8_lowest 1 := ⟨⟨_, rfl⟩, rfl, rfl, by decide +kernel, by decide, by decide⟩
set_option maxRecDepth 20000 in
theorem f_X8_layRing_b20_ok {X : Cx} {G : Gx} {z : Rs} (h41 : 41 ≤ gN G) (O : Ok X G cX8_layRing RX8 5 wsX8_layRing (some .int) rm_X8_layRing) (N : Nat) (k20 : Int32 → Int32 → Int32 → Int32 → Hp → Option Rs) (hk20 : ∀ (v1 : Int32) (v2 : Int32) (v3 : Int32) (v4 : Int32) (h : Hp), k20 v1 v2 v3 v4 h = some z → V X G 5 (QI X G z) h 20 [(0, .ref (G.1 25)), (1, .int v1), (2, .int v2), (3, .int v3), (4, .int v4)] []) (v1 : Int32) (v2 : Int32) (v3 : Int32) (v4 : Int32) (h : Hp) (e : f_X8_layRing_b20 N k20 v1 v2 v3 v4 h = some z) : V X G 5 (QI X G z) h 20 [(0, .ref (G.1 25)), (1, .int v1), (2, .int v2), (3, .int v3), (4, .int v4)] [] := by
  unfold f_X8_layRing_b20 at e
  refine v_iload O dX8_layRing_20 4 rfl ?_
  refine v_iload_n O dX8_layRing_22 2 rfl rfl ?_
  refine v_icmp_eq O dX8_layRing_23 65 (by decide) e (fun e => ?_) (fun e => ?_)
  · refine v_iload_n O dX8_layRing_65 3 rfl rfl ?_
    exact v_iret O dX8_layRing_66 e
  · refine v_aload_n O dX8_layRing_26 0 rfl rfl ?_
    refine v_get O fd_X8_layRing_61 (g41 h41 (by decide)) (cg_25 G _) rfl dX8_layRing_27 ?_
    refine v_iload_n O dX8_layRing_30 3 rfl rfl ?_
    refine v_iload O dX8_layRing_31 4 rfl ?_
    refine v_iast O (g41 h41 (by decide)) (cg_40 G _) (cw_40 G _ _ _) dX8_layRing_33 e (fun h1 e => ?_)
    refine v_iinc (v := 1) O dX8_layRing_34 3 rfl (by decide) (by decide) (fun x2 => [(3, .int x2), (0, .ref (G.1 25)), (1, .int v1), (2, .int v2), (4, .int v4)]) (fun _ => rfl) e (fun x2 e => ?_)
    refine v_aload_n O dX8_layRing_37 1 rfl rfl ?_
    refine v_iload_n O dX8_layRing_38 2 rfl rfl ?_
    refine v_iload O dX8_layRing_39 4 rfl ?_
    refine v_cVi O [.int v1, .int v4] [] gX8_layRing_X8_joined cw_X8_layRing_X8_joined rfl rfl (g41 h41 (by decide)) (cg_25 G _) rfl rfl (Nat.le_of_ble_eq_true rfl) dX8_layRing_41 e (fun _ e9 => f_X8_joined_ok h41 e9) (fun r3 h4 e => ?_)
    refine v_iconst (v := 1) O dX8_layRing_44 (by decide) ?_
    refine v_aload_n O dX8_layRing_45 1 rfl rfl ?_
    refine v_get O fd_X8_layRing_61 (g41 h41 (by decide)) (cg_25 G _) rfl dX8_layRing_46 ?_
    refine v_iload_n O dX8_layRing_49 0 rfl rfl ?_
    refine v_iconst (v := 2) O dX8_layRing_50 (by decide) ?_
    refine v_isub O dX8_layRing_51 ?_
    refine v_iald O (g41 h41 (by decide)) (cg_40 G _) dX8_layRing_52 e (fun e => ?_)
    refine v_ishl O dX8_layRing_53 ?_
    refine v_iconst (v := (-1)) O dX8_layRing_54 (by decide) ?_
    refine v_ixor O dX8_layRing_55 ?_
    refine v_iand O dX8_layRing_56 ?_
    refine v_cSi O [.int (r3 &&& (((1 : Int32) <<< ((h4.1 40 (ix (x2 - 2))) &&& 31)) ^^^ (-1)))] [] gX8_layRing_X8_lowest cw_X8_layRing_X8_lowest rfl rfl (Nat.le_of_ble_eq_true rfl) dX8_layRing_57 e (fun _ e9 => f_X8_lowest_ok e9) (fun r5 h6 e => ?_)
    refine v_istore O dX8_layRing_60 (by decide) (fun x7 => [(4, .int x7), (3, .int x2), (0, .ref (G.1 25)), (1, .int v1), (2, .int v2)]) (fun _ => rfl) e (fun x7 e => ?_)
    refine v_goto O dX8_layRing_62 20 (by decide) ?_
    refine v_sub [2, 3, 4, 1, 0] rfl ?_
    exact hk20 _ _ _ _ _ e
theorem f_X8_layRing_l20_ok {X : Cx} {G : Gx} {z : Rs} (h41 : 41 ≤ gN G) (O : Ok X G cX8_layRing RX8 5 wsX8_layRing (some .int) rm_X8_layRing) (N : Nat) : ∀ (n : Nat) (v1 : Int32) (v2 : Int32) (v3 : Int32) (v4 : Int32) (h : Hp), f_X8_layRing_l20 N n v1 v2 v3 v4 h = some z → V X G 5 (QI X G z) h 20 [(0, .ref (G.1 25)), (1, .int v1), (2, .int v2), (3, .int v3), (4, .int v4)] [] := by
  intro n
  induction n with
  | zero => intro v1 v2 v3 v4 h e; cases e
  | succ n ih => intro v1 v2 v3 v4 h e; exact f_X8_layRing_b20_ok h41 O N _ ih v1 v2 v3 v4 h e
set_option maxRecDepth 20000 in
theorem f_X8_layRing_ok {l : Launch} {G : Gx} {N : Nat} (h41 : 41 ≤ gN G) {a0 : Int32} {a1 : Int32} {h : Hp} {z : Rs} (e : f_X8_layRing N a0 a1 h = some z) : CI l G yX8_layRing wsX8_layRing rm_X8_layRing [.ref (G.1 25), .int a0, .int a1] h z := by
  refine m_int _ (by decide) rfl [(0, .ref (G.1 25)), (1, .int a0), (2, .int a1)] rfl (Nat.le_of_ble_eq_true rfl) (fun X O => ?_)
  unfold f_X8_layRing at e
  refine v_iconst (v := 1) O dX8_layRing_0 (by decide) ?_
  refine v_istore_n O dX8_layRing_1 rfl (by decide) (fun x1 => [(3, .int x1), (0, .ref (G.1 25)), (1, .int a0), (2, .int a1)]) (fun _ => rfl) e (fun x1 e => ?_)
  refine v_aload_n O dX8_layRing_2 1 rfl rfl ?_
  refine v_get O fd_X8_layRing_61 (g41 h41 (by decide)) (cg_25 G _) rfl dX8_layRing_3 ?_
  refine v_iconst (v := 0) O dX8_layRing_6 (by decide) ?_
  refine v_iload_n O dX8_layRing_7 3 rfl rfl ?_
  refine v_iast O (g41 h41 (by decide)) (cg_40 G _) (cw_40 G _ _ _) dX8_layRing_8 e (fun h2 e => ?_)
  refine v_aload_n O dX8_layRing_9 1 rfl rfl ?_
  refine v_iload_n O dX8_layRing_10 2 rfl rfl ?_
  refine v_iload_n O dX8_layRing_11 3 rfl rfl ?_
  refine v_cVi O [.int a0, .int a1] [] gX8_layRing_X8_joined cw_X8_layRing_X8_joined rfl rfl (g41 h41 (by decide)) (cg_25 G _) rfl rfl (Nat.le_of_ble_eq_true rfl) dX8_layRing_12 e (fun _ e9 => f_X8_joined_ok h41 e9) (fun r3 h4 e => ?_)
  refine v_cSi O [.int r3] [] gX8_layRing_X8_lowest cw_X8_layRing_X8_lowest rfl rfl (Nat.le_of_ble_eq_true rfl) dX8_layRing_15 e (fun _ e9 => f_X8_lowest_ok e9) (fun r5 h6 e => ?_)
  refine v_istore O dX8_layRing_18 (by decide) (fun x7 => [(4, .int x7), (3, .int x1), (0, .ref (G.1 25)), (1, .int a0), (2, .int a1)]) (fun _ => rfl) e (fun x7 e => ?_)
  refine v_sub [2, 3, 4, 1, 0] rfl ?_
  exact f_X8_layRing_l20_ok h41 O N N _ _ _ _ _ e
/-! ===== X8 bits ===== -/
abbrev rm_X8_bits : Room := { frames := 0, cells := 0, slots := 0, locals := 0 }
set_option maxRecDepth 20000 in
theorem f_X8_bits_b4_ok {X : Cx} {G : Gx} {z : Rs} (O : Ok X G cX8_bits RX8 3 wsX8_bits (some .int) rm_X8_bits) (N : Nat) (k4 : Int32 → Int32 → Int32 → Hp → Option Rs) (hk4 : ∀ (v0 : Int32) (v1 : Int32) (v2 : Int32) (h : Hp), k4 v0 v1 v2 h = some z → V X G 3 (QI X G z) h 4 [(0, .int v0), (1, .int v1), (2, .int v2)] []) (v0 : Int32) (v1 : Int32) (v2 : Int32) (h : Hp) (e : f_X8_bits_b4 N k4 v0 v1 v2 h = some z) : V X G 3 (QI X G z) h 4 [(0, .int v0), (1, .int v1), (2, .int v2)] [] := by
  unfold f_X8_bits_b4 at e
  refine v_iload_n O dX8_bits_4 2 rfl rfl ?_
  refine v_bipush (v := 12) O dX8_bits_5 (by decide) ?_
  refine v_icmp_ge O dX8_bits_7 24 (by decide) e (fun e => ?_) (fun e => ?_)
  · refine v_iload_n O dX8_bits_24 1 rfl rfl ?_
    exact v_iret O dX8_bits_25 e
  · refine v_iload_n O dX8_bits_10 1 rfl rfl ?_
    refine v_iload_n O dX8_bits_11 0 rfl rfl ?_
    refine v_iload_n O dX8_bits_12 2 rfl rfl ?_
    refine v_ishr O dX8_bits_13 ?_
    refine v_iconst (v := 1) O dX8_bits_14 (by decide) ?_
    refine v_iand O dX8_bits_15 ?_
    refine v_iadd O dX8_bits_16 ?_
    refine v_istore_n O dX8_bits_17 rfl (by decide) (fun x1 => [(1, .int x1), (0, .int v0), (2, .int v2)]) (fun _ => rfl) e (fun x1 e => ?_)
    refine v_iinc (v := 1) O dX8_bits_18 2 rfl (by decide) (by decide) (fun x2 => [(2, .int x2), (1, .int x1), (0, .int v0)]) (fun _ => rfl) e (fun x2 e => ?_)
    refine v_goto O dX8_bits_21 4 (by decide) ?_
    refine v_sub [2, 1, 0] rfl ?_
    exact hk4 _ _ _ _ e
theorem f_X8_bits_l4_ok {X : Cx} {G : Gx} {z : Rs} (O : Ok X G cX8_bits RX8 3 wsX8_bits (some .int) rm_X8_bits) (N : Nat) : ∀ (n : Nat) (v0 : Int32) (v1 : Int32) (v2 : Int32) (h : Hp), f_X8_bits_l4 N n v0 v1 v2 h = some z → V X G 3 (QI X G z) h 4 [(0, .int v0), (1, .int v1), (2, .int v2)] [] := by
  intro n
  induction n with
  | zero => intro v0 v1 v2 h e; cases e
  | succ n ih => intro v0 v1 v2 h e; exact f_X8_bits_b4_ok O N _ ih v0 v1 v2 h e
set_option maxRecDepth 20000 in
theorem f_X8_bits_ok {l : Launch} {G : Gx} {N : Nat} {a0 : Int32} {h : Hp} {z : Rs} (e : f_X8_bits N a0 h = some z) : CI l G yX8_bits wsX8_bits rm_X8_bits [.int a0] h z := by
  refine m_int _ (by decide) rfl [(0, .int a0)] rfl (Nat.le_of_ble_eq_true rfl) (fun X O => ?_)
  unfold f_X8_bits at e
  refine v_iconst (v := 0) O dX8_bits_0 (by decide) ?_
  refine v_istore_n O dX8_bits_1 rfl (by decide) (fun x1 => [(1, .int x1), (0, .int a0)]) (fun _ => rfl) e (fun x1 e => ?_)
  refine v_iconst (v := 0) O dX8_bits_2 (by decide) ?_
  refine v_istore_n O dX8_bits_3 rfl (by decide) (fun x2 => [(2, .int x2), (1, .int x1), (0, .int a0)]) (fun _ => rfl) e (fun x2 e => ?_)
  refine v_sub [2, 1, 0] rfl ?_
  exact f_X8_bits_l4_ok O N N _ _ _ _ e
