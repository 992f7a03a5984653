/-! ===== X4 allHomeAlike ===== -/
abbrev rm_X4_allHomeAlike : Room := { frames := 2, cells := 0, slots := 0, locals := 44 }
theorem fd_X4_allHomeAlike_24 : FdO wsX4_allHomeAlike RX4 24 RX4 TX4 8 4 0 := ⟨by decide +kernel, rfl, by decide, by decide +kernel⟩
theorem fd_X4_allHomeAlike_57 : FdO wsX4_allHomeAlike RX4 57 RX5 TX5 9 5 4 := ⟨by decide +kernel, rfl, by decide, by decide +kernel⟩
theorem fd_X4_allHomeAlike_87 : FdO wsX4_allHomeAlike RX4 87 RX5 TX5 9 5 6 := ⟨by decide +kernel, rfl, by decide, by decide +kernel⟩
theorem fd_X4_allHomeAlike_99 : FdO wsX4_allHomeAlike RX4 99 RX5 TX5 9 5 7 := ⟨by decide +kernel, rfl, by decide, by decide +kernel⟩
theorem fd_X4_allHomeAlike_102 : FdO wsX4_allHomeAlike RX4 102 RX5 TX5 9 5 8 := ⟨by decide +kernel, rfl, by decide, by decide +kernel⟩
theorem cw_X4_allHomeAlike_X5_manOf : CwO rm_X4_allHomeAlike yX5_manOf wsX5_manOf cX5_manOf 4 (some .int) rm_X5_manOf 2 := ⟨⟨_, rfl⟩, rfl, rfl, by decide +kernel, by decide, by decide⟩
theorem cw_X4_allHomeAlike_X7_placeOf : CwO rm_X4_allHomeAlike yX7_placeOf wsX7_placeOf cX7_placeOf 2 (some .int) rm_X7_placeOf 2 := ⟨⟨_, rfl⟩, rfl, rfl, by decide +kernel, by decide, by decide⟩
theorem sn_X4_allHomeAlike_X7_placeOf : Cond.static yX7_placeOf ∈ wsX4_allHomeAlike ∧ Cond.initialized yX7_placeOf.cls ∈ wsX4_allHomeAlike := ⟨by decide +kernel, by decide +kernel⟩
set_option maxRecDepth 20000 in
theorem f_X4_allHomeAlike_b87_ok {X : Cx} {G : Gx} {z : Rs} (O : Ok X G cX4_allHomeAlike RX4 5 wsX4_allHomeAlike (some .boolean) rm_X4_allHomeAlike) (N : Nat) (k2 : Int32 → Int32 → Hp → Option Rs) (hk2 : ∀ (v1 : Int32) (v2 : Int32) (h : Hp), k2 v1 v2 h = some z → V X G 5 (QI X G z) h 2 [(0, .ref (G.1 15)), (1, .int v1), (2, .int v2)] []) (v1 : Int32) (v2 : Int32) (s0 : Int32) (h : Hp) (e : f_X4_allHomeAlike_b87 N k2 v1 v2 s0 h = some z) : V X G 5 (QI X G z) h 87 [(0, .ref (G.1 15)), (1, .int v1), (2, .int v2)] [.int s0] := by
  unfold f_X4_allHomeAlike_b87 at e
  refine v_istore O dX4_allHomeAlike_87 (by decide) (fun x1 => [(4, .int x1), (0, .ref (G.1 15)), (1, .int v1), (2, .int v2)]) (fun _ => rfl) e (fun x1 e => ?_)
  refine v_iload O dX4_allHomeAlike_89 0 rfl ?_
  refine v_if_ne O dX4_allHomeAlike_91 96 (by decide) e (fun e => ?_) (fun e => ?_)
  · refine v_iinc (v := 1) O dX4_allHomeAlike_96 3 rfl (by decide) (by decide) (fun x2 => [(2, .int x2), (4, .int x1), (0, .ref (G.1 15)), (1, .int v1)]) (fun _ => rfl) e (fun x2 e => ?_)
    refine v_goto O dX4_allHomeAlike_99 2 (by decide) ?_
    refine v_sub [2, 3, 0] rfl ?_
    exact hk2 _ _ _ e
  · refine v_iconst (v := 0) O dX4_allHomeAlike_94 (by decide) ?_
    exact v_zret O dX4_allHomeAlike_95 e
set_option maxRecDepth 20000 in
theorem f_X4_allHomeAlike_b86_ok {X : Cx} {G : Gx} {z : Rs} (O : Ok X G cX4_allHomeAlike RX4 5 wsX4_allHomeAlike (some .boolean) rm_X4_allHomeAlike) (N : Nat) (k2 : Int32 → Int32 → Hp → Option Rs) (hk2 : ∀ (v1 : Int32) (v2 : Int32) (h : Hp), k2 v1 v2 h = some z → V X G 5 (QI X G z) h 2 [(0, .ref (G.1 15)), (1, .int v1), (2, .int v2)] []) (v1 : Int32) (v2 : Int32) (h : Hp) (e : f_X4_allHomeAlike_b86 N k2 v1 v2 h = some z) : V X G 5 (QI X G z) h 86 [(0, .ref (G.1 15)), (1, .int v1), (2, .int v2)] [] := by
  unfold f_X4_allHomeAlike_b86 at e
  refine v_iconst (v := 0) O dX4_allHomeAlike_86 (by decide) ?_
  exact f_X4_allHomeAlike_b87_ok O N k2 hk2 _ _ _ _ e
set_option maxRecDepth 20000 in
theorem f_X4_allHomeAlike_b2_ok {X : Cx} {G : Gx} {z : Rs} (O : Ok X G cX4_allHomeAlike RX4 5 wsX4_allHomeAlike (some .boolean) rm_X4_allHomeAlike) (N : Nat) (k2 : Int32 → Int32 → Hp → Option Rs) (hk2 : ∀ (v1 : Int32) (v2 : Int32) (h : Hp), k2 v1 v2 h = some z → V X G 5 (QI X G z) h 2 [(0, .ref (G.1 15)), (1, .int v1), (2, .int v2)] []) (v1 : Int32) (v2 : Int32) (h : Hp) (e : f_X4_allHomeAlike_b2 N k2 v1 v2 h = some z) : V X G 5 (QI X G z) h 2 [(0, .ref (G.1 15)), (1, .int v1), (2, .int v2)] [] := by
  unfold f_X4_allHomeAlike_b2 at e
  refine v_iload_n O dX4_allHomeAlike_2 2 rfl rfl ?_
  refine v_aload_n O dX4_allHomeAlike_3 0 rfl rfl ?_
  refine v_get O fd_X4_allHomeAlike_24 (g25 O (by decide)) (cg_15 G _) rfl dX4_allHomeAlike_4 ?_
  refine v_get O fd_X4_allHomeAlike_57 (g25 O (by decide)) (cg_1 G _) rfl dX4_allHomeAlike_7 ?_
  refine v_icmp_ge O dX4_allHomeAlike_10 102 (by decide) e (fun e => ?_) (fun e => ?_)
  · refine v_iconst (v := 1) O dX4_allHomeAlike_102 (by decide) ?_
    exact v_zret O dX4_allHomeAlike_103 e
  · refine v_aload_n O dX4_allHomeAlike_13 0 rfl rfl ?_
    refine v_get O fd_X4_allHomeAlike_24 (g25 O (by decide)) (cg_15 G _) rfl dX4_allHomeAlike_14 ?_
    refine v_aload_n O dX4_allHomeAlike_17 0 rfl rfl ?_
    refine v_get O fd_X4_allHomeAlike_24 (g25 O (by decide)) (cg_15 G _) rfl dX4_allHomeAlike_18 ?_
    refine v_get O fd_X4_allHomeAlike_87 (g25 O (by decide)) (cg_1 G _) rfl dX4_allHomeAlike_21 ?_
    refine v_iload_n O dX4_allHomeAlike_24 2 rfl rfl ?_
    refine v_iload_n O dX4_allHomeAlike_25 1 rfl rfl ?_
    refine v_cNi O [.int v2, .int v1] [.int (h.1 1 6), .ref (G.1 1)] 9 rfl gX4_allHomeAlike_X7_placeOf_n93 sn_X4_allHomeAlike_X7_placeOf.1 sn_X4_allHomeAlike_X7_placeOf.2 cw_X4_allHomeAlike_X7_placeOf rfl rfl (Nat.le_of_ble_eq_true rfl) dX4_allHomeAlike_26 e (fun _ e9 => f_X7_placeOf_ok e9) (fun r1 h2 e => ?_)
    refine v_cVi O [.int (h.1 1 6), .int r1] [] gX4_allHomeAlike_X5_manOf cw_X4_allHomeAlike_X5_manOf rfl rfl (g25 O (by decide)) (cg_1 G _) rfl rfl (Nat.le_of_ble_eq_true rfl) dX4_allHomeAlike_29 e (fun _ e9 => f_X5_manOf_ok_1 e9) (fun r3 h4 e => ?_)
    refine v_istore_n O dX4_allHomeAlike_32 rfl (by decide) (fun x5 => [(3, .int x5), (0, .ref (G.1 15)), (1, .int v1), (2, .int v2)]) (fun _ => rfl) e (fun x5 e => ?_)
    refine v_iload_n O dX4_allHomeAlike_33 0 rfl rfl ?_
    refine v_iconst (v := (-1)) O dX4_allHomeAlike_34 (by decide) ?_
    refine v_icmp_ne O dX4_allHomeAlike_35 40 (by decide) e (fun e => ?_) (fun e => ?_)
    · refine v_aload_n O dX4_allHomeAlike_40 1 rfl rfl ?_
      refine v_get O fd_X4_allHomeAlike_24 (g25 O (by decide)) (cg_15 G _) rfl dX4_allHomeAlike_41 ?_
      refine v_get O fd_X4_allHomeAlike_99 (g25 O (by decide)) (cg_1 G _) rfl dX4_allHomeAlike_44 ?_
      refine v_iload_n O dX4_allHomeAlike_47 3 rfl rfl ?_
      refine v_iald O (g25 O (by decide)) (cg_2 G _) dX4_allHomeAlike_48 e (fun e => ?_)
      refine v_aload_n O dX4_allHomeAlike_49 1 rfl rfl ?_
      refine v_get O fd_X4_allHomeAlike_24 (g25 O (by decide)) (cg_15 G _) rfl dX4_allHomeAlike_50 ?_
      refine v_get O fd_X4_allHomeAlike_99 (g25 O (by decide)) (cg_1 G _) rfl dX4_allHomeAlike_53 ?_
      refine v_iload_n O dX4_allHomeAlike_56 0 rfl rfl ?_
      refine v_iald O (g25 O (by decide)) (cg_2 G _) dX4_allHomeAlike_57 e (fun e => ?_)
      refine v_icmp_ne O dX4_allHomeAlike_58 86 (by decide) e (fun e => ?_) (fun e => ?_)
      · refine v_sub [1, 2, 3] rfl ?_
        exact f_X4_allHomeAlike_b86_ok O N k2 hk2 _ _ _ e
      · refine v_aload_n O dX4_allHomeAlike_61 1 rfl rfl ?_
        refine v_get O fd_X4_allHomeAlike_24 (g25 O (by decide)) (cg_15 G _) rfl dX4_allHomeAlike_62 ?_
        refine v_get O fd_X4_allHomeAlike_102 (g25 O (by decide)) (cg_1 G _) rfl dX4_allHomeAlike_65 ?_
        refine v_iload_n O dX4_allHomeAlike_68 3 rfl rfl ?_
        refine v_iald O (g25 O (by decide)) (cg_3 G _) dX4_allHomeAlike_69 e (fun e => ?_)
        refine v_aload_n O dX4_allHomeAlike_70 1 rfl rfl ?_
        refine v_get O fd_X4_allHomeAlike_24 (g25 O (by decide)) (cg_15 G _) rfl dX4_allHomeAlike_71 ?_
        refine v_get O fd_X4_allHomeAlike_102 (g25 O (by decide)) (cg_1 G _) rfl dX4_allHomeAlike_74 ?_
        refine v_iload_n O dX4_allHomeAlike_77 0 rfl rfl ?_
        refine v_iald O (g25 O (by decide)) (cg_3 G _) dX4_allHomeAlike_78 e (fun e => ?_)
        refine v_icmp_ne O dX4_allHomeAlike_79 86 (by decide) e (fun e => ?_) (fun e => ?_)
        · refine v_sub [1, 2, 3] rfl ?_
          exact f_X4_allHomeAlike_b86_ok O N k2 hk2 _ _ _ e
        · refine v_iconst (v := 1) O dX4_allHomeAlike_82 (by decide) ?_
          refine v_goto O dX4_allHomeAlike_83 87 (by decide) ?_
          refine v_sub [1, 2, 3] rfl ?_
          exact f_X4_allHomeAlike_b87_ok O N k2 hk2 _ _ _ _ e
    · refine v_iconst (v := 0) O dX4_allHomeAlike_38 (by decide) ?_
      exact v_zret O dX4_allHomeAlike_39 e
theorem f_X4_allHomeAlike_l2_ok {X : Cx} {G : Gx} {z : Rs} (O : Ok X G cX4_allHomeAlike RX4 5 wsX4_allHomeAlike (some .boolean) rm_X4_allHomeAlike) (N : Nat) : ∀ (n : Nat) (v1 : Int32) (v2 : Int32) (h : Hp), f_X4_allHomeAlike_l2 N n v1 v2 h = some z → V X G 5 (QI X G z) h 2 [(0, .ref (G.1 15)), (1, .int v1), (2, .int v2)] [] := by
  intro n
  induction n with
  | zero => intro v1 v2 h e; cases e
  | succ n ih => intro v1 v2 h e; exact f_X4_allHomeAlike_b2_ok O N _ ih v1 v2 h e
set_option maxRecDepth 20000 in
theorem f_X4_allHomeAlike_ok {l : Launch} {G : Gx} {N : Nat} {a0 : Int32} {h : Hp} {z : Rs} (e : f_X4_allHomeAlike N a0 h = some z) : CI l G yX4_allHomeAlike wsX4_allHomeAlike rm_X4_allHomeAlike [.ref (G.1 15), .int a0] h z := by
  refine m_bool _ (by decide) rfl [(0, .ref (G.1 15)), (1, .int a0)] rfl (Nat.le_of_ble_eq_true rfl) (fun X O => ?_)
  unfold f_X4_allHomeAlike at e
  refine v_iconst (v := 0) O dX4_allHomeAlike_0 (by decide) ?_
  refine v_istore_n O dX4_allHomeAlike_1 rfl (by decide) (fun x1 => [(2, .int x1), (0, .ref (G.1 15)), (1, .int a0)]) (fun _ => rfl) e (fun x1 e => ?_)
  refine v_sub [1, 2, 0] rfl ?_
  exact f_X4_allHomeAlike_l2_ok O N N _ _ _ e
/-! ===== X4 firstHomeAlike ===== -/
abbrev rm_X4_firstHomeAlike : Room := { frames := 3, cells := 0, slots := 0, locals := 68 }
theorem fd_X4_firstHomeAlike_15 : FdO wsX4_firstHomeAlike RX4 15 RX4 TX4 8 4 3 := ⟨by decide +kernel, rfl, by decide, by decide +kernel⟩
theorem fd_X4_firstHomeAlike_32 : FdO wsX4_firstHomeAlike RX4 32 RX4 TX4 8 4 6 := ⟨by decide +kernel, rfl, by decide, by decide +kernel⟩
theorem cw_X4_firstHomeAlike_X4_allHomeAlike : CwO rm_X4_firstHomeAlike yX4_allHomeAlike wsX4_allHomeAlike cX4_allHomeAlike 5 (some .boolean) rm_X4_allHomeAlike 1 := ⟨⟨_, rfl⟩, rfl, rfl, by decide +kernel, by decide, by decide⟩
set_option maxRecDepth 20000 in
theorem f_X4_firstHomeAlike_b2_ok {X : Cx} {G : Gx} {z : Rs} (O : Ok X G cX4_firstHomeAlike RX4 2 wsX4_firstHomeAlike (some .int) rm_X4_firstHomeAlike) (N : Nat) (k2 : Int32 → Hp → Option Rs) (hk2 : ∀ (v1 : Int32) (h : Hp), k2 v1 h = some z → V X G 2 (QI X G z) h 2 [(0, .ref (G.1 15)), (1, .int v1)] []) (v1 : Int32) (h : Hp) (e : f_X4_firstHomeAlike_b2 N k2 v1 h = some z) : V X G 2 (QI X G z) h 2 [(0, .ref (G.1 15)), (1, .int v1)] [] := by
  unfold f_X4_firstHomeAlike_b2 at e
  refine v_iload_n O dX4_firstHomeAlike_2 1 rfl rfl ?_
  refine v_aload_n O dX4_firstHomeAlike_3 0 rfl rfl ?_
  refine v_get O fd_X4_firstHomeAlike_32 (g25 O (by decide)) (cg_15 G _) rfl dX4_firstHomeAlike_4 ?_
  refine v_icmp_ge O dX4_firstHomeAlike_7 31 (by decide) e (fun e => ?_) (fun e => ?_)
  · refine v_iconst (v := (-1)) O dX4_firstHomeAlike_31 (by decide) ?_
    exact v_iret O dX4_firstHomeAlike_32 e
  · refine v_aload_n O dX4_firstHomeAlike_10 0 rfl rfl ?_
    refine v_aload_n O dX4_firstHomeAlike_11 0 rfl rfl ?_
    refine v_get O fd_X4_firstHomeAlike_15 (g25 O (by decide)) (cg_15 G _) rfl dX4_firstHomeAlike_12 ?_
    refine v_iload_n O dX4_firstHomeAlike_15 1 rfl rfl ?_
    refine v_iald O (g25 O (by decide)) (cg_17 G _) dX4_firstHomeAlike_16 e (fun e => ?_)
    refine v_cVi O [.int (h.1 17 (ix v1))] [] gX4_firstHomeAlike_X4_allHomeAlike cw_X4_firstHomeAlike_X4_allHomeAlike rfl rfl (g25 O (by decide)) (cg_15 G _) rfl rfl (Nat.le_of_ble_eq_true rfl) dX4_firstHomeAlike_17 e (fun _ e9 => f_X4_allHomeAlike_ok e9) (fun r1 h2 e => ?_)
    refine v_if_eq O dX4_firstHomeAlike_20 25 (by decide) e (fun e => ?_) (fun e => ?_)
    · refine v_iinc (v := 1) O dX4_firstHomeAlike_25 1 rfl (by decide) (by decide) (fun x3 => [(1, .int x3), (0, .ref (G.1 15))]) (fun _ => rfl) e (fun x3 e => ?_)
      refine v_goto O dX4_firstHomeAlike_28 2 (by decide) ?_
      refine v_sub [1, 0] rfl ?_
      exact hk2 _ _ e
    · refine v_iload_n O dX4_firstHomeAlike_23 1 rfl rfl ?_
      exact v_iret O dX4_firstHomeAlike_24 e
theorem f_X4_firstHomeAlike_l2_ok {X : Cx} {G : Gx} {z : Rs} (O : Ok X G cX4_firstHomeAlike RX4 2 wsX4_firstHomeAlike (some .int) rm_X4_firstHomeAlike) (N : Nat) : ∀ (n : Nat) (v1 : Int32) (h : Hp), f_X4_firstHomeAlike_l2 N n v1 h = some z → V X G 2 (QI X G z) h 2 [(0, .ref (G.1 15)), (1, .int v1)] [] := by
  intro n
  induction n with
  | zero => intro v1 h e; cases e
  | succ n ih => intro v1 h e; exact f_X4_firstHomeAlike_b2_ok O N _ ih v1 h e
set_option maxRecDepth 20000 in
theorem f_X4_firstHomeAlike_ok {l : Launch} {G : Gx} {N : Nat} {h : Hp} {z : Rs} (e : f_X4_firstHomeAlike N h = some z) : CI l G yX4_firstHomeAlike wsX4_firstHomeAlike rm_X4_firstHomeAlike [.ref (G.1 15)] h z := by
  refine m_int _ (by decide) rfl [(0, .ref (G.1 15))] rfl (Nat.le_of_ble_eq_true rfl) (fun X O => ?_)
  unfold f_X4_firstHomeAlike at e
  refine v_iconst (v := 0) O dX4_firstHomeAlike_0 (by decide) ?_
  refine v_istore_n O dX4_firstHomeAlike_1 rfl (by decide) (fun x1 => [(1, .int x1), (0, .ref (G.1 15))]) (fun _ => rfl) e (fun x1 e => ?_)
  refine v_sub [1, 0] rfl ?_
  exact f_X4_firstHomeAlike_l2_ok O N N _ _ e
/-! ===== X7 alike ===== -/
abbrev rm_X7_alike : Room := { frames := 6, cells := 0, slots := 0, locals := 154 }
theorem fd_X7_alike_10 : FdO wsX7_alike RX7 10 RX7 TX7 15 7 0 := ⟨by decide +kernel, rfl, by decide, by decide +kernel⟩
theorem fd_X7_alike_62 : FdO wsX7_alike RX7 62 RX7 TX7 15 7 6 := ⟨by decide +kernel, rfl, by decide, by decide +kernel⟩
theorem fd_X7_alike_126 : FdO wsX7_alike RX7 126 RX5 TX5 9 5 2 := ⟨by decide +kernel, rfl, by decide, by decide +kernel⟩
theorem fd_X7_alike_133 : FdO wsX7_alike RX7 133 RX7 TX7 15 7 13 := ⟨by decide +kernel, rfl, by decide, by decide +kernel⟩
theorem fd_X7_alike_166 : FdO wsX7_alike RX7 166 RX7 TX7 15 7 14 := ⟨by decide +kernel, rfl, by decide, by decide +kernel⟩
theorem cw_X7_alike_X4_depthOf : CwO rm_X7_alike yX4_depthOf wsX4_depthOf cX4_depthOf 2 (some .int) rm_X4_depthOf 1 := ⟨⟨_, rfl⟩, rfl, rfl, by decide +kernel, by decide, by decide⟩
theorem cw_X7_alike_X4_explore : CwO rm_X7_alike yX4_explore wsX4_explore cX4_explore 8 (none) rm_X4_explore 3 := ⟨⟨_, rfl⟩, rfl, rfl, by decide +kernel, by decide, by decide⟩
theorem cw_X7_alike_X4_firstHomeAlike : CwO rm_X7_alike yX4_firstHomeAlike wsX4_firstHomeAlike cX4_firstHomeAlike 2 (some .int) rm_X4_firstHomeAlike 0 := ⟨⟨_, rfl⟩, rfl, rfl, by decide +kernel, by decide, by decide⟩
set_option maxRecDepth 20000 in
theorem f_X7_alike_ok {l : Launch} {G : Gx} {N : Nat} {h : Hp} {z : Rs} (e : f_X7_alike N h = some z) : CI l G yX7_alike wsX7_alike rm_X7_alike [.ref (G.1 0)] h z := by
  refine m_int _ (by decide) rfl [(0, .ref (G.1 0))] rfl (Nat.le_of_ble_eq_true rfl) (fun X O => ?_)
  unfold f_X7_alike at e
  refine v_aload_n O dX7_alike_0 0 rfl rfl ?_
  refine v_get O fd_X7_alike_62 (g25 O (by decide)) (cg_0 G _) rfl dX7_alike_1 ?_
  refine v_aload_n O dX7_alike_4 0 rfl rfl ?_
  refine v_get O fd_X7_alike_133 (g25 O (by decide)) (cg_0 G _) rfl dX7_alike_5 ?_
  refine v_aload_n O dX7_alike_8 0 rfl rfl ?_
  refine v_get O fd_X7_alike_166 (g25 O (by decide)) (cg_0 G _) rfl dX7_alike_9 ?_
  refine v_aload_n O dX7_alike_12 0 rfl rfl ?_
  refine v_get O fd_X7_alike_10 (g25 O (by decide)) (cg_0 G _) rfl dX7_alike_13 ?_
  refine v_get O fd_X7_alike_126 (g25 O (by decide)) (cg_1 G _) rfl dX7_alike_16 ?_
  refine v_cVv O [.int (h.1 0 13), .int (h.1 0 14), .int (h.1 1 2)] [] gX7_alike_X4_explore cw_X7_alike_X4_explore rfl rfl (g25 O (by decide)) (cg_15 G _) rfl rfl (Nat.le_of_ble_eq_true rfl) dX7_alike_19 e (fun _ e9 => f_X4_explore_ok e9) (fun _ h1 e => ?_)
  refine v_aload_n O dX7_alike_22 0 rfl rfl ?_
  refine v_get O fd_X7_alike_62 (g25 O (by decide)) (cg_0 G _) rfl dX7_alike_23 ?_
  refine v_aload_n O dX7_alike_26 0 rfl rfl ?_
  refine v_get O fd_X7_alike_62 (g25 O (by decide)) (cg_0 G _) rfl dX7_alike_27 ?_
  refine v_cVi O [] [.ref (G.1 15)] gX7_alike_X4_firstHomeAlike cw_X7_alike_X4_firstHomeAlike rfl rfl (g25 O (by decide)) (cg_15 G _) rfl rfl (Nat.le_of_ble_eq_true rfl) dX7_alike_30 e (fun _ e9 => f_X4_firstHomeAlike_ok e9) (fun r2 h3 e => ?_)
  refine v_cVi O [.int r2] [] gX7_alike_X4_depthOf cw_X7_alike_X4_depthOf rfl rfl (g25 O (by decide)) (cg_15 G _) rfl rfl (Nat.le_of_ble_eq_true rfl) dX7_alike_33 e (fun _ e9 => f_X4_depthOf_ok e9) (fun r4 h5 e => ?_)
  exact v_iret O dX7_alike_36 e
/-! ===== X7 isSuch ===== -/
abbrev rm_X7_isSuch : Room := { frames := 1, cells := 0, slots := 0, locals := 20 }
theorem cw_X7_isSuch_X7_noKind : CwO rm_X7_isSuch yX7_noKind wsX7_noKind cX7_noKind 1 (some .boolean) rm_X7_noKind 1 := ⟨⟨_, rfl⟩, rfl, rfl, by decide +kernel, by decide, by decide⟩
set_option maxRecDepth 20000 in
theorem f_X7_isSuch_b46_ok {X : Cx} {G : Gx} {z : Rs} (O : Ok X G cX7_isSuch RX7 4 wsX7_isSuch (some .boolean) rm_X7_isSuch) (N : Nat) (h : Hp) (e : f_X7_isSuch_b46 N h = some z) : V X G 4 (QI X G z) h 46 [] [] := by
  unfold f_X7_isSuch_b46 at e
  refine v_iconst (v := 0) O dX7_isSuch_46 (by decide) ?_
  exact v_zret O dX7_isSuch_47 e
set_option maxRecDepth 20000 in
theorem f_X7_isSuch_b17_ok {X : Cx} {G : Gx} {z : Rs} (O : Ok X G cX7_isSuch RX7 4 wsX7_isSuch (some .boolean) rm_X7_isSuch) (N : Nat) (k17 : Int32 → Int32 → Int32 → Hp → Option Rs) (hk17 : ∀ (v1 : Int32) (v2 : Int32) (v3 : Int32) (h : Hp), k17 v1 v2 v3 h = some z → V X G 4 (QI X G z) h 17 [(1, .int v1), (2, .int v2), (3, .int v3)] []) (v1 : Int32) (v2 : Int32) (v3 : Int32) (h : Hp) (e : f_X7_isSuch_b17 N k17 v1 v2 v3 h = some z) : V X G 4 (QI X G z) h 17 [(1, .int v1), (2, .int v2), (3, .int v3)] [] := by
  unfold f_X7_isSuch_b17 at e
  refine v_iload_n O dX7_isSuch_17 2 rfl rfl ?_
  refine v_bipush (v := 6) O dX7_isSuch_18 (by decide) ?_
  refine v_icmp_gt O dX7_isSuch_20 46 (by decide) e (fun e => ?_) (fun e => ?_)
  · refine v_sub [] rfl ?_
    exact f_X7_isSuch_b46_ok O N _ e
  · refine v_iload_n O dX7_isSuch_23 1 rfl rfl ?_
    refine v_if_lt O dX7_isSuch_24 46 (by decide) e (fun e => ?_) (fun e => ?_)
    · refine v_sub [] rfl ?_
      exact f_X7_isSuch_b46_ok O N _ e
    · refine v_iload_n O dX7_isSuch_27 1 rfl rfl ?_
      refine v_iload_n O dX7_isSuch_28 0 rfl rfl ?_
      refine v_icmp_ne O dX7_isSuch_29 34 (by decide) e (fun e => ?_) (fun e => ?_)
      · refine v_gets O 0 (by decide) (by decide +kernel) dX7_isSuch_34 ?_
        refine v_iload_n O dX7_isSuch_37 1 rfl rfl ?_
        refine v_ti O 0 7 (by decide) rfl dX7_isSuch_38 e (fun e => ?_)
        refine v_istore_n O dX7_isSuch_39 rfl (by decide) (fun x1 => [(2, .int x1), (1, .int v1), (3, .int v3)]) (fun _ => rfl) e (fun x1 e => ?_)
        refine v_iinc (v := 1) O dX7_isSuch_40 2 rfl (by decide) (by decide) (fun x2 => [(3, .int x2), (2, .int x1), (1, .int v1)]) (fun _ => rfl) e (fun x2 e => ?_)
        refine v_goto O dX7_isSuch_43 17 (by decide) ?_
        refine v_sub [2, 1, 0] rfl ?_
        exact hk17 _ _ _ _ e
      · refine v_iconst (v := 1) O dX7_isSuch_32 (by decide) ?_
        exact v_zret O dX7_isSuch_33 e
theorem f_X7_isSuch_l17_ok {X : Cx} {G : Gx} {z : Rs} (O : Ok X G cX7_isSuch RX7 4 wsX7_isSuch (some .boolean) rm_X7_isSuch) (N : Nat) : ∀ (n : Nat) (v1 : Int32) (v2 : Int32) (v3 : Int32) (h : Hp), f_X7_isSuch_l17 N n v1 v2 v3 h = some z → V X G 4 (QI X G z) h 17 [(1, .int v1), (2, .int v2), (3, .int v3)] [] := by
  intro n
  induction n with
  | zero => intro v1 v2 v3 h e; cases e
  | succ n ih => intro v1 v2 v3 h e; exact f_X7_isSuch_b17_ok O N _ ih v1 v2 v3 h e
set_option maxRecDepth 20000 in
theorem f_X7_isSuch_ok {l : Launch} {G : Gx} {N : Nat} {a0 : Int32} {a1 : Int32} {h : Hp} {z : Rs} (e : f_X7_isSuch N a0 a1 h = some z) : CI l G yX7_isSuch wsX7_isSuch rm_X7_isSuch [.int a0, .int a1] h z := by
  refine m_bool _ (by decide) rfl [(0, .int a0), (1, .int a1)] rfl (Nat.le_of_ble_eq_true rfl) (fun X O => ?_)
  unfold f_X7_isSuch at e
  refine v_iload_n O dX7_isSuch_0 0 rfl rfl ?_
  refine v_cSi O [.int a0] [] gX7_isSuch_X7_noKind cw_X7_isSuch_X7_noKind rfl rfl (Nat.le_of_ble_eq_true rfl) dX7_isSuch_1 e (fun _ e9 => f_X7_noKind_ok e9) (fun r1 h2 e => ?_)
  refine v_if_eq O dX7_isSuch_4 9 (by decide) e (fun e => ?_) (fun e => ?_)
  · refine v_gets O 1 (by decide) (by decide +kernel) dX7_isSuch_9 ?_
    refine v_iload_n O dX7_isSuch_12 0 rfl rfl ?_
    refine v_ti O 1 4 (by decide) rfl dX7_isSuch_13 e (fun e => ?_)
    refine v_istore_n O dX7_isSuch_14 rfl (by decide) (fun x3 => [(2, .int x3), (0, .int a0), (1, .int a1)]) (fun _ => rfl) e (fun x3 e => ?_)
    refine v_iconst (v := 0) O dX7_isSuch_15 (by decide) ?_
    refine v_istore_n O dX7_isSuch_16 rfl (by decide) (fun x4 => [(3, .int x4), (2, .int x3), (0, .int a0), (1, .int a1)]) (fun _ => rfl) e (fun x4 e => ?_)
    refine v_sub [3, 1, 0] rfl ?_
    exact f_X7_isSuch_l17_ok O N N _ _ _ _ e
  · refine v_iconst (v := 0) O dX7_isSuch_7 (by decide) ?_
    exact v_zret O dX7_isSuch_8 e
/-! ===== X7 noMan ===== -/
abbrev rm_X7_noMan : Room := { frames := 0, cells := 0, slots := 0, locals := 0 }
theorem fd_X7_noMan_10 : FdO wsX7_noMan RX7 10 RX7 TX7 15 7 0 := ⟨by decide +kernel, rfl, by decide, by decide +kernel⟩
theorem fd_X7_noMan_202 : FdO wsX7_noMan RX7 202 RX5 TX5 9 5 4 := ⟨by decide +kernel, rfl, by decide, by decide +kernel⟩
set_option maxRecDepth 20000 in
theorem f_X7_noMan_b20_ok {X : Cx} {G : Gx} {z : Rs} (O : Ok X G cX7_noMan RX7 2 wsX7_noMan (some .boolean) rm_X7_noMan) (N : Nat) (s0 : Int32) (h : Hp) (e : f_X7_noMan_b20 N s0 h = some z) : V X G 2 (QI X G z) h 20 [] [.int s0] := by
  unfold f_X7_noMan_b20 at e
  exact v_zret O dX7_noMan_20 e
set_option maxRecDepth 20000 in
theorem f_X7_noMan_b15_ok {X : Cx} {G : Gx} {z : Rs} (O : Ok X G cX7_noMan RX7 2 wsX7_noMan (some .boolean) rm_X7_noMan) (N : Nat) (h : Hp) (e : f_X7_noMan_b15 N h = some z) : V X G 2 (QI X G z) h 15 [] [] := by
  unfold f_X7_noMan_b15 at e
  refine v_iconst (v := 1) O dX7_noMan_15 (by decide) ?_
  refine v_goto O dX7_noMan_16 20 (by decide) ?_
  exact f_X7_noMan_b20_ok O N _ _ e
set_option maxRecDepth 20000 in
theorem f_X7_noMan_ok {l : Launch} {G : Gx} {N : Nat} {a0 : Int32} {h : Hp} {z : Rs} (e : f_X7_noMan N a0 h = some z) : CI l G yX7_noMan wsX7_noMan rm_X7_noMan [.ref (G.1 0), .int a0] h z := by
  refine m_bool _ (by decide) rfl [(0, .ref (G.1 0)), (1, .int a0)] rfl (Nat.le_of_ble_eq_true rfl) (fun X O => ?_)
  unfold f_X7_noMan at e
  refine v_iload_n O dX7_noMan_0 1 rfl rfl ?_
  refine v_if_lt O dX7_noMan_1 15 (by decide) e (fun e => ?_) (fun e => ?_)
  · refine v_sub [] rfl ?_
    exact f_X7_noMan_b15_ok O N _ e
  · refine v_iload_n O dX7_noMan_4 1 rfl rfl ?_
    refine v_aload_n O dX7_noMan_5 0 rfl rfl ?_
    refine v_get O fd_X7_noMan_10 (g25 O (by decide)) (cg_0 G _) rfl dX7_noMan_6 ?_
    refine v_get O fd_X7_noMan_202 (g25 O (by decide)) (cg_1 G _) rfl dX7_noMan_9 ?_
    refine v_icmp_lt O dX7_noMan_12 19 (by decide) e (fun e => ?_) (fun e => ?_)
    · refine v_iconst (v := 0) O dX7_noMan_19 (by decide) ?_
      refine v_sub [] rfl ?_
      exact f_X7_noMan_b20_ok O N _ _ e
    · refine v_sub [] rfl ?_
      exact f_X7_noMan_b15_ok O N _ e
/-! ===== X7 as ===== -/
abbrev rm_X7_as : Room := { frames := 2, cells := 0, slots := 0, locals := 50 }
theorem fd_X7_as_10 : FdO wsX7_as RX7 10 RX7 TX7 15 7 0 := ⟨by decide +kernel, rfl, by decide, by decide +kernel⟩
theorem fd_X7_as_35 : FdO wsX7_as RX7 35 RX7 TX7 15 7 3 := ⟨by decide +kernel, rfl, by decide, by decide +kernel⟩
theorem fd_X7_as_126 : FdO wsX7_as RX7 126 RX5 TX5 9 5 2 := ⟨by decide +kernel, rfl, by decide, by decide +kernel⟩
theorem fd_X7_as_133 : FdO wsX7_as RX7 133 RX7 TX7 15 7 13 := ⟨by decide +kernel, rfl, by decide, by decide +kernel⟩
theorem fd_X7_as_145 : FdO wsX7_as RX7 145 RX5 TX5 9 5 7 := ⟨by decide +kernel, rfl, by decide, by decide +kernel⟩
theorem cw_X7_as_X0_reached : CwO rm_X7_as yX0_reached wsX0_reached cX0_reached 10 (some .int) rm_X0_reached 4 := ⟨⟨_, rfl⟩, rfl, rfl, by decide +kernel, by decide, by decide⟩
theorem cw_X7_as_X5_taken : CwO rm_X7_as yX5_taken wsX5_taken cX5_taken 4 (some .int) rm_X5_taken 1 := ⟨⟨_, rfl⟩, rfl, rfl, by decide +kernel, by decide, by decide⟩
theorem cw_X7_as_X7_isSuch : CwO rm_X7_as yX7_isSuch wsX7_isSuch cX7_isSuch 4 (some .boolean) rm_X7_isSuch 2 := ⟨⟨_, rfl⟩, rfl, rfl, by decide +kernel, by decide, by decide⟩
theorem cw_X7_as_X7_noMan : CwO rm_X7_as yX7_noMan wsX7_noMan cX7_noMan 2 (some .boolean) rm_X7_noMan 1 := ⟨⟨_, rfl⟩, rfl, rfl, by decide +kernel, by decide, by decide⟩
theorem cw_X7_as_X7_placeOf : CwO rm_X7_as yX7_placeOf wsX7_placeOf cX7_placeOf 2 (some .int) rm_X7_placeOf 2 := ⟨⟨_, rfl⟩, rfl, rfl, by decide +kernel, by decide, by decide⟩
set_option maxRecDepth 20000 in
theorem f_X7_as_b21_ok {X : Cx} {G : Gx} {z : Rs} (O : Ok X G cX7_as RX7 3 wsX7_as (some .int) rm_X7_as) (N : Nat) (h : Hp) (e : f_X7_as_b21 N h = some z) : V X G 3 (QI X G z) h 21 [] [] := by
  unfold f_X7_as_b21 at e
  refine v_bipush (v := (-3)) O dX7_as_21 (by decide) ?_
  exact v_iret O dX7_as_23 e
set_option maxRecDepth 20000 in
theorem f_X7_as_ok {l : Launch} {G : Gx} {N : Nat} {a0 : Int32} {a1 : Int32} {h : Hp} {z : Rs} (e : f_X7_as N a0 a1 h = some z) : CI l G yX7_as wsX7_as rm_X7_as [.ref (G.1 0), .int a0, .int a1] h z := by
  refine m_int _ (by decide) rfl [(0, .ref (G.1 0)), (1, .int a0), (2, .int a1)] rfl (Nat.le_of_ble_eq_true rfl) (fun X O => ?_)
  unfold f_X7_as at e
  refine v_aload_n O dX7_as_0 0 rfl rfl ?_
  refine v_iload_n O dX7_as_1 1 rfl rfl ?_
  refine v_cVi O [.int a0] [] gX7_as_X7_noMan cw_X7_as_X7_noMan rfl rfl (g25 O (by decide)) (cg_0 G _) rfl rfl (Nat.le_of_ble_eq_true rfl) dX7_as_2 e (fun _ e9 => f_X7_noMan_ok e9) (fun r1 h2 e => ?_)
  refine v_if_eq O dX7_as_5 11 (by decide) e (fun e => ?_) (fun e => ?_)
  · refine v_iload_n O dX7_as_11 2 rfl rfl ?_
    refine v_if_lt O dX7_as_12 21 (by decide) e (fun e => ?_) (fun e => ?_)
    · refine v_sub [] rfl ?_
      exact f_X7_as_b21_ok O N _ e
    · refine v_iload_n O dX7_as_15 2 rfl rfl ?_
      refine v_bipush (v := 6) O dX7_as_16 (by decide) ?_
      refine v_icmp_le O dX7_as_18 24 (by decide) e (fun e => ?_) (fun e => ?_)
      · refine v_aload_n O dX7_as_24 0 rfl rfl ?_
        refine v_get O fd_X7_as_10 (g25 O (by decide)) (cg_0 G _) rfl dX7_as_25 ?_
        refine v_get O fd_X7_as_145 (g25 O (by decide)) (cg_1 G _) rfl dX7_as_28 ?_
        refine v_iload_n O dX7_as_31 1 rfl rfl ?_
        refine v_iald O (g25 O (by decide)) (cg_2 G _) dX7_as_32 e (fun e => ?_)
        refine v_iload_n O dX7_as_33 2 rfl rfl ?_
        refine v_cSi O [.int (h2.1 2 (ix a0)), .int a1] [] gX7_as_X7_isSuch cw_X7_as_X7_isSuch rfl rfl (Nat.le_of_ble_eq_true rfl) dX7_as_34 e (fun _ e9 => f_X7_isSuch_ok e9) (fun r3 h4 e => ?_)
        refine v_if_ne O dX7_as_37 43 (by decide) e (fun e => ?_) (fun e => ?_)
        · refine v_aload_n O dX7_as_43 0 rfl rfl ?_
          refine v_get O fd_X7_as_35 (g25 O (by decide)) (cg_0 G _) rfl dX7_as_44 ?_
          refine v_aload_n O dX7_as_47 0 rfl rfl ?_
          refine v_get O fd_X7_as_10 (g25 O (by decide)) (cg_0 G _) rfl dX7_as_48 ?_
          refine v_get O fd_X7_as_145 (g25 O (by decide)) (cg_1 G _) rfl dX7_as_51 ?_
          refine v_iload_n O dX7_as_54 1 rfl rfl ?_
          refine v_iald O (g25 O (by decide)) (cg_2 G _) dX7_as_55 e (fun e => ?_)
          refine v_iload_n O dX7_as_56 1 rfl rfl ?_
          refine v_aload_n O dX7_as_57 0 rfl rfl ?_
          refine v_get O fd_X7_as_133 (g25 O (by decide)) (cg_0 G _) rfl dX7_as_58 ?_
          refine v_cSi O [.int a0, .int (h4.1 0 13)] [.int (h4.1 2 (ix a0)), .ref (G.1 10)] gX7_as_X7_placeOf cw_X7_as_X7_placeOf rfl rfl (Nat.le_of_ble_eq_true rfl) dX7_as_61 e (fun _ e9 => f_X7_placeOf_ok e9) (fun r5 h6 e => ?_)
          refine v_aload_n O dX7_as_64 0 rfl rfl ?_
          refine v_get O fd_X7_as_10 (g25 O (by decide)) (cg_0 G _) rfl dX7_as_65 ?_
          refine v_get O fd_X7_as_126 (g25 O (by decide)) (cg_1 G _) rfl dX7_as_68 ?_
          refine v_aload_n O dX7_as_71 0 rfl rfl ?_
          refine v_get O fd_X7_as_10 (g25 O (by decide)) (cg_0 G _) rfl dX7_as_72 ?_
          refine v_aload_n O dX7_as_75 0 rfl rfl ?_
          refine v_get O fd_X7_as_133 (g25 O (by decide)) (cg_0 G _) rfl dX7_as_76 ?_
          refine v_cVi O [.int (h6.1 0 13)] [.int (h6.1 1 2), .int r5, .int (h4.1 2 (ix a0)), .ref (G.1 10)] gX7_as_X5_taken cw_X7_as_X5_taken rfl rfl (g25 O (by decide)) (cg_1 G _) rfl rfl (Nat.le_of_ble_eq_true rfl) dX7_as_79 e (fun _ e9 => f_X5_taken_ok_1 e9) (fun r7 h8 e => ?_)
          refine v_cVi O [.int (h4.1 2 (ix a0)), .int r5, .int (h6.1 1 2), .int r7] [] gX7_as_X0_reached cw_X7_as_X0_reached rfl rfl (g25 O (by decide)) (cg_10 G _) rfl rfl (Nat.le_of_ble_eq_true rfl) dX7_as_82 e (fun _ e9 => f_X0_reached_ok e9) (fun r9 h10 e => ?_)
          exact v_iret O dX7_as_85 e
        · refine v_bipush (v := (-4)) O dX7_as_40 (by decide) ?_
          exact v_iret O dX7_as_42 e
      · refine v_sub [] rfl ?_
        exact f_X7_as_b21_ok O N _ e
  · refine v_bipush (v := (-2)) O dX7_as_8 (by decide) ?_
    exact v_iret O dX7_as_10 e
/-! ===== X7 attacked ===== -/
abbrev rm_X7_attacked : Room := { frames := 3, cells := 0, slots := 0, locals := 78 }
theorem fd_X7_attacked_10 : FdO wsX7_attacked RX7 10 RX7 TX7 15 7 0 := ⟨by decide +kernel, rfl, by decide, by decide +kernel⟩
theorem fd_X7_attacked_44 : FdO wsX7_attacked RX7 44 RX7 TX7 15 7 4 := ⟨by decide +kernel, rfl, by decide, by decide +kernel⟩
theorem fd_X7_attacked_126 : FdO wsX7_attacked RX7 126 RX5 TX5 9 5 2 := ⟨by decide +kernel, rfl, by decide, by decide +kernel⟩
theorem fd_X7_attacked_133 : FdO wsX7_attacked RX7 133 RX7 TX7 15 7 13 := ⟨by decide +kernel, rfl, by decide, by decide +kernel⟩
theorem cw_X7_attacked_X1_attackedMen : CwO rm_X7_attacked yX1_attackedMen wsX1_attackedMen cX1_attackedMen 9 (some .int) rm_X1_attackedMen 2 := ⟨⟨_, rfl⟩, rfl, rfl, by decide +kernel, by decide, by decide⟩
set_option maxRecDepth 20000 in
theorem f_X7_attacked_ok {l : Launch} {G : Gx} {N : Nat} {h : Hp} {z : Rs} (e : f_X7_attacked N h = some z) : CI l G yX7_attacked wsX7_attacked rm_X7_attacked [.ref (G.1 0)] h z := by
  refine m_int _ (by decide) rfl [(0, .ref (G.1 0))] rfl (Nat.le_of_ble_eq_true rfl) (fun X O => ?_)
  unfold f_X7_attacked at e
  refine v_aload_n O dX7_attacked_0 0 rfl rfl ?_
  refine v_get O fd_X7_attacked_44 (g25 O (by decide)) (cg_0 G _) rfl dX7_attacked_1 ?_
  refine v_aload_n O dX7_attacked_4 0 rfl rfl ?_
  refine v_get O fd_X7_attacked_133 (g25 O (by decide)) (cg_0 G _) rfl dX7_attacked_5 ?_
  refine v_aload_n O dX7_attacked_8 0 rfl rfl ?_
  refine v_get O fd_X7_attacked_10 (g25 O (by decide)) (cg_0 G _) rfl dX7_attacked_9 ?_
  refine v_get O fd_X7_attacked_126 (g25 O (by decide)) (cg_1 G _) rfl dX7_attacked_12 ?_
  refine v_cVi O [.int (h.1 0 13), .int (h.1 1 2)] [] gX7_attacked_X1_attackedMen cw_X7_attacked_X1_attackedMen rfl rfl (g25 O (by decide)) (cg_12 G _) rfl rfl (Nat.le_of_ble_eq_true rfl) dX7_attacked_15 e (fun _ e9 => f_X1_attackedMen_ok e9) (fun r1 h2 e => ?_)
  exact v_iret O dX7_attacked_18 e
/-! ===== X7 back ===== -/
abbrev rm_X7_back : Room := { frames := 0, cells := 0, slots := 0, locals := 0 }
theorem fd_X7_back_66 : FdO wsX7_back RX7 66 RX7 TX7 15 7 7 := ⟨by decide +kernel, rfl, by decide, by decide +kernel⟩
theorem fd_X7_back_70 : FdO wsX7_back RX7 70 RX7 TX7 15 7 8 := ⟨by decide +kernel, rfl, by decide, by decide +kernel⟩
theorem fd_X7_back_73 : FdO wsX7_back RX7 73 RX7 TX7 15 7 9 := ⟨by decide +kernel, rfl, by decide, by decide +kernel⟩
theorem fd_X7_back_133 : FdO wsX7_back RX7 133 RX7 TX7 15 7 13 := ⟨by decide +kernel, rfl, by decide, by decide +kernel⟩
theorem fd_X7_back_166 : FdO wsX7_back RX7 166 RX7 TX7 15 7 14 := ⟨by decide +kernel, rfl, by decide, by decide +kernel⟩
set_option maxRecDepth 20000 in
theorem f_X7_back_b9_ok {X : Cx} {G : Gx} {z : Rs} (O : Ok X G cX7_back RX7 2 wsX7_back (some .int) rm_X7_back) (N : Nat) (h : Hp) (e : f_X7_back_b9 N h = some z) : V X G 2 (QI X G z) h 9 [] [] := by
  unfold f_X7_back_b9 at e
  refine v_bipush (v := (-2)) O dX7_back_9 (by decide) ?_
  exact v_iret O dX7_back_11 e
set_option maxRecDepth 20000 in
theorem f_X7_back_ok {l : Launch} {G : Gx} {N : Nat} {a0 : Int32} {h : Hp} {z : Rs} (e : f_X7_back N a0 h = some z) : CI l G yX7_back wsX7_back rm_X7_back [.ref (G.1 0), .int a0] h z := by
  refine m_int _ (by decide) rfl [(0, .ref (G.1 0)), (1, .int a0)] rfl (Nat.le_of_ble_eq_true rfl) (fun X O => ?_)
  unfold f_X7_back at e
  refine v_iload_n O dX7_back_0 1 rfl rfl ?_
  refine v_if_lt O dX7_back_1 9 (by decide) e (fun e => ?_) (fun e => ?_)
  · refine v_sub [] rfl ?_
    exact f_X7_back_b9_ok O N _ e
  · refine v_iload_n O dX7_back_4 1 rfl rfl ?_
    refine v_iconst (v := 2) O dX7_back_5 (by decide) ?_
    refine v_icmp_lt O dX7_back_6 12 (by decide) e (fun e => ?_) (fun e => ?_)
    · refine v_aload_n O dX7_back_12 0 rfl rfl ?_
      refine v_get O fd_X7_back_73 (g25 O (by decide)) (cg_0 G _) rfl dX7_back_13 ?_
      refine v_iload_n O dX7_back_16 1 rfl rfl ?_
      refine v_zald O (g25 O (by decide)) (cg_22 G _) dX7_back_17 e (fun e => ?_)
      refine v_if_ne O dX7_back_18 24 (by decide) e (fun e => ?_) (fun e => ?_)
      · refine v_aload_n O dX7_back_24 0 rfl rfl ?_
        refine v_aload_n O dX7_back_25 0 rfl rfl ?_
        refine v_get O fd_X7_back_66 (g25 O (by decide)) (cg_0 G _) rfl dX7_back_26 ?_
        refine v_iload_n O dX7_back_29 1 rfl rfl ?_
        refine v_iald O (g25 O (by decide)) (cg_20 G _) dX7_back_30 e (fun e => ?_)
        refine v_put O fd_X7_back_133 fp_X7_13 (g25 O (by decide)) (cg_0 G _) (Nat.le_of_ble_eq_true rfl) (cs_0_13 G _ _) dX7_back_31 e (fun h1 e => ?_)
        refine v_aload_n O dX7_back_34 0 rfl rfl ?_
        refine v_aload_n O dX7_back_35 0 rfl rfl ?_
        refine v_get O fd_X7_back_70 (g25 O (by decide)) (cg_0 G _) rfl dX7_back_36 ?_
        refine v_iload_n O dX7_back_39 1 rfl rfl ?_
        refine v_iald O (g25 O (by decide)) (cg_21 G _) dX7_back_40 e (fun e => ?_)
        refine v_put O fd_X7_back_166 fp_X7_14 (g25 O (by decide)) (cg_0 G _) (Nat.le_of_ble_eq_true rfl) (cs_0_14 G _ _) dX7_back_41 e (fun h2 e => ?_)
        refine v_aload_n O dX7_back_44 0 rfl rfl ?_
        refine v_get O fd_X7_back_166 (g25 O (by decide)) (cg_0 G _) rfl dX7_back_45 ?_
        exact v_iret O dX7_back_48 e
      · refine v_bipush (v := (-4)) O dX7_back_21 (by decide) ?_
        exact v_iret O dX7_back_23 e
    · refine v_sub [] rfl ?_
      exact f_X7_back_b9_ok O N _ e
/-! ===== X3 refuseIf ===== -/
abbrev rm_X3_refuseIf : Room := { frames := 0, cells := 0, slots := 0, locals := 0 }
theorem fd_X3_refuseIf_18 : FdO wsX3_refuseIf RX3 18 RX3 TX3 4 3 3 := ⟨by decide +kernel, rfl, by decide, by decide +kernel⟩
theorem fd_X3_refuseIf_26 : FdO wsX3_refuseIf RX3 26 RX3 TX3 4 3 1 := ⟨by decide +kernel, rfl, by decide, by decide +kernel⟩
theorem fd_X3_refuseIf_138 : FdO wsX3_refuseIf RX3 138 RX6 TX6 4 6 2 := ⟨by decide +kernel, rfl, by decide, by decide +kernel⟩
set_option maxRecDepth 20000 in
theorem f_X3_refuseIf_b23_ok {X : Cx} {G : Gx} {z : Rs} (O : Ok X G cX3_refuseIf RX3 2 wsX3_refuseIf (none) rm_X3_refuseIf) (N : Nat) (h : Hp) (e : f_X3_refuseIf_b23 N h = some z) : V X G 2 (QV X G z) h 23 [] [] := by
  unfold f_X3_refuseIf_b23 at e
  exact v_vret O dX3_refuseIf_23 e
set_option maxRecDepth 20000 in
theorem f_X3_refuseIf_ok {l : Launch} {G : Gx} {N : Nat} {a0 : Int32} {h : Hp} {z : Rs} (e : f_X3_refuseIf N a0 h = some z) : CV l G yX3_refuseIf wsX3_refuseIf rm_X3_refuseIf [.ref (G.1 6), .int a0] h z := by
  refine m_void _ (by decide) rfl [(0, .ref (G.1 6)), (1, .int a0)] rfl (Nat.le_of_ble_eq_true rfl) (fun X O => ?_)
  unfold f_X3_refuseIf at e
  refine v_iload_n O dX3_refuseIf_0 1 rfl rfl ?_
  refine v_if_eq O dX3_refuseIf_1 23 (by decide) e (fun e => ?_) (fun e => ?_)
  · refine v_sub [] rfl ?_
    exact f_X3_refuseIf_b23_ok O N _ e
  · refine v_aload_n O dX3_refuseIf_4 0 rfl rfl ?_
    refine v_get O fd_X3_refuseIf_26 (g25 O (by decide)) (cg_6 G _) rfl dX3_refuseIf_5 ?_
    refine v_iconst (v := (-1)) O dX3_refuseIf_8 (by decide) ?_
    refine v_icmp_ne O dX3_refuseIf_9 23 (by decide) e (fun e => ?_) (fun e => ?_)
    · refine v_sub [] rfl ?_
      exact f_X3_refuseIf_b23_ok O N _ e
    · refine v_aload_n O dX3_refuseIf_12 0 rfl rfl ?_
      refine v_aload_n O dX3_refuseIf_13 0 rfl rfl ?_
      refine v_get O fd_X3_refuseIf_18 (g25 O (by decide)) (cg_6 G _) rfl dX3_refuseIf_14 ?_
      refine v_get O fd_X3_refuseIf_138 (g25 O (by decide)) (cg_4 G _) rfl dX3_refuseIf_17 ?_
      refine v_put O fd_X3_refuseIf_26 fp_X3_1 (g25 O (by decide)) (cg_6 G _) (Nat.le_of_ble_eq_true rfl) (cs_6_1 G _ _) dX3_refuseIf_20 e (fun h1 e => ?_)
      refine v_sub [] rfl ?_
      exact f_X3_refuseIf_b23_ok O N _ e
/-! ===== X6 isOver ===== -/
abbrev rm_X6_isOver : Room := { frames := 0, cells := 0, slots := 0, locals := 0 }
theorem fd_X6_isOver_15 : FdO wsX6_isOver RX6 15 RX6 TX6 4 6 1 := ⟨by decide +kernel, rfl, by decide, by decide +kernel⟩
theorem fd_X6_isOver_19 : FdO wsX6_isOver RX6 19 RX6 TX6 4 6 2 := ⟨by decide +kernel, rfl, by decide, by decide +kernel⟩
set_option maxRecDepth 20000 in
theorem f_X6_isOver_b16_ok {X : Cx} {G : Gx} {z : Rs} (O : Ok X G cX6_isOver RX6 1 wsX6_isOver (some .boolean) rm_X6_isOver) (N : Nat) (s0 : Int32) (h : Hp) (e : f_X6_isOver_b16 N s0 h = some z) : V X G 1 (QI X G z) h 16 [] [.int s0] := by
  unfold f_X6_isOver_b16 at e
  exact v_zret O dX6_isOver_16 e
set_option maxRecDepth 20000 in
theorem f_X6_isOver_ok {l : Launch} {G : Gx} {N : Nat} {h : Hp} {z : Rs} (e : f_X6_isOver N h = some z) : CI l G yX6_isOver wsX6_isOver rm_X6_isOver [.ref (G.1 4)] h z := by
  refine m_bool _ (by decide) rfl [(0, .ref (G.1 4))] rfl (Nat.le_of_ble_eq_true rfl) (fun X O => ?_)
  unfold f_X6_isOver at e
  refine v_aload_n O dX6_isOver_0 0 rfl rfl ?_
  refine v_get O fd_X6_isOver_19 (g25 O (by decide)) (cg_4 G _) rfl dX6_isOver_1 ?_
  refine v_aload_n O dX6_isOver_4 0 rfl rfl ?_
  refine v_get O fd_X6_isOver_15 (g25 O (by decide)) (cg_4 G _) rfl dX6_isOver_5 ?_
  refine v_icmp_lt O dX6_isOver_8 15 (by decide) e (fun e => ?_) (fun e => ?_)
  · refine v_iconst (v := 0) O dX6_isOver_15 (by decide) ?_
    refine v_sub [] rfl ?_
    exact f_X6_isOver_b16_ok O N _ _ e
  · refine v_iconst (v := 1) O dX6_isOver_11 (by decide) ?_
    refine v_goto O dX6_isOver_12 16 (by decide) ?_
    refine v_sub [] rfl ?_
    exact f_X6_isOver_b16_ok O N _ _ e
/-! ===== X6 isDigit ===== -/
abbrev rm_X6_isDigit : Room := { frames := 0, cells := 0, slots := 0, locals := 0 }
set_option maxRecDepth 20000 in
theorem f_X6_isDigit_b17_ok {X : Cx} {G : Gx} {z : Rs} (O : Ok X G cX6_isDigit RX6 1 wsX6_isDigit (some .boolean) rm_X6_isDigit) (N : Nat) (s0 : Int32) (h : Hp) (e : f_X6_isDigit_b17 N s0 h = some z) : V X G 1 (QI X G z) h 17 [] [.int s0] := by
  unfold f_X6_isDigit_b17 at e
  exact v_zret O dX6_isDigit_17 e
set_option maxRecDepth 20000 in
theorem f_X6_isDigit_b16_ok {X : Cx} {G : Gx} {z : Rs} (O : Ok X G cX6_isDigit RX6 1 wsX6_isDigit (some .boolean) rm_X6_isDigit) (N : Nat) (h : Hp) (e : f_X6_isDigit_b16 N h = some z) : V X G 1 (QI X G z) h 16 [] [] := by
  unfold f_X6_isDigit_b16 at e
  refine v_iconst (v := 0) O dX6_isDigit_16 (by decide) ?_
  exact f_X6_isDigit_b17_ok O N _ _ e
set_option maxRecDepth 20000 in
theorem f_X6_isDigit_ok {l : Launch} {G : Gx} {N : Nat} {a0 : Int32} {h : Hp} {z : Rs} (e : f_X6_isDigit N a0 h = some z) : CI l G yX6_isDigit wsX6_isDigit rm_X6_isDigit [.int a0] h z := by
  refine m_bool _ (by decide) rfl [(0, .int a0)] rfl (Nat.le_of_ble_eq_true rfl) (fun X O => ?_)
  unfold f_X6_isDigit at e
  refine v_iload_n O dX6_isDigit_0 0 rfl rfl ?_
  refine v_bipush (v := 48) O dX6_isDigit_1 (by decide) ?_
  refine v_icmp_lt O dX6_isDigit_3 16 (by decide) e (fun e => ?_) (fun e => ?_)
  · refine v_sub [] rfl ?_
    exact f_X6_isDigit_b16_ok O N _ e
  · refine v_iload_n O dX6_isDigit_6 0 rfl rfl ?_
    refine v_bipush (v := 57) O dX6_isDigit_7 (by decide) ?_
    refine v_icmp_gt O dX6_isDigit_9 16 (by decide) e (fun e => ?_) (fun e => ?_)
    · refine v_sub [] rfl ?_
      exact f_X6_isDigit_b16_ok O N _ e
    · refine v_iconst (v := 1) O dX6_isDigit_12 (by decide) ?_
      refine v_goto O dX6_isDigit_13 17 (by decide) ?_
      refine v_sub [] rfl ?_
      exact f_X6_isDigit_b17_ok O N _ _ e
/-! ===== X6 isLetter ===== -/
abbrev rm_X6_isLetter : Room := { frames := 0, cells := 0, slots := 0, locals := 0 }
set_option maxRecDepth 20000 in
theorem f_X6_isLetter_b17_ok {X : Cx} {G : Gx} {z : Rs} (O : Ok X G cX6_isLetter RX6 1 wsX6_isLetter (some .boolean) rm_X6_isLetter) (N : Nat) (s0 : Int32) (h : Hp) (e : f_X6_isLetter_b17 N s0 h = some z) : V X G 1 (QI X G z) h 17 [] [.int s0] := by
  unfold f_X6_isLetter_b17 at e
  exact v_zret O dX6_isLetter_17 e
set_option maxRecDepth 20000 in
theorem f_X6_isLetter_b16_ok {X : Cx} {G : Gx} {z : Rs} (O : Ok X G cX6_isLetter RX6 1 wsX6_isLetter (some .boolean) rm_X6_isLetter) (N : Nat) (h : Hp) (e : f_X6_isLetter_b16 N h = some z) : V X G 1 (QI X G z) h 16 [] [] := by
  unfold f_X6_isLetter_b16 at e
  refine v_iconst (v := 0) O dX6_isLetter_16 (by decide) ?_
  exact f_X6_isLetter_b17_ok O N _ _ e
set_option maxRecDepth 20000 in
theorem f_X6_isLetter_ok {l : Launch} {G : Gx} {N : Nat} {a0 : Int32} {h : Hp} {z : Rs} (e : f_X6_isLetter N a0 h = some z) : CI l G yX6_isLetter wsX6_isLetter rm_X6_isLetter [.int a0] h z := by
  refine m_bool _ (by decide) rfl [(0, .int a0)] rfl (Nat.le_of_ble_eq_true rfl) (fun X O => ?_)
  unfold f_X6_isLetter at e
  refine v_iload_n O dX6_isLetter_0 0 rfl rfl ?_
  refine v_bipush (v := 97) O dX6_isLetter_1 (by decide) ?_
  refine v_icmp_lt O dX6_isLetter_3 16 (by decide) e (fun e => ?_) (fun e => ?_)
  · refine v_sub [] rfl ?_
    exact f_X6_isLetter_b16_ok O N _ e
  · refine v_iload_n O dX6_isLetter_6 0 rfl rfl ?_
    refine v_bipush (v := 122) O dX6_isLetter_7 (by decide) ?_
    refine v_icmp_gt O dX6_isLetter_9 16 (by decide) e (fun e => ?_) (fun e => ?_)
    · refine v_sub [] rfl ?_
      exact f_X6_isLetter_b16_ok O N _ e
    · refine v_iconst (v := 1) O dX6_isLetter_12 (by decide) ?_
      refine v_goto O dX6_isLetter_13 17 (by decide) ?_
      refine v_sub [] rfl ?_
      exact f_X6_isLetter_b17_ok O N _ _ e
/-! ===== X6 joins ===== -/
abbrev rm_X6_joins : Room := { frames := 1, cells := 0, slots := 0, locals := 20 }
theorem cw_X6_joins_X6_isDigit : CwO rm_X6_joins yX6_isDigit wsX6_isDigit cX6_isDigit 1 (some .boolean) rm_X6_isDigit 1 := ⟨⟨_, rfl⟩, rfl, rfl, by decide +kernel, by decide, by decide⟩
theorem cw_X6_joins_X6_isLetter : CwO rm_X6_joins yX6_isLetter wsX6_isLetter cX6_isLetter 1 (some .boolean) rm_X6_isLetter 1 := ⟨⟨_, rfl⟩, rfl, rfl, by decide +kernel, by decide, by decide⟩
set_option maxRecDepth 20000 in
theorem f_X6_joins_b33_ok {X : Cx} {G : Gx} {z : Rs} (O : Ok X G cX6_joins RX6 2 wsX6_joins (some .boolean) rm_X6_joins) (N : Nat) (s0 : Int32) (h : Hp) (e : f_X6_joins_b33 N s0 h = some z) : V X G 2 (QI X G z) h 33 [] [.int s0] := by
  unfold f_X6_joins_b33 at e
  exact v_zret O dX6_joins_33 e
set_option maxRecDepth 20000 in
theorem f_X6_joins_b28_ok {X : Cx} {G : Gx} {z : Rs} (O : Ok X G cX6_joins RX6 2 wsX6_joins (some .boolean) rm_X6_joins) (N : Nat) (h : Hp) (e : f_X6_joins_b28 N h = some z) : V X G 2 (QI X G z) h 28 [] [] := by
  unfold f_X6_joins_b28 at e
  refine v_iconst (v := 1) O dX6_joins_28 (by decide) ?_
  refine v_goto O dX6_joins_29 33 (by decide) ?_
  exact f_X6_joins_b33_ok O N _ _ e
set_option maxRecDepth 20000 in
theorem f_X6_joins_b32_ok {X : Cx} {G : Gx} {z : Rs} (O : Ok X G cX6_joins RX6 2 wsX6_joins (some .boolean) rm_X6_joins) (N : Nat) (h : Hp) (e : f_X6_joins_b32 N h = some z) : V X G 2 (QI X G z) h 32 [] [] := by
  unfold f_X6_joins_b32 at e
  refine v_iconst (v := 0) O dX6_joins_32 (by decide) ?_
  exact f_X6_joins_b33_ok O N _ _ e
set_option maxRecDepth 20000 in
theorem f_X6_joins_b14_ok {X : Cx} {G : Gx} {z : Rs} (O : Ok X G cX6_joins RX6 2 wsX6_joins (some .boolean) rm_X6_joins) (N : Nat) (v0 : Int32) (v1 : Int32) (h : Hp) (e : f_X6_joins_b14 N v0 v1 h = some z) : V X G 2 (QI X G z) h 14 [(0, .int v0), (1, .int v1)] [] := by
  unfold f_X6_joins_b14 at e
  refine v_iload_n O dX6_joins_14 0 rfl rfl ?_
  refine v_cSi O [.int v0] [] gX6_joins_X6_isDigit cw_X6_joins_X6_isDigit rfl rfl (Nat.le_of_ble_eq_true rfl) dX6_joins_15 e (fun _ e9 => f_X6_isDigit_ok e9) (fun r1 h2 e => ?_)
  refine v_if_eq O dX6_joins_18 32 (by decide) e (fun e => ?_) (fun e => ?_)
  · refine v_sub [] rfl ?_
    exact f_X6_joins_b32_ok O N _ e
  · refine v_iload_n O dX6_joins_21 1 rfl rfl ?_
    refine v_cSi O [.int v1] [] gX6_joins_X6_isDigit cw_X6_joins_X6_isDigit rfl rfl (Nat.le_of_ble_eq_true rfl) dX6_joins_22 e (fun _ e9 => f_X6_isDigit_ok e9) (fun r3 h4 e => ?_)
    refine v_if_eq O dX6_joins_25 32 (by decide) e (fun e => ?_) (fun e => ?_)
    · refine v_sub [] rfl ?_
      exact f_X6_joins_b32_ok O N _ e
    · refine v_sub [] rfl ?_
      exact f_X6_joins_b28_ok O N _ e
set_option maxRecDepth 20000 in
theorem f_X6_joins_ok {l : Launch} {G : Gx} {N : Nat} {a0 : Int32} {a1 : Int32} {h : Hp} {z : Rs} (e : f_X6_joins N a0 a1 h = some z) : CI l G yX6_joins wsX6_joins rm_X6_joins [.int a0, .int a1] h z := by
  refine m_bool _ (by decide) rfl [(0, .int a0), (1, .int a1)] rfl (Nat.le_of_ble_eq_true rfl) (fun X O => ?_)
  unfold f_X6_joins at e
  refine v_iload_n O dX6_joins_0 0 rfl rfl ?_
  refine v_cSi O [.int a0] [] gX6_joins_X6_isLetter cw_X6_joins_X6_isLetter rfl rfl (Nat.le_of_ble_eq_true rfl) dX6_joins_1 e (fun _ e9 => f_X6_isLetter_ok e9) (fun r1 h2 e => ?_)
  refine v_if_eq O dX6_joins_4 14 (by decide) e (fun e => ?_) (fun e => ?_)
  · exact f_X6_joins_b14_ok O N _ _ _ e
  · refine v_iload_n O dX6_joins_7 1 rfl rfl ?_
    refine v_cSi O [.int a1] [] gX6_joins_X6_isLetter cw_X6_joins_X6_isLetter rfl rfl (Nat.le_of_ble_eq_true rfl) dX6_joins_8 e (fun _ e9 => f_X6_isLetter_ok e9) (fun r3 h4 e => ?_)
    refine v_if_ne O dX6_joins_11 28 (by decide) e (fun e => ?_) (fun e => ?_)
    · refine v_sub [] rfl ?_
      exact f_X6_joins_b28_ok O N _ e
    · exact f_X6_joins_b14_ok O N _ _ _ e
/-! ===== X6 next ===== -/
abbrev rm_X6_next : Room := { frames := 2, cells := 0, slots := 0, locals := 41 }
theorem fd_X6_next_9 : FdO wsX6_next RX6 9 RX6 TX6 4 6 0 := ⟨by decide +kernel, rfl, by decide, by decide +kernel⟩
theorem fd_X6_next_15 : FdO wsX6_next RX6 15 RX6 TX6 4 6 1 := ⟨by decide +kernel, rfl, by decide, by decide +kernel⟩
theorem fd_X6_next_19 : FdO wsX6_next RX6 19 RX6 TX6 4 6 2 := ⟨by decide +kernel, rfl, by decide, by decide +kernel⟩
theorem fd_X6_next_22 : FdO wsX6_next RX6 22 RX6 TX6 4 6 3 := ⟨by decide +kernel, rfl, by decide, by decide +kernel⟩
theorem cw_X6_next_X6_joins : CwO rm_X6_next yX6_joins wsX6_joins cX6_joins 2 (some .boolean) rm_X6_joins 2 := ⟨⟨_, rfl⟩, rfl, rfl, by decide +kernel, by decide, by decide⟩
set_option maxRecDepth 20000 in
theorem f_X6_next_b124_ok {X : Cx} {G : Gx} {z : Rs} (O : Ok X G cX6_next RX6 1 wsX6_next (none) rm_X6_next) (N : Nat) (h : Hp) (e : f_X6_next_b124 N h = some z) : V X G 1 (QV X G z) h 124 [] [] := by
  unfold f_X6_next_b124 at e
  exact v_vret O dX6_next_124 e
set_option maxRecDepth 20000 in
theorem f_X6_next_b76_ok {X : Cx} {G : Gx} {z : Rs} (O : Ok X G cX6_next RX6 1 wsX6_next (none) rm_X6_next) (N : Nat) (k76 : Hp → Option Rs) (hk76 : ∀ (h : Hp), k76 h = some z → V X G 1 (QV X G z) h 76 [(0, .ref (G.1 4))] []) (h : Hp) (e : f_X6_next_b76 N k76 h = some z) : V X G 1 (QV X G z) h 76 [(0, .ref (G.1 4))] [] := by
  unfold f_X6_next_b76 at e
  refine v_aload_n O dX6_next_76 0 rfl rfl ?_
  refine v_get O fd_X6_next_22 (g25 O (by decide)) (cg_4 G _) rfl dX6_next_77 ?_
  refine v_aload_n O dX6_next_80 0 rfl rfl ?_
  refine v_get O fd_X6_next_15 (g25 O (by decide)) (cg_4 G _) rfl dX6_next_81 ?_
  refine v_icmp_ge O dX6_next_84 124 (by decide) e (fun e => ?_) (fun e => ?_)
  · refine v_sub [] rfl ?_
    exact f_X6_next_b124_ok O N _ e
  · refine v_aload_n O dX6_next_87 0 rfl rfl ?_
    refine v_get O fd_X6_next_9 (g25 O (by decide)) (cg_4 G _) rfl dX6_next_88 ?_
    refine v_aload_n O dX6_next_91 0 rfl rfl ?_
    refine v_get O fd_X6_next_19 (g25 O (by decide)) (cg_4 G _) rfl dX6_next_92 ?_
    refine v_iald O (g25 O (by decide)) (cg_5 G _) dX6_next_95 e (fun e => ?_)
    refine v_aload_n O dX6_next_96 0 rfl rfl ?_
    refine v_get O fd_X6_next_9 (g25 O (by decide)) (cg_4 G _) rfl dX6_next_97 ?_
    refine v_aload_n O dX6_next_100 0 rfl rfl ?_
    refine v_get O fd_X6_next_22 (g25 O (by decide)) (cg_4 G _) rfl dX6_next_101 ?_
    refine v_iald O (g25 O (by decide)) (cg_5 G _) dX6_next_104 e (fun e => ?_)
    refine v_cSi O [.int (h.1 5 (ix (h.1 4 2))), .int (h.1 5 (ix (h.1 4 3)))] [] gX6_next_X6_joins cw_X6_next_X6_joins rfl rfl (Nat.le_of_ble_eq_true rfl) dX6_next_105 e (fun _ e9 => f_X6_joins_ok e9) (fun r1 h2 e => ?_)
    refine v_if_eq O dX6_next_108 124 (by decide) e (fun e => ?_) (fun e => ?_)
    · refine v_sub [] rfl ?_
      exact f_X6_next_b124_ok O N _ e
    · refine v_aload_n O dX6_next_111 0 rfl rfl ?_
      refine v_dup O dX6_next_112 rfl ?_
      refine v_get O fd_X6_next_22 (g25 O (by decide)) (cg_4 G _) rfl dX6_next_113 ?_
      refine v_iconst (v := 1) O dX6_next_116 (by decide) ?_
      refine v_iadd O dX6_next_117 ?_
      refine v_put O fd_X6_next_22 fp_X6_3 (g25 O (by decide)) (cg_4 G _) (Nat.le_of_ble_eq_true rfl) (cs_4_3 G _ _) dX6_next_118 e (fun h3 e => ?_)
      refine v_goto O dX6_next_121 76 (by decide) ?_
      exact hk76 _ e
theorem f_X6_next_l76_ok {X : Cx} {G : Gx} {z : Rs} (O : Ok X G cX6_next RX6 1 wsX6_next (none) rm_X6_next) (N : Nat) : ∀ (n : Nat) (h : Hp), f_X6_next_l76 N n h = some z → V X G 1 (QV X G z) h 76 [(0, .ref (G.1 4))] [] := by
  intro n
  induction n with
  | zero => intro h e; cases e
  | succ n ih => intro h e; exact f_X6_next_b76_ok O N _ ih h e
set_option maxRecDepth 20000 in
theorem f_X6_next_b46_ok {X : Cx} {G : Gx} {z : Rs} (O : Ok X G cX6_next RX6 1 wsX6_next (none) rm_X6_next) (N : Nat) (h : Hp) (e : f_X6_next_b46 N h = some z) : V X G 1 (QV X G z) h 46 [(0, .ref (G.1 4))] [] := by
  unfold f_X6_next_b46 at e
  refine v_aload_n O dX6_next_46 0 rfl rfl ?_
  refine v_aload_n O dX6_next_47 0 rfl rfl ?_
  refine v_get O fd_X6_next_19 (g25 O (by decide)) (cg_4 G _) rfl dX6_next_48 ?_
  refine v_put O fd_X6_next_22 fp_X6_3 (g25 O (by decide)) (cg_4 G _) (Nat.le_of_ble_eq_true rfl) (cs_4_3 G _ _) dX6_next_51 e (fun h1 e => ?_)
  refine v_aload_n O dX6_next_54 0 rfl rfl ?_
  refine v_get O fd_X6_next_19 (g25 O (by decide)) (cg_4 G _) rfl dX6_next_55 ?_
  refine v_aload_n O dX6_next_58 0 rfl rfl ?_
  refine v_get O fd_X6_next_15 (g25 O (by decide)) (cg_4 G _) rfl dX6_next_59 ?_
  refine v_icmp_lt O dX6_next_62 66 (by decide) e (fun e => ?_) (fun e => ?_)
  · refine v_aload_n O dX6_next_66 0 rfl rfl ?_
    refine v_dup O dX6_next_67 rfl ?_
    refine v_get O fd_X6_next_22 (g25 O (by decide)) (cg_4 G _) rfl dX6_next_68 ?_
    refine v_iconst (v := 1) O dX6_next_71 (by decide) ?_
    refine v_iadd O dX6_next_72 ?_
    refine v_put O fd_X6_next_22 fp_X6_3 (g25 O (by decide)) (cg_4 G _) (Nat.le_of_ble_eq_true rfl) (cs_4_3 G _ _) dX6_next_73 e (fun h2 e => ?_)
    exact f_X6_next_l76_ok O N N _ e
  · exact v_vret O dX6_next_65 e
set_option maxRecDepth 20000 in
theorem f_X6_next_b8_ok {X : Cx} {G : Gx} {z : Rs} (O : Ok X G cX6_next RX6 1 wsX6_next (none) rm_X6_next) (N : Nat) (k8 : Hp → Option Rs) (hk8 : ∀ (h : Hp), k8 h = some z → V X G 1 (QV X G z) h 8 [(0, .ref (G.1 4))] []) (h : Hp) (e : f_X6_next_b8 N k8 h = some z) : V X G 1 (QV X G z) h 8 [(0, .ref (G.1 4))] [] := by
  unfold f_X6_next_b8 at e
  refine v_aload_n O dX6_next_8 0 rfl rfl ?_
  refine v_get O fd_X6_next_19 (g25 O (by decide)) (cg_4 G _) rfl dX6_next_9 ?_
  refine v_aload_n O dX6_next_12 0 rfl rfl ?_
  refine v_get O fd_X6_next_15 (g25 O (by decide)) (cg_4 G _) rfl dX6_next_13 ?_
  refine v_icmp_ge O dX6_next_16 46 (by decide) e (fun e => ?_) (fun e => ?_)
  · exact f_X6_next_b46_ok O N _ e
  · refine v_aload_n O dX6_next_19 0 rfl rfl ?_
    refine v_get O fd_X6_next_9 (g25 O (by decide)) (cg_4 G _) rfl dX6_next_20 ?_
    refine v_aload_n O dX6_next_23 0 rfl rfl ?_
    refine v_get O fd_X6_next_19 (g25 O (by decide)) (cg_4 G _) rfl dX6_next_24 ?_
    refine v_iald O (g25 O (by decide)) (cg_5 G _) dX6_next_27 e (fun e => ?_)
    refine v_bipush (v := 32) O dX6_next_28 (by decide) ?_
    refine v_icmp_ne O dX6_next_30 46 (by decide) e (fun e => ?_) (fun e => ?_)
    · exact f_X6_next_b46_ok O N _ e
    · refine v_aload_n O dX6_next_33 0 rfl rfl ?_
      refine v_dup O dX6_next_34 rfl ?_
      refine v_get O fd_X6_next_19 (g25 O (by decide)) (cg_4 G _) rfl dX6_next_35 ?_
      refine v_iconst (v := 1) O dX6_next_38 (by decide) ?_
      refine v_iadd O dX6_next_39 ?_
      refine v_put O fd_X6_next_19 fp_X6_2 (g25 O (by decide)) (cg_4 G _) (Nat.le_of_ble_eq_true rfl) (cs_4_2 G _ _) dX6_next_40 e (fun h1 e => ?_)
      refine v_goto O dX6_next_43 8 (by decide) ?_
      exact hk8 _ e
theorem f_X6_next_l8_ok {X : Cx} {G : Gx} {z : Rs} (O : Ok X G cX6_next RX6 1 wsX6_next (none) rm_X6_next) (N : Nat) : ∀ (n : Nat) (h : Hp), f_X6_next_l8 N n h = some z → V X G 1 (QV X G z) h 8 [(0, .ref (G.1 4))] [] := by
  intro n
  induction n with
  | zero => intro h e; cases e
  | succ n ih => intro h e; exact f_X6_next_b8_ok O N _ ih h e
set_option maxRecDepth 20000 in
theorem f_X6_next_ok {l : Launch} {G : Gx} {N : Nat} {h : Hp} {z : Rs} (e : f_X6_next N h = some z) : CV l G yX6_next wsX6_next rm_X6_next [.ref (G.1 4)] h z := by
  refine m_void _ (by decide) rfl [(0, .ref (G.1 4))] rfl (Nat.le_of_ble_eq_true rfl) (fun X O => ?_)
  unfold f_X6_next at e
  refine v_aload_n O dX6_next_0 0 rfl rfl ?_
  refine v_aload_n O dX6_next_1 0 rfl rfl ?_
  refine v_get O fd_X6_next_22 (g25 O (by decide)) (cg_4 G _) rfl dX6_next_2 ?_
  refine v_put O fd_X6_next_19 fp_X6_2 (g25 O (by decide)) (cg_4 G _) (Nat.le_of_ble_eq_true rfl) (cs_4_2 G _ _) dX6_next_5 e (fun h1 e => ?_)
  exact f_X6_next_l8_ok O N N _ e
/-! ===== X6 spells ===== -/
abbrev rm_X6_spells : Room := { frames := 4, cells := 0, slots := 0, locals := 85 }
theorem fd_X6_spells_9 : FdO wsX6_spells RX6 9 RX6 TX6 4 6 0 := ⟨by decide +kernel, rfl, by decide, by decide +kernel⟩
theorem fd_X6_spells_19 : FdO wsX6_spells RX6 19 RX6 TX6 4 6 2 := ⟨by decide +kernel, rfl, by decide, by decide +kernel⟩
theorem fd_X6_spells_22 : FdO wsX6_spells RX6 22 RX6 TX6 4 6 3 := ⟨by decide +kernel, rfl, by decide, by decide +kernel⟩
theorem cw_X6_spells_J0_charAt_5068e : CwO rm_X6_spells yJ0_charAt_5068e wsJ0_charAt_5068e cJ0_charAt_5068e 2 (some .char) rm_J0_charAt_5068e 1 := ⟨⟨_, rfl⟩, rfl, rfl, by decide +kernel, by decide, by decide⟩
theorem cw_X6_spells_J0_length_8abf5 : CwO rm_X6_spells yJ0_length_8abf5 wsJ0_length_8abf5 cJ0_length_8abf5 1 (some .int) rm_J0_length_8abf5 0 := ⟨⟨_, rfl⟩, rfl, rfl, by decide +kernel, by decide, by decide⟩
set_option maxRecDepth 20000 in
theorem f_X6_spells_b20_ok {X : Cx} {G : Gx} {z : Rs} {i : Nat} (hi : i < 11) (O : Ok X G cX6_spells RX6 3 wsX6_spells (some .boolean) rm_X6_spells) (N : Nat) (k20 : Int32 → Hp → Option Rs) (hk20 : ∀ (v2 : Int32) (h : Hp), k20 v2 h = some z → V X G 3 (QI X G z) h 20 [(0, .ref (G.1 4)), (1, .ref (gK G i)), (2, .int v2)] []) (v2 : Int32) (h : Hp) (e : f_X6_spells_b20 i N k20 v2 h = some z) : V X G 3 (QI X G z) h 20 [(0, .ref (G.1 4)), (1, .ref (gK G i)), (2, .int v2)] [] := by
  unfold f_X6_spells_b20 at e
  refine v_iload_n O dX6_spells_20 2 rfl rfl ?_
  refine v_aload_n O dX6_spells_21 1 rfl rfl ?_
  refine v_cSti O hi [] [.int v2] gX6_spells_J0_length_8abf5 cw_X6_spells_J0_length_8abf5 rfl rfl rfl (Nat.le_of_ble_eq_true rfl) dX6_spells_22 e (fun _ e9 => f_J0_length_8abf5_ok hi e9) (fun r1 h2 e => ?_)
  refine v_icmp_ge O dX6_spells_25 55 (by decide) e (fun e => ?_) (fun e => ?_)
  · refine v_iconst (v := 1) O dX6_spells_55 (by decide) ?_
    exact v_zret O dX6_spells_56 e
  · refine v_aload_n O dX6_spells_28 0 rfl rfl ?_
    refine v_get O fd_X6_spells_9 (g25 O (by decide)) (cg_4 G _) rfl dX6_spells_29 ?_
    refine v_aload_n O dX6_spells_32 0 rfl rfl ?_
    refine v_get O fd_X6_spells_19 (g25 O (by decide)) (cg_4 G _) rfl dX6_spells_33 ?_
    refine v_iload_n O dX6_spells_36 2 rfl rfl ?_
    refine v_iadd O dX6_spells_37 ?_
    refine v_iald O (g25 O (by decide)) (cg_5 G _) dX6_spells_38 e (fun e => ?_)
    refine v_aload_n O dX6_spells_39 1 rfl rfl ?_
    refine v_iload_n O dX6_spells_40 2 rfl rfl ?_
    refine v_cSti O hi [.int v2] [.int (h2.1 5 (ix ((h2.1 4 2) + v2)))] gX6_spells_J0_charAt_5068e cw_X6_spells_J0_charAt_5068e rfl rfl rfl (Nat.le_of_ble_eq_true rfl) dX6_spells_41 e (fun _ e9 => f_J0_charAt_5068e_ok hi e9) (fun r3 h4 e => ?_)
    refine v_icmp_eq O dX6_spells_44 49 (by decide) e (fun e => ?_) (fun e => ?_)
    · refine v_iinc (v := 1) O dX6_spells_49 2 rfl (by decide) (by decide) (fun x5 => [(2, .int x5), (0, .ref (G.1 4)), (1, .ref (gK G i))]) (fun _ => rfl) e (fun x5 e => ?_)
      refine v_goto O dX6_spells_52 20 (by decide) ?_
      refine v_sub [1, 2, 0] rfl ?_
      exact hk20 _ _ e
    · refine v_iconst (v := 0) O dX6_spells_47 (by decide) ?_
      exact v_zret O dX6_spells_48 e
theorem f_X6_spells_l20_ok {X : Cx} {G : Gx} {z : Rs} {i : Nat} (hi : i < 11) (O : Ok X G cX6_spells RX6 3 wsX6_spells (some .boolean) rm_X6_spells) (N : Nat) : ∀ (n : Nat) (v2 : Int32) (h : Hp), f_X6_spells_l20 i N n v2 h = some z → V X G 3 (QI X G z) h 20 [(0, .ref (G.1 4)), (1, .ref (gK G i)), (2, .int v2)] [] := by
  intro n
  induction n with
  | zero => intro v2 h e; cases e
  | succ n ih => intro v2 h e; exact f_X6_spells_b20_ok hi O N _ ih v2 h e
set_option maxRecDepth 20000 in
theorem f_X6_spells_ok {l : Launch} {G : Gx} {N : Nat} {i : Nat} (hi : i < 11) {h : Hp} {z : Rs} (e : f_X6_spells i N h = some z) : CI l G yX6_spells wsX6_spells rm_X6_spells [.ref (G.1 4), .ref (gK G i)] h z := by
  refine m_bool _ (by decide) rfl [(0, .ref (G.1 4)), (1, .ref (gK G i))] rfl (Nat.le_of_ble_eq_true rfl) (fun X O => ?_)
  unfold f_X6_spells at e
  refine v_aload_n O dX6_spells_0 0 rfl rfl ?_
  refine v_get O fd_X6_spells_22 (g25 O (by decide)) (cg_4 G _) rfl dX6_spells_1 ?_
  refine v_aload_n O dX6_spells_4 0 rfl rfl ?_
  refine v_get O fd_X6_spells_19 (g25 O (by decide)) (cg_4 G _) rfl dX6_spells_5 ?_
  refine v_isub O dX6_spells_8 ?_
  refine v_aload_n O dX6_spells_9 1 rfl rfl ?_
  refine v_cSti O hi [] [.int ((h.1 4 3) - (h.1 4 2))] gX6_spells_J0_length_8abf5 cw_X6_spells_J0_length_8abf5 rfl rfl rfl (Nat.le_of_ble_eq_true rfl) dX6_spells_10 e (fun _ e9 => f_J0_length_8abf5_ok hi e9) (fun r1 h2 e => ?_)
  refine v_icmp_eq O dX6_spells_13 18 (by decide) e (fun e => ?_) (fun e => ?_)
  · refine v_iconst (v := 0) O dX6_spells_18 (by decide) ?_
    refine v_istore_n O dX6_spells_19 rfl (by decide) (fun x3 => [(2, .int x3), (0, .ref (G.1 4)), (1, .ref (gK G i))]) (fun _ => rfl) e (fun x3 e => ?_)
    refine v_sub [1, 2, 0] rfl ?_
    exact f_X6_spells_l20_ok hi O N N _ _ e
  · refine v_iconst (v := 0) O dX6_spells_16 (by decide) ?_
    exact v_zret O dX6_spells_17 e
/-! ===== X3 readBehindLine ===== -/
abbrev rm_X3_readBehindLine : Room := { frames := 5, cells := 0, slots := 0, locals := 107 }
theorem fd_X3_readBehindLine_18 : FdO wsX3_readBehindLine RX3 18 RX3 TX3 4 3 3 := ⟨by decide +kernel, rfl, by decide, by decide +kernel⟩
theorem fd_X3_readBehindLine_26 : FdO wsX3_readBehindLine RX3 26 RX3 TX3 4 3 1 := ⟨by decide +kernel, rfl, by decide, by decide +kernel⟩
theorem fd_X3_readBehindLine_30 : FdO wsX3_readBehindLine RX3 30 RX3 TX3 4 3 2 := ⟨by decide +kernel, rfl, by decide, by decide +kernel⟩
theorem cw_X3_readBehindLine_X3_refuseIf : CwO rm_X3_readBehindLine yX3_refuseIf wsX3_refuseIf cX3_refuseIf 2 (none) rm_X3_refuseIf 1 := ⟨⟨_, rfl⟩, rfl, rfl, by decide +kernel, by decide, by decide⟩
theorem cw_X3_readBehindLine_X6_isOver : CwO rm_X3_readBehindLine yX6_isOver wsX6_isOver cX6_isOver 1 (some .boolean) rm_X6_isOver 0 := ⟨⟨_, rfl⟩, rfl, rfl, by decide +kernel, by decide, by decide⟩
theorem cw_X3_readBehindLine_X6_next : CwO rm_X3_readBehindLine yX6_next wsX6_next cX6_next 1 (none) rm_X6_next 0 := ⟨⟨_, rfl⟩, rfl, rfl, by decide +kernel, by decide, by decide⟩
theorem cw_X3_readBehindLine_X6_spells : CwO rm_X3_readBehindLine yX6_spells wsX6_spells cX6_spells 3 (some .boolean) rm_X6_spells 1 := ⟨⟨_, rfl⟩, rfl, rfl, by decide +kernel, by decide, by decide⟩
set_option maxRecDepth 20000 in
theorem f_X3_readBehindLine_b72_ok {X : Cx} {G : Gx} {z : Rs} (O : Ok X G cX3_readBehindLine RX3 1 wsX3_readBehindLine (some .boolean) rm_X3_readBehindLine) (N : Nat) (s0 : Int32) (h : Hp) (e : f_X3_readBehindLine_b72 N s0 h = some z) : V X G 1 (QI X G z) h 72 [] [.int s0] := by
  unfold f_X3_readBehindLine_b72 at e
  exact v_zret O dX3_readBehindLine_72 e
set_option maxRecDepth 20000 in
theorem f_X3_readBehindLine_b56_ok {X : Cx} {G : Gx} {z : Rs} (O : Ok X G cX3_readBehindLine RX3 1 wsX3_readBehindLine (some .boolean) rm_X3_readBehindLine) (N : Nat) (s0 : Int32) (h : Hp) (e : f_X3_readBehindLine_b56 N s0 h = some z) : V X G 1 (QI X G z) h 56 [(0, .ref (G.1 6))] [.int s0, .ref (G.1 6)] := by
  unfold f_X3_readBehindLine_b56 at e
  refine v_cVv O [.int s0] [] gX3_readBehindLine_X3_refuseIf cw_X3_readBehindLine_X3_refuseIf rfl rfl (g25 O (by decide)) (cg_6 G _) rfl rfl (Nat.le_of_ble_eq_true rfl) dX3_readBehindLine_56 e (fun _ e9 => f_X3_refuseIf_ok e9) (fun _ h1 e => ?_)
  refine v_aload_n O dX3_readBehindLine_59 0 rfl rfl ?_
  refine v_get O fd_X3_readBehindLine_26 (g25 O (by decide)) (cg_6 G _) rfl dX3_readBehindLine_60 ?_
  refine v_iconst (v := (-1)) O dX3_readBehindLine_63 (by decide) ?_
  refine v_icmp_ne O dX3_readBehindLine_64 71 (by decide) e (fun e => ?_) (fun e => ?_)
  · refine v_iconst (v := 0) O dX3_readBehindLine_71 (by decide) ?_
    refine v_sub [] rfl ?_
    exact f_X3_readBehindLine_b72_ok O N _ _ e
  · refine v_iconst (v := 1) O dX3_readBehindLine_67 (by decide) ?_
    refine v_goto O dX3_readBehindLine_68 72 (by decide) ?_
    refine v_sub [] rfl ?_
    exact f_X3_readBehindLine_b72_ok O N _ _ e
set_option maxRecDepth 20000 in
theorem f_X3_readBehindLine_b51_ok {X : Cx} {G : Gx} {z : Rs} (O : Ok X G cX3_readBehindLine RX3 1 wsX3_readBehindLine (some .boolean) rm_X3_readBehindLine) (N : Nat) (h : Hp) (e : f_X3_readBehindLine_b51 N h = some z) : V X G 1 (QI X G z) h 51 [(0, .ref (G.1 6))] [.ref (G.1 6)] := by
  unfold f_X3_readBehindLine_b51 at e
  refine v_iconst (v := 1) O dX3_readBehindLine_51 (by decide) ?_
  refine v_goto O dX3_readBehindLine_52 56 (by decide) ?_
  exact f_X3_readBehindLine_b56_ok O N _ _ e
set_option maxRecDepth 20000 in
theorem f_X3_readBehindLine_ok {l : Launch} {G : Gx} {N : Nat} {h : Hp} {z : Rs} (e : f_X3_readBehindLine N h = some z) : CI l G yX3_readBehindLine wsX3_readBehindLine rm_X3_readBehindLine [.ref (G.1 6)] h z := by
  refine m_bool _ (by decide) rfl [(0, .ref (G.1 6))] rfl (Nat.le_of_ble_eq_true rfl) (fun X O => ?_)
  unfold f_X3_readBehindLine at e
  refine v_aload_n O dX3_readBehindLine_0 0 rfl rfl ?_
  refine v_get O fd_X3_readBehindLine_26 (g25 O (by decide)) (cg_6 G _) rfl dX3_readBehindLine_1 ?_
  refine v_iconst (v := (-1)) O dX3_readBehindLine_4 (by decide) ?_
  refine v_icmp_eq O dX3_readBehindLine_5 10 (by decide) e (fun e => ?_) (fun e => ?_)
  · refine v_aload_n O dX3_readBehindLine_10 0 rfl rfl ?_
    refine v_get O fd_X3_readBehindLine_18 (g25 O (by decide)) (cg_6 G _) rfl dX3_readBehindLine_11 ?_
    refine v_cVv O [] [] gX3_readBehindLine_X6_next cw_X3_readBehindLine_X6_next rfl rfl (g25 O (by decide)) (cg_4 G _) rfl rfl (Nat.le_of_ble_eq_true rfl) dX3_readBehindLine_14 e (fun _ e9 => f_X6_next_ok e9) (fun _ h1 e => ?_)
    refine v_aload_n O dX3_readBehindLine_17 0 rfl rfl ?_
    refine v_get O fd_X3_readBehindLine_18 (g25 O (by decide)) (cg_6 G _) rfl dX3_readBehindLine_18 ?_
    refine v_cVi O [] [] gX3_readBehindLine_X6_isOver cw_X3_readBehindLine_X6_isOver rfl rfl (g25 O (by decide)) (cg_4 G _) rfl rfl (Nat.le_of_ble_eq_true rfl) dX3_readBehindLine_21 e (fun _ e9 => f_X6_isOver_ok e9) (fun r2 h3 e => ?_)
    refine v_if_eq O dX3_readBehindLine_24 29 (by decide) e (fun e => ?_) (fun e => ?_)
    · refine v_aload_n O dX3_readBehindLine_29 0 rfl rfl ?_
      refine v_aload_n O dX3_readBehindLine_30 0 rfl rfl ?_
      refine v_get O fd_X3_readBehindLine_18 (g25 O (by decide)) (cg_6 G _) rfl dX3_readBehindLine_31 ?_
      refine v_ldcS O 10 (by decide) dX3_readBehindLine_34 ?_
      refine v_cVi O [.ref (gK G 10)] [.ref (G.1 6)] gX3_readBehindLine_X6_spells cw_X3_readBehindLine_X6_spells rfl rfl (g25 O (by decide)) (cg_4 G _) rfl rfl (Nat.le_of_ble_eq_true rfl) dX3_readBehindLine_36 e (fun _ e9 => f_X6_spells_ok (by decide) e9) (fun r4 h5 e => ?_)
      refine v_if_eq O dX3_readBehindLine_39 51 (by decide) e (fun e => ?_) (fun e => ?_)
      · exact f_X3_readBehindLine_b51_ok O N _ e
      · refine v_aload_n O dX3_readBehindLine_42 0 rfl rfl ?_
        refine v_get O fd_X3_readBehindLine_30 (g25 O (by decide)) (cg_6 G _) rfl dX3_readBehindLine_43 ?_
        refine v_bipush (v := 12) O dX3_readBehindLine_46 (by decide) ?_
        refine v_icmp_lt O dX3_readBehindLine_48 55 (by decide) e (fun e => ?_) (fun e => ?_)
        · refine v_iconst (v := 0) O dX3_readBehindLine_55 (by decide) ?_
          exact f_X3_readBehindLine_b56_ok O N _ _ e
        · exact f_X3_readBehindLine_b51_ok O N _ e
    · refine v_iconst (v := 0) O dX3_readBehindLine_27 (by decide) ?_
      exact v_zret O dX3_readBehindLine_28 e
  · refine v_iconst (v := 0) O dX3_readBehindLine_8 (by decide) ?_
    exact v_zret O dX3_readBehindLine_9 e
/-! ===== X3 isHole ===== -/
abbrev rm_X3_isHole : Room := { frames := 1, cells := 0, slots := 0, locals := 21 }
theorem fd_X3_isHole_12 : FdO wsX3_isHole RX3 12 RX3 TX3 4 3 0 := ⟨by decide +kernel, rfl, by decide, by decide +kernel⟩
theorem fd_X3_isHole_122 : FdO wsX3_isHole RX3 122 RX5 TX5 9 5 2 := ⟨by decide +kernel, rfl, by decide, by decide +kernel⟩
theorem cw_X3_isHole_X7_bit : CwO rm_X3_isHole yX7_bit wsX7_bit cX7_bit 2 (some .int) rm_X7_bit 2 := ⟨⟨_, rfl⟩, rfl, rfl, by decide +kernel, by decide, by decide⟩
theorem sn_X3_isHole_X7_bit : Cond.static yX7_bit ∈ wsX3_isHole ∧ Cond.initialized yX7_bit.cls ∈ wsX3_isHole := ⟨by decide +kernel, by decide +kernel⟩
set_option maxRecDepth 20000 in
theorem f_X3_isHole_b20_ok {X : Cx} {G : Gx} {z : Rs} (O : Ok X G cX3_isHole RX3 2 wsX3_isHole (some .boolean) rm_X3_isHole) (N : Nat) (s0 : Int32) (h : Hp) (e : f_X3_isHole_b20 N s0 h = some z) : V X G 2 (QI X G z) h 20 [] [.int s0] := by
  unfold f_X3_isHole_b20 at e
  exact v_zret O dX3_isHole_20 e
set_option maxRecDepth 20000 in
theorem f_X3_isHole_ok {l : Launch} {G : Gx} {N : Nat} {a0 : Int32} {h : Hp} {z : Rs} (e : f_X3_isHole N a0 h = some z) : CI l G yX3_isHole wsX3_isHole rm_X3_isHole [.ref (G.1 6), .int a0] h z := by
  refine m_bool _ (by decide) rfl [(0, .ref (G.1 6)), (1, .int a0)] rfl (Nat.le_of_ble_eq_true rfl) (fun X O => ?_)
  unfold f_X3_isHole at e
  refine v_aload_n O dX3_isHole_0 0 rfl rfl ?_
  refine v_get O fd_X3_isHole_12 (g25 O (by decide)) (cg_6 G _) rfl dX3_isHole_1 ?_
  refine v_get O fd_X3_isHole_122 (g25 O (by decide)) (cg_7 G _) rfl dX3_isHole_4 ?_
  refine v_iload_n O dX3_isHole_7 1 rfl rfl ?_
  refine v_cNi O [.int (h.1 7 2), .int a0] [] 6 rfl gX3_isHole_X7_bit_n132 sn_X3_isHole_X7_bit.1 sn_X3_isHole_X7_bit.2 cw_X3_isHole_X7_bit rfl rfl (Nat.le_of_ble_eq_true rfl) dX3_isHole_8 e (fun _ e9 => f_X7_bit_ok e9) (fun r1 h2 e => ?_)
  refine v_iconst (v := 1) O dX3_isHole_11 (by decide) ?_
  refine v_icmp_ne O dX3_isHole_12 19 (by decide) e (fun e => ?_) (fun e => ?_)
  · refine v_iconst (v := 0) O dX3_isHole_19 (by decide) ?_
    refine v_sub [] rfl ?_
    exact f_X3_isHole_b20_ok O N _ _ e
  · refine v_iconst (v := 1) O dX3_isHole_15 (by decide) ?_
    refine v_goto O dX3_isHole_16 20 (by decide) ?_
    refine v_sub [] rfl ?_
    exact f_X3_isHole_b20_ok O N _ _ e
