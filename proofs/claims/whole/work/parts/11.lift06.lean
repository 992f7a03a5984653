/-! ===== X2 knot ===== -/
abbrev rm_X2_knot : Room := { frames := 2, cells := 0, slots := 0, locals := 50 }
theorem fd_X2_knot_9 : FdO wsX2_knot RX2 9 RX2 TX2 3 2 0 := ⟨by decide +kernel, rfl, by decide, by decide +kernel⟩
theorem fd_X2_knot_15 : FdO wsX2_knot RX2 15 RX2 TX2 3 2 1 := ⟨by decide +kernel, rfl, by decide, by decide +kernel⟩
theorem fd_X2_knot_19 : FdO wsX2_knot RX2 19 RX2 TX2 3 2 2 := ⟨by decide +kernel, rfl, by decide, by decide +kernel⟩
theorem cw_X2_knot_X0_reached : CwO rm_X2_knot yX0_reached wsX0_reached cX0_reached 10 (some .int) rm_X0_reached 4 := ⟨⟨_, rfl⟩, rfl, rfl, by decide +kernel, by decide, by decide⟩
theorem cw_X2_knot_X7_bit : CwO rm_X2_knot yX7_bit wsX7_bit cX7_bit 2 (some .int) rm_X7_bit 2 := ⟨⟨_, rfl⟩, rfl, rfl, by decide +kernel, by decide, by decide⟩
theorem sn_X2_knot_X7_bit : Cond.static yX7_bit ∈ wsX2_knot ∧ Cond.initialized yX7_bit.cls ∈ wsX2_knot := ⟨by decide +kernel, by decide +kernel⟩
set_option maxRecDepth 20000 in
theorem f_X2_knot_b48_ok {X : Cx} {G : Gx} {z : Rs} (O : Ok X G cX2_knot RX2 4 wsX2_knot (none) rm_X2_knot) (N : Nat) (k7 : Int32 → Int32 → Hp → Option Rs) (hk7 : ∀ (v1 : Int32) (v3 : Int32) (h : Hp), k7 v1 v3 h = some z → V X G 4 (QV X G z) h 7 [(0, .ref (G.1 13)), (1, .int v1), (3, .int v3)] []) (v1 : Int32) (v3 : Int32) (s0 : Int32) (s1 : Int32) (h : Hp) (e : f_X2_knot_b48 N k7 v1 v3 s0 s1 h = some z) : V X G 4 (QV X G z) h 48 [(0, .ref (G.1 13)), (1, .int v1), (3, .int v3)] [.int s0, .int s1, .ref (G.1 14)] := by
  unfold f_X2_knot_b48 at e
  refine v_iast O (g25 O (by decide)) (cg_14 G _) (cw_14 G _ _ _) dX2_knot_48 e (fun h1 e => ?_)
  refine v_iinc (v := 1) O dX2_knot_49 2 rfl (by decide) (by decide) (fun x2 => [(3, .int x2), (0, .ref (G.1 13)), (1, .int v1)]) (fun _ => rfl) e (fun x2 e => ?_)
  refine v_goto O dX2_knot_52 7 (by decide) ?_
  refine v_sub [1, 2, 0] rfl ?_
  exact hk7 _ _ _ e
set_option maxRecDepth 20000 in
theorem f_X2_knot_b7_ok {X : Cx} {G : Gx} {z : Rs} (O : Ok X G cX2_knot RX2 4 wsX2_knot (none) rm_X2_knot) (N : Nat) (k7 : Int32 → Int32 → Hp → Option Rs) (hk7 : ∀ (v1 : Int32) (v3 : Int32) (h : Hp), k7 v1 v3 h = some z → V X G 4 (QV X G z) h 7 [(0, .ref (G.1 13)), (1, .int v1), (3, .int v3)] []) (v1 : Int32) (v3 : Int32) (h : Hp) (e : f_X2_knot_b7 N k7 v1 v3 h = some z) : V X G 4 (QV X G z) h 7 [(0, .ref (G.1 13)), (1, .int v1), (3, .int v3)] [] := by
  unfold f_X2_knot_b7 at e
  refine v_iload_n O dX2_knot_7 2 rfl rfl ?_
  refine v_bipush (v := 12) O dX2_knot_8 (by decide) ?_
  refine v_icmp_ge O dX2_knot_10 55 (by decide) e (fun e => ?_) (fun e => ?_)
  · exact v_vret O dX2_knot_55 e
  · refine v_aload_n O dX2_knot_13 0 rfl rfl ?_
    refine v_get O fd_X2_knot_9 (g25 O (by decide)) (cg_13 G _) rfl dX2_knot_14 ?_
    refine v_iload_n O dX2_knot_17 2 rfl rfl ?_
    refine v_aload_n O dX2_knot_18 0 rfl rfl ?_
    refine v_get O fd_X2_knot_19 (g25 O (by decide)) (cg_13 G _) rfl dX2_knot_19 ?_
    refine v_iload_n O dX2_knot_22 2 rfl rfl ?_
    refine v_cNi O [.int (h.1 13 2), .int v3] [.int v3, .ref (G.1 14)] 5 rfl gX2_knot_X7_bit_n23 sn_X2_knot_X7_bit.1 sn_X2_knot_X7_bit.2 cw_X2_knot_X7_bit rfl rfl (Nat.le_of_ble_eq_true rfl) dX2_knot_23 e (fun _ e9 => f_X7_bit_ok e9) (fun r1 h2 e => ?_)
    refine v_iconst (v := 1) O dX2_knot_26 (by decide) ?_
    refine v_icmp_ne O dX2_knot_27 34 (by decide) e (fun e => ?_) (fun e => ?_)
    · refine v_aload_n O dX2_knot_34 0 rfl rfl ?_
      refine v_get O fd_X2_knot_15 (g25 O (by decide)) (cg_13 G _) rfl dX2_knot_35 ?_
      refine v_iload_n O dX2_knot_38 1 rfl rfl ?_
      refine v_iload_n O dX2_knot_39 2 rfl rfl ?_
      refine v_aload_n O dX2_knot_40 0 rfl rfl ?_
      refine v_get O fd_X2_knot_19 (g25 O (by decide)) (cg_13 G _) rfl dX2_knot_41 ?_
      refine v_iconst (v := 0) O dX2_knot_44 (by decide) ?_
      refine v_cVi O [.int v1, .int v3, .int (h2.1 13 2), .int 0] [.int v3, .ref (G.1 14)] gX2_knot_X0_reached cw_X2_knot_X0_reached rfl rfl (g25 O (by decide)) (cg_10 G _) rfl rfl (Nat.le_of_ble_eq_true rfl) dX2_knot_45 e (fun _ e9 => f_X0_reached_ok e9) (fun r3 h4 e => ?_)
      exact f_X2_knot_b48_ok O N k7 hk7 _ _ _ _ _ e
    · refine v_iconst (v := 0) O dX2_knot_30 (by decide) ?_
      refine v_goto O dX2_knot_31 48 (by decide) ?_
      exact f_X2_knot_b48_ok O N k7 hk7 _ _ _ _ _ e
theorem f_X2_knot_l7_ok {X : Cx} {G : Gx} {z : Rs} (O : Ok X G cX2_knot RX2 4 wsX2_knot (none) rm_X2_knot) (N : Nat) : ∀ (n : Nat) (v1 : Int32) (v3 : Int32) (h : Hp), f_X2_knot_l7 N n v1 v3 h = some z → V X G 4 (QV X G z) h 7 [(0, .ref (G.1 13)), (1, .int v1), (3, .int v3)] [] := by
  intro n
  induction n with
  | zero => intro v1 v3 h e; cases e
  | succ n ih => intro v1 v3 h e; exact f_X2_knot_b7_ok O N _ ih v1 v3 h e
set_option maxRecDepth 20000 in
theorem f_X2_knot_ok {l : Launch} {G : Gx} {N : Nat} {a0 : Int32} {a1 : Int32} {h : Hp} {z : Rs} (e : f_X2_knot N a0 a1 h = some z) : CV l G yX2_knot wsX2_knot rm_X2_knot [.ref (G.1 13), .int a0, .int a1] h z := by
  refine m_void _ (by decide) rfl [(0, .ref (G.1 13)), (1, .int a0), (2, .int a1)] rfl (Nat.le_of_ble_eq_true rfl) (fun X O => ?_)
  unfold f_X2_knot at e
  refine v_aload_n O dX2_knot_0 0 rfl rfl ?_
  refine v_iload_n O dX2_knot_1 2 rfl rfl ?_
  refine v_put O fd_X2_knot_19 fp_X2_2 (g25 O (by decide)) (cg_13 G _) (Nat.le_of_ble_eq_true rfl) (cs_13_2 G _ _) dX2_knot_2 e (fun h1 e => ?_)
  refine v_iconst (v := 0) O dX2_knot_5 (by decide) ?_
  refine v_istore_n O dX2_knot_6 rfl (by decide) (fun x2 => [(3, .int x2), (0, .ref (G.1 13)), (1, .int a0), (2, .int a1)]) (fun _ => rfl) e (fun x2 e => ?_)
  refine v_sub [1, 2, 0] rfl ?_
  exact f_X2_knot_l7_ok O N N _ _ _ e
/-! ===== X7 net ===== -/
abbrev rm_X7_net : Room := { frames := 3, cells := 0, slots := 0, locals := 73 }
theorem fd_X7_net_10 : FdO wsX7_net RX7 10 RX7 TX7 15 7 0 := ⟨by decide +kernel, rfl, by decide, by decide +kernel⟩
theorem fd_X7_net_53 : FdO wsX7_net RX7 53 RX7 TX7 15 7 5 := ⟨by decide +kernel, rfl, by decide, by decide +kernel⟩
theorem fd_X7_net_126 : FdO wsX7_net RX7 126 RX5 TX5 9 5 2 := ⟨by decide +kernel, rfl, by decide, by decide +kernel⟩
theorem fd_X7_net_185 : FdO wsX7_net RX7 185 RX2 TX2 3 2 0 := ⟨by decide +kernel, rfl, by decide, by decide +kernel⟩
theorem cw_X7_net_X2_knot : CwO rm_X7_net yX2_knot wsX2_knot cX2_knot 4 (none) rm_X2_knot 2 := ⟨⟨_, rfl⟩, rfl, rfl, by decide +kernel, by decide, by decide⟩
theorem cw_X7_net_X7_noKind : CwO rm_X7_net yX7_noKind wsX7_noKind cX7_noKind 1 (some .boolean) rm_X7_noKind 1 := ⟨⟨_, rfl⟩, rfl, rfl, by decide +kernel, by decide, by decide⟩
theorem cw_X7_net_X7_noSquare : CwO rm_X7_net yX7_noSquare wsX7_noSquare cX7_noSquare 2 (some .boolean) rm_X7_noSquare 1 := ⟨⟨_, rfl⟩, rfl, rfl, by decide +kernel, by decide, by decide⟩
set_option maxRecDepth 20000 in
theorem f_X7_net_ok {l : Launch} {G : Gx} {N : Nat} {a0 : Int32} {a1 : Int32} {h : Hp} {z : Rs} (e : f_X7_net N a0 a1 h = some z) : CI l G yX7_net wsX7_net rm_X7_net [.ref (G.1 0), .int a0, .int a1] h z := by
  refine m_int _ (by decide) rfl [(0, .ref (G.1 0)), (1, .int a0), (2, .int a1)] rfl (Nat.le_of_ble_eq_true rfl) (fun X O => ?_)
  unfold f_X7_net at e
  refine v_aload_n O dX7_net_0 0 rfl rfl ?_
  refine v_iload_n O dX7_net_1 2 rfl rfl ?_
  refine v_cVi O [.int a1] [] gX7_net_X7_noSquare cw_X7_net_X7_noSquare rfl rfl (g25 O (by decide)) (cg_0 G _) rfl rfl (Nat.le_of_ble_eq_true rfl) dX7_net_2 e (fun _ e9 => f_X7_noSquare_ok e9) (fun r1 h2 e => ?_)
  refine v_if_eq O dX7_net_5 11 (by decide) e (fun e => ?_) (fun e => ?_)
  · refine v_iload_n O dX7_net_11 1 rfl rfl ?_
    refine v_cSi O [.int a0] [] gX7_net_X7_noKind cw_X7_net_X7_noKind rfl rfl (Nat.le_of_ble_eq_true rfl) dX7_net_12 e (fun _ e9 => f_X7_noKind_ok e9) (fun r3 h4 e => ?_)
    refine v_if_eq O dX7_net_15 21 (by decide) e (fun e => ?_) (fun e => ?_)
    · refine v_aload_n O dX7_net_21 0 rfl rfl ?_
      refine v_get O fd_X7_net_53 (g25 O (by decide)) (cg_0 G _) rfl dX7_net_22 ?_
      refine v_iload_n O dX7_net_25 1 rfl rfl ?_
      refine v_aload_n O dX7_net_26 0 rfl rfl ?_
      refine v_get O fd_X7_net_10 (g25 O (by decide)) (cg_0 G _) rfl dX7_net_27 ?_
      refine v_get O fd_X7_net_126 (g25 O (by decide)) (cg_1 G _) rfl dX7_net_30 ?_
      refine v_cVv O [.int a0, .int (h4.1 1 2)] [] gX7_net_X2_knot cw_X7_net_X2_knot rfl rfl (g25 O (by decide)) (cg_13 G _) rfl rfl (Nat.le_of_ble_eq_true rfl) dX7_net_33 e (fun _ e9 => f_X2_knot_ok e9) (fun _ h5 e => ?_)
      refine v_aload_n O dX7_net_36 0 rfl rfl ?_
      refine v_get O fd_X7_net_53 (g25 O (by decide)) (cg_0 G _) rfl dX7_net_37 ?_
      refine v_get O fd_X7_net_185 (g25 O (by decide)) (cg_13 G _) rfl dX7_net_40 ?_
      refine v_iload_n O dX7_net_43 2 rfl rfl ?_
      refine v_iald O (g25 O (by decide)) (cg_14 G _) dX7_net_44 e (fun e => ?_)
      exact v_iret O dX7_net_45 e
    · refine v_bipush (v := (-3)) O dX7_net_18 (by decide) ?_
      exact v_iret O dX7_net_20 e
  · refine v_bipush (v := (-2)) O dX7_net_8 (by decide) ?_
    exact v_iret O dX7_net_10 e
/-! ===== X2 partAt ===== -/
abbrev rm_X2_partAt : Room := { frames := 1, cells := 0, slots := 0, locals := 21 }
theorem fd_X2_partAt_9 : FdO wsX2_partAt RX2 9 RX2 TX2 3 2 0 := ⟨by decide +kernel, rfl, by decide, by decide +kernel⟩
theorem fd_X2_partAt_19 : FdO wsX2_partAt RX2 19 RX2 TX2 3 2 2 := ⟨by decide +kernel, rfl, by decide, by decide +kernel⟩
theorem cw_X2_partAt_X7_bit : CwO rm_X2_partAt yX7_bit wsX7_bit cX7_bit 2 (some .int) rm_X7_bit 2 := ⟨⟨_, rfl⟩, rfl, rfl, by decide +kernel, by decide, by decide⟩
theorem sn_X2_partAt_X7_bit : Cond.static yX7_bit ∈ wsX2_partAt ∧ Cond.initialized yX7_bit.cls ∈ wsX2_partAt := ⟨by decide +kernel, by decide +kernel⟩
set_option maxRecDepth 20000 in
theorem f_X2_partAt_b61_ok {X : Cx} {G : Gx} {z : Rs} (O : Ok X G cX2_partAt RX2 6 wsX2_partAt (some .int) rm_X2_partAt) (N : Nat) (k20 : Int32 → Int32 → Hp → Option Rs) (k32 : Int32 → Int32 → Int32 → Int32 → Hp → Option Rs) (hk20 : ∀ (v2 : Int32) (v3 : Int32) (h : Hp), k20 v2 v3 h = some z → V X G 6 (QI X G z) h 20 [(0, .ref (G.1 13)), (2, .int v2), (3, .int v3)] []) (hk32 : ∀ (v2 : Int32) (v3 : Int32) (v4 : Int32) (v5 : Int32) (h : Hp), k32 v2 v3 v4 v5 h = some z → V X G 6 (QI X G z) h 32 [(0, .ref (G.1 13)), (2, .int v2), (3, .int v3), (4, .int v4), (5, .int v5)] []) (v2 : Int32) (v3 : Int32) (v4 : Int32) (v5 : Int32) (h : Hp) (e : f_X2_partAt_b61 N k20 k32 v2 v3 v4 v5 h = some z) : V X G 6 (QI X G z) h 61 [(0, .ref (G.1 13)), (2, .int v2), (3, .int v3), (4, .int v4), (5, .int v5)] [] := by
  unfold f_X2_partAt_b61 at e
  refine v_iinc (v := 1) O dX2_partAt_61 4 rfl (by decide) (by decide) (fun x1 => [(5, .int x1), (0, .ref (G.1 13)), (2, .int v2), (3, .int v3), (4, .int v4)]) (fun _ => rfl) e (fun x1 e => ?_)
  refine v_goto O dX2_partAt_64 32 (by decide) ?_
  refine v_sub [1, 2, 3, 4, 0] rfl ?_
  exact hk32 _ _ _ _ _ e
set_option maxRecDepth 20000 in
theorem f_X2_partAt_b32_ok {X : Cx} {G : Gx} {z : Rs} (O : Ok X G cX2_partAt RX2 6 wsX2_partAt (some .int) rm_X2_partAt) (N : Nat) (k20 : Int32 → Int32 → Hp → Option Rs) (k32 : Int32 → Int32 → Int32 → Int32 → Hp → Option Rs) (hk20 : ∀ (v2 : Int32) (v3 : Int32) (h : Hp), k20 v2 v3 h = some z → V X G 6 (QI X G z) h 20 [(0, .ref (G.1 13)), (2, .int v2), (3, .int v3)] []) (hk32 : ∀ (v2 : Int32) (v3 : Int32) (v4 : Int32) (v5 : Int32) (h : Hp), k32 v2 v3 v4 v5 h = some z → V X G 6 (QI X G z) h 32 [(0, .ref (G.1 13)), (2, .int v2), (3, .int v3), (4, .int v4), (5, .int v5)] []) (v2 : Int32) (v3 : Int32) (v4 : Int32) (v5 : Int32) (h : Hp) (e : f_X2_partAt_b32 N k20 k32 v2 v3 v4 v5 h = some z) : V X G 6 (QI X G z) h 32 [(0, .ref (G.1 13)), (2, .int v2), (3, .int v3), (4, .int v4), (5, .int v5)] [] := by
  unfold f_X2_partAt_b32 at e
  refine v_iload O dX2_partAt_32 4 rfl ?_
  refine v_bipush (v := 12) O dX2_partAt_34 (by decide) ?_
  refine v_icmp_ge O dX2_partAt_36 67 (by decide) e (fun e => ?_) (fun e => ?_)
  · refine v_iload O dX2_partAt_67 3 rfl ?_
    refine v_istore_n O dX2_partAt_69 rfl (by decide) (fun x1 => [(2, .int x1), (0, .ref (G.1 13)), (3, .int v3), (4, .int v4), (5, .int v5)]) (fun _ => rfl) e (fun x1 e => ?_)
    refine v_iinc (v := 1) O dX2_partAt_70 2 rfl (by decide) (by decide) (fun x2 => [(3, .int x2), (2, .int x1), (0, .ref (G.1 13)), (4, .int v4), (5, .int v5)]) (fun _ => rfl) e (fun x2 e => ?_)
    refine v_goto O dX2_partAt_73 20 (by decide) ?_
    refine v_sub [2, 1, 0] rfl ?_
    exact hk20 _ _ _ e
  · refine v_iload_n O dX2_partAt_39 1 rfl rfl ?_
    refine v_iload O dX2_partAt_40 4 rfl ?_
    refine v_cNi O [.int v2, .int v5] [] 5 rfl gX2_partAt_X7_bit_n23 sn_X2_partAt_X7_bit.1 sn_X2_partAt_X7_bit.2 cw_X2_partAt_X7_bit rfl rfl (Nat.le_of_ble_eq_true rfl) dX2_partAt_42 e (fun _ e9 => f_X7_bit_ok e9) (fun r3 h4 e => ?_)
    refine v_iconst (v := 1) O dX2_partAt_45 (by decide) ?_
    refine v_icmp_ne O dX2_partAt_46 61 (by decide) e (fun e => ?_) (fun e => ?_)
    · exact f_X2_partAt_b61_ok O N k20 k32 hk20 hk32 _ _ _ _ _ e
    · refine v_iload O dX2_partAt_49 3 rfl ?_
      refine v_aload_n O dX2_partAt_51 0 rfl rfl ?_
      refine v_get O fd_X2_partAt_9 (g25 O (by decide)) (cg_13 G _) rfl dX2_partAt_52 ?_
      refine v_iload O dX2_partAt_55 4 rfl ?_
      refine v_iald O (g25 O (by decide)) (cg_14 G _) dX2_partAt_57 e (fun e => ?_)
      refine v_ior O dX2_partAt_58 ?_
      refine v_istore O dX2_partAt_59 (by decide) (fun x5 => [(4, .int x5), (0, .ref (G.1 13)), (2, .int v2), (3, .int v3), (5, .int v5)]) (fun _ => rfl) e (fun x5 e => ?_)
      refine v_sub [1, 2, 3, 0, 4] rfl ?_
      exact f_X2_partAt_b61_ok O N k20 k32 hk20 hk32 _ _ _ _ _ e
theorem f_X2_partAt_l32_ok {X : Cx} {G : Gx} {z : Rs} (O : Ok X G cX2_partAt RX2 6 wsX2_partAt (some .int) rm_X2_partAt) (N : Nat) (k20 : Int32 → Int32 → Hp → Option Rs) (hk20 : ∀ (v2 : Int32) (v3 : Int32) (h : Hp), k20 v2 v3 h = some z → V X G 6 (QI X G z) h 20 [(0, .ref (G.1 13)), (2, .int v2), (3, .int v3)] []) : ∀ (n : Nat) (v2 : Int32) (v3 : Int32) (v4 : Int32) (v5 : Int32) (h : Hp), f_X2_partAt_l32 N k20 n v2 v3 v4 v5 h = some z → V X G 6 (QI X G z) h 32 [(0, .ref (G.1 13)), (2, .int v2), (3, .int v3), (4, .int v4), (5, .int v5)] [] := by
  intro n
  induction n with
  | zero => intro v2 v3 v4 v5 h e; cases e
  | succ n ih => intro v2 v3 v4 v5 h e; exact f_X2_partAt_b32_ok O N k20 _ hk20 ih v2 v3 v4 v5 h e
set_option maxRecDepth 20000 in
theorem f_X2_partAt_b20_ok {X : Cx} {G : Gx} {z : Rs} (O : Ok X G cX2_partAt RX2 6 wsX2_partAt (some .int) rm_X2_partAt) (N : Nat) (k20 : Int32 → Int32 → Hp → Option Rs) (hk20 : ∀ (v2 : Int32) (v3 : Int32) (h : Hp), k20 v2 v3 h = some z → V X G 6 (QI X G z) h 20 [(0, .ref (G.1 13)), (2, .int v2), (3, .int v3)] []) (v2 : Int32) (v3 : Int32) (h : Hp) (e : f_X2_partAt_b20 N k20 v2 v3 h = some z) : V X G 6 (QI X G z) h 20 [(0, .ref (G.1 13)), (2, .int v2), (3, .int v3)] [] := by
  unfold f_X2_partAt_b20 at e
  refine v_iload_n O dX2_partAt_20 2 rfl rfl ?_
  refine v_bipush (v := 12) O dX2_partAt_21 (by decide) ?_
  refine v_icmp_ge O dX2_partAt_23 76 (by decide) e (fun e => ?_) (fun e => ?_)
  · refine v_iload_n O dX2_partAt_76 1 rfl rfl ?_
    exact v_iret O dX2_partAt_77 e
  · refine v_iload_n O dX2_partAt_26 1 rfl rfl ?_
    refine v_istore O dX2_partAt_27 (by decide) (fun x1 => [(4, .int x1), (0, .ref (G.1 13)), (2, .int v2), (3, .int v3)]) (fun _ => rfl) e (fun x1 e => ?_)
    refine v_iconst (v := 0) O dX2_partAt_29 (by decide) ?_
    refine v_istore O dX2_partAt_30 (by decide) (fun x2 => [(5, .int x2), (4, .int x1), (0, .ref (G.1 13)), (2, .int v2), (3, .int v3)]) (fun _ => rfl) e (fun x2 e => ?_)
    refine v_sub [2, 3, 4, 1, 0] rfl ?_
    exact f_X2_partAt_l32_ok O N k20 hk20 N _ _ _ _ _ e
theorem f_X2_partAt_l20_ok {X : Cx} {G : Gx} {z : Rs} (O : Ok X G cX2_partAt RX2 6 wsX2_partAt (some .int) rm_X2_partAt) (N : Nat) : ∀ (n : Nat) (v2 : Int32) (v3 : Int32) (h : Hp), f_X2_partAt_l20 N n v2 v3 h = some z → V X G 6 (QI X G z) h 20 [(0, .ref (G.1 13)), (2, .int v2), (3, .int v3)] [] := by
  intro n
  induction n with
  | zero => intro v2 v3 h e; cases e
  | succ n ih => intro v2 v3 h e; exact f_X2_partAt_b20_ok O N _ ih v2 v3 h e
set_option maxRecDepth 20000 in
theorem f_X2_partAt_ok {l : Launch} {G : Gx} {N : Nat} {a0 : Int32} {h : Hp} {z : Rs} (e : f_X2_partAt N a0 h = some z) : CI l G yX2_partAt wsX2_partAt rm_X2_partAt [.ref (G.1 13), .int a0] h z := by
  refine m_int _ (by decide) rfl [(0, .ref (G.1 13)), (1, .int a0)] rfl (Nat.le_of_ble_eq_true rfl) (fun X O => ?_)
  unfold f_X2_partAt at e
  refine v_aload_n O dX2_partAt_0 0 rfl rfl ?_
  refine v_get O fd_X2_partAt_19 (g25 O (by decide)) (cg_13 G _) rfl dX2_partAt_1 ?_
  refine v_iload_n O dX2_partAt_4 1 rfl rfl ?_
  refine v_cNi O [.int (h.1 13 2), .int a0] [] 5 rfl gX2_partAt_X7_bit_n23 sn_X2_partAt_X7_bit.1 sn_X2_partAt_X7_bit.2 cw_X2_partAt_X7_bit rfl rfl (Nat.le_of_ble_eq_true rfl) dX2_partAt_5 e (fun _ e9 => f_X7_bit_ok e9) (fun r1 h2 e => ?_)
  refine v_iconst (v := 1) O dX2_partAt_8 (by decide) ?_
  refine v_icmp_ne O dX2_partAt_9 14 (by decide) e (fun e => ?_) (fun e => ?_)
  · refine v_iconst (v := 1) O dX2_partAt_14 (by decide) ?_
    refine v_iload_n O dX2_partAt_15 1 rfl rfl ?_
    refine v_ishl O dX2_partAt_16 ?_
    refine v_istore_n O dX2_partAt_17 rfl (by decide) (fun x3 => [(2, .int x3), (0, .ref (G.1 13)), (1, .int a0)]) (fun _ => rfl) e (fun x3 e => ?_)
    refine v_iconst (v := 1) O dX2_partAt_18 (by decide) ?_
    refine v_istore_n O dX2_partAt_19 rfl (by decide) (fun x4 => [(3, .int x4), (2, .int x3), (0, .ref (G.1 13)), (1, .int a0)]) (fun _ => rfl) e (fun x4 e => ?_)
    refine v_sub [2, 1, 0] rfl ?_
    exact f_X2_partAt_l20_ok O N N _ _ _ e
  · refine v_iconst (v := 0) O dX2_partAt_12 (by decide) ?_
    exact v_iret O dX2_partAt_13 e
/-! ===== X7 part ===== -/
abbrev rm_X7_part : Room := { frames := 3, cells := 0, slots := 0, locals := 73 }
theorem fd_X7_part_10 : FdO wsX7_part RX7 10 RX7 TX7 15 7 0 := ⟨by decide +kernel, rfl, by decide, by decide +kernel⟩
theorem fd_X7_part_53 : FdO wsX7_part RX7 53 RX7 TX7 15 7 5 := ⟨by decide +kernel, rfl, by decide, by decide +kernel⟩
theorem fd_X7_part_126 : FdO wsX7_part RX7 126 RX5 TX5 9 5 2 := ⟨by decide +kernel, rfl, by decide, by decide +kernel⟩
theorem cw_X7_part_X2_knot : CwO rm_X7_part yX2_knot wsX2_knot cX2_knot 4 (none) rm_X2_knot 2 := ⟨⟨_, rfl⟩, rfl, rfl, by decide +kernel, by decide, by decide⟩
theorem cw_X7_part_X2_partAt : CwO rm_X7_part yX2_partAt wsX2_partAt cX2_partAt 6 (some .int) rm_X2_partAt 1 := ⟨⟨_, rfl⟩, rfl, rfl, by decide +kernel, by decide, by decide⟩
theorem cw_X7_part_X7_noKind : CwO rm_X7_part yX7_noKind wsX7_noKind cX7_noKind 1 (some .boolean) rm_X7_noKind 1 := ⟨⟨_, rfl⟩, rfl, rfl, by decide +kernel, by decide, by decide⟩
theorem cw_X7_part_X7_noSquare : CwO rm_X7_part yX7_noSquare wsX7_noSquare cX7_noSquare 2 (some .boolean) rm_X7_noSquare 1 := ⟨⟨_, rfl⟩, rfl, rfl, by decide +kernel, by decide, by decide⟩
set_option maxRecDepth 20000 in
theorem f_X7_part_ok {l : Launch} {G : Gx} {N : Nat} {a0 : Int32} {a1 : Int32} {h : Hp} {z : Rs} (e : f_X7_part N a0 a1 h = some z) : CI l G yX7_part wsX7_part rm_X7_part [.ref (G.1 0), .int a0, .int a1] h z := by
  refine m_int _ (by decide) rfl [(0, .ref (G.1 0)), (1, .int a0), (2, .int a1)] rfl (Nat.le_of_ble_eq_true rfl) (fun X O => ?_)
  unfold f_X7_part at e
  refine v_aload_n O dX7_part_0 0 rfl rfl ?_
  refine v_iload_n O dX7_part_1 2 rfl rfl ?_
  refine v_cVi O [.int a1] [] gX7_part_X7_noSquare cw_X7_part_X7_noSquare rfl rfl (g25 O (by decide)) (cg_0 G _) rfl rfl (Nat.le_of_ble_eq_true rfl) dX7_part_2 e (fun _ e9 => f_X7_noSquare_ok e9) (fun r1 h2 e => ?_)
  refine v_if_eq O dX7_part_5 11 (by decide) e (fun e => ?_) (fun e => ?_)
  · refine v_iload_n O dX7_part_11 1 rfl rfl ?_
    refine v_cSi O [.int a0] [] gX7_part_X7_noKind cw_X7_part_X7_noKind rfl rfl (Nat.le_of_ble_eq_true rfl) dX7_part_12 e (fun _ e9 => f_X7_noKind_ok e9) (fun r3 h4 e => ?_)
    refine v_if_eq O dX7_part_15 21 (by decide) e (fun e => ?_) (fun e => ?_)
    · refine v_aload_n O dX7_part_21 0 rfl rfl ?_
      refine v_get O fd_X7_part_53 (g25 O (by decide)) (cg_0 G _) rfl dX7_part_22 ?_
      refine v_iload_n O dX7_part_25 1 rfl rfl ?_
      refine v_aload_n O dX7_part_26 0 rfl rfl ?_
      refine v_get O fd_X7_part_10 (g25 O (by decide)) (cg_0 G _) rfl dX7_part_27 ?_
      refine v_get O fd_X7_part_126 (g25 O (by decide)) (cg_1 G _) rfl dX7_part_30 ?_
      refine v_cVv O [.int a0, .int (h4.1 1 2)] [] gX7_part_X2_knot cw_X7_part_X2_knot rfl rfl (g25 O (by decide)) (cg_13 G _) rfl rfl (Nat.le_of_ble_eq_true rfl) dX7_part_33 e (fun _ e9 => f_X2_knot_ok e9) (fun _ h5 e => ?_)
      refine v_aload_n O dX7_part_36 0 rfl rfl ?_
      refine v_get O fd_X7_part_53 (g25 O (by decide)) (cg_0 G _) rfl dX7_part_37 ?_
      refine v_iload_n O dX7_part_40 2 rfl rfl ?_
      refine v_cVi O [.int a1] [] gX7_part_X2_partAt cw_X7_part_X2_partAt rfl rfl (g25 O (by decide)) (cg_13 G _) rfl rfl (Nat.le_of_ble_eq_true rfl) dX7_part_41 e (fun _ e9 => f_X2_partAt_ok e9) (fun r6 h7 e => ?_)
      exact v_iret O dX7_part_44 e
    · refine v_bipush (v := (-3)) O dX7_part_18 (by decide) ?_
      exact v_iret O dX7_part_20 e
  · refine v_bipush (v := (-2)) O dX7_part_8 (by decide) ?_
    exact v_iret O dX7_part_10 e
/-! ===== X2 around ===== -/
abbrev rm_X2_around : Room := { frames := 1, cells := 0, slots := 0, locals := 21 }
theorem fd_X2_around_9 : FdO wsX2_around RX2 9 RX2 TX2 3 2 0 := ⟨by decide +kernel, rfl, by decide, by decide +kernel⟩
theorem cw_X2_around_J6_numberOfTrailingZeros_0f7a4 : CwO rm_X2_around yJ6_numberOfTrailingZeros_0f7a4 wsJ6_numberOfTrailingZeros_0f7a4 cJ6_numberOfTrailingZeros_0f7a4 2 (some .int) rm_J6_numberOfTrailingZeros_0f7a4 1 := ⟨⟨_, rfl⟩, rfl, rfl, by decide +kernel, by decide, by decide⟩
set_option maxRecDepth 20000 in
theorem f_X2_around_b26_ok {X : Cx} {G : Gx} {z : Rs} (O : Ok X G cX2_around RX2 7 wsX2_around (some .int) rm_X2_around) (N : Nat) (h : Hp) (e : f_X2_around_b26 N h = some z) : V X G 7 (QI X G z) h 26 [] [] := by
  unfold f_X2_around_b26 at e
  refine v_iconst (v := (-1)) O dX2_around_26 (by decide) ?_
  exact v_iret O dX2_around_27 e
set_option maxRecDepth 20000 in
theorem f_X2_around_b8_ok {X : Cx} {G : Gx} {z : Rs} (O : Ok X G cX2_around RX2 7 wsX2_around (some .int) rm_X2_around) (N : Nat) (k8 : Int32 → Int32 → Int32 → Int32 → Hp → Option Rs) (hk8 : ∀ (v2 : Int32) (v3 : Int32) (v4 : Int32) (v5 : Int32) (h : Hp), k8 v2 v3 v4 v5 h = some z → V X G 7 (QI X G z) h 8 [(0, .ref (G.1 13)), (2, .int v2), (3, .int v3), (4, .int v4), (5, .int v5)] []) (v2 : Int32) (v3 : Int32) (v4 : Int32) (v5 : Int32) (h : Hp) (e : f_X2_around_b8 N k8 v2 v3 v4 v5 h = some z) : V X G 7 (QI X G z) h 8 [(0, .ref (G.1 13)), (2, .int v2), (3, .int v3), (4, .int v4), (5, .int v5)] [] := by
  unfold f_X2_around_b8 at e
  refine v_iload O dX2_around_8 4 rfl ?_
  refine v_iload_n O dX2_around_10 1 rfl rfl ?_
  refine v_icmp_ge O dX2_around_11 59 (by decide) e (fun e => ?_) (fun e => ?_)
  · refine v_iload O dX2_around_59 3 rfl ?_
    exact v_iret O dX2_around_61 e
  · refine v_iload O dX2_around_14 3 rfl ?_
    refine v_if_lt O dX2_around_16 26 (by decide) e (fun e => ?_) (fun e => ?_)
    · refine v_sub [] rfl ?_
      exact f_X2_around_b26_ok O N _ e
    · refine v_iload O dX2_around_19 3 rfl ?_
      refine v_bipush (v := 12) O dX2_around_21 (by decide) ?_
      refine v_icmp_lt O dX2_around_23 28 (by decide) e (fun e => ?_) (fun e => ?_)
      · refine v_aload_n O dX2_around_28 0 rfl rfl ?_
        refine v_get O fd_X2_around_9 (g25 O (by decide)) (cg_13 G _) rfl dX2_around_29 ?_
        refine v_iload O dX2_around_32 3 rfl ?_
        refine v_iald O (g25 O (by decide)) (cg_14 G _) dX2_around_34 e (fun e => ?_)
        refine v_iload_n O dX2_around_35 2 rfl rfl ?_
        refine v_iconst (v := (-1)) O dX2_around_36 (by decide) ?_
        refine v_ixor O dX2_around_37 ?_
        refine v_iand O dX2_around_38 ?_
        refine v_istore O dX2_around_39 (by decide) (fun x1 => [(6, .int x1), (0, .ref (G.1 13)), (2, .int v2), (3, .int v3), (4, .int v4), (5, .int v5)]) (fun _ => rfl) e (fun x1 e => ?_)
        refine v_iconst (v := 1) O dX2_around_41 (by decide) ?_
        refine v_iload O dX2_around_42 4 rfl ?_
        refine v_ishl O dX2_around_44 ?_
        refine v_istore_n O dX2_around_45 rfl (by decide) (fun x2 => [(3, .int x2), (6, .int x1), (0, .ref (G.1 13)), (2, .int v2), (4, .int v4), (5, .int v5)]) (fun _ => rfl) e (fun x2 e => ?_)
        refine v_iload O dX2_around_46 1 rfl ?_
        refine v_cSi O [.int x1] [] gX2_around_J6_numberOfTrailingZeros_0f7a4 cw_X2_around_J6_numberOfTrailingZeros_0f7a4 rfl rfl (Nat.le_of_ble_eq_true rfl) dX2_around_48 e (fun _ e9 => f_J6_numberOfTrailingZeros_0f7a4_ok e9) (fun r3 h4 e => ?_)
        refine v_istore O dX2_around_51 (by decide) (fun x5 => [(4, .int x5), (3, .int x2), (6, .int x1), (0, .ref (G.1 13)), (2, .int v2), (5, .int v5)]) (fun _ => rfl) e (fun x5 e => ?_)
        refine v_iinc (v := 1) O dX2_around_53 5 rfl (by decide) (by decide) (fun x6 => [(5, .int x6), (4, .int x5), (3, .int x2), (6, .int x1), (0, .ref (G.1 13)), (2, .int v2)]) (fun _ => rfl) e (fun x6 e => ?_)
        refine v_goto O dX2_around_56 8 (by decide) ?_
        refine v_sub [4, 5, 2, 1, 0] rfl ?_
        exact hk8 _ _ _ _ _ e
      · refine v_sub [] rfl ?_
        exact f_X2_around_b26_ok O N _ e
theorem f_X2_around_l8_ok {X : Cx} {G : Gx} {z : Rs} (O : Ok X G cX2_around RX2 7 wsX2_around (some .int) rm_X2_around) (N : Nat) : ∀ (n : Nat) (v2 : Int32) (v3 : Int32) (v4 : Int32) (v5 : Int32) (h : Hp), f_X2_around_l8 N n v2 v3 v4 v5 h = some z → V X G 7 (QI X G z) h 8 [(0, .ref (G.1 13)), (2, .int v2), (3, .int v3), (4, .int v4), (5, .int v5)] [] := by
  intro n
  induction n with
  | zero => intro v2 v3 v4 v5 h e; cases e
  | succ n ih => intro v2 v3 v4 v5 h e; exact f_X2_around_b8_ok O N _ ih v2 v3 v4 v5 h e
set_option maxRecDepth 20000 in
theorem f_X2_around_ok {l : Launch} {G : Gx} {N : Nat} {a0 : Int32} {a1 : Int32} {h : Hp} {z : Rs} (e : f_X2_around N a0 a1 h = some z) : CI l G yX2_around wsX2_around rm_X2_around [.ref (G.1 13), .int a0, .int a1] h z := by
  refine m_int _ (by decide) rfl [(0, .ref (G.1 13)), (1, .int a0), (2, .int a1)] rfl (Nat.le_of_ble_eq_true rfl) (fun X O => ?_)
  unfold f_X2_around at e
  refine v_iconst (v := 0) O dX2_around_0 (by decide) ?_
  refine v_istore_n O dX2_around_1 rfl (by decide) (fun x1 => [(3, .int x1), (0, .ref (G.1 13)), (1, .int a0), (2, .int a1)]) (fun _ => rfl) e (fun x1 e => ?_)
  refine v_iload_n O dX2_around_2 2 rfl rfl ?_
  refine v_istore O dX2_around_3 (by decide) (fun x2 => [(4, .int x2), (3, .int x1), (0, .ref (G.1 13)), (1, .int a0), (2, .int a1)]) (fun _ => rfl) e (fun x2 e => ?_)
  refine v_iconst (v := 0) O dX2_around_5 (by decide) ?_
  refine v_istore O dX2_around_6 (by decide) (fun x3 => [(5, .int x3), (4, .int x2), (3, .int x1), (0, .ref (G.1 13)), (1, .int a0), (2, .int a1)]) (fun _ => rfl) e (fun x3 e => ?_)
  refine v_sub [3, 5, 2, 1, 0] rfl ?_
  exact f_X2_around_l8_ok O N N _ _ _ _ _ e
/-! ===== X2 joinsOf ===== -/
abbrev rm_X2_joinsOf : Room := { frames := 1, cells := 0, slots := 0, locals := 21 }
theorem fd_X2_joinsOf_9 : FdO wsX2_joinsOf RX2 9 RX2 TX2 3 2 0 := ⟨by decide +kernel, rfl, by decide, by decide +kernel⟩
theorem cw_X2_joinsOf_J6_bitCount_0f7a4 : CwO rm_X2_joinsOf yJ6_bitCount_0f7a4 wsJ6_bitCount_0f7a4 cJ6_bitCount_0f7a4 1 (some .int) rm_J6_bitCount_0f7a4 1 := ⟨⟨_, rfl⟩, rfl, rfl, by decide +kernel, by decide, by decide⟩
theorem cw_X2_joinsOf_X7_bit : CwO rm_X2_joinsOf yX7_bit wsX7_bit cX7_bit 2 (some .int) rm_X7_bit 2 := ⟨⟨_, rfl⟩, rfl, rfl, by decide +kernel, by decide, by decide⟩
theorem sn_X2_joinsOf_X7_bit : Cond.static yX7_bit ∈ wsX2_joinsOf ∧ Cond.initialized yX7_bit.cls ∈ wsX2_joinsOf := ⟨by decide +kernel, by decide +kernel⟩
set_option maxRecDepth 20000 in
theorem f_X2_joinsOf_b31_ok {X : Cx} {G : Gx} {z : Rs} (O : Ok X G cX2_joinsOf RX2 4 wsX2_joinsOf (some .int) rm_X2_joinsOf) (N : Nat) (k4 : Int32 → Int32 → Int32 → Hp → Option Rs) (hk4 : ∀ (v1 : Int32) (v2 : Int32) (v3 : Int32) (h : Hp), k4 v1 v2 v3 h = some z → V X G 4 (QI X G z) h 4 [(0, .ref (G.1 13)), (1, .int v1), (2, .int v2), (3, .int v3)] []) (v1 : Int32) (v2 : Int32) (v3 : Int32) (h : Hp) (e : f_X2_joinsOf_b31 N k4 v1 v2 v3 h = some z) : V X G 4 (QI X G z) h 31 [(0, .ref (G.1 13)), (1, .int v1), (2, .int v2), (3, .int v3)] [] := by
  unfold f_X2_joinsOf_b31 at e
  refine v_iinc (v := 1) O dX2_joinsOf_31 3 rfl (by decide) (by decide) (fun x1 => [(3, .int x1), (0, .ref (G.1 13)), (1, .int v1), (2, .int v2)]) (fun _ => rfl) e (fun x1 e => ?_)
  refine v_goto O dX2_joinsOf_34 4 (by decide) ?_
  refine v_sub [1, 2, 3, 0] rfl ?_
  exact hk4 _ _ _ _ e
set_option maxRecDepth 20000 in
theorem f_X2_joinsOf_b4_ok {X : Cx} {G : Gx} {z : Rs} (O : Ok X G cX2_joinsOf RX2 4 wsX2_joinsOf (some .int) rm_X2_joinsOf) (N : Nat) (k4 : Int32 → Int32 → Int32 → Hp → Option Rs) (hk4 : ∀ (v1 : Int32) (v2 : Int32) (v3 : Int32) (h : Hp), k4 v1 v2 v3 h = some z → V X G 4 (QI X G z) h 4 [(0, .ref (G.1 13)), (1, .int v1), (2, .int v2), (3, .int v3)] []) (v1 : Int32) (v2 : Int32) (v3 : Int32) (h : Hp) (e : f_X2_joinsOf_b4 N k4 v1 v2 v3 h = some z) : V X G 4 (QI X G z) h 4 [(0, .ref (G.1 13)), (1, .int v1), (2, .int v2), (3, .int v3)] [] := by
  unfold f_X2_joinsOf_b4 at e
  refine v_iload_n O dX2_joinsOf_4 3 rfl rfl ?_
  refine v_bipush (v := 12) O dX2_joinsOf_5 (by decide) ?_
  refine v_icmp_ge O dX2_joinsOf_7 37 (by decide) e (fun e => ?_) (fun e => ?_)
  · refine v_iload_n O dX2_joinsOf_37 2 rfl rfl ?_
    refine v_iconst (v := 2) O dX2_joinsOf_38 (by decide) ?_
    refine v_idiv O dX2_joinsOf_39 e (fun e => ?_)
    exact v_iret O dX2_joinsOf_40 e
  · refine v_iload_n O dX2_joinsOf_10 1 rfl rfl ?_
    refine v_iload_n O dX2_joinsOf_11 3 rfl rfl ?_
    refine v_cNi O [.int v1, .int v3] [] 5 rfl gX2_joinsOf_X7_bit_n23 sn_X2_joinsOf_X7_bit.1 sn_X2_joinsOf_X7_bit.2 cw_X2_joinsOf_X7_bit rfl rfl (Nat.le_of_ble_eq_true rfl) dX2_joinsOf_12 e (fun _ e9 => f_X7_bit_ok e9) (fun r1 h2 e => ?_)
    refine v_iconst (v := 1) O dX2_joinsOf_15 (by decide) ?_
    refine v_icmp_ne O dX2_joinsOf_16 31 (by decide) e (fun e => ?_) (fun e => ?_)
    · exact f_X2_joinsOf_b31_ok O N k4 hk4 _ _ _ _ e
    · refine v_iload_n O dX2_joinsOf_19 2 rfl rfl ?_
      refine v_aload_n O dX2_joinsOf_20 0 rfl rfl ?_
      refine v_get O fd_X2_joinsOf_9 (g25 O (by decide)) (cg_13 G _) rfl dX2_joinsOf_21 ?_
      refine v_iload_n O dX2_joinsOf_24 3 rfl rfl ?_
      refine v_iald O (g25 O (by decide)) (cg_14 G _) dX2_joinsOf_25 e (fun e => ?_)
      refine v_cSi O [.int (h2.1 14 (ix v3))] [.int v2] gX2_joinsOf_J6_bitCount_0f7a4 cw_X2_joinsOf_J6_bitCount_0f7a4 rfl rfl (Nat.le_of_ble_eq_true rfl) dX2_joinsOf_26 e (fun _ e9 => f_J6_bitCount_0f7a4_ok e9) (fun r3 h4 e => ?_)
      refine v_iadd O dX2_joinsOf_29 ?_
      refine v_istore_n O dX2_joinsOf_30 rfl (by decide) (fun x5 => [(2, .int x5), (0, .ref (G.1 13)), (1, .int v1), (3, .int v3)]) (fun _ => rfl) e (fun x5 e => ?_)
      refine v_sub [1, 2, 0, 3] rfl ?_
      exact f_X2_joinsOf_b31_ok O N k4 hk4 _ _ _ _ e
theorem f_X2_joinsOf_l4_ok {X : Cx} {G : Gx} {z : Rs} (O : Ok X G cX2_joinsOf RX2 4 wsX2_joinsOf (some .int) rm_X2_joinsOf) (N : Nat) : ∀ (n : Nat) (v1 : Int32) (v2 : Int32) (v3 : Int32) (h : Hp), f_X2_joinsOf_l4 N n v1 v2 v3 h = some z → V X G 4 (QI X G z) h 4 [(0, .ref (G.1 13)), (1, .int v1), (2, .int v2), (3, .int v3)] [] := by
  intro n
  induction n with
  | zero => intro v1 v2 v3 h e; cases e
  | succ n ih => intro v1 v2 v3 h e; exact f_X2_joinsOf_b4_ok O N _ ih v1 v2 v3 h e
set_option maxRecDepth 20000 in
theorem f_X2_joinsOf_ok {l : Launch} {G : Gx} {N : Nat} {a0 : Int32} {h : Hp} {z : Rs} (e : f_X2_joinsOf N a0 h = some z) : CI l G yX2_joinsOf wsX2_joinsOf rm_X2_joinsOf [.ref (G.1 13), .int a0] h z := by
  refine m_int _ (by decide) rfl [(0, .ref (G.1 13)), (1, .int a0)] rfl (Nat.le_of_ble_eq_true rfl) (fun X O => ?_)
  unfold f_X2_joinsOf at e
  refine v_iconst (v := 0) O dX2_joinsOf_0 (by decide) ?_
  refine v_istore_n O dX2_joinsOf_1 rfl (by decide) (fun x1 => [(2, .int x1), (0, .ref (G.1 13)), (1, .int a0)]) (fun _ => rfl) e (fun x1 e => ?_)
  refine v_iconst (v := 0) O dX2_joinsOf_2 (by decide) ?_
  refine v_istore_n O dX2_joinsOf_3 rfl (by decide) (fun x2 => [(3, .int x2), (2, .int x1), (0, .ref (G.1 13)), (1, .int a0)]) (fun _ => rfl) e (fun x2 e => ?_)
  refine v_sub [2, 3, 1, 0] rfl ?_
  exact f_X2_joinsOf_l4_ok O N N _ _ _ _ e
/-! ===== X2 squaresWith ===== -/
abbrev rm_X2_squaresWith : Room := { frames := 1, cells := 0, slots := 0, locals := 21 }
theorem fd_X2_squaresWith_9 : FdO wsX2_squaresWith RX2 9 RX2 TX2 3 2 0 := ⟨by decide +kernel, rfl, by decide, by decide +kernel⟩
theorem cw_X2_squaresWith_J6_bitCount_0f7a4 : CwO rm_X2_squaresWith yJ6_bitCount_0f7a4 wsJ6_bitCount_0f7a4 cJ6_bitCount_0f7a4 1 (some .int) rm_J6_bitCount_0f7a4 1 := ⟨⟨_, rfl⟩, rfl, rfl, by decide +kernel, by decide, by decide⟩
theorem cw_X2_squaresWith_X7_bit : CwO rm_X2_squaresWith yX7_bit wsX7_bit cX7_bit 2 (some .int) rm_X7_bit 2 := ⟨⟨_, rfl⟩, rfl, rfl, by decide +kernel, by decide, by decide⟩
theorem sn_X2_squaresWith_X7_bit : Cond.static yX7_bit ∈ wsX2_squaresWith ∧ Cond.initialized yX7_bit.cls ∈ wsX2_squaresWith := ⟨by decide +kernel, by decide +kernel⟩
set_option maxRecDepth 20000 in
theorem f_X2_squaresWith_b39_ok {X : Cx} {G : Gx} {z : Rs} (O : Ok X G cX2_squaresWith RX2 5 wsX2_squaresWith (some .int) rm_X2_squaresWith) (N : Nat) (k5 : Int32 → Int32 → Int32 → Int32 → Hp → Option Rs) (hk5 : ∀ (v1 : Int32) (v2 : Int32) (v3 : Int32) (v4 : Int32) (h : Hp), k5 v1 v2 v3 v4 h = some z → V X G 5 (QI X G z) h 5 [(0, .ref (G.1 13)), (1, .int v1), (2, .int v2), (3, .int v3), (4, .int v4)] []) (v1 : Int32) (v2 : Int32) (v3 : Int32) (v4 : Int32) (h : Hp) (e : f_X2_squaresWith_b39 N k5 v1 v2 v3 v4 h = some z) : V X G 5 (QI X G z) h 39 [(0, .ref (G.1 13)), (1, .int v1), (2, .int v2), (3, .int v3), (4, .int v4)] [] := by
  unfold f_X2_squaresWith_b39 at e
  refine v_iinc (v := 1) O dX2_squaresWith_39 4 rfl (by decide) (by decide) (fun x1 => [(4, .int x1), (0, .ref (G.1 13)), (1, .int v1), (2, .int v2), (3, .int v3)]) (fun _ => rfl) e (fun x1 e => ?_)
  refine v_goto O dX2_squaresWith_42 5 (by decide) ?_
  refine v_sub [1, 2, 3, 4, 0] rfl ?_
  exact hk5 _ _ _ _ _ e
set_option maxRecDepth 20000 in
theorem f_X2_squaresWith_b5_ok {X : Cx} {G : Gx} {z : Rs} (O : Ok X G cX2_squaresWith RX2 5 wsX2_squaresWith (some .int) rm_X2_squaresWith) (N : Nat) (k5 : Int32 → Int32 → Int32 → Int32 → Hp → Option Rs) (hk5 : ∀ (v1 : Int32) (v2 : Int32) (v3 : Int32) (v4 : Int32) (h : Hp), k5 v1 v2 v3 v4 h = some z → V X G 5 (QI X G z) h 5 [(0, .ref (G.1 13)), (1, .int v1), (2, .int v2), (3, .int v3), (4, .int v4)] []) (v1 : Int32) (v2 : Int32) (v3 : Int32) (v4 : Int32) (h : Hp) (e : f_X2_squaresWith_b5 N k5 v1 v2 v3 v4 h = some z) : V X G 5 (QI X G z) h 5 [(0, .ref (G.1 13)), (1, .int v1), (2, .int v2), (3, .int v3), (4, .int v4)] [] := by
  unfold f_X2_squaresWith_b5 at e
  refine v_iload O dX2_squaresWith_5 4 rfl ?_
  refine v_bipush (v := 12) O dX2_squaresWith_7 (by decide) ?_
  refine v_icmp_ge O dX2_squaresWith_9 45 (by decide) e (fun e => ?_) (fun e => ?_)
  · refine v_iload_n O dX2_squaresWith_45 3 rfl rfl ?_
    exact v_iret O dX2_squaresWith_46 e
  · refine v_iload_n O dX2_squaresWith_12 2 rfl rfl ?_
    refine v_iload O dX2_squaresWith_13 4 rfl ?_
    refine v_cNi O [.int v2, .int v4] [] 5 rfl gX2_squaresWith_X7_bit_n23 sn_X2_squaresWith_X7_bit.1 sn_X2_squaresWith_X7_bit.2 cw_X2_squaresWith_X7_bit rfl rfl (Nat.le_of_ble_eq_true rfl) dX2_squaresWith_15 e (fun _ e9 => f_X7_bit_ok e9) (fun r1 h2 e => ?_)
    refine v_iconst (v := 1) O dX2_squaresWith_18 (by decide) ?_
    refine v_icmp_ne O dX2_squaresWith_19 39 (by decide) e (fun e => ?_) (fun e => ?_)
    · exact f_X2_squaresWith_b39_ok O N k5 hk5 _ _ _ _ _ e
    · refine v_aload_n O dX2_squaresWith_22 0 rfl rfl ?_
      refine v_get O fd_X2_squaresWith_9 (g25 O (by decide)) (cg_13 G _) rfl dX2_squaresWith_23 ?_
      refine v_iload O dX2_squaresWith_26 4 rfl ?_
      refine v_iald O (g25 O (by decide)) (cg_14 G _) dX2_squaresWith_28 e (fun e => ?_)
      refine v_cSi O [.int (h2.1 14 (ix v4))] [] gX2_squaresWith_J6_bitCount_0f7a4 cw_X2_squaresWith_J6_bitCount_0f7a4 rfl rfl (Nat.le_of_ble_eq_true rfl) dX2_squaresWith_29 e (fun _ e9 => f_J6_bitCount_0f7a4_ok e9) (fun r3 h4 e => ?_)
      refine v_iload_n O dX2_squaresWith_32 1 rfl rfl ?_
      refine v_icmp_ne O dX2_squaresWith_33 39 (by decide) e (fun e => ?_) (fun e => ?_)
      · exact f_X2_squaresWith_b39_ok O N k5 hk5 _ _ _ _ _ e
      · refine v_iinc (v := 1) O dX2_squaresWith_36 3 rfl (by decide) (by decide) (fun x5 => [(3, .int x5), (0, .ref (G.1 13)), (1, .int v1), (2, .int v2), (4, .int v4)]) (fun _ => rfl) e (fun x5 e => ?_)
        refine v_sub [1, 2, 3, 0, 4] rfl ?_
        exact f_X2_squaresWith_b39_ok O N k5 hk5 _ _ _ _ _ e
theorem f_X2_squaresWith_l5_ok {X : Cx} {G : Gx} {z : Rs} (O : Ok X G cX2_squaresWith RX2 5 wsX2_squaresWith (some .int) rm_X2_squaresWith) (N : Nat) : ∀ (n : Nat) (v1 : Int32) (v2 : Int32) (v3 : Int32) (v4 : Int32) (h : Hp), f_X2_squaresWith_l5 N n v1 v2 v3 v4 h = some z → V X G 5 (QI X G z) h 5 [(0, .ref (G.1 13)), (1, .int v1), (2, .int v2), (3, .int v3), (4, .int v4)] [] := by
  intro n
  induction n with
  | zero => intro v1 v2 v3 v4 h e; cases e
  | succ n ih => intro v1 v2 v3 v4 h e; exact f_X2_squaresWith_b5_ok O N _ ih v1 v2 v3 v4 h e
set_option maxRecDepth 20000 in
theorem f_X2_squaresWith_ok {l : Launch} {G : Gx} {N : Nat} {a0 : Int32} {a1 : Int32} {h : Hp} {z : Rs} (e : f_X2_squaresWith N a0 a1 h = some z) : CI l G yX2_squaresWith wsX2_squaresWith rm_X2_squaresWith [.ref (G.1 13), .int a0, .int a1] h z := by
  refine m_int _ (by decide) rfl [(0, .ref (G.1 13)), (1, .int a0), (2, .int a1)] rfl (Nat.le_of_ble_eq_true rfl) (fun X O => ?_)
  unfold f_X2_squaresWith at e
  refine v_iconst (v := 0) O dX2_squaresWith_0 (by decide) ?_
  refine v_istore_n O dX2_squaresWith_1 rfl (by decide) (fun x1 => [(3, .int x1), (0, .ref (G.1 13)), (1, .int a0), (2, .int a1)]) (fun _ => rfl) e (fun x1 e => ?_)
  refine v_iconst (v := 0) O dX2_squaresWith_2 (by decide) ?_
  refine v_istore O dX2_squaresWith_3 (by decide) (fun x2 => [(4, .int x2), (3, .int x1), (0, .ref (G.1 13)), (1, .int a0), (2, .int a1)]) (fun _ => rfl) e (fun x2 e => ?_)
  refine v_sub [2, 3, 4, 1, 0] rfl ?_
  exact f_X2_squaresWith_l5_ok O N N _ _ _ _ _ e
/-! ===== X2 shapeOf ===== -/
abbrev rm_X2_shapeOf : Room := { frames := 2, cells := 0, slots := 0, locals := 45 }
theorem cw_X2_shapeOf_J6_bitCount_0f7a4 : CwO rm_X2_shapeOf yJ6_bitCount_0f7a4 wsJ6_bitCount_0f7a4 cJ6_bitCount_0f7a4 1 (some .int) rm_J6_bitCount_0f7a4 1 := ⟨⟨_, rfl⟩, rfl, rfl, by decide +kernel, by decide, by decide⟩
theorem cw_X2_shapeOf_X2_joinsOf : CwO rm_X2_shapeOf yX2_joinsOf wsX2_joinsOf cX2_joinsOf 4 (some .int) rm_X2_joinsOf 1 := ⟨⟨_, rfl⟩, rfl, rfl, by decide +kernel, by decide, by decide⟩
theorem cw_X2_shapeOf_X2_squaresWith : CwO rm_X2_shapeOf yX2_squaresWith wsX2_squaresWith cX2_squaresWith 5 (some .int) rm_X2_squaresWith 2 := ⟨⟨_, rfl⟩, rfl, rfl, by decide +kernel, by decide, by decide⟩
set_option maxRecDepth 20000 in
theorem f_X2_shapeOf_b55_ok {X : Cx} {G : Gx} {z : Rs} (O : Ok X G cX2_shapeOf RX2 7 wsX2_shapeOf (some .int) rm_X2_shapeOf) (N : Nat) (s0 : Int32) (h : Hp) (e : f_X2_shapeOf_b55 N s0 h = some z) : V X G 7 (QI X G z) h 55 [] [.int s0] := by
  unfold f_X2_shapeOf_b55 at e
  exact v_iret O dX2_shapeOf_55 e
set_option maxRecDepth 20000 in
theorem f_X2_shapeOf_b79_ok {X : Cx} {G : Gx} {z : Rs} (O : Ok X G cX2_shapeOf RX2 7 wsX2_shapeOf (some .int) rm_X2_shapeOf) (N : Nat) (s0 : Int32) (h : Hp) (e : f_X2_shapeOf_b79 N s0 h = some z) : V X G 7 (QI X G z) h 79 [] [.int s0] := by
  unfold f_X2_shapeOf_b79 at e
  exact v_iret O dX2_shapeOf_79 e
set_option maxRecDepth 20000 in
theorem f_X2_shapeOf_b120_ok {X : Cx} {G : Gx} {z : Rs} (O : Ok X G cX2_shapeOf RX2 7 wsX2_shapeOf (some .int) rm_X2_shapeOf) (N : Nat) (s0 : Int32) (h : Hp) (e : f_X2_shapeOf_b120 N s0 h = some z) : V X G 7 (QI X G z) h 120 [] [.int s0] := by
  unfold f_X2_shapeOf_b120 at e
  exact v_iret O dX2_shapeOf_120 e
set_option maxRecDepth 20000 in
theorem f_X2_shapeOf_b108_ok {X : Cx} {G : Gx} {z : Rs} (O : Ok X G cX2_shapeOf RX2 7 wsX2_shapeOf (some .int) rm_X2_shapeOf) (N : Nat) (s0 : Int32) (h : Hp) (e : f_X2_shapeOf_b108 N s0 h = some z) : V X G 7 (QI X G z) h 108 [] [.int s0] := by
  unfold f_X2_shapeOf_b108 at e
  refine v_istore O dX2_shapeOf_108 (by decide) (fun x1 => [(6, .int x1)]) (fun _ => rfl) e (fun x1 e => ?_)
  refine v_iload O dX2_shapeOf_110 0 rfl ?_
  refine v_if_eq O dX2_shapeOf_112 119 (by decide) e (fun e => ?_) (fun e => ?_)
  · refine v_iconst (v := 5) O dX2_shapeOf_119 (by decide) ?_
    refine v_sub [] rfl ?_
    exact f_X2_shapeOf_b120_ok O N _ _ e
  · refine v_iconst (v := 4) O dX2_shapeOf_115 (by decide) ?_
    refine v_goto O dX2_shapeOf_116 120 (by decide) ?_
    refine v_sub [] rfl ?_
    exact f_X2_shapeOf_b120_ok O N _ _ e
set_option maxRecDepth 20000 in
theorem f_X2_shapeOf_b107_ok {X : Cx} {G : Gx} {z : Rs} (O : Ok X G cX2_shapeOf RX2 7 wsX2_shapeOf (some .int) rm_X2_shapeOf) (N : Nat) (h : Hp) (e : f_X2_shapeOf_b107 N h = some z) : V X G 7 (QI X G z) h 107 [] [] := by
  unfold f_X2_shapeOf_b107 at e
  refine v_iconst (v := 0) O dX2_shapeOf_107 (by decide) ?_
  exact f_X2_shapeOf_b108_ok O N _ _ e
set_option maxRecDepth 20000 in
theorem f_X2_shapeOf_ok {l : Launch} {G : Gx} {N : Nat} {a0 : Int32} {h : Hp} {z : Rs} (e : f_X2_shapeOf N a0 h = some z) : CI l G yX2_shapeOf wsX2_shapeOf rm_X2_shapeOf [.ref (G.1 13), .int a0] h z := by
  refine m_int _ (by decide) rfl [(0, .ref (G.1 13)), (1, .int a0)] rfl (Nat.le_of_ble_eq_true rfl) (fun X O => ?_)
  unfold f_X2_shapeOf at e
  refine v_iload_n O dX2_shapeOf_0 1 rfl rfl ?_
  refine v_cSi O [.int a0] [] gX2_shapeOf_J6_bitCount_0f7a4 cw_X2_shapeOf_J6_bitCount_0f7a4 rfl rfl (Nat.le_of_ble_eq_true rfl) dX2_shapeOf_1 e (fun _ e9 => f_J6_bitCount_0f7a4_ok e9) (fun r1 h2 e => ?_)
  refine v_istore_n O dX2_shapeOf_4 rfl (by decide) (fun x3 => [(2, .int x3), (0, .ref (G.1 13)), (1, .int a0)]) (fun _ => rfl) e (fun x3 e => ?_)
  refine v_aload_n O dX2_shapeOf_5 1 rfl rfl ?_
  refine v_iconst (v := 1) O dX2_shapeOf_6 (by decide) ?_
  refine v_iload_n O dX2_shapeOf_7 2 rfl rfl ?_
  refine v_cVi O [.int 1, .int a0] [] gX2_shapeOf_X2_squaresWith cw_X2_shapeOf_X2_squaresWith rfl rfl (g25 O (by decide)) (cg_13 G _) rfl rfl (Nat.le_of_ble_eq_true rfl) dX2_shapeOf_8 e (fun _ e9 => f_X2_squaresWith_ok e9) (fun r4 h5 e => ?_)
  refine v_istore_n O dX2_shapeOf_11 rfl (by decide) (fun x6 => [(3, .int x6), (2, .int x3), (0, .ref (G.1 13)), (1, .int a0)]) (fun _ => rfl) e (fun x6 e => ?_)
  refine v_aload_n O dX2_shapeOf_12 2 rfl rfl ?_
  refine v_iconst (v := 2) O dX2_shapeOf_13 (by decide) ?_
  refine v_iload_n O dX2_shapeOf_14 3 rfl rfl ?_
  refine v_cVi O [.int 2, .int a0] [] gX2_shapeOf_X2_squaresWith cw_X2_shapeOf_X2_squaresWith rfl rfl (g25 O (by decide)) (cg_13 G _) rfl rfl (Nat.le_of_ble_eq_true rfl) dX2_shapeOf_15 e (fun _ e9 => f_X2_squaresWith_ok e9) (fun r7 h8 e => ?_)
  refine v_istore O dX2_shapeOf_18 (by decide) (fun x9 => [(4, .int x9), (3, .int x6), (2, .int x3), (0, .ref (G.1 13)), (1, .int a0)]) (fun _ => rfl) e (fun x9 e => ?_)
  refine v_aload_n O dX2_shapeOf_20 3 rfl rfl ?_
  refine v_iload_n O dX2_shapeOf_21 4 rfl rfl ?_
  refine v_cVi O [.int a0] [] gX2_shapeOf_X2_joinsOf cw_X2_shapeOf_X2_joinsOf rfl rfl (g25 O (by decide)) (cg_13 G _) rfl rfl (Nat.le_of_ble_eq_true rfl) dX2_shapeOf_22 e (fun _ e9 => f_X2_joinsOf_ok e9) (fun r10 h11 e => ?_)
  refine v_istore O dX2_shapeOf_25 (by decide) (fun x12 => [(5, .int x12), (4, .int x9), (3, .int x6), (2, .int x3), (0, .ref (G.1 13)), (1, .int a0)]) (fun _ => rfl) e (fun x12 e => ?_)
  refine v_iload_n O dX2_shapeOf_27 3 rfl rfl ?_
  refine v_iconst (v := 1) O dX2_shapeOf_28 (by decide) ?_
  refine v_icmp_ne O dX2_shapeOf_29 34 (by decide) e (fun e => ?_) (fun e => ?_)
  · refine v_iload O dX2_shapeOf_34 0 rfl ?_
    refine v_iload_n O dX2_shapeOf_36 3 rfl rfl ?_
    refine v_iconst (v := 1) O dX2_shapeOf_37 (by decide) ?_
    refine v_isub O dX2_shapeOf_38 ?_
    refine v_icmp_ne O dX2_shapeOf_39 56 (by decide) e (fun e => ?_) (fun e => ?_)
    · refine v_iload O dX2_shapeOf_56 0 rfl ?_
      refine v_iload_n O dX2_shapeOf_58 3 rfl rfl ?_
      refine v_icmp_eq O dX2_shapeOf_59 64 (by decide) e (fun e => ?_) (fun e => ?_)
      · refine v_iload O dX2_shapeOf_64 1 rfl ?_
        refine v_iload_n O dX2_shapeOf_66 3 rfl rfl ?_
        refine v_icmp_ne O dX2_shapeOf_67 80 (by decide) e (fun e => ?_) (fun e => ?_)
        · refine v_iload_n O dX2_shapeOf_80 2 rfl rfl ?_
          refine v_iconst (v := 1) O dX2_shapeOf_81 (by decide) ?_
          refine v_icmp_ne O dX2_shapeOf_82 107 (by decide) e (fun e => ?_) (fun e => ?_)
          · refine v_sub [] rfl ?_
            exact f_X2_shapeOf_b107_ok O N _ e
          · refine v_aload_n O dX2_shapeOf_85 4 rfl rfl ?_
            refine v_iconst (v := 3) O dX2_shapeOf_86 (by decide) ?_
            refine v_iload_n O dX2_shapeOf_87 5 rfl rfl ?_
            refine v_cVi O [.int 3, .int a0] [] gX2_shapeOf_X2_squaresWith cw_X2_shapeOf_X2_squaresWith rfl rfl (g25 O (by decide)) (cg_13 G _) rfl rfl (Nat.le_of_ble_eq_true rfl) dX2_shapeOf_88 e (fun _ e9 => f_X2_squaresWith_ok e9) (fun r13 h14 e => ?_)
            refine v_iconst (v := 1) O dX2_shapeOf_91 (by decide) ?_
            refine v_icmp_ne O dX2_shapeOf_92 107 (by decide) e (fun e => ?_) (fun e => ?_)
            · refine v_sub [] rfl ?_
              exact f_X2_shapeOf_b107_ok O N _ e
            · refine v_iload O dX2_shapeOf_95 1 rfl ?_
              refine v_iload_n O dX2_shapeOf_97 3 rfl rfl ?_
              refine v_iconst (v := 2) O dX2_shapeOf_98 (by decide) ?_
              refine v_isub O dX2_shapeOf_99 ?_
              refine v_icmp_ne O dX2_shapeOf_100 107 (by decide) e (fun e => ?_) (fun e => ?_)
              · refine v_sub [] rfl ?_
                exact f_X2_shapeOf_b107_ok O N _ e
              · refine v_iconst (v := 1) O dX2_shapeOf_103 (by decide) ?_
                refine v_goto O dX2_shapeOf_104 108 (by decide) ?_
                refine v_sub [] rfl ?_
                exact f_X2_shapeOf_b108_ok O N _ _ e
        · refine v_iload_n O dX2_shapeOf_70 3 rfl rfl ?_
          refine v_if_ne O dX2_shapeOf_71 78 (by decide) e (fun e => ?_) (fun e => ?_)
          · refine v_iconst (v := 2) O dX2_shapeOf_78 (by decide) ?_
            refine v_sub [] rfl ?_
            exact f_X2_shapeOf_b79_ok O N _ _ e
          · refine v_iconst (v := 5) O dX2_shapeOf_74 (by decide) ?_
            refine v_goto O dX2_shapeOf_75 79 (by decide) ?_
            refine v_sub [] rfl ?_
            exact f_X2_shapeOf_b79_ok O N _ _ e
      · refine v_iconst (v := 5) O dX2_shapeOf_62 (by decide) ?_
        exact v_iret O dX2_shapeOf_63 e
    · refine v_iload_n O dX2_shapeOf_42 2 rfl rfl ?_
      refine v_iload O dX2_shapeOf_43 1 rfl ?_
      refine v_iadd O dX2_shapeOf_45 ?_
      refine v_iload_n O dX2_shapeOf_46 3 rfl rfl ?_
      refine v_icmp_ne O dX2_shapeOf_47 54 (by decide) e (fun e => ?_) (fun e => ?_)
      · refine v_iconst (v := 3) O dX2_shapeOf_54 (by decide) ?_
        refine v_sub [] rfl ?_
        exact f_X2_shapeOf_b55_ok O N _ _ e
      · refine v_iconst (v := 1) O dX2_shapeOf_50 (by decide) ?_
        refine v_goto O dX2_shapeOf_51 55 (by decide) ?_
        refine v_sub [] rfl ?_
        exact f_X2_shapeOf_b55_ok O N _ _ e
  · refine v_iconst (v := 0) O dX2_shapeOf_32 (by decide) ?_
    exact v_iret O dX2_shapeOf_33 e
/-! ===== X7 ring ===== -/
abbrev rm_X7_ring : Room := { frames := 3, cells := 0, slots := 0, locals := 73 }
theorem fd_X7_ring_10 : FdO wsX7_ring RX7 10 RX7 TX7 15 7 0 := ⟨by decide +kernel, rfl, by decide, by decide +kernel⟩
theorem fd_X7_ring_53 : FdO wsX7_ring RX7 53 RX7 TX7 15 7 5 := ⟨by decide +kernel, rfl, by decide, by decide +kernel⟩
theorem fd_X7_ring_126 : FdO wsX7_ring RX7 126 RX5 TX5 9 5 2 := ⟨by decide +kernel, rfl, by decide, by decide +kernel⟩
theorem cw_X7_ring_J6_bitCount_0f7a4 : CwO rm_X7_ring yJ6_bitCount_0f7a4 wsJ6_bitCount_0f7a4 cJ6_bitCount_0f7a4 1 (some .int) rm_J6_bitCount_0f7a4 1 := ⟨⟨_, rfl⟩, rfl, rfl, by decide +kernel, by decide, by decide⟩
theorem cw_X7_ring_X2_around : CwO rm_X7_ring yX2_around wsX2_around cX2_around 7 (some .int) rm_X2_around 2 := ⟨⟨_, rfl⟩, rfl, rfl, by decide +kernel, by decide, by decide⟩
theorem cw_X7_ring_X2_knot : CwO rm_X7_ring yX2_knot wsX2_knot cX2_knot 4 (none) rm_X2_knot 2 := ⟨⟨_, rfl⟩, rfl, rfl, by decide +kernel, by decide, by decide⟩
theorem cw_X7_ring_X2_partAt : CwO rm_X7_ring yX2_partAt wsX2_partAt cX2_partAt 6 (some .int) rm_X2_partAt 1 := ⟨⟨_, rfl⟩, rfl, rfl, by decide +kernel, by decide, by decide⟩
theorem cw_X7_ring_X2_shapeOf : CwO rm_X7_ring yX2_shapeOf wsX2_shapeOf cX2_shapeOf 7 (some .int) rm_X2_shapeOf 1 := ⟨⟨_, rfl⟩, rfl, rfl, by decide +kernel, by decide, by decide⟩
theorem cw_X7_ring_X7_noKind : CwO rm_X7_ring yX7_noKind wsX7_noKind cX7_noKind 1 (some .boolean) rm_X7_noKind 1 := ⟨⟨_, rfl⟩, rfl, rfl, by decide +kernel, by decide, by decide⟩
theorem cw_X7_ring_X7_noSquare : CwO rm_X7_ring yX7_noSquare wsX7_noSquare cX7_noSquare 2 (some .boolean) rm_X7_noSquare 1 := ⟨⟨_, rfl⟩, rfl, rfl, by decide +kernel, by decide, by decide⟩
set_option maxRecDepth 20000 in
theorem f_X7_ring_b22_ok {X : Cx} {G : Gx} {z : Rs} (O : Ok X G cX7_ring RX7 5 wsX7_ring (some .int) rm_X7_ring) (N : Nat) (h : Hp) (e : f_X7_ring_b22 N h = some z) : V X G 5 (QI X G z) h 22 [] [] := by
  unfold f_X7_ring_b22 at e
  refine v_bipush (v := (-3)) O dX7_ring_22 (by decide) ?_
  exact v_iret O dX7_ring_24 e
set_option maxRecDepth 20000 in
theorem f_X7_ring_ok {l : Launch} {G : Gx} {N : Nat} {a0 : Int32} {a1 : Int32} {a2 : Int32} {h : Hp} {z : Rs} (e : f_X7_ring N a0 a1 a2 h = some z) : CI l G yX7_ring wsX7_ring rm_X7_ring [.ref (G.1 0), .int a0, .int a1, .int a2] h z := by
  refine m_int _ (by decide) rfl [(0, .ref (G.1 0)), (1, .int a0), (2, .int a1), (3, .int a2)] rfl (Nat.le_of_ble_eq_true rfl) (fun X O => ?_)
  unfold f_X7_ring at e
  refine v_aload_n O dX7_ring_0 0 rfl rfl ?_
  refine v_iload_n O dX7_ring_1 2 rfl rfl ?_
  refine v_cVi O [.int a1] [] gX7_ring_X7_noSquare cw_X7_ring_X7_noSquare rfl rfl (g25 O (by decide)) (cg_0 G _) rfl rfl (Nat.le_of_ble_eq_true rfl) dX7_ring_2 e (fun _ e9 => f_X7_noSquare_ok e9) (fun r1 h2 e => ?_)
  refine v_if_eq O dX7_ring_5 11 (by decide) e (fun e => ?_) (fun e => ?_)
  · refine v_iload_n O dX7_ring_11 1 rfl rfl ?_
    refine v_cSi O [.int a0] [] gX7_ring_X7_noKind cw_X7_ring_X7_noKind rfl rfl (Nat.le_of_ble_eq_true rfl) dX7_ring_12 e (fun _ e9 => f_X7_noKind_ok e9) (fun r3 h4 e => ?_)
    refine v_if_ne O dX7_ring_15 22 (by decide) e (fun e => ?_) (fun e => ?_)
    · refine v_sub [] rfl ?_
      exact f_X7_ring_b22_ok O N _ e
    · refine v_iload_n O dX7_ring_18 3 rfl rfl ?_
      refine v_if_ge O dX7_ring_19 25 (by decide) e (fun e => ?_) (fun e => ?_)
      · refine v_aload_n O dX7_ring_25 0 rfl rfl ?_
        refine v_get O fd_X7_ring_53 (g25 O (by decide)) (cg_0 G _) rfl dX7_ring_26 ?_
        refine v_iload_n O dX7_ring_29 1 rfl rfl ?_
        refine v_aload_n O dX7_ring_30 0 rfl rfl ?_
        refine v_get O fd_X7_ring_10 (g25 O (by decide)) (cg_0 G _) rfl dX7_ring_31 ?_
        refine v_get O fd_X7_ring_126 (g25 O (by decide)) (cg_1 G _) rfl dX7_ring_34 ?_
        refine v_cVv O [.int a0, .int (h4.1 1 2)] [] gX7_ring_X2_knot cw_X7_ring_X2_knot rfl rfl (g25 O (by decide)) (cg_13 G _) rfl rfl (Nat.le_of_ble_eq_true rfl) dX7_ring_37 e (fun _ e9 => f_X2_knot_ok e9) (fun _ h5 e => ?_)
        refine v_aload_n O dX7_ring_40 0 rfl rfl ?_
        refine v_get O fd_X7_ring_53 (g25 O (by decide)) (cg_0 G _) rfl dX7_ring_41 ?_
        refine v_iload_n O dX7_ring_44 2 rfl rfl ?_
        refine v_cVi O [.int a1] [] gX7_ring_X2_partAt cw_X7_ring_X2_partAt rfl rfl (g25 O (by decide)) (cg_13 G _) rfl rfl (Nat.le_of_ble_eq_true rfl) dX7_ring_45 e (fun _ e9 => f_X2_partAt_ok e9) (fun r6 h7 e => ?_)
        refine v_istore O dX7_ring_48 (by decide) (fun x8 => [(4, .int x8), (0, .ref (G.1 0)), (1, .int a0), (2, .int a1), (3, .int a2)]) (fun _ => rfl) e (fun x8 e => ?_)
        refine v_aload_n O dX7_ring_50 1 rfl rfl ?_
        refine v_get O fd_X7_ring_53 (g25 O (by decide)) (cg_0 G _) rfl dX7_ring_51 ?_
        refine v_iload O dX7_ring_54 0 rfl ?_
        refine v_cVi O [.int x8] [] gX7_ring_X2_shapeOf cw_X7_ring_X2_shapeOf rfl rfl (g25 O (by decide)) (cg_13 G _) rfl rfl (Nat.le_of_ble_eq_true rfl) dX7_ring_56 e (fun _ e9 => f_X2_shapeOf_ok e9) (fun r9 h10 e => ?_)
        refine v_iconst (v := 2) O dX7_ring_59 (by decide) ?_
        refine v_icmp_eq O dX7_ring_60 66 (by decide) e (fun e => ?_) (fun e => ?_)
        · refine v_iload_n O dX7_ring_66 4 rfl rfl ?_
          refine v_iload O dX7_ring_67 0 rfl ?_
          refine v_cSi O [.int x8] [.int a2] gX7_ring_J6_bitCount_0f7a4 cw_X7_ring_J6_bitCount_0f7a4 rfl rfl (Nat.le_of_ble_eq_true rfl) dX7_ring_69 e (fun _ e9 => f_J6_bitCount_0f7a4_ok e9) (fun r11 h12 e => ?_)
          refine v_icmp_lt O dX7_ring_72 77 (by decide) e (fun e => ?_) (fun e => ?_)
          · refine v_aload_n O dX7_ring_77 1 rfl rfl ?_
            refine v_get O fd_X7_ring_53 (g25 O (by decide)) (cg_0 G _) rfl dX7_ring_78 ?_
            refine v_iload_n O dX7_ring_81 3 rfl rfl ?_
            refine v_iload_n O dX7_ring_82 4 rfl rfl ?_
            refine v_cVi O [.int a1, .int a2] [] gX7_ring_X2_around cw_X7_ring_X2_around rfl rfl (g25 O (by decide)) (cg_13 G _) rfl rfl (Nat.le_of_ble_eq_true rfl) dX7_ring_83 e (fun _ e9 => f_X2_around_ok e9) (fun r13 h14 e => ?_)
            exact v_iret O dX7_ring_86 e
          · refine v_iconst (v := (-1)) O dX7_ring_75 (by decide) ?_
            exact v_iret O dX7_ring_76 e
        · refine v_bipush (v := (-4)) O dX7_ring_63 (by decide) ?_
          exact v_iret O dX7_ring_65 e
      · refine v_sub [] rfl ?_
        exact f_X7_ring_b22_ok O N _ e
  · refine v_bipush (v := (-2)) O dX7_ring_8 (by decide) ?_
    exact v_iret O dX7_ring_10 e
/-! ===== X7 row ===== -/
abbrev rm_X7_row : Room := { frames := 2, cells := 0, slots := 0, locals := 41 }
theorem fd_X7_row_77 : FdO wsX7_row RX7 77 RX7 TX7 15 7 10 := ⟨by decide +kernel, rfl, by decide, by decide +kernel⟩
theorem fd_X7_row_80 : FdO wsX7_row RX7 80 RX7 TX7 15 7 11 := ⟨by decide +kernel, rfl, by decide, by decide +kernel⟩
theorem fd_X7_row_234 : FdO wsX7_row RX7 234 RX7 TX7 15 7 12 := ⟨by decide +kernel, rfl, by decide, by decide +kernel⟩
theorem cw_X7_row_X7_noMan : CwO rm_X7_row yX7_noMan wsX7_noMan cX7_noMan 2 (some .boolean) rm_X7_noMan 1 := ⟨⟨_, rfl⟩, rfl, rfl, by decide +kernel, by decide, by decide⟩
theorem cw_X7_row_X7_noSquare : CwO rm_X7_row yX7_noSquare wsX7_noSquare cX7_noSquare 2 (some .boolean) rm_X7_noSquare 1 := ⟨⟨_, rfl⟩, rfl, rfl, by decide +kernel, by decide, by decide⟩
set_option maxRecDepth 20000 in
theorem f_X7_row_b16_ok {X : Cx} {G : Gx} {z : Rs} (O : Ok X G cX7_row RX7 3 wsX7_row (some .int) rm_X7_row) (N : Nat) (h : Hp) (e : f_X7_row_b16 N h = some z) : V X G 3 (QI X G z) h 16 [] [] := by
  unfold f_X7_row_b16 at e
  refine v_bipush (v := (-2)) O dX7_row_16 (by decide) ?_
  exact v_iret O dX7_row_18 e
set_option maxRecDepth 20000 in
theorem f_X7_row_ok {l : Launch} {G : Gx} {N : Nat} {a0 : Int32} {a1 : Int32} {h : Hp} {z : Rs} (e : f_X7_row N a0 a1 h = some z) : CI l G yX7_row wsX7_row rm_X7_row [.ref (G.1 0), .int a0, .int a1] h z := by
  refine m_int _ (by decide) rfl [(0, .ref (G.1 0)), (1, .int a0), (2, .int a1)] rfl (Nat.le_of_ble_eq_true rfl) (fun X O => ?_)
  unfold f_X7_row at e
  refine v_aload_n O dX7_row_0 0 rfl rfl ?_
  refine v_iload_n O dX7_row_1 1 rfl rfl ?_
  refine v_cVi O [.int a0] [] gX7_row_X7_noMan cw_X7_row_X7_noMan rfl rfl (g25 O (by decide)) (cg_0 G _) rfl rfl (Nat.le_of_ble_eq_true rfl) dX7_row_2 e (fun _ e9 => f_X7_noMan_ok e9) (fun r1 h2 e => ?_)
  refine v_if_ne O dX7_row_5 16 (by decide) e (fun e => ?_) (fun e => ?_)
  · refine v_sub [] rfl ?_
    exact f_X7_row_b16_ok O N _ e
  · refine v_aload_n O dX7_row_8 0 rfl rfl ?_
    refine v_iload_n O dX7_row_9 2 rfl rfl ?_
    refine v_cVi O [.int a1] [] gX7_row_X7_noSquare cw_X7_row_X7_noSquare rfl rfl (g25 O (by decide)) (cg_0 G _) rfl rfl (Nat.le_of_ble_eq_true rfl) dX7_row_10 e (fun _ e9 => f_X7_noSquare_ok e9) (fun r3 h4 e => ?_)
    refine v_if_eq O dX7_row_13 19 (by decide) e (fun e => ?_) (fun e => ?_)
    · refine v_aload_n O dX7_row_19 0 rfl rfl ?_
      refine v_get O fd_X7_row_234 (g25 O (by decide)) (cg_0 G _) rfl dX7_row_20 ?_
      refine v_bipush (v := 12) O dX7_row_23 (by decide) ?_
      refine v_icmp_lt O dX7_row_25 31 (by decide) e (fun e => ?_) (fun e => ?_)
      · refine v_aload_n O dX7_row_31 0 rfl rfl ?_
        refine v_get O fd_X7_row_77 (g25 O (by decide)) (cg_0 G _) rfl dX7_row_32 ?_
        refine v_aload_n O dX7_row_35 0 rfl rfl ?_
        refine v_get O fd_X7_row_234 (g25 O (by decide)) (cg_0 G _) rfl dX7_row_36 ?_
        refine v_iload_n O dX7_row_39 1 rfl rfl ?_
        refine v_iast O (g25 O (by decide)) (cg_23 G _) (cw_23 G _ _ _) dX7_row_40 e (fun h5 e => ?_)
        refine v_aload_n O dX7_row_41 0 rfl rfl ?_
        refine v_get O fd_X7_row_80 (g25 O (by decide)) (cg_0 G _) rfl dX7_row_42 ?_
        refine v_aload_n O dX7_row_45 0 rfl rfl ?_
        refine v_get O fd_X7_row_234 (g25 O (by decide)) (cg_0 G _) rfl dX7_row_46 ?_
        refine v_iload_n O dX7_row_49 2 rfl rfl ?_
        refine v_iast O (g25 O (by decide)) (cg_24 G _) (cw_24 G _ _ _) dX7_row_50 e (fun h6 e => ?_)
        refine v_aload_n O dX7_row_51 0 rfl rfl ?_
        refine v_dup O dX7_row_52 rfl ?_
        refine v_get O fd_X7_row_234 (g25 O (by decide)) (cg_0 G _) rfl dX7_row_53 ?_
        refine v_iconst (v := 1) O dX7_row_56 (by decide) ?_
        refine v_iadd O dX7_row_57 ?_
        refine v_put O fd_X7_row_234 fp_X7_12 (g25 O (by decide)) (cg_0 G _) (Nat.le_of_ble_eq_true rfl) (cs_0_12 G _ _) dX7_row_58 e (fun h7 e => ?_)
        refine v_aload_n O dX7_row_61 0 rfl rfl ?_
        refine v_get O fd_X7_row_234 (g25 O (by decide)) (cg_0 G _) rfl dX7_row_62 ?_
        exact v_iret O dX7_row_65 e
      · refine v_bipush (v := (-5)) O dX7_row_28 (by decide) ?_
        exact v_iret O dX7_row_30 e
    · refine v_sub [] rfl ?_
      exact f_X7_row_b16_ok O N _ e
/-! ===== X7 shape ===== -/
abbrev rm_X7_shape : Room := { frames := 3, cells := 0, slots := 0, locals := 73 }
theorem fd_X7_shape_10 : FdO wsX7_shape RX7 10 RX7 TX7 15 7 0 := ⟨by decide +kernel, rfl, by decide, by decide +kernel⟩
theorem fd_X7_shape_53 : FdO wsX7_shape RX7 53 RX7 TX7 15 7 5 := ⟨by decide +kernel, rfl, by decide, by decide +kernel⟩
theorem fd_X7_shape_126 : FdO wsX7_shape RX7 126 RX5 TX5 9 5 2 := ⟨by decide +kernel, rfl, by decide, by decide +kernel⟩
theorem cw_X7_shape_X2_knot : CwO rm_X7_shape yX2_knot wsX2_knot cX2_knot 4 (none) rm_X2_knot 2 := ⟨⟨_, rfl⟩, rfl, rfl, by decide +kernel, by decide, by decide⟩
theorem cw_X7_shape_X2_partAt : CwO rm_X7_shape yX2_partAt wsX2_partAt cX2_partAt 6 (some .int) rm_X2_partAt 1 := ⟨⟨_, rfl⟩, rfl, rfl, by decide +kernel, by decide, by decide⟩
theorem cw_X7_shape_X2_shapeOf : CwO rm_X7_shape yX2_shapeOf wsX2_shapeOf cX2_shapeOf 7 (some .int) rm_X2_shapeOf 1 := ⟨⟨_, rfl⟩, rfl, rfl, by decide +kernel, by decide, by decide⟩
theorem cw_X7_shape_X7_bit : CwO rm_X7_shape yX7_bit wsX7_bit cX7_bit 2 (some .int) rm_X7_bit 2 := ⟨⟨_, rfl⟩, rfl, rfl, by decide +kernel, by decide, by decide⟩
theorem cw_X7_shape_X7_noKind : CwO rm_X7_shape yX7_noKind wsX7_noKind cX7_noKind 1 (some .boolean) rm_X7_noKind 1 := ⟨⟨_, rfl⟩, rfl, rfl, by decide +kernel, by decide, by decide⟩
theorem cw_X7_shape_X7_noSquare : CwO rm_X7_shape yX7_noSquare wsX7_noSquare cX7_noSquare 2 (some .boolean) rm_X7_noSquare 1 := ⟨⟨_, rfl⟩, rfl, rfl, by decide +kernel, by decide, by decide⟩
set_option maxRecDepth 20000 in
theorem f_X7_shape_ok {l : Launch} {G : Gx} {N : Nat} {a0 : Int32} {a1 : Int32} {h : Hp} {z : Rs} (e : f_X7_shape N a0 a1 h = some z) : CI l G yX7_shape wsX7_shape rm_X7_shape [.ref (G.1 0), .int a0, .int a1] h z := by
  refine m_int _ (by decide) rfl [(0, .ref (G.1 0)), (1, .int a0), (2, .int a1)] rfl (Nat.le_of_ble_eq_true rfl) (fun X O => ?_)
  unfold f_X7_shape at e
  refine v_aload_n O dX7_shape_0 0 rfl rfl ?_
  refine v_iload_n O dX7_shape_1 2 rfl rfl ?_
  refine v_cVi O [.int a1] [] gX7_shape_X7_noSquare cw_X7_shape_X7_noSquare rfl rfl (g25 O (by decide)) (cg_0 G _) rfl rfl (Nat.le_of_ble_eq_true rfl) dX7_shape_2 e (fun _ e9 => f_X7_noSquare_ok e9) (fun r1 h2 e => ?_)
  refine v_if_eq O dX7_shape_5 11 (by decide) e (fun e => ?_) (fun e => ?_)
  · refine v_iload_n O dX7_shape_11 1 rfl rfl ?_
    refine v_cSi O [.int a0] [] gX7_shape_X7_noKind cw_X7_shape_X7_noKind rfl rfl (Nat.le_of_ble_eq_true rfl) dX7_shape_12 e (fun _ e9 => f_X7_noKind_ok e9) (fun r3 h4 e => ?_)
    refine v_if_eq O dX7_shape_15 21 (by decide) e (fun e => ?_) (fun e => ?_)
    · refine v_aload_n O dX7_shape_21 0 rfl rfl ?_
      refine v_get O fd_X7_shape_10 (g25 O (by decide)) (cg_0 G _) rfl dX7_shape_22 ?_
      refine v_get O fd_X7_shape_126 (g25 O (by decide)) (cg_1 G _) rfl dX7_shape_25 ?_
      refine v_iload_n O dX7_shape_28 2 rfl rfl ?_
      refine v_cSi O [.int (h4.1 1 2), .int a1] [] gX7_shape_X7_bit cw_X7_shape_X7_bit rfl rfl (Nat.le_of_ble_eq_true rfl) dX7_shape_29 e (fun _ e9 => f_X7_bit_ok e9) (fun r5 h6 e => ?_)
      refine v_iconst (v := 1) O dX7_shape_32 (by decide) ?_
      refine v_icmp_ne O dX7_shape_33 39 (by decide) e (fun e => ?_) (fun e => ?_)
      · refine v_aload_n O dX7_shape_39 0 rfl rfl ?_
        refine v_get O fd_X7_shape_53 (g25 O (by decide)) (cg_0 G _) rfl dX7_shape_40 ?_
        refine v_iload_n O dX7_shape_43 1 rfl rfl ?_
        refine v_aload_n O dX7_shape_44 0 rfl rfl ?_
        refine v_get O fd_X7_shape_10 (g25 O (by decide)) (cg_0 G _) rfl dX7_shape_45 ?_
        refine v_get O fd_X7_shape_126 (g25 O (by decide)) (cg_1 G _) rfl dX7_shape_48 ?_
        refine v_cVv O [.int a0, .int (h6.1 1 2)] [] gX7_shape_X2_knot cw_X7_shape_X2_knot rfl rfl (g25 O (by decide)) (cg_13 G _) rfl rfl (Nat.le_of_ble_eq_true rfl) dX7_shape_51 e (fun _ e9 => f_X2_knot_ok e9) (fun _ h7 e => ?_)
        refine v_aload_n O dX7_shape_54 0 rfl rfl ?_
        refine v_get O fd_X7_shape_53 (g25 O (by decide)) (cg_0 G _) rfl dX7_shape_55 ?_
        refine v_aload_n O dX7_shape_58 0 rfl rfl ?_
        refine v_get O fd_X7_shape_53 (g25 O (by decide)) (cg_0 G _) rfl dX7_shape_59 ?_
        refine v_iload_n O dX7_shape_62 2 rfl rfl ?_
        refine v_cVi O [.int a1] [.ref (G.1 13)] gX7_shape_X2_partAt cw_X7_shape_X2_partAt rfl rfl (g25 O (by decide)) (cg_13 G _) rfl rfl (Nat.le_of_ble_eq_true rfl) dX7_shape_63 e (fun _ e9 => f_X2_partAt_ok e9) (fun r8 h9 e => ?_)
        refine v_cVi O [.int r8] [] gX7_shape_X2_shapeOf cw_X7_shape_X2_shapeOf rfl rfl (g25 O (by decide)) (cg_13 G _) rfl rfl (Nat.le_of_ble_eq_true rfl) dX7_shape_66 e (fun _ e9 => f_X2_shapeOf_ok e9) (fun r10 h11 e => ?_)
        exact v_iret O dX7_shape_69 e
      · refine v_bipush (v := (-4)) O dX7_shape_36 (by decide) ?_
        exact v_iret O dX7_shape_38 e
    · refine v_bipush (v := (-3)) O dX7_shape_18 (by decide) ?_
      exact v_iret O dX7_shape_20 e
  · refine v_bipush (v := (-2)) O dX7_shape_8 (by decide) ?_
    exact v_iret O dX7_shape_10 e
