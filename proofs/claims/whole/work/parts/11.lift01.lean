/-! ===== X1 attackedMen ===== -/
abbrev rm_X1_attackedMen : Room := { frames := 2, cells := 0, slots := 0, locals := 50 }
theorem fd_X1_attackedMen_9 : FdO wsX1_attackedMen RX1 9 RX1 TX1 2 1 0 := ⟨by decide +kernel, rfl, by decide, by decide +kernel⟩
theorem fd_X1_attackedMen_15 : FdO wsX1_attackedMen RX1 15 RX1 TX1 2 1 1 := ⟨by decide +kernel, rfl, by decide, by decide +kernel⟩
theorem fd_X1_attackedMen_41 : FdO wsX1_attackedMen RX1 41 RX5 TX5 9 5 8 := ⟨by decide +kernel, rfl, by decide, by decide +kernel⟩
theorem fd_X1_attackedMen_49 : FdO wsX1_attackedMen RX1 49 RX5 TX5 9 5 7 := ⟨by decide +kernel, rfl, by decide, by decide +kernel⟩
theorem fd_X1_attackedMen_63 : FdO wsX1_attackedMen RX1 63 RX5 TX5 9 5 4 := ⟨by decide +kernel, rfl, by decide, by decide +kernel⟩
theorem cw_X1_attackedMen_X0_reached : CwO rm_X1_attackedMen yX0_reached wsX0_reached cX0_reached 10 (some .int) rm_X0_reached 4 := ⟨⟨_, rfl⟩, rfl, rfl, by decide +kernel, by decide, by decide⟩
theorem cw_X1_attackedMen_X5_taken : CwO rm_X1_attackedMen yX5_taken wsX5_taken cX5_taken 4 (some .int) rm_X5_taken 1 := ⟨⟨_, rfl⟩, rfl, rfl, by decide +kernel, by decide, by decide⟩
theorem cw_X1_attackedMen_X7_bit : CwO rm_X1_attackedMen yX7_bit wsX7_bit cX7_bit 2 (some .int) rm_X7_bit 2 := ⟨⟨_, rfl⟩, rfl, rfl, by decide +kernel, by decide, by decide⟩
theorem cw_X1_attackedMen_X7_placeOf : CwO rm_X1_attackedMen yX7_placeOf wsX7_placeOf cX7_placeOf 2 (some .int) rm_X7_placeOf 2 := ⟨⟨_, rfl⟩, rfl, rfl, by decide +kernel, by decide, by decide⟩
theorem sn_X1_attackedMen_X7_bit : Cond.static yX7_bit ∈ wsX1_attackedMen ∧ Cond.initialized yX7_bit.cls ∈ wsX1_attackedMen := ⟨by decide +kernel, by decide +kernel⟩
theorem sn_X1_attackedMen_X7_placeOf : Cond.static yX7_placeOf ∈ wsX1_attackedMen ∧ Cond.initialized yX7_placeOf.cls ∈ wsX1_attackedMen := ⟨by decide +kernel, by decide +kernel⟩
set_option maxRecDepth 20000 in
theorem f_X1_attackedMen_b87_ok {X : Cx} {G : Gx} {z : Rs} (O : Ok X G cX1_attackedMen RX1 9 wsX1_attackedMen (some .int) rm_X1_attackedMen) (N : Nat) (k18 : Int32 → Int32 → Int32 → Int32 → Int32 → Int32 → Hp → Option Rs) (hk18 : ∀ (v1 : Int32) (v2 : Int32) (v3 : Int32) (v4 : Int32) (v5 : Int32) (v6 : Int32) (h : Hp), k18 v1 v2 v3 v4 v5 v6 h = some z → V X G 9 (QI X G z) h 18 [(0, .ref (G.1 12)), (1, .int v1), (2, .int v2), (3, .int v3), (4, .int v4), (5, .int v5), (6, .int v6)] []) (v1 : Int32) (v2 : Int32) (v3 : Int32) (v4 : Int32) (v5 : Int32) (v6 : Int32) (h : Hp) (e : f_X1_attackedMen_b87 N k18 v1 v2 v3 v4 v5 v6 h = some z) : V X G 9 (QI X G z) h 87 [(0, .ref (G.1 12)), (1, .int v1), (2, .int v2), (3, .int v3), (4, .int v4), (5, .int v5), (6, .int v6)] [] := by
  unfold f_X1_attackedMen_b87 at e
  refine v_iinc (v := 1) O dX1_attackedMen_87 6 rfl (by decide) (by decide) (fun x1 => [(6, .int x1), (0, .ref (G.1 12)), (1, .int v1), (2, .int v2), (3, .int v3), (4, .int v4), (5, .int v5)]) (fun _ => rfl) e (fun x1 e => ?_)
  refine v_goto O dX1_attackedMen_90 18 (by decide) ?_
  refine v_sub [1, 2, 3, 4, 5, 6, 0] rfl ?_
  exact hk18 _ _ _ _ _ _ _ e
set_option maxRecDepth 20000 in
theorem f_X1_attackedMen_b131_ok {X : Cx} {G : Gx} {z : Rs} (O : Ok X G cX1_attackedMen RX1 9 wsX1_attackedMen (some .int) rm_X1_attackedMen) (N : Nat) (k99 : Int32 → Int32 → Int32 → Int32 → Int32 → Hp → Option Rs) (hk99 : ∀ (v1 : Int32) (v4 : Int32) (v5 : Int32) (v6 : Int32) (v7 : Int32) (h : Hp), k99 v1 v4 v5 v6 v7 h = some z → V X G 9 (QI X G z) h 99 [(0, .ref (G.1 12)), (1, .int v1), (4, .int v4), (5, .int v5), (6, .int v6), (7, .int v7)] []) (v1 : Int32) (v4 : Int32) (v5 : Int32) (v6 : Int32) (v7 : Int32) (s0 : Int32) (h : Hp) (e : f_X1_attackedMen_b131 N k99 v1 v4 v5 v6 v7 s0 h = some z) : V X G 9 (QI X G z) h 131 [(0, .ref (G.1 12)), (1, .int v1), (4, .int v4), (5, .int v5), (6, .int v6), (7, .int v7)] [.int s0] := by
  unfold f_X1_attackedMen_b131 at e
  refine v_istore O dX1_attackedMen_131 (by decide) (fun x1 => [(8, .int x1), (0, .ref (G.1 12)), (1, .int v1), (4, .int v4), (5, .int v5), (6, .int v6), (7, .int v7)]) (fun _ => rfl) e (fun x1 e => ?_)
  refine v_iload O dX1_attackedMen_133 5 rfl ?_
  refine v_iload O dX1_attackedMen_135 0 rfl ?_
  refine v_iload O dX1_attackedMen_137 6 rfl ?_
  refine v_iload_n O dX1_attackedMen_139 2 rfl rfl ?_
  refine v_cNi O [.int v7, .int v1] [.int x1, .int v6] 4 rfl gX1_attackedMen_X7_placeOf_n52 sn_X1_attackedMen_X7_placeOf.1 sn_X1_attackedMen_X7_placeOf.2 cw_X1_attackedMen_X7_placeOf rfl rfl (Nat.le_of_ble_eq_true rfl) dX1_attackedMen_140 e (fun _ e9 => f_X7_placeOf_ok e9) (fun r2 h3 e => ?_)
  refine v_cNi O [.int x1, .int r2] [.int v6] 2 rfl gX1_attackedMen_X7_bit_n23 sn_X1_attackedMen_X7_bit.1 sn_X1_attackedMen_X7_bit.2 cw_X1_attackedMen_X7_bit rfl rfl (Nat.le_of_ble_eq_true rfl) dX1_attackedMen_143 e (fun _ e9 => f_X7_bit_ok e9) (fun r4 h5 e => ?_)
  refine v_iload O dX1_attackedMen_146 6 rfl ?_
  refine v_ishl O dX1_attackedMen_148 ?_
  refine v_ior O dX1_attackedMen_149 ?_
  refine v_istore O dX1_attackedMen_150 (by decide) (fun x6 => [(6, .int x6), (8, .int x1), (0, .ref (G.1 12)), (1, .int v1), (4, .int v4), (5, .int v5), (7, .int v7)]) (fun _ => rfl) e (fun x6 e => ?_)
  refine v_iinc (v := 1) O dX1_attackedMen_152 6 rfl (by decide) (by decide) (fun x7 => [(7, .int x7), (6, .int x6), (8, .int x1), (0, .ref (G.1 12)), (1, .int v1), (4, .int v4), (5, .int v5)]) (fun _ => rfl) e (fun x7 e => ?_)
  refine v_goto O dX1_attackedMen_155 99 (by decide) ?_
  refine v_sub [3, 4, 5, 6, 1, 0] rfl ?_
  exact hk99 _ _ _ _ _ _ e
set_option maxRecDepth 20000 in
theorem f_X1_attackedMen_b99_ok {X : Cx} {G : Gx} {z : Rs} (O : Ok X G cX1_attackedMen RX1 9 wsX1_attackedMen (some .int) rm_X1_attackedMen) (N : Nat) (k99 : Int32 → Int32 → Int32 → Int32 → Int32 → Hp → Option Rs) (hk99 : ∀ (v1 : Int32) (v4 : Int32) (v5 : Int32) (v6 : Int32) (v7 : Int32) (h : Hp), k99 v1 v4 v5 v6 v7 h = some z → V X G 9 (QI X G z) h 99 [(0, .ref (G.1 12)), (1, .int v1), (4, .int v4), (5, .int v5), (6, .int v6), (7, .int v7)] []) (v1 : Int32) (v4 : Int32) (v5 : Int32) (v6 : Int32) (v7 : Int32) (h : Hp) (e : f_X1_attackedMen_b99 N k99 v1 v4 v5 v6 v7 h = some z) : V X G 9 (QI X G z) h 99 [(0, .ref (G.1 12)), (1, .int v1), (4, .int v4), (5, .int v5), (6, .int v6), (7, .int v7)] [] := by
  unfold f_X1_attackedMen_b99 at e
  refine v_iload O dX1_attackedMen_99 5 rfl ?_
  refine v_aload_n O dX1_attackedMen_101 0 rfl rfl ?_
  refine v_get O fd_X1_attackedMen_9 (g25 O (by decide)) (cg_12 G _) rfl dX1_attackedMen_102 ?_
  refine v_get O fd_X1_attackedMen_63 (g25 O (by decide)) (cg_1 G _) rfl dX1_attackedMen_105 ?_
  refine v_icmp_ge O dX1_attackedMen_108 158 (by decide) e (fun e => ?_) (fun e => ?_)
  · refine v_iload O dX1_attackedMen_158 4 rfl ?_
    exact v_iret O dX1_attackedMen_160 e
  · refine v_aload_n O dX1_attackedMen_111 0 rfl rfl ?_
    refine v_get O fd_X1_attackedMen_9 (g25 O (by decide)) (cg_12 G _) rfl dX1_attackedMen_112 ?_
    refine v_get O fd_X1_attackedMen_41 (g25 O (by decide)) (cg_1 G _) rfl dX1_attackedMen_115 ?_
    refine v_iload O dX1_attackedMen_118 5 rfl ?_
    refine v_iald O (g25 O (by decide)) (cg_3 G _) dX1_attackedMen_120 e (fun e => ?_)
    refine v_if_ne O dX1_attackedMen_121 129 (by decide) e (fun e => ?_) (fun e => ?_)
    · refine v_iload O dX1_attackedMen_129 2 rfl ?_
      exact f_X1_attackedMen_b131_ok O N k99 hk99 _ _ _ _ _ _ _ e
    · refine v_iload O dX1_attackedMen_124 3 rfl ?_
      refine v_goto O dX1_attackedMen_126 131 (by decide) ?_
      exact f_X1_attackedMen_b131_ok O N k99 hk99 _ _ _ _ _ _ _ e
theorem f_X1_attackedMen_l99_ok {X : Cx} {G : Gx} {z : Rs} (O : Ok X G cX1_attackedMen RX1 9 wsX1_attackedMen (some .int) rm_X1_attackedMen) (N : Nat) : ∀ (n : Nat) (v1 : Int32) (v4 : Int32) (v5 : Int32) (v6 : Int32) (v7 : Int32) (h : Hp), f_X1_attackedMen_l99 N n v1 v4 v5 v6 v7 h = some z → V X G 9 (QI X G z) h 99 [(0, .ref (G.1 12)), (1, .int v1), (4, .int v4), (5, .int v5), (6, .int v6), (7, .int v7)] [] := by
  intro n
  induction n with
  | zero => intro v1 v4 v5 v6 v7 h e; cases e
  | succ n ih => intro v1 v4 v5 v6 v7 h e; exact f_X1_attackedMen_b99_ok O N _ ih v1 v4 v5 v6 v7 h e
set_option maxRecDepth 20000 in
theorem f_X1_attackedMen_b18_ok {X : Cx} {G : Gx} {z : Rs} (O : Ok X G cX1_attackedMen RX1 9 wsX1_attackedMen (some .int) rm_X1_attackedMen) (N : Nat) (k18 : Int32 → Int32 → Int32 → Int32 → Int32 → Int32 → Hp → Option Rs) (hk18 : ∀ (v1 : Int32) (v2 : Int32) (v3 : Int32) (v4 : Int32) (v5 : Int32) (v6 : Int32) (h : Hp), k18 v1 v2 v3 v4 v5 v6 h = some z → V X G 9 (QI X G z) h 18 [(0, .ref (G.1 12)), (1, .int v1), (2, .int v2), (3, .int v3), (4, .int v4), (5, .int v5), (6, .int v6)] []) (v1 : Int32) (v2 : Int32) (v3 : Int32) (v4 : Int32) (v5 : Int32) (v6 : Int32) (h : Hp) (e : f_X1_attackedMen_b18 N k18 v1 v2 v3 v4 v5 v6 h = some z) : V X G 9 (QI X G z) h 18 [(0, .ref (G.1 12)), (1, .int v1), (2, .int v2), (3, .int v3), (4, .int v4), (5, .int v5), (6, .int v6)] [] := by
  unfold f_X1_attackedMen_b18 at e
  refine v_iload O dX1_attackedMen_18 6 rfl ?_
  refine v_aload_n O dX1_attackedMen_20 0 rfl rfl ?_
  refine v_get O fd_X1_attackedMen_9 (g25 O (by decide)) (cg_12 G _) rfl dX1_attackedMen_21 ?_
  refine v_get O fd_X1_attackedMen_63 (g25 O (by decide)) (cg_1 G _) rfl dX1_attackedMen_24 ?_
  refine v_icmp_ge O dX1_attackedMen_27 93 (by decide) e (fun e => ?_) (fun e => ?_)
  · refine v_iconst (v := 0) O dX1_attackedMen_93 (by decide) ?_
    refine v_istore O dX1_attackedMen_94 (by decide) (fun x1 => [(6, .int x1), (0, .ref (G.1 12)), (1, .int v1), (2, .int v2), (3, .int v3), (4, .int v4), (5, .int v5)]) (fun _ => rfl) e (fun x1 e => ?_)
    refine v_iconst (v := 0) O dX1_attackedMen_96 (by decide) ?_
    refine v_istore O dX1_attackedMen_97 (by decide) (fun x2 => [(7, .int x2), (6, .int x1), (0, .ref (G.1 12)), (1, .int v1), (2, .int v2), (3, .int v3), (4, .int v4), (5, .int v5)]) (fun _ => rfl) e (fun x2 e => ?_)
    refine v_sub [2, 3, 6, 7, 1, 0] rfl ?_
    exact f_X1_attackedMen_l99_ok O N N _ _ _ _ _ _ e
  · refine v_aload_n O dX1_attackedMen_30 0 rfl rfl ?_
    refine v_get O fd_X1_attackedMen_15 (g25 O (by decide)) (cg_12 G _) rfl dX1_attackedMen_31 ?_
    refine v_aload_n O dX1_attackedMen_34 0 rfl rfl ?_
    refine v_get O fd_X1_attackedMen_9 (g25 O (by decide)) (cg_12 G _) rfl dX1_attackedMen_35 ?_
    refine v_get O fd_X1_attackedMen_49 (g25 O (by decide)) (cg_1 G _) rfl dX1_attackedMen_38 ?_
    refine v_iload O dX1_attackedMen_41 6 rfl ?_
    refine v_iald O (g25 O (by decide)) (cg_2 G _) dX1_attackedMen_43 e (fun e => ?_)
    refine v_iload O dX1_attackedMen_44 6 rfl ?_
    refine v_iload_n O dX1_attackedMen_46 1 rfl rfl ?_
    refine v_cNi O [.int v6, .int v1] [.int (h.1 2 (ix v6)), .ref (G.1 10)] 4 rfl gX1_attackedMen_X7_placeOf_n52 sn_X1_attackedMen_X7_placeOf.1 sn_X1_attackedMen_X7_placeOf.2 cw_X1_attackedMen_X7_placeOf rfl rfl (Nat.le_of_ble_eq_true rfl) dX1_attackedMen_47 e (fun _ e9 => f_X7_placeOf_ok e9) (fun r3 h4 e => ?_)
    refine v_iload_n O dX1_attackedMen_50 2 rfl rfl ?_
    refine v_iload_n O dX1_attackedMen_51 3 rfl rfl ?_
    refine v_cVi O [.int (h.1 2 (ix v6)), .int r3, .int v2, .int v3] [] gX1_attackedMen_X0_reached cw_X1_attackedMen_X0_reached rfl rfl (g25 O (by decide)) (cg_10 G _) rfl rfl (Nat.le_of_ble_eq_true rfl) dX1_attackedMen_52 e (fun _ e9 => f_X0_reached_ok e9) (fun r5 h6 e => ?_)
    refine v_istore O dX1_attackedMen_55 (by decide) (fun x7 => [(7, .int x7), (0, .ref (G.1 12)), (1, .int v1), (2, .int v2), (3, .int v3), (4, .int v4), (5, .int v5), (6, .int v6)]) (fun _ => rfl) e (fun x7 e => ?_)
    refine v_aload_n O dX1_attackedMen_57 1 rfl rfl ?_
    refine v_get O fd_X1_attackedMen_9 (g25 O (by decide)) (cg_12 G _) rfl dX1_attackedMen_58 ?_
    refine v_get O fd_X1_attackedMen_41 (g25 O (by decide)) (cg_1 G _) rfl dX1_attackedMen_61 ?_
    refine v_iload O dX1_attackedMen_64 7 rfl ?_
    refine v_iald O (g25 O (by decide)) (cg_3 G _) dX1_attackedMen_66 e (fun e => ?_)
    refine v_if_ne O dX1_attackedMen_67 80 (by decide) e (fun e => ?_) (fun e => ?_)
    · refine v_iload O dX1_attackedMen_80 6 rfl ?_
      refine v_iload O dX1_attackedMen_82 0 rfl ?_
      refine v_ior O dX1_attackedMen_84 ?_
      refine v_istore O dX1_attackedMen_85 (by decide) (fun x8 => [(5, .int x8), (7, .int x7), (0, .ref (G.1 12)), (1, .int v1), (2, .int v2), (3, .int v3), (4, .int v4), (6, .int v6)]) (fun _ => rfl) e (fun x8 e => ?_)
      refine v_sub [2, 3, 4, 5, 6, 0, 7] rfl ?_
      exact f_X1_attackedMen_b87_ok O N k18 hk18 _ _ _ _ _ _ _ e
    · refine v_iload O dX1_attackedMen_70 5 rfl ?_
      refine v_iload O dX1_attackedMen_72 0 rfl ?_
      refine v_ior O dX1_attackedMen_74 ?_
      refine v_istore O dX1_attackedMen_75 (by decide) (fun x9 => [(4, .int x9), (7, .int x7), (0, .ref (G.1 12)), (1, .int v1), (2, .int v2), (3, .int v3), (5, .int v5), (6, .int v6)]) (fun _ => rfl) e (fun x9 e => ?_)
      refine v_goto O dX1_attackedMen_77 87 (by decide) ?_
      refine v_sub [2, 3, 4, 5, 0, 6, 7] rfl ?_
      exact f_X1_attackedMen_b87_ok O N k18 hk18 _ _ _ _ _ _ _ e
theorem f_X1_attackedMen_l18_ok {X : Cx} {G : Gx} {z : Rs} (O : Ok X G cX1_attackedMen RX1 9 wsX1_attackedMen (some .int) rm_X1_attackedMen) (N : Nat) : ∀ (n : Nat) (v1 : Int32) (v2 : Int32) (v3 : Int32) (v4 : Int32) (v5 : Int32) (v6 : Int32) (h : Hp), f_X1_attackedMen_l18 N n v1 v2 v3 v4 v5 v6 h = some z → V X G 9 (QI X G z) h 18 [(0, .ref (G.1 12)), (1, .int v1), (2, .int v2), (3, .int v3), (4, .int v4), (5, .int v5), (6, .int v6)] [] := by
  intro n
  induction n with
  | zero => intro v1 v2 v3 v4 v5 v6 h e; cases e
  | succ n ih => intro v1 v2 v3 v4 v5 v6 h e; exact f_X1_attackedMen_b18_ok O N _ ih v1 v2 v3 v4 v5 v6 h e
set_option maxRecDepth 20000 in
theorem f_X1_attackedMen_ok {l : Launch} {G : Gx} {N : Nat} {a0 : Int32} {a1 : Int32} {h : Hp} {z : Rs} (e : f_X1_attackedMen N a0 a1 h = some z) : CI l G yX1_attackedMen wsX1_attackedMen rm_X1_attackedMen [.ref (G.1 12), .int a0, .int a1] h z := by
  refine m_int _ (by decide) rfl [(0, .ref (G.1 12)), (1, .int a0), (2, .int a1)] rfl (Nat.le_of_ble_eq_true rfl) (fun X O => ?_)
  unfold f_X1_attackedMen at e
  refine v_aload_n O dX1_attackedMen_0 0 rfl rfl ?_
  refine v_get O fd_X1_attackedMen_9 (g25 O (by decide)) (cg_12 G _) rfl dX1_attackedMen_1 ?_
  refine v_iload_n O dX1_attackedMen_4 1 rfl rfl ?_
  refine v_cVi O [.int a0] [] gX1_attackedMen_X5_taken cw_X1_attackedMen_X5_taken rfl rfl (g25 O (by decide)) (cg_1 G _) rfl rfl (Nat.le_of_ble_eq_true rfl) dX1_attackedMen_5 e (fun _ e9 => f_X5_taken_ok_1 e9) (fun r1 h2 e => ?_)
  refine v_istore_n O dX1_attackedMen_8 rfl (by decide) (fun x3 => [(3, .int x3), (0, .ref (G.1 12)), (1, .int a0), (2, .int a1)]) (fun _ => rfl) e (fun x3 e => ?_)
  refine v_iconst (v := 0) O dX1_attackedMen_9 (by decide) ?_
  refine v_istore O dX1_attackedMen_10 (by decide) (fun x4 => [(4, .int x4), (3, .int x3), (0, .ref (G.1 12)), (1, .int a0), (2, .int a1)]) (fun _ => rfl) e (fun x4 e => ?_)
  refine v_iconst (v := 0) O dX1_attackedMen_12 (by decide) ?_
  refine v_istore O dX1_attackedMen_13 (by decide) (fun x5 => [(5, .int x5), (4, .int x4), (3, .int x3), (0, .ref (G.1 12)), (1, .int a0), (2, .int a1)]) (fun _ => rfl) e (fun x5 e => ?_)
  refine v_iconst (v := 0) O dX1_attackedMen_15 (by decide) ?_
  refine v_istore O dX1_attackedMen_16 (by decide) (fun x6 => [(6, .int x6), (5, .int x5), (4, .int x4), (3, .int x3), (0, .ref (G.1 12)), (1, .int a0), (2, .int a1)]) (fun _ => rfl) e (fun x6 e => ?_)
  refine v_sub [4, 5, 6, 3, 2, 1, 0] rfl ?_
  exact f_X1_attackedMen_l18_ok O N N _ _ _ _ _ _ _ e
/-! ===== X1 mayStand ===== -/
abbrev rm_X1_mayStand : Room := { frames := 3, cells := 0, slots := 0, locals := 78 }
theorem fd_X1_mayStand_9 : FdO wsX1_mayStand RX1 9 RX1 TX1 2 1 0 := ⟨by decide +kernel, rfl, by decide, by decide +kernel⟩
theorem fd_X1_mayStand_35 : FdO wsX1_mayStand RX1 35 RX5 TX5 9 5 3 := ⟨by decide +kernel, rfl, by decide, by decide +kernel⟩
theorem cw_X1_mayStand_X1_attackedMen : CwO rm_X1_mayStand yX1_attackedMen wsX1_attackedMen cX1_attackedMen 9 (some .int) rm_X1_attackedMen 2 := ⟨⟨_, rfl⟩, rfl, rfl, by decide +kernel, by decide, by decide⟩
set_option maxRecDepth 20000 in
theorem f_X1_mayStand_b25_ok {X : Cx} {G : Gx} {z : Rs} (O : Ok X G cX1_mayStand RX1 3 wsX1_mayStand (some .boolean) rm_X1_mayStand) (N : Nat) (s0 : Int32) (h : Hp) (e : f_X1_mayStand_b25 N s0 h = some z) : V X G 3 (QI X G z) h 25 [] [.int s0] := by
  unfold f_X1_mayStand_b25 at e
  exact v_zret O dX1_mayStand_25 e
set_option maxRecDepth 20000 in
theorem f_X1_mayStand_b20_ok {X : Cx} {G : Gx} {z : Rs} (O : Ok X G cX1_mayStand RX1 3 wsX1_mayStand (some .boolean) rm_X1_mayStand) (N : Nat) (h : Hp) (e : f_X1_mayStand_b20 N h = some z) : V X G 3 (QI X G z) h 20 [] [] := by
  unfold f_X1_mayStand_b20 at e
  refine v_iconst (v := 1) O dX1_mayStand_20 (by decide) ?_
  refine v_goto O dX1_mayStand_21 25 (by decide) ?_
  exact f_X1_mayStand_b25_ok O N _ _ e
set_option maxRecDepth 20000 in
theorem f_X1_mayStand_ok {l : Launch} {G : Gx} {N : Nat} {a0 : Int32} {a1 : Int32} {h : Hp} {z : Rs} (e : f_X1_mayStand N a0 a1 h = some z) : CI l G yX1_mayStand wsX1_mayStand rm_X1_mayStand [.ref (G.1 12), .int a0, .int a1] h z := by
  refine m_bool _ (by decide) rfl [(0, .ref (G.1 12)), (1, .int a0), (2, .int a1)] rfl (Nat.le_of_ble_eq_true rfl) (fun X O => ?_)
  unfold f_X1_mayStand at e
  refine v_aload_n O dX1_mayStand_0 0 rfl rfl ?_
  refine v_get O fd_X1_mayStand_9 (g25 O (by decide)) (cg_12 G _) rfl dX1_mayStand_1 ?_
  refine v_get O fd_X1_mayStand_35 (g25 O (by decide)) (cg_1 G _) rfl dX1_mayStand_4 ?_
  refine v_iconst (v := 2) O dX1_mayStand_7 (by decide) ?_
  refine v_icmp_ne O dX1_mayStand_8 20 (by decide) e (fun e => ?_) (fun e => ?_)
  · refine v_sub [] rfl ?_
    exact f_X1_mayStand_b20_ok O N _ e
  · refine v_aload_n O dX1_mayStand_11 0 rfl rfl ?_
    refine v_iload_n O dX1_mayStand_12 1 rfl rfl ?_
    refine v_iload_n O dX1_mayStand_13 2 rfl rfl ?_
    refine v_cVi O [.int a0, .int a1] [] gX1_mayStand_X1_attackedMen cw_X1_mayStand_X1_attackedMen rfl rfl (g25 O (by decide)) (cg_12 G _) rfl rfl (Nat.le_of_ble_eq_true rfl) dX1_mayStand_14 e (fun _ e9 => f_X1_attackedMen_ok e9) (fun r1 h2 e => ?_)
    refine v_if_ne O dX1_mayStand_17 24 (by decide) e (fun e => ?_) (fun e => ?_)
    · refine v_iconst (v := 0) O dX1_mayStand_24 (by decide) ?_
      refine v_sub [] rfl ?_
      exact f_X1_mayStand_b25_ok O N _ _ e
    · refine v_sub [] rfl ?_
      exact f_X1_mayStand_b20_ok O N _ e
/-! ===== X4 codeOf ===== -/
abbrev rm_X4_codeOf : Room := { frames := 0, cells := 0, slots := 0, locals := 0 }
theorem fd_X4_codeOf_24 : FdO wsX4_codeOf RX4 24 RX4 TX4 8 4 0 := ⟨by decide +kernel, rfl, by decide, by decide +kernel⟩
theorem fd_X4_codeOf_73 : FdO wsX4_codeOf RX4 73 RX5 TX5 9 5 3 := ⟨by decide +kernel, rfl, by decide, by decide +kernel⟩
set_option maxRecDepth 20000 in
theorem f_X4_codeOf_b23_ok {X : Cx} {G : Gx} {z : Rs} (O : Ok X G cX4_codeOf RX4 3 wsX4_codeOf (some .int) rm_X4_codeOf) (N : Nat) (s0 : Int32) (h : Hp) (e : f_X4_codeOf_b23 N s0 h = some z) : V X G 3 (QI X G z) h 23 [] [.int s0] := by
  unfold f_X4_codeOf_b23 at e
  exact v_iret O dX4_codeOf_23 e
set_option maxRecDepth 20000 in
theorem f_X4_codeOf_ok {l : Launch} {G : Gx} {N : Nat} {a0 : Int32} {a1 : Int32} {h : Hp} {z : Rs} (e : f_X4_codeOf N a0 a1 h = some z) : CI l G yX4_codeOf wsX4_codeOf rm_X4_codeOf [.ref (G.1 15), .int a0, .int a1] h z := by
  refine m_int _ (by decide) rfl [(0, .ref (G.1 15)), (1, .int a0), (2, .int a1)] rfl (Nat.le_of_ble_eq_true rfl) (fun X O => ?_)
  unfold f_X4_codeOf at e
  refine v_aload_n O dX4_codeOf_0 0 rfl rfl ?_
  refine v_get O fd_X4_codeOf_24 (g25 O (by decide)) (cg_15 G _) rfl dX4_codeOf_1 ?_
  refine v_get O fd_X4_codeOf_73 (g25 O (by decide)) (cg_1 G _) rfl dX4_codeOf_4 ?_
  refine v_iconst (v := 1) O dX4_codeOf_7 (by decide) ?_
  refine v_icmp_ne O dX4_codeOf_8 22 (by decide) e (fun e => ?_) (fun e => ?_)
  · refine v_iload_n O dX4_codeOf_22 1 rfl rfl ?_
    refine v_sub [] rfl ?_
    exact f_X4_codeOf_b23_ok O N _ _ e
  · refine v_iload_n O dX4_codeOf_11 1 rfl rfl ?_
    refine v_iload_n O dX4_codeOf_12 2 rfl rfl ?_
    refine v_iconst (v := 1) O dX4_codeOf_13 (by decide) ?_
    refine v_iand O dX4_codeOf_14 ?_
    refine v_bipush (v := 16) O dX4_codeOf_15 (by decide) ?_
    refine v_ishl O dX4_codeOf_17 ?_
    refine v_ior O dX4_codeOf_18 ?_
    refine v_goto O dX4_codeOf_19 23 (by decide) ?_
    refine v_sub [] rfl ?_
    exact f_X4_codeOf_b23_ok O N _ _ e
/-! ===== X4 isNew ===== -/
abbrev rm_X4_isNew : Room := { frames := 1, cells := 0, slots := 0, locals := 21 }
theorem fd_X4_isNew_11 : FdO wsX4_isNew RX4 11 RX4 TX4 8 4 2 := ⟨by decide +kernel, rfl, by decide, by decide +kernel⟩
theorem cw_X4_isNew_X7_bit : CwO rm_X4_isNew yX7_bit wsX7_bit cX7_bit 2 (some .int) rm_X7_bit 2 := ⟨⟨_, rfl⟩, rfl, rfl, by decide +kernel, by decide, by decide⟩
theorem sn_X4_isNew_X7_bit : Cond.static yX7_bit ∈ wsX4_isNew ∧ Cond.initialized yX7_bit.cls ∈ wsX4_isNew := ⟨by decide +kernel, by decide +kernel⟩
set_option maxRecDepth 20000 in
theorem f_X4_isNew_b32_ok {X : Cx} {G : Gx} {z : Rs} (O : Ok X G cX4_isNew RX4 3 wsX4_isNew (some .boolean) rm_X4_isNew) (N : Nat) (h : Hp) (e : f_X4_isNew_b32 N h = some z) : V X G 3 (QI X G z) h 32 [] [] := by
  unfold f_X4_isNew_b32 at e
  refine v_iconst (v := 0) O dX4_isNew_32 (by decide) ?_
  exact v_zret O dX4_isNew_33 e
set_option maxRecDepth 20000 in
theorem f_X4_isNew_ok {l : Launch} {G : Gx} {N : Nat} {a0 : Int32} {h : Hp} {z : Rs} (e : f_X4_isNew N a0 h = some z) : CI l G yX4_isNew wsX4_isNew rm_X4_isNew [.ref (G.1 15), .int a0] h z := by
  refine m_bool _ (by decide) rfl [(0, .ref (G.1 15)), (1, .int a0)] rfl (Nat.le_of_ble_eq_true rfl) (fun X O => ?_)
  unfold f_X4_isNew at e
  refine v_iload_n O dX4_isNew_0 1 rfl rfl ?_
  refine v_iconst (v := 5) O dX4_isNew_1 (by decide) ?_
  refine v_ishr O dX4_isNew_2 ?_
  refine v_istore_n O dX4_isNew_3 rfl (by decide) (fun x1 => [(2, .int x1), (0, .ref (G.1 15)), (1, .int a0)]) (fun _ => rfl) e (fun x1 e => ?_)
  refine v_iload_n O dX4_isNew_4 0 rfl rfl ?_
  refine v_if_lt O dX4_isNew_5 32 (by decide) e (fun e => ?_) (fun e => ?_)
  · refine v_sub [] rfl ?_
    exact f_X4_isNew_b32_ok O N _ e
  · refine v_iload_n O dX4_isNew_8 0 rfl rfl ?_
    refine v_sipush (v := 4096) O dX4_isNew_9 (by decide) ?_
    refine v_icmp_ge O dX4_isNew_12 32 (by decide) e (fun e => ?_) (fun e => ?_)
    · refine v_sub [] rfl ?_
      exact f_X4_isNew_b32_ok O N _ e
    · refine v_aload_n O dX4_isNew_15 1 rfl rfl ?_
      refine v_get O fd_X4_isNew_11 (g25 O (by decide)) (cg_15 G _) rfl dX4_isNew_16 ?_
      refine v_iload_n O dX4_isNew_19 0 rfl rfl ?_
      refine v_iald O (g25 O (by decide)) (cg_16 G _) dX4_isNew_20 e (fun e => ?_)
      refine v_iload_n O dX4_isNew_21 2 rfl rfl ?_
      refine v_bipush (v := 31) O dX4_isNew_22 (by decide) ?_
      refine v_iand O dX4_isNew_24 ?_
      refine v_cNi O [.int (h.1 16 (ix x1)), .int (a0 &&& 31)] [] 7 rfl gX4_isNew_X7_bit_n76 sn_X4_isNew_X7_bit.1 sn_X4_isNew_X7_bit.2 cw_X4_isNew_X7_bit rfl rfl (Nat.le_of_ble_eq_true rfl) dX4_isNew_25 e (fun _ e9 => f_X7_bit_ok e9) (fun r2 h3 e => ?_)
      refine v_iconst (v := 1) O dX4_isNew_28 (by decide) ?_
      refine v_icmp_ne O dX4_isNew_29 34 (by decide) e (fun e => ?_) (fun e => ?_)
      · refine v_aload_n O dX4_isNew_34 1 rfl rfl ?_
        refine v_get O fd_X4_isNew_11 (g25 O (by decide)) (cg_15 G _) rfl dX4_isNew_35 ?_
        refine v_iload_n O dX4_isNew_38 0 rfl rfl ?_
        refine v_dup2 O dX4_isNew_39 rfl rfl ?_
        refine v_iald O (g25 O (by decide)) (cg_16 G _) dX4_isNew_40 e (fun e => ?_)
        refine v_iconst (v := 1) O dX4_isNew_41 (by decide) ?_
        refine v_iload_n O dX4_isNew_42 2 rfl rfl ?_
        refine v_bipush (v := 31) O dX4_isNew_43 (by decide) ?_
        refine v_iand O dX4_isNew_45 ?_
        refine v_ishl O dX4_isNew_46 ?_
        refine v_ior O dX4_isNew_47 ?_
        refine v_iast O (g25 O (by decide)) (cg_16 G _) (cw_16 G _ _ _) dX4_isNew_48 e (fun h4 e => ?_)
        refine v_iconst (v := 1) O dX4_isNew_49 (by decide) ?_
        exact v_zret O dX4_isNew_50 e
      · refine v_sub [] rfl ?_
        exact f_X4_isNew_b32_ok O N _ e
/-! ===== X7 moved ===== -/
abbrev rm_X7_moved : Room := { frames := 0, cells := 0, slots := 0, locals := 0 }
set_option maxRecDepth 20000 in
theorem f_X7_moved_ok {l : Launch} {G : Gx} {N : Nat} {a0 : Int32} {a1 : Int32} {a2 : Int32} {h : Hp} {z : Rs} (e : f_X7_moved N a0 a1 a2 h = some z) : CI l G yX7_moved wsX7_moved rm_X7_moved [.int a0, .int a1, .int a2] h z := by
  refine m_int _ (by decide) rfl [(0, .int a0), (1, .int a1), (2, .int a2)] rfl (Nat.le_of_ble_eq_true rfl) (fun X O => ?_)
  unfold f_X7_moved at e
  refine v_iload_n O dX7_moved_0 0 rfl rfl ?_
  refine v_bipush (v := 15) O dX7_moved_1 (by decide) ?_
  refine v_iconst (v := 4) O dX7_moved_3 (by decide) ?_
  refine v_iload_n O dX7_moved_4 1 rfl rfl ?_
  refine v_imul O dX7_moved_5 ?_
  refine v_ishl O dX7_moved_6 ?_
  refine v_iconst (v := (-1)) O dX7_moved_7 (by decide) ?_
  refine v_ixor O dX7_moved_8 ?_
  refine v_iand O dX7_moved_9 ?_
  refine v_iload_n O dX7_moved_10 2 rfl rfl ?_
  refine v_iconst (v := 4) O dX7_moved_11 (by decide) ?_
  refine v_iload_n O dX7_moved_12 1 rfl rfl ?_
  refine v_imul O dX7_moved_13 ?_
  refine v_ishl O dX7_moved_14 ?_
  refine v_ior O dX7_moved_15 ?_
  exact v_iret O dX7_moved_16 e
/-! ===== X4 addHops ===== -/
abbrev rm_X4_addHops : Room := { frames := 4, cells := 0, slots := 0, locals := 100 }
theorem fd_X4_addHops_15 : FdO wsX4_addHops RX4 15 RX4 TX4 8 4 3 := ⟨by decide +kernel, rfl, by decide, by decide +kernel⟩
theorem fd_X4_addHops_21 : FdO wsX4_addHops RX4 21 RX4 TX4 8 4 5 := ⟨by decide +kernel, rfl, by decide, by decide +kernel⟩
theorem fd_X4_addHops_28 : FdO wsX4_addHops RX4 28 RX4 TX4 8 4 1 := ⟨by decide +kernel, rfl, by decide, by decide +kernel⟩
theorem fd_X4_addHops_40 : FdO wsX4_addHops RX4 40 RX4 TX4 8 4 7 := ⟨by decide +kernel, rfl, by decide, by decide +kernel⟩
theorem cw_X4_addHops_X1_mayStand : CwO rm_X4_addHops yX1_mayStand wsX1_mayStand cX1_mayStand 3 (some .boolean) rm_X1_mayStand 2 := ⟨⟨_, rfl⟩, rfl, rfl, by decide +kernel, by decide, by decide⟩
theorem cw_X4_addHops_X4_add : CwO rm_X4_addHops yX4_add wsX4_add cX4_add 4 (none) rm_X4_add 3 := ⟨⟨_, rfl⟩, rfl, rfl, by decide +kernel, by decide, by decide⟩
theorem cw_X4_addHops_X4_codeOf : CwO rm_X4_addHops yX4_codeOf wsX4_codeOf cX4_codeOf 3 (some .int) rm_X4_codeOf 2 := ⟨⟨_, rfl⟩, rfl, rfl, by decide +kernel, by decide, by decide⟩
theorem cw_X4_addHops_X4_isNew : CwO rm_X4_addHops yX4_isNew wsX4_isNew cX4_isNew 3 (some .boolean) rm_X4_isNew 1 := ⟨⟨_, rfl⟩, rfl, rfl, by decide +kernel, by decide, by decide⟩
theorem cw_X4_addHops_X7_bit : CwO rm_X4_addHops yX7_bit wsX7_bit cX7_bit 2 (some .int) rm_X7_bit 2 := ⟨⟨_, rfl⟩, rfl, rfl, by decide +kernel, by decide, by decide⟩
theorem cw_X4_addHops_X7_moved : CwO rm_X4_addHops yX7_moved wsX7_moved cX7_moved 3 (some .int) rm_X7_moved 3 := ⟨⟨_, rfl⟩, rfl, rfl, by decide +kernel, by decide, by decide⟩
theorem sn_X4_addHops_X7_bit : Cond.static yX7_bit ∈ wsX4_addHops ∧ Cond.initialized yX7_bit.cls ∈ wsX4_addHops := ⟨by decide +kernel, by decide +kernel⟩
theorem sn_X4_addHops_X7_moved : Cond.static yX7_moved ∈ wsX4_addHops ∧ Cond.initialized yX7_moved.cls ∈ wsX4_addHops := ⟨by decide +kernel, by decide +kernel⟩
set_option maxRecDepth 20000 in
theorem f_X4_addHops_b89_ok {X : Cx} {G : Gx} {z : Rs} (O : Ok X G cX4_addHops RX4 8 wsX4_addHops (none) rm_X4_addHops) (N : Nat) (k3 : Int32 → Int32 → Int32 → Int32 → Int32 → Hp → Option Rs) (hk3 : ∀ (v1 : Int32) (v2 : Int32) (v3 : Int32) (v4 : Int32) (v5 : Int32) (h : Hp), k3 v1 v2 v3 v4 v5 h = some z → V X G 8 (QV X G z) h 3 [(0, .ref (G.1 15)), (1, .int v1), (2, .int v2), (3, .int v3), (4, .int v4), (5, .int v5)] []) (v1 : Int32) (v2 : Int32) (v3 : Int32) (v4 : Int32) (v5 : Int32) (h : Hp) (e : f_X4_addHops_b89 N k3 v1 v2 v3 v4 v5 h = some z) : V X G 8 (QV X G z) h 89 [(0, .ref (G.1 15)), (1, .int v1), (2, .int v2), (3, .int v3), (4, .int v4), (5, .int v5)] [] := by
  unfold f_X4_addHops_b89 at e
  refine v_iinc (v := 1) O dX4_addHops_89 5 rfl (by decide) (by decide) (fun x1 => [(5, .int x1), (0, .ref (G.1 15)), (1, .int v1), (2, .int v2), (3, .int v3), (4, .int v4)]) (fun _ => rfl) e (fun x1 e => ?_)
  refine v_goto O dX4_addHops_92 3 (by decide) ?_
  refine v_sub [1, 2, 3, 4, 5, 0] rfl ?_
  exact hk3 _ _ _ _ _ _ e
set_option maxRecDepth 20000 in
theorem f_X4_addHops_b3_ok {X : Cx} {G : Gx} {z : Rs} (O : Ok X G cX4_addHops RX4 8 wsX4_addHops (none) rm_X4_addHops) (N : Nat) (k3 : Int32 → Int32 → Int32 → Int32 → Int32 → Hp → Option Rs) (hk3 : ∀ (v1 : Int32) (v2 : Int32) (v3 : Int32) (v4 : Int32) (v5 : Int32) (h : Hp), k3 v1 v2 v3 v4 v5 h = some z → V X G 8 (QV X G z) h 3 [(0, .ref (G.1 15)), (1, .int v1), (2, .int v2), (3, .int v3), (4, .int v4), (5, .int v5)] []) (v1 : Int32) (v2 : Int32) (v3 : Int32) (v4 : Int32) (v5 : Int32) (h : Hp) (e : f_X4_addHops_b3 N k3 v1 v2 v3 v4 v5 h = some z) : V X G 8 (QV X G z) h 3 [(0, .ref (G.1 15)), (1, .int v1), (2, .int v2), (3, .int v3), (4, .int v4), (5, .int v5)] [] := by
  unfold f_X4_addHops_b3 at e
  refine v_iload O dX4_addHops_3 5 rfl ?_
  refine v_bipush (v := 12) O dX4_addHops_5 (by decide) ?_
  refine v_icmp_ge O dX4_addHops_7 95 (by decide) e (fun e => ?_) (fun e => ?_)
  · exact v_vret O dX4_addHops_95 e
  · refine v_iload_n O dX4_addHops_10 3 rfl rfl ?_
    refine v_iload O dX4_addHops_11 5 rfl ?_
    refine v_cNi O [.int v3, .int v5] [] 7 rfl gX4_addHops_X7_bit_n76 sn_X4_addHops_X7_bit.1 sn_X4_addHops_X7_bit.2 cw_X4_addHops_X7_bit rfl rfl (Nat.le_of_ble_eq_true rfl) dX4_addHops_13 e (fun _ e9 => f_X7_bit_ok e9) (fun r1 h2 e => ?_)
    refine v_if_ne O dX4_addHops_16 22 (by decide) e (fun e => ?_) (fun e => ?_)
    · refine v_aload_n O dX4_addHops_22 0 rfl rfl ?_
      refine v_get O fd_X4_addHops_15 (g25 O (by decide)) (cg_15 G _) rfl dX4_addHops_23 ?_
      refine v_iload_n O dX4_addHops_26 1 rfl rfl ?_
      refine v_iald O (g25 O (by decide)) (cg_17 G _) dX4_addHops_27 e (fun e => ?_)
      refine v_ldc (v := 65535) O dX4_addHops_28 (by decide +kernel) ?_
      refine v_iand O dX4_addHops_30 ?_
      refine v_iload_n O dX4_addHops_31 2 rfl rfl ?_
      refine v_iload O dX4_addHops_32 5 rfl ?_
      refine v_cNi O [.int ((h2.1 17 (ix v1)) &&& 65535), .int v2, .int v5] [] 8 rfl gX4_addHops_X7_moved_n79 sn_X4_addHops_X7_moved.1 sn_X4_addHops_X7_moved.2 cw_X4_addHops_X7_moved rfl rfl (Nat.le_of_ble_eq_true rfl) dX4_addHops_34 e (fun _ e9 => f_X7_moved_ok e9) (fun r3 h4 e => ?_)
      refine v_istore O dX4_addHops_37 (by decide) (fun x5 => [(6, .int x5), (0, .ref (G.1 15)), (1, .int v1), (2, .int v2), (3, .int v3), (4, .int v4), (5, .int v5)]) (fun _ => rfl) e (fun x5 e => ?_)
      refine v_aload_n O dX4_addHops_39 1 rfl rfl ?_
      refine v_iload O dX4_addHops_40 0 rfl ?_
      refine v_iload O dX4_addHops_42 5 rfl ?_
      refine v_cVi O [.int x5, .int v4] [] gX4_addHops_X4_codeOf cw_X4_addHops_X4_codeOf rfl rfl (g25 O (by decide)) (cg_15 G _) rfl rfl (Nat.le_of_ble_eq_true rfl) dX4_addHops_44 e (fun _ e9 => f_X4_codeOf_ok e9) (fun r6 h7 e => ?_)
      refine v_istore O dX4_addHops_47 (by decide) (fun x8 => [(7, .int x8), (6, .int x5), (0, .ref (G.1 15)), (1, .int v1), (2, .int v2), (3, .int v3), (4, .int v4), (5, .int v5)]) (fun _ => rfl) e (fun x8 e => ?_)
      refine v_aload_n O dX4_addHops_49 2 rfl rfl ?_
      refine v_iload O dX4_addHops_50 0 rfl ?_
      refine v_cVi O [.int x8] [] gX4_addHops_X4_isNew cw_X4_addHops_X4_isNew rfl rfl (g25 O (by decide)) (cg_15 G _) rfl rfl (Nat.le_of_ble_eq_true rfl) dX4_addHops_52 e (fun _ e9 => f_X4_isNew_ok e9) (fun r9 h10 e => ?_)
      refine v_if_eq O dX4_addHops_55 89 (by decide) e (fun e => ?_) (fun e => ?_)
      · refine v_sub [2, 3, 4, 5, 6, 7] rfl ?_
        exact f_X4_addHops_b89_ok O N k3 hk3 _ _ _ _ _ _ e
      · refine v_aload_n O dX4_addHops_58 2 rfl rfl ?_
        refine v_get O fd_X4_addHops_28 (g25 O (by decide)) (cg_15 G _) rfl dX4_addHops_59 ?_
        refine v_iload O dX4_addHops_62 1 rfl ?_
        refine v_aload_n O dX4_addHops_64 2 rfl rfl ?_
        refine v_get O fd_X4_addHops_40 (g25 O (by decide)) (cg_15 G _) rfl dX4_addHops_65 ?_
        refine v_cVi O [.int x5, .int (h10.1 15 7)] [] gX4_addHops_X1_mayStand cw_X4_addHops_X1_mayStand rfl rfl (g25 O (by decide)) (cg_12 G _) rfl rfl (Nat.le_of_ble_eq_true rfl) dX4_addHops_68 e (fun _ e9 => f_X1_mayStand_ok e9) (fun r11 h12 e => ?_)
        refine v_if_eq O dX4_addHops_71 89 (by decide) e (fun e => ?_) (fun e => ?_)
        · refine v_sub [2, 3, 4, 5, 6, 7] rfl ?_
          exact f_X4_addHops_b89_ok O N k3 hk3 _ _ _ _ _ _ e
        · refine v_aload_n O dX4_addHops_74 2 rfl rfl ?_
          refine v_iload O dX4_addHops_75 0 rfl ?_
          refine v_iload_n O dX4_addHops_77 3 rfl rfl ?_
          refine v_aload_n O dX4_addHops_78 2 rfl rfl ?_
          refine v_get O fd_X4_addHops_21 (g25 O (by decide)) (cg_15 G _) rfl dX4_addHops_79 ?_
          refine v_iload_n O dX4_addHops_82 3 rfl rfl ?_
          refine v_iald O (g25 O (by decide)) (cg_19 G _) dX4_addHops_83 e (fun e => ?_)
          refine v_iconst (v := 1) O dX4_addHops_84 (by decide) ?_
          refine v_iadd O dX4_addHops_85 ?_
          refine v_cVv O [.int x8, .int v1, .int ((h12.1 19 (ix v1)) + 1)] [] gX4_addHops_X4_add cw_X4_addHops_X4_add rfl rfl (g25 O (by decide)) (cg_15 G _) rfl rfl (Nat.le_of_ble_eq_true rfl) dX4_addHops_86 e (fun _ e9 => f_X4_add_ok e9) (fun _ h13 e => ?_)
          refine v_sub [2, 3, 4, 5, 6, 7] rfl ?_
          exact f_X4_addHops_b89_ok O N k3 hk3 _ _ _ _ _ _ e
    · refine v_goto O dX4_addHops_19 89 (by decide) ?_
      exact f_X4_addHops_b89_ok O N k3 hk3 _ _ _ _ _ _ e
theorem f_X4_addHops_l3_ok {X : Cx} {G : Gx} {z : Rs} (O : Ok X G cX4_addHops RX4 8 wsX4_addHops (none) rm_X4_addHops) (N : Nat) : ∀ (n : Nat) (v1 : Int32) (v2 : Int32) (v3 : Int32) (v4 : Int32) (v5 : Int32) (h : Hp), f_X4_addHops_l3 N n v1 v2 v3 v4 v5 h = some z → V X G 8 (QV X G z) h 3 [(0, .ref (G.1 15)), (1, .int v1), (2, .int v2), (3, .int v3), (4, .int v4), (5, .int v5)] [] := by
  intro n
  induction n with
  | zero => intro v1 v2 v3 v4 v5 h e; cases e
  | succ n ih => intro v1 v2 v3 v4 v5 h e; exact f_X4_addHops_b3_ok O N _ ih v1 v2 v3 v4 v5 h e
set_option maxRecDepth 20000 in
theorem f_X4_addHops_ok {l : Launch} {G : Gx} {N : Nat} {a0 : Int32} {a1 : Int32} {a2 : Int32} {a3 : Int32} {h : Hp} {z : Rs} (e : f_X4_addHops N a0 a1 a2 a3 h = some z) : CV l G yX4_addHops wsX4_addHops rm_X4_addHops [.ref (G.1 15), .int a0, .int a1, .int a2, .int a3] h z := by
  refine m_void _ (by decide) rfl [(0, .ref (G.1 15)), (1, .int a0), (2, .int a1), (3, .int a2), (4, .int a3)] rfl (Nat.le_of_ble_eq_true rfl) (fun X O => ?_)
  unfold f_X4_addHops at e
  refine v_iconst (v := 0) O dX4_addHops_0 (by decide) ?_
  refine v_istore O dX4_addHops_1 (by decide) (fun x1 => [(5, .int x1), (0, .ref (G.1 15)), (1, .int a0), (2, .int a1), (3, .int a2), (4, .int a3)]) (fun _ => rfl) e (fun x1 e => ?_)
  refine v_sub [1, 2, 3, 4, 5, 0] rfl ?_
  exact f_X4_addHops_l3_ok O N N _ _ _ _ _ _ e
/-! ===== X4 explore ===== -/
abbrev rm_X4_explore : Room := { frames := 5, cells := 0, slots := 0, locals := 127 }
theorem fd_X4_explore_11 : FdO wsX4_explore RX4 11 RX4 TX4 8 4 2 := ⟨by decide +kernel, rfl, by decide, by decide +kernel⟩
theorem fd_X4_explore_15 : FdO wsX4_explore RX4 15 RX4 TX4 8 4 3 := ⟨by decide +kernel, rfl, by decide, by decide +kernel⟩
theorem fd_X4_explore_21 : FdO wsX4_explore RX4 21 RX4 TX4 8 4 5 := ⟨by decide +kernel, rfl, by decide, by decide +kernel⟩
theorem fd_X4_explore_24 : FdO wsX4_explore RX4 24 RX4 TX4 8 4 0 := ⟨by decide +kernel, rfl, by decide, by decide +kernel⟩
theorem fd_X4_explore_28 : FdO wsX4_explore RX4 28 RX4 TX4 8 4 1 := ⟨by decide +kernel, rfl, by decide, by decide +kernel⟩
theorem fd_X4_explore_32 : FdO wsX4_explore RX4 32 RX4 TX4 8 4 6 := ⟨by decide +kernel, rfl, by decide, by decide +kernel⟩
theorem fd_X4_explore_40 : FdO wsX4_explore RX4 40 RX4 TX4 8 4 7 := ⟨by decide +kernel, rfl, by decide, by decide +kernel⟩
theorem fd_X4_explore_57 : FdO wsX4_explore RX4 57 RX5 TX5 9 5 4 := ⟨by decide +kernel, rfl, by decide, by decide +kernel⟩
theorem cw_X4_explore_J7_fill_53178 : CwO rm_X4_explore yJ7_fill_53178 wsJ7_fill_53178 cJ7_fill_53178 4 (none) rm_J7_fill_53178 2 := ⟨⟨_, rfl⟩, rfl, rfl, by decide +kernel, by decide, by decide⟩
theorem cw_X4_explore_X1_openTo : CwO rm_X4_explore yX1_openTo wsX1_openTo cX1_openTo 6 (some .int) rm_X1_openTo 4 := ⟨⟨_, rfl⟩, rfl, rfl, by decide +kernel, by decide, by decide⟩
theorem cw_X4_explore_X4_add : CwO rm_X4_explore yX4_add wsX4_add cX4_add 4 (none) rm_X4_add 3 := ⟨⟨_, rfl⟩, rfl, rfl, by decide +kernel, by decide, by decide⟩
theorem cw_X4_explore_X4_addHops : CwO rm_X4_explore yX4_addHops wsX4_addHops cX4_addHops 8 (none) rm_X4_addHops 4 := ⟨⟨_, rfl⟩, rfl, rfl, by decide +kernel, by decide, by decide⟩
theorem cw_X4_explore_X4_codeOf : CwO rm_X4_explore yX4_codeOf wsX4_codeOf cX4_codeOf 3 (some .int) rm_X4_codeOf 2 := ⟨⟨_, rfl⟩, rfl, rfl, by decide +kernel, by decide, by decide⟩
theorem cw_X4_explore_X4_isNew : CwO rm_X4_explore yX4_isNew wsX4_isNew cX4_isNew 3 (some .boolean) rm_X4_isNew 1 := ⟨⟨_, rfl⟩, rfl, rfl, by decide +kernel, by decide, by decide⟩
set_option maxRecDepth 20000 in
theorem f_X4_explore_b93_ok {X : Cx} {G : Gx} {z : Rs} (O : Ok X G cX4_explore RX4 8 wsX4_explore (none) rm_X4_explore) (N : Nat) (k73 : Int32 → Int32 → Int32 → Hp → Option Rs) (k93 : Int32 → Int32 → Int32 → Int32 → Hp → Option Rs) (hk73 : ∀ (v2 : Int32) (v3 : Int32) (v5 : Int32) (h : Hp), k73 v2 v3 v5 h = some z → V X G 8 (QV X G z) h 73 [(0, .ref (G.1 15)), (2, .int v2), (3, .int v3), (5, .int v5)] []) (hk93 : ∀ (v2 : Int32) (v3 : Int32) (v5 : Int32) (v6 : Int32) (h : Hp), k93 v2 v3 v5 v6 h = some z → V X G 8 (QV X G z) h 93 [(0, .ref (G.1 15)), (2, .int v2), (3, .int v3), (5, .int v5), (6, .int v6)] []) (v2 : Int32) (v3 : Int32) (v5 : Int32) (v6 : Int32) (h : Hp) (e : f_X4_explore_b93 N k73 k93 v2 v3 v5 v6 h = some z) : V X G 8 (QV X G z) h 93 [(0, .ref (G.1 15)), (2, .int v2), (3, .int v3), (5, .int v5), (6, .int v6)] [] := by
  unfold f_X4_explore_b93 at e
  refine v_iload O dX4_explore_93 4 rfl ?_
  refine v_aload_n O dX4_explore_95 0 rfl rfl ?_
  refine v_get O fd_X4_explore_24 (g25 O (by decide)) (cg_15 G _) rfl dX4_explore_96 ?_
  refine v_get O fd_X4_explore_57 (g25 O (by decide)) (cg_1 G _) rfl dX4_explore_99 ?_
  refine v_icmp_ge O dX4_explore_102 156 (by decide) e (fun e => ?_) (fun e => ?_)
  · refine v_iinc (v := 1) O dX4_explore_156 3 rfl (by decide) (by decide) (fun x1 => [(5, .int x1), (0, .ref (G.1 15)), (2, .int v2), (3, .int v3), (6, .int v6)]) (fun _ => rfl) e (fun x1 e => ?_)
    refine v_goto O dX4_explore_159 73 (by decide) ?_
    refine v_sub [1, 2, 3, 0] rfl ?_
    exact hk73 _ _ _ _ e
  · refine v_iload_n O dX4_explore_105 1 rfl rfl ?_
    refine v_aload_n O dX4_explore_106 0 rfl rfl ?_
    refine v_get O fd_X4_explore_21 (g25 O (by decide)) (cg_15 G _) rfl dX4_explore_107 ?_
    refine v_iload O dX4_explore_110 3 rfl ?_
    refine v_iald O (g25 O (by decide)) (cg_19 G _) dX4_explore_112 e (fun e => ?_)
    refine v_iadd O dX4_explore_113 ?_
    refine v_istore O dX4_explore_114 (by decide) (fun x2 => [(7, .int x2), (0, .ref (G.1 15)), (2, .int v2), (3, .int v3), (5, .int v5), (6, .int v6)]) (fun _ => rfl) e (fun x2 e => ?_)
    refine v_aload_n O dX4_explore_116 1 rfl rfl ?_
    refine v_iload O dX4_explore_117 4 rfl ?_
    refine v_iload O dX4_explore_119 5 rfl ?_
    refine v_aload_n O dX4_explore_121 1 rfl rfl ?_
    refine v_get O fd_X4_explore_28 (g25 O (by decide)) (cg_15 G _) rfl dX4_explore_122 ?_
    refine v_iload O dX4_explore_125 5 rfl ?_
    refine v_aload_n O dX4_explore_127 1 rfl rfl ?_
    refine v_get O fd_X4_explore_15 (g25 O (by decide)) (cg_15 G _) rfl dX4_explore_128 ?_
    refine v_iload O dX4_explore_131 4 rfl ?_
    refine v_iald O (g25 O (by decide)) (cg_17 G _) dX4_explore_133 e (fun e => ?_)
    refine v_ldc (v := 65535) O dX4_explore_134 (by decide +kernel) ?_
    refine v_iand O dX4_explore_136 ?_
    refine v_iload O dX4_explore_137 0 rfl ?_
    refine v_iload_n O dX4_explore_139 3 rfl rfl ?_
    refine v_cVi O [.int v6, .int ((h.1 17 (ix v5)) &&& 65535), .int x2, .int v3] [.int v6, .int v5, .ref (G.1 15)] gX4_explore_X1_openTo cw_X4_explore_X1_openTo rfl rfl (g25 O (by decide)) (cg_12 G _) rfl rfl (Nat.le_of_ble_eq_true rfl) dX4_explore_140 e (fun _ e9 => f_X1_openTo_ok e9) (fun r3 h4 e => ?_)
    refine v_iload O dX4_explore_143 0 rfl ?_
    refine v_iconst (v := 1) O dX4_explore_145 (by decide) ?_
    refine v_iadd O dX4_explore_146 ?_
    refine v_cVv O [.int v5, .int v6, .int r3, .int (x2 + 1)] [] gX4_explore_X4_addHops cw_X4_explore_X4_addHops rfl rfl (g25 O (by decide)) (cg_15 G _) rfl rfl (Nat.le_of_ble_eq_true rfl) dX4_explore_147 e (fun _ e9 => f_X4_addHops_ok e9) (fun _ h5 e => ?_)
    refine v_iinc (v := 1) O dX4_explore_150 5 rfl (by decide) (by decide) (fun x6 => [(6, .int x6), (7, .int x2), (0, .ref (G.1 15)), (2, .int v2), (3, .int v3), (5, .int v5)]) (fun _ => rfl) e (fun x6 e => ?_)
    refine v_goto O dX4_explore_153 93 (by decide) ?_
    refine v_sub [2, 3, 4, 5, 0] rfl ?_
    exact hk93 _ _ _ _ _ e
theorem f_X4_explore_l93_ok {X : Cx} {G : Gx} {z : Rs} (O : Ok X G cX4_explore RX4 8 wsX4_explore (none) rm_X4_explore) (N : Nat) (k73 : Int32 → Int32 → Int32 → Hp → Option Rs) (hk73 : ∀ (v2 : Int32) (v3 : Int32) (v5 : Int32) (h : Hp), k73 v2 v3 v5 h = some z → V X G 8 (QV X G z) h 73 [(0, .ref (G.1 15)), (2, .int v2), (3, .int v3), (5, .int v5)] []) : ∀ (n : Nat) (v2 : Int32) (v3 : Int32) (v5 : Int32) (v6 : Int32) (h : Hp), f_X4_explore_l93 N k73 n v2 v3 v5 v6 h = some z → V X G 8 (QV X G z) h 93 [(0, .ref (G.1 15)), (2, .int v2), (3, .int v3), (5, .int v5), (6, .int v6)] [] := by
  intro n
  induction n with
  | zero => intro v2 v3 v5 v6 h e; cases e
  | succ n ih => intro v2 v3 v5 v6 h e; exact f_X4_explore_b93_ok O N k73 _ hk73 ih v2 v3 v5 v6 h e
set_option maxRecDepth 20000 in
theorem f_X4_explore_b162_ok {X : Cx} {G : Gx} {z : Rs} (O : Ok X G cX4_explore RX4 8 wsX4_explore (none) rm_X4_explore) (N : Nat) (h : Hp) (e : f_X4_explore_b162 N h = some z) : V X G 8 (QV X G z) h 162 [] [] := by
  unfold f_X4_explore_b162 at e
  exact v_vret O dX4_explore_162 e
set_option maxRecDepth 20000 in
theorem f_X4_explore_b73_ok {X : Cx} {G : Gx} {z : Rs} (O : Ok X G cX4_explore RX4 8 wsX4_explore (none) rm_X4_explore) (N : Nat) (k73 : Int32 → Int32 → Int32 → Hp → Option Rs) (hk73 : ∀ (v2 : Int32) (v3 : Int32) (v5 : Int32) (h : Hp), k73 v2 v3 v5 h = some z → V X G 8 (QV X G z) h 73 [(0, .ref (G.1 15)), (2, .int v2), (3, .int v3), (5, .int v5)] []) (v2 : Int32) (v3 : Int32) (v5 : Int32) (h : Hp) (e : f_X4_explore_b73 N k73 v2 v3 v5 h = some z) : V X G 8 (QV X G z) h 73 [(0, .ref (G.1 15)), (2, .int v2), (3, .int v3), (5, .int v5)] [] := by
  unfold f_X4_explore_b73 at e
  refine v_iload O dX4_explore_73 3 rfl ?_
  refine v_aload_n O dX4_explore_75 0 rfl rfl ?_
  refine v_get O fd_X4_explore_32 (g25 O (by decide)) (cg_15 G _) rfl dX4_explore_76 ?_
  refine v_icmp_ge O dX4_explore_79 162 (by decide) e (fun e => ?_) (fun e => ?_)
  · refine v_sub [] rfl ?_
    exact f_X4_explore_b162_ok O N _ e
  · refine v_iload O dX4_explore_82 3 rfl ?_
    refine v_sipush (v := 23760) O dX4_explore_84 (by decide) ?_
    refine v_icmp_ge O dX4_explore_87 162 (by decide) e (fun e => ?_) (fun e => ?_)
    · refine v_sub [] rfl ?_
      exact f_X4_explore_b162_ok O N _ e
    · refine v_iconst (v := 0) O dX4_explore_90 (by decide) ?_
      refine v_istore O dX4_explore_91 (by decide) (fun x1 => [(6, .int x1), (0, .ref (G.1 15)), (2, .int v2), (3, .int v3), (5, .int v5)]) (fun _ => rfl) e (fun x1 e => ?_)
      refine v_sub [1, 2, 3, 4, 0] rfl ?_
      exact f_X4_explore_l93_ok O N k73 hk73 N _ _ _ _ _ e
theorem f_X4_explore_l73_ok {X : Cx} {G : Gx} {z : Rs} (O : Ok X G cX4_explore RX4 8 wsX4_explore (none) rm_X4_explore) (N : Nat) : ∀ (n : Nat) (v2 : Int32) (v3 : Int32) (v5 : Int32) (h : Hp), f_X4_explore_l73 N n v2 v3 v5 h = some z → V X G 8 (QV X G z) h 73 [(0, .ref (G.1 15)), (2, .int v2), (3, .int v3), (5, .int v5)] [] := by
  intro n
  induction n with
  | zero => intro v2 v3 v5 h e; cases e
  | succ n ih => intro v2 v3 v5 h e; exact f_X4_explore_b73_ok O N _ ih v2 v3 v5 h e
set_option maxRecDepth 20000 in
theorem f_X4_explore_b70_ok {X : Cx} {G : Gx} {z : Rs} (O : Ok X G cX4_explore RX4 8 wsX4_explore (none) rm_X4_explore) (N : Nat) (v2 : Int32) (v3 : Int32) (h : Hp) (e : f_X4_explore_b70 N v2 v3 h = some z) : V X G 8 (QV X G z) h 70 [(0, .ref (G.1 15)), (2, .int v2), (3, .int v3)] [] := by
  unfold f_X4_explore_b70 at e
  refine v_iconst (v := 0) O dX4_explore_70 (by decide) ?_
  refine v_istore O dX4_explore_71 (by decide) (fun x1 => [(5, .int x1), (0, .ref (G.1 15)), (2, .int v2), (3, .int v3)]) (fun _ => rfl) e (fun x1 e => ?_)
  refine v_sub [1, 2, 3, 0] rfl ?_
  exact f_X4_explore_l73_ok O N N _ _ _ _ e
set_option maxRecDepth 20000 in
theorem f_X4_explore_b35_ok {X : Cx} {G : Gx} {z : Rs} (O : Ok X G cX4_explore RX4 8 wsX4_explore (none) rm_X4_explore) (N : Nat) (v2 : Int32) (v3 : Int32) (v4 : Int32) (h : Hp) (e : f_X4_explore_b35 N v2 v3 v4 h = some z) : V X G 8 (QV X G z) h 35 [(0, .ref (G.1 15)), (2, .int v2), (3, .int v3), (4, .int v4)] [] := by
  unfold f_X4_explore_b35 at e
  refine v_aload_n O dX4_explore_35 0 rfl rfl ?_
  refine v_get O fd_X4_explore_11 (g25 O (by decide)) (cg_15 G _) rfl dX4_explore_36 ?_
  refine v_iconst (v := 0) O dX4_explore_39 (by decide) ?_
  refine v_cSv O [.ref (G.1 16), .int 0] [] gX4_explore_J7_fill_53178 cw_X4_explore_J7_fill_53178 rfl rfl (Nat.le_of_ble_eq_true rfl) dX4_explore_40 e (fun _ e9 => f_J7_fill_53178_16_ok e9) (fun _ h1 e => ?_)
  refine v_aload_n O dX4_explore_43 0 rfl rfl ?_
  refine v_iconst (v := 0) O dX4_explore_44 (by decide) ?_
  refine v_put O fd_X4_explore_32 fp_X4_6 (g25 O (by decide)) (cg_15 G _) (Nat.le_of_ble_eq_true rfl) (cs_15_6 G _ _) dX4_explore_45 e (fun h2 e => ?_)
  refine v_aload_n O dX4_explore_48 0 rfl rfl ?_
  refine v_iload_n O dX4_explore_49 2 rfl rfl ?_
  refine v_put O fd_X4_explore_40 fp_X4_7 (g25 O (by decide)) (cg_15 G _) (Nat.le_of_ble_eq_true rfl) (cs_15_7 G _ _) dX4_explore_50 e (fun h3 e => ?_)
  refine v_aload_n O dX4_explore_53 0 rfl rfl ?_
  refine v_iload O dX4_explore_54 3 rfl ?_
  refine v_cVi O [.int v4] [] gX4_explore_X4_isNew cw_X4_explore_X4_isNew rfl rfl (g25 O (by decide)) (cg_15 G _) rfl rfl (Nat.le_of_ble_eq_true rfl) dX4_explore_56 e (fun _ e9 => f_X4_isNew_ok e9) (fun r4 h5 e => ?_)
  refine v_if_eq O dX4_explore_59 70 (by decide) e (fun e => ?_) (fun e => ?_)
  · refine v_sub [0, 1, 2] rfl ?_
    exact f_X4_explore_b70_ok O N _ _ _ e
  · refine v_aload_n O dX4_explore_62 0 rfl rfl ?_
    refine v_iload O dX4_explore_63 3 rfl ?_
    refine v_iconst (v := (-1)) O dX4_explore_65 (by decide) ?_
    refine v_iconst (v := 0) O dX4_explore_66 (by decide) ?_
    refine v_cVv O [.int v4, .int (-1), .int 0] [] gX4_explore_X4_add cw_X4_explore_X4_add rfl rfl (g25 O (by decide)) (cg_15 G _) rfl rfl (Nat.le_of_ble_eq_true rfl) dX4_explore_67 e (fun _ e9 => f_X4_add_ok e9) (fun _ h6 e => ?_)
    refine v_sub [0, 1, 2] rfl ?_
    exact f_X4_explore_b70_ok O N _ _ _ e
set_option maxRecDepth 20000 in
theorem f_X4_explore_ok {l : Launch} {G : Gx} {N : Nat} {a0 : Int32} {a1 : Int32} {a2 : Int32} {h : Hp} {z : Rs} (e : f_X4_explore N a0 a1 a2 h = some z) : CV l G yX4_explore wsX4_explore rm_X4_explore [.ref (G.1 15), .int a0, .int a1, .int a2] h z := by
  refine m_void _ (by decide) rfl [(0, .ref (G.1 15)), (1, .int a0), (2, .int a1), (3, .int a2)] rfl (Nat.le_of_ble_eq_true rfl) (fun X O => ?_)
  unfold f_X4_explore at e
  refine v_aload_n O dX4_explore_0 0 rfl rfl ?_
  refine v_iload_n O dX4_explore_1 1 rfl rfl ?_
  refine v_iload_n O dX4_explore_2 2 rfl rfl ?_
  refine v_cVi O [.int a0, .int a1] [] gX4_explore_X4_codeOf cw_X4_explore_X4_codeOf rfl rfl (g25 O (by decide)) (cg_15 G _) rfl rfl (Nat.le_of_ble_eq_true rfl) dX4_explore_3 e (fun _ e9 => f_X4_codeOf_ok e9) (fun r1 h2 e => ?_)
  refine v_istore O dX4_explore_6 (by decide) (fun x3 => [(4, .int x3), (0, .ref (G.1 15)), (1, .int a0), (2, .int a1), (3, .int a2)]) (fun _ => rfl) e (fun x3 e => ?_)
  refine v_aload_n O dX4_explore_8 1 rfl rfl ?_
  refine v_get O fd_X4_explore_32 (g25 O (by decide)) (cg_15 G _) rfl dX4_explore_9 ?_
  refine v_if_le O dX4_explore_12 35 (by decide) e (fun e => ?_) (fun e => ?_)
  · refine v_sub [1, 3, 4, 0] rfl ?_
    exact f_X4_explore_b35_ok O N _ _ _ _ e
  · refine v_aload_n O dX4_explore_15 1 rfl rfl ?_
    refine v_get O fd_X4_explore_15 (g25 O (by decide)) (cg_15 G _) rfl dX4_explore_16 ?_
    refine v_iconst (v := 0) O dX4_explore_19 (by decide) ?_
    refine v_iald O (g25 O (by decide)) (cg_17 G _) dX4_explore_20 e (fun e => ?_)
    refine v_iload O dX4_explore_21 0 rfl ?_
    refine v_icmp_ne O dX4_explore_23 35 (by decide) e (fun e => ?_) (fun e => ?_)
    · refine v_sub [1, 3, 4, 0] rfl ?_
      exact f_X4_explore_b35_ok O N _ _ _ _ e
    · refine v_aload_n O dX4_explore_26 1 rfl rfl ?_
      refine v_get O fd_X4_explore_40 (g25 O (by decide)) (cg_15 G _) rfl dX4_explore_27 ?_
      refine v_iload_n O dX4_explore_30 4 rfl rfl ?_
      refine v_icmp_ne O dX4_explore_31 35 (by decide) e (fun e => ?_) (fun e => ?_)
      · refine v_sub [1, 3, 4, 0] rfl ?_
        exact f_X4_explore_b35_ok O N _ _ _ _ e
      · exact v_vret O dX4_explore_34 e
/-! ===== X4 firstHome ===== -/
abbrev rm_X4_firstHome : Room := { frames := 0, cells := 0, slots := 0, locals := 0 }
theorem fd_X4_firstHome_15 : FdO wsX4_firstHome RX4 15 RX4 TX4 8 4 3 := ⟨by decide +kernel, rfl, by decide, by decide +kernel⟩
theorem fd_X4_firstHome_24 : FdO wsX4_firstHome RX4 24 RX4 TX4 8 4 0 := ⟨by decide +kernel, rfl, by decide, by decide +kernel⟩
theorem fd_X4_firstHome_32 : FdO wsX4_firstHome RX4 32 RX4 TX4 8 4 6 := ⟨by decide +kernel, rfl, by decide, by decide +kernel⟩
theorem fd_X4_firstHome_87 : FdO wsX4_firstHome RX4 87 RX5 TX5 9 5 6 := ⟨by decide +kernel, rfl, by decide, by decide +kernel⟩
set_option maxRecDepth 20000 in
theorem f_X4_firstHome_b2_ok {X : Cx} {G : Gx} {z : Rs} (O : Ok X G cX4_firstHome RX4 2 wsX4_firstHome (some .int) rm_X4_firstHome) (N : Nat) (k2 : Int32 → Hp → Option Rs) (hk2 : ∀ (v1 : Int32) (h : Hp), k2 v1 h = some z → V X G 2 (QI X G z) h 2 [(0, .ref (G.1 15)), (1, .int v1)] []) (v1 : Int32) (h : Hp) (e : f_X4_firstHome_b2 N k2 v1 h = some z) : V X G 2 (QI X G z) h 2 [(0, .ref (G.1 15)), (1, .int v1)] [] := by
  unfold f_X4_firstHome_b2 at e
  refine v_iload_n O dX4_firstHome_2 1 rfl rfl ?_
  refine v_aload_n O dX4_firstHome_3 0 rfl rfl ?_
  refine v_get O fd_X4_firstHome_32 (g25 O (by decide)) (cg_15 G _) rfl dX4_firstHome_4 ?_
  refine v_icmp_ge O dX4_firstHome_7 37 (by decide) e (fun e => ?_) (fun e => ?_)
  · refine v_iconst (v := (-1)) O dX4_firstHome_37 (by decide) ?_
    exact v_iret O dX4_firstHome_38 e
  · refine v_aload_n O dX4_firstHome_10 0 rfl rfl ?_
    refine v_get O fd_X4_firstHome_15 (g25 O (by decide)) (cg_15 G _) rfl dX4_firstHome_11 ?_
    refine v_iload_n O dX4_firstHome_14 1 rfl rfl ?_
    refine v_iald O (g25 O (by decide)) (cg_17 G _) dX4_firstHome_15 e (fun e => ?_)
    refine v_ldc (v := 65535) O dX4_firstHome_16 (by decide +kernel) ?_
    refine v_iand O dX4_firstHome_18 ?_
    refine v_aload_n O dX4_firstHome_19 0 rfl rfl ?_
    refine v_get O fd_X4_firstHome_24 (g25 O (by decide)) (cg_15 G _) rfl dX4_firstHome_20 ?_
    refine v_get O fd_X4_firstHome_87 (g25 O (by decide)) (cg_1 G _) rfl dX4_firstHome_23 ?_
    refine v_icmp_ne O dX4_firstHome_26 31 (by decide) e (fun e => ?_) (fun e => ?_)
    · refine v_iinc (v := 1) O dX4_firstHome_31 1 rfl (by decide) (by decide) (fun x1 => [(1, .int x1), (0, .ref (G.1 15))]) (fun _ => rfl) e (fun x1 e => ?_)
      refine v_goto O dX4_firstHome_34 2 (by decide) ?_
      refine v_sub [1, 0] rfl ?_
      exact hk2 _ _ e
    · refine v_iload_n O dX4_firstHome_29 1 rfl rfl ?_
      exact v_iret O dX4_firstHome_30 e
theorem f_X4_firstHome_l2_ok {X : Cx} {G : Gx} {z : Rs} (O : Ok X G cX4_firstHome RX4 2 wsX4_firstHome (some .int) rm_X4_firstHome) (N : Nat) : ∀ (n : Nat) (v1 : Int32) (h : Hp), f_X4_firstHome_l2 N n v1 h = some z → V X G 2 (QI X G z) h 2 [(0, .ref (G.1 15)), (1, .int v1)] [] := by
  intro n
  induction n with
  | zero => intro v1 h e; cases e
  | succ n ih => intro v1 h e; exact f_X4_firstHome_b2_ok O N _ ih v1 h e
set_option maxRecDepth 20000 in
theorem f_X4_firstHome_ok {l : Launch} {G : Gx} {N : Nat} {h : Hp} {z : Rs} (e : f_X4_firstHome N h = some z) : CI l G yX4_firstHome wsX4_firstHome rm_X4_firstHome [.ref (G.1 15)] h z := by
  refine m_int _ (by decide) rfl [(0, .ref (G.1 15))] rfl (Nat.le_of_ble_eq_true rfl) (fun X O => ?_)
  unfold f_X4_firstHome at e
  refine v_iconst (v := 0) O dX4_firstHome_0 (by decide) ?_
  refine v_istore_n O dX4_firstHome_1 rfl (by decide) (fun x1 => [(1, .int x1), (0, .ref (G.1 15))]) (fun _ => rfl) e (fun x1 e => ?_)
  refine v_sub [1, 0] rfl ?_
  exact f_X4_firstHome_l2_ok O N N _ _ e
/-! ===== X5 squares ===== -/
abbrev rm_X5_squares : Room := { frames := 0, cells := 0, slots := 0, locals := 0 }
theorem fd_X5_squares_18 : FdO wsX5_squares RX5 18 RX5 TX5 9 5 0 := ⟨by decide +kernel, rfl, by decide, by decide +kernel⟩
theorem fd_X5_squares_22 : FdO wsX5_squares RX5 22 RX5 TX5 9 5 1 := ⟨by decide +kernel, rfl, by decide, by decide +kernel⟩
set_option maxRecDepth 20000 in
theorem f_X5_squares_ok_1 {l : Launch} {G : Gx} {N : Nat} {h : Hp} {z : Rs} (e : f_X5_squares 1 N h = some z) : CI l G yX5_squares wsX5_squares rm_X5_squares [.ref (G.1 1)] h z := by
  refine m_int _ (by decide) rfl [(0, .ref (G.1 1))] rfl (Nat.le_of_ble_eq_true rfl) (fun X O => ?_)
  unfold f_X5_squares at e
  refine v_aload_n O dX5_squares_0 0 rfl rfl ?_
  refine v_get O fd_X5_squares_18 (g25 O (by decide)) (cg_1 G _) rfl dX5_squares_1 ?_
  refine v_aload_n O dX5_squares_4 0 rfl rfl ?_
  refine v_get O fd_X5_squares_22 (g25 O (by decide)) (cg_1 G _) rfl dX5_squares_5 ?_
  refine v_imul O dX5_squares_8 ?_
  exact v_iret O dX5_squares_9 e
set_option maxRecDepth 20000 in
theorem f_X5_squares_ok_7 {l : Launch} {G : Gx} {N : Nat} {h : Hp} {z : Rs} (e : f_X5_squares 7 N h = some z) : CI l G yX5_squares wsX5_squares rm_X5_squares [.ref (G.1 7)] h z := by
  refine m_int _ (by decide) rfl [(0, .ref (G.1 7))] rfl (Nat.le_of_ble_eq_true rfl) (fun X O => ?_)
  unfold f_X5_squares at e
  refine v_aload_n O dX5_squares_0 0 rfl rfl ?_
  refine v_get O fd_X5_squares_18 (g25 O (by decide)) (cg_7 G _) rfl dX5_squares_1 ?_
  refine v_aload_n O dX5_squares_4 0 rfl rfl ?_
  refine v_get O fd_X5_squares_22 (g25 O (by decide)) (cg_7 G _) rfl dX5_squares_5 ?_
  refine v_imul O dX5_squares_8 ?_
  exact v_iret O dX5_squares_9 e
/-! ===== X7 noSquare ===== -/
abbrev rm_X7_noSquare : Room := { frames := 1, cells := 0, slots := 0, locals := 20 }
theorem fd_X7_noSquare_10 : FdO wsX7_noSquare RX7 10 RX7 TX7 15 7 0 := ⟨by decide +kernel, rfl, by decide, by decide +kernel⟩
theorem cw_X7_noSquare_X5_squares : CwO rm_X7_noSquare yX5_squares wsX5_squares cX5_squares 1 (some .int) rm_X5_squares 0 := ⟨⟨_, rfl⟩, rfl, rfl, by decide +kernel, by decide, by decide⟩
set_option maxRecDepth 20000 in
theorem f_X7_noSquare_b20_ok {X : Cx} {G : Gx} {z : Rs} (O : Ok X G cX7_noSquare RX7 2 wsX7_noSquare (some .boolean) rm_X7_noSquare) (N : Nat) (s0 : Int32) (h : Hp) (e : f_X7_noSquare_b20 N s0 h = some z) : V X G 2 (QI X G z) h 20 [] [.int s0] := by
  unfold f_X7_noSquare_b20 at e
  exact v_zret O dX7_noSquare_20 e
set_option maxRecDepth 20000 in
theorem f_X7_noSquare_b15_ok {X : Cx} {G : Gx} {z : Rs} (O : Ok X G cX7_noSquare RX7 2 wsX7_noSquare (some .boolean) rm_X7_noSquare) (N : Nat) (h : Hp) (e : f_X7_noSquare_b15 N h = some z) : V X G 2 (QI X G z) h 15 [] [] := by
  unfold f_X7_noSquare_b15 at e
  refine v_iconst (v := 1) O dX7_noSquare_15 (by decide) ?_
  refine v_goto O dX7_noSquare_16 20 (by decide) ?_
  exact f_X7_noSquare_b20_ok O N _ _ e
set_option maxRecDepth 20000 in
theorem f_X7_noSquare_ok {l : Launch} {G : Gx} {N : Nat} {a0 : Int32} {h : Hp} {z : Rs} (e : f_X7_noSquare N a0 h = some z) : CI l G yX7_noSquare wsX7_noSquare rm_X7_noSquare [.ref (G.1 0), .int a0] h z := by
  refine m_bool _ (by decide) rfl [(0, .ref (G.1 0)), (1, .int a0)] rfl (Nat.le_of_ble_eq_true rfl) (fun X O => ?_)
  unfold f_X7_noSquare at e
  refine v_iload_n O dX7_noSquare_0 1 rfl rfl ?_
  refine v_if_lt O dX7_noSquare_1 15 (by decide) e (fun e => ?_) (fun e => ?_)
  · refine v_sub [] rfl ?_
    exact f_X7_noSquare_b15_ok O N _ e
  · refine v_iload_n O dX7_noSquare_4 1 rfl rfl ?_
    refine v_aload_n O dX7_noSquare_5 0 rfl rfl ?_
    refine v_get O fd_X7_noSquare_10 (g25 O (by decide)) (cg_0 G _) rfl dX7_noSquare_6 ?_
    refine v_cVi O [] [.int a0] gX7_noSquare_X5_squares cw_X7_noSquare_X5_squares rfl rfl (g25 O (by decide)) (cg_1 G _) rfl rfl (Nat.le_of_ble_eq_true rfl) dX7_noSquare_9 e (fun _ e9 => f_X5_squares_ok_1 e9) (fun r1 h2 e => ?_)
    refine v_icmp_lt O dX7_noSquare_12 19 (by decide) e (fun e => ?_) (fun e => ?_)
    · refine v_iconst (v := 0) O dX7_noSquare_19 (by decide) ?_
      refine v_sub [] rfl ?_
      exact f_X7_noSquare_b20_ok O N _ _ e
    · refine v_sub [] rfl ?_
      exact f_X7_noSquare_b15_ok O N _ e
/-! ===== X7 added ===== -/
abbrev rm_X7_added : Room := { frames := 6, cells := 0, slots := 0, locals := 154 }
theorem fd_X7_added_10 : FdO wsX7_added RX7 10 RX7 TX7 15 7 0 := ⟨by decide +kernel, rfl, by decide, by decide +kernel⟩
theorem fd_X7_added_62 : FdO wsX7_added RX7 62 RX7 TX7 15 7 6 := ⟨by decide +kernel, rfl, by decide, by decide +kernel⟩
theorem fd_X7_added_126 : FdO wsX7_added RX7 126 RX5 TX5 9 5 2 := ⟨by decide +kernel, rfl, by decide, by decide +kernel⟩
theorem fd_X7_added_133 : FdO wsX7_added RX7 133 RX7 TX7 15 7 13 := ⟨by decide +kernel, rfl, by decide, by decide +kernel⟩
theorem fd_X7_added_166 : FdO wsX7_added RX7 166 RX7 TX7 15 7 14 := ⟨by decide +kernel, rfl, by decide, by decide +kernel⟩
theorem cw_X7_added_X4_depthOf : CwO rm_X7_added yX4_depthOf wsX4_depthOf cX4_depthOf 2 (some .int) rm_X4_depthOf 1 := ⟨⟨_, rfl⟩, rfl, rfl, by decide +kernel, by decide, by decide⟩
theorem cw_X7_added_X4_explore : CwO rm_X7_added yX4_explore wsX4_explore cX4_explore 8 (none) rm_X4_explore 3 := ⟨⟨_, rfl⟩, rfl, rfl, by decide +kernel, by decide, by decide⟩
theorem cw_X7_added_X4_firstHome : CwO rm_X7_added yX4_firstHome wsX4_firstHome cX4_firstHome 2 (some .int) rm_X4_firstHome 0 := ⟨⟨_, rfl⟩, rfl, rfl, by decide +kernel, by decide, by decide⟩
theorem cw_X7_added_X7_bit : CwO rm_X7_added yX7_bit wsX7_bit cX7_bit 2 (some .int) rm_X7_bit 2 := ⟨⟨_, rfl⟩, rfl, rfl, by decide +kernel, by decide, by decide⟩
theorem cw_X7_added_X7_noSquare : CwO rm_X7_added yX7_noSquare wsX7_noSquare cX7_noSquare 2 (some .boolean) rm_X7_noSquare 1 := ⟨⟨_, rfl⟩, rfl, rfl, by decide +kernel, by decide, by decide⟩
set_option maxRecDepth 20000 in
theorem f_X7_added_ok {l : Launch} {G : Gx} {N : Nat} {a0 : Int32} {h : Hp} {z : Rs} (e : f_X7_added N a0 h = some z) : CI l G yX7_added wsX7_added rm_X7_added [.ref (G.1 0), .int a0] h z := by
  refine m_int _ (by decide) rfl [(0, .ref (G.1 0)), (1, .int a0)] rfl (Nat.le_of_ble_eq_true rfl) (fun X O => ?_)
  unfold f_X7_added at e
  refine v_aload_n O dX7_added_0 0 rfl rfl ?_
  refine v_iload_n O dX7_added_1 1 rfl rfl ?_
  refine v_cVi O [.int a0] [] gX7_added_X7_noSquare cw_X7_added_X7_noSquare rfl rfl (g25 O (by decide)) (cg_0 G _) rfl rfl (Nat.le_of_ble_eq_true rfl) dX7_added_2 e (fun _ e9 => f_X7_noSquare_ok e9) (fun r1 h2 e => ?_)
  refine v_if_eq O dX7_added_5 11 (by decide) e (fun e => ?_) (fun e => ?_)
  · refine v_aload_n O dX7_added_11 0 rfl rfl ?_
    refine v_get O fd_X7_added_10 (g25 O (by decide)) (cg_0 G _) rfl dX7_added_12 ?_
    refine v_get O fd_X7_added_126 (g25 O (by decide)) (cg_1 G _) rfl dX7_added_15 ?_
    refine v_iload_n O dX7_added_18 1 rfl rfl ?_
    refine v_cSi O [.int (h2.1 1 2), .int a0] [] gX7_added_X7_bit cw_X7_added_X7_bit rfl rfl (Nat.le_of_ble_eq_true rfl) dX7_added_19 e (fun _ e9 => f_X7_bit_ok e9) (fun r3 h4 e => ?_)
    refine v_if_ne O dX7_added_22 28 (by decide) e (fun e => ?_) (fun e => ?_)
    · refine v_aload_n O dX7_added_28 0 rfl rfl ?_
      refine v_get O fd_X7_added_62 (g25 O (by decide)) (cg_0 G _) rfl dX7_added_29 ?_
      refine v_aload_n O dX7_added_32 0 rfl rfl ?_
      refine v_get O fd_X7_added_133 (g25 O (by decide)) (cg_0 G _) rfl dX7_added_33 ?_
      refine v_aload_n O dX7_added_36 0 rfl rfl ?_
      refine v_get O fd_X7_added_166 (g25 O (by decide)) (cg_0 G _) rfl dX7_added_37 ?_
      refine v_aload_n O dX7_added_40 0 rfl rfl ?_
      refine v_get O fd_X7_added_10 (g25 O (by decide)) (cg_0 G _) rfl dX7_added_41 ?_
      refine v_get O fd_X7_added_126 (g25 O (by decide)) (cg_1 G _) rfl dX7_added_44 ?_
      refine v_iconst (v := 1) O dX7_added_47 (by decide) ?_
      refine v_iload_n O dX7_added_48 1 rfl rfl ?_
      refine v_ishl O dX7_added_49 ?_
      refine v_iconst (v := (-1)) O dX7_added_50 (by decide) ?_
      refine v_ixor O dX7_added_51 ?_
      refine v_iand O dX7_added_52 ?_
      refine v_cVv O [.int (h4.1 0 13), .int (h4.1 0 14), .int ((h4.1 1 2) &&& (((1 : Int32) <<< (a0 &&& 31)) ^^^ (-1)))] [] gX7_added_X4_explore cw_X7_added_X4_explore rfl rfl (g25 O (by decide)) (cg_15 G _) rfl rfl (Nat.le_of_ble_eq_true rfl) dX7_added_53 e (fun _ e9 => f_X4_explore_ok e9) (fun _ h5 e => ?_)
      refine v_aload_n O dX7_added_56 0 rfl rfl ?_
      refine v_get O fd_X7_added_62 (g25 O (by decide)) (cg_0 G _) rfl dX7_added_57 ?_
      refine v_aload_n O dX7_added_60 0 rfl rfl ?_
      refine v_get O fd_X7_added_62 (g25 O (by decide)) (cg_0 G _) rfl dX7_added_61 ?_
      refine v_cVi O [] [.ref (G.1 15)] gX7_added_X4_firstHome cw_X7_added_X4_firstHome rfl rfl (g25 O (by decide)) (cg_15 G _) rfl rfl (Nat.le_of_ble_eq_true rfl) dX7_added_64 e (fun _ e9 => f_X4_firstHome_ok e9) (fun r6 h7 e => ?_)
      refine v_cVi O [.int r6] [] gX7_added_X4_depthOf cw_X7_added_X4_depthOf rfl rfl (g25 O (by decide)) (cg_15 G _) rfl rfl (Nat.le_of_ble_eq_true rfl) dX7_added_67 e (fun _ e9 => f_X4_depthOf_ok e9) (fun r8 h9 e => ?_)
      exact v_iret O dX7_added_70 e
    · refine v_bipush (v := (-4)) O dX7_added_25 (by decide) ?_
      exact v_iret O dX7_added_27 e
  · refine v_bipush (v := (-2)) O dX7_added_8 (by decide) ?_
    exact v_iret O dX7_added_10 e
/-! ===== X5 manOf ===== -/
abbrev rm_X5_manOf : Room := { frames := 1, cells := 0, slots := 0, locals := 21 }
theorem fd_X5_manOf_34 : FdO wsX5_manOf RX5 34 RX5 TX5 9 5 4 := ⟨by decide +kernel, rfl, by decide, by decide +kernel⟩
theorem cw_X5_manOf_X7_placeOf : CwO rm_X5_manOf yX7_placeOf wsX7_placeOf cX7_placeOf 2 (some .int) rm_X7_placeOf 2 := ⟨⟨_, rfl⟩, rfl, rfl, by decide +kernel, by decide, by decide⟩
theorem sn_X5_manOf_X7_placeOf : Cond.static yX7_placeOf ∈ wsX5_manOf ∧ Cond.initialized yX7_placeOf.cls ∈ wsX5_manOf := ⟨by decide +kernel, by decide +kernel⟩
set_option maxRecDepth 20000 in
theorem f_X5_manOf_b2_ok_1 {X : Cx} {G : Gx} {z : Rs} (O : Ok X G cX5_manOf RX5 4 wsX5_manOf (some .int) rm_X5_manOf) (N : Nat) (k2 : Int32 → Int32 → Int32 → Hp → Option Rs) (hk2 : ∀ (v1 : Int32) (v2 : Int32) (v3 : Int32) (h : Hp), k2 v1 v2 v3 h = some z → V X G 4 (QI X G z) h 2 [(0, .ref (G.1 1)), (1, .int v1), (2, .int v2), (3, .int v3)] []) (v1 : Int32) (v2 : Int32) (v3 : Int32) (h : Hp) (e : f_X5_manOf_b2 1 N k2 v1 v2 v3 h = some z) : V X G 4 (QI X G z) h 2 [(0, .ref (G.1 1)), (1, .int v1), (2, .int v2), (3, .int v3)] [] := by
  unfold f_X5_manOf_b2 at e
  refine v_iload_n O dX5_manOf_2 3 rfl rfl ?_
  refine v_aload_n O dX5_manOf_3 0 rfl rfl ?_
  refine v_get O fd_X5_manOf_34 (g25 O (by decide)) (cg_1 G _) rfl dX5_manOf_4 ?_
  refine v_icmp_ge O dX5_manOf_7 27 (by decide) e (fun e => ?_) (fun e => ?_)
  · refine v_iconst (v := (-1)) O dX5_manOf_27 (by decide) ?_
    exact v_iret O dX5_manOf_28 e
  · refine v_iload_n O dX5_manOf_10 3 rfl rfl ?_
    refine v_iload_n O dX5_manOf_11 1 rfl rfl ?_
    refine v_cNi O [.int v3, .int v1] [] 11 rfl gX5_manOf_X7_placeOf_n53 sn_X5_manOf_X7_placeOf.1 sn_X5_manOf_X7_placeOf.2 cw_X5_manOf_X7_placeOf rfl rfl (Nat.le_of_ble_eq_true rfl) dX5_manOf_12 e (fun _ e9 => f_X7_placeOf_ok e9) (fun r1 h2 e => ?_)
    refine v_iload_n O dX5_manOf_15 2 rfl rfl ?_
    refine v_icmp_ne O dX5_manOf_16 21 (by decide) e (fun e => ?_) (fun e => ?_)
    · refine v_iinc (v := 1) O dX5_manOf_21 3 rfl (by decide) (by decide) (fun x3 => [(3, .int x3), (0, .ref (G.1 1)), (1, .int v1), (2, .int v2)]) (fun _ => rfl) e (fun x3 e => ?_)
      refine v_goto O dX5_manOf_24 2 (by decide) ?_
      refine v_sub [1, 2, 3, 0] rfl ?_
      exact hk2 _ _ _ _ e
    · refine v_iload_n O dX5_manOf_19 3 rfl rfl ?_
      exact v_iret O dX5_manOf_20 e
theorem f_X5_manOf_l2_ok_1 {X : Cx} {G : Gx} {z : Rs} (O : Ok X G cX5_manOf RX5 4 wsX5_manOf (some .int) rm_X5_manOf) (N : Nat) : ∀ (n : Nat) (v1 : Int32) (v2 : Int32) (v3 : Int32) (h : Hp), f_X5_manOf_l2 1 N n v1 v2 v3 h = some z → V X G 4 (QI X G z) h 2 [(0, .ref (G.1 1)), (1, .int v1), (2, .int v2), (3, .int v3)] [] := by
  intro n
  induction n with
  | zero => intro v1 v2 v3 h e; cases e
  | succ n ih => intro v1 v2 v3 h e; exact f_X5_manOf_b2_ok_1 O N _ ih v1 v2 v3 h e
set_option maxRecDepth 20000 in
theorem f_X5_manOf_ok_1 {l : Launch} {G : Gx} {N : Nat} {a0 : Int32} {a1 : Int32} {h : Hp} {z : Rs} (e : f_X5_manOf 1 N a0 a1 h = some z) : CI l G yX5_manOf wsX5_manOf rm_X5_manOf [.ref (G.1 1), .int a0, .int a1] h z := by
  refine m_int _ (by decide) rfl [(0, .ref (G.1 1)), (1, .int a0), (2, .int a1)] rfl (Nat.le_of_ble_eq_true rfl) (fun X O => ?_)
  unfold f_X5_manOf at e
  refine v_iconst (v := 0) O dX5_manOf_0 (by decide) ?_
  refine v_istore_n O dX5_manOf_1 rfl (by decide) (fun x1 => [(3, .int x1), (0, .ref (G.1 1)), (1, .int a0), (2, .int a1)]) (fun _ => rfl) e (fun x1 e => ?_)
  refine v_sub [1, 2, 3, 0] rfl ?_
  exact f_X5_manOf_l2_ok_1 O N N _ _ _ _ e
set_option maxRecDepth 20000 in
theorem f_X5_manOf_b2_ok_7 {X : Cx} {G : Gx} {z : Rs} (O : Ok X G cX5_manOf RX5 4 wsX5_manOf (some .int) rm_X5_manOf) (N : Nat) (k2 : Int32 → Int32 → Int32 → Hp → Option Rs) (hk2 : ∀ (v1 : Int32) (v2 : Int32) (v3 : Int32) (h : Hp), k2 v1 v2 v3 h = some z → V X G 4 (QI X G z) h 2 [(0, .ref (G.1 7)), (1, .int v1), (2, .int v2), (3, .int v3)] []) (v1 : Int32) (v2 : Int32) (v3 : Int32) (h : Hp) (e : f_X5_manOf_b2 7 N k2 v1 v2 v3 h = some z) : V X G 4 (QI X G z) h 2 [(0, .ref (G.1 7)), (1, .int v1), (2, .int v2), (3, .int v3)] [] := by
  unfold f_X5_manOf_b2 at e
  refine v_iload_n O dX5_manOf_2 3 rfl rfl ?_
  refine v_aload_n O dX5_manOf_3 0 rfl rfl ?_
  refine v_get O fd_X5_manOf_34 (g25 O (by decide)) (cg_7 G _) rfl dX5_manOf_4 ?_
  refine v_icmp_ge O dX5_manOf_7 27 (by decide) e (fun e => ?_) (fun e => ?_)
  · refine v_iconst (v := (-1)) O dX5_manOf_27 (by decide) ?_
    exact v_iret O dX5_manOf_28 e
  · refine v_iload_n O dX5_manOf_10 3 rfl rfl ?_
    refine v_iload_n O dX5_manOf_11 1 rfl rfl ?_
    refine v_cNi O [.int v3, .int v1] [] 11 rfl gX5_manOf_X7_placeOf_n53 sn_X5_manOf_X7_placeOf.1 sn_X5_manOf_X7_placeOf.2 cw_X5_manOf_X7_placeOf rfl rfl (Nat.le_of_ble_eq_true rfl) dX5_manOf_12 e (fun _ e9 => f_X7_placeOf_ok e9) (fun r1 h2 e => ?_)
    refine v_iload_n O dX5_manOf_15 2 rfl rfl ?_
    refine v_icmp_ne O dX5_manOf_16 21 (by decide) e (fun e => ?_) (fun e => ?_)
    · refine v_iinc (v := 1) O dX5_manOf_21 3 rfl (by decide) (by decide) (fun x3 => [(3, .int x3), (0, .ref (G.1 7)), (1, .int v1), (2, .int v2)]) (fun _ => rfl) e (fun x3 e => ?_)
      refine v_goto O dX5_manOf_24 2 (by decide) ?_
      refine v_sub [1, 2, 3, 0] rfl ?_
      exact hk2 _ _ _ _ e
    · refine v_iload_n O dX5_manOf_19 3 rfl rfl ?_
      exact v_iret O dX5_manOf_20 e
theorem f_X5_manOf_l2_ok_7 {X : Cx} {G : Gx} {z : Rs} (O : Ok X G cX5_manOf RX5 4 wsX5_manOf (some .int) rm_X5_manOf) (N : Nat) : ∀ (n : Nat) (v1 : Int32) (v2 : Int32) (v3 : Int32) (h : Hp), f_X5_manOf_l2 7 N n v1 v2 v3 h = some z → V X G 4 (QI X G z) h 2 [(0, .ref (G.1 7)), (1, .int v1), (2, .int v2), (3, .int v3)] [] := by
  intro n
  induction n with
  | zero => intro v1 v2 v3 h e; cases e
  | succ n ih => intro v1 v2 v3 h e; exact f_X5_manOf_b2_ok_7 O N _ ih v1 v2 v3 h e
set_option maxRecDepth 20000 in
theorem f_X5_manOf_ok_7 {l : Launch} {G : Gx} {N : Nat} {a0 : Int32} {a1 : Int32} {h : Hp} {z : Rs} (e : f_X5_manOf 7 N a0 a1 h = some z) : CI l G yX5_manOf wsX5_manOf rm_X5_manOf [.ref (G.1 7), .int a0, .int a1] h z := by
  refine m_int _ (by decide) rfl [(0, .ref (G.1 7)), (1, .int a0), (2, .int a1)] rfl (Nat.le_of_ble_eq_true rfl) (fun X O => ?_)
  unfold f_X5_manOf at e
  refine v_iconst (v := 0) O dX5_manOf_0 (by decide) ?_
  refine v_istore_n O dX5_manOf_1 rfl (by decide) (fun x1 => [(3, .int x1), (0, .ref (G.1 7)), (1, .int a0), (2, .int a1)]) (fun _ => rfl) e (fun x1 e => ?_)
  refine v_sub [1, 2, 3, 0] rfl ?_
  exact f_X5_manOf_l2_ok_7 O N N _ _ _ _ e
