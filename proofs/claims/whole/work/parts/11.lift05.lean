/-! ===== X7 count ===== -/
abbrev rm_X7_count : Room := { frames := 2, cells := 0, slots := 0, locals := 43 }
theorem fd_X7_count_10 : FdO wsX7_count RX7 10 RX7 TX7 15 7 0 := ⟨by decide +kernel, rfl, by decide, by decide +kernel⟩
theorem fd_X7_count_19 : FdO wsX7_count RX7 19 RX7 TX7 15 7 1 := ⟨by decide +kernel, rfl, by decide, by decide +kernel⟩
theorem fd_X7_count_83 : FdO wsX7_count RX7 83 RX5 TX5 9 5 0 := ⟨by decide +kernel, rfl, by decide, by decide +kernel⟩
theorem fd_X7_count_87 : FdO wsX7_count RX7 87 RX5 TX5 9 5 1 := ⟨by decide +kernel, rfl, by decide, by decide +kernel⟩
theorem fd_X7_count_94 : FdO wsX7_count RX7 94 RX6 TX6 4 6 1 := ⟨by decide +kernel, rfl, by decide, by decide +kernel⟩
theorem fd_X7_count_126 : FdO wsX7_count RX7 126 RX5 TX5 9 5 2 := ⟨by decide +kernel, rfl, by decide, by decide +kernel⟩
theorem fd_X7_count_166 : FdO wsX7_count RX7 166 RX7 TX7 15 7 14 := ⟨by decide +kernel, rfl, by decide, by decide +kernel⟩
theorem fd_X7_count_202 : FdO wsX7_count RX7 202 RX5 TX5 9 5 4 := ⟨by decide +kernel, rfl, by decide, by decide +kernel⟩
theorem fd_X7_count_234 : FdO wsX7_count RX7 234 RX7 TX7 15 7 12 := ⟨by decide +kernel, rfl, by decide, by decide +kernel⟩
theorem fd_X7_count_237 : FdO wsX7_count RX7 237 RX5 TX5 9 5 3 := ⟨by decide +kernel, rfl, by decide, by decide +kernel⟩
theorem cw_X7_count_X7_menAtHome : CwO rm_X7_count yX7_menAtHome wsX7_menAtHome cX7_menAtHome 3 (some .int) rm_X7_menAtHome 0 := ⟨⟨_, rfl⟩, rfl, rfl, by decide +kernel, by decide, by decide⟩
set_option maxRecDepth 20000 in
theorem f_X7_count_ok {l : Launch} {G : Gx} {N : Nat} {a0 : Int32} {h : Hp} {z : Rs} (e : f_X7_count N a0 h = some z) : CI l G yX7_count wsX7_count rm_X7_count [.ref (G.1 0), .int a0] h z := by
  refine m_int _ (by decide) rfl [(0, .ref (G.1 0)), (1, .int a0)] rfl (Nat.le_of_ble_eq_true rfl) (fun X O => ?_)
  unfold f_X7_count at e
  refine v_iload_n O dX7_count_0 1 rfl rfl ?_
  refine v_if (c := a0 = 0) e (fun c0 e => ?_) (fun c0 e => ?_)
  · refine v_tabIn O dX7_count_1 c0 (by decide) (by decide) (by first | rfl | decide) 52 (by decide) ?_
    refine v_aload_n O dX7_count_52 0 rfl rfl ?_
    refine v_get O fd_X7_count_10 (g25 O (by decide)) (cg_0 G _) rfl dX7_count_53 ?_
    refine v_get O fd_X7_count_83 (g25 O (by decide)) (cg_1 G _) rfl dX7_count_56 ?_
    exact v_iret O dX7_count_59 e
  refine v_if (c := a0 = 1) e (fun c1 e => ?_) (fun c1 e => ?_)
  · refine v_tabIn O dX7_count_1 c1 (by decide) (by decide) (by first | rfl | decide) 60 (by decide) ?_
    refine v_aload_n O dX7_count_60 0 rfl rfl ?_
    refine v_get O fd_X7_count_10 (g25 O (by decide)) (cg_0 G _) rfl dX7_count_61 ?_
    refine v_get O fd_X7_count_87 (g25 O (by decide)) (cg_1 G _) rfl dX7_count_64 ?_
    exact v_iret O dX7_count_67 e
  refine v_if (c := a0 = 2) e (fun c2 e => ?_) (fun c2 e => ?_)
  · refine v_tabIn O dX7_count_1 c2 (by decide) (by decide) (by first | rfl | decide) 68 (by decide) ?_
    refine v_aload_n O dX7_count_68 0 rfl rfl ?_
    refine v_get O fd_X7_count_10 (g25 O (by decide)) (cg_0 G _) rfl dX7_count_69 ?_
    refine v_get O fd_X7_count_202 (g25 O (by decide)) (cg_1 G _) rfl dX7_count_72 ?_
    exact v_iret O dX7_count_75 e
  refine v_if (c := a0 = 3) e (fun c3 e => ?_) (fun c3 e => ?_)
  · refine v_tabIn O dX7_count_1 c3 (by decide) (by decide) (by first | rfl | decide) 76 (by decide) ?_
    refine v_aload_n O dX7_count_76 0 rfl rfl ?_
    refine v_get O fd_X7_count_10 (g25 O (by decide)) (cg_0 G _) rfl dX7_count_77 ?_
    refine v_get O fd_X7_count_126 (g25 O (by decide)) (cg_1 G _) rfl dX7_count_80 ?_
    exact v_iret O dX7_count_83 e
  refine v_if (c := a0 = 4) e (fun c4 e => ?_) (fun c4 e => ?_)
  · refine v_tabIn O dX7_count_1 c4 (by decide) (by decide) (by first | rfl | decide) 84 (by decide) ?_
    refine v_aload_n O dX7_count_84 0 rfl rfl ?_
    refine v_get O fd_X7_count_10 (g25 O (by decide)) (cg_0 G _) rfl dX7_count_85 ?_
    refine v_get O fd_X7_count_237 (g25 O (by decide)) (cg_1 G _) rfl dX7_count_88 ?_
    exact v_iret O dX7_count_91 e
  refine v_if (c := a0 = 5) e (fun c5 e => ?_) (fun c5 e => ?_)
  · refine v_tabIn O dX7_count_1 c5 (by decide) (by decide) (by first | rfl | decide) 92 (by decide) ?_
    refine v_aload_n O dX7_count_92 0 rfl rfl ?_
    refine v_get O fd_X7_count_166 (g25 O (by decide)) (cg_0 G _) rfl dX7_count_93 ?_
    exact v_iret O dX7_count_96 e
  refine v_if (c := a0 = 6) e (fun c6 e => ?_) (fun c6 e => ?_)
  · refine v_tabIn O dX7_count_1 c6 (by decide) (by decide) (by first | rfl | decide) 97 (by decide) ?_
    refine v_aload_n O dX7_count_97 0 rfl rfl ?_
    refine v_cVi O [] [] gX7_count_X7_menAtHome cw_X7_count_X7_menAtHome rfl rfl (g25 O (by decide)) (cg_0 G _) rfl rfl (Nat.le_of_ble_eq_true rfl) dX7_count_98 e (fun _ e9 => f_X7_menAtHome_ok e9) (fun r1 h2 e => ?_)
    exact v_iret O dX7_count_101 e
  refine v_if (c := a0 = 7) e (fun c7 e => ?_) (fun c7 e => ?_)
  · refine v_tabIn O dX7_count_1 c7 (by decide) (by decide) (by first | rfl | decide) 102 (by decide) ?_
    refine v_aload_n O dX7_count_102 0 rfl rfl ?_
    refine v_get O fd_X7_count_234 (g25 O (by decide)) (cg_0 G _) rfl dX7_count_103 ?_
    exact v_iret O dX7_count_106 e
  refine v_if (c := a0 = 8) e (fun c8 e => ?_) (fun c8 e => ?_)
  · refine v_tabIn O dX7_count_1 c8 (by decide) (by decide) (by first | rfl | decide) 107 (by decide) ?_
    refine v_aload_n O dX7_count_107 0 rfl rfl ?_
    refine v_get O fd_X7_count_19 (g25 O (by decide)) (cg_0 G _) rfl dX7_count_108 ?_
    refine v_get O fd_X7_count_94 (g25 O (by decide)) (cg_4 G _) rfl dX7_count_111 ?_
    exact v_iret O dX7_count_114 e
  refine v_tabOut O dX7_count_1 (by have q0 := lv_neT (a := 0) c0 rfl; have q1 := lv_neT (a := 1) c1 rfl; have q2 := lv_neT (a := 2) c2 rfl; have q3 := lv_neT (a := 3) c3 rfl; have q4 := lv_neT (a := 4) c4 rfl; have q5 := lv_neT (a := 5) c5 rfl; have q6 := lv_neT (a := 6) c6 rfl; have q7 := lv_neT (a := 7) c7 rfl; have q8 := lv_neT (a := 8) c8 rfl; omega) 115 (by decide) ?_
  refine v_bipush (v := (-3)) O dX7_count_115 (by decide) ?_
  exact v_iret O dX7_count_117 e
/-! ===== X7 erase ===== -/
abbrev rm_X7_erase : Room := { frames := 0, cells := 0, slots := 0, locals := 0 }
theorem fd_X7_erase_19 : FdO wsX7_erase RX7 19 RX7 TX7 15 7 1 := ⟨by decide +kernel, rfl, by decide, by decide +kernel⟩
theorem fd_X7_erase_94 : FdO wsX7_erase RX7 94 RX6 TX6 4 6 1 := ⟨by decide +kernel, rfl, by decide, by decide +kernel⟩
set_option maxRecDepth 20000 in
theorem f_X7_erase_ok {l : Launch} {G : Gx} {N : Nat} {h : Hp} {z : Rs} (e : f_X7_erase N h = some z) : CI l G yX7_erase wsX7_erase rm_X7_erase [.ref (G.1 0)] h z := by
  refine m_int _ (by decide) rfl [(0, .ref (G.1 0))] rfl (Nat.le_of_ble_eq_true rfl) (fun X O => ?_)
  unfold f_X7_erase at e
  refine v_aload_n O dX7_erase_0 0 rfl rfl ?_
  refine v_get O fd_X7_erase_19 (g25 O (by decide)) (cg_0 G _) rfl dX7_erase_1 ?_
  refine v_get O fd_X7_erase_94 (g25 O (by decide)) (cg_4 G _) rfl dX7_erase_4 ?_
  refine v_istore_n O dX7_erase_7 rfl (by decide) (fun x1 => [(1, .int x1), (0, .ref (G.1 0))]) (fun _ => rfl) e (fun x1 e => ?_)
  refine v_aload_n O dX7_erase_8 1 rfl rfl ?_
  refine v_get O fd_X7_erase_19 (g25 O (by decide)) (cg_0 G _) rfl dX7_erase_9 ?_
  refine v_iconst (v := 0) O dX7_erase_12 (by decide) ?_
  refine v_put O fd_X7_erase_94 fp_X6_1 (g25 O (by decide)) (cg_4 G _) (Nat.le_of_ble_eq_true rfl) (cs_4_1 G _ _) dX7_erase_13 e (fun h2 e => ?_)
  refine v_iload_n O dX7_erase_16 0 rfl rfl ?_
  exact v_iret O dX7_erase_17 e
/-! ===== X4 greatestDepth ===== -/
abbrev rm_X4_greatestDepth : Room := { frames := 1, cells := 0, slots := 0, locals := 21 }
theorem fd_X4_greatestDepth_32 : FdO wsX4_greatestDepth RX4 32 RX4 TX4 8 4 6 := ⟨by decide +kernel, rfl, by decide, by decide +kernel⟩
theorem cw_X4_greatestDepth_X4_depthOf : CwO rm_X4_greatestDepth yX4_depthOf wsX4_depthOf cX4_depthOf 2 (some .int) rm_X4_depthOf 1 := ⟨⟨_, rfl⟩, rfl, rfl, by decide +kernel, by decide, by decide⟩
set_option maxRecDepth 20000 in
theorem f_X4_greatestDepth_ok {l : Launch} {G : Gx} {N : Nat} {h : Hp} {z : Rs} (e : f_X4_greatestDepth N h = some z) : CI l G yX4_greatestDepth wsX4_greatestDepth rm_X4_greatestDepth [.ref (G.1 15)] h z := by
  refine m_int _ (by decide) rfl [(0, .ref (G.1 15))] rfl (Nat.le_of_ble_eq_true rfl) (fun X O => ?_)
  unfold f_X4_greatestDepth at e
  refine v_aload_n O dX4_greatestDepth_0 0 rfl rfl ?_
  refine v_aload_n O dX4_greatestDepth_1 0 rfl rfl ?_
  refine v_get O fd_X4_greatestDepth_32 (g25 O (by decide)) (cg_15 G _) rfl dX4_greatestDepth_2 ?_
  refine v_iconst (v := 1) O dX4_greatestDepth_5 (by decide) ?_
  refine v_isub O dX4_greatestDepth_6 ?_
  refine v_cVi O [.int ((h.1 15 6) - 1)] [] gX4_greatestDepth_X4_depthOf cw_X4_greatestDepth_X4_depthOf rfl rfl (g25 O (by decide)) (cg_15 G _) rfl rfl (Nat.le_of_ble_eq_true rfl) dX4_greatestDepth_7 e (fun _ e9 => f_X4_depthOf_ok e9) (fun r1 h2 e => ?_)
  exact v_iret O dX4_greatestDepth_10 e
/-! ===== X4 howMany ===== -/
abbrev rm_X4_howMany : Room := { frames := 0, cells := 0, slots := 0, locals := 0 }
theorem fd_X4_howMany_21 : FdO wsX4_howMany RX4 21 RX4 TX4 8 4 5 := ⟨by decide +kernel, rfl, by decide, by decide +kernel⟩
theorem fd_X4_howMany_32 : FdO wsX4_howMany RX4 32 RX4 TX4 8 4 6 := ⟨by decide +kernel, rfl, by decide, by decide +kernel⟩
set_option maxRecDepth 20000 in
theorem f_X4_howMany_b25_ok {X : Cx} {G : Gx} {z : Rs} (O : Ok X G cX4_howMany RX4 4 wsX4_howMany (some .int) rm_X4_howMany) (N : Nat) (k4 : Int32 → Int32 → Int32 → Hp → Option Rs) (hk4 : ∀ (v1 : Int32) (v2 : Int32) (v3 : Int32) (h : Hp), k4 v1 v2 v3 h = some z → V X G 4 (QI X G z) h 4 [(0, .ref (G.1 15)), (1, .int v1), (2, .int v2), (3, .int v3)] []) (v1 : Int32) (v2 : Int32) (v3 : Int32) (h : Hp) (e : f_X4_howMany_b25 N k4 v1 v2 v3 h = some z) : V X G 4 (QI X G z) h 25 [(0, .ref (G.1 15)), (1, .int v1), (2, .int v2), (3, .int v3)] [] := by
  unfold f_X4_howMany_b25 at e
  refine v_iinc (v := 1) O dX4_howMany_25 3 rfl (by decide) (by decide) (fun x1 => [(3, .int x1), (0, .ref (G.1 15)), (1, .int v1), (2, .int v2)]) (fun _ => rfl) e (fun x1 e => ?_)
  refine v_goto O dX4_howMany_28 4 (by decide) ?_
  refine v_sub [1, 2, 3, 0] rfl ?_
  exact hk4 _ _ _ _ e
set_option maxRecDepth 20000 in
theorem f_X4_howMany_b4_ok {X : Cx} {G : Gx} {z : Rs} (O : Ok X G cX4_howMany RX4 4 wsX4_howMany (some .int) rm_X4_howMany) (N : Nat) (k4 : Int32 → Int32 → Int32 → Hp → Option Rs) (hk4 : ∀ (v1 : Int32) (v2 : Int32) (v3 : Int32) (h : Hp), k4 v1 v2 v3 h = some z → V X G 4 (QI X G z) h 4 [(0, .ref (G.1 15)), (1, .int v1), (2, .int v2), (3, .int v3)] []) (v1 : Int32) (v2 : Int32) (v3 : Int32) (h : Hp) (e : f_X4_howMany_b4 N k4 v1 v2 v3 h = some z) : V X G 4 (QI X G z) h 4 [(0, .ref (G.1 15)), (1, .int v1), (2, .int v2), (3, .int v3)] [] := by
  unfold f_X4_howMany_b4 at e
  refine v_iload_n O dX4_howMany_4 3 rfl rfl ?_
  refine v_aload_n O dX4_howMany_5 0 rfl rfl ?_
  refine v_get O fd_X4_howMany_32 (g25 O (by decide)) (cg_15 G _) rfl dX4_howMany_6 ?_
  refine v_icmp_ge O dX4_howMany_9 31 (by decide) e (fun e => ?_) (fun e => ?_)
  · refine v_iload_n O dX4_howMany_31 2 rfl rfl ?_
    exact v_iret O dX4_howMany_32 e
  · refine v_aload_n O dX4_howMany_12 0 rfl rfl ?_
    refine v_get O fd_X4_howMany_21 (g25 O (by decide)) (cg_15 G _) rfl dX4_howMany_13 ?_
    refine v_iload_n O dX4_howMany_16 3 rfl rfl ?_
    refine v_iald O (g25 O (by decide)) (cg_19 G _) dX4_howMany_17 e (fun e => ?_)
    refine v_iload_n O dX4_howMany_18 1 rfl rfl ?_
    refine v_icmp_ne O dX4_howMany_19 25 (by decide) e (fun e => ?_) (fun e => ?_)
    · exact f_X4_howMany_b25_ok O N k4 hk4 _ _ _ _ e
    · refine v_iinc (v := 1) O dX4_howMany_22 2 rfl (by decide) (by decide) (fun x1 => [(2, .int x1), (0, .ref (G.1 15)), (1, .int v1), (3, .int v3)]) (fun _ => rfl) e (fun x1 e => ?_)
      refine v_sub [1, 2, 0, 3] rfl ?_
      exact f_X4_howMany_b25_ok O N k4 hk4 _ _ _ _ e
theorem f_X4_howMany_l4_ok {X : Cx} {G : Gx} {z : Rs} (O : Ok X G cX4_howMany RX4 4 wsX4_howMany (some .int) rm_X4_howMany) (N : Nat) : ∀ (n : Nat) (v1 : Int32) (v2 : Int32) (v3 : Int32) (h : Hp), f_X4_howMany_l4 N n v1 v2 v3 h = some z → V X G 4 (QI X G z) h 4 [(0, .ref (G.1 15)), (1, .int v1), (2, .int v2), (3, .int v3)] [] := by
  intro n
  induction n with
  | zero => intro v1 v2 v3 h e; cases e
  | succ n ih => intro v1 v2 v3 h e; exact f_X4_howMany_b4_ok O N _ ih v1 v2 v3 h e
set_option maxRecDepth 20000 in
theorem f_X4_howMany_ok {l : Launch} {G : Gx} {N : Nat} {a0 : Int32} {h : Hp} {z : Rs} (e : f_X4_howMany N a0 h = some z) : CI l G yX4_howMany wsX4_howMany rm_X4_howMany [.ref (G.1 15), .int a0] h z := by
  refine m_int _ (by decide) rfl [(0, .ref (G.1 15)), (1, .int a0)] rfl (Nat.le_of_ble_eq_true rfl) (fun X O => ?_)
  unfold f_X4_howMany at e
  refine v_iconst (v := 0) O dX4_howMany_0 (by decide) ?_
  refine v_istore_n O dX4_howMany_1 rfl (by decide) (fun x1 => [(2, .int x1), (0, .ref (G.1 15)), (1, .int a0)]) (fun _ => rfl) e (fun x1 e => ?_)
  refine v_iconst (v := 0) O dX4_howMany_2 (by decide) ?_
  refine v_istore_n O dX4_howMany_3 rfl (by decide) (fun x2 => [(3, .int x2), (2, .int x1), (0, .ref (G.1 15)), (1, .int a0)]) (fun _ => rfl) e (fun x2 e => ?_)
  refine v_sub [2, 3, 1, 0] rfl ?_
  exact f_X4_howMany_l4_ok O N N _ _ _ _ e
/-! ===== X7 farthest ===== -/
abbrev rm_X7_farthest : Room := { frames := 6, cells := 0, slots := 0, locals := 154 }
theorem fd_X7_farthest_10 : FdO wsX7_farthest RX7 10 RX7 TX7 15 7 0 := ⟨by decide +kernel, rfl, by decide, by decide +kernel⟩
theorem fd_X7_farthest_62 : FdO wsX7_farthest RX7 62 RX7 TX7 15 7 6 := ⟨by decide +kernel, rfl, by decide, by decide +kernel⟩
theorem fd_X7_farthest_126 : FdO wsX7_farthest RX7 126 RX5 TX5 9 5 2 := ⟨by decide +kernel, rfl, by decide, by decide +kernel⟩
theorem fd_X7_farthest_133 : FdO wsX7_farthest RX7 133 RX7 TX7 15 7 13 := ⟨by decide +kernel, rfl, by decide, by decide +kernel⟩
theorem fd_X7_farthest_166 : FdO wsX7_farthest RX7 166 RX7 TX7 15 7 14 := ⟨by decide +kernel, rfl, by decide, by decide +kernel⟩
theorem cw_X7_farthest_X4_explore : CwO rm_X7_farthest yX4_explore wsX4_explore cX4_explore 8 (none) rm_X4_explore 3 := ⟨⟨_, rfl⟩, rfl, rfl, by decide +kernel, by decide, by decide⟩
theorem cw_X7_farthest_X4_greatestDepth : CwO rm_X7_farthest yX4_greatestDepth wsX4_greatestDepth cX4_greatestDepth 1 (some .int) rm_X4_greatestDepth 0 := ⟨⟨_, rfl⟩, rfl, rfl, by decide +kernel, by decide, by decide⟩
theorem cw_X7_farthest_X4_howMany : CwO rm_X7_farthest yX4_howMany wsX4_howMany cX4_howMany 4 (some .int) rm_X4_howMany 1 := ⟨⟨_, rfl⟩, rfl, rfl, by decide +kernel, by decide, by decide⟩
set_option maxRecDepth 20000 in
theorem f_X7_farthest_b9_ok {X : Cx} {G : Gx} {z : Rs} (O : Ok X G cX7_farthest RX7 3 wsX7_farthest (some .int) rm_X7_farthest) (N : Nat) (h : Hp) (e : f_X7_farthest_b9 N h = some z) : V X G 3 (QI X G z) h 9 [] [] := by
  unfold f_X7_farthest_b9 at e
  refine v_bipush (v := (-3)) O dX7_farthest_9 (by decide) ?_
  exact v_iret O dX7_farthest_11 e
set_option maxRecDepth 20000 in
theorem f_X7_farthest_b58_ok {X : Cx} {G : Gx} {z : Rs} (O : Ok X G cX7_farthest RX7 3 wsX7_farthest (some .int) rm_X7_farthest) (N : Nat) (s0 : Int32) (h : Hp) (e : f_X7_farthest_b58 N s0 h = some z) : V X G 3 (QI X G z) h 58 [] [.int s0] := by
  unfold f_X7_farthest_b58 at e
  exact v_iret O dX7_farthest_58 e
set_option maxRecDepth 20000 in
theorem f_X7_farthest_ok {l : Launch} {G : Gx} {N : Nat} {a0 : Int32} {h : Hp} {z : Rs} (e : f_X7_farthest N a0 h = some z) : CI l G yX7_farthest wsX7_farthest rm_X7_farthest [.ref (G.1 0), .int a0] h z := by
  refine m_int _ (by decide) rfl [(0, .ref (G.1 0)), (1, .int a0)] rfl (Nat.le_of_ble_eq_true rfl) (fun X O => ?_)
  unfold f_X7_farthest at e
  refine v_iload_n O dX7_farthest_0 1 rfl rfl ?_
  refine v_if_lt O dX7_farthest_1 9 (by decide) e (fun e => ?_) (fun e => ?_)
  · refine v_sub [] rfl ?_
    exact f_X7_farthest_b9_ok O N _ e
  · refine v_iload_n O dX7_farthest_4 1 rfl rfl ?_
    refine v_iconst (v := 1) O dX7_farthest_5 (by decide) ?_
    refine v_icmp_le O dX7_farthest_6 12 (by decide) e (fun e => ?_) (fun e => ?_)
    · refine v_aload_n O dX7_farthest_12 0 rfl rfl ?_
      refine v_get O fd_X7_farthest_62 (g25 O (by decide)) (cg_0 G _) rfl dX7_farthest_13 ?_
      refine v_aload_n O dX7_farthest_16 0 rfl rfl ?_
      refine v_get O fd_X7_farthest_133 (g25 O (by decide)) (cg_0 G _) rfl dX7_farthest_17 ?_
      refine v_aload_n O dX7_farthest_20 0 rfl rfl ?_
      refine v_get O fd_X7_farthest_166 (g25 O (by decide)) (cg_0 G _) rfl dX7_farthest_21 ?_
      refine v_aload_n O dX7_farthest_24 0 rfl rfl ?_
      refine v_get O fd_X7_farthest_10 (g25 O (by decide)) (cg_0 G _) rfl dX7_farthest_25 ?_
      refine v_get O fd_X7_farthest_126 (g25 O (by decide)) (cg_1 G _) rfl dX7_farthest_28 ?_
      refine v_cVv O [.int (h.1 0 13), .int (h.1 0 14), .int (h.1 1 2)] [] gX7_farthest_X4_explore cw_X7_farthest_X4_explore rfl rfl (g25 O (by decide)) (cg_15 G _) rfl rfl (Nat.le_of_ble_eq_true rfl) dX7_farthest_31 e (fun _ e9 => f_X4_explore_ok e9) (fun _ h1 e => ?_)
      refine v_aload_n O dX7_farthest_34 0 rfl rfl ?_
      refine v_get O fd_X7_farthest_62 (g25 O (by decide)) (cg_0 G _) rfl dX7_farthest_35 ?_
      refine v_cVi O [] [] gX7_farthest_X4_greatestDepth cw_X7_farthest_X4_greatestDepth rfl rfl (g25 O (by decide)) (cg_15 G _) rfl rfl (Nat.le_of_ble_eq_true rfl) dX7_farthest_38 e (fun _ e9 => f_X4_greatestDepth_ok e9) (fun r2 h3 e => ?_)
      refine v_istore_n O dX7_farthest_41 rfl (by decide) (fun x4 => [(2, .int x4), (0, .ref (G.1 0)), (1, .int a0)]) (fun _ => rfl) e (fun x4 e => ?_)
      refine v_iload_n O dX7_farthest_42 2 rfl rfl ?_
      refine v_if_ne O dX7_farthest_43 50 (by decide) e (fun e => ?_) (fun e => ?_)
      · refine v_aload_n O dX7_farthest_50 1 rfl rfl ?_
        refine v_get O fd_X7_farthest_62 (g25 O (by decide)) (cg_0 G _) rfl dX7_farthest_51 ?_
        refine v_iload_n O dX7_farthest_54 0 rfl rfl ?_
        refine v_cVi O [.int x4] [] gX7_farthest_X4_howMany cw_X7_farthest_X4_howMany rfl rfl (g25 O (by decide)) (cg_15 G _) rfl rfl (Nat.le_of_ble_eq_true rfl) dX7_farthest_55 e (fun _ e9 => f_X4_howMany_ok e9) (fun r5 h6 e => ?_)
        refine v_sub [] rfl ?_
        exact f_X7_farthest_b58_ok O N _ _ e
      · refine v_iload_n O dX7_farthest_46 0 rfl rfl ?_
        refine v_goto O dX7_farthest_47 58 (by decide) ?_
        refine v_sub [] rfl ?_
        exact f_X7_farthest_b58_ok O N _ _ e
    · refine v_sub [] rfl ?_
      exact f_X7_farthest_b9_ok O N _ e
/-! ===== X7 fault ===== -/
abbrev rm_X7_fault : Room := { frames := 7, cells := 0, slots := 0, locals := 150 }
theorem fd_X7_fault_10 : FdO wsX7_fault RX7 10 RX7 TX7 15 7 0 := ⟨by decide +kernel, rfl, by decide, by decide +kernel⟩
theorem fd_X7_fault_28 : FdO wsX7_fault RX7 28 RX7 TX7 15 7 2 := ⟨by decide +kernel, rfl, by decide, by decide +kernel⟩
theorem fd_X7_fault_107 : FdO wsX7_fault RX7 107 RX3 TX3 4 3 1 := ⟨by decide +kernel, rfl, by decide, by decide +kernel⟩
theorem cw_X7_fault_X3_read : CwO rm_X7_fault yX3_read wsX3_read cX3_read 3 (none) rm_X3_read 1 := ⟨⟨_, rfl⟩, rfl, rfl, by decide +kernel, by decide, by decide⟩
set_option maxRecDepth 20000 in
theorem f_X7_fault_ok {l : Launch} {G : Gx} {N : Nat} {h : Hp} {z : Rs} (e : f_X7_fault N h = some z) : CI l G yX7_fault wsX7_fault rm_X7_fault [.ref (G.1 0)] h z := by
  refine m_int _ (by decide) rfl [(0, .ref (G.1 0))] rfl (Nat.le_of_ble_eq_true rfl) (fun X O => ?_)
  unfold f_X7_fault at e
  refine v_aload_n O dX7_fault_0 0 rfl rfl ?_
  refine v_get O fd_X7_fault_28 (g25 O (by decide)) (cg_0 G _) rfl dX7_fault_1 ?_
  refine v_aload_n O dX7_fault_4 0 rfl rfl ?_
  refine v_get O fd_X7_fault_10 (g25 O (by decide)) (cg_0 G _) rfl dX7_fault_5 ?_
  refine v_cVv O [.ref (G.1 1)] [] gX7_fault_X3_read cw_X7_fault_X3_read rfl rfl (g25 O (by decide)) (cg_6 G _) rfl rfl (Nat.le_of_ble_eq_true rfl) dX7_fault_8 e (fun _ e9 => f_X3_read_ok e9) (fun _ h1 e => ?_)
  refine v_aload_n O dX7_fault_11 0 rfl rfl ?_
  refine v_get O fd_X7_fault_28 (g25 O (by decide)) (cg_0 G _) rfl dX7_fault_12 ?_
  refine v_get O fd_X7_fault_107 (g25 O (by decide)) (cg_6 G _) rfl dX7_fault_15 ?_
  exact v_iret O dX7_fault_18 e
/-! ===== X7 fewest ===== -/
abbrev rm_X7_fewest : Room := { frames := 6, cells := 0, slots := 0, locals := 154 }
theorem fd_X7_fewest_10 : FdO wsX7_fewest RX7 10 RX7 TX7 15 7 0 := ⟨by decide +kernel, rfl, by decide, by decide +kernel⟩
theorem fd_X7_fewest_62 : FdO wsX7_fewest RX7 62 RX7 TX7 15 7 6 := ⟨by decide +kernel, rfl, by decide, by decide +kernel⟩
theorem fd_X7_fewest_126 : FdO wsX7_fewest RX7 126 RX5 TX5 9 5 2 := ⟨by decide +kernel, rfl, by decide, by decide +kernel⟩
theorem fd_X7_fewest_133 : FdO wsX7_fewest RX7 133 RX7 TX7 15 7 13 := ⟨by decide +kernel, rfl, by decide, by decide +kernel⟩
theorem fd_X7_fewest_166 : FdO wsX7_fewest RX7 166 RX7 TX7 15 7 14 := ⟨by decide +kernel, rfl, by decide, by decide +kernel⟩
theorem cw_X7_fewest_X4_depthOf : CwO rm_X7_fewest yX4_depthOf wsX4_depthOf cX4_depthOf 2 (some .int) rm_X4_depthOf 1 := ⟨⟨_, rfl⟩, rfl, rfl, by decide +kernel, by decide, by decide⟩
theorem cw_X7_fewest_X4_explore : CwO rm_X7_fewest yX4_explore wsX4_explore cX4_explore 8 (none) rm_X4_explore 3 := ⟨⟨_, rfl⟩, rfl, rfl, by decide +kernel, by decide, by decide⟩
theorem cw_X7_fewest_X4_firstHome : CwO rm_X7_fewest yX4_firstHome wsX4_firstHome cX4_firstHome 2 (some .int) rm_X4_firstHome 0 := ⟨⟨_, rfl⟩, rfl, rfl, by decide +kernel, by decide, by decide⟩
set_option maxRecDepth 20000 in
theorem f_X7_fewest_ok {l : Launch} {G : Gx} {N : Nat} {h : Hp} {z : Rs} (e : f_X7_fewest N h = some z) : CI l G yX7_fewest wsX7_fewest rm_X7_fewest [.ref (G.1 0)] h z := by
  refine m_int _ (by decide) rfl [(0, .ref (G.1 0))] rfl (Nat.le_of_ble_eq_true rfl) (fun X O => ?_)
  unfold f_X7_fewest at e
  refine v_aload_n O dX7_fewest_0 0 rfl rfl ?_
  refine v_get O fd_X7_fewest_62 (g25 O (by decide)) (cg_0 G _) rfl dX7_fewest_1 ?_
  refine v_aload_n O dX7_fewest_4 0 rfl rfl ?_
  refine v_get O fd_X7_fewest_133 (g25 O (by decide)) (cg_0 G _) rfl dX7_fewest_5 ?_
  refine v_aload_n O dX7_fewest_8 0 rfl rfl ?_
  refine v_get O fd_X7_fewest_166 (g25 O (by decide)) (cg_0 G _) rfl dX7_fewest_9 ?_
  refine v_aload_n O dX7_fewest_12 0 rfl rfl ?_
  refine v_get O fd_X7_fewest_10 (g25 O (by decide)) (cg_0 G _) rfl dX7_fewest_13 ?_
  refine v_get O fd_X7_fewest_126 (g25 O (by decide)) (cg_1 G _) rfl dX7_fewest_16 ?_
  refine v_cVv O [.int (h.1 0 13), .int (h.1 0 14), .int (h.1 1 2)] [] gX7_fewest_X4_explore cw_X7_fewest_X4_explore rfl rfl (g25 O (by decide)) (cg_15 G _) rfl rfl (Nat.le_of_ble_eq_true rfl) dX7_fewest_19 e (fun _ e9 => f_X4_explore_ok e9) (fun _ h1 e => ?_)
  refine v_aload_n O dX7_fewest_22 0 rfl rfl ?_
  refine v_get O fd_X7_fewest_62 (g25 O (by decide)) (cg_0 G _) rfl dX7_fewest_23 ?_
  refine v_aload_n O dX7_fewest_26 0 rfl rfl ?_
  refine v_get O fd_X7_fewest_62 (g25 O (by decide)) (cg_0 G _) rfl dX7_fewest_27 ?_
  refine v_cVi O [] [.ref (G.1 15)] gX7_fewest_X4_firstHome cw_X7_fewest_X4_firstHome rfl rfl (g25 O (by decide)) (cg_15 G _) rfl rfl (Nat.le_of_ble_eq_true rfl) dX7_fewest_30 e (fun _ e9 => f_X4_firstHome_ok e9) (fun r2 h3 e => ?_)
  refine v_cVi O [.int r2] [] gX7_fewest_X4_depthOf cw_X7_fewest_X4_depthOf rfl rfl (g25 O (by decide)) (cg_15 G _) rfl rfl (Nat.le_of_ble_eq_true rfl) dX7_fewest_33 e (fun _ e9 => f_X4_depthOf_ok e9) (fun r4 h5 e => ?_)
  exact v_iret O dX7_fewest_36 e
/-! ===== X1 allowed ===== -/
abbrev rm_X1_allowed : Room := { frames := 4, cells := 0, slots := 0, locals := 100 }
theorem cw_X1_allowed_X1_mayStand : CwO rm_X1_allowed yX1_mayStand wsX1_mayStand cX1_mayStand 3 (some .boolean) rm_X1_mayStand 2 := ⟨⟨_, rfl⟩, rfl, rfl, by decide +kernel, by decide, by decide⟩
theorem cw_X1_allowed_X1_openTo : CwO rm_X1_allowed yX1_openTo wsX1_openTo cX1_openTo 6 (some .int) rm_X1_openTo 4 := ⟨⟨_, rfl⟩, rfl, rfl, by decide +kernel, by decide, by decide⟩
theorem cw_X1_allowed_X7_bit : CwO rm_X1_allowed yX7_bit wsX7_bit cX7_bit 2 (some .int) rm_X7_bit 2 := ⟨⟨_, rfl⟩, rfl, rfl, by decide +kernel, by decide, by decide⟩
theorem cw_X1_allowed_X7_moved : CwO rm_X1_allowed yX7_moved wsX7_moved cX7_moved 3 (some .int) rm_X7_moved 3 := ⟨⟨_, rfl⟩, rfl, rfl, by decide +kernel, by decide, by decide⟩
theorem sn_X1_allowed_X7_bit : Cond.static yX7_bit ∈ wsX1_allowed ∧ Cond.initialized yX7_bit.cls ∈ wsX1_allowed := ⟨by decide +kernel, by decide +kernel⟩
theorem sn_X1_allowed_X7_moved : Cond.static yX7_moved ∈ wsX1_allowed ∧ Cond.initialized yX7_moved.cls ∈ wsX1_allowed := ⟨by decide +kernel, by decide +kernel⟩
set_option maxRecDepth 20000 in
theorem f_X1_allowed_b60_ok {X : Cx} {G : Gx} {z : Rs} (O : Ok X G cX1_allowed RX1 8 wsX1_allowed (some .int) rm_X1_allowed) (N : Nat) (k17 : Int32 → Int32 → Int32 → Int32 → Int32 → Int32 → Hp → Option Rs) (hk17 : ∀ (v1 : Int32) (v2 : Int32) (v4 : Int32) (v5 : Int32) (v6 : Int32) (v7 : Int32) (h : Hp), k17 v1 v2 v4 v5 v6 v7 h = some z → V X G 8 (QI X G z) h 17 [(0, .ref (G.1 12)), (1, .int v1), (2, .int v2), (4, .int v4), (5, .int v5), (6, .int v6), (7, .int v7)] []) (v1 : Int32) (v2 : Int32) (v4 : Int32) (v5 : Int32) (v6 : Int32) (v7 : Int32) (h : Hp) (e : f_X1_allowed_b60 N k17 v1 v2 v4 v5 v6 v7 h = some z) : V X G 8 (QI X G z) h 60 [(0, .ref (G.1 12)), (1, .int v1), (2, .int v2), (4, .int v4), (5, .int v5), (6, .int v6), (7, .int v7)] [] := by
  unfold f_X1_allowed_b60 at e
  refine v_iinc (v := 1) O dX1_allowed_60 6 rfl (by decide) (by decide) (fun x1 => [(7, .int x1), (0, .ref (G.1 12)), (1, .int v1), (2, .int v2), (4, .int v4), (5, .int v5), (6, .int v6)]) (fun _ => rfl) e (fun x1 e => ?_)
  refine v_goto O dX1_allowed_63 17 (by decide) ?_
  refine v_sub [1, 2, 3, 4, 5, 6, 0] rfl ?_
  exact hk17 _ _ _ _ _ _ _ e
set_option maxRecDepth 20000 in
theorem f_X1_allowed_b17_ok {X : Cx} {G : Gx} {z : Rs} (O : Ok X G cX1_allowed RX1 8 wsX1_allowed (some .int) rm_X1_allowed) (N : Nat) (k17 : Int32 → Int32 → Int32 → Int32 → Int32 → Int32 → Hp → Option Rs) (hk17 : ∀ (v1 : Int32) (v2 : Int32) (v4 : Int32) (v5 : Int32) (v6 : Int32) (v7 : Int32) (h : Hp), k17 v1 v2 v4 v5 v6 v7 h = some z → V X G 8 (QI X G z) h 17 [(0, .ref (G.1 12)), (1, .int v1), (2, .int v2), (4, .int v4), (5, .int v5), (6, .int v6), (7, .int v7)] []) (v1 : Int32) (v2 : Int32) (v4 : Int32) (v5 : Int32) (v6 : Int32) (v7 : Int32) (h : Hp) (e : f_X1_allowed_b17 N k17 v1 v2 v4 v5 v6 v7 h = some z) : V X G 8 (QI X G z) h 17 [(0, .ref (G.1 12)), (1, .int v1), (2, .int v2), (4, .int v4), (5, .int v5), (6, .int v6), (7, .int v7)] [] := by
  unfold f_X1_allowed_b17 at e
  refine v_iload O dX1_allowed_17 6 rfl ?_
  refine v_bipush (v := 12) O dX1_allowed_19 (by decide) ?_
  refine v_icmp_ge O dX1_allowed_21 66 (by decide) e (fun e => ?_) (fun e => ?_)
  · refine v_iload O dX1_allowed_66 5 rfl ?_
    exact v_iret O dX1_allowed_68 e
  · refine v_iload O dX1_allowed_24 4 rfl ?_
    refine v_iload O dX1_allowed_26 6 rfl ?_
    refine v_cNi O [.int v5, .int v7] [] 2 rfl gX1_allowed_X7_bit_n23 sn_X1_allowed_X7_bit.1 sn_X1_allowed_X7_bit.2 cw_X1_allowed_X7_bit rfl rfl (Nat.le_of_ble_eq_true rfl) dX1_allowed_28 e (fun _ e9 => f_X7_bit_ok e9) (fun r1 h2 e => ?_)
    refine v_iconst (v := 1) O dX1_allowed_31 (by decide) ?_
    refine v_icmp_ne O dX1_allowed_32 60 (by decide) e (fun e => ?_) (fun e => ?_)
    · exact f_X1_allowed_b60_ok O N k17 hk17 _ _ _ _ _ _ _ e
    · refine v_aload_n O dX1_allowed_35 0 rfl rfl ?_
      refine v_iload_n O dX1_allowed_36 2 rfl rfl ?_
      refine v_iload_n O dX1_allowed_37 1 rfl rfl ?_
      refine v_iload O dX1_allowed_38 6 rfl ?_
      refine v_cNi O [.int v2, .int v1, .int v7] [.ref (G.1 12)] 3 rfl gX1_allowed_X7_moved_n27 sn_X1_allowed_X7_moved.1 sn_X1_allowed_X7_moved.2 cw_X1_allowed_X7_moved rfl rfl (Nat.le_of_ble_eq_true rfl) dX1_allowed_40 e (fun _ e9 => f_X7_moved_ok e9) (fun r3 h4 e => ?_)
      refine v_iload O dX1_allowed_43 3 rfl ?_
      refine v_cVi O [.int r3, .int v4] [] gX1_allowed_X1_mayStand cw_X1_allowed_X1_mayStand rfl rfl (g25 O (by decide)) (cg_12 G _) rfl rfl (Nat.le_of_ble_eq_true rfl) dX1_allowed_45 e (fun _ e9 => f_X1_mayStand_ok e9) (fun r5 h6 e => ?_)
      refine v_if_eq O dX1_allowed_48 60 (by decide) e (fun e => ?_) (fun e => ?_)
      · exact f_X1_allowed_b60_ok O N k17 hk17 _ _ _ _ _ _ _ e
      · refine v_iload O dX1_allowed_51 5 rfl ?_
        refine v_iconst (v := 1) O dX1_allowed_53 (by decide) ?_
        refine v_iload O dX1_allowed_54 6 rfl ?_
        refine v_ishl O dX1_allowed_56 ?_
        refine v_ior O dX1_allowed_57 ?_
        refine v_istore O dX1_allowed_58 (by decide) (fun x7 => [(6, .int x7), (0, .ref (G.1 12)), (1, .int v1), (2, .int v2), (4, .int v4), (5, .int v5), (7, .int v7)]) (fun _ => rfl) e (fun x7 e => ?_)
        refine v_sub [1, 2, 3, 4, 5, 0, 6] rfl ?_
        exact f_X1_allowed_b60_ok O N k17 hk17 _ _ _ _ _ _ _ e
theorem f_X1_allowed_l17_ok {X : Cx} {G : Gx} {z : Rs} (O : Ok X G cX1_allowed RX1 8 wsX1_allowed (some .int) rm_X1_allowed) (N : Nat) : ∀ (n : Nat) (v1 : Int32) (v2 : Int32) (v4 : Int32) (v5 : Int32) (v6 : Int32) (v7 : Int32) (h : Hp), f_X1_allowed_l17 N n v1 v2 v4 v5 v6 v7 h = some z → V X G 8 (QI X G z) h 17 [(0, .ref (G.1 12)), (1, .int v1), (2, .int v2), (4, .int v4), (5, .int v5), (6, .int v6), (7, .int v7)] [] := by
  intro n
  induction n with
  | zero => intro v1 v2 v4 v5 v6 v7 h e; cases e
  | succ n ih => intro v1 v2 v4 v5 v6 v7 h e; exact f_X1_allowed_b17_ok O N _ ih v1 v2 v4 v5 v6 v7 h e
set_option maxRecDepth 20000 in
theorem f_X1_allowed_ok {l : Launch} {G : Gx} {N : Nat} {a0 : Int32} {a1 : Int32} {a2 : Int32} {a3 : Int32} {h : Hp} {z : Rs} (e : f_X1_allowed N a0 a1 a2 a3 h = some z) : CI l G yX1_allowed wsX1_allowed rm_X1_allowed [.ref (G.1 12), .int a0, .int a1, .int a2, .int a3] h z := by
  refine m_int _ (by decide) rfl [(0, .ref (G.1 12)), (1, .int a0), (2, .int a1), (3, .int a2), (4, .int a3)] rfl (Nat.le_of_ble_eq_true rfl) (fun X O => ?_)
  unfold f_X1_allowed at e
  refine v_aload_n O dX1_allowed_0 0 rfl rfl ?_
  refine v_iload_n O dX1_allowed_1 1 rfl rfl ?_
  refine v_iload_n O dX1_allowed_2 2 rfl rfl ?_
  refine v_iload_n O dX1_allowed_3 3 rfl rfl ?_
  refine v_iload O dX1_allowed_4 4 rfl ?_
  refine v_cVi O [.int a0, .int a1, .int a2, .int a3] [] gX1_allowed_X1_openTo cw_X1_allowed_X1_openTo rfl rfl (g25 O (by decide)) (cg_12 G _) rfl rfl (Nat.le_of_ble_eq_true rfl) dX1_allowed_6 e (fun _ e9 => f_X1_openTo_ok e9) (fun r1 h2 e => ?_)
  refine v_istore O dX1_allowed_9 (by decide) (fun x3 => [(5, .int x3), (0, .ref (G.1 12)), (1, .int a0), (2, .int a1), (3, .int a2), (4, .int a3)]) (fun _ => rfl) e (fun x3 e => ?_)
  refine v_iconst (v := 0) O dX1_allowed_11 (by decide) ?_
  refine v_istore O dX1_allowed_12 (by decide) (fun x4 => [(6, .int x4), (5, .int x3), (0, .ref (G.1 12)), (1, .int a0), (2, .int a1), (3, .int a2), (4, .int a3)]) (fun _ => rfl) e (fun x4 e => ?_)
  refine v_iconst (v := 0) O dX1_allowed_14 (by decide) ?_
  refine v_istore O dX1_allowed_15 (by decide) (fun x5 => [(7, .int x5), (6, .int x4), (5, .int x3), (0, .ref (G.1 12)), (1, .int a0), (2, .int a1), (3, .int a2), (4, .int a3)]) (fun _ => rfl) e (fun x5 e => ?_)
  refine v_sub [3, 4, 5, 7, 2, 1, 0] rfl ?_
  exact f_X1_allowed_l17_ok O N N _ _ _ _ _ _ _ e
/-! ===== X7 hop ===== -/
abbrev rm_X7_hop : Room := { frames := 5, cells := 0, slots := 0, locals := 127 }
theorem fd_X7_hop_10 : FdO wsX7_hop RX7 10 RX7 TX7 15 7 0 := ⟨by decide +kernel, rfl, by decide, by decide +kernel⟩
theorem fd_X7_hop_44 : FdO wsX7_hop RX7 44 RX7 TX7 15 7 4 := ⟨by decide +kernel, rfl, by decide, by decide +kernel⟩
theorem fd_X7_hop_126 : FdO wsX7_hop RX7 126 RX5 TX5 9 5 2 := ⟨by decide +kernel, rfl, by decide, by decide +kernel⟩
theorem fd_X7_hop_133 : FdO wsX7_hop RX7 133 RX7 TX7 15 7 13 := ⟨by decide +kernel, rfl, by decide, by decide +kernel⟩
theorem fd_X7_hop_166 : FdO wsX7_hop RX7 166 RX7 TX7 15 7 14 := ⟨by decide +kernel, rfl, by decide, by decide +kernel⟩
theorem cw_X7_hop_X1_allowed : CwO rm_X7_hop yX1_allowed wsX1_allowed cX1_allowed 8 (some .int) rm_X1_allowed 4 := ⟨⟨_, rfl⟩, rfl, rfl, by decide +kernel, by decide, by decide⟩
theorem cw_X7_hop_X7_bit : CwO rm_X7_hop yX7_bit wsX7_bit cX7_bit 2 (some .int) rm_X7_bit 2 := ⟨⟨_, rfl⟩, rfl, rfl, by decide +kernel, by decide, by decide⟩
theorem cw_X7_hop_X7_moved : CwO rm_X7_hop yX7_moved wsX7_moved cX7_moved 3 (some .int) rm_X7_moved 3 := ⟨⟨_, rfl⟩, rfl, rfl, by decide +kernel, by decide, by decide⟩
theorem cw_X7_hop_X7_noMan : CwO rm_X7_hop yX7_noMan wsX7_noMan cX7_noMan 2 (some .boolean) rm_X7_noMan 1 := ⟨⟨_, rfl⟩, rfl, rfl, by decide +kernel, by decide, by decide⟩
theorem cw_X7_hop_X7_noSquare : CwO rm_X7_hop yX7_noSquare wsX7_noSquare cX7_noSquare 2 (some .boolean) rm_X7_noSquare 1 := ⟨⟨_, rfl⟩, rfl, rfl, by decide +kernel, by decide, by decide⟩
set_option maxRecDepth 20000 in
theorem f_X7_hop_b16_ok {X : Cx} {G : Gx} {z : Rs} (O : Ok X G cX7_hop RX7 3 wsX7_hop (some .int) rm_X7_hop) (N : Nat) (h : Hp) (e : f_X7_hop_b16 N h = some z) : V X G 3 (QI X G z) h 16 [] [] := by
  unfold f_X7_hop_b16 at e
  refine v_bipush (v := (-2)) O dX7_hop_16 (by decide) ?_
  exact v_iret O dX7_hop_18 e
set_option maxRecDepth 20000 in
theorem f_X7_hop_ok {l : Launch} {G : Gx} {N : Nat} {a0 : Int32} {a1 : Int32} {h : Hp} {z : Rs} (e : f_X7_hop N a0 a1 h = some z) : CI l G yX7_hop wsX7_hop rm_X7_hop [.ref (G.1 0), .int a0, .int a1] h z := by
  refine m_int _ (by decide) rfl [(0, .ref (G.1 0)), (1, .int a0), (2, .int a1)] rfl (Nat.le_of_ble_eq_true rfl) (fun X O => ?_)
  unfold f_X7_hop at e
  refine v_aload_n O dX7_hop_0 0 rfl rfl ?_
  refine v_iload_n O dX7_hop_1 1 rfl rfl ?_
  refine v_cVi O [.int a0] [] gX7_hop_X7_noMan cw_X7_hop_X7_noMan rfl rfl (g25 O (by decide)) (cg_0 G _) rfl rfl (Nat.le_of_ble_eq_true rfl) dX7_hop_2 e (fun _ e9 => f_X7_noMan_ok e9) (fun r1 h2 e => ?_)
  refine v_if_ne O dX7_hop_5 16 (by decide) e (fun e => ?_) (fun e => ?_)
  · refine v_sub [] rfl ?_
    exact f_X7_hop_b16_ok O N _ e
  · refine v_aload_n O dX7_hop_8 0 rfl rfl ?_
    refine v_iload_n O dX7_hop_9 2 rfl rfl ?_
    refine v_cVi O [.int a1] [] gX7_hop_X7_noSquare cw_X7_hop_X7_noSquare rfl rfl (g25 O (by decide)) (cg_0 G _) rfl rfl (Nat.le_of_ble_eq_true rfl) dX7_hop_10 e (fun _ e9 => f_X7_noSquare_ok e9) (fun r3 h4 e => ?_)
    refine v_if_eq O dX7_hop_13 19 (by decide) e (fun e => ?_) (fun e => ?_)
    · refine v_aload_n O dX7_hop_19 0 rfl rfl ?_
      refine v_get O fd_X7_hop_44 (g25 O (by decide)) (cg_0 G _) rfl dX7_hop_20 ?_
      refine v_iload_n O dX7_hop_23 1 rfl rfl ?_
      refine v_aload_n O dX7_hop_24 0 rfl rfl ?_
      refine v_get O fd_X7_hop_133 (g25 O (by decide)) (cg_0 G _) rfl dX7_hop_25 ?_
      refine v_aload_n O dX7_hop_28 0 rfl rfl ?_
      refine v_get O fd_X7_hop_166 (g25 O (by decide)) (cg_0 G _) rfl dX7_hop_29 ?_
      refine v_aload_n O dX7_hop_32 0 rfl rfl ?_
      refine v_get O fd_X7_hop_10 (g25 O (by decide)) (cg_0 G _) rfl dX7_hop_33 ?_
      refine v_get O fd_X7_hop_126 (g25 O (by decide)) (cg_1 G _) rfl dX7_hop_36 ?_
      refine v_cVi O [.int a0, .int (h4.1 0 13), .int (h4.1 0 14), .int (h4.1 1 2)] [] gX7_hop_X1_allowed cw_X7_hop_X1_allowed rfl rfl (g25 O (by decide)) (cg_12 G _) rfl rfl (Nat.le_of_ble_eq_true rfl) dX7_hop_39 e (fun _ e9 => f_X1_allowed_ok e9) (fun r5 h6 e => ?_)
      refine v_iload_n O dX7_hop_42 2 rfl rfl ?_
      refine v_cSi O [.int r5, .int a1] [] gX7_hop_X7_bit cw_X7_hop_X7_bit rfl rfl (Nat.le_of_ble_eq_true rfl) dX7_hop_43 e (fun _ e9 => f_X7_bit_ok e9) (fun r7 h8 e => ?_)
      refine v_if_ne O dX7_hop_46 52 (by decide) e (fun e => ?_) (fun e => ?_)
      · refine v_aload_n O dX7_hop_52 0 rfl rfl ?_
        refine v_get O fd_X7_hop_166 (g25 O (by decide)) (cg_0 G _) rfl dX7_hop_53 ?_
        refine v_sipush (v := 9999) O dX7_hop_56 (by decide) ?_
        refine v_icmp_lt O dX7_hop_59 65 (by decide) e (fun e => ?_) (fun e => ?_)
        · refine v_aload_n O dX7_hop_65 0 rfl rfl ?_
          refine v_aload_n O dX7_hop_66 0 rfl rfl ?_
          refine v_get O fd_X7_hop_133 (g25 O (by decide)) (cg_0 G _) rfl dX7_hop_67 ?_
          refine v_iload_n O dX7_hop_70 1 rfl rfl ?_
          refine v_iload_n O dX7_hop_71 2 rfl rfl ?_
          refine v_cSi O [.int (h8.1 0 13), .int a0, .int a1] [.ref (G.1 0)] gX7_hop_X7_moved cw_X7_hop_X7_moved rfl rfl (Nat.le_of_ble_eq_true rfl) dX7_hop_72 e (fun _ e9 => f_X7_moved_ok e9) (fun r9 h10 e => ?_)
          refine v_put O fd_X7_hop_133 fp_X7_13 (g25 O (by decide)) (cg_0 G _) (Nat.le_of_ble_eq_true rfl) (cs_0_13 G _ _) dX7_hop_75 e (fun h11 e => ?_)
          refine v_aload_n O dX7_hop_78 0 rfl rfl ?_
          refine v_dup O dX7_hop_79 rfl ?_
          refine v_get O fd_X7_hop_166 (g25 O (by decide)) (cg_0 G _) rfl dX7_hop_80 ?_
          refine v_iconst (v := 1) O dX7_hop_83 (by decide) ?_
          refine v_iadd O dX7_hop_84 ?_
          refine v_put O fd_X7_hop_166 fp_X7_14 (g25 O (by decide)) (cg_0 G _) (Nat.le_of_ble_eq_true rfl) (cs_0_14 G _ _) dX7_hop_85 e (fun h12 e => ?_)
          refine v_aload_n O dX7_hop_88 0 rfl rfl ?_
          refine v_get O fd_X7_hop_166 (g25 O (by decide)) (cg_0 G _) rfl dX7_hop_89 ?_
          exact v_iret O dX7_hop_92 e
        · refine v_bipush (v := (-5)) O dX7_hop_62 (by decide) ?_
          exact v_iret O dX7_hop_64 e
      · refine v_bipush (v := (-4)) O dX7_hop_49 (by decide) ?_
        exact v_iret O dX7_hop_51 e
    · refine v_sub [] rfl ?_
      exact f_X7_hop_b16_ok O N _ e
/-! ===== X7 judge ===== -/
abbrev rm_X7_judge : Room := { frames := 5, cells := 0, slots := 0, locals := 127 }
theorem fd_X7_judge_10 : FdO wsX7_judge RX7 10 RX7 TX7 15 7 0 := ⟨by decide +kernel, rfl, by decide, by decide +kernel⟩
theorem fd_X7_judge_44 : FdO wsX7_judge RX7 44 RX7 TX7 15 7 4 := ⟨by decide +kernel, rfl, by decide, by decide +kernel⟩
theorem fd_X7_judge_77 : FdO wsX7_judge RX7 77 RX7 TX7 15 7 10 := ⟨by decide +kernel, rfl, by decide, by decide +kernel⟩
theorem fd_X7_judge_80 : FdO wsX7_judge RX7 80 RX7 TX7 15 7 11 := ⟨by decide +kernel, rfl, by decide, by decide +kernel⟩
theorem fd_X7_judge_126 : FdO wsX7_judge RX7 126 RX5 TX5 9 5 2 := ⟨by decide +kernel, rfl, by decide, by decide +kernel⟩
theorem fd_X7_judge_133 : FdO wsX7_judge RX7 133 RX7 TX7 15 7 13 := ⟨by decide +kernel, rfl, by decide, by decide +kernel⟩
theorem fd_X7_judge_166 : FdO wsX7_judge RX7 166 RX7 TX7 15 7 14 := ⟨by decide +kernel, rfl, by decide, by decide +kernel⟩
theorem fd_X7_judge_234 : FdO wsX7_judge RX7 234 RX7 TX7 15 7 12 := ⟨by decide +kernel, rfl, by decide, by decide +kernel⟩
theorem cw_X7_judge_X1_allowed : CwO rm_X7_judge yX1_allowed wsX1_allowed cX1_allowed 8 (some .int) rm_X1_allowed 4 := ⟨⟨_, rfl⟩, rfl, rfl, by decide +kernel, by decide, by decide⟩
theorem cw_X7_judge_X7_bit : CwO rm_X7_judge yX7_bit wsX7_bit cX7_bit 2 (some .int) rm_X7_bit 2 := ⟨⟨_, rfl⟩, rfl, rfl, by decide +kernel, by decide, by decide⟩
theorem cw_X7_judge_X7_moved : CwO rm_X7_judge yX7_moved wsX7_moved cX7_moved 3 (some .int) rm_X7_moved 3 := ⟨⟨_, rfl⟩, rfl, rfl, by decide +kernel, by decide, by decide⟩
set_option maxRecDepth 20000 in
theorem f_X7_judge_b87_ok {X : Cx} {G : Gx} {z : Rs} (O : Ok X G cX7_judge RX7 4 wsX7_judge (some .int) rm_X7_judge) (N : Nat) (h : Hp) (e : f_X7_judge_b87 N h = some z) : V X G 4 (QI X G z) h 87 [] [] := by
  unfold f_X7_judge_b87 at e
  refine v_iconst (v := (-1)) O dX7_judge_87 (by decide) ?_
  exact v_iret O dX7_judge_88 e
set_option maxRecDepth 20000 in
theorem f_X7_judge_b7_ok {X : Cx} {G : Gx} {z : Rs} (O : Ok X G cX7_judge RX7 4 wsX7_judge (some .int) rm_X7_judge) (N : Nat) (k7 : Int32 → Int32 → Hp → Option Rs) (hk7 : ∀ (v1 : Int32) (v2 : Int32) (h : Hp), k7 v1 v2 h = some z → V X G 4 (QI X G z) h 7 [(0, .ref (G.1 0)), (1, .int v1), (2, .int v2)] []) (v1 : Int32) (v2 : Int32) (h : Hp) (e : f_X7_judge_b7 N k7 v1 v2 h = some z) : V X G 4 (QI X G z) h 7 [(0, .ref (G.1 0)), (1, .int v1), (2, .int v2)] [] := by
  unfold f_X7_judge_b7 at e
  refine v_iload_n O dX7_judge_7 2 rfl rfl ?_
  refine v_aload_n O dX7_judge_8 0 rfl rfl ?_
  refine v_get O fd_X7_judge_234 (g25 O (by decide)) (cg_0 G _) rfl dX7_judge_9 ?_
  refine v_icmp_ge O dX7_judge_12 87 (by decide) e (fun e => ?_) (fun e => ?_)
  · refine v_sub [] rfl ?_
    exact f_X7_judge_b87_ok O N _ e
  · refine v_iload_n O dX7_judge_15 2 rfl rfl ?_
    refine v_bipush (v := 12) O dX7_judge_16 (by decide) ?_
    refine v_icmp_ge O dX7_judge_18 87 (by decide) e (fun e => ?_) (fun e => ?_)
    · refine v_sub [] rfl ?_
      exact f_X7_judge_b87_ok O N _ e
    · refine v_aload_n O dX7_judge_21 0 rfl rfl ?_
      refine v_get O fd_X7_judge_44 (g25 O (by decide)) (cg_0 G _) rfl dX7_judge_22 ?_
      refine v_aload_n O dX7_judge_25 0 rfl rfl ?_
      refine v_get O fd_X7_judge_77 (g25 O (by decide)) (cg_0 G _) rfl dX7_judge_26 ?_
      refine v_iload_n O dX7_judge_29 2 rfl rfl ?_
      refine v_iald O (g25 O (by decide)) (cg_23 G _) dX7_judge_30 e (fun e => ?_)
      refine v_iload_n O dX7_judge_31 1 rfl rfl ?_
      refine v_aload_n O dX7_judge_32 0 rfl rfl ?_
      refine v_get O fd_X7_judge_166 (g25 O (by decide)) (cg_0 G _) rfl dX7_judge_33 ?_
      refine v_iload_n O dX7_judge_36 2 rfl rfl ?_
      refine v_iadd O dX7_judge_37 ?_
      refine v_aload_n O dX7_judge_38 0 rfl rfl ?_
      refine v_get O fd_X7_judge_10 (g25 O (by decide)) (cg_0 G _) rfl dX7_judge_39 ?_
      refine v_get O fd_X7_judge_126 (g25 O (by decide)) (cg_1 G _) rfl dX7_judge_42 ?_
      refine v_cVi O [.int (h.1 23 (ix v2)), .int v1, .int ((h.1 0 14) + v2), .int (h.1 1 2)] [] gX7_judge_X1_allowed cw_X7_judge_X1_allowed rfl rfl (g25 O (by decide)) (cg_12 G _) rfl rfl (Nat.le_of_ble_eq_true rfl) dX7_judge_45 e (fun _ e9 => f_X1_allowed_ok e9) (fun r1 h2 e => ?_)
      refine v_istore_n O dX7_judge_48 rfl (by decide) (fun x3 => [(3, .int x3), (0, .ref (G.1 0)), (1, .int v1), (2, .int v2)]) (fun _ => rfl) e (fun x3 e => ?_)
      refine v_iload_n O dX7_judge_49 0 rfl rfl ?_
      refine v_aload_n O dX7_judge_50 1 rfl rfl ?_
      refine v_get O fd_X7_judge_80 (g25 O (by decide)) (cg_0 G _) rfl dX7_judge_51 ?_
      refine v_iload_n O dX7_judge_54 3 rfl rfl ?_
      refine v_iald O (g25 O (by decide)) (cg_24 G _) dX7_judge_55 e (fun e => ?_)
      refine v_cSi O [.int x3, .int (h2.1 24 (ix v2))] [] gX7_judge_X7_bit cw_X7_judge_X7_bit rfl rfl (Nat.le_of_ble_eq_true rfl) dX7_judge_56 e (fun _ e9 => f_X7_bit_ok e9) (fun r4 h5 e => ?_)
      refine v_if_ne O dX7_judge_59 64 (by decide) e (fun e => ?_) (fun e => ?_)
      · refine v_iload_n O dX7_judge_64 2 rfl rfl ?_
        refine v_aload_n O dX7_judge_65 1 rfl rfl ?_
        refine v_get O fd_X7_judge_77 (g25 O (by decide)) (cg_0 G _) rfl dX7_judge_66 ?_
        refine v_iload_n O dX7_judge_69 3 rfl rfl ?_
        refine v_iald O (g25 O (by decide)) (cg_23 G _) dX7_judge_70 e (fun e => ?_)
        refine v_aload_n O dX7_judge_71 1 rfl rfl ?_
        refine v_get O fd_X7_judge_80 (g25 O (by decide)) (cg_0 G _) rfl dX7_judge_72 ?_
        refine v_iload_n O dX7_judge_75 3 rfl rfl ?_
        refine v_iald O (g25 O (by decide)) (cg_24 G _) dX7_judge_76 e (fun e => ?_)
        refine v_cSi O [.int v1, .int (h5.1 23 (ix v2)), .int (h5.1 24 (ix v2))] [] gX7_judge_X7_moved cw_X7_judge_X7_moved rfl rfl (Nat.le_of_ble_eq_true rfl) dX7_judge_77 e (fun _ e9 => f_X7_moved_ok e9) (fun r6 h7 e => ?_)
        refine v_istore_n O dX7_judge_80 rfl (by decide) (fun x8 => [(1, .int x8), (3, .int x3), (0, .ref (G.1 0)), (2, .int v2)]) (fun _ => rfl) e (fun x8 e => ?_)
        refine v_iinc (v := 1) O dX7_judge_81 3 rfl (by decide) (by decide) (fun x9 => [(2, .int x9), (1, .int x8), (3, .int x3), (0, .ref (G.1 0))]) (fun _ => rfl) e (fun x9 e => ?_)
        refine v_goto O dX7_judge_84 7 (by decide) ?_
        refine v_sub [3, 1, 0] rfl ?_
        exact hk7 _ _ _ e
      · refine v_iload_n O dX7_judge_62 3 rfl rfl ?_
        exact v_iret O dX7_judge_63 e
theorem f_X7_judge_l7_ok {X : Cx} {G : Gx} {z : Rs} (O : Ok X G cX7_judge RX7 4 wsX7_judge (some .int) rm_X7_judge) (N : Nat) : ∀ (n : Nat) (v1 : Int32) (v2 : Int32) (h : Hp), f_X7_judge_l7 N n v1 v2 h = some z → V X G 4 (QI X G z) h 7 [(0, .ref (G.1 0)), (1, .int v1), (2, .int v2)] [] := by
  intro n
  induction n with
  | zero => intro v1 v2 h e; cases e
  | succ n ih => intro v1 v2 h e; exact f_X7_judge_b7_ok O N _ ih v1 v2 h e
set_option maxRecDepth 20000 in
theorem f_X7_judge_ok {l : Launch} {G : Gx} {N : Nat} {h : Hp} {z : Rs} (e : f_X7_judge N h = some z) : CI l G yX7_judge wsX7_judge rm_X7_judge [.ref (G.1 0)] h z := by
  refine m_int _ (by decide) rfl [(0, .ref (G.1 0))] rfl (Nat.le_of_ble_eq_true rfl) (fun X O => ?_)
  unfold f_X7_judge at e
  refine v_aload_n O dX7_judge_0 0 rfl rfl ?_
  refine v_get O fd_X7_judge_133 (g25 O (by decide)) (cg_0 G _) rfl dX7_judge_1 ?_
  refine v_istore_n O dX7_judge_4 rfl (by decide) (fun x1 => [(1, .int x1), (0, .ref (G.1 0))]) (fun _ => rfl) e (fun x1 e => ?_)
  refine v_iconst (v := 0) O dX7_judge_5 (by decide) ?_
  refine v_istore_n O dX7_judge_6 rfl (by decide) (fun x2 => [(2, .int x2), (1, .int x1), (0, .ref (G.1 0))]) (fun _ => rfl) e (fun x2 e => ?_)
  refine v_sub [2, 1, 0] rfl ?_
  exact f_X7_judge_l7_ok O N N _ _ _ e
/-! ===== X7 keep ===== -/
abbrev rm_X7_keep : Room := { frames := 0, cells := 0, slots := 0, locals := 0 }
theorem fd_X7_keep_66 : FdO wsX7_keep RX7 66 RX7 TX7 15 7 7 := ⟨by decide +kernel, rfl, by decide, by decide +kernel⟩
theorem fd_X7_keep_70 : FdO wsX7_keep RX7 70 RX7 TX7 15 7 8 := ⟨by decide +kernel, rfl, by decide, by decide +kernel⟩
theorem fd_X7_keep_73 : FdO wsX7_keep RX7 73 RX7 TX7 15 7 9 := ⟨by decide +kernel, rfl, by decide, by decide +kernel⟩
theorem fd_X7_keep_133 : FdO wsX7_keep RX7 133 RX7 TX7 15 7 13 := ⟨by decide +kernel, rfl, by decide, by decide +kernel⟩
theorem fd_X7_keep_166 : FdO wsX7_keep RX7 166 RX7 TX7 15 7 14 := ⟨by decide +kernel, rfl, by decide, by decide +kernel⟩
set_option maxRecDepth 20000 in
theorem f_X7_keep_b9_ok {X : Cx} {G : Gx} {z : Rs} (O : Ok X G cX7_keep RX7 2 wsX7_keep (some .int) rm_X7_keep) (N : Nat) (h : Hp) (e : f_X7_keep_b9 N h = some z) : V X G 2 (QI X G z) h 9 [] [] := by
  unfold f_X7_keep_b9 at e
  refine v_bipush (v := (-2)) O dX7_keep_9 (by decide) ?_
  exact v_iret O dX7_keep_11 e
set_option maxRecDepth 20000 in
theorem f_X7_keep_ok {l : Launch} {G : Gx} {N : Nat} {a0 : Int32} {h : Hp} {z : Rs} (e : f_X7_keep N a0 h = some z) : CI l G yX7_keep wsX7_keep rm_X7_keep [.ref (G.1 0), .int a0] h z := by
  refine m_int _ (by decide) rfl [(0, .ref (G.1 0)), (1, .int a0)] rfl (Nat.le_of_ble_eq_true rfl) (fun X O => ?_)
  unfold f_X7_keep at e
  refine v_iload_n O dX7_keep_0 1 rfl rfl ?_
  refine v_if_lt O dX7_keep_1 9 (by decide) e (fun e => ?_) (fun e => ?_)
  · refine v_sub [] rfl ?_
    exact f_X7_keep_b9_ok O N _ e
  · refine v_iload_n O dX7_keep_4 1 rfl rfl ?_
    refine v_iconst (v := 2) O dX7_keep_5 (by decide) ?_
    refine v_icmp_lt O dX7_keep_6 12 (by decide) e (fun e => ?_) (fun e => ?_)
    · refine v_aload_n O dX7_keep_12 0 rfl rfl ?_
      refine v_get O fd_X7_keep_66 (g25 O (by decide)) (cg_0 G _) rfl dX7_keep_13 ?_
      refine v_iload_n O dX7_keep_16 1 rfl rfl ?_
      refine v_aload_n O dX7_keep_17 0 rfl rfl ?_
      refine v_get O fd_X7_keep_133 (g25 O (by decide)) (cg_0 G _) rfl dX7_keep_18 ?_
      refine v_iast O (g25 O (by decide)) (cg_20 G _) (cw_20 G _ _ _) dX7_keep_21 e (fun h1 e => ?_)
      refine v_aload_n O dX7_keep_22 0 rfl rfl ?_
      refine v_get O fd_X7_keep_70 (g25 O (by decide)) (cg_0 G _) rfl dX7_keep_23 ?_
      refine v_iload_n O dX7_keep_26 1 rfl rfl ?_
      refine v_aload_n O dX7_keep_27 0 rfl rfl ?_
      refine v_get O fd_X7_keep_166 (g25 O (by decide)) (cg_0 G _) rfl dX7_keep_28 ?_
      refine v_iast O (g25 O (by decide)) (cg_21 G _) (cw_21 G _ _ _) dX7_keep_31 e (fun h2 e => ?_)
      refine v_aload_n O dX7_keep_32 0 rfl rfl ?_
      refine v_get O fd_X7_keep_73 (g25 O (by decide)) (cg_0 G _) rfl dX7_keep_33 ?_
      refine v_iload_n O dX7_keep_36 1 rfl rfl ?_
      refine v_iconst (v := 1) O dX7_keep_37 (by decide) ?_
      refine v_zast O (g25 O (by decide)) (cg_22 G _) (cw_22 G _ _ _) dX7_keep_38 e (fun h3 e => ?_)
      refine v_aload_n O dX7_keep_39 0 rfl rfl ?_
      refine v_get O fd_X7_keep_166 (g25 O (by decide)) (cg_0 G _) rfl dX7_keep_40 ?_
      exact v_iret O dX7_keep_43 e
    · refine v_sub [] rfl ?_
      exact f_X7_keep_b9_ok O N _ e
/-! ===== X7 left ===== -/
abbrev rm_X7_left : Room := { frames := 6, cells := 0, slots := 0, locals := 154 }
theorem fd_X7_left_10 : FdO wsX7_left RX7 10 RX7 TX7 15 7 0 := ⟨by decide +kernel, rfl, by decide, by decide +kernel⟩
theorem fd_X7_left_62 : FdO wsX7_left RX7 62 RX7 TX7 15 7 6 := ⟨by decide +kernel, rfl, by decide, by decide +kernel⟩
theorem fd_X7_left_126 : FdO wsX7_left RX7 126 RX5 TX5 9 5 2 := ⟨by decide +kernel, rfl, by decide, by decide +kernel⟩
theorem fd_X7_left_133 : FdO wsX7_left RX7 133 RX7 TX7 15 7 13 := ⟨by decide +kernel, rfl, by decide, by decide +kernel⟩
theorem fd_X7_left_139 : FdO wsX7_left RX7 139 RX5 TX5 9 5 6 := ⟨by decide +kernel, rfl, by decide, by decide +kernel⟩
theorem fd_X7_left_166 : FdO wsX7_left RX7 166 RX7 TX7 15 7 14 := ⟨by decide +kernel, rfl, by decide, by decide +kernel⟩
theorem cw_X7_left_X4_depthOf : CwO rm_X7_left yX4_depthOf wsX4_depthOf cX4_depthOf 2 (some .int) rm_X4_depthOf 1 := ⟨⟨_, rfl⟩, rfl, rfl, by decide +kernel, by decide, by decide⟩
theorem cw_X7_left_X4_explore : CwO rm_X7_left yX4_explore wsX4_explore cX4_explore 8 (none) rm_X4_explore 3 := ⟨⟨_, rfl⟩, rfl, rfl, by decide +kernel, by decide, by decide⟩
theorem cw_X7_left_X4_firstHome : CwO rm_X7_left yX4_firstHome wsX4_firstHome cX4_firstHome 2 (some .int) rm_X4_firstHome 0 := ⟨⟨_, rfl⟩, rfl, rfl, by decide +kernel, by decide, by decide⟩
theorem cw_X7_left_X5_taken : CwO rm_X7_left yX5_taken wsX5_taken cX5_taken 4 (some .int) rm_X5_taken 1 := ⟨⟨_, rfl⟩, rfl, rfl, by decide +kernel, by decide, by decide⟩
theorem cw_X7_left_X7_bit : CwO rm_X7_left yX7_bit wsX7_bit cX7_bit 2 (some .int) rm_X7_bit 2 := ⟨⟨_, rfl⟩, rfl, rfl, by decide +kernel, by decide, by decide⟩
theorem cw_X7_left_X7_noSquare : CwO rm_X7_left yX7_noSquare wsX7_noSquare cX7_noSquare 2 (some .boolean) rm_X7_noSquare 1 := ⟨⟨_, rfl⟩, rfl, rfl, by decide +kernel, by decide, by decide⟩
set_option maxRecDepth 20000 in
theorem f_X7_left_ok {l : Launch} {G : Gx} {N : Nat} {a0 : Int32} {h : Hp} {z : Rs} (e : f_X7_left N a0 h = some z) : CI l G yX7_left wsX7_left rm_X7_left [.ref (G.1 0), .int a0] h z := by
  refine m_int _ (by decide) rfl [(0, .ref (G.1 0)), (1, .int a0)] rfl (Nat.le_of_ble_eq_true rfl) (fun X O => ?_)
  unfold f_X7_left at e
  refine v_aload_n O dX7_left_0 0 rfl rfl ?_
  refine v_iload_n O dX7_left_1 1 rfl rfl ?_
  refine v_cVi O [.int a0] [] gX7_left_X7_noSquare cw_X7_left_X7_noSquare rfl rfl (g25 O (by decide)) (cg_0 G _) rfl rfl (Nat.le_of_ble_eq_true rfl) dX7_left_2 e (fun _ e9 => f_X7_noSquare_ok e9) (fun r1 h2 e => ?_)
  refine v_if_eq O dX7_left_5 11 (by decide) e (fun e => ?_) (fun e => ?_)
  · refine v_aload_n O dX7_left_11 0 rfl rfl ?_
    refine v_get O fd_X7_left_10 (g25 O (by decide)) (cg_0 G _) rfl dX7_left_12 ?_
    refine v_get O fd_X7_left_126 (g25 O (by decide)) (cg_1 G _) rfl dX7_left_15 ?_
    refine v_aload_n O dX7_left_18 0 rfl rfl ?_
    refine v_get O fd_X7_left_10 (g25 O (by decide)) (cg_0 G _) rfl dX7_left_19 ?_
    refine v_aload_n O dX7_left_22 0 rfl rfl ?_
    refine v_get O fd_X7_left_133 (g25 O (by decide)) (cg_0 G _) rfl dX7_left_23 ?_
    refine v_cVi O [.int (h2.1 0 13)] [.int (h2.1 1 2)] gX7_left_X5_taken cw_X7_left_X5_taken rfl rfl (g25 O (by decide)) (cg_1 G _) rfl rfl (Nat.le_of_ble_eq_true rfl) dX7_left_26 e (fun _ e9 => f_X5_taken_ok_1 e9) (fun r3 h4 e => ?_)
    refine v_ior O dX7_left_29 ?_
    refine v_aload_n O dX7_left_30 0 rfl rfl ?_
    refine v_get O fd_X7_left_10 (g25 O (by decide)) (cg_0 G _) rfl dX7_left_31 ?_
    refine v_aload_n O dX7_left_34 0 rfl rfl ?_
    refine v_get O fd_X7_left_10 (g25 O (by decide)) (cg_0 G _) rfl dX7_left_35 ?_
    refine v_get O fd_X7_left_139 (g25 O (by decide)) (cg_1 G _) rfl dX7_left_38 ?_
    refine v_cVi O [.int (h4.1 1 6)] [.int ((h2.1 1 2) ||| r3)] gX7_left_X5_taken cw_X7_left_X5_taken rfl rfl (g25 O (by decide)) (cg_1 G _) rfl rfl (Nat.le_of_ble_eq_true rfl) dX7_left_41 e (fun _ e9 => f_X5_taken_ok_1 e9) (fun r5 h6 e => ?_)
    refine v_ior O dX7_left_44 ?_
    refine v_istore_n O dX7_left_45 rfl (by decide) (fun x7 => [(2, .int x7), (0, .ref (G.1 0)), (1, .int a0)]) (fun _ => rfl) e (fun x7 e => ?_)
    refine v_iload_n O dX7_left_46 0 rfl rfl ?_
    refine v_iload_n O dX7_left_47 2 rfl rfl ?_
    refine v_cSi O [.int x7, .int a0] [] gX7_left_X7_bit cw_X7_left_X7_bit rfl rfl (Nat.le_of_ble_eq_true rfl) dX7_left_48 e (fun _ e9 => f_X7_bit_ok e9) (fun r8 h9 e => ?_)
    refine v_iconst (v := 1) O dX7_left_51 (by decide) ?_
    refine v_icmp_ne O dX7_left_52 58 (by decide) e (fun e => ?_) (fun e => ?_)
    · refine v_aload_n O dX7_left_58 1 rfl rfl ?_
      refine v_get O fd_X7_left_62 (g25 O (by decide)) (cg_0 G _) rfl dX7_left_59 ?_
      refine v_aload_n O dX7_left_62 1 rfl rfl ?_
      refine v_get O fd_X7_left_133 (g25 O (by decide)) (cg_0 G _) rfl dX7_left_63 ?_
      refine v_aload_n O dX7_left_66 1 rfl rfl ?_
      refine v_get O fd_X7_left_166 (g25 O (by decide)) (cg_0 G _) rfl dX7_left_67 ?_
      refine v_aload_n O dX7_left_70 1 rfl rfl ?_
      refine v_get O fd_X7_left_10 (g25 O (by decide)) (cg_0 G _) rfl dX7_left_71 ?_
      refine v_get O fd_X7_left_126 (g25 O (by decide)) (cg_1 G _) rfl dX7_left_74 ?_
      refine v_iconst (v := 1) O dX7_left_77 (by decide) ?_
      refine v_iload_n O dX7_left_78 2 rfl rfl ?_
      refine v_ishl O dX7_left_79 ?_
      refine v_ior O dX7_left_80 ?_
      refine v_cVv O [.int (h9.1 0 13), .int (h9.1 0 14), .int ((h9.1 1 2) ||| ((1 : Int32) <<< (a0 &&& 31)))] [] gX7_left_X4_explore cw_X7_left_X4_explore rfl rfl (g25 O (by decide)) (cg_15 G _) rfl rfl (Nat.le_of_ble_eq_true rfl) dX7_left_81 e (fun _ e9 => f_X4_explore_ok e9) (fun _ h10 e => ?_)
      refine v_aload_n O dX7_left_84 1 rfl rfl ?_
      refine v_get O fd_X7_left_62 (g25 O (by decide)) (cg_0 G _) rfl dX7_left_85 ?_
      refine v_aload_n O dX7_left_88 1 rfl rfl ?_
      refine v_get O fd_X7_left_62 (g25 O (by decide)) (cg_0 G _) rfl dX7_left_89 ?_
      refine v_cVi O [] [.ref (G.1 15)] gX7_left_X4_firstHome cw_X7_left_X4_firstHome rfl rfl (g25 O (by decide)) (cg_15 G _) rfl rfl (Nat.le_of_ble_eq_true rfl) dX7_left_92 e (fun _ e9 => f_X4_firstHome_ok e9) (fun r11 h12 e => ?_)
      refine v_cVi O [.int r11] [] gX7_left_X4_depthOf cw_X7_left_X4_depthOf rfl rfl (g25 O (by decide)) (cg_15 G _) rfl rfl (Nat.le_of_ble_eq_true rfl) dX7_left_95 e (fun _ e9 => f_X4_depthOf_ok e9) (fun r13 h14 e => ?_)
      exact v_iret O dX7_left_98 e
    · refine v_bipush (v := (-4)) O dX7_left_55 (by decide) ?_
      exact v_iret O dX7_left_57 e
  · refine v_bipush (v := (-2)) O dX7_left_8 (by decide) ?_
    exact v_iret O dX7_left_10 e
/-! ===== X7 man ===== -/
abbrev rm_X7_man : Room := { frames := 1, cells := 0, slots := 0, locals := 21 }
theorem fd_X7_man_10 : FdO wsX7_man RX7 10 RX7 TX7 15 7 0 := ⟨by decide +kernel, rfl, by decide, by decide +kernel⟩
theorem fd_X7_man_133 : FdO wsX7_man RX7 133 RX7 TX7 15 7 13 := ⟨by decide +kernel, rfl, by decide, by decide +kernel⟩
theorem fd_X7_man_139 : FdO wsX7_man RX7 139 RX5 TX5 9 5 6 := ⟨by decide +kernel, rfl, by decide, by decide +kernel⟩
theorem fd_X7_man_145 : FdO wsX7_man RX7 145 RX5 TX5 9 5 7 := ⟨by decide +kernel, rfl, by decide, by decide +kernel⟩
theorem fd_X7_man_148 : FdO wsX7_man RX7 148 RX5 TX5 9 5 8 := ⟨by decide +kernel, rfl, by decide, by decide +kernel⟩
theorem cw_X7_man_X7_noMan : CwO rm_X7_man yX7_noMan wsX7_noMan cX7_noMan 2 (some .boolean) rm_X7_noMan 1 := ⟨⟨_, rfl⟩, rfl, rfl, by decide +kernel, by decide, by decide⟩
theorem cw_X7_man_X7_placeOf : CwO rm_X7_man yX7_placeOf wsX7_placeOf cX7_placeOf 2 (some .int) rm_X7_placeOf 2 := ⟨⟨_, rfl⟩, rfl, rfl, by decide +kernel, by decide, by decide⟩
set_option maxRecDepth 20000 in
theorem f_X7_man_ok {l : Launch} {G : Gx} {N : Nat} {a0 : Int32} {a1 : Int32} {h : Hp} {z : Rs} (e : f_X7_man N a0 a1 h = some z) : CI l G yX7_man wsX7_man rm_X7_man [.ref (G.1 0), .int a0, .int a1] h z := by
  refine m_int _ (by decide) rfl [(0, .ref (G.1 0)), (1, .int a0), (2, .int a1)] rfl (Nat.le_of_ble_eq_true rfl) (fun X O => ?_)
  unfold f_X7_man at e
  refine v_aload_n O dX7_man_0 0 rfl rfl ?_
  refine v_iload_n O dX7_man_1 1 rfl rfl ?_
  refine v_cVi O [.int a0] [] gX7_man_X7_noMan cw_X7_man_X7_noMan rfl rfl (g25 O (by decide)) (cg_0 G _) rfl rfl (Nat.le_of_ble_eq_true rfl) dX7_man_2 e (fun _ e9 => f_X7_noMan_ok e9) (fun r1 h2 e => ?_)
  refine v_if_eq O dX7_man_5 11 (by decide) e (fun e => ?_) (fun e => ?_)
  · refine v_iload_n O dX7_man_11 2 rfl rfl ?_
    refine v_if (c := a1 = 0) e (fun c0 e => ?_) (fun c0 e => ?_)
    · refine v_tabIn O dX7_man_12 c0 (by decide) (by decide) (by first | rfl | decide) 44 (by decide) ?_
      refine v_aload_n O dX7_man_44 0 rfl rfl ?_
      refine v_get O fd_X7_man_10 (g25 O (by decide)) (cg_0 G _) rfl dX7_man_45 ?_
      refine v_get O fd_X7_man_145 (g25 O (by decide)) (cg_1 G _) rfl dX7_man_48 ?_
      refine v_iload_n O dX7_man_51 1 rfl rfl ?_
      refine v_iald O (g25 O (by decide)) (cg_2 G _) dX7_man_52 e (fun e => ?_)
      exact v_iret O dX7_man_53 e
    refine v_if (c := a1 = 1) e (fun c1 e => ?_) (fun c1 e => ?_)
    · refine v_tabIn O dX7_man_12 c1 (by decide) (by decide) (by first | rfl | decide) 54 (by decide) ?_
      refine v_aload_n O dX7_man_54 0 rfl rfl ?_
      refine v_get O fd_X7_man_10 (g25 O (by decide)) (cg_0 G _) rfl dX7_man_55 ?_
      refine v_get O fd_X7_man_148 (g25 O (by decide)) (cg_1 G _) rfl dX7_man_58 ?_
      refine v_iload_n O dX7_man_61 1 rfl rfl ?_
      refine v_iald O (g25 O (by decide)) (cg_3 G _) dX7_man_62 e (fun e => ?_)
      exact v_iret O dX7_man_63 e
    refine v_if (c := a1 = 2) e (fun c2 e => ?_) (fun c2 e => ?_)
    · refine v_tabIn O dX7_man_12 c2 (by decide) (by decide) (by first | rfl | decide) 64 (by decide) ?_
      refine v_iload_n O dX7_man_64 1 rfl rfl ?_
      refine v_aload_n O dX7_man_65 0 rfl rfl ?_
      refine v_get O fd_X7_man_133 (g25 O (by decide)) (cg_0 G _) rfl dX7_man_66 ?_
      refine v_cSi O [.int a0, .int (h2.1 0 13)] [] gX7_man_X7_placeOf cw_X7_man_X7_placeOf rfl rfl (Nat.le_of_ble_eq_true rfl) dX7_man_69 e (fun _ e9 => f_X7_placeOf_ok e9) (fun r3 h4 e => ?_)
      exact v_iret O dX7_man_72 e
    refine v_if (c := a1 = 3) e (fun c3 e => ?_) (fun c3 e => ?_)
    · refine v_tabIn O dX7_man_12 c3 (by decide) (by decide) (by first | rfl | decide) 73 (by decide) ?_
      refine v_iload_n O dX7_man_73 1 rfl rfl ?_
      refine v_aload_n O dX7_man_74 0 rfl rfl ?_
      refine v_get O fd_X7_man_10 (g25 O (by decide)) (cg_0 G _) rfl dX7_man_75 ?_
      refine v_get O fd_X7_man_139 (g25 O (by decide)) (cg_1 G _) rfl dX7_man_78 ?_
      refine v_cSi O [.int a0, .int (h2.1 1 6)] [] gX7_man_X7_placeOf cw_X7_man_X7_placeOf rfl rfl (Nat.le_of_ble_eq_true rfl) dX7_man_81 e (fun _ e9 => f_X7_placeOf_ok e9) (fun r5 h6 e => ?_)
      exact v_iret O dX7_man_84 e
    refine v_tabOut O dX7_man_12 (by have q0 := lv_neT (a := 0) c0 rfl; have q1 := lv_neT (a := 1) c1 rfl; have q2 := lv_neT (a := 2) c2 rfl; have q3 := lv_neT (a := 3) c3 rfl; omega) 85 (by decide) ?_
    refine v_bipush (v := (-3)) O dX7_man_85 (by decide) ?_
    exact v_iret O dX7_man_87 e
  · refine v_bipush (v := (-2)) O dX7_man_8 (by decide) ?_
    exact v_iret O dX7_man_10 e
/-! ===== X7 many ===== -/
abbrev rm_X7_many : Room := { frames := 6, cells := 0, slots := 0, locals := 154 }
theorem fd_X7_many_10 : FdO wsX7_many RX7 10 RX7 TX7 15 7 0 := ⟨by decide +kernel, rfl, by decide, by decide +kernel⟩
theorem fd_X7_many_62 : FdO wsX7_many RX7 62 RX7 TX7 15 7 6 := ⟨by decide +kernel, rfl, by decide, by decide +kernel⟩
theorem fd_X7_many_126 : FdO wsX7_many RX7 126 RX5 TX5 9 5 2 := ⟨by decide +kernel, rfl, by decide, by decide +kernel⟩
theorem fd_X7_many_133 : FdO wsX7_many RX7 133 RX7 TX7 15 7 13 := ⟨by decide +kernel, rfl, by decide, by decide +kernel⟩
theorem fd_X7_many_166 : FdO wsX7_many RX7 166 RX7 TX7 15 7 14 := ⟨by decide +kernel, rfl, by decide, by decide +kernel⟩
theorem cw_X7_many_X4_explore : CwO rm_X7_many yX4_explore wsX4_explore cX4_explore 8 (none) rm_X4_explore 3 := ⟨⟨_, rfl⟩, rfl, rfl, by decide +kernel, by decide, by decide⟩
theorem cw_X7_many_X4_howMany : CwO rm_X7_many yX4_howMany wsX4_howMany cX4_howMany 4 (some .int) rm_X4_howMany 1 := ⟨⟨_, rfl⟩, rfl, rfl, by decide +kernel, by decide, by decide⟩
set_option maxRecDepth 20000 in
theorem f_X7_many_ok {l : Launch} {G : Gx} {N : Nat} {a0 : Int32} {h : Hp} {z : Rs} (e : f_X7_many N a0 h = some z) : CI l G yX7_many wsX7_many rm_X7_many [.ref (G.1 0), .int a0] h z := by
  refine m_int _ (by decide) rfl [(0, .ref (G.1 0)), (1, .int a0)] rfl (Nat.le_of_ble_eq_true rfl) (fun X O => ?_)
  unfold f_X7_many at e
  refine v_iload_n O dX7_many_0 1 rfl rfl ?_
  refine v_if_ge O dX7_many_1 7 (by decide) e (fun e => ?_) (fun e => ?_)
  · refine v_aload_n O dX7_many_7 0 rfl rfl ?_
    refine v_get O fd_X7_many_62 (g25 O (by decide)) (cg_0 G _) rfl dX7_many_8 ?_
    refine v_aload_n O dX7_many_11 0 rfl rfl ?_
    refine v_get O fd_X7_many_133 (g25 O (by decide)) (cg_0 G _) rfl dX7_many_12 ?_
    refine v_aload_n O dX7_many_15 0 rfl rfl ?_
    refine v_get O fd_X7_many_166 (g25 O (by decide)) (cg_0 G _) rfl dX7_many_16 ?_
    refine v_aload_n O dX7_many_19 0 rfl rfl ?_
    refine v_get O fd_X7_many_10 (g25 O (by decide)) (cg_0 G _) rfl dX7_many_20 ?_
    refine v_get O fd_X7_many_126 (g25 O (by decide)) (cg_1 G _) rfl dX7_many_23 ?_
    refine v_cVv O [.int (h.1 0 13), .int (h.1 0 14), .int (h.1 1 2)] [] gX7_many_X4_explore cw_X7_many_X4_explore rfl rfl (g25 O (by decide)) (cg_15 G _) rfl rfl (Nat.le_of_ble_eq_true rfl) dX7_many_26 e (fun _ e9 => f_X4_explore_ok e9) (fun _ h1 e => ?_)
    refine v_aload_n O dX7_many_29 0 rfl rfl ?_
    refine v_get O fd_X7_many_62 (g25 O (by decide)) (cg_0 G _) rfl dX7_many_30 ?_
    refine v_iload_n O dX7_many_33 1 rfl rfl ?_
    refine v_cVi O [.int a0] [] gX7_many_X4_howMany cw_X7_many_X4_howMany rfl rfl (g25 O (by decide)) (cg_15 G _) rfl rfl (Nat.le_of_ble_eq_true rfl) dX7_many_34 e (fun _ e9 => f_X4_howMany_ok e9) (fun r2 h3 e => ?_)
    exact v_iret O dX7_many_37 e
  · refine v_bipush (v := (-3)) O dX7_many_4 (by decide) ?_
    exact v_iret O dX7_many_6 e
/-! ===== X7 may ===== -/
abbrev rm_X7_may : Room := { frames := 5, cells := 0, slots := 0, locals := 127 }
theorem fd_X7_may_10 : FdO wsX7_may RX7 10 RX7 TX7 15 7 0 := ⟨by decide +kernel, rfl, by decide, by decide +kernel⟩
theorem fd_X7_may_44 : FdO wsX7_may RX7 44 RX7 TX7 15 7 4 := ⟨by decide +kernel, rfl, by decide, by decide +kernel⟩
theorem fd_X7_may_126 : FdO wsX7_may RX7 126 RX5 TX5 9 5 2 := ⟨by decide +kernel, rfl, by decide, by decide +kernel⟩
theorem fd_X7_may_133 : FdO wsX7_may RX7 133 RX7 TX7 15 7 13 := ⟨by decide +kernel, rfl, by decide, by decide +kernel⟩
theorem fd_X7_may_166 : FdO wsX7_may RX7 166 RX7 TX7 15 7 14 := ⟨by decide +kernel, rfl, by decide, by decide +kernel⟩
theorem cw_X7_may_X1_allowed : CwO rm_X7_may yX1_allowed wsX1_allowed cX1_allowed 8 (some .int) rm_X1_allowed 4 := ⟨⟨_, rfl⟩, rfl, rfl, by decide +kernel, by decide, by decide⟩
theorem cw_X7_may_X7_noMan : CwO rm_X7_may yX7_noMan wsX7_noMan cX7_noMan 2 (some .boolean) rm_X7_noMan 1 := ⟨⟨_, rfl⟩, rfl, rfl, by decide +kernel, by decide, by decide⟩
set_option maxRecDepth 20000 in
theorem f_X7_may_ok {l : Launch} {G : Gx} {N : Nat} {a0 : Int32} {h : Hp} {z : Rs} (e : f_X7_may N a0 h = some z) : CI l G yX7_may wsX7_may rm_X7_may [.ref (G.1 0), .int a0] h z := by
  refine m_int _ (by decide) rfl [(0, .ref (G.1 0)), (1, .int a0)] rfl (Nat.le_of_ble_eq_true rfl) (fun X O => ?_)
  unfold f_X7_may at e
  refine v_aload_n O dX7_may_0 0 rfl rfl ?_
  refine v_iload_n O dX7_may_1 1 rfl rfl ?_
  refine v_cVi O [.int a0] [] gX7_may_X7_noMan cw_X7_may_X7_noMan rfl rfl (g25 O (by decide)) (cg_0 G _) rfl rfl (Nat.le_of_ble_eq_true rfl) dX7_may_2 e (fun _ e9 => f_X7_noMan_ok e9) (fun r1 h2 e => ?_)
  refine v_if_eq O dX7_may_5 11 (by decide) e (fun e => ?_) (fun e => ?_)
  · refine v_aload_n O dX7_may_11 0 rfl rfl ?_
    refine v_get O fd_X7_may_44 (g25 O (by decide)) (cg_0 G _) rfl dX7_may_12 ?_
    refine v_iload_n O dX7_may_15 1 rfl rfl ?_
    refine v_aload_n O dX7_may_16 0 rfl rfl ?_
    refine v_get O fd_X7_may_133 (g25 O (by decide)) (cg_0 G _) rfl dX7_may_17 ?_
    refine v_aload_n O dX7_may_20 0 rfl rfl ?_
    refine v_get O fd_X7_may_166 (g25 O (by decide)) (cg_0 G _) rfl dX7_may_21 ?_
    refine v_aload_n O dX7_may_24 0 rfl rfl ?_
    refine v_get O fd_X7_may_10 (g25 O (by decide)) (cg_0 G _) rfl dX7_may_25 ?_
    refine v_get O fd_X7_may_126 (g25 O (by decide)) (cg_1 G _) rfl dX7_may_28 ?_
    refine v_cVi O [.int a0, .int (h2.1 0 13), .int (h2.1 0 14), .int (h2.1 1 2)] [] gX7_may_X1_allowed cw_X7_may_X1_allowed rfl rfl (g25 O (by decide)) (cg_12 G _) rfl rfl (Nat.le_of_ble_eq_true rfl) dX7_may_31 e (fun _ e9 => f_X1_allowed_ok e9) (fun r3 h4 e => ?_)
    exact v_iret O dX7_may_34 e
  · refine v_bipush (v := (-2)) O dX7_may_8 (by decide) ?_
    exact v_iret O dX7_may_10 e
