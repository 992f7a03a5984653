/-! ===== X8 takenBy ===== -/
abbrev rm_X8_takenBy : Room := { frames := 0, cells := 0, slots := 0, locals := 0 }
theorem fd_X8_takenBy_68 : FdO wsX8_takenBy RX8 68 RX8 TX8 34 8 4 := ⟨by decide +kernel, rfl, by decide, by decide +kernel⟩
set_option maxRecDepth 20000 in
theorem f_X8_takenBy_b4_ok_31 {X : Cx} {G : Gx} {z : Rs} (h41 : 41 ≤ gN G) (O : Ok X G cX8_takenBy RX8 4 wsX8_takenBy (some .int) rm_X8_takenBy) (N : Nat) (k4 : Int32 → Int32 → Hp → Option Rs) (hk4 : ∀ (v2 : Int32) (v3 : Int32) (h : Hp), k4 v2 v3 h = some z → V X G 4 (QI X G z) h 4 [(0, .ref (G.1 25)), (1, .ref (G.1 31)), (2, .int v2), (3, .int v3)] []) (v2 : Int32) (v3 : Int32) (h : Hp) (e : f_X8_takenBy_b4 31 N k4 v2 v3 h = some z) : V X G 4 (QI X G z) h 4 [(0, .ref (G.1 25)), (1, .ref (G.1 31)), (2, .int v2), (3, .int v3)] [] := by
  unfold f_X8_takenBy_b4 at e
  refine v_iload_n O dX8_takenBy_4 3 rfl rfl ?_
  refine v_aload_n O dX8_takenBy_5 0 rfl rfl ?_
  refine v_get O fd_X8_takenBy_68 (g41 h41 (by decide)) (cg_25 G _) rfl dX8_takenBy_6 ?_
  refine v_icmp_ge O dX8_takenBy_9 26 (by decide) e (fun e => ?_) (fun e => ?_)
  · refine v_iload_n O dX8_takenBy_26 2 rfl rfl ?_
    exact v_iret O dX8_takenBy_27 e
  · refine v_iload_n O dX8_takenBy_12 2 rfl rfl ?_
    refine v_iconst (v := 1) O dX8_takenBy_13 (by decide) ?_
    refine v_aload_n O dX8_takenBy_14 1 rfl rfl ?_
    refine v_iload_n O dX8_takenBy_15 3 rfl rfl ?_
    refine v_iald O (g41 h41 (by decide)) (cg_31 G _) dX8_takenBy_16 e (fun e => ?_)
    refine v_ishl O dX8_takenBy_17 ?_
    refine v_ior O dX8_takenBy_18 ?_
    refine v_istore_n O dX8_takenBy_19 rfl (by decide) (fun x1 => [(2, .int x1), (0, .ref (G.1 25)), (1, .ref (G.1 31)), (3, .int v3)]) (fun _ => rfl) e (fun x1 e => ?_)
    refine v_iinc (v := 1) O dX8_takenBy_20 3 rfl (by decide) (by decide) (fun x2 => [(3, .int x2), (2, .int x1), (0, .ref (G.1 25)), (1, .ref (G.1 31))]) (fun _ => rfl) e (fun x2 e => ?_)
    refine v_goto O dX8_takenBy_23 4 (by decide) ?_
    refine v_sub [2, 3, 1, 0] rfl ?_
    exact hk4 _ _ _ e
theorem f_X8_takenBy_l4_ok_31 {X : Cx} {G : Gx} {z : Rs} (h41 : 41 ≤ gN G) (O : Ok X G cX8_takenBy RX8 4 wsX8_takenBy (some .int) rm_X8_takenBy) (N : Nat) : ∀ (n : Nat) (v2 : Int32) (v3 : Int32) (h : Hp), f_X8_takenBy_l4 31 N n v2 v3 h = some z → V X G 4 (QI X G z) h 4 [(0, .ref (G.1 25)), (1, .ref (G.1 31)), (2, .int v2), (3, .int v3)] [] := by
  intro n
  induction n with
  | zero => intro v2 v3 h e; cases e
  | succ n ih => intro v2 v3 h e; exact f_X8_takenBy_b4_ok_31 h41 O N _ ih v2 v3 h e
set_option maxRecDepth 20000 in
theorem f_X8_takenBy_ok_31 {l : Launch} {G : Gx} {N : Nat} (h41 : 41 ≤ gN G) {h : Hp} {z : Rs} (e : f_X8_takenBy 31 N h = some z) : CI l G yX8_takenBy wsX8_takenBy rm_X8_takenBy [.ref (G.1 25), .ref (G.1 31)] h z := by
  refine m_int _ (by decide) rfl [(0, .ref (G.1 25)), (1, .ref (G.1 31))] rfl (Nat.le_of_ble_eq_true rfl) (fun X O => ?_)
  unfold f_X8_takenBy at e
  refine v_iconst (v := 0) O dX8_takenBy_0 (by decide) ?_
  refine v_istore_n O dX8_takenBy_1 rfl (by decide) (fun x1 => [(2, .int x1), (0, .ref (G.1 25)), (1, .ref (G.1 31))]) (fun _ => rfl) e (fun x1 e => ?_)
  refine v_iconst (v := 0) O dX8_takenBy_2 (by decide) ?_
  refine v_istore_n O dX8_takenBy_3 rfl (by decide) (fun x2 => [(3, .int x2), (2, .int x1), (0, .ref (G.1 25)), (1, .ref (G.1 31))]) (fun _ => rfl) e (fun x2 e => ?_)
  refine v_sub [2, 3, 1, 0] rfl ?_
  exact f_X8_takenBy_l4_ok_31 h41 O N N _ _ _ e
set_option maxRecDepth 20000 in
theorem f_X8_takenBy_b4_ok_39 {X : Cx} {G : Gx} {z : Rs} (h41 : 41 ≤ gN G) (O : Ok X G cX8_takenBy RX8 4 wsX8_takenBy (some .int) rm_X8_takenBy) (N : Nat) (k4 : Int32 → Int32 → Hp → Option Rs) (hk4 : ∀ (v2 : Int32) (v3 : Int32) (h : Hp), k4 v2 v3 h = some z → V X G 4 (QI X G z) h 4 [(0, .ref (G.1 25)), (1, .ref (G.1 39)), (2, .int v2), (3, .int v3)] []) (v2 : Int32) (v3 : Int32) (h : Hp) (e : f_X8_takenBy_b4 39 N k4 v2 v3 h = some z) : V X G 4 (QI X G z) h 4 [(0, .ref (G.1 25)), (1, .ref (G.1 39)), (2, .int v2), (3, .int v3)] [] := by
  unfold f_X8_takenBy_b4 at e
  refine v_iload_n O dX8_takenBy_4 3 rfl rfl ?_
  refine v_aload_n O dX8_takenBy_5 0 rfl rfl ?_
  refine v_get O fd_X8_takenBy_68 (g41 h41 (by decide)) (cg_25 G _) rfl dX8_takenBy_6 ?_
  refine v_icmp_ge O dX8_takenBy_9 26 (by decide) e (fun e => ?_) (fun e => ?_)
  · refine v_iload_n O dX8_takenBy_26 2 rfl rfl ?_
    exact v_iret O dX8_takenBy_27 e
  · refine v_iload_n O dX8_takenBy_12 2 rfl rfl ?_
    refine v_iconst (v := 1) O dX8_takenBy_13 (by decide) ?_
    refine v_aload_n O dX8_takenBy_14 1 rfl rfl ?_
    refine v_iload_n O dX8_takenBy_15 3 rfl rfl ?_
    refine v_iald O (g41 h41 (by decide)) (cg_39 G _) dX8_takenBy_16 e (fun e => ?_)
    refine v_ishl O dX8_takenBy_17 ?_
    refine v_ior O dX8_takenBy_18 ?_
    refine v_istore_n O dX8_takenBy_19 rfl (by decide) (fun x1 => [(2, .int x1), (0, .ref (G.1 25)), (1, .ref (G.1 39)), (3, .int v3)]) (fun _ => rfl) e (fun x1 e => ?_)
    refine v_iinc (v := 1) O dX8_takenBy_20 3 rfl (by decide) (by decide) (fun x2 => [(3, .int x2), (2, .int x1), (0, .ref (G.1 25)), (1, .ref (G.1 39))]) (fun _ => rfl) e (fun x2 e => ?_)
    refine v_goto O dX8_takenBy_23 4 (by decide) ?_
    refine v_sub [2, 3, 1, 0] rfl ?_
    exact hk4 _ _ _ e
theorem f_X8_takenBy_l4_ok_39 {X : Cx} {G : Gx} {z : Rs} (h41 : 41 ≤ gN G) (O : Ok X G cX8_takenBy RX8 4 wsX8_takenBy (some .int) rm_X8_takenBy) (N : Nat) : ∀ (n : Nat) (v2 : Int32) (v3 : Int32) (h : Hp), f_X8_takenBy_l4 39 N n v2 v3 h = some z → V X G 4 (QI X G z) h 4 [(0, .ref (G.1 25)), (1, .ref (G.1 39)), (2, .int v2), (3, .int v3)] [] := by
  intro n
  induction n with
  | zero => intro v2 v3 h e; cases e
  | succ n ih => intro v2 v3 h e; exact f_X8_takenBy_b4_ok_39 h41 O N _ ih v2 v3 h e
set_option maxRecDepth 20000 in
theorem f_X8_takenBy_ok_39 {l : Launch} {G : Gx} {N : Nat} (h41 : 41 ≤ gN G) {h : Hp} {z : Rs} (e : f_X8_takenBy 39 N h = some z) : CI l G yX8_takenBy wsX8_takenBy rm_X8_takenBy [.ref (G.1 25), .ref (G.1 39)] h z := by
  refine m_int _ (by decide) rfl [(0, .ref (G.1 25)), (1, .ref (G.1 39))] rfl (Nat.le_of_ble_eq_true rfl) (fun X O => ?_)
  unfold f_X8_takenBy at e
  refine v_iconst (v := 0) O dX8_takenBy_0 (by decide) ?_
  refine v_istore_n O dX8_takenBy_1 rfl (by decide) (fun x1 => [(2, .int x1), (0, .ref (G.1 25)), (1, .ref (G.1 39))]) (fun _ => rfl) e (fun x1 e => ?_)
  refine v_iconst (v := 0) O dX8_takenBy_2 (by decide) ?_
  refine v_istore_n O dX8_takenBy_3 rfl (by decide) (fun x2 => [(3, .int x2), (2, .int x1), (0, .ref (G.1 25)), (1, .ref (G.1 39))]) (fun _ => rfl) e (fun x2 e => ?_)
  refine v_sub [2, 3, 1, 0] rfl ?_
  exact f_X8_takenBy_l4_ok_39 h41 O N N _ _ _ e
/-! ===== X8 attackedBy ===== -/
abbrev rm_X8_attackedBy : Room := { frames := 4, cells := 0, slots := 0, locals := 104 }
theorem fd_X8_attackedBy_16 : FdO wsX8_attackedBy RX8 16 RX8 TX8 34 8 5 := ⟨by decide +kernel, rfl, by decide, by decide +kernel⟩
theorem fd_X8_attackedBy_68 : FdO wsX8_attackedBy RX8 68 RX8 TX8 34 8 4 := ⟨by decide +kernel, rfl, by decide, by decide +kernel⟩
theorem cw_X8_attackedBy_X8_has : CwO rm_X8_attackedBy yX8_has wsX8_has cX8_has 2 (some .boolean) rm_X8_has 2 := ⟨⟨_, rfl⟩, rfl, rfl, by decide +kernel, by decide, by decide⟩
theorem cw_X8_attackedBy_X8_reachOf : CwO rm_X8_attackedBy yX8_reachOf wsX8_reachOf cX8_reachOf 13 (some .int) rm_X8_reachOf 3 := ⟨⟨_, rfl⟩, rfl, rfl, by decide +kernel, by decide, by decide⟩
theorem cw_X8_attackedBy_X8_takenBy : CwO rm_X8_attackedBy yX8_takenBy wsX8_takenBy cX8_takenBy 4 (some .int) rm_X8_takenBy 1 := ⟨⟨_, rfl⟩, rfl, rfl, by decide +kernel, by decide, by decide⟩
set_option maxRecDepth 20000 in
theorem f_X8_attackedBy_b98_ok_31 {X : Cx} {G : Gx} {z : Rs} (h41 : 41 ≤ gN G) (O : Ok X G cX8_attackedBy RX8 7 wsX8_attackedBy (some .int) rm_X8_attackedBy) (N : Nat) (k11 : Int32 → Int32 → Int32 → Hp → Option Rs) (k43 : Int32 → Int32 → Int32 → Int32 → Int32 → Hp → Option Rs) (hk11 : ∀ (v2 : Int32) (v3 : Int32) (v4 : Int32) (h : Hp), k11 v2 v3 v4 h = some z → V X G 7 (QI X G z) h 11 [(0, .ref (G.1 25)), (1, .ref (G.1 31)), (2, .int v2), (3, .int v3), (4, .int v4)] []) (hk43 : ∀ (v2 : Int32) (v3 : Int32) (v4 : Int32) (v5 : Int32) (v6 : Int32) (h : Hp), k43 v2 v3 v4 v5 v6 h = some z → V X G 7 (QI X G z) h 43 [(0, .ref (G.1 25)), (1, .ref (G.1 31)), (2, .int v2), (3, .int v3), (4, .int v4), (5, .int v5), (6, .int v6)] []) (v3 : Int32) (v4 : Int32) (v5 : Int32) (v6 : Int32) (s0 : Int32) (s1 : Int32) (h : Hp) (e : f_X8_attackedBy_b98 31 N k11 k43 v3 v4 v5 v6 s0 s1 h = some z) : V X G 7 (QI X G z) h 98 [(0, .ref (G.1 25)), (1, .ref (G.1 31)), (3, .int v3), (4, .int v4), (5, .int v5), (6, .int v6)] [.int s0, .int s1] := by
  unfold f_X8_attackedBy_b98 at e
  refine v_ior O dX8_attackedBy_98 ?_
  refine v_istore_n O dX8_attackedBy_99 rfl (by decide) (fun x1 => [(2, .int x1), (0, .ref (G.1 25)), (1, .ref (G.1 31)), (3, .int v3), (4, .int v4), (5, .int v5), (6, .int v6)]) (fun _ => rfl) e (fun x1 e => ?_)
  refine v_iinc (v := 1) O dX8_attackedBy_100 6 rfl (by decide) (by decide) (fun x2 => [(6, .int x2), (2, .int x1), (0, .ref (G.1 25)), (1, .ref (G.1 31)), (3, .int v3), (4, .int v4), (5, .int v5)]) (fun _ => rfl) e (fun x2 e => ?_)
  refine v_goto O dX8_attackedBy_103 43 (by decide) ?_
  refine v_sub [2, 3, 1, 4, 5, 6, 0] rfl ?_
  exact hk43 _ _ _ _ _ _ e
set_option maxRecDepth 20000 in
theorem f_X8_attackedBy_b97_ok_31 {X : Cx} {G : Gx} {z : Rs} (h41 : 41 ≤ gN G) (O : Ok X G cX8_attackedBy RX8 7 wsX8_attackedBy (some .int) rm_X8_attackedBy) (N : Nat) (k11 : Int32 → Int32 → Int32 → Hp → Option Rs) (k43 : Int32 → Int32 → Int32 → Int32 → Int32 → Hp → Option Rs) (hk11 : ∀ (v2 : Int32) (v3 : Int32) (v4 : Int32) (h : Hp), k11 v2 v3 v4 h = some z → V X G 7 (QI X G z) h 11 [(0, .ref (G.1 25)), (1, .ref (G.1 31)), (2, .int v2), (3, .int v3), (4, .int v4)] []) (hk43 : ∀ (v2 : Int32) (v3 : Int32) (v4 : Int32) (v5 : Int32) (v6 : Int32) (h : Hp), k43 v2 v3 v4 v5 v6 h = some z → V X G 7 (QI X G z) h 43 [(0, .ref (G.1 25)), (1, .ref (G.1 31)), (2, .int v2), (3, .int v3), (4, .int v4), (5, .int v5), (6, .int v6)] []) (v3 : Int32) (v4 : Int32) (v5 : Int32) (v6 : Int32) (s0 : Int32) (h : Hp) (e : f_X8_attackedBy_b97 31 N k11 k43 v3 v4 v5 v6 s0 h = some z) : V X G 7 (QI X G z) h 97 [(0, .ref (G.1 25)), (1, .ref (G.1 31)), (3, .int v3), (4, .int v4), (5, .int v5), (6, .int v6)] [.int s0] := by
  unfold f_X8_attackedBy_b97 at e
  refine v_iconst (v := 0) O dX8_attackedBy_97 (by decide) ?_
  exact f_X8_attackedBy_b98_ok_31 h41 O N k11 k43 hk11 hk43 _ _ _ _ _ _ _ e
set_option maxRecDepth 20000 in
theorem f_X8_attackedBy_b43_ok_31 {X : Cx} {G : Gx} {z : Rs} (h41 : 41 ≤ gN G) (O : Ok X G cX8_attackedBy RX8 7 wsX8_attackedBy (some .int) rm_X8_attackedBy) (N : Nat) (k11 : Int32 → Int32 → Int32 → Hp → Option Rs) (k43 : Int32 → Int32 → Int32 → Int32 → Int32 → Hp → Option Rs) (hk11 : ∀ (v2 : Int32) (v3 : Int32) (v4 : Int32) (h : Hp), k11 v2 v3 v4 h = some z → V X G 7 (QI X G z) h 11 [(0, .ref (G.1 25)), (1, .ref (G.1 31)), (2, .int v2), (3, .int v3), (4, .int v4)] []) (hk43 : ∀ (v2 : Int32) (v3 : Int32) (v4 : Int32) (v5 : Int32) (v6 : Int32) (h : Hp), k43 v2 v3 v4 v5 v6 h = some z → V X G 7 (QI X G z) h 43 [(0, .ref (G.1 25)), (1, .ref (G.1 31)), (2, .int v2), (3, .int v3), (4, .int v4), (5, .int v5), (6, .int v6)] []) (v2 : Int32) (v3 : Int32) (v4 : Int32) (v5 : Int32) (v6 : Int32) (h : Hp) (e : f_X8_attackedBy_b43 31 N k11 k43 v2 v3 v4 v5 v6 h = some z) : V X G 7 (QI X G z) h 43 [(0, .ref (G.1 25)), (1, .ref (G.1 31)), (2, .int v2), (3, .int v3), (4, .int v4), (5, .int v5), (6, .int v6)] [] := by
  unfold f_X8_attackedBy_b43 at e
  refine v_iload O dX8_attackedBy_43 6 rfl ?_
  refine v_aload_n O dX8_attackedBy_45 0 rfl rfl ?_
  refine v_get O fd_X8_attackedBy_68 (g41 h41 (by decide)) (cg_25 G _) rfl dX8_attackedBy_46 ?_
  refine v_icmp_ge O dX8_attackedBy_49 106 (by decide) e (fun e => ?_) (fun e => ?_)
  · refine v_iinc (v := 1) O dX8_attackedBy_106 4 rfl (by decide) (by decide) (fun x1 => [(4, .int x1), (0, .ref (G.1 25)), (1, .ref (G.1 31)), (2, .int v2), (3, .int v3), (5, .int v5), (6, .int v6)]) (fun _ => rfl) e (fun x1 e => ?_)
    refine v_goto O dX8_attackedBy_109 11 (by decide) ?_
    refine v_sub [1, 2, 3, 4, 0] rfl ?_
    exact hk11 _ _ _ _ e
  · refine v_iload_n O dX8_attackedBy_52 2 rfl rfl ?_
    refine v_aload_n O dX8_attackedBy_53 0 rfl rfl ?_
    refine v_get O fd_X8_attackedBy_16 (g41 h41 (by decide)) (cg_25 G _) rfl dX8_attackedBy_54 ?_
    refine v_iconst (v := 4) O dX8_attackedBy_57 (by decide) ?_
    refine v_iload O dX8_attackedBy_58 6 rfl ?_
    refine v_imul O dX8_attackedBy_60 ?_
    refine v_iconst (v := 1) O dX8_attackedBy_61 (by decide) ?_
    refine v_iadd O dX8_attackedBy_62 ?_
    refine v_iald O (g41 h41 (by decide)) (cg_26 G _) dX8_attackedBy_63 e (fun e => ?_)
    refine v_aload_n O dX8_attackedBy_64 0 rfl rfl ?_
    refine v_get O fd_X8_attackedBy_16 (g41 h41 (by decide)) (cg_25 G _) rfl dX8_attackedBy_65 ?_
    refine v_iconst (v := 4) O dX8_attackedBy_68 (by decide) ?_
    refine v_iload O dX8_attackedBy_69 4 rfl ?_
    refine v_imul O dX8_attackedBy_71 ?_
    refine v_iconst (v := 1) O dX8_attackedBy_72 (by decide) ?_
    refine v_iadd O dX8_attackedBy_73 ?_
    refine v_iald O (g41 h41 (by decide)) (cg_26 G _) dX8_attackedBy_74 e (fun e => ?_)
    refine v_icmp_eq O dX8_attackedBy_75 97 (by decide) e (fun e => ?_) (fun e => ?_)
    · refine v_sub [0, 1, 3, 4, 5, 6] rfl ?_
      exact f_X8_attackedBy_b97_ok_31 h41 O N k11 k43 hk11 hk43 _ _ _ _ _ _ e
    · refine v_iload O dX8_attackedBy_78 5 rfl ?_
      refine v_aload_n O dX8_attackedBy_80 1 rfl rfl ?_
      refine v_iload O dX8_attackedBy_81 6 rfl ?_
      refine v_iald O (g41 h41 (by decide)) (cg_31 G _) dX8_attackedBy_83 e (fun e => ?_)
      refine v_cSi O [.int v5, .int (h.1 31 (ix v6))] [.int v2] gX8_attackedBy_X8_has cw_X8_attackedBy_X8_has rfl rfl (Nat.le_of_ble_eq_true rfl) dX8_attackedBy_84 e (fun _ e9 => f_X8_has_ok e9) (fun r2 h3 e => ?_)
      refine v_if_eq O dX8_attackedBy_87 97 (by decide) e (fun e => ?_) (fun e => ?_)
      · refine v_sub [0, 1, 3, 4, 5, 6] rfl ?_
        exact f_X8_attackedBy_b97_ok_31 h41 O N k11 k43 hk11 hk43 _ _ _ _ _ _ e
      · refine v_iconst (v := 1) O dX8_attackedBy_90 (by decide) ?_
        refine v_iload O dX8_attackedBy_91 6 rfl ?_
        refine v_ishl O dX8_attackedBy_93 ?_
        refine v_goto O dX8_attackedBy_94 98 (by decide) ?_
        refine v_sub [0, 1, 3, 4, 5, 6] rfl ?_
        exact f_X8_attackedBy_b98_ok_31 h41 O N k11 k43 hk11 hk43 _ _ _ _ _ _ _ e
theorem f_X8_attackedBy_l43_ok_31 {X : Cx} {G : Gx} {z : Rs} (h41 : 41 ≤ gN G) (O : Ok X G cX8_attackedBy RX8 7 wsX8_attackedBy (some .int) rm_X8_attackedBy) (N : Nat) (k11 : Int32 → Int32 → Int32 → Hp → Option Rs) (hk11 : ∀ (v2 : Int32) (v3 : Int32) (v4 : Int32) (h : Hp), k11 v2 v3 v4 h = some z → V X G 7 (QI X G z) h 11 [(0, .ref (G.1 25)), (1, .ref (G.1 31)), (2, .int v2), (3, .int v3), (4, .int v4)] []) : ∀ (n : Nat) (v2 : Int32) (v3 : Int32) (v4 : Int32) (v5 : Int32) (v6 : Int32) (h : Hp), f_X8_attackedBy_l43 31 N k11 n v2 v3 v4 v5 v6 h = some z → V X G 7 (QI X G z) h 43 [(0, .ref (G.1 25)), (1, .ref (G.1 31)), (2, .int v2), (3, .int v3), (4, .int v4), (5, .int v5), (6, .int v6)] [] := by
  intro n
  induction n with
  | zero => intro v2 v3 v4 v5 v6 h e; cases e
  | succ n ih => intro v2 v3 v4 v5 v6 h e; exact f_X8_attackedBy_b43_ok_31 h41 O N k11 _ hk11 ih v2 v3 v4 v5 v6 h e
set_option maxRecDepth 20000 in
theorem f_X8_attackedBy_b11_ok_31 {X : Cx} {G : Gx} {z : Rs} (h41 : 41 ≤ gN G) (O : Ok X G cX8_attackedBy RX8 7 wsX8_attackedBy (some .int) rm_X8_attackedBy) (N : Nat) (k11 : Int32 → Int32 → Int32 → Hp → Option Rs) (hk11 : ∀ (v2 : Int32) (v3 : Int32) (v4 : Int32) (h : Hp), k11 v2 v3 v4 h = some z → V X G 7 (QI X G z) h 11 [(0, .ref (G.1 25)), (1, .ref (G.1 31)), (2, .int v2), (3, .int v3), (4, .int v4)] []) (v2 : Int32) (v3 : Int32) (v4 : Int32) (h : Hp) (e : f_X8_attackedBy_b11 31 N k11 v2 v3 v4 h = some z) : V X G 7 (QI X G z) h 11 [(0, .ref (G.1 25)), (1, .ref (G.1 31)), (2, .int v2), (3, .int v3), (4, .int v4)] [] := by
  unfold f_X8_attackedBy_b11 at e
  refine v_iload O dX8_attackedBy_11 4 rfl ?_
  refine v_aload_n O dX8_attackedBy_13 0 rfl rfl ?_
  refine v_get O fd_X8_attackedBy_68 (g41 h41 (by decide)) (cg_25 G _) rfl dX8_attackedBy_14 ?_
  refine v_icmp_ge O dX8_attackedBy_17 112 (by decide) e (fun e => ?_) (fun e => ?_)
  · refine v_iload_n O dX8_attackedBy_112 2 rfl rfl ?_
    exact v_iret O dX8_attackedBy_113 e
  · refine v_aload_n O dX8_attackedBy_20 0 rfl rfl ?_
    refine v_aload_n O dX8_attackedBy_21 0 rfl rfl ?_
    refine v_get O fd_X8_attackedBy_16 (g41 h41 (by decide)) (cg_25 G _) rfl dX8_attackedBy_22 ?_
    refine v_iconst (v := 4) O dX8_attackedBy_25 (by decide) ?_
    refine v_iload O dX8_attackedBy_26 4 rfl ?_
    refine v_imul O dX8_attackedBy_28 ?_
    refine v_iald O (g41 h41 (by decide)) (cg_26 G _) dX8_attackedBy_29 e (fun e => ?_)
    refine v_aload_n O dX8_attackedBy_30 1 rfl rfl ?_
    refine v_iload O dX8_attackedBy_31 4 rfl ?_
    refine v_iald O (g41 h41 (by decide)) (cg_31 G _) dX8_attackedBy_33 e (fun e => ?_)
    refine v_iload_n O dX8_attackedBy_34 3 rfl rfl ?_
    refine v_cVi O [.int (h.1 26 (ix ((4 : Int32) * v4))), .int (h.1 31 (ix v4)), .int v3] [] gX8_attackedBy_X8_reachOf cw_X8_attackedBy_X8_reachOf rfl rfl (g41 h41 (by decide)) (cg_25 G _) rfl rfl (Nat.le_of_ble_eq_true rfl) dX8_attackedBy_35 e (fun _ e9 => f_X8_reachOf_ok h41 e9) (fun r1 h2 e => ?_)
    refine v_istore O dX8_attackedBy_38 (by decide) (fun x3 => [(5, .int x3), (0, .ref (G.1 25)), (1, .ref (G.1 31)), (2, .int v2), (3, .int v3), (4, .int v4)]) (fun _ => rfl) e (fun x3 e => ?_)
    refine v_iconst (v := 0) O dX8_attackedBy_40 (by decide) ?_
    refine v_istore O dX8_attackedBy_41 (by decide) (fun x4 => [(6, .int x4), (5, .int x3), (0, .ref (G.1 25)), (1, .ref (G.1 31)), (2, .int v2), (3, .int v3), (4, .int v4)]) (fun _ => rfl) e (fun x4 e => ?_)
    refine v_sub [2, 3, 4, 5, 6, 1, 0] rfl ?_
    exact f_X8_attackedBy_l43_ok_31 h41 O N k11 hk11 N _ _ _ _ _ _ e
theorem f_X8_attackedBy_l11_ok_31 {X : Cx} {G : Gx} {z : Rs} (h41 : 41 ≤ gN G) (O : Ok X G cX8_attackedBy RX8 7 wsX8_attackedBy (some .int) rm_X8_attackedBy) (N : Nat) : ∀ (n : Nat) (v2 : Int32) (v3 : Int32) (v4 : Int32) (h : Hp), f_X8_attackedBy_l11 31 N n v2 v3 v4 h = some z → V X G 7 (QI X G z) h 11 [(0, .ref (G.1 25)), (1, .ref (G.1 31)), (2, .int v2), (3, .int v3), (4, .int v4)] [] := by
  intro n
  induction n with
  | zero => intro v2 v3 v4 h e; cases e
  | succ n ih => intro v2 v3 v4 h e; exact f_X8_attackedBy_b11_ok_31 h41 O N _ ih v2 v3 v4 h e
set_option maxRecDepth 20000 in
theorem f_X8_attackedBy_ok_31 {l : Launch} {G : Gx} {N : Nat} (h41 : 41 ≤ gN G) {h : Hp} {z : Rs} (e : f_X8_attackedBy 31 N h = some z) : CI l G yX8_attackedBy wsX8_attackedBy rm_X8_attackedBy [.ref (G.1 25), .ref (G.1 31)] h z := by
  refine m_int _ (by decide) rfl [(0, .ref (G.1 25)), (1, .ref (G.1 31))] rfl (Nat.le_of_ble_eq_true rfl) (fun X O => ?_)
  unfold f_X8_attackedBy at e
  refine v_iconst (v := 0) O dX8_attackedBy_0 (by decide) ?_
  refine v_istore_n O dX8_attackedBy_1 rfl (by decide) (fun x1 => [(2, .int x1), (0, .ref (G.1 25)), (1, .ref (G.1 31))]) (fun _ => rfl) e (fun x1 e => ?_)
  refine v_aload_n O dX8_attackedBy_2 1 rfl rfl ?_
  refine v_aload_n O dX8_attackedBy_3 2 rfl rfl ?_
  refine v_cVi O [.ref (G.1 31)] [] gX8_attackedBy_X8_takenBy cw_X8_attackedBy_X8_takenBy rfl rfl (g41 h41 (by decide)) (cg_25 G _) rfl rfl (Nat.le_of_ble_eq_true rfl) dX8_attackedBy_4 e (fun _ e9 => f_X8_takenBy_ok_31 h41 e9) (fun r2 h3 e => ?_)
  refine v_istore_n O dX8_attackedBy_7 rfl (by decide) (fun x4 => [(3, .int x4), (2, .int x1), (0, .ref (G.1 25)), (1, .ref (G.1 31))]) (fun _ => rfl) e (fun x4 e => ?_)
  refine v_iconst (v := 0) O dX8_attackedBy_8 (by decide) ?_
  refine v_istore O dX8_attackedBy_9 (by decide) (fun x5 => [(4, .int x5), (3, .int x4), (2, .int x1), (0, .ref (G.1 25)), (1, .ref (G.1 31))]) (fun _ => rfl) e (fun x5 e => ?_)
  refine v_sub [3, 4, 2, 1, 0] rfl ?_
  exact f_X8_attackedBy_l11_ok_31 h41 O N N _ _ _ _ e
set_option maxRecDepth 20000 in
theorem f_X8_attackedBy_b98_ok_39 {X : Cx} {G : Gx} {z : Rs} (h41 : 41 ≤ gN G) (O : Ok X G cX8_attackedBy RX8 7 wsX8_attackedBy (some .int) rm_X8_attackedBy) (N : Nat) (k11 : Int32 → Int32 → Int32 → Hp → Option Rs) (k43 : Int32 → Int32 → Int32 → Int32 → Int32 → Hp → Option Rs) (hk11 : ∀ (v2 : Int32) (v3 : Int32) (v4 : Int32) (h : Hp), k11 v2 v3 v4 h = some z → V X G 7 (QI X G z) h 11 [(0, .ref (G.1 25)), (1, .ref (G.1 39)), (2, .int v2), (3, .int v3), (4, .int v4)] []) (hk43 : ∀ (v2 : Int32) (v3 : Int32) (v4 : Int32) (v5 : Int32) (v6 : Int32) (h : Hp), k43 v2 v3 v4 v5 v6 h = some z → V X G 7 (QI X G z) h 43 [(0, .ref (G.1 25)), (1, .ref (G.1 39)), (2, .int v2), (3, .int v3), (4, .int v4), (5, .int v5), (6, .int v6)] []) (v3 : Int32) (v4 : Int32) (v5 : Int32) (v6 : Int32) (s0 : Int32) (s1 : Int32) (h : Hp) (e : f_X8_attackedBy_b98 39 N k11 k43 v3 v4 v5 v6 s0 s1 h = some z) : V X G 7 (QI X G z) h 98 [(0, .ref (G.1 25)), (1, .ref (G.1 39)), (3, .int v3), (4, .int v4), (5, .int v5), (6, .int v6)] [.int s0, .int s1] := by
  unfold f_X8_attackedBy_b98 at e
  refine v_ior O dX8_attackedBy_98 ?_
  refine v_istore_n O dX8_attackedBy_99 rfl (by decide) (fun x1 => [(2, .int x1), (0, .ref (G.1 25)), (1, .ref (G.1 39)), (3, .int v3), (4, .int v4), (5, .int v5), (6, .int v6)]) (fun _ => rfl) e (fun x1 e => ?_)
  refine v_iinc (v := 1) O dX8_attackedBy_100 6 rfl (by decide) (by decide) (fun x2 => [(6, .int x2), (2, .int x1), (0, .ref (G.1 25)), (1, .ref (G.1 39)), (3, .int v3), (4, .int v4), (5, .int v5)]) (fun _ => rfl) e (fun x2 e => ?_)
  refine v_goto O dX8_attackedBy_103 43 (by decide) ?_
  refine v_sub [2, 3, 1, 4, 5, 6, 0] rfl ?_
  exact hk43 _ _ _ _ _ _ e
set_option maxRecDepth 20000 in
theorem f_X8_attackedBy_b97_ok_39 {X : Cx} {G : Gx} {z : Rs} (h41 : 41 ≤ gN G) (O : Ok X G cX8_attackedBy RX8 7 wsX8_attackedBy (some .int) rm_X8_attackedBy) (N : Nat) (k11 : Int32 → Int32 → Int32 → Hp → Option Rs) (k43 : Int32 → Int32 → Int32 → Int32 → Int32 → Hp → Option Rs) (hk11 : ∀ (v2 : Int32) (v3 : Int32) (v4 : Int32) (h : Hp), k11 v2 v3 v4 h = some z → V X G 7 (QI X G z) h 11 [(0, .ref (G.1 25)), (1, .ref (G.1 39)), (2, .int v2), (3, .int v3), (4, .int v4)] []) (hk43 : ∀ (v2 : Int32) (v3 : Int32) (v4 : Int32) (v5 : Int32) (v6 : Int32) (h : Hp), k43 v2 v3 v4 v5 v6 h = some z → V X G 7 (QI X G z) h 43 [(0, .ref (G.1 25)), (1, .ref (G.1 39)), (2, .int v2), (3, .int v3), (4, .int v4), (5, .int v5), (6, .int v6)] []) (v3 : Int32) (v4 : Int32) (v5 : Int32) (v6 : Int32) (s0 : Int32) (h : Hp) (e : f_X8_attackedBy_b97 39 N k11 k43 v3 v4 v5 v6 s0 h = some z) : V X G 7 (QI X G z) h 97 [(0, .ref (G.1 25)), (1, .ref (G.1 39)), (3, .int v3), (4, .int v4), (5, .int v5), (6, .int v6)] [.int s0] := by
  unfold f_X8_attackedBy_b97 at e
  refine v_iconst (v := 0) O dX8_attackedBy_97 (by decide) ?_
  exact f_X8_attackedBy_b98_ok_39 h41 O N k11 k43 hk11 hk43 _ _ _ _ _ _ _ e
set_option maxRecDepth 20000 in
theorem f_X8_attackedBy_b43_ok_39 {X : Cx} {G : Gx} {z : Rs} (h41 : 41 ≤ gN G) (O : Ok X G cX8_attackedBy RX8 7 wsX8_attackedBy (some .int) rm_X8_attackedBy) (N : Nat) (k11 : Int32 → Int32 → Int32 → Hp → Option Rs) (k43 : Int32 → Int32 → Int32 → Int32 → Int32 → Hp → Option Rs) (hk11 : ∀ (v2 : Int32) (v3 : Int32) (v4 : Int32) (h : Hp), k11 v2 v3 v4 h = some z → V X G 7 (QI X G z) h 11 [(0, .ref (G.1 25)), (1, .ref (G.1 39)), (2, .int v2), (3, .int v3), (4, .int v4)] []) (hk43 : ∀ (v2 : Int32) (v3 : Int32) (v4 : Int32) (v5 : Int32) (v6 : Int32) (h : Hp), k43 v2 v3 v4 v5 v6 h = some z → V X G 7 (QI X G z) h 43 [(0, .ref (G.1 25)), (1, .ref (G.1 39)), (2, .int v2), (3, .int v3), (4, .int v4), (5, .int v5), (6, .int v6)] []) (v2 : Int32) (v3 : Int32) (v4 : Int32) (v5 : Int32) (v6 : Int32) (h : Hp) (e : f_X8_attackedBy_b43 39 N k11 k43 v2 v3 v4 v5 v6 h = some z) : V X G 7 (QI X G z) h 43 [(0, .ref (G.1 25)), (1, .ref (G.1 39)), (2, .int v2), (3, .int v3), (4, .int v4), (5, .int v5), (6, .int v6)] [] := by
  unfold f_X8_attackedBy_b43 at e
  refine v_iload O dX8_attackedBy_43 6 rfl ?_
  refine v_aload_n O dX8_attackedBy_45 0 rfl rfl ?_
  refine v_get O fd_X8_attackedBy_68 (g41 h41 (by decide)) (cg_25 G _) rfl dX8_attackedBy_46 ?_
  refine v_icmp_ge O dX8_attackedBy_49 106 (by decide) e (fun e => ?_) (fun e => ?_)
  · refine v_iinc (v := 1) O dX8_attackedBy_106 4 rfl (by decide) (by decide) (fun x1 => [(4, .int x1), (0, .ref (G.1 25)), (1, .ref (G.1 39)), (2, .int v2), (3, .int v3), (5, .int v5), (6, .int v6)]) (fun _ => rfl) e (fun x1 e => ?_)
    refine v_goto O dX8_attackedBy_109 11 (by decide) ?_
    refine v_sub [1, 2, 3, 4, 0] rfl ?_
    exact hk11 _ _ _ _ e
  · refine v_iload_n O dX8_attackedBy_52 2 rfl rfl ?_
    refine v_aload_n O dX8_attackedBy_53 0 rfl rfl ?_
    refine v_get O fd_X8_attackedBy_16 (g41 h41 (by decide)) (cg_25 G _) rfl dX8_attackedBy_54 ?_
    refine v_iconst (v := 4) O dX8_attackedBy_57 (by decide) ?_
    refine v_iload O dX8_attackedBy_58 6 rfl ?_
    refine v_imul O dX8_attackedBy_60 ?_
    refine v_iconst (v := 1) O dX8_attackedBy_61 (by decide) ?_
    refine v_iadd O dX8_attackedBy_62 ?_
    refine v_iald O (g41 h41 (by decide)) (cg_26 G _) dX8_attackedBy_63 e (fun e => ?_)
    refine v_aload_n O dX8_attackedBy_64 0 rfl rfl ?_
    refine v_get O fd_X8_attackedBy_16 (g41 h41 (by decide)) (cg_25 G _) rfl dX8_attackedBy_65 ?_
    refine v_iconst (v := 4) O dX8_attackedBy_68 (by decide) ?_
    refine v_iload O dX8_attackedBy_69 4 rfl ?_
    refine v_imul O dX8_attackedBy_71 ?_
    refine v_iconst (v := 1) O dX8_attackedBy_72 (by decide) ?_
    refine v_iadd O dX8_attackedBy_73 ?_
    refine v_iald O (g41 h41 (by decide)) (cg_26 G _) dX8_attackedBy_74 e (fun e => ?_)
    refine v_icmp_eq O dX8_attackedBy_75 97 (by decide) e (fun e => ?_) (fun e => ?_)
    · refine v_sub [0, 1, 3, 4, 5, 6] rfl ?_
      exact f_X8_attackedBy_b97_ok_39 h41 O N k11 k43 hk11 hk43 _ _ _ _ _ _ e
    · refine v_iload O dX8_attackedBy_78 5 rfl ?_
      refine v_aload_n O dX8_attackedBy_80 1 rfl rfl ?_
      refine v_iload O dX8_attackedBy_81 6 rfl ?_
      refine v_iald O (g41 h41 (by decide)) (cg_39 G _) dX8_attackedBy_83 e (fun e => ?_)
      refine v_cSi O [.int v5, .int (h.1 39 (ix v6))] [.int v2] gX8_attackedBy_X8_has cw_X8_attackedBy_X8_has rfl rfl (Nat.le_of_ble_eq_true rfl) dX8_attackedBy_84 e (fun _ e9 => f_X8_has_ok e9) (fun r2 h3 e => ?_)
      refine v_if_eq O dX8_attackedBy_87 97 (by decide) e (fun e => ?_) (fun e => ?_)
      · refine v_sub [0, 1, 3, 4, 5, 6] rfl ?_
        exact f_X8_attackedBy_b97_ok_39 h41 O N k11 k43 hk11 hk43 _ _ _ _ _ _ e
      · refine v_iconst (v := 1) O dX8_attackedBy_90 (by decide) ?_
        refine v_iload O dX8_attackedBy_91 6 rfl ?_
        refine v_ishl O dX8_attackedBy_93 ?_
        refine v_goto O dX8_attackedBy_94 98 (by decide) ?_
        refine v_sub [0, 1, 3, 4, 5, 6] rfl ?_
        exact f_X8_attackedBy_b98_ok_39 h41 O N k11 k43 hk11 hk43 _ _ _ _ _ _ _ e
theorem f_X8_attackedBy_l43_ok_39 {X : Cx} {G : Gx} {z : Rs} (h41 : 41 ≤ gN G) (O : Ok X G cX8_attackedBy RX8 7 wsX8_attackedBy (some .int) rm_X8_attackedBy) (N : Nat) (k11 : Int32 → Int32 → Int32 → Hp → Option Rs) (hk11 : ∀ (v2 : Int32) (v3 : Int32) (v4 : Int32) (h : Hp), k11 v2 v3 v4 h = some z → V X G 7 (QI X G z) h 11 [(0, .ref (G.1 25)), (1, .ref (G.1 39)), (2, .int v2), (3, .int v3), (4, .int v4)] []) : ∀ (n : Nat) (v2 : Int32) (v3 : Int32) (v4 : Int32) (v5 : Int32) (v6 : Int32) (h : Hp), f_X8_attackedBy_l43 39 N k11 n v2 v3 v4 v5 v6 h = some z → V X G 7 (QI X G z) h 43 [(0, .ref (G.1 25)), (1, .ref (G.1 39)), (2, .int v2), (3, .int v3), (4, .int v4), (5, .int v5), (6, .int v6)] [] := by
  intro n
  induction n with
  | zero => intro v2 v3 v4 v5 v6 h e; cases e
  | succ n ih => intro v2 v3 v4 v5 v6 h e; exact f_X8_attackedBy_b43_ok_39 h41 O N k11 _ hk11 ih v2 v3 v4 v5 v6 h e
set_option maxRecDepth 20000 in
theorem f_X8_attackedBy_b11_ok_39 {X : Cx} {G : Gx} {z : Rs} (h41 : 41 ≤ gN G) (O : Ok X G cX8_attackedBy RX8 7 wsX8_attackedBy (some .int) rm_X8_attackedBy) (N : Nat) (k11 : Int32 → Int32 → Int32 → Hp → Option Rs) (hk11 : ∀ (v2 : Int32) (v3 : Int32) (v4 : Int32) (h : Hp), k11 v2 v3 v4 h = some z → V X G 7 (QI X G z) h 11 [(0, .ref (G.1 25)), (1, .ref (G.1 39)), (2, .int v2), (3, .int v3), (4, .int v4)] []) (v2 : Int32) (v3 : Int32) (v4 : Int32) (h : Hp) (e : f_X8_attackedBy_b11 39 N k11 v2 v3 v4 h = some z) : V X G 7 (QI X G z) h 11 [(0, .ref (G.1 25)), (1, .ref (G.1 39)), (2, .int v2), (3, .int v3), (4, .int v4)] [] := by
  unfold f_X8_attackedBy_b11 at e
  refine v_iload O dX8_attackedBy_11 4 rfl ?_
  refine v_aload_n O dX8_attackedBy_13 0 rfl rfl ?_
  refine v_get O fd_X8_attackedBy_68 (g41 h41 (by decide)) (cg_25 G _) rfl dX8_attackedBy_14 ?_
  refine v_icmp_ge O dX8_attackedBy_17 112 (by decide) e (fun e => ?_) (fun e => ?_)
  · refine v_iload_n O dX8_attackedBy_112 2 rfl rfl ?_
    exact v_iret O dX8_attackedBy_113 e
  · refine v_aload_n O dX8_attackedBy_20 0 rfl rfl ?_
    refine v_aload_n O dX8_attackedBy_21 0 rfl rfl ?_
    refine v_get O fd_X8_attackedBy_16 (g41 h41 (by decide)) (cg_25 G _) rfl dX8_attackedBy_22 ?_
    refine v_iconst (v := 4) O dX8_attackedBy_25 (by decide) ?_
    refine v_iload O dX8_attackedBy_26 4 rfl ?_
    refine v_imul O dX8_attackedBy_28 ?_
    refine v_iald O (g41 h41 (by decide)) (cg_26 G _) dX8_attackedBy_29 e (fun e => ?_)
    refine v_aload_n O dX8_attackedBy_30 1 rfl rfl ?_
    refine v_iload O dX8_attackedBy_31 4 rfl ?_
    refine v_iald O (g41 h41 (by decide)) (cg_39 G _) dX8_attackedBy_33 e (fun e => ?_)
    refine v_iload_n O dX8_attackedBy_34 3 rfl rfl ?_
    refine v_cVi O [.int (h.1 26 (ix ((4 : Int32) * v4))), .int (h.1 39 (ix v4)), .int v3] [] gX8_attackedBy_X8_reachOf cw_X8_attackedBy_X8_reachOf rfl rfl (g41 h41 (by decide)) (cg_25 G _) rfl rfl (Nat.le_of_ble_eq_true rfl) dX8_attackedBy_35 e (fun _ e9 => f_X8_reachOf_ok h41 e9) (fun r1 h2 e => ?_)
    refine v_istore O dX8_attackedBy_38 (by decide) (fun x3 => [(5, .int x3), (0, .ref (G.1 25)), (1, .ref (G.1 39)), (2, .int v2), (3, .int v3), (4, .int v4)]) (fun _ => rfl) e (fun x3 e => ?_)
    refine v_iconst (v := 0) O dX8_attackedBy_40 (by decide) ?_
    refine v_istore O dX8_attackedBy_41 (by decide) (fun x4 => [(6, .int x4), (5, .int x3), (0, .ref (G.1 25)), (1, .ref (G.1 39)), (2, .int v2), (3, .int v3), (4, .int v4)]) (fun _ => rfl) e (fun x4 e => ?_)
    refine v_sub [2, 3, 4, 5, 6, 1, 0] rfl ?_
    exact f_X8_attackedBy_l43_ok_39 h41 O N k11 hk11 N _ _ _ _ _ _ e
theorem f_X8_attackedBy_l11_ok_39 {X : Cx} {G : Gx} {z : Rs} (h41 : 41 ≤ gN G) (O : Ok X G cX8_attackedBy RX8 7 wsX8_attackedBy (some .int) rm_X8_attackedBy) (N : Nat) : ∀ (n : Nat) (v2 : Int32) (v3 : Int32) (v4 : Int32) (h : Hp), f_X8_attackedBy_l11 39 N n v2 v3 v4 h = some z → V X G 7 (QI X G z) h 11 [(0, .ref (G.1 25)), (1, .ref (G.1 39)), (2, .int v2), (3, .int v3), (4, .int v4)] [] := by
  intro n
  induction n with
  | zero => intro v2 v3 v4 h e; cases e
  | succ n ih => intro v2 v3 v4 h e; exact f_X8_attackedBy_b11_ok_39 h41 O N _ ih v2 v3 v4 h e
set_option maxRecDepth 20000 in
theorem f_X8_attackedBy_ok_39 {l : Launch} {G : Gx} {N : Nat} (h41 : 41 ≤ gN G) {h : Hp} {z : Rs} (e : f_X8_attackedBy 39 N h = some z) : CI l G yX8_attackedBy wsX8_attackedBy rm_X8_attackedBy [.ref (G.1 25), .ref (G.1 39)] h z := by
  refine m_int _ (by decide) rfl [(0, .ref (G.1 25)), (1, .ref (G.1 39))] rfl (Nat.le_of_ble_eq_true rfl) (fun X O => ?_)
  unfold f_X8_attackedBy at e
  refine v_iconst (v := 0) O dX8_attackedBy_0 (by decide) ?_
  refine v_istore_n O dX8_attackedBy_1 rfl (by decide) (fun x1 => [(2, .int x1), (0, .ref (G.1 25)), (1, .ref (G.1 39))]) (fun _ => rfl) e (fun x1 e => ?_)
  refine v_aload_n O dX8_attackedBy_2 1 rfl rfl ?_
  refine v_aload_n O dX8_attackedBy_3 2 rfl rfl ?_
  refine v_cVi O [.ref (G.1 39)] [] gX8_attackedBy_X8_takenBy cw_X8_attackedBy_X8_takenBy rfl rfl (g41 h41 (by decide)) (cg_25 G _) rfl rfl (Nat.le_of_ble_eq_true rfl) dX8_attackedBy_4 e (fun _ e9 => f_X8_takenBy_ok_39 h41 e9) (fun r2 h3 e => ?_)
  refine v_istore_n O dX8_attackedBy_7 rfl (by decide) (fun x4 => [(3, .int x4), (2, .int x1), (0, .ref (G.1 25)), (1, .ref (G.1 39))]) (fun _ => rfl) e (fun x4 e => ?_)
  refine v_iconst (v := 0) O dX8_attackedBy_8 (by decide) ?_
  refine v_istore O dX8_attackedBy_9 (by decide) (fun x5 => [(4, .int x5), (3, .int x4), (2, .int x1), (0, .ref (G.1 25)), (1, .ref (G.1 39))]) (fun _ => rfl) e (fun x5 e => ?_)
  refine v_sub [3, 4, 2, 1, 0] rfl ?_
  exact f_X8_attackedBy_l11_ok_39 h41 O N N _ _ _ _ e
/-! ===== X8 mayOf ===== -/
abbrev rm_X8_mayOf : Room := { frames := 5, cells := 0, slots := 0, locals := 130 }
theorem fd_X8_mayOf_7 : FdO wsX8_mayOf RX8 7 RX8 TX8 34 8 0 := ⟨by decide +kernel, rfl, by decide, by decide +kernel⟩
theorem fd_X8_mayOf_13 : FdO wsX8_mayOf RX8 13 RX8 TX8 34 8 1 := ⟨by decide +kernel, rfl, by decide, by decide +kernel⟩
theorem fd_X8_mayOf_16 : FdO wsX8_mayOf RX8 16 RX8 TX8 34 8 5 := ⟨by decide +kernel, rfl, by decide, by decide +kernel⟩
theorem fd_X8_mayOf_176 : FdO wsX8_mayOf RX8 176 RX8 TX8 34 8 3 := ⟨by decide +kernel, rfl, by decide, by decide +kernel⟩
theorem cw_X8_mayOf_X8_attackedBy : CwO rm_X8_mayOf yX8_attackedBy wsX8_attackedBy cX8_attackedBy 7 (some .int) rm_X8_attackedBy 1 := ⟨⟨_, rfl⟩, rfl, rfl, by decide +kernel, by decide, by decide⟩
theorem cw_X8_mayOf_X8_has : CwO rm_X8_mayOf yX8_has wsX8_has cX8_has 2 (some .boolean) rm_X8_has 2 := ⟨⟨_, rfl⟩, rfl, rfl, by decide +kernel, by decide, by decide⟩
theorem cw_X8_mayOf_X8_reachOf : CwO rm_X8_mayOf yX8_reachOf wsX8_reachOf cX8_reachOf 13 (some .int) rm_X8_reachOf 3 := ⟨⟨_, rfl⟩, rfl, rfl, by decide +kernel, by decide, by decide⟩
theorem cw_X8_mayOf_X8_takenBy : CwO rm_X8_mayOf yX8_takenBy wsX8_takenBy cX8_takenBy 4 (some .int) rm_X8_takenBy 1 := ⟨⟨_, rfl⟩, rfl, rfl, by decide +kernel, by decide, by decide⟩
set_option maxRecDepth 20000 in
theorem f_X8_mayOf_b127_ok_31 {X : Cx} {G : Gx} {z : Rs} (h41 : 41 ≤ gN G) (O : Ok X G cX8_mayOf RX8 9 wsX8_mayOf (some .int) rm_X8_mayOf) (N : Nat) (k77 : Int32 → Int32 → Int32 → Int32 → Int32 → Hp → Option Rs) (hk77 : ∀ (v2 : Int32) (v5 : Int32) (v6 : Int32) (v7 : Int32) (v8 : Int32) (h : Hp), k77 v2 v5 v6 v7 v8 h = some z → V X G 9 (QI X G z) h 77 [(0, .ref (G.1 25)), (1, .ref (G.1 31)), (2, .int v2), (5, .int v5), (6, .int v6), (7, .int v7), (8, .int v8)] []) (v2 : Int32) (v5 : Int32) (v6 : Int32) (v7 : Int32) (v8 : Int32) (h : Hp) (e : f_X8_mayOf_b127 31 N k77 v2 v5 v6 v7 v8 h = some z) : V X G 9 (QI X G z) h 127 [(0, .ref (G.1 25)), (1, .ref (G.1 31)), (2, .int v2), (5, .int v5), (6, .int v6), (7, .int v7), (8, .int v8)] [] := by
  unfold f_X8_mayOf_b127 at e
  refine v_iinc (v := 1) O dX8_mayOf_127 6 rfl (by decide) (by decide) (fun x1 => [(8, .int x1), (0, .ref (G.1 25)), (1, .ref (G.1 31)), (2, .int v2), (5, .int v5), (6, .int v6), (7, .int v7)]) (fun _ => rfl) e (fun x1 e => ?_)
  refine v_goto O dX8_mayOf_130 77 (by decide) ?_
  refine v_sub [1, 2, 3, 4, 5, 6, 0] rfl ?_
  exact hk77 _ _ _ _ _ _ e
set_option maxRecDepth 20000 in
theorem f_X8_mayOf_b124_ok_31 {X : Cx} {G : Gx} {z : Rs} (h41 : 41 ≤ gN G) (O : Ok X G cX8_mayOf RX8 9 wsX8_mayOf (some .int) rm_X8_mayOf) (N : Nat) (k77 : Int32 → Int32 → Int32 → Int32 → Int32 → Hp → Option Rs) (hk77 : ∀ (v2 : Int32) (v5 : Int32) (v6 : Int32) (v7 : Int32) (v8 : Int32) (h : Hp), k77 v2 v5 v6 v7 v8 h = some z → V X G 9 (QI X G z) h 77 [(0, .ref (G.1 25)), (1, .ref (G.1 31)), (2, .int v2), (5, .int v5), (6, .int v6), (7, .int v7), (8, .int v8)] []) (v2 : Int32) (v5 : Int32) (v6 : Int32) (v8 : Int32) (s0 : Int32) (s1 : Int32) (h : Hp) (e : f_X8_mayOf_b124 31 N k77 v2 v5 v6 v8 s0 s1 h = some z) : V X G 9 (QI X G z) h 124 [(0, .ref (G.1 25)), (1, .ref (G.1 31)), (2, .int v2), (5, .int v5), (6, .int v6), (8, .int v8)] [.int s0, .int s1] := by
  unfold f_X8_mayOf_b124 at e
  refine v_ior O dX8_mayOf_124 ?_
  refine v_istore O dX8_mayOf_125 (by decide) (fun x1 => [(7, .int x1), (0, .ref (G.1 25)), (1, .ref (G.1 31)), (2, .int v2), (5, .int v5), (6, .int v6), (8, .int v8)]) (fun _ => rfl) e (fun x1 e => ?_)
  refine v_sub [1, 2, 3, 4, 5, 0, 6] rfl ?_
  exact f_X8_mayOf_b127_ok_31 h41 O N k77 hk77 _ _ _ _ _ _ e
set_option maxRecDepth 20000 in
theorem f_X8_mayOf_b77_ok_31 {X : Cx} {G : Gx} {z : Rs} (h41 : 41 ≤ gN G) (O : Ok X G cX8_mayOf RX8 9 wsX8_mayOf (some .int) rm_X8_mayOf) (N : Nat) (k77 : Int32 → Int32 → Int32 → Int32 → Int32 → Hp → Option Rs) (hk77 : ∀ (v2 : Int32) (v5 : Int32) (v6 : Int32) (v7 : Int32) (v8 : Int32) (h : Hp), k77 v2 v5 v6 v7 v8 h = some z → V X G 9 (QI X G z) h 77 [(0, .ref (G.1 25)), (1, .ref (G.1 31)), (2, .int v2), (5, .int v5), (6, .int v6), (7, .int v7), (8, .int v8)] []) (v2 : Int32) (v5 : Int32) (v6 : Int32) (v7 : Int32) (v8 : Int32) (h : Hp) (e : f_X8_mayOf_b77 31 N k77 v2 v5 v6 v7 v8 h = some z) : V X G 9 (QI X G z) h 77 [(0, .ref (G.1 25)), (1, .ref (G.1 31)), (2, .int v2), (5, .int v5), (6, .int v6), (7, .int v7), (8, .int v8)] [] := by
  unfold f_X8_mayOf_b77 at e
  refine v_iload O dX8_mayOf_77 6 rfl ?_
  refine v_aload_n O dX8_mayOf_79 0 rfl rfl ?_
  refine v_get O fd_X8_mayOf_7 (g41 h41 (by decide)) (cg_25 G _) rfl dX8_mayOf_80 ?_
  refine v_aload_n O dX8_mayOf_83 0 rfl rfl ?_
  refine v_get O fd_X8_mayOf_13 (g41 h41 (by decide)) (cg_25 G _) rfl dX8_mayOf_84 ?_
  refine v_imul O dX8_mayOf_87 ?_
  refine v_icmp_ge O dX8_mayOf_88 133 (by decide) e (fun e => ?_) (fun e => ?_)
  · refine v_aload_n O dX8_mayOf_133 1 rfl rfl ?_
    refine v_iload_n O dX8_mayOf_134 2 rfl rfl ?_
    refine v_iload O dX8_mayOf_135 4 rfl ?_
    refine v_iast O (g41 h41 (by decide)) (cg_31 G _) (cw_31 G _ _ _) dX8_mayOf_137 e (fun h1 e => ?_)
    refine v_iload O dX8_mayOf_138 5 rfl ?_
    exact v_iret O dX8_mayOf_140 e
  · refine v_iload O dX8_mayOf_91 3 rfl ?_
    refine v_iload O dX8_mayOf_93 6 rfl ?_
    refine v_cSi O [.int v5, .int v8] [] gX8_mayOf_X8_has cw_X8_mayOf_X8_has rfl rfl (Nat.le_of_ble_eq_true rfl) dX8_mayOf_95 e (fun _ e9 => f_X8_has_ok e9) (fun r2 h3 e => ?_)
    refine v_if_eq O dX8_mayOf_98 127 (by decide) e (fun e => ?_) (fun e => ?_)
    · exact f_X8_mayOf_b127_ok_31 h41 O N k77 hk77 _ _ _ _ _ _ e
    · refine v_aload_n O dX8_mayOf_101 1 rfl rfl ?_
      refine v_iload_n O dX8_mayOf_102 2 rfl rfl ?_
      refine v_iload O dX8_mayOf_103 6 rfl ?_
      refine v_iast O (g41 h41 (by decide)) (cg_31 G _) (cw_31 G _ _ _) dX8_mayOf_105 e (fun h4 e => ?_)
      refine v_iload O dX8_mayOf_106 5 rfl ?_
      refine v_aload_n O dX8_mayOf_108 0 rfl rfl ?_
      refine v_aload_n O dX8_mayOf_109 1 rfl rfl ?_
      refine v_cVi O [.ref (G.1 31)] [.int v7] gX8_mayOf_X8_attackedBy cw_X8_mayOf_X8_attackedBy rfl rfl (g41 h41 (by decide)) (cg_25 G _) rfl rfl (Nat.le_of_ble_eq_true rfl) dX8_mayOf_110 e (fun _ e9 => f_X8_attackedBy_ok_31 h41 e9) (fun r5 h6 e => ?_)
      refine v_if_ne O dX8_mayOf_113 123 (by decide) e (fun e => ?_) (fun e => ?_)
      · refine v_iconst (v := 0) O dX8_mayOf_123 (by decide) ?_
        refine v_sub [0, 1, 2, 3, 4, 6] rfl ?_
        exact f_X8_mayOf_b124_ok_31 h41 O N k77 hk77 _ _ _ _ _ _ _ e
      · refine v_iconst (v := 1) O dX8_mayOf_116 (by decide) ?_
        refine v_iload O dX8_mayOf_117 6 rfl ?_
        refine v_ishl O dX8_mayOf_119 ?_
        refine v_goto O dX8_mayOf_120 124 (by decide) ?_
        refine v_sub [0, 1, 2, 3, 4, 6] rfl ?_
        exact f_X8_mayOf_b124_ok_31 h41 O N k77 hk77 _ _ _ _ _ _ _ e
theorem f_X8_mayOf_l77_ok_31 {X : Cx} {G : Gx} {z : Rs} (h41 : 41 ≤ gN G) (O : Ok X G cX8_mayOf RX8 9 wsX8_mayOf (some .int) rm_X8_mayOf) (N : Nat) : ∀ (n : Nat) (v2 : Int32) (v5 : Int32) (v6 : Int32) (v7 : Int32) (v8 : Int32) (h : Hp), f_X8_mayOf_l77 31 N n v2 v5 v6 v7 v8 h = some z → V X G 9 (QI X G z) h 77 [(0, .ref (G.1 25)), (1, .ref (G.1 31)), (2, .int v2), (5, .int v5), (6, .int v6), (7, .int v7), (8, .int v8)] [] := by
  intro n
  induction n with
  | zero => intro v2 v5 v6 v7 v8 h e; cases e
  | succ n ih => intro v2 v5 v6 v7 v8 h e; exact f_X8_mayOf_b77_ok_31 h41 O N _ ih v2 v5 v6 v7 v8 h e
set_option maxRecDepth 20000 in
theorem f_X8_mayOf_b24_ok_31 {X : Cx} {G : Gx} {z : Rs} (h41 : 41 ≤ gN G) (O : Ok X G cX8_mayOf RX8 9 wsX8_mayOf (some .int) rm_X8_mayOf) (N : Nat) (v2 : Int32) (h : Hp) (e : f_X8_mayOf_b24 31 N v2 h = some z) : V X G 9 (QI X G z) h 24 [(0, .ref (G.1 25)), (1, .ref (G.1 31)), (2, .int v2)] [] := by
  unfold f_X8_mayOf_b24 at e
  refine v_aload_n O dX8_mayOf_24 0 rfl rfl ?_
  refine v_aload_n O dX8_mayOf_25 1 rfl rfl ?_
  refine v_cVi O [.ref (G.1 31)] [] gX8_mayOf_X8_takenBy cw_X8_mayOf_X8_takenBy rfl rfl (g41 h41 (by decide)) (cg_25 G _) rfl rfl (Nat.le_of_ble_eq_true rfl) dX8_mayOf_26 e (fun _ e9 => f_X8_takenBy_ok_31 h41 e9) (fun r1 h2 e => ?_)
  refine v_istore O dX8_mayOf_29 (by decide) (fun x3 => [(4, .int x3), (0, .ref (G.1 25)), (1, .ref (G.1 31)), (2, .int v2)]) (fun _ => rfl) e (fun x3 e => ?_)
  refine v_aload_n O dX8_mayOf_31 1 rfl rfl ?_
  refine v_aload_n O dX8_mayOf_32 1 rfl rfl ?_
  refine v_get O fd_X8_mayOf_16 (g41 h41 (by decide)) (cg_25 G _) rfl dX8_mayOf_33 ?_
  refine v_iconst (v := 4) O dX8_mayOf_36 (by decide) ?_
  refine v_iload_n O dX8_mayOf_37 3 rfl rfl ?_
  refine v_imul O dX8_mayOf_38 ?_
  refine v_iald O (g41 h41 (by decide)) (cg_26 G _) dX8_mayOf_39 e (fun e => ?_)
  refine v_aload_n O dX8_mayOf_40 2 rfl rfl ?_
  refine v_iload_n O dX8_mayOf_41 3 rfl rfl ?_
  refine v_iald O (g41 h41 (by decide)) (cg_31 G _) dX8_mayOf_42 e (fun e => ?_)
  refine v_iload O dX8_mayOf_43 0 rfl ?_
  refine v_cVi O [.int (h2.1 26 (ix ((4 : Int32) * v2))), .int (h2.1 31 (ix v2)), .int x3] [] gX8_mayOf_X8_reachOf cw_X8_mayOf_X8_reachOf rfl rfl (g41 h41 (by decide)) (cg_25 G _) rfl rfl (Nat.le_of_ble_eq_true rfl) dX8_mayOf_45 e (fun _ e9 => f_X8_reachOf_ok h41 e9) (fun r4 h5 e => ?_)
  refine v_iload O dX8_mayOf_48 0 rfl ?_
  refine v_iconst (v := (-1)) O dX8_mayOf_50 (by decide) ?_
  refine v_ixor O dX8_mayOf_51 ?_
  refine v_iand O dX8_mayOf_52 ?_
  refine v_istore O dX8_mayOf_53 (by decide) (fun x6 => [(5, .int x6), (4, .int x3), (0, .ref (G.1 25)), (1, .ref (G.1 31)), (2, .int v2)]) (fun _ => rfl) e (fun x6 e => ?_)
  refine v_aload_n O dX8_mayOf_55 2 rfl rfl ?_
  refine v_get O fd_X8_mayOf_176 (g41 h41 (by decide)) (cg_25 G _) rfl dX8_mayOf_56 ?_
  refine v_iconst (v := 2) O dX8_mayOf_59 (by decide) ?_
  refine v_icmp_eq O dX8_mayOf_60 66 (by decide) e (fun e => ?_) (fun e => ?_)
  · refine v_aload_n O dX8_mayOf_66 3 rfl rfl ?_
    refine v_iload_n O dX8_mayOf_67 4 rfl rfl ?_
    refine v_iald O (g41 h41 (by decide)) (cg_31 G _) dX8_mayOf_68 e (fun e => ?_)
    refine v_istore O dX8_mayOf_69 (by decide) (fun x7 => [(6, .int x7), (5, .int x6), (4, .int x3), (0, .ref (G.1 25)), (1, .ref (G.1 31)), (2, .int v2)]) (fun _ => rfl) e (fun x7 e => ?_)
    refine v_iconst (v := 0) O dX8_mayOf_71 (by decide) ?_
    refine v_istore O dX8_mayOf_72 (by decide) (fun x8 => [(7, .int x8), (6, .int x7), (5, .int x6), (4, .int x3), (0, .ref (G.1 25)), (1, .ref (G.1 31)), (2, .int v2)]) (fun _ => rfl) e (fun x8 e => ?_)
    refine v_iconst (v := 0) O dX8_mayOf_74 (by decide) ?_
    refine v_istore O dX8_mayOf_75 (by decide) (fun x9 => [(8, .int x9), (7, .int x8), (6, .int x7), (5, .int x6), (4, .int x3), (0, .ref (G.1 25)), (1, .ref (G.1 31)), (2, .int v2)]) (fun _ => rfl) e (fun x9 e => ?_)
    refine v_sub [5, 6, 7, 3, 2, 1, 0] rfl ?_
    exact f_X8_mayOf_l77_ok_31 h41 O N N _ _ _ _ _ _ e
  · refine v_iload O dX8_mayOf_63 0 rfl ?_
    exact v_iret O dX8_mayOf_65 e
set_option maxRecDepth 20000 in
theorem f_X8_mayOf_ok_31 {l : Launch} {G : Gx} {N : Nat} (h41 : 41 ≤ gN G) {a1 : Int32} {a2 : Int32} {h : Hp} {z : Rs} (e : f_X8_mayOf 31 N a1 a2 h = some z) : CI l G yX8_mayOf wsX8_mayOf rm_X8_mayOf [.ref (G.1 25), .ref (G.1 31), .int a1, .int a2] h z := by
  refine m_int _ (by decide) rfl [(0, .ref (G.1 25)), (1, .ref (G.1 31)), (2, .int a1), (3, .int a2)] rfl (Nat.le_of_ble_eq_true rfl) (fun X O => ?_)
  unfold f_X8_mayOf at e
  refine v_aload_n O dX8_mayOf_0 0 rfl rfl ?_
  refine v_get O fd_X8_mayOf_176 (g41 h41 (by decide)) (cg_25 G _) rfl dX8_mayOf_1 ?_
  refine v_iconst (v := 1) O dX8_mayOf_4 (by decide) ?_
  refine v_icmp_ne O dX8_mayOf_5 24 (by decide) e (fun e => ?_) (fun e => ?_)
  · refine v_sub [0, 1, 2] rfl ?_
    exact f_X8_mayOf_b24_ok_31 h41 O N _ _ e
  · refine v_aload_n O dX8_mayOf_8 0 rfl rfl ?_
    refine v_get O fd_X8_mayOf_16 (g41 h41 (by decide)) (cg_25 G _) rfl dX8_mayOf_9 ?_
    refine v_iconst (v := 4) O dX8_mayOf_12 (by decide) ?_
    refine v_iload_n O dX8_mayOf_13 2 rfl rfl ?_
    refine v_imul O dX8_mayOf_14 ?_
    refine v_iconst (v := 1) O dX8_mayOf_15 (by decide) ?_
    refine v_iadd O dX8_mayOf_16 ?_
    refine v_iald O (g41 h41 (by decide)) (cg_26 G _) dX8_mayOf_17 e (fun e => ?_)
    refine v_iload_n O dX8_mayOf_18 3 rfl rfl ?_
    refine v_icmp_eq O dX8_mayOf_19 24 (by decide) e (fun e => ?_) (fun e => ?_)
    · refine v_sub [0, 1, 2] rfl ?_
      exact f_X8_mayOf_b24_ok_31 h41 O N _ _ e
    · refine v_iconst (v := 0) O dX8_mayOf_22 (by decide) ?_
      exact v_iret O dX8_mayOf_23 e
set_option maxRecDepth 20000 in
theorem f_X8_mayOf_b127_ok_39 {X : Cx} {G : Gx} {z : Rs} (h41 : 41 ≤ gN G) (O : Ok X G cX8_mayOf RX8 9 wsX8_mayOf (some .int) rm_X8_mayOf) (N : Nat) (k77 : Int32 → Int32 → Int32 → Int32 → Int32 → Hp → Option Rs) (hk77 : ∀ (v2 : Int32) (v5 : Int32) (v6 : Int32) (v7 : Int32) (v8 : Int32) (h : Hp), k77 v2 v5 v6 v7 v8 h = some z → V X G 9 (QI X G z) h 77 [(0, .ref (G.1 25)), (1, .ref (G.1 39)), (2, .int v2), (5, .int v5), (6, .int v6), (7, .int v7), (8, .int v8)] []) (v2 : Int32) (v5 : Int32) (v6 : Int32) (v7 : Int32) (v8 : Int32) (h : Hp) (e : f_X8_mayOf_b127 39 N k77 v2 v5 v6 v7 v8 h = some z) : V X G 9 (QI X G z) h 127 [(0, .ref (G.1 25)), (1, .ref (G.1 39)), (2, .int v2), (5, .int v5), (6, .int v6), (7, .int v7), (8, .int v8)] [] := by
  unfold f_X8_mayOf_b127 at e
  refine v_iinc (v := 1) O dX8_mayOf_127 6 rfl (by decide) (by decide) (fun x1 => [(8, .int x1), (0, .ref (G.1 25)), (1, .ref (G.1 39)), (2, .int v2), (5, .int v5), (6, .int v6), (7, .int v7)]) (fun _ => rfl) e (fun x1 e => ?_)
  refine v_goto O dX8_mayOf_130 77 (by decide) ?_
  refine v_sub [1, 2, 3, 4, 5, 6, 0] rfl ?_
  exact hk77 _ _ _ _ _ _ e
set_option maxRecDepth 20000 in
theorem f_X8_mayOf_b124_ok_39 {X : Cx} {G : Gx} {z : Rs} (h41 : 41 ≤ gN G) (O : Ok X G cX8_mayOf RX8 9 wsX8_mayOf (some .int) rm_X8_mayOf) (N : Nat) (k77 : Int32 → Int32 → Int32 → Int32 → Int32 → Hp → Option Rs) (hk77 : ∀ (v2 : Int32) (v5 : Int32) (v6 : Int32) (v7 : Int32) (v8 : Int32) (h : Hp), k77 v2 v5 v6 v7 v8 h = some z → V X G 9 (QI X G z) h 77 [(0, .ref (G.1 25)), (1, .ref (G.1 39)), (2, .int v2), (5, .int v5), (6, .int v6), (7, .int v7), (8, .int v8)] []) (v2 : Int32) (v5 : Int32) (v6 : Int32) (v8 : Int32) (s0 : Int32) (s1 : Int32) (h : Hp) (e : f_X8_mayOf_b124 39 N k77 v2 v5 v6 v8 s0 s1 h = some z) : V X G 9 (QI X G z) h 124 [(0, .ref (G.1 25)), (1, .ref (G.1 39)), (2, .int v2), (5, .int v5), (6, .int v6), (8, .int v8)] [.int s0, .int s1] := by
  unfold f_X8_mayOf_b124 at e
  refine v_ior O dX8_mayOf_124 ?_
  refine v_istore O dX8_mayOf_125 (by decide) (fun x1 => [(7, .int x1), (0, .ref (G.1 25)), (1, .ref (G.1 39)), (2, .int v2), (5, .int v5), (6, .int v6), (8, .int v8)]) (fun _ => rfl) e (fun x1 e => ?_)
  refine v_sub [1, 2, 3, 4, 5, 0, 6] rfl ?_
  exact f_X8_mayOf_b127_ok_39 h41 O N k77 hk77 _ _ _ _ _ _ e
set_option maxRecDepth 20000 in
theorem f_X8_mayOf_b77_ok_39 {X : Cx} {G : Gx} {z : Rs} (h41 : 41 ≤ gN G) (O : Ok X G cX8_mayOf RX8 9 wsX8_mayOf (some .int) rm_X8_mayOf) (N : Nat) (k77 : Int32 → Int32 → Int32 → Int32 → Int32 → Hp → Option Rs) (hk77 : ∀ (v2 : Int32) (v5 : Int32) (v6 : Int32) (v7 : Int32) (v8 : Int32) (h : Hp), k77 v2 v5 v6 v7 v8 h = some z → V X G 9 (QI X G z) h 77 [(0, .ref (G.1 25)), (1, .ref (G.1 39)), (2, .int v2), (5, .int v5), (6, .int v6), (7, .int v7), (8, .int v8)] []) (v2 : Int32) (v5 : Int32) (v6 : Int32) (v7 : Int32) (v8 : Int32) (h : Hp) (e : f_X8_mayOf_b77 39 N k77 v2 v5 v6 v7 v8 h = some z) : V X G 9 (QI X G z) h 77 [(0, .ref (G.1 25)), (1, .ref (G.1 39)), (2, .int v2), (5, .int v5), (6, .int v6), (7, .int v7), (8, .int v8)] [] := by
  unfold f_X8_mayOf_b77 at e
  refine v_iload O dX8_mayOf_77 6 rfl ?_
  refine v_aload_n O dX8_mayOf_79 0 rfl rfl ?_
  refine v_get O fd_X8_mayOf_7 (g41 h41 (by decide)) (cg_25 G _) rfl dX8_mayOf_80 ?_
  refine v_aload_n O dX8_mayOf_83 0 rfl rfl ?_
  refine v_get O fd_X8_mayOf_13 (g41 h41 (by decide)) (cg_25 G _) rfl dX8_mayOf_84 ?_
  refine v_imul O dX8_mayOf_87 ?_
  refine v_icmp_ge O dX8_mayOf_88 133 (by decide) e (fun e => ?_) (fun e => ?_)
  · refine v_aload_n O dX8_mayOf_133 1 rfl rfl ?_
    refine v_iload_n O dX8_mayOf_134 2 rfl rfl ?_
    refine v_iload O dX8_mayOf_135 4 rfl ?_
    refine v_iast O (g41 h41 (by decide)) (cg_39 G _) (cw_39 G _ _ _) dX8_mayOf_137 e (fun h1 e => ?_)
    refine v_iload O dX8_mayOf_138 5 rfl ?_
    exact v_iret O dX8_mayOf_140 e
  · refine v_iload O dX8_mayOf_91 3 rfl ?_
    refine v_iload O dX8_mayOf_93 6 rfl ?_
    refine v_cSi O [.int v5, .int v8] [] gX8_mayOf_X8_has cw_X8_mayOf_X8_has rfl rfl (Nat.le_of_ble_eq_true rfl) dX8_mayOf_95 e (fun _ e9 => f_X8_has_ok e9) (fun r2 h3 e => ?_)
    refine v_if_eq O dX8_mayOf_98 127 (by decide) e (fun e => ?_) (fun e => ?_)
    · exact f_X8_mayOf_b127_ok_39 h41 O N k77 hk77 _ _ _ _ _ _ e
    · refine v_aload_n O dX8_mayOf_101 1 rfl rfl ?_
      refine v_iload_n O dX8_mayOf_102 2 rfl rfl ?_
      refine v_iload O dX8_mayOf_103 6 rfl ?_
      refine v_iast O (g41 h41 (by decide)) (cg_39 G _) (cw_39 G _ _ _) dX8_mayOf_105 e (fun h4 e => ?_)
      refine v_iload O dX8_mayOf_106 5 rfl ?_
      refine v_aload_n O dX8_mayOf_108 0 rfl rfl ?_
      refine v_aload_n O dX8_mayOf_109 1 rfl rfl ?_
      refine v_cVi O [.ref (G.1 39)] [.int v7] gX8_mayOf_X8_attackedBy cw_X8_mayOf_X8_attackedBy rfl rfl (g41 h41 (by decide)) (cg_25 G _) rfl rfl (Nat.le_of_ble_eq_true rfl) dX8_mayOf_110 e (fun _ e9 => f_X8_attackedBy_ok_39 h41 e9) (fun r5 h6 e => ?_)
      refine v_if_ne O dX8_mayOf_113 123 (by decide) e (fun e => ?_) (fun e => ?_)
      · refine v_iconst (v := 0) O dX8_mayOf_123 (by decide) ?_
        refine v_sub [0, 1, 2, 3, 4, 6] rfl ?_
        exact f_X8_mayOf_b124_ok_39 h41 O N k77 hk77 _ _ _ _ _ _ _ e
      · refine v_iconst (v := 1) O dX8_mayOf_116 (by decide) ?_
        refine v_iload O dX8_mayOf_117 6 rfl ?_
        refine v_ishl O dX8_mayOf_119 ?_
        refine v_goto O dX8_mayOf_120 124 (by decide) ?_
        refine v_sub [0, 1, 2, 3, 4, 6] rfl ?_
        exact f_X8_mayOf_b124_ok_39 h41 O N k77 hk77 _ _ _ _ _ _ _ e
theorem f_X8_mayOf_l77_ok_39 {X : Cx} {G : Gx} {z : Rs} (h41 : 41 ≤ gN G) (O : Ok X G cX8_mayOf RX8 9 wsX8_mayOf (some .int) rm_X8_mayOf) (N : Nat) : ∀ (n : Nat) (v2 : Int32) (v5 : Int32) (v6 : Int32) (v7 : Int32) (v8 : Int32) (h : Hp), f_X8_mayOf_l77 39 N n v2 v5 v6 v7 v8 h = some z → V X G 9 (QI X G z) h 77 [(0, .ref (G.1 25)), (1, .ref (G.1 39)), (2, .int v2), (5, .int v5), (6, .int v6), (7, .int v7), (8, .int v8)] [] := by
  intro n
  induction n with
  | zero => intro v2 v5 v6 v7 v8 h e; cases e
  | succ n ih => intro v2 v5 v6 v7 v8 h e; exact f_X8_mayOf_b77_ok_39 h41 O N _ ih v2 v5 v6 v7 v8 h e
set_option maxRecDepth 20000 in
theorem f_X8_mayOf_b24_ok_39 {X : Cx} {G : Gx} {z : Rs} (h41 : 41 ≤ gN G) (O : Ok X G cX8_mayOf RX8 9 wsX8_mayOf (some .int) rm_X8_mayOf) (N : Nat) (v2 : Int32) (h : Hp) (e : f_X8_mayOf_b24 39 N v2 h = some z) : V X G 9 (QI X G z) h 24 [(0, .ref (G.1 25)), (1, .ref (G.1 39)), (2, .int v2)] [] := by
  unfold f_X8_mayOf_b24 at e
  refine v_aload_n O dX8_mayOf_24 0 rfl rfl ?_
  refine v_aload_n O dX8_mayOf_25 1 rfl rfl ?_
  refine v_cVi O [.ref (G.1 39)] [] gX8_mayOf_X8_takenBy cw_X8_mayOf_X8_takenBy rfl rfl (g41 h41 (by decide)) (cg_25 G _) rfl rfl (Nat.le_of_ble_eq_true rfl) dX8_mayOf_26 e (fun _ e9 => f_X8_takenBy_ok_39 h41 e9) (fun r1 h2 e => ?_)
  refine v_istore O dX8_mayOf_29 (by decide) (fun x3 => [(4, .int x3), (0, .ref (G.1 25)), (1, .ref (G.1 39)), (2, .int v2)]) (fun _ => rfl) e (fun x3 e => ?_)
  refine v_aload_n O dX8_mayOf_31 1 rfl rfl ?_
  refine v_aload_n O dX8_mayOf_32 1 rfl rfl ?_
  refine v_get O fd_X8_mayOf_16 (g41 h41 (by decide)) (cg_25 G _) rfl dX8_mayOf_33 ?_
  refine v_iconst (v := 4) O dX8_mayOf_36 (by decide) ?_
  refine v_iload_n O dX8_mayOf_37 3 rfl rfl ?_
  refine v_imul O dX8_mayOf_38 ?_
  refine v_iald O (g41 h41 (by decide)) (cg_26 G _) dX8_mayOf_39 e (fun e => ?_)
  refine v_aload_n O dX8_mayOf_40 2 rfl rfl ?_
  refine v_iload_n O dX8_mayOf_41 3 rfl rfl ?_
  refine v_iald O (g41 h41 (by decide)) (cg_39 G _) dX8_mayOf_42 e (fun e => ?_)
  refine v_iload O dX8_mayOf_43 0 rfl ?_
  refine v_cVi O [.int (h2.1 26 (ix ((4 : Int32) * v2))), .int (h2.1 39 (ix v2)), .int x3] [] gX8_mayOf_X8_reachOf cw_X8_mayOf_X8_reachOf rfl rfl (g41 h41 (by decide)) (cg_25 G _) rfl rfl (Nat.le_of_ble_eq_true rfl) dX8_mayOf_45 e (fun _ e9 => f_X8_reachOf_ok h41 e9) (fun r4 h5 e => ?_)
  refine v_iload O dX8_mayOf_48 0 rfl ?_
  refine v_iconst (v := (-1)) O dX8_mayOf_50 (by decide) ?_
  refine v_ixor O dX8_mayOf_51 ?_
  refine v_iand O dX8_mayOf_52 ?_
  refine v_istore O dX8_mayOf_53 (by decide) (fun x6 => [(5, .int x6), (4, .int x3), (0, .ref (G.1 25)), (1, .ref (G.1 39)), (2, .int v2)]) (fun _ => rfl) e (fun x6 e => ?_)
  refine v_aload_n O dX8_mayOf_55 2 rfl rfl ?_
  refine v_get O fd_X8_mayOf_176 (g41 h41 (by decide)) (cg_25 G _) rfl dX8_mayOf_56 ?_
  refine v_iconst (v := 2) O dX8_mayOf_59 (by decide) ?_
  refine v_icmp_eq O dX8_mayOf_60 66 (by decide) e (fun e => ?_) (fun e => ?_)
  · refine v_aload_n O dX8_mayOf_66 3 rfl rfl ?_
    refine v_iload_n O dX8_mayOf_67 4 rfl rfl ?_
    refine v_iald O (g41 h41 (by decide)) (cg_39 G _) dX8_mayOf_68 e (fun e => ?_)
    refine v_istore O dX8_mayOf_69 (by decide) (fun x7 => [(6, .int x7), (5, .int x6), (4, .int x3), (0, .ref (G.1 25)), (1, .ref (G.1 39)), (2, .int v2)]) (fun _ => rfl) e (fun x7 e => ?_)
    refine v_iconst (v := 0) O dX8_mayOf_71 (by decide) ?_
    refine v_istore O dX8_mayOf_72 (by decide) (fun x8 => [(7, .int x8), (6, .int x7), (5, .int x6), (4, .int x3), (0, .ref (G.1 25)), (1, .ref (G.1 39)), (2, .int v2)]) (fun _ => rfl) e (fun x8 e => ?_)
    refine v_iconst (v := 0) O dX8_mayOf_74 (by decide) ?_
    refine v_istore O dX8_mayOf_75 (by decide) (fun x9 => [(8, .int x9), (7, .int x8), (6, .int x7), (5, .int x6), (4, .int x3), (0, .ref (G.1 25)), (1, .ref (G.1 39)), (2, .int v2)]) (fun _ => rfl) e (fun x9 e => ?_)
    refine v_sub [5, 6, 7, 3, 2, 1, 0] rfl ?_
    exact f_X8_mayOf_l77_ok_39 h41 O N N _ _ _ _ _ _ e
  · refine v_iload O dX8_mayOf_63 0 rfl ?_
    exact v_iret O dX8_mayOf_65 e
set_option maxRecDepth 20000 in
theorem f_X8_mayOf_ok_39 {l : Launch} {G : Gx} {N : Nat} (h41 : 41 ≤ gN G) {a1 : Int32} {a2 : Int32} {h : Hp} {z : Rs} (e : f_X8_mayOf 39 N a1 a2 h = some z) : CI l G yX8_mayOf wsX8_mayOf rm_X8_mayOf [.ref (G.1 25), .ref (G.1 39), .int a1, .int a2] h z := by
  refine m_int _ (by decide) rfl [(0, .ref (G.1 25)), (1, .ref (G.1 39)), (2, .int a1), (3, .int a2)] rfl (Nat.le_of_ble_eq_true rfl) (fun X O => ?_)
  unfold f_X8_mayOf at e
  refine v_aload_n O dX8_mayOf_0 0 rfl rfl ?_
  refine v_get O fd_X8_mayOf_176 (g41 h41 (by decide)) (cg_25 G _) rfl dX8_mayOf_1 ?_
  refine v_iconst (v := 1) O dX8_mayOf_4 (by decide) ?_
  refine v_icmp_ne O dX8_mayOf_5 24 (by decide) e (fun e => ?_) (fun e => ?_)
  · refine v_sub [0, 1, 2] rfl ?_
    exact f_X8_mayOf_b24_ok_39 h41 O N _ _ e
  · refine v_aload_n O dX8_mayOf_8 0 rfl rfl ?_
    refine v_get O fd_X8_mayOf_16 (g41 h41 (by decide)) (cg_25 G _) rfl dX8_mayOf_9 ?_
    refine v_iconst (v := 4) O dX8_mayOf_12 (by decide) ?_
    refine v_iload_n O dX8_mayOf_13 2 rfl rfl ?_
    refine v_imul O dX8_mayOf_14 ?_
    refine v_iconst (v := 1) O dX8_mayOf_15 (by decide) ?_
    refine v_iadd O dX8_mayOf_16 ?_
    refine v_iald O (g41 h41 (by decide)) (cg_26 G _) dX8_mayOf_17 e (fun e => ?_)
    refine v_iload_n O dX8_mayOf_18 3 rfl rfl ?_
    refine v_icmp_eq O dX8_mayOf_19 24 (by decide) e (fun e => ?_) (fun e => ?_)
    · refine v_sub [0, 1, 2] rfl ?_
      exact f_X8_mayOf_b24_ok_39 h41 O N _ _ e
    · refine v_iconst (v := 0) O dX8_mayOf_22 (by decide) ?_
      exact v_iret O dX8_mayOf_23 e
/-! ===== X8 place ===== -/
abbrev rm_X8_place : Room := { frames := 0, cells := 0, slots := 0, locals := 0 }
theorem fd_X8_place_58 : FdO wsX8_place RX8 58 RX8 TX8 34 8 32 := ⟨by decide +kernel, rfl, by decide, by decide +kernel⟩
theorem fd_X8_place_68 : FdO wsX8_place RX8 68 RX8 TX8 34 8 4 := ⟨by decide +kernel, rfl, by decide, by decide +kernel⟩
set_option maxRecDepth 20000 in
theorem f_X8_place_b8_ok {X : Cx} {G : Gx} {z : Rs} (h41 : 41 ≤ gN G) (O : Ok X G cX8_place RX8 4 wsX8_place (none) rm_X8_place) (N : Nat) (k8 : Int32 → Int32 → Hp → Option Rs) (hk8 : ∀ (v2 : Int32) (v3 : Int32) (h : Hp), k8 v2 v3 h = some z → V X G 4 (QV X G z) h 8 [(0, .ref (G.1 25)), (2, .int v2), (3, .int v3)] []) (v2 : Int32) (v3 : Int32) (h : Hp) (e : f_X8_place_b8 N k8 v2 v3 h = some z) : V X G 4 (QV X G z) h 8 [(0, .ref (G.1 25)), (2, .int v2), (3, .int v3)] [] := by
  unfold f_X8_place_b8 at e
  refine v_iload_n O dX8_place_8 2 rfl rfl ?_
  refine v_aload_n O dX8_place_9 0 rfl rfl ?_
  refine v_get O fd_X8_place_68 (g41 h41 (by decide)) (cg_25 G _) rfl dX8_place_10 ?_
  refine v_icmp_ge O dX8_place_13 37 (by decide) e (fun e => ?_) (fun e => ?_)
  · exact v_vret O dX8_place_37 e
  · refine v_aload_n O dX8_place_16 0 rfl rfl ?_
    refine v_get O fd_X8_place_58 (g41 h41 (by decide)) (cg_25 G _) rfl dX8_place_17 ?_
    refine v_iload_n O dX8_place_20 2 rfl rfl ?_
    refine v_iload_n O dX8_place_21 1 rfl rfl ?_
    refine v_bipush (v := 12) O dX8_place_22 (by decide) ?_
    refine v_irem O dX8_place_24 e (fun e => ?_)
    refine v_iast O (g41 h41 (by decide)) (cg_39 G _) (cw_39 G _ _ _) dX8_place_25 e (fun h1 e => ?_)
    refine v_iload_n O dX8_place_26 1 rfl rfl ?_
    refine v_bipush (v := 12) O dX8_place_27 (by decide) ?_
    refine v_idiv O dX8_place_29 e (fun e => ?_)
    refine v_istore_n O dX8_place_30 rfl (by decide) (fun x2 => [(2, .int x2), (0, .ref (G.1 25)), (3, .int v3)]) (fun _ => rfl) e (fun x2 e => ?_)
    refine v_iinc (v := 1) O dX8_place_31 2 rfl (by decide) (by decide) (fun x3 => [(3, .int x3), (2, .int x2), (0, .ref (G.1 25))]) (fun _ => rfl) e (fun x3 e => ?_)
    refine v_goto O dX8_place_34 8 (by decide) ?_
    refine v_sub [2, 1, 0] rfl ?_
    exact hk8 _ _ _ e
theorem f_X8_place_l8_ok {X : Cx} {G : Gx} {z : Rs} (h41 : 41 ≤ gN G) (O : Ok X G cX8_place RX8 4 wsX8_place (none) rm_X8_place) (N : Nat) : ∀ (n : Nat) (v2 : Int32) (v3 : Int32) (h : Hp), f_X8_place_l8 N n v2 v3 h = some z → V X G 4 (QV X G z) h 8 [(0, .ref (G.1 25)), (2, .int v2), (3, .int v3)] [] := by
  intro n
  induction n with
  | zero => intro v2 v3 h e; cases e
  | succ n ih => intro v2 v3 h e; exact f_X8_place_b8_ok h41 O N _ ih v2 v3 h e
set_option maxRecDepth 20000 in
theorem f_X8_place_ok {l : Launch} {G : Gx} {N : Nat} (h41 : 41 ≤ gN G) {a0 : Int32} {h : Hp} {z : Rs} (e : f_X8_place N a0 h = some z) : CV l G yX8_place wsX8_place rm_X8_place [.ref (G.1 25), .int a0] h z := by
  refine m_void _ (by decide) rfl [(0, .ref (G.1 25)), (1, .int a0)] rfl (Nat.le_of_ble_eq_true rfl) (fun X O => ?_)
  unfold f_X8_place at e
  refine v_iload_n O dX8_place_0 1 rfl rfl ?_
  refine v_sipush (v := 20736) O dX8_place_1 (by decide) ?_
  refine v_irem O dX8_place_4 e (fun e => ?_)
  refine v_istore_n O dX8_place_5 rfl (by decide) (fun x1 => [(2, .int x1), (0, .ref (G.1 25)), (1, .int a0)]) (fun _ => rfl) e (fun x1 e => ?_)
  refine v_iconst (v := 0) O dX8_place_6 (by decide) ?_
  refine v_istore_n O dX8_place_7 rfl (by decide) (fun x2 => [(3, .int x2), (2, .int x1), (0, .ref (G.1 25)), (1, .int a0)]) (fun _ => rfl) e (fun x2 e => ?_)
  refine v_sub [2, 1, 0] rfl ?_
  exact f_X8_place_l8_ok h41 O N N _ _ _ e
