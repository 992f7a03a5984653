/-! ===== X8 areHome ===== -/
abbrev rm_X8_areHome : Room := { frames := 0, cells := 0, slots := 0, locals := 0 }
theorem fd_X8_areHome_16 : FdO wsX8_areHome RX8 16 RX8 TX8 34 8 5 := ⟨by decide +kernel, rfl, by decide, by decide +kernel⟩
theorem fd_X8_areHome_58 : FdO wsX8_areHome RX8 58 RX8 TX8 34 8 32 := ⟨by decide +kernel, rfl, by decide, by decide +kernel⟩
theorem fd_X8_areHome_68 : FdO wsX8_areHome RX8 68 RX8 TX8 34 8 4 := ⟨by decide +kernel, rfl, by decide, by decide +kernel⟩
set_option maxRecDepth 20000 in
theorem f_X8_areHome_b123_ok {X : Cx} {G : Gx} {z : Rs} (h41 : 41 ≤ gN G) (O : Ok X G cX8_areHome RX8 7 wsX8_areHome (some .boolean) rm_X8_areHome) (N : Nat) (k4 : Int32 → Int32 → Int32 → Hp → Option Rs) (k18 : Int32 → Int32 → Int32 → Int32 → Int32 → Hp → Option Rs) (hk4 : ∀ (v1 : Int32) (v2 : Int32) (v3 : Int32) (h : Hp), k4 v1 v2 v3 h = some z → V X G 7 (QI X G z) h 4 [(0, .ref (G.1 25)), (1, .int v1), (2, .int v2), (3, .int v3)] []) (hk18 : ∀ (v1 : Int32) (v2 : Int32) (v3 : Int32) (v4 : Int32) (v5 : Int32) (h : Hp), k18 v1 v2 v3 v4 v5 h = some z → V X G 7 (QI X G z) h 18 [(0, .ref (G.1 25)), (1, .int v1), (2, .int v2), (3, .int v3), (4, .int v4), (5, .int v5)] []) (v1 : Int32) (v2 : Int32) (v3 : Int32) (v5 : Int32) (s0 : Int32) (h : Hp) (e : f_X8_areHome_b123 N k4 k18 v1 v2 v3 v5 s0 h = some z) : V X G 7 (QI X G z) h 123 [(0, .ref (G.1 25)), (1, .int v1), (2, .int v2), (3, .int v3), (5, .int v5)] [.int s0] := by
  unfold f_X8_areHome_b123 at e
  refine v_istore O dX8_areHome_123 (by decide) (fun x1 => [(4, .int x1), (0, .ref (G.1 25)), (1, .int v1), (2, .int v2), (3, .int v3), (5, .int v5)]) (fun _ => rfl) e (fun x1 e => ?_)
  refine v_iinc (v := 1) O dX8_areHome_125 5 rfl (by decide) (by decide) (fun x2 => [(5, .int x2), (4, .int x1), (0, .ref (G.1 25)), (1, .int v1), (2, .int v2), (3, .int v3)]) (fun _ => rfl) e (fun x2 e => ?_)
  refine v_goto O dX8_areHome_128 18 (by decide) ?_
  refine v_sub [2, 3, 4, 5, 1, 0] rfl ?_
  exact hk18 _ _ _ _ _ _ e
set_option maxRecDepth 20000 in
theorem f_X8_areHome_b118_ok {X : Cx} {G : Gx} {z : Rs} (h41 : 41 ≤ gN G) (O : Ok X G cX8_areHome RX8 7 wsX8_areHome (some .boolean) rm_X8_areHome) (N : Nat) (k4 : Int32 → Int32 → Int32 → Hp → Option Rs) (k18 : Int32 → Int32 → Int32 → Int32 → Int32 → Hp → Option Rs) (hk4 : ∀ (v1 : Int32) (v2 : Int32) (v3 : Int32) (h : Hp), k4 v1 v2 v3 h = some z → V X G 7 (QI X G z) h 4 [(0, .ref (G.1 25)), (1, .int v1), (2, .int v2), (3, .int v3)] []) (hk18 : ∀ (v1 : Int32) (v2 : Int32) (v3 : Int32) (v4 : Int32) (v5 : Int32) (h : Hp), k18 v1 v2 v3 v4 v5 h = some z → V X G 7 (QI X G z) h 18 [(0, .ref (G.1 25)), (1, .int v1), (2, .int v2), (3, .int v3), (4, .int v4), (5, .int v5)] []) (v1 : Int32) (v2 : Int32) (v3 : Int32) (v5 : Int32) (h : Hp) (e : f_X8_areHome_b118 N k4 k18 v1 v2 v3 v5 h = some z) : V X G 7 (QI X G z) h 118 [(0, .ref (G.1 25)), (1, .int v1), (2, .int v2), (3, .int v3), (5, .int v5)] [] := by
  unfold f_X8_areHome_b118 at e
  refine v_iconst (v := 1) O dX8_areHome_118 (by decide) ?_
  refine v_goto O dX8_areHome_119 123 (by decide) ?_
  exact f_X8_areHome_b123_ok h41 O N k4 k18 hk4 hk18 _ _ _ _ _ _ e
set_option maxRecDepth 20000 in
theorem f_X8_areHome_b122_ok {X : Cx} {G : Gx} {z : Rs} (h41 : 41 ≤ gN G) (O : Ok X G cX8_areHome RX8 7 wsX8_areHome (some .boolean) rm_X8_areHome) (N : Nat) (k4 : Int32 → Int32 → Int32 → Hp → Option Rs) (k18 : Int32 → Int32 → Int32 → Int32 → Int32 → Hp → Option Rs) (hk4 : ∀ (v1 : Int32) (v2 : Int32) (v3 : Int32) (h : Hp), k4 v1 v2 v3 h = some z → V X G 7 (QI X G z) h 4 [(0, .ref (G.1 25)), (1, .int v1), (2, .int v2), (3, .int v3)] []) (hk18 : ∀ (v1 : Int32) (v2 : Int32) (v3 : Int32) (v4 : Int32) (v5 : Int32) (h : Hp), k18 v1 v2 v3 v4 v5 h = some z → V X G 7 (QI X G z) h 18 [(0, .ref (G.1 25)), (1, .int v1), (2, .int v2), (3, .int v3), (4, .int v4), (5, .int v5)] []) (v1 : Int32) (v2 : Int32) (v3 : Int32) (v5 : Int32) (h : Hp) (e : f_X8_areHome_b122 N k4 k18 v1 v2 v3 v5 h = some z) : V X G 7 (QI X G z) h 122 [(0, .ref (G.1 25)), (1, .int v1), (2, .int v2), (3, .int v3), (5, .int v5)] [] := by
  unfold f_X8_areHome_b122 at e
  refine v_iconst (v := 0) O dX8_areHome_122 (by decide) ?_
  exact f_X8_areHome_b123_ok h41 O N k4 k18 hk4 hk18 _ _ _ _ _ _ e
set_option maxRecDepth 20000 in
theorem f_X8_areHome_b86_ok {X : Cx} {G : Gx} {z : Rs} (h41 : 41 ≤ gN G) (O : Ok X G cX8_areHome RX8 7 wsX8_areHome (some .boolean) rm_X8_areHome) (N : Nat) (k4 : Int32 → Int32 → Int32 → Hp → Option Rs) (k18 : Int32 → Int32 → Int32 → Int32 → Int32 → Hp → Option Rs) (hk4 : ∀ (v1 : Int32) (v2 : Int32) (v3 : Int32) (h : Hp), k4 v1 v2 v3 h = some z → V X G 7 (QI X G z) h 4 [(0, .ref (G.1 25)), (1, .int v1), (2, .int v2), (3, .int v3)] []) (hk18 : ∀ (v1 : Int32) (v2 : Int32) (v3 : Int32) (v4 : Int32) (v5 : Int32) (h : Hp), k18 v1 v2 v3 v4 v5 h = some z → V X G 7 (QI X G z) h 18 [(0, .ref (G.1 25)), (1, .int v1), (2, .int v2), (3, .int v3), (4, .int v4), (5, .int v5)] []) (v1 : Int32) (v2 : Int32) (v3 : Int32) (v4 : Int32) (v5 : Int32) (s0 : Int32) (h : Hp) (e : f_X8_areHome_b86 N k4 k18 v1 v2 v3 v4 v5 s0 h = some z) : V X G 7 (QI X G z) h 86 [(0, .ref (G.1 25)), (1, .int v1), (2, .int v2), (3, .int v3), (4, .int v4), (5, .int v5)] [.int s0] := by
  unfold f_X8_areHome_b86 at e
  refine v_istore O dX8_areHome_86 (by decide) (fun x1 => [(6, .int x1), (0, .ref (G.1 25)), (1, .int v1), (2, .int v2), (3, .int v3), (4, .int v4), (5, .int v5)]) (fun _ => rfl) e (fun x1 e => ?_)
  refine v_iload O dX8_areHome_88 5 rfl ?_
  refine v_if_ne O dX8_areHome_90 118 (by decide) e (fun e => ?_) (fun e => ?_)
  · refine v_sub [1, 2, 3, 4, 6] rfl ?_
    exact f_X8_areHome_b118_ok h41 O N k4 k18 hk4 hk18 _ _ _ _ _ e
  · refine v_iload O dX8_areHome_93 0 rfl ?_
    refine v_if_eq O dX8_areHome_95 122 (by decide) e (fun e => ?_) (fun e => ?_)
    · refine v_sub [1, 2, 3, 4, 6] rfl ?_
      exact f_X8_areHome_b122_ok h41 O N k4 k18 hk4 hk18 _ _ _ _ _ e
    · refine v_aload_n O dX8_areHome_98 1 rfl rfl ?_
      refine v_get O fd_X8_areHome_58 (g41 h41 (by decide)) (cg_25 G _) rfl dX8_areHome_99 ?_
      refine v_iload_n O dX8_areHome_102 4 rfl rfl ?_
      refine v_iald O (g41 h41 (by decide)) (cg_39 G _) dX8_areHome_103 e (fun e => ?_)
      refine v_aload_n O dX8_areHome_104 1 rfl rfl ?_
      refine v_get O fd_X8_areHome_16 (g41 h41 (by decide)) (cg_25 G _) rfl dX8_areHome_105 ?_
      refine v_iconst (v := 4) O dX8_areHome_108 (by decide) ?_
      refine v_iload O dX8_areHome_109 6 rfl ?_
      refine v_imul O dX8_areHome_111 ?_
      refine v_iconst (v := 3) O dX8_areHome_112 (by decide) ?_
      refine v_iadd O dX8_areHome_113 ?_
      refine v_iald O (g41 h41 (by decide)) (cg_26 G _) dX8_areHome_114 e (fun e => ?_)
      refine v_icmp_ne O dX8_areHome_115 122 (by decide) e (fun e => ?_) (fun e => ?_)
      · refine v_sub [1, 2, 3, 4, 6] rfl ?_
        exact f_X8_areHome_b122_ok h41 O N k4 k18 hk4 hk18 _ _ _ _ _ e
      · refine v_sub [1, 2, 3, 4, 6] rfl ?_
        exact f_X8_areHome_b118_ok h41 O N k4 k18 hk4 hk18 _ _ _ _ _ e
set_option maxRecDepth 20000 in
theorem f_X8_areHome_b81_ok {X : Cx} {G : Gx} {z : Rs} (h41 : 41 ≤ gN G) (O : Ok X G cX8_areHome RX8 7 wsX8_areHome (some .boolean) rm_X8_areHome) (N : Nat) (k4 : Int32 → Int32 → Int32 → Hp → Option Rs) (k18 : Int32 → Int32 → Int32 → Int32 → Int32 → Hp → Option Rs) (hk4 : ∀ (v1 : Int32) (v2 : Int32) (v3 : Int32) (h : Hp), k4 v1 v2 v3 h = some z → V X G 7 (QI X G z) h 4 [(0, .ref (G.1 25)), (1, .int v1), (2, .int v2), (3, .int v3)] []) (hk18 : ∀ (v1 : Int32) (v2 : Int32) (v3 : Int32) (v4 : Int32) (v5 : Int32) (h : Hp), k18 v1 v2 v3 v4 v5 h = some z → V X G 7 (QI X G z) h 18 [(0, .ref (G.1 25)), (1, .int v1), (2, .int v2), (3, .int v3), (4, .int v4), (5, .int v5)] []) (v1 : Int32) (v2 : Int32) (v3 : Int32) (v4 : Int32) (v5 : Int32) (h : Hp) (e : f_X8_areHome_b81 N k4 k18 v1 v2 v3 v4 v5 h = some z) : V X G 7 (QI X G z) h 81 [(0, .ref (G.1 25)), (1, .int v1), (2, .int v2), (3, .int v3), (4, .int v4), (5, .int v5)] [] := by
  unfold f_X8_areHome_b81 at e
  refine v_iconst (v := 1) O dX8_areHome_81 (by decide) ?_
  refine v_goto O dX8_areHome_82 86 (by decide) ?_
  exact f_X8_areHome_b86_ok h41 O N k4 k18 hk4 hk18 _ _ _ _ _ _ _ e
set_option maxRecDepth 20000 in
theorem f_X8_areHome_b85_ok {X : Cx} {G : Gx} {z : Rs} (h41 : 41 ≤ gN G) (O : Ok X G cX8_areHome RX8 7 wsX8_areHome (some .boolean) rm_X8_areHome) (N : Nat) (k4 : Int32 → Int32 → Int32 → Hp → Option Rs) (k18 : Int32 → Int32 → Int32 → Int32 → Int32 → Hp → Option Rs) (hk4 : ∀ (v1 : Int32) (v2 : Int32) (v3 : Int32) (h : Hp), k4 v1 v2 v3 h = some z → V X G 7 (QI X G z) h 4 [(0, .ref (G.1 25)), (1, .int v1), (2, .int v2), (3, .int v3)] []) (hk18 : ∀ (v1 : Int32) (v2 : Int32) (v3 : Int32) (v4 : Int32) (v5 : Int32) (h : Hp), k18 v1 v2 v3 v4 v5 h = some z → V X G 7 (QI X G z) h 18 [(0, .ref (G.1 25)), (1, .int v1), (2, .int v2), (3, .int v3), (4, .int v4), (5, .int v5)] []) (v1 : Int32) (v2 : Int32) (v3 : Int32) (v4 : Int32) (v5 : Int32) (h : Hp) (e : f_X8_areHome_b85 N k4 k18 v1 v2 v3 v4 v5 h = some z) : V X G 7 (QI X G z) h 85 [(0, .ref (G.1 25)), (1, .int v1), (2, .int v2), (3, .int v3), (4, .int v4), (5, .int v5)] [] := by
  unfold f_X8_areHome_b85 at e
  refine v_iconst (v := 0) O dX8_areHome_85 (by decide) ?_
  exact f_X8_areHome_b86_ok h41 O N k4 k18 hk4 hk18 _ _ _ _ _ _ _ e
set_option maxRecDepth 20000 in
theorem f_X8_areHome_b145_ok {X : Cx} {G : Gx} {z : Rs} (h41 : 41 ≤ gN G) (O : Ok X G cX8_areHome RX8 7 wsX8_areHome (some .boolean) rm_X8_areHome) (N : Nat) (k4 : Int32 → Int32 → Int32 → Hp → Option Rs) (hk4 : ∀ (v1 : Int32) (v2 : Int32) (v3 : Int32) (h : Hp), k4 v1 v2 v3 h = some z → V X G 7 (QI X G z) h 4 [(0, .ref (G.1 25)), (1, .int v1), (2, .int v2), (3, .int v3)] []) (v1 : Int32) (v3 : Int32) (s0 : Int32) (h : Hp) (e : f_X8_areHome_b145 N k4 v1 v3 s0 h = some z) : V X G 7 (QI X G z) h 145 [(0, .ref (G.1 25)), (1, .int v1), (3, .int v3)] [.int s0] := by
  unfold f_X8_areHome_b145 at e
  refine v_istore_n O dX8_areHome_145 rfl (by decide) (fun x1 => [(2, .int x1), (0, .ref (G.1 25)), (1, .int v1), (3, .int v3)]) (fun _ => rfl) e (fun x1 e => ?_)
  refine v_iinc (v := 1) O dX8_areHome_146 3 rfl (by decide) (by decide) (fun x2 => [(3, .int x2), (2, .int x1), (0, .ref (G.1 25)), (1, .int v1)]) (fun _ => rfl) e (fun x2 e => ?_)
  refine v_goto O dX8_areHome_149 4 (by decide) ?_
  refine v_sub [2, 3, 1, 0] rfl ?_
  exact hk4 _ _ _ _ e
set_option maxRecDepth 20000 in
theorem f_X8_areHome_b144_ok {X : Cx} {G : Gx} {z : Rs} (h41 : 41 ≤ gN G) (O : Ok X G cX8_areHome RX8 7 wsX8_areHome (some .boolean) rm_X8_areHome) (N : Nat) (k4 : Int32 → Int32 → Int32 → Hp → Option Rs) (hk4 : ∀ (v1 : Int32) (v2 : Int32) (v3 : Int32) (h : Hp), k4 v1 v2 v3 h = some z → V X G 7 (QI X G z) h 4 [(0, .ref (G.1 25)), (1, .int v1), (2, .int v2), (3, .int v3)] []) (v1 : Int32) (v3 : Int32) (h : Hp) (e : f_X8_areHome_b144 N k4 v1 v3 h = some z) : V X G 7 (QI X G z) h 144 [(0, .ref (G.1 25)), (1, .int v1), (3, .int v3)] [] := by
  unfold f_X8_areHome_b144 at e
  refine v_iconst (v := 0) O dX8_areHome_144 (by decide) ?_
  exact f_X8_areHome_b145_ok h41 O N k4 hk4 _ _ _ _ e
set_option maxRecDepth 20000 in
theorem f_X8_areHome_b18_ok {X : Cx} {G : Gx} {z : Rs} (h41 : 41 ≤ gN G) (O : Ok X G cX8_areHome RX8 7 wsX8_areHome (some .boolean) rm_X8_areHome) (N : Nat) (k4 : Int32 → Int32 → Int32 → Hp → Option Rs) (k18 : Int32 → Int32 → Int32 → Int32 → Int32 → Hp → Option Rs) (hk4 : ∀ (v1 : Int32) (v2 : Int32) (v3 : Int32) (h : Hp), k4 v1 v2 v3 h = some z → V X G 7 (QI X G z) h 4 [(0, .ref (G.1 25)), (1, .int v1), (2, .int v2), (3, .int v3)] []) (hk18 : ∀ (v1 : Int32) (v2 : Int32) (v3 : Int32) (v4 : Int32) (v5 : Int32) (h : Hp), k18 v1 v2 v3 v4 v5 h = some z → V X G 7 (QI X G z) h 18 [(0, .ref (G.1 25)), (1, .int v1), (2, .int v2), (3, .int v3), (4, .int v4), (5, .int v5)] []) (v1 : Int32) (v2 : Int32) (v3 : Int32) (v4 : Int32) (v5 : Int32) (h : Hp) (e : f_X8_areHome_b18 N k4 k18 v1 v2 v3 v4 v5 h = some z) : V X G 7 (QI X G z) h 18 [(0, .ref (G.1 25)), (1, .int v1), (2, .int v2), (3, .int v3), (4, .int v4), (5, .int v5)] [] := by
  unfold f_X8_areHome_b18 at e
  refine v_iload O dX8_areHome_18 5 rfl ?_
  refine v_aload_n O dX8_areHome_20 0 rfl rfl ?_
  refine v_get O fd_X8_areHome_68 (g41 h41 (by decide)) (cg_25 G _) rfl dX8_areHome_21 ?_
  refine v_icmp_ge O dX8_areHome_24 131 (by decide) e (fun e => ?_) (fun e => ?_)
  · refine v_iload_n O dX8_areHome_131 2 rfl rfl ?_
    refine v_if_eq O dX8_areHome_132 144 (by decide) e (fun e => ?_) (fun e => ?_)
    · refine v_sub [0, 1, 3] rfl ?_
      exact f_X8_areHome_b144_ok h41 O N k4 hk4 _ _ _ e
    · refine v_iload O dX8_areHome_135 4 rfl ?_
      refine v_if_eq O dX8_areHome_137 144 (by decide) e (fun e => ?_) (fun e => ?_)
      · refine v_sub [0, 1, 3] rfl ?_
        exact f_X8_areHome_b144_ok h41 O N k4 hk4 _ _ _ e
      · refine v_iconst (v := 1) O dX8_areHome_140 (by decide) ?_
        refine v_goto O dX8_areHome_141 145 (by decide) ?_
        refine v_sub [0, 1, 3] rfl ?_
        exact f_X8_areHome_b145_ok h41 O N k4 hk4 _ _ _ _ e
  · refine v_iload_n O dX8_areHome_27 3 rfl rfl ?_
    refine v_iload O dX8_areHome_28 5 rfl ?_
    refine v_icmp_eq O dX8_areHome_30 81 (by decide) e (fun e => ?_) (fun e => ?_)
    · exact f_X8_areHome_b81_ok h41 O N k4 k18 hk4 hk18 _ _ _ _ _ _ e
    · refine v_iload_n O dX8_areHome_33 1 rfl rfl ?_
      refine v_if_eq O dX8_areHome_34 85 (by decide) e (fun e => ?_) (fun e => ?_)
      · exact f_X8_areHome_b85_ok h41 O N k4 k18 hk4 hk18 _ _ _ _ _ _ e
      · refine v_aload_n O dX8_areHome_37 0 rfl rfl ?_
        refine v_get O fd_X8_areHome_16 (g41 h41 (by decide)) (cg_25 G _) rfl dX8_areHome_38 ?_
        refine v_iconst (v := 4) O dX8_areHome_41 (by decide) ?_
        refine v_iload_n O dX8_areHome_42 3 rfl rfl ?_
        refine v_imul O dX8_areHome_43 ?_
        refine v_iald O (g41 h41 (by decide)) (cg_26 G _) dX8_areHome_44 e (fun e => ?_)
        refine v_aload_n O dX8_areHome_45 0 rfl rfl ?_
        refine v_get O fd_X8_areHome_16 (g41 h41 (by decide)) (cg_25 G _) rfl dX8_areHome_46 ?_
        refine v_iconst (v := 4) O dX8_areHome_49 (by decide) ?_
        refine v_iload O dX8_areHome_50 5 rfl ?_
        refine v_imul O dX8_areHome_52 ?_
        refine v_iald O (g41 h41 (by decide)) (cg_26 G _) dX8_areHome_53 e (fun e => ?_)
        refine v_icmp_ne O dX8_areHome_54 85 (by decide) e (fun e => ?_) (fun e => ?_)
        · exact f_X8_areHome_b85_ok h41 O N k4 k18 hk4 hk18 _ _ _ _ _ _ e
        · refine v_aload_n O dX8_areHome_57 0 rfl rfl ?_
          refine v_get O fd_X8_areHome_16 (g41 h41 (by decide)) (cg_25 G _) rfl dX8_areHome_58 ?_
          refine v_iconst (v := 4) O dX8_areHome_61 (by decide) ?_
          refine v_iload_n O dX8_areHome_62 3 rfl rfl ?_
          refine v_imul O dX8_areHome_63 ?_
          refine v_iconst (v := 1) O dX8_areHome_64 (by decide) ?_
          refine v_iadd O dX8_areHome_65 ?_
          refine v_iald O (g41 h41 (by decide)) (cg_26 G _) dX8_areHome_66 e (fun e => ?_)
          refine v_aload_n O dX8_areHome_67 0 rfl rfl ?_
          refine v_get O fd_X8_areHome_16 (g41 h41 (by decide)) (cg_25 G _) rfl dX8_areHome_68 ?_
          refine v_iconst (v := 4) O dX8_areHome_71 (by decide) ?_
          refine v_iload O dX8_areHome_72 5 rfl ?_
          refine v_imul O dX8_areHome_74 ?_
          refine v_iconst (v := 1) O dX8_areHome_75 (by decide) ?_
          refine v_iadd O dX8_areHome_76 ?_
          refine v_iald O (g41 h41 (by decide)) (cg_26 G _) dX8_areHome_77 e (fun e => ?_)
          refine v_icmp_ne O dX8_areHome_78 85 (by decide) e (fun e => ?_) (fun e => ?_)
          · exact f_X8_areHome_b85_ok h41 O N k4 k18 hk4 hk18 _ _ _ _ _ _ e
          · exact f_X8_areHome_b81_ok h41 O N k4 k18 hk4 hk18 _ _ _ _ _ _ e
theorem f_X8_areHome_l18_ok {X : Cx} {G : Gx} {z : Rs} (h41 : 41 ≤ gN G) (O : Ok X G cX8_areHome RX8 7 wsX8_areHome (some .boolean) rm_X8_areHome) (N : Nat) (k4 : Int32 → Int32 → Int32 → Hp → Option Rs) (hk4 : ∀ (v1 : Int32) (v2 : Int32) (v3 : Int32) (h : Hp), k4 v1 v2 v3 h = some z → V X G 7 (QI X G z) h 4 [(0, .ref (G.1 25)), (1, .int v1), (2, .int v2), (3, .int v3)] []) : ∀ (n : Nat) (v1 : Int32) (v2 : Int32) (v3 : Int32) (v4 : Int32) (v5 : Int32) (h : Hp), f_X8_areHome_l18 N k4 n v1 v2 v3 v4 v5 h = some z → V X G 7 (QI X G z) h 18 [(0, .ref (G.1 25)), (1, .int v1), (2, .int v2), (3, .int v3), (4, .int v4), (5, .int v5)] [] := by
  intro n
  induction n with
  | zero => intro v1 v2 v3 v4 v5 h e; cases e
  | succ n ih => intro v1 v2 v3 v4 v5 h e; exact f_X8_areHome_b18_ok h41 O N k4 _ hk4 ih v1 v2 v3 v4 v5 h e
set_option maxRecDepth 20000 in
theorem f_X8_areHome_b4_ok {X : Cx} {G : Gx} {z : Rs} (h41 : 41 ≤ gN G) (O : Ok X G cX8_areHome RX8 7 wsX8_areHome (some .boolean) rm_X8_areHome) (N : Nat) (k4 : Int32 → Int32 → Int32 → Hp → Option Rs) (hk4 : ∀ (v1 : Int32) (v2 : Int32) (v3 : Int32) (h : Hp), k4 v1 v2 v3 h = some z → V X G 7 (QI X G z) h 4 [(0, .ref (G.1 25)), (1, .int v1), (2, .int v2), (3, .int v3)] []) (v1 : Int32) (v2 : Int32) (v3 : Int32) (h : Hp) (e : f_X8_areHome_b4 N k4 v1 v2 v3 h = some z) : V X G 7 (QI X G z) h 4 [(0, .ref (G.1 25)), (1, .int v1), (2, .int v2), (3, .int v3)] [] := by
  unfold f_X8_areHome_b4 at e
  refine v_iload_n O dX8_areHome_4 3 rfl rfl ?_
  refine v_aload_n O dX8_areHome_5 0 rfl rfl ?_
  refine v_get O fd_X8_areHome_68 (g41 h41 (by decide)) (cg_25 G _) rfl dX8_areHome_6 ?_
  refine v_icmp_ge O dX8_areHome_9 152 (by decide) e (fun e => ?_) (fun e => ?_)
  · refine v_iload_n O dX8_areHome_152 2 rfl rfl ?_
    exact v_zret O dX8_areHome_153 e
  · refine v_iconst (v := 0) O dX8_areHome_12 (by decide) ?_
    refine v_istore O dX8_areHome_13 (by decide) (fun x1 => [(4, .int x1), (0, .ref (G.1 25)), (1, .int v1), (2, .int v2), (3, .int v3)]) (fun _ => rfl) e (fun x1 e => ?_)
    refine v_iconst (v := 0) O dX8_areHome_15 (by decide) ?_
    refine v_istore O dX8_areHome_16 (by decide) (fun x2 => [(5, .int x2), (4, .int x1), (0, .ref (G.1 25)), (1, .int v1), (2, .int v2), (3, .int v3)]) (fun _ => rfl) e (fun x2 e => ?_)
    refine v_sub [2, 3, 4, 5, 1, 0] rfl ?_
    exact f_X8_areHome_l18_ok h41 O N k4 hk4 N _ _ _ _ _ _ e
theorem f_X8_areHome_l4_ok {X : Cx} {G : Gx} {z : Rs} (h41 : 41 ≤ gN G) (O : Ok X G cX8_areHome RX8 7 wsX8_areHome (some .boolean) rm_X8_areHome) (N : Nat) : ∀ (n : Nat) (v1 : Int32) (v2 : Int32) (v3 : Int32) (h : Hp), f_X8_areHome_l4 N n v1 v2 v3 h = some z → V X G 7 (QI X G z) h 4 [(0, .ref (G.1 25)), (1, .int v1), (2, .int v2), (3, .int v3)] [] := by
  intro n
  induction n with
  | zero => intro v1 v2 v3 h e; cases e
  | succ n ih => intro v1 v2 v3 h e; exact f_X8_areHome_b4_ok h41 O N _ ih v1 v2 v3 h e
set_option maxRecDepth 20000 in
theorem f_X8_areHome_ok {l : Launch} {G : Gx} {N : Nat} (h41 : 41 ≤ gN G) {a0 : Int32} {h : Hp} {z : Rs} (e : f_X8_areHome N a0 h = some z) : CI l G yX8_areHome wsX8_areHome rm_X8_areHome [.ref (G.1 25), .int a0] h z := by
  refine m_bool _ (by decide) rfl [(0, .ref (G.1 25)), (1, .int a0)] rfl (Nat.le_of_ble_eq_true rfl) (fun X O => ?_)
  unfold f_X8_areHome at e
  refine v_iconst (v := 1) O dX8_areHome_0 (by decide) ?_
  refine v_istore_n O dX8_areHome_1 rfl (by decide) (fun x1 => [(2, .int x1), (0, .ref (G.1 25)), (1, .int a0)]) (fun _ => rfl) e (fun x1 e => ?_)
  refine v_iconst (v := 0) O dX8_areHome_2 (by decide) ?_
  refine v_istore_n O dX8_areHome_3 rfl (by decide) (fun x2 => [(3, .int x2), (2, .int x1), (0, .ref (G.1 25)), (1, .int a0)]) (fun _ => rfl) e (fun x2 e => ?_)
  refine v_sub [2, 3, 1, 0] rfl ?_
  exact f_X8_areHome_l4_ok h41 O N N _ _ _ _ e
/-! ===== X8 codeOf ===== -/
abbrev rm_X8_codeOf : Room := { frames := 0, cells := 0, slots := 0, locals := 0 }
theorem fd_X8_codeOf_68 : FdO wsX8_codeOf RX8 68 RX8 TX8 34 8 4 := ⟨by decide +kernel, rfl, by decide, by decide +kernel⟩
theorem fd_X8_codeOf_176 : FdO wsX8_codeOf RX8 176 RX8 TX8 34 8 3 := ⟨by decide +kernel, rfl, by decide, by decide +kernel⟩
set_option maxRecDepth 20000 in
theorem f_X8_codeOf_b49_ok_31 {X : Cx} {G : Gx} {z : Rs} (h41 : 41 ≤ gN G) (O : Ok X G cX8_codeOf RX8 5 wsX8_codeOf (some .int) rm_X8_codeOf) (N : Nat) (s0 : Int32) (s1 : Int32) (h : Hp) (e : f_X8_codeOf_b49 31 N s0 s1 h = some z) : V X G 5 (QI X G z) h 49 [] [.int s0, .int s1] := by
  unfold f_X8_codeOf_b49 at e
  refine v_iadd O dX8_codeOf_49 ?_
  exact v_iret O dX8_codeOf_50 e
set_option maxRecDepth 20000 in
theorem f_X8_codeOf_b10_ok_31 {X : Cx} {G : Gx} {z : Rs} (h41 : 41 ≤ gN G) (O : Ok X G cX8_codeOf RX8 5 wsX8_codeOf (some .int) rm_X8_codeOf) (N : Nat) (k10 : Int32 → Int32 → Int32 → Hp → Option Rs) (hk10 : ∀ (v2 : Int32) (v3 : Int32) (v4 : Int32) (h : Hp), k10 v2 v3 v4 h = some z → V X G 5 (QI X G z) h 10 [(0, .ref (G.1 25)), (1, .ref (G.1 31)), (2, .int v2), (3, .int v3), (4, .int v4)] []) (v2 : Int32) (v3 : Int32) (v4 : Int32) (h : Hp) (e : f_X8_codeOf_b10 31 N k10 v2 v3 v4 h = some z) : V X G 5 (QI X G z) h 10 [(0, .ref (G.1 25)), (1, .ref (G.1 31)), (2, .int v2), (3, .int v3), (4, .int v4)] [] := by
  unfold f_X8_codeOf_b10 at e
  refine v_iload O dX8_codeOf_10 4 rfl ?_
  refine v_if_lt O dX8_codeOf_12 31 (by decide) e (fun e => ?_) (fun e => ?_)
  · refine v_iload_n O dX8_codeOf_31 3 rfl rfl ?_
    refine v_aload_n O dX8_codeOf_32 0 rfl rfl ?_
    refine v_get O fd_X8_codeOf_176 (g41 h41 (by decide)) (cg_25 G _) rfl dX8_codeOf_33 ?_
    refine v_iconst (v := 1) O dX8_codeOf_36 (by decide) ?_
    refine v_icmp_ne O dX8_codeOf_37 48 (by decide) e (fun e => ?_) (fun e => ?_)
    · refine v_iconst (v := 0) O dX8_codeOf_48 (by decide) ?_
      refine v_sub [] rfl ?_
      exact f_X8_codeOf_b49_ok_31 h41 O N _ _ _ e
    · refine v_iload_n O dX8_codeOf_40 2 rfl rfl ?_
      refine v_sipush (v := 20736) O dX8_codeOf_41 (by decide) ?_
      refine v_imul O dX8_codeOf_44 ?_
      refine v_goto O dX8_codeOf_45 49 (by decide) ?_
      refine v_sub [] rfl ?_
      exact f_X8_codeOf_b49_ok_31 h41 O N _ _ _ e
  · refine v_bipush (v := 12) O dX8_codeOf_15 (by decide) ?_
    refine v_iload_n O dX8_codeOf_17 3 rfl rfl ?_
    refine v_imul O dX8_codeOf_18 ?_
    refine v_aload_n O dX8_codeOf_19 1 rfl rfl ?_
    refine v_iload O dX8_codeOf_20 4 rfl ?_
    refine v_iald O (g41 h41 (by decide)) (cg_31 G _) dX8_codeOf_22 e (fun e => ?_)
    refine v_iadd O dX8_codeOf_23 ?_
    refine v_istore_n O dX8_codeOf_24 rfl (by decide) (fun x1 => [(3, .int x1), (0, .ref (G.1 25)), (1, .ref (G.1 31)), (2, .int v2), (4, .int v4)]) (fun _ => rfl) e (fun x1 e => ?_)
    refine v_iinc (v := (-1)) O dX8_codeOf_25 4 rfl (by decide) (by decide) (fun x2 => [(4, .int x2), (3, .int x1), (0, .ref (G.1 25)), (1, .ref (G.1 31)), (2, .int v2)]) (fun _ => rfl) e (fun x2 e => ?_)
    refine v_goto O dX8_codeOf_28 10 (by decide) ?_
    refine v_sub [2, 3, 4, 1, 0] rfl ?_
    exact hk10 _ _ _ _ e
theorem f_X8_codeOf_l10_ok_31 {X : Cx} {G : Gx} {z : Rs} (h41 : 41 ≤ gN G) (O : Ok X G cX8_codeOf RX8 5 wsX8_codeOf (some .int) rm_X8_codeOf) (N : Nat) : ∀ (n : Nat) (v2 : Int32) (v3 : Int32) (v4 : Int32) (h : Hp), f_X8_codeOf_l10 31 N n v2 v3 v4 h = some z → V X G 5 (QI X G z) h 10 [(0, .ref (G.1 25)), (1, .ref (G.1 31)), (2, .int v2), (3, .int v3), (4, .int v4)] [] := by
  intro n
  induction n with
  | zero => intro v2 v3 v4 h e; cases e
  | succ n ih => intro v2 v3 v4 h e; exact f_X8_codeOf_b10_ok_31 h41 O N _ ih v2 v3 v4 h e
set_option maxRecDepth 20000 in
theorem f_X8_codeOf_ok_31 {l : Launch} {G : Gx} {N : Nat} (h41 : 41 ≤ gN G) {a1 : Int32} {h : Hp} {z : Rs} (e : f_X8_codeOf 31 N a1 h = some z) : CI l G yX8_codeOf wsX8_codeOf rm_X8_codeOf [.ref (G.1 25), .ref (G.1 31), .int a1] h z := by
  refine m_int _ (by decide) rfl [(0, .ref (G.1 25)), (1, .ref (G.1 31)), (2, .int a1)] rfl (Nat.le_of_ble_eq_true rfl) (fun X O => ?_)
  unfold f_X8_codeOf at e
  refine v_iconst (v := 0) O dX8_codeOf_0 (by decide) ?_
  refine v_istore_n O dX8_codeOf_1 rfl (by decide) (fun x1 => [(3, .int x1), (0, .ref (G.1 25)), (1, .ref (G.1 31)), (2, .int a1)]) (fun _ => rfl) e (fun x1 e => ?_)
  refine v_aload_n O dX8_codeOf_2 1 rfl rfl ?_
  refine v_get O fd_X8_codeOf_68 (g41 h41 (by decide)) (cg_25 G _) rfl dX8_codeOf_3 ?_
  refine v_iconst (v := 1) O dX8_codeOf_6 (by decide) ?_
  refine v_isub O dX8_codeOf_7 ?_
  refine v_istore O dX8_codeOf_8 (by decide) (fun x2 => [(4, .int x2), (3, .int x1), (0, .ref (G.1 25)), (1, .ref (G.1 31)), (2, .int a1)]) (fun _ => rfl) e (fun x2 e => ?_)
  refine v_sub [2, 3, 4, 1, 0] rfl ?_
  exact f_X8_codeOf_l10_ok_31 h41 O N N _ _ _ _ e
set_option maxRecDepth 20000 in
theorem f_X8_codeOf_b49_ok_39 {X : Cx} {G : Gx} {z : Rs} (h41 : 41 ≤ gN G) (O : Ok X G cX8_codeOf RX8 5 wsX8_codeOf (some .int) rm_X8_codeOf) (N : Nat) (s0 : Int32) (s1 : Int32) (h : Hp) (e : f_X8_codeOf_b49 39 N s0 s1 h = some z) : V X G 5 (QI X G z) h 49 [] [.int s0, .int s1] := by
  unfold f_X8_codeOf_b49 at e
  refine v_iadd O dX8_codeOf_49 ?_
  exact v_iret O dX8_codeOf_50 e
set_option maxRecDepth 20000 in
theorem f_X8_codeOf_b10_ok_39 {X : Cx} {G : Gx} {z : Rs} (h41 : 41 ≤ gN G) (O : Ok X G cX8_codeOf RX8 5 wsX8_codeOf (some .int) rm_X8_codeOf) (N : Nat) (k10 : Int32 → Int32 → Int32 → Hp → Option Rs) (hk10 : ∀ (v2 : Int32) (v3 : Int32) (v4 : Int32) (h : Hp), k10 v2 v3 v4 h = some z → V X G 5 (QI X G z) h 10 [(0, .ref (G.1 25)), (1, .ref (G.1 39)), (2, .int v2), (3, .int v3), (4, .int v4)] []) (v2 : Int32) (v3 : Int32) (v4 : Int32) (h : Hp) (e : f_X8_codeOf_b10 39 N k10 v2 v3 v4 h = some z) : V X G 5 (QI X G z) h 10 [(0, .ref (G.1 25)), (1, .ref (G.1 39)), (2, .int v2), (3, .int v3), (4, .int v4)] [] := by
  unfold f_X8_codeOf_b10 at e
  refine v_iload O dX8_codeOf_10 4 rfl ?_
  refine v_if_lt O dX8_codeOf_12 31 (by decide) e (fun e => ?_) (fun e => ?_)
  · refine v_iload_n O dX8_codeOf_31 3 rfl rfl ?_
    refine v_aload_n O dX8_codeOf_32 0 rfl rfl ?_
    refine v_get O fd_X8_codeOf_176 (g41 h41 (by decide)) (cg_25 G _) rfl dX8_codeOf_33 ?_
    refine v_iconst (v := 1) O dX8_codeOf_36 (by decide) ?_
    refine v_icmp_ne O dX8_codeOf_37 48 (by decide) e (fun e => ?_) (fun e => ?_)
    · refine v_iconst (v := 0) O dX8_codeOf_48 (by decide) ?_
      refine v_sub [] rfl ?_
      exact f_X8_codeOf_b49_ok_39 h41 O N _ _ _ e
    · refine v_iload_n O dX8_codeOf_40 2 rfl rfl ?_
      refine v_sipush (v := 20736) O dX8_codeOf_41 (by decide) ?_
      refine v_imul O dX8_codeOf_44 ?_
      refine v_goto O dX8_codeOf_45 49 (by decide) ?_
      refine v_sub [] rfl ?_
      exact f_X8_codeOf_b49_ok_39 h41 O N _ _ _ e
  · refine v_bipush (v := 12) O dX8_codeOf_15 (by decide) ?_
    refine v_iload_n O dX8_codeOf_17 3 rfl rfl ?_
    refine v_imul O dX8_codeOf_18 ?_
    refine v_aload_n O dX8_codeOf_19 1 rfl rfl ?_
    refine v_iload O dX8_codeOf_20 4 rfl ?_
    refine v_iald O (g41 h41 (by decide)) (cg_39 G _) dX8_codeOf_22 e (fun e => ?_)
    refine v_iadd O dX8_codeOf_23 ?_
    refine v_istore_n O dX8_codeOf_24 rfl (by decide) (fun x1 => [(3, .int x1), (0, .ref (G.1 25)), (1, .ref (G.1 39)), (2, .int v2), (4, .int v4)]) (fun _ => rfl) e (fun x1 e => ?_)
    refine v_iinc (v := (-1)) O dX8_codeOf_25 4 rfl (by decide) (by decide) (fun x2 => [(4, .int x2), (3, .int x1), (0, .ref (G.1 25)), (1, .ref (G.1 39)), (2, .int v2)]) (fun _ => rfl) e (fun x2 e => ?_)
    refine v_goto O dX8_codeOf_28 10 (by decide) ?_
    refine v_sub [2, 3, 4, 1, 0] rfl ?_
    exact hk10 _ _ _ _ e
theorem f_X8_codeOf_l10_ok_39 {X : Cx} {G : Gx} {z : Rs} (h41 : 41 ≤ gN G) (O : Ok X G cX8_codeOf RX8 5 wsX8_codeOf (some .int) rm_X8_codeOf) (N : Nat) : ∀ (n : Nat) (v2 : Int32) (v3 : Int32) (v4 : Int32) (h : Hp), f_X8_codeOf_l10 39 N n v2 v3 v4 h = some z → V X G 5 (QI X G z) h 10 [(0, .ref (G.1 25)), (1, .ref (G.1 39)), (2, .int v2), (3, .int v3), (4, .int v4)] [] := by
  intro n
  induction n with
  | zero => intro v2 v3 v4 h e; cases e
  | succ n ih => intro v2 v3 v4 h e; exact f_X8_codeOf_b10_ok_39 h41 O N _ ih v2 v3 v4 h e
set_option maxRecDepth 20000 in
theorem f_X8_codeOf_ok_39 {l : Launch} {G : Gx} {N : Nat} (h41 : 41 ≤ gN G) {a1 : Int32} {h : Hp} {z : Rs} (e : f_X8_codeOf 39 N a1 h = some z) : CI l G yX8_codeOf wsX8_codeOf rm_X8_codeOf [.ref (G.1 25), .ref (G.1 39), .int a1] h z := by
  refine m_int _ (by decide) rfl [(0, .ref (G.1 25)), (1, .ref (G.1 39)), (2, .int a1)] rfl (Nat.le_of_ble_eq_true rfl) (fun X O => ?_)
  unfold f_X8_codeOf at e
  refine v_iconst (v := 0) O dX8_codeOf_0 (by decide) ?_
  refine v_istore_n O dX8_codeOf_1 rfl (by decide) (fun x1 => [(3, .int x1), (0, .ref (G.1 25)), (1, .ref (G.1 39)), (2, .int a1)]) (fun _ => rfl) e (fun x1 e => ?_)
  refine v_aload_n O dX8_codeOf_2 1 rfl rfl ?_
  refine v_get O fd_X8_codeOf_68 (g41 h41 (by decide)) (cg_25 G _) rfl dX8_codeOf_3 ?_
  refine v_iconst (v := 1) O dX8_codeOf_6 (by decide) ?_
  refine v_isub O dX8_codeOf_7 ?_
  refine v_istore O dX8_codeOf_8 (by decide) (fun x2 => [(4, .int x2), (3, .int x1), (0, .ref (G.1 25)), (1, .ref (G.1 39)), (2, .int a1)]) (fun _ => rfl) e (fun x2 e => ?_)
  refine v_sub [2, 3, 4, 1, 0] rfl ?_
  exact f_X8_codeOf_l10_ok_39 h41 O N N _ _ _ _ e
/-! ===== X8 has ===== -/
abbrev rm_X8_has : Room := { frames := 0, cells := 0, slots := 0, locals := 0 }
set_option maxRecDepth 20000 in
theorem f_X8_has_b14_ok {X : Cx} {G : Gx} {z : Rs} (O : Ok X G cX8_has RX8 2 wsX8_has (some .boolean) rm_X8_has) (N : Nat) (s0 : Int32) (h : Hp) (e : f_X8_has_b14 N s0 h = some z) : V X G 2 (QI X G z) h 14 [] [.int s0] := by
  unfold f_X8_has_b14 at e
  exact v_zret O dX8_has_14 e
set_option maxRecDepth 20000 in
theorem f_X8_has_ok {l : Launch} {G : Gx} {N : Nat} {a0 : Int32} {a1 : Int32} {h : Hp} {z : Rs} (e : f_X8_has N a0 a1 h = some z) : CI l G yX8_has wsX8_has rm_X8_has [.int a0, .int a1] h z := by
  refine m_bool _ (by decide) rfl [(0, .int a0), (1, .int a1)] rfl (Nat.le_of_ble_eq_true rfl) (fun X O => ?_)
  unfold f_X8_has at e
  refine v_iload_n O dX8_has_0 0 rfl rfl ?_
  refine v_iload_n O dX8_has_1 1 rfl rfl ?_
  refine v_ishr O dX8_has_2 ?_
  refine v_iconst (v := 1) O dX8_has_3 (by decide) ?_
  refine v_iand O dX8_has_4 ?_
  refine v_iconst (v := 1) O dX8_has_5 (by decide) ?_
  refine v_icmp_ne O dX8_has_6 13 (by decide) e (fun e => ?_) (fun e => ?_)
  · refine v_iconst (v := 0) O dX8_has_13 (by decide) ?_
    refine v_sub [] rfl ?_
    exact f_X8_has_b14_ok O N _ _ e
  · refine v_iconst (v := 1) O dX8_has_9 (by decide) ?_
    refine v_goto O dX8_has_10 14 (by decide) ?_
    refine v_sub [] rfl ?_
    exact f_X8_has_b14_ok O N _ _ e
/-! ===== X8 in ===== -/
abbrev rm_X8_in : Room := { frames := 0, cells := 0, slots := 0, locals := 0 }
set_option maxRecDepth 20000 in
theorem f_X8_in_b15_ok {X : Cx} {G : Gx} {z : Rs} (O : Ok X G cX8_in RX8 3 wsX8_in (some .boolean) rm_X8_in) (N : Nat) (s0 : Int32) (h : Hp) (e : f_X8_in_b15 N s0 h = some z) : V X G 3 (QI X G z) h 15 [] [.int s0] := by
  unfold f_X8_in_b15 at e
  exact v_zret O dX8_in_15 e
set_option maxRecDepth 20000 in
theorem f_X8_in_b14_ok {X : Cx} {G : Gx} {z : Rs} (O : Ok X G cX8_in RX8 3 wsX8_in (some .boolean) rm_X8_in) (N : Nat) (h : Hp) (e : f_X8_in_b14 N h = some z) : V X G 3 (QI X G z) h 14 [] [] := by
  unfold f_X8_in_b14 at e
  refine v_iconst (v := 0) O dX8_in_14 (by decide) ?_
  exact f_X8_in_b15_ok O N _ _ e
set_option maxRecDepth 20000 in
theorem f_X8_in_ok {l : Launch} {G : Gx} {N : Nat} {a0 : Int32} {a1 : Int32} {a2 : Int32} {h : Hp} {z : Rs} (e : f_X8_in N a0 a1 a2 h = some z) : CI l G yX8_in wsX8_in rm_X8_in [.int a0, .int a1, .int a2] h z := by
  refine m_bool _ (by decide) rfl [(0, .int a0), (1, .int a1), (2, .int a2)] rfl (Nat.le_of_ble_eq_true rfl) (fun X O => ?_)
  unfold f_X8_in at e
  refine v_iload_n O dX8_in_0 0 rfl rfl ?_
  refine v_iload_n O dX8_in_1 1 rfl rfl ?_
  refine v_icmp_lt O dX8_in_2 14 (by decide) e (fun e => ?_) (fun e => ?_)
  · refine v_sub [] rfl ?_
    exact f_X8_in_b14_ok O N _ e
  · refine v_iload_n O dX8_in_5 0 rfl rfl ?_
    refine v_iload_n O dX8_in_6 2 rfl rfl ?_
    refine v_icmp_gt O dX8_in_7 14 (by decide) e (fun e => ?_) (fun e => ?_)
    · refine v_sub [] rfl ?_
      exact f_X8_in_b14_ok O N _ e
    · refine v_iconst (v := 1) O dX8_in_10 (by decide) ?_
      refine v_goto O dX8_in_11 15 (by decide) ?_
      refine v_sub [] rfl ?_
      exact f_X8_in_b15_ok O N _ _ e
/-! ===== X8 isOn ===== -/
abbrev rm_X8_isOn : Room := { frames := 1, cells := 0, slots := 0, locals := 22 }
theorem fd_X8_isOn_7 : FdO wsX8_isOn RX8 7 RX8 TX8 34 8 0 := ⟨by decide +kernel, rfl, by decide, by decide +kernel⟩
theorem fd_X8_isOn_13 : FdO wsX8_isOn RX8 13 RX8 TX8 34 8 1 := ⟨by decide +kernel, rfl, by decide, by decide +kernel⟩
theorem fd_X8_isOn_167 : FdO wsX8_isOn RX8 167 RX8 TX8 34 8 2 := ⟨by decide +kernel, rfl, by decide, by decide +kernel⟩
theorem cw_X8_isOn_X8_has : CwO rm_X8_isOn yX8_has wsX8_has cX8_has 2 (some .boolean) rm_X8_has 2 := ⟨⟨_, rfl⟩, rfl, rfl, by decide +kernel, by decide, by decide⟩
theorem cw_X8_isOn_X8_in : CwO rm_X8_isOn yX8_in wsX8_in cX8_in 3 (some .boolean) rm_X8_in 3 := ⟨⟨_, rfl⟩, rfl, rfl, by decide +kernel, by decide, by decide⟩
set_option maxRecDepth 20000 in
theorem f_X8_isOn_b51_ok {X : Cx} {G : Gx} {z : Rs} (h41 : 41 ≤ gN G) (O : Ok X G cX8_isOn RX8 3 wsX8_isOn (some .boolean) rm_X8_isOn) (N : Nat) (s0 : Int32) (h : Hp) (e : f_X8_isOn_b51 N s0 h = some z) : V X G 3 (QI X G z) h 51 [] [.int s0] := by
  unfold f_X8_isOn_b51 at e
  exact v_zret O dX8_isOn_51 e
set_option maxRecDepth 20000 in
theorem f_X8_isOn_b50_ok {X : Cx} {G : Gx} {z : Rs} (h41 : 41 ≤ gN G) (O : Ok X G cX8_isOn RX8 3 wsX8_isOn (some .boolean) rm_X8_isOn) (N : Nat) (h : Hp) (e : f_X8_isOn_b50 N h = some z) : V X G 3 (QI X G z) h 50 [] [] := by
  unfold f_X8_isOn_b50 at e
  refine v_iconst (v := 0) O dX8_isOn_50 (by decide) ?_
  exact f_X8_isOn_b51_ok h41 O N _ _ e
set_option maxRecDepth 20000 in
theorem f_X8_isOn_ok {l : Launch} {G : Gx} {N : Nat} (h41 : 41 ≤ gN G) {a0 : Int32} {a1 : Int32} {h : Hp} {z : Rs} (e : f_X8_isOn N a0 a1 h = some z) : CI l G yX8_isOn wsX8_isOn rm_X8_isOn [.ref (G.1 25), .int a0, .int a1] h z := by
  refine m_bool _ (by decide) rfl [(0, .ref (G.1 25)), (1, .int a0), (2, .int a1)] rfl (Nat.le_of_ble_eq_true rfl) (fun X O => ?_)
  unfold f_X8_isOn at e
  refine v_iload_n O dX8_isOn_0 1 rfl rfl ?_
  refine v_iconst (v := 0) O dX8_isOn_1 (by decide) ?_
  refine v_aload_n O dX8_isOn_2 0 rfl rfl ?_
  refine v_get O fd_X8_isOn_7 (g41 h41 (by decide)) (cg_25 G _) rfl dX8_isOn_3 ?_
  refine v_iconst (v := 1) O dX8_isOn_6 (by decide) ?_
  refine v_isub O dX8_isOn_7 ?_
  refine v_cSi O [.int a0, .int 0, .int ((h.1 25 0) - 1)] [] gX8_isOn_X8_in cw_X8_isOn_X8_in rfl rfl (Nat.le_of_ble_eq_true rfl) dX8_isOn_8 e (fun _ e9 => f_X8_in_ok e9) (fun r1 h2 e => ?_)
  refine v_if_eq O dX8_isOn_11 50 (by decide) e (fun e => ?_) (fun e => ?_)
  · refine v_sub [] rfl ?_
    exact f_X8_isOn_b50_ok h41 O N _ e
  · refine v_iload_n O dX8_isOn_14 2 rfl rfl ?_
    refine v_iconst (v := 0) O dX8_isOn_15 (by decide) ?_
    refine v_aload_n O dX8_isOn_16 0 rfl rfl ?_
    refine v_get O fd_X8_isOn_13 (g41 h41 (by decide)) (cg_25 G _) rfl dX8_isOn_17 ?_
    refine v_iconst (v := 1) O dX8_isOn_20 (by decide) ?_
    refine v_isub O dX8_isOn_21 ?_
    refine v_cSi O [.int a1, .int 0, .int ((h2.1 25 1) - 1)] [] gX8_isOn_X8_in cw_X8_isOn_X8_in rfl rfl (Nat.le_of_ble_eq_true rfl) dX8_isOn_22 e (fun _ e9 => f_X8_in_ok e9) (fun r3 h4 e => ?_)
    refine v_if_eq O dX8_isOn_25 50 (by decide) e (fun e => ?_) (fun e => ?_)
    · refine v_sub [] rfl ?_
      exact f_X8_isOn_b50_ok h41 O N _ e
    · refine v_aload_n O dX8_isOn_28 0 rfl rfl ?_
      refine v_get O fd_X8_isOn_167 (g41 h41 (by decide)) (cg_25 G _) rfl dX8_isOn_29 ?_
      refine v_iload_n O dX8_isOn_32 2 rfl rfl ?_
      refine v_aload_n O dX8_isOn_33 0 rfl rfl ?_
      refine v_get O fd_X8_isOn_7 (g41 h41 (by decide)) (cg_25 G _) rfl dX8_isOn_34 ?_
      refine v_imul O dX8_isOn_37 ?_
      refine v_iload_n O dX8_isOn_38 1 rfl rfl ?_
      refine v_iadd O dX8_isOn_39 ?_
      refine v_cSi O [.int (h4.1 25 2), .int ((a1 * (h4.1 25 0)) + a0)] [] gX8_isOn_X8_has cw_X8_isOn_X8_has rfl rfl (Nat.le_of_ble_eq_true rfl) dX8_isOn_40 e (fun _ e9 => f_X8_has_ok e9) (fun r5 h6 e => ?_)
      refine v_if_ne O dX8_isOn_43 50 (by decide) e (fun e => ?_) (fun e => ?_)
      · refine v_sub [] rfl ?_
        exact f_X8_isOn_b50_ok h41 O N _ e
      · refine v_iconst (v := 1) O dX8_isOn_46 (by decide) ?_
        refine v_goto O dX8_isOn_47 51 (by decide) ?_
        refine v_sub [] rfl ?_
        exact f_X8_isOn_b51_ok h41 O N _ _ e
/-! ===== X8 slide ===== -/
abbrev rm_X8_slide : Room := { frames := 2, cells := 0, slots := 0, locals := 44 }
theorem fd_X8_slide_7 : FdO wsX8_slide RX8 7 RX8 TX8 34 8 0 := ⟨by decide +kernel, rfl, by decide, by decide +kernel⟩
theorem cw_X8_slide_X8_has : CwO rm_X8_slide yX8_has wsX8_has cX8_has 2 (some .boolean) rm_X8_has 2 := ⟨⟨_, rfl⟩, rfl, rfl, by decide +kernel, by decide, by decide⟩
theorem cw_X8_slide_X8_isOn : CwO rm_X8_slide yX8_isOn wsX8_isOn cX8_isOn 3 (some .boolean) rm_X8_isOn 2 := ⟨⟨_, rfl⟩, rfl, rfl, by decide +kernel, by decide, by decide⟩
set_option maxRecDepth 20000 in
theorem f_X8_slide_b113_ok {X : Cx} {G : Gx} {z : Rs} (h41 : 41 ≤ gN G) (O : Ok X G cX8_slide RX8 9 wsX8_slide (some .int) rm_X8_slide) (N : Nat) (k33 : Int32 → Int32 → Int32 → Int32 → Int32 → Int32 → Int32 → Hp → Option Rs) (hk33 : ∀ (v2 : Int32) (v3 : Int32) (v4 : Int32) (v5 : Int32) (v6 : Int32) (v7 : Int32) (v8 : Int32) (h : Hp), k33 v2 v3 v4 v5 v6 v7 v8 h = some z → V X G 9 (QI X G z) h 33 [(0, .ref (G.1 25)), (2, .int v2), (3, .int v3), (4, .int v4), (5, .int v5), (6, .int v6), (7, .int v7), (8, .int v8)] []) (v2 : Int32) (v3 : Int32) (v4 : Int32) (v5 : Int32) (v6 : Int32) (v7 : Int32) (s0 : Int32) (h : Hp) (e : f_X8_slide_b113 N k33 v2 v3 v4 v5 v6 v7 s0 h = some z) : V X G 9 (QI X G z) h 113 [(0, .ref (G.1 25)), (2, .int v2), (3, .int v3), (4, .int v4), (5, .int v5), (6, .int v6), (7, .int v7)] [.int s0] := by
  unfold f_X8_slide_b113 at e
  refine v_istore O dX8_slide_113 (by decide) (fun x1 => [(8, .int x1), (0, .ref (G.1 25)), (2, .int v2), (3, .int v3), (4, .int v4), (5, .int v5), (6, .int v6), (7, .int v7)]) (fun _ => rfl) e (fun x1 e => ?_)
  refine v_goto O dX8_slide_115 33 (by decide) ?_
  refine v_sub [1, 2, 3, 4, 5, 6, 7, 0] rfl ?_
  exact hk33 _ _ _ _ _ _ _ _ e
set_option maxRecDepth 20000 in
theorem f_X8_slide_b112_ok {X : Cx} {G : Gx} {z : Rs} (h41 : 41 ≤ gN G) (O : Ok X G cX8_slide RX8 9 wsX8_slide (some .int) rm_X8_slide) (N : Nat) (k33 : Int32 → Int32 → Int32 → Int32 → Int32 → Int32 → Int32 → Hp → Option Rs) (hk33 : ∀ (v2 : Int32) (v3 : Int32) (v4 : Int32) (v5 : Int32) (v6 : Int32) (v7 : Int32) (v8 : Int32) (h : Hp), k33 v2 v3 v4 v5 v6 v7 v8 h = some z → V X G 9 (QI X G z) h 33 [(0, .ref (G.1 25)), (2, .int v2), (3, .int v3), (4, .int v4), (5, .int v5), (6, .int v6), (7, .int v7), (8, .int v8)] []) (v2 : Int32) (v3 : Int32) (v4 : Int32) (v5 : Int32) (v6 : Int32) (v7 : Int32) (h : Hp) (e : f_X8_slide_b112 N k33 v2 v3 v4 v5 v6 v7 h = some z) : V X G 9 (QI X G z) h 112 [(0, .ref (G.1 25)), (2, .int v2), (3, .int v3), (4, .int v4), (5, .int v5), (6, .int v6), (7, .int v7)] [] := by
  unfold f_X8_slide_b112 at e
  refine v_iconst (v := 0) O dX8_slide_112 (by decide) ?_
  exact f_X8_slide_b113_ok h41 O N k33 hk33 _ _ _ _ _ _ _ _ e
set_option maxRecDepth 20000 in
theorem f_X8_slide_b78_ok {X : Cx} {G : Gx} {z : Rs} (h41 : 41 ≤ gN G) (O : Ok X G cX8_slide RX8 9 wsX8_slide (some .int) rm_X8_slide) (N : Nat) (k33 : Int32 → Int32 → Int32 → Int32 → Int32 → Int32 → Int32 → Hp → Option Rs) (hk33 : ∀ (v2 : Int32) (v3 : Int32) (v4 : Int32) (v5 : Int32) (v6 : Int32) (v7 : Int32) (v8 : Int32) (h : Hp), k33 v2 v3 v4 v5 v6 v7 v8 h = some z → V X G 9 (QI X G z) h 33 [(0, .ref (G.1 25)), (2, .int v2), (3, .int v3), (4, .int v4), (5, .int v5), (6, .int v6), (7, .int v7), (8, .int v8)] []) (v2 : Int32) (v3 : Int32) (v4 : Int32) (v5 : Int32) (v6 : Int32) (v7 : Int32) (s0 : Int32) (h : Hp) (e : f_X8_slide_b78 N k33 v2 v3 v4 v5 v6 v7 s0 h = some z) : V X G 9 (QI X G z) h 78 [(0, .ref (G.1 25)), (2, .int v2), (3, .int v3), (4, .int v4), (5, .int v5), (6, .int v6), (7, .int v7)] [.int s0] := by
  unfold f_X8_slide_b78 at e
  refine v_istore O dX8_slide_78 (by decide) (fun x1 => [(8, .int x1), (0, .ref (G.1 25)), (2, .int v2), (3, .int v3), (4, .int v4), (5, .int v5), (6, .int v6), (7, .int v7)]) (fun _ => rfl) e (fun x1 e => ?_)
  refine v_iload O dX8_slide_80 6 rfl ?_
  refine v_iload_n O dX8_slide_82 2 rfl rfl ?_
  refine v_iadd O dX8_slide_83 ?_
  refine v_istore O dX8_slide_84 (by decide) (fun x2 => [(6, .int x2), (8, .int x1), (0, .ref (G.1 25)), (2, .int v2), (3, .int v3), (4, .int v4), (5, .int v5), (7, .int v7)]) (fun _ => rfl) e (fun x2 e => ?_)
  refine v_iload O dX8_slide_86 7 rfl ?_
  refine v_iload_n O dX8_slide_88 4 rfl rfl ?_
  refine v_iadd O dX8_slide_89 ?_
  refine v_istore O dX8_slide_90 (by decide) (fun x3 => [(7, .int x3), (6, .int x2), (8, .int x1), (0, .ref (G.1 25)), (2, .int v2), (3, .int v3), (4, .int v4), (5, .int v5)]) (fun _ => rfl) e (fun x3 e => ?_)
  refine v_iload O dX8_slide_92 2 rfl ?_
  refine v_if_eq O dX8_slide_94 112 (by decide) e (fun e => ?_) (fun e => ?_)
  · refine v_sub [3, 4, 5, 6, 7, 1, 0] rfl ?_
    exact f_X8_slide_b112_ok h41 O N k33 hk33 _ _ _ _ _ _ _ e
  · refine v_aload_n O dX8_slide_97 3 rfl rfl ?_
    refine v_iload O dX8_slide_98 1 rfl ?_
    refine v_iload O dX8_slide_100 0 rfl ?_
    refine v_cVi O [.int x2, .int x3] [] gX8_slide_X8_isOn cw_X8_slide_X8_isOn rfl rfl (g41 h41 (by decide)) (cg_25 G _) rfl rfl (Nat.le_of_ble_eq_true rfl) dX8_slide_102 e (fun _ e9 => f_X8_isOn_ok h41 e9) (fun r4 h5 e => ?_)
    refine v_if_eq O dX8_slide_105 112 (by decide) e (fun e => ?_) (fun e => ?_)
    · refine v_sub [3, 4, 5, 6, 7, 1, 0] rfl ?_
      exact f_X8_slide_b112_ok h41 O N k33 hk33 _ _ _ _ _ _ _ e
    · refine v_iconst (v := 1) O dX8_slide_108 (by decide) ?_
      refine v_goto O dX8_slide_109 113 (by decide) ?_
      refine v_sub [3, 4, 5, 6, 7, 1, 0] rfl ?_
      exact f_X8_slide_b113_ok h41 O N k33 hk33 _ _ _ _ _ _ _ _ e
set_option maxRecDepth 20000 in
theorem f_X8_slide_b33_ok {X : Cx} {G : Gx} {z : Rs} (h41 : 41 ≤ gN G) (O : Ok X G cX8_slide RX8 9 wsX8_slide (some .int) rm_X8_slide) (N : Nat) (k33 : Int32 → Int32 → Int32 → Int32 → Int32 → Int32 → Int32 → Hp → Option Rs) (hk33 : ∀ (v2 : Int32) (v3 : Int32) (v4 : Int32) (v5 : Int32) (v6 : Int32) (v7 : Int32) (v8 : Int32) (h : Hp), k33 v2 v3 v4 v5 v6 v7 v8 h = some z → V X G 9 (QI X G z) h 33 [(0, .ref (G.1 25)), (2, .int v2), (3, .int v3), (4, .int v4), (5, .int v5), (6, .int v6), (7, .int v7), (8, .int v8)] []) (v2 : Int32) (v3 : Int32) (v4 : Int32) (v5 : Int32) (v6 : Int32) (v7 : Int32) (v8 : Int32) (h : Hp) (e : f_X8_slide_b33 N k33 v2 v3 v4 v5 v6 v7 v8 h = some z) : V X G 9 (QI X G z) h 33 [(0, .ref (G.1 25)), (2, .int v2), (3, .int v3), (4, .int v4), (5, .int v5), (6, .int v6), (7, .int v7), (8, .int v8)] [] := by
  unfold f_X8_slide_b33 at e
  refine v_iload O dX8_slide_33 7 rfl ?_
  refine v_if_eq O dX8_slide_35 118 (by decide) e (fun e => ?_) (fun e => ?_)
  · refine v_iload O dX8_slide_118 4 rfl ?_
    exact v_iret O dX8_slide_120 e
  · refine v_iload O dX8_slide_38 4 rfl ?_
    refine v_iconst (v := 1) O dX8_slide_40 (by decide) ?_
    refine v_iload O dX8_slide_41 6 rfl ?_
    refine v_aload_n O dX8_slide_43 0 rfl rfl ?_
    refine v_get O fd_X8_slide_7 (g41 h41 (by decide)) (cg_25 G _) rfl dX8_slide_44 ?_
    refine v_imul O dX8_slide_47 ?_
    refine v_iload O dX8_slide_48 5 rfl ?_
    refine v_iadd O dX8_slide_50 ?_
    refine v_ishl O dX8_slide_51 ?_
    refine v_ior O dX8_slide_52 ?_
    refine v_istore O dX8_slide_53 (by decide) (fun x1 => [(5, .int x1), (0, .ref (G.1 25)), (2, .int v2), (3, .int v3), (4, .int v4), (6, .int v6), (7, .int v7), (8, .int v8)]) (fun _ => rfl) e (fun x1 e => ?_)
    refine v_iload O dX8_slide_55 4 rfl ?_
    refine v_iload O dX8_slide_57 6 rfl ?_
    refine v_aload_n O dX8_slide_59 1 rfl rfl ?_
    refine v_get O fd_X8_slide_7 (g41 h41 (by decide)) (cg_25 G _) rfl dX8_slide_60 ?_
    refine v_imul O dX8_slide_63 ?_
    refine v_iload O dX8_slide_64 5 rfl ?_
    refine v_iadd O dX8_slide_66 ?_
    refine v_cSi O [.int v4, .int ((v7 * (h.1 25 0)) + v6)] [] gX8_slide_X8_has cw_X8_slide_X8_has rfl rfl (Nat.le_of_ble_eq_true rfl) dX8_slide_67 e (fun _ e9 => f_X8_has_ok e9) (fun r2 h3 e => ?_)
    refine v_if_ne O dX8_slide_70 77 (by decide) e (fun e => ?_) (fun e => ?_)
    · refine v_iconst (v := 0) O dX8_slide_77 (by decide) ?_
      refine v_sub [1, 2, 3, 4, 0, 5, 6] rfl ?_
      exact f_X8_slide_b78_ok h41 O N k33 hk33 _ _ _ _ _ _ _ _ e
    · refine v_iconst (v := 1) O dX8_slide_73 (by decide) ?_
      refine v_goto O dX8_slide_74 78 (by decide) ?_
      refine v_sub [1, 2, 3, 4, 0, 5, 6] rfl ?_
      exact f_X8_slide_b78_ok h41 O N k33 hk33 _ _ _ _ _ _ _ _ e
theorem f_X8_slide_l33_ok {X : Cx} {G : Gx} {z : Rs} (h41 : 41 ≤ gN G) (O : Ok X G cX8_slide RX8 9 wsX8_slide (some .int) rm_X8_slide) (N : Nat) : ∀ (n : Nat) (v2 : Int32) (v3 : Int32) (v4 : Int32) (v5 : Int32) (v6 : Int32) (v7 : Int32) (v8 : Int32) (h : Hp), f_X8_slide_l33 N n v2 v3 v4 v5 v6 v7 v8 h = some z → V X G 9 (QI X G z) h 33 [(0, .ref (G.1 25)), (2, .int v2), (3, .int v3), (4, .int v4), (5, .int v5), (6, .int v6), (7, .int v7), (8, .int v8)] [] := by
  intro n
  induction n with
  | zero => intro v2 v3 v4 v5 v6 v7 v8 h e; cases e
  | succ n ih => intro v2 v3 v4 v5 v6 v7 v8 h e; exact f_X8_slide_b33_ok h41 O N _ ih v2 v3 v4 v5 v6 v7 v8 h e
set_option maxRecDepth 20000 in
theorem f_X8_slide_ok {l : Launch} {G : Gx} {N : Nat} (h41 : 41 ≤ gN G) {a0 : Int32} {a1 : Int32} {a2 : Int32} {a3 : Int32} {h : Hp} {z : Rs} (e : f_X8_slide N a0 a1 a2 a3 h = some z) : CI l G yX8_slide wsX8_slide rm_X8_slide [.ref (G.1 25), .int a0, .int a1, .int a2, .int a3] h z := by
  refine m_int _ (by decide) rfl [(0, .ref (G.1 25)), (1, .int a0), (2, .int a1), (3, .int a2), (4, .int a3)] rfl (Nat.le_of_ble_eq_true rfl) (fun X O => ?_)
  unfold f_X8_slide at e
  refine v_iconst (v := 0) O dX8_slide_0 (by decide) ?_
  refine v_istore O dX8_slide_1 (by decide) (fun x1 => [(5, .int x1), (0, .ref (G.1 25)), (1, .int a0), (2, .int a1), (3, .int a2), (4, .int a3)]) (fun _ => rfl) e (fun x1 e => ?_)
  refine v_iload_n O dX8_slide_3 2 rfl rfl ?_
  refine v_aload_n O dX8_slide_4 1 rfl rfl ?_
  refine v_get O fd_X8_slide_7 (g41 h41 (by decide)) (cg_25 G _) rfl dX8_slide_5 ?_
  refine v_irem O dX8_slide_8 e (fun e => ?_)
  refine v_iload_n O dX8_slide_9 3 rfl rfl ?_
  refine v_iadd O dX8_slide_10 ?_
  refine v_istore O dX8_slide_11 (by decide) (fun x2 => [(6, .int x2), (5, .int x1), (0, .ref (G.1 25)), (1, .int a0), (2, .int a1), (3, .int a2), (4, .int a3)]) (fun _ => rfl) e (fun x2 e => ?_)
  refine v_iload_n O dX8_slide_13 3 rfl rfl ?_
  refine v_aload_n O dX8_slide_14 2 rfl rfl ?_
  refine v_get O fd_X8_slide_7 (g41 h41 (by decide)) (cg_25 G _) rfl dX8_slide_15 ?_
  refine v_idiv O dX8_slide_18 e (fun e => ?_)
  refine v_iload_n O dX8_slide_19 5 rfl rfl ?_
  refine v_iadd O dX8_slide_20 ?_
  refine v_istore O dX8_slide_21 (by decide) (fun x3 => [(7, .int x3), (6, .int x2), (5, .int x1), (0, .ref (G.1 25)), (1, .int a0), (2, .int a1), (3, .int a2), (4, .int a3)]) (fun _ => rfl) e (fun x3 e => ?_)
  refine v_aload_n O dX8_slide_23 3 rfl rfl ?_
  refine v_iload O dX8_slide_24 1 rfl ?_
  refine v_iload O dX8_slide_26 0 rfl ?_
  refine v_cVi O [.int x2, .int x3] [] gX8_slide_X8_isOn cw_X8_slide_X8_isOn rfl rfl (g41 h41 (by decide)) (cg_25 G _) rfl rfl (Nat.le_of_ble_eq_true rfl) dX8_slide_28 e (fun _ e9 => f_X8_isOn_ok h41 e9) (fun r4 h5 e => ?_)
  refine v_istore O dX8_slide_31 (by decide) (fun x6 => [(8, .int x6), (7, .int x3), (6, .int x2), (5, .int x1), (0, .ref (G.1 25)), (1, .int a0), (2, .int a1), (3, .int a2), (4, .int a3)]) (fun _ => rfl) e (fun x6 e => ?_)
  refine v_sub [4, 6, 7, 8, 3, 2, 1, 0] rfl ?_
  exact f_X8_slide_l33_ok h41 O N N _ _ _ _ _ _ _ _ e
/-! ===== X8 reachOf ===== -/
abbrev rm_X8_reachOf : Room := { frames := 3, cells := 0, slots := 0, locals := 72 }
theorem fd_X8_reachOf_7 : FdO wsX8_reachOf RX8 7 RX8 TX8 34 8 0 := ⟨by decide +kernel, rfl, by decide, by decide +kernel⟩
theorem cw_X8_reachOf_X8_isOn : CwO rm_X8_reachOf yX8_isOn wsX8_isOn cX8_isOn 3 (some .boolean) rm_X8_isOn 2 := ⟨⟨_, rfl⟩, rfl, rfl, by decide +kernel, by decide, by decide⟩
theorem cw_X8_reachOf_X8_slide : CwO rm_X8_reachOf yX8_slide wsX8_slide cX8_slide 9 (some .int) rm_X8_slide 4 := ⟨⟨_, rfl⟩, rfl, rfl, by decide +kernel, by decide, by decide⟩
set_option maxRecDepth 20000 in
theorem f_X8_reachOf_b219_ok {X : Cx} {G : Gx} {z : Rs} (h41 : 41 ≤ gN G) (O : Ok X G cX8_reachOf RX8 13 wsX8_reachOf (some .int) rm_X8_reachOf) (N : Nat) (k7 : Int32 → Int32 → Int32 → Int32 → Int32 → Hp → Option Rs) (k17 : Int32 → Int32 → Int32 → Int32 → Int32 → Int32 → Hp → Option Rs) (hk7 : ∀ (v1 : Int32) (v2 : Int32) (v3 : Int32) (v4 : Int32) (v5 : Int32) (h : Hp), k7 v1 v2 v3 v4 v5 h = some z → V X G 13 (QI X G z) h 7 [(0, .ref (G.1 25)), (1, .int v1), (2, .int v2), (3, .int v3), (4, .int v4), (5, .int v5)] []) (hk17 : ∀ (v1 : Int32) (v2 : Int32) (v3 : Int32) (v4 : Int32) (v5 : Int32) (v6 : Int32) (h : Hp), k17 v1 v2 v3 v4 v5 v6 h = some z → V X G 13 (QI X G z) h 17 [(0, .ref (G.1 25)), (1, .int v1), (2, .int v2), (3, .int v3), (4, .int v4), (5, .int v5), (6, .int v6)] []) (v1 : Int32) (v2 : Int32) (v3 : Int32) (v4 : Int32) (v5 : Int32) (v6 : Int32) (h : Hp) (e : f_X8_reachOf_b219 N k7 k17 v1 v2 v3 v4 v5 v6 h = some z) : V X G 13 (QI X G z) h 219 [(0, .ref (G.1 25)), (1, .int v1), (2, .int v2), (3, .int v3), (4, .int v4), (5, .int v5), (6, .int v6)] [] := by
  unfold f_X8_reachOf_b219 at e
  refine v_iinc (v := 1) O dX8_reachOf_219 6 rfl (by decide) (by decide) (fun x1 => [(6, .int x1), (0, .ref (G.1 25)), (1, .int v1), (2, .int v2), (3, .int v3), (4, .int v4), (5, .int v5)]) (fun _ => rfl) e (fun x1 e => ?_)
  refine v_goto O dX8_reachOf_222 17 (by decide) ?_
  refine v_sub [1, 2, 3, 4, 5, 6, 0] rfl ?_
  exact hk17 _ _ _ _ _ _ _ e
set_option maxRecDepth 20000 in
theorem f_X8_reachOf_b166_ok {X : Cx} {G : Gx} {z : Rs} (h41 : 41 ≤ gN G) (O : Ok X G cX8_reachOf RX8 13 wsX8_reachOf (some .int) rm_X8_reachOf) (N : Nat) (k7 : Int32 → Int32 → Int32 → Int32 → Int32 → Hp → Option Rs) (k17 : Int32 → Int32 → Int32 → Int32 → Int32 → Int32 → Hp → Option Rs) (hk7 : ∀ (v1 : Int32) (v2 : Int32) (v3 : Int32) (v4 : Int32) (v5 : Int32) (h : Hp), k7 v1 v2 v3 v4 v5 h = some z → V X G 13 (QI X G z) h 7 [(0, .ref (G.1 25)), (1, .int v1), (2, .int v2), (3, .int v3), (4, .int v4), (5, .int v5)] []) (hk17 : ∀ (v1 : Int32) (v2 : Int32) (v3 : Int32) (v4 : Int32) (v5 : Int32) (v6 : Int32) (h : Hp), k17 v1 v2 v3 v4 v5 v6 h = some z → V X G 13 (QI X G z) h 17 [(0, .ref (G.1 25)), (1, .int v1), (2, .int v2), (3, .int v3), (4, .int v4), (5, .int v5), (6, .int v6)] []) (v1 : Int32) (v2 : Int32) (v3 : Int32) (v5 : Int32) (v6 : Int32) (s0 : Int32) (s1 : Int32) (h : Hp) (e : f_X8_reachOf_b166 N k7 k17 v1 v2 v3 v5 v6 s0 s1 h = some z) : V X G 13 (QI X G z) h 166 [(0, .ref (G.1 25)), (1, .int v1), (2, .int v2), (3, .int v3), (5, .int v5), (6, .int v6)] [.int s0, .int s1] := by
  unfold f_X8_reachOf_b166 at e
  refine v_ior O dX8_reachOf_166 ?_
  refine v_istore O dX8_reachOf_167 (by decide) (fun x1 => [(4, .int x1), (0, .ref (G.1 25)), (1, .int v1), (2, .int v2), (3, .int v3), (5, .int v5), (6, .int v6)]) (fun _ => rfl) e (fun x1 e => ?_)
  refine v_goto O dX8_reachOf_169 219 (by decide) ?_
  refine v_sub [1, 2, 3, 4, 0, 5, 6] rfl ?_
  exact f_X8_reachOf_b219_ok h41 O N k7 k17 hk7 hk17 _ _ _ _ _ _ _ e
set_option maxRecDepth 20000 in
theorem f_X8_reachOf_b165_ok {X : Cx} {G : Gx} {z : Rs} (h41 : 41 ≤ gN G) (O : Ok X G cX8_reachOf RX8 13 wsX8_reachOf (some .int) rm_X8_reachOf) (N : Nat) (k7 : Int32 → Int32 → Int32 → Int32 → Int32 → Hp → Option Rs) (k17 : Int32 → Int32 → Int32 → Int32 → Int32 → Int32 → Hp → Option Rs) (hk7 : ∀ (v1 : Int32) (v2 : Int32) (v3 : Int32) (v4 : Int32) (v5 : Int32) (h : Hp), k7 v1 v2 v3 v4 v5 h = some z → V X G 13 (QI X G z) h 7 [(0, .ref (G.1 25)), (1, .int v1), (2, .int v2), (3, .int v3), (4, .int v4), (5, .int v5)] []) (hk17 : ∀ (v1 : Int32) (v2 : Int32) (v3 : Int32) (v4 : Int32) (v5 : Int32) (v6 : Int32) (h : Hp), k17 v1 v2 v3 v4 v5 v6 h = some z → V X G 13 (QI X G z) h 17 [(0, .ref (G.1 25)), (1, .int v1), (2, .int v2), (3, .int v3), (4, .int v4), (5, .int v5), (6, .int v6)] []) (v1 : Int32) (v2 : Int32) (v3 : Int32) (v5 : Int32) (v6 : Int32) (s0 : Int32) (h : Hp) (e : f_X8_reachOf_b165 N k7 k17 v1 v2 v3 v5 v6 s0 h = some z) : V X G 13 (QI X G z) h 165 [(0, .ref (G.1 25)), (1, .int v1), (2, .int v2), (3, .int v3), (5, .int v5), (6, .int v6)] [.int s0] := by
  unfold f_X8_reachOf_b165 at e
  refine v_iconst (v := 0) O dX8_reachOf_165 (by decide) ?_
  exact f_X8_reachOf_b166_ok h41 O N k7 k17 hk7 hk17 _ _ _ _ _ _ _ _ e
set_option maxRecDepth 20000 in
theorem f_X8_reachOf_b130_ok {X : Cx} {G : Gx} {z : Rs} (h41 : 41 ≤ gN G) (O : Ok X G cX8_reachOf RX8 13 wsX8_reachOf (some .int) rm_X8_reachOf) (N : Nat) (k7 : Int32 → Int32 → Int32 → Int32 → Int32 → Hp → Option Rs) (k17 : Int32 → Int32 → Int32 → Int32 → Int32 → Int32 → Hp → Option Rs) (hk7 : ∀ (v1 : Int32) (v2 : Int32) (v3 : Int32) (v4 : Int32) (v5 : Int32) (h : Hp), k7 v1 v2 v3 v4 v5 h = some z → V X G 13 (QI X G z) h 7 [(0, .ref (G.1 25)), (1, .int v1), (2, .int v2), (3, .int v3), (4, .int v4), (5, .int v5)] []) (hk17 : ∀ (v1 : Int32) (v2 : Int32) (v3 : Int32) (v4 : Int32) (v5 : Int32) (v6 : Int32) (h : Hp), k17 v1 v2 v3 v4 v5 v6 h = some z → V X G 13 (QI X G z) h 17 [(0, .ref (G.1 25)), (1, .int v1), (2, .int v2), (3, .int v3), (4, .int v4), (5, .int v5), (6, .int v6)] []) (v1 : Int32) (v2 : Int32) (v3 : Int32) (v4 : Int32) (v5 : Int32) (v6 : Int32) (v10 : Int32) (v11 : Int32) (s0 : Int32) (h : Hp) (e : f_X8_reachOf_b130 N k7 k17 v1 v2 v3 v4 v5 v6 v10 v11 s0 h = some z) : V X G 13 (QI X G z) h 130 [(0, .ref (G.1 25)), (1, .int v1), (2, .int v2), (3, .int v3), (4, .int v4), (5, .int v5), (6, .int v6), (10, .int v10), (11, .int v11)] [.int s0] := by
  unfold f_X8_reachOf_b130 at e
  refine v_istore O dX8_reachOf_130 (by decide) (fun x1 => [(12, .int x1), (0, .ref (G.1 25)), (1, .int v1), (2, .int v2), (3, .int v3), (4, .int v4), (5, .int v5), (6, .int v6), (10, .int v10), (11, .int v11)]) (fun _ => rfl) e (fun x1 e => ?_)
  refine v_iload O dX8_reachOf_132 5 rfl ?_
  refine v_iload O dX8_reachOf_134 0 rfl ?_
  refine v_if_eq O dX8_reachOf_136 165 (by decide) e (fun e => ?_) (fun e => ?_)
  · refine v_sub [1, 2, 3, 4, 6, 7] rfl ?_
    exact f_X8_reachOf_b165_ok h41 O N k7 k17 hk7 hk17 _ _ _ _ _ _ _ e
  · refine v_aload_n O dX8_reachOf_139 1 rfl rfl ?_
    refine v_iload O dX8_reachOf_140 8 rfl ?_
    refine v_iload O dX8_reachOf_142 9 rfl ?_
    refine v_cVi O [.int v10, .int v11] [.int v4] gX8_reachOf_X8_isOn cw_X8_reachOf_X8_isOn rfl rfl (g41 h41 (by decide)) (cg_25 G _) rfl rfl (Nat.le_of_ble_eq_true rfl) dX8_reachOf_144 e (fun _ e9 => f_X8_isOn_ok h41 e9) (fun r2 h3 e => ?_)
    refine v_if_eq O dX8_reachOf_147 165 (by decide) e (fun e => ?_) (fun e => ?_)
    · refine v_sub [1, 2, 3, 4, 6, 7] rfl ?_
      exact f_X8_reachOf_b165_ok h41 O N k7 k17 hk7 hk17 _ _ _ _ _ _ _ e
    · refine v_iconst (v := 1) O dX8_reachOf_150 (by decide) ?_
      refine v_iload O dX8_reachOf_151 9 rfl ?_
      refine v_aload_n O dX8_reachOf_153 1 rfl rfl ?_
      refine v_get O fd_X8_reachOf_7 (g41 h41 (by decide)) (cg_25 G _) rfl dX8_reachOf_154 ?_
      refine v_imul O dX8_reachOf_157 ?_
      refine v_iload O dX8_reachOf_158 8 rfl ?_
      refine v_iadd O dX8_reachOf_160 ?_
      refine v_ishl O dX8_reachOf_161 ?_
      refine v_goto O dX8_reachOf_162 166 (by decide) ?_
      refine v_sub [1, 2, 3, 4, 6, 7] rfl ?_
      exact f_X8_reachOf_b166_ok h41 O N k7 k17 hk7 hk17 _ _ _ _ _ _ _ _ e
set_option maxRecDepth 20000 in
theorem f_X8_reachOf_b201_ok {X : Cx} {G : Gx} {z : Rs} (h41 : 41 ≤ gN G) (O : Ok X G cX8_reachOf RX8 13 wsX8_reachOf (some .int) rm_X8_reachOf) (N : Nat) (k7 : Int32 → Int32 → Int32 → Int32 → Int32 → Hp → Option Rs) (k17 : Int32 → Int32 → Int32 → Int32 → Int32 → Int32 → Hp → Option Rs) (hk7 : ∀ (v1 : Int32) (v2 : Int32) (v3 : Int32) (v4 : Int32) (v5 : Int32) (h : Hp), k7 v1 v2 v3 v4 v5 h = some z → V X G 13 (QI X G z) h 7 [(0, .ref (G.1 25)), (1, .int v1), (2, .int v2), (3, .int v3), (4, .int v4), (5, .int v5)] []) (hk17 : ∀ (v1 : Int32) (v2 : Int32) (v3 : Int32) (v4 : Int32) (v5 : Int32) (v6 : Int32) (h : Hp), k17 v1 v2 v3 v4 v5 v6 h = some z → V X G 13 (QI X G z) h 17 [(0, .ref (G.1 25)), (1, .int v1), (2, .int v2), (3, .int v3), (4, .int v4), (5, .int v5), (6, .int v6)] []) (v1 : Int32) (v2 : Int32) (v3 : Int32) (v4 : Int32) (v5 : Int32) (v6 : Int32) (s0 : Int32) (s1 : Int32) (h : Hp) (e : f_X8_reachOf_b201 N k7 k17 v1 v2 v3 v4 v5 v6 s0 s1 h = some z) : V X G 13 (QI X G z) h 201 [(0, .ref (G.1 25)), (1, .int v1), (2, .int v2), (3, .int v3), (4, .int v4), (5, .int v5), (6, .int v6)] [.int s0, .int s1] := by
  unfold f_X8_reachOf_b201 at e
  refine v_icmp_ne O dX8_reachOf_201 219 (by decide) e (fun e => ?_) (fun e => ?_)
  · exact f_X8_reachOf_b219_ok h41 O N k7 k17 hk7 hk17 _ _ _ _ _ _ _ e
  · refine v_iload O dX8_reachOf_204 4 rfl ?_
    refine v_aload_n O dX8_reachOf_206 0 rfl rfl ?_
    refine v_iload_n O dX8_reachOf_207 2 rfl rfl ?_
    refine v_iload O dX8_reachOf_208 5 rfl ?_
    refine v_iload O dX8_reachOf_210 6 rfl ?_
    refine v_iload_n O dX8_reachOf_212 3 rfl rfl ?_
    refine v_cVi O [.int v2, .int v5, .int v6, .int v3] [.int v4] gX8_reachOf_X8_slide cw_X8_reachOf_X8_slide rfl rfl (g41 h41 (by decide)) (cg_25 G _) rfl rfl (Nat.le_of_ble_eq_true rfl) dX8_reachOf_213 e (fun _ e9 => f_X8_slide_ok h41 e9) (fun r1 h2 e => ?_)
    refine v_ior O dX8_reachOf_216 ?_
    refine v_istore O dX8_reachOf_217 (by decide) (fun x3 => [(4, .int x3), (0, .ref (G.1 25)), (1, .int v1), (2, .int v2), (3, .int v3), (5, .int v5), (6, .int v6)]) (fun _ => rfl) e (fun x3 e => ?_)
    refine v_sub [1, 2, 3, 4, 0, 5, 6] rfl ?_
    exact f_X8_reachOf_b219_ok h41 O N k7 k17 hk7 hk17 _ _ _ _ _ _ _ e
set_option maxRecDepth 20000 in
theorem f_X8_reachOf_b187_ok {X : Cx} {G : Gx} {z : Rs} (h41 : 41 ≤ gN G) (O : Ok X G cX8_reachOf RX8 13 wsX8_reachOf (some .int) rm_X8_reachOf) (N : Nat) (k7 : Int32 → Int32 → Int32 → Int32 → Int32 → Hp → Option Rs) (k17 : Int32 → Int32 → Int32 → Int32 → Int32 → Int32 → Hp → Option Rs) (hk7 : ∀ (v1 : Int32) (v2 : Int32) (v3 : Int32) (v4 : Int32) (v5 : Int32) (h : Hp), k7 v1 v2 v3 v4 v5 h = some z → V X G 13 (QI X G z) h 7 [(0, .ref (G.1 25)), (1, .int v1), (2, .int v2), (3, .int v3), (4, .int v4), (5, .int v5)] []) (hk17 : ∀ (v1 : Int32) (v2 : Int32) (v3 : Int32) (v4 : Int32) (v5 : Int32) (v6 : Int32) (h : Hp), k17 v1 v2 v3 v4 v5 v6 h = some z → V X G 13 (QI X G z) h 17 [(0, .ref (G.1 25)), (1, .int v1), (2, .int v2), (3, .int v3), (4, .int v4), (5, .int v5), (6, .int v6)] []) (v1 : Int32) (v2 : Int32) (v3 : Int32) (v4 : Int32) (v5 : Int32) (v6 : Int32) (v7 : Int32) (v8 : Int32) (s0 : Int32) (h : Hp) (e : f_X8_reachOf_b187 N k7 k17 v1 v2 v3 v4 v5 v6 v7 v8 s0 h = some z) : V X G 13 (QI X G z) h 187 [(0, .ref (G.1 25)), (1, .int v1), (2, .int v2), (3, .int v3), (4, .int v4), (5, .int v5), (6, .int v6), (7, .int v7), (8, .int v8)] [.int s0] := by
  unfold f_X8_reachOf_b187 at e
  refine v_iload O dX8_reachOf_187 7 rfl ?_
  refine v_iload O dX8_reachOf_189 8 rfl ?_
  refine v_iadd O dX8_reachOf_191 ?_
  refine v_iconst (v := 1) O dX8_reachOf_192 (by decide) ?_
  refine v_icmp_ne O dX8_reachOf_193 200 (by decide) e (fun e => ?_) (fun e => ?_)
  · refine v_iconst (v := 0) O dX8_reachOf_200 (by decide) ?_
    refine v_sub [0, 1, 2, 3, 4, 5, 6] rfl ?_
    exact f_X8_reachOf_b201_ok h41 O N k7 k17 hk7 hk17 _ _ _ _ _ _ _ _ _ e
  · refine v_iconst (v := 1) O dX8_reachOf_196 (by decide) ?_
    refine v_goto O dX8_reachOf_197 201 (by decide) ?_
    refine v_sub [0, 1, 2, 3, 4, 5, 6] rfl ?_
    exact f_X8_reachOf_b201_ok h41 O N k7 k17 hk7 hk17 _ _ _ _ _ _ _ _ _ e
set_option maxRecDepth 20000 in
theorem f_X8_reachOf_b78_ok {X : Cx} {G : Gx} {z : Rs} (h41 : 41 ≤ gN G) (O : Ok X G cX8_reachOf RX8 13 wsX8_reachOf (some .int) rm_X8_reachOf) (N : Nat) (k7 : Int32 → Int32 → Int32 → Int32 → Int32 → Hp → Option Rs) (k17 : Int32 → Int32 → Int32 → Int32 → Int32 → Int32 → Hp → Option Rs) (hk7 : ∀ (v1 : Int32) (v2 : Int32) (v3 : Int32) (v4 : Int32) (v5 : Int32) (h : Hp), k7 v1 v2 v3 v4 v5 h = some z → V X G 13 (QI X G z) h 7 [(0, .ref (G.1 25)), (1, .int v1), (2, .int v2), (3, .int v3), (4, .int v4), (5, .int v5)] []) (hk17 : ∀ (v1 : Int32) (v2 : Int32) (v3 : Int32) (v4 : Int32) (v5 : Int32) (v6 : Int32) (h : Hp), k17 v1 v2 v3 v4 v5 v6 h = some z → V X G 13 (QI X G z) h 17 [(0, .ref (G.1 25)), (1, .int v1), (2, .int v2), (3, .int v3), (4, .int v4), (5, .int v5), (6, .int v6)] []) (v1 : Int32) (v2 : Int32) (v3 : Int32) (v4 : Int32) (v5 : Int32) (v6 : Int32) (v7 : Int32) (v8 : Int32) (s0 : Int32) (h : Hp) (e : f_X8_reachOf_b78 N k7 k17 v1 v2 v3 v4 v5 v6 v7 v8 s0 h = some z) : V X G 13 (QI X G z) h 78 [(0, .ref (G.1 25)), (1, .int v1), (2, .int v2), (3, .int v3), (4, .int v4), (5, .int v5), (6, .int v6), (7, .int v7), (8, .int v8)] [.int s0] := by
  unfold f_X8_reachOf_b78 at e
  refine v_istore O dX8_reachOf_78 (by decide) (fun x1 => [(9, .int x1), (0, .ref (G.1 25)), (1, .int v1), (2, .int v2), (3, .int v3), (4, .int v4), (5, .int v5), (6, .int v6), (7, .int v7), (8, .int v8)]) (fun _ => rfl) e (fun x1 e => ?_)
  refine v_iload_n O dX8_reachOf_80 3 rfl rfl ?_
  refine v_aload_n O dX8_reachOf_81 1 rfl rfl ?_
  refine v_get O fd_X8_reachOf_7 (g41 h41 (by decide)) (cg_25 G _) rfl dX8_reachOf_82 ?_
  refine v_irem O dX8_reachOf_85 e (fun e => ?_)
  refine v_iload O dX8_reachOf_86 6 rfl ?_
  refine v_iadd O dX8_reachOf_88 ?_
  refine v_istore O dX8_reachOf_89 (by decide) (fun x2 => [(10, .int x2), (9, .int x1), (0, .ref (G.1 25)), (1, .int v1), (2, .int v2), (3, .int v3), (4, .int v4), (5, .int v5), (6, .int v6), (7, .int v7), (8, .int v8)]) (fun _ => rfl) e (fun x2 e => ?_)
  refine v_iload_n O dX8_reachOf_91 4 rfl rfl ?_
  refine v_aload_n O dX8_reachOf_92 2 rfl rfl ?_
  refine v_get O fd_X8_reachOf_7 (g41 h41 (by decide)) (cg_25 G _) rfl dX8_reachOf_93 ?_
  refine v_idiv O dX8_reachOf_96 e (fun e => ?_)
  refine v_iload O dX8_reachOf_97 8 rfl ?_
  refine v_iadd O dX8_reachOf_99 ?_
  refine v_istore O dX8_reachOf_100 (by decide) (fun x3 => [(11, .int x3), (10, .int x2), (9, .int x1), (0, .ref (G.1 25)), (1, .int v1), (2, .int v2), (3, .int v3), (4, .int v4), (5, .int v5), (6, .int v6), (7, .int v7), (8, .int v8)]) (fun _ => rfl) e (fun x3 e => ?_)
  refine v_iload_n O dX8_reachOf_102 4 rfl rfl ?_
  refine v_iconst (v := 2) O dX8_reachOf_103 (by decide) ?_
  refine v_icmp_ge O dX8_reachOf_104 172 (by decide) e (fun e => ?_) (fun e => ?_)
  · refine v_iload O dX8_reachOf_172 2 rfl ?_
    refine v_if_eq O dX8_reachOf_174 219 (by decide) e (fun e => ?_) (fun e => ?_)
    · refine v_sub [3, 4, 5, 6, 7, 8, 9] rfl ?_
      exact f_X8_reachOf_b219_ok h41 O N k7 k17 hk7 hk17 _ _ _ _ _ _ _ e
    · refine v_iload_n O dX8_reachOf_177 4 rfl rfl ?_
      refine v_iconst (v := 2) O dX8_reachOf_178 (by decide) ?_
      refine v_icmp_ne O dX8_reachOf_179 186 (by decide) e (fun e => ?_) (fun e => ?_)
      · refine v_iconst (v := 0) O dX8_reachOf_186 (by decide) ?_
        refine v_sub [3, 4, 5, 6, 7, 8, 9, 10, 11] rfl ?_
        exact f_X8_reachOf_b187_ok h41 O N k7 k17 hk7 hk17 _ _ _ _ _ _ _ _ _ _ e
      · refine v_iconst (v := 1) O dX8_reachOf_182 (by decide) ?_
        refine v_goto O dX8_reachOf_183 187 (by decide) ?_
        refine v_sub [3, 4, 5, 6, 7, 8, 9, 10, 11] rfl ?_
        exact f_X8_reachOf_b187_ok h41 O N k7 k17 hk7 hk17 _ _ _ _ _ _ _ _ _ _ e
  · refine v_iload_n O dX8_reachOf_107 4 rfl rfl ?_
    refine v_if_ne O dX8_reachOf_108 128 (by decide) e (fun e => ?_) (fun e => ?_)
    · refine v_iload O dX8_reachOf_128 2 rfl ?_
      refine v_sub [3, 4, 5, 6, 7, 8, 9, 1, 0] rfl ?_
      exact f_X8_reachOf_b130_ok h41 O N k7 k17 hk7 hk17 _ _ _ _ _ _ _ _ _ _ e
    · refine v_iload O dX8_reachOf_111 10 rfl ?_
      refine v_iload O dX8_reachOf_113 11 rfl ?_
      refine v_imul O dX8_reachOf_115 ?_
      refine v_iconst (v := 2) O dX8_reachOf_116 (by decide) ?_
      refine v_icmp_ne O dX8_reachOf_117 124 (by decide) e (fun e => ?_) (fun e => ?_)
      · refine v_iconst (v := 0) O dX8_reachOf_124 (by decide) ?_
        refine v_goto O dX8_reachOf_125 130 (by decide) ?_
        refine v_sub [3, 4, 5, 6, 7, 8, 9, 1, 0] rfl ?_
        exact f_X8_reachOf_b130_ok h41 O N k7 k17 hk7 hk17 _ _ _ _ _ _ _ _ _ _ e
      · refine v_iconst (v := 1) O dX8_reachOf_120 (by decide) ?_
        refine v_goto O dX8_reachOf_121 130 (by decide) ?_
        refine v_sub [3, 4, 5, 6, 7, 8, 9, 1, 0] rfl ?_
        exact f_X8_reachOf_b130_ok h41 O N k7 k17 hk7 hk17 _ _ _ _ _ _ _ _ _ _ e
set_option maxRecDepth 20000 in
theorem f_X8_reachOf_b77_ok {X : Cx} {G : Gx} {z : Rs} (h41 : 41 ≤ gN G) (O : Ok X G cX8_reachOf RX8 13 wsX8_reachOf (some .int) rm_X8_reachOf) (N : Nat) (k7 : Int32 → Int32 → Int32 → Int32 → Int32 → Hp → Option Rs) (k17 : Int32 → Int32 → Int32 → Int32 → Int32 → Int32 → Hp → Option Rs) (hk7 : ∀ (v1 : Int32) (v2 : Int32) (v3 : Int32) (v4 : Int32) (v5 : Int32) (h : Hp), k7 v1 v2 v3 v4 v5 h = some z → V X G 13 (QI X G z) h 7 [(0, .ref (G.1 25)), (1, .int v1), (2, .int v2), (3, .int v3), (4, .int v4), (5, .int v5)] []) (hk17 : ∀ (v1 : Int32) (v2 : Int32) (v3 : Int32) (v4 : Int32) (v5 : Int32) (v6 : Int32) (h : Hp), k17 v1 v2 v3 v4 v5 v6 h = some z → V X G 13 (QI X G z) h 17 [(0, .ref (G.1 25)), (1, .int v1), (2, .int v2), (3, .int v3), (4, .int v4), (5, .int v5), (6, .int v6)] []) (v1 : Int32) (v2 : Int32) (v3 : Int32) (v4 : Int32) (v5 : Int32) (v6 : Int32) (v7 : Int32) (v8 : Int32) (h : Hp) (e : f_X8_reachOf_b77 N k7 k17 v1 v2 v3 v4 v5 v6 v7 v8 h = some z) : V X G 13 (QI X G z) h 77 [(0, .ref (G.1 25)), (1, .int v1), (2, .int v2), (3, .int v3), (4, .int v4), (5, .int v5), (6, .int v6), (7, .int v7), (8, .int v8)] [] := by
  unfold f_X8_reachOf_b77 at e
  refine v_iconst (v := 0) O dX8_reachOf_77 (by decide) ?_
  exact f_X8_reachOf_b78_ok h41 O N k7 k17 hk7 hk17 _ _ _ _ _ _ _ _ _ _ e
set_option maxRecDepth 20000 in
theorem f_X8_reachOf_b51_ok {X : Cx} {G : Gx} {z : Rs} (h41 : 41 ≤ gN G) (O : Ok X G cX8_reachOf RX8 13 wsX8_reachOf (some .int) rm_X8_reachOf) (N : Nat) (k7 : Int32 → Int32 → Int32 → Int32 → Int32 → Hp → Option Rs) (k17 : Int32 → Int32 → Int32 → Int32 → Int32 → Int32 → Hp → Option Rs) (hk7 : ∀ (v1 : Int32) (v2 : Int32) (v3 : Int32) (v4 : Int32) (v5 : Int32) (h : Hp), k7 v1 v2 v3 v4 v5 h = some z → V X G 13 (QI X G z) h 7 [(0, .ref (G.1 25)), (1, .int v1), (2, .int v2), (3, .int v3), (4, .int v4), (5, .int v5)] []) (hk17 : ∀ (v1 : Int32) (v2 : Int32) (v3 : Int32) (v4 : Int32) (v5 : Int32) (v6 : Int32) (h : Hp), k17 v1 v2 v3 v4 v5 v6 h = some z → V X G 13 (QI X G z) h 17 [(0, .ref (G.1 25)), (1, .int v1), (2, .int v2), (3, .int v3), (4, .int v4), (5, .int v5), (6, .int v6)] []) (v1 : Int32) (v2 : Int32) (v3 : Int32) (v4 : Int32) (v5 : Int32) (v6 : Int32) (v7 : Int32) (s0 : Int32) (h : Hp) (e : f_X8_reachOf_b51 N k7 k17 v1 v2 v3 v4 v5 v6 v7 s0 h = some z) : V X G 13 (QI X G z) h 51 [(0, .ref (G.1 25)), (1, .int v1), (2, .int v2), (3, .int v3), (4, .int v4), (5, .int v5), (6, .int v6), (7, .int v7)] [.int s0] := by
  unfold f_X8_reachOf_b51 at e
  refine v_istore O dX8_reachOf_51 (by decide) (fun x1 => [(8, .int x1), (0, .ref (G.1 25)), (1, .int v1), (2, .int v2), (3, .int v3), (4, .int v4), (5, .int v5), (6, .int v6), (7, .int v7)]) (fun _ => rfl) e (fun x1 e => ?_)
  refine v_iload O dX8_reachOf_53 8 rfl ?_
  refine v_iconst (v := 2) O dX8_reachOf_55 (by decide) ?_
  refine v_icmp_ge O dX8_reachOf_56 77 (by decide) e (fun e => ?_) (fun e => ?_)
  · refine v_sub [1, 2, 3, 4, 5, 6, 7, 8, 0] rfl ?_
    exact f_X8_reachOf_b77_ok h41 O N k7 k17 hk7 hk17 _ _ _ _ _ _ _ _ _ e
  · refine v_iload O dX8_reachOf_59 0 rfl ?_
    refine v_iconst (v := 2) O dX8_reachOf_61 (by decide) ?_
    refine v_icmp_ge O dX8_reachOf_62 77 (by decide) e (fun e => ?_) (fun e => ?_)
    · refine v_sub [1, 2, 3, 4, 5, 6, 7, 8, 0] rfl ?_
      exact f_X8_reachOf_b77_ok h41 O N k7 k17 hk7 hk17 _ _ _ _ _ _ _ _ _ e
    · refine v_iload O dX8_reachOf_65 8 rfl ?_
      refine v_iload O dX8_reachOf_67 0 rfl ?_
      refine v_iadd O dX8_reachOf_69 ?_
      refine v_if_le O dX8_reachOf_70 77 (by decide) e (fun e => ?_) (fun e => ?_)
      · refine v_sub [1, 2, 3, 4, 5, 6, 7, 8, 0] rfl ?_
        exact f_X8_reachOf_b77_ok h41 O N k7 k17 hk7 hk17 _ _ _ _ _ _ _ _ _ e
      · refine v_iconst (v := 1) O dX8_reachOf_73 (by decide) ?_
        refine v_goto O dX8_reachOf_74 78 (by decide) ?_
        refine v_sub [1, 2, 3, 4, 5, 6, 7, 8, 0] rfl ?_
        exact f_X8_reachOf_b78_ok h41 O N k7 k17 hk7 hk17 _ _ _ _ _ _ _ _ _ _ e
set_option maxRecDepth 20000 in
theorem f_X8_reachOf_b36_ok {X : Cx} {G : Gx} {z : Rs} (h41 : 41 ≤ gN G) (O : Ok X G cX8_reachOf RX8 13 wsX8_reachOf (some .int) rm_X8_reachOf) (N : Nat) (k7 : Int32 → Int32 → Int32 → Int32 → Int32 → Hp → Option Rs) (k17 : Int32 → Int32 → Int32 → Int32 → Int32 → Int32 → Hp → Option Rs) (hk7 : ∀ (v1 : Int32) (v2 : Int32) (v3 : Int32) (v4 : Int32) (v5 : Int32) (h : Hp), k7 v1 v2 v3 v4 v5 h = some z → V X G 13 (QI X G z) h 7 [(0, .ref (G.1 25)), (1, .int v1), (2, .int v2), (3, .int v3), (4, .int v4), (5, .int v5)] []) (hk17 : ∀ (v1 : Int32) (v2 : Int32) (v3 : Int32) (v4 : Int32) (v5 : Int32) (v6 : Int32) (h : Hp), k17 v1 v2 v3 v4 v5 v6 h = some z → V X G 13 (QI X G z) h 17 [(0, .ref (G.1 25)), (1, .int v1), (2, .int v2), (3, .int v3), (4, .int v4), (5, .int v5), (6, .int v6)] []) (v1 : Int32) (v2 : Int32) (v3 : Int32) (v4 : Int32) (v5 : Int32) (v6 : Int32) (s0 : Int32) (h : Hp) (e : f_X8_reachOf_b36 N k7 k17 v1 v2 v3 v4 v5 v6 s0 h = some z) : V X G 13 (QI X G z) h 36 [(0, .ref (G.1 25)), (1, .int v1), (2, .int v2), (3, .int v3), (4, .int v4), (5, .int v5), (6, .int v6)] [.int s0] := by
  unfold f_X8_reachOf_b36 at e
  refine v_istore O dX8_reachOf_36 (by decide) (fun x1 => [(7, .int x1), (0, .ref (G.1 25)), (1, .int v1), (2, .int v2), (3, .int v3), (4, .int v4), (5, .int v5), (6, .int v6)]) (fun _ => rfl) e (fun x1 e => ?_)
  refine v_iload O dX8_reachOf_38 7 rfl ?_
  refine v_if_ge O dX8_reachOf_40 49 (by decide) e (fun e => ?_) (fun e => ?_)
  · refine v_iload O dX8_reachOf_49 7 rfl ?_
    refine v_sub [1, 2, 3, 4, 5, 6, 7, 0] rfl ?_
    exact f_X8_reachOf_b51_ok h41 O N k7 k17 hk7 hk17 _ _ _ _ _ _ _ _ _ e
  · refine v_iload O dX8_reachOf_43 7 rfl ?_
    refine v_ineg O dX8_reachOf_45 ?_
    refine v_goto O dX8_reachOf_46 51 (by decide) ?_
    refine v_sub [1, 2, 3, 4, 5, 6, 7, 0] rfl ?_
    exact f_X8_reachOf_b51_ok h41 O N k7 k17 hk7 hk17 _ _ _ _ _ _ _ _ _ e
set_option maxRecDepth 20000 in
theorem f_X8_reachOf_b17_ok {X : Cx} {G : Gx} {z : Rs} (h41 : 41 ≤ gN G) (O : Ok X G cX8_reachOf RX8 13 wsX8_reachOf (some .int) rm_X8_reachOf) (N : Nat) (k7 : Int32 → Int32 → Int32 → Int32 → Int32 → Hp → Option Rs) (k17 : Int32 → Int32 → Int32 → Int32 → Int32 → Int32 → Hp → Option Rs) (hk7 : ∀ (v1 : Int32) (v2 : Int32) (v3 : Int32) (v4 : Int32) (v5 : Int32) (h : Hp), k7 v1 v2 v3 v4 v5 h = some z → V X G 13 (QI X G z) h 7 [(0, .ref (G.1 25)), (1, .int v1), (2, .int v2), (3, .int v3), (4, .int v4), (5, .int v5)] []) (hk17 : ∀ (v1 : Int32) (v2 : Int32) (v3 : Int32) (v4 : Int32) (v5 : Int32) (v6 : Int32) (h : Hp), k17 v1 v2 v3 v4 v5 v6 h = some z → V X G 13 (QI X G z) h 17 [(0, .ref (G.1 25)), (1, .int v1), (2, .int v2), (3, .int v3), (4, .int v4), (5, .int v5), (6, .int v6)] []) (v1 : Int32) (v2 : Int32) (v3 : Int32) (v4 : Int32) (v5 : Int32) (v6 : Int32) (h : Hp) (e : f_X8_reachOf_b17 N k7 k17 v1 v2 v3 v4 v5 v6 h = some z) : V X G 13 (QI X G z) h 17 [(0, .ref (G.1 25)), (1, .int v1), (2, .int v2), (3, .int v3), (4, .int v4), (5, .int v5), (6, .int v6)] [] := by
  unfold f_X8_reachOf_b17 at e
  refine v_iload O dX8_reachOf_17 6 rfl ?_
  refine v_iconst (v := 3) O dX8_reachOf_19 (by decide) ?_
  refine v_icmp_ge O dX8_reachOf_20 225 (by decide) e (fun e => ?_) (fun e => ?_)
  · refine v_iinc (v := 1) O dX8_reachOf_225 5 rfl (by decide) (by decide) (fun x1 => [(5, .int x1), (0, .ref (G.1 25)), (1, .int v1), (2, .int v2), (3, .int v3), (4, .int v4), (6, .int v6)]) (fun _ => rfl) e (fun x1 e => ?_)
    refine v_goto O dX8_reachOf_228 7 (by decide) ?_
    refine v_sub [1, 2, 3, 4, 5, 0] rfl ?_
    exact hk7 _ _ _ _ _ _ e
  · refine v_iload O dX8_reachOf_23 5 rfl ?_
    refine v_if_ge O dX8_reachOf_25 34 (by decide) e (fun e => ?_) (fun e => ?_)
    · refine v_iload O dX8_reachOf_34 5 rfl ?_
      exact f_X8_reachOf_b36_ok h41 O N k7 k17 hk7 hk17 _ _ _ _ _ _ _ _ e
    · refine v_iload O dX8_reachOf_28 5 rfl ?_
      refine v_ineg O dX8_reachOf_30 ?_
      refine v_goto O dX8_reachOf_31 36 (by decide) ?_
      exact f_X8_reachOf_b36_ok h41 O N k7 k17 hk7 hk17 _ _ _ _ _ _ _ _ e
theorem f_X8_reachOf_l17_ok {X : Cx} {G : Gx} {z : Rs} (h41 : 41 ≤ gN G) (O : Ok X G cX8_reachOf RX8 13 wsX8_reachOf (some .int) rm_X8_reachOf) (N : Nat) (k7 : Int32 → Int32 → Int32 → Int32 → Int32 → Hp → Option Rs) (hk7 : ∀ (v1 : Int32) (v2 : Int32) (v3 : Int32) (v4 : Int32) (v5 : Int32) (h : Hp), k7 v1 v2 v3 v4 v5 h = some z → V X G 13 (QI X G z) h 7 [(0, .ref (G.1 25)), (1, .int v1), (2, .int v2), (3, .int v3), (4, .int v4), (5, .int v5)] []) : ∀ (n : Nat) (v1 : Int32) (v2 : Int32) (v3 : Int32) (v4 : Int32) (v5 : Int32) (v6 : Int32) (h : Hp), f_X8_reachOf_l17 N k7 n v1 v2 v3 v4 v5 v6 h = some z → V X G 13 (QI X G z) h 17 [(0, .ref (G.1 25)), (1, .int v1), (2, .int v2), (3, .int v3), (4, .int v4), (5, .int v5), (6, .int v6)] [] := by
  intro n
  induction n with
  | zero => intro v1 v2 v3 v4 v5 v6 h e; cases e
  | succ n ih => intro v1 v2 v3 v4 v5 v6 h e; exact f_X8_reachOf_b17_ok h41 O N k7 _ hk7 ih v1 v2 v3 v4 v5 v6 h e
set_option maxRecDepth 20000 in
theorem f_X8_reachOf_b7_ok {X : Cx} {G : Gx} {z : Rs} (h41 : 41 ≤ gN G) (O : Ok X G cX8_reachOf RX8 13 wsX8_reachOf (some .int) rm_X8_reachOf) (N : Nat) (k7 : Int32 → Int32 → Int32 → Int32 → Int32 → Hp → Option Rs) (hk7 : ∀ (v1 : Int32) (v2 : Int32) (v3 : Int32) (v4 : Int32) (v5 : Int32) (h : Hp), k7 v1 v2 v3 v4 v5 h = some z → V X G 13 (QI X G z) h 7 [(0, .ref (G.1 25)), (1, .int v1), (2, .int v2), (3, .int v3), (4, .int v4), (5, .int v5)] []) (v1 : Int32) (v2 : Int32) (v3 : Int32) (v4 : Int32) (v5 : Int32) (h : Hp) (e : f_X8_reachOf_b7 N k7 v1 v2 v3 v4 v5 h = some z) : V X G 13 (QI X G z) h 7 [(0, .ref (G.1 25)), (1, .int v1), (2, .int v2), (3, .int v3), (4, .int v4), (5, .int v5)] [] := by
  unfold f_X8_reachOf_b7 at e
  refine v_iload O dX8_reachOf_7 5 rfl ?_
  refine v_iconst (v := 3) O dX8_reachOf_9 (by decide) ?_
  refine v_icmp_ge O dX8_reachOf_10 231 (by decide) e (fun e => ?_) (fun e => ?_)
  · refine v_iload O dX8_reachOf_231 4 rfl ?_
    exact v_iret O dX8_reachOf_233 e
  · refine v_bipush (v := (-2)) O dX8_reachOf_13 (by decide) ?_
    refine v_istore O dX8_reachOf_15 (by decide) (fun x1 => [(6, .int x1), (0, .ref (G.1 25)), (1, .int v1), (2, .int v2), (3, .int v3), (4, .int v4), (5, .int v5)]) (fun _ => rfl) e (fun x1 e => ?_)
    refine v_sub [1, 2, 3, 4, 5, 6, 0] rfl ?_
    exact f_X8_reachOf_l17_ok h41 O N k7 hk7 N _ _ _ _ _ _ _ e
theorem f_X8_reachOf_l7_ok {X : Cx} {G : Gx} {z : Rs} (h41 : 41 ≤ gN G) (O : Ok X G cX8_reachOf RX8 13 wsX8_reachOf (some .int) rm_X8_reachOf) (N : Nat) : ∀ (n : Nat) (v1 : Int32) (v2 : Int32) (v3 : Int32) (v4 : Int32) (v5 : Int32) (h : Hp), f_X8_reachOf_l7 N n v1 v2 v3 v4 v5 h = some z → V X G 13 (QI X G z) h 7 [(0, .ref (G.1 25)), (1, .int v1), (2, .int v2), (3, .int v3), (4, .int v4), (5, .int v5)] [] := by
  intro n
  induction n with
  | zero => intro v1 v2 v3 v4 v5 h e; cases e
  | succ n ih => intro v1 v2 v3 v4 v5 h e; exact f_X8_reachOf_b7_ok h41 O N _ ih v1 v2 v3 v4 v5 h e
set_option maxRecDepth 20000 in
theorem f_X8_reachOf_ok {l : Launch} {G : Gx} {N : Nat} (h41 : 41 ≤ gN G) {a0 : Int32} {a1 : Int32} {a2 : Int32} {h : Hp} {z : Rs} (e : f_X8_reachOf N a0 a1 a2 h = some z) : CI l G yX8_reachOf wsX8_reachOf rm_X8_reachOf [.ref (G.1 25), .int a0, .int a1, .int a2] h z := by
  refine m_int _ (by decide) rfl [(0, .ref (G.1 25)), (1, .int a0), (2, .int a1), (3, .int a2)] rfl (Nat.le_of_ble_eq_true rfl) (fun X O => ?_)
  unfold f_X8_reachOf at e
  refine v_iconst (v := 0) O dX8_reachOf_0 (by decide) ?_
  refine v_istore O dX8_reachOf_1 (by decide) (fun x1 => [(4, .int x1), (0, .ref (G.1 25)), (1, .int a0), (2, .int a1), (3, .int a2)]) (fun _ => rfl) e (fun x1 e => ?_)
  refine v_bipush (v := (-2)) O dX8_reachOf_3 (by decide) ?_
  refine v_istore O dX8_reachOf_5 (by decide) (fun x2 => [(5, .int x2), (4, .int x1), (0, .ref (G.1 25)), (1, .int a0), (2, .int a1), (3, .int a2)]) (fun _ => rfl) e (fun x2 e => ?_)
  refine v_sub [2, 3, 4, 5, 1, 0] rfl ?_
  exact f_X8_reachOf_l7_ok h41 O N N _ _ _ _ _ _ e
