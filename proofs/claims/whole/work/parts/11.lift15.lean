/-! ===== X8 shapeOf ===== -/
abbrev rm_X8_shapeOf : Room := { frames := 6, cells := 0, slots := 0, locals := 151 }
theorem fd_X8_shapeOf_7 : FdO wsX8_shapeOf RX8 7 RX8 TX8 34 8 0 := ⟨by decide +kernel, rfl, by decide, by decide +kernel⟩
theorem fd_X8_shapeOf_13 : FdO wsX8_shapeOf RX8 13 RX8 TX8 34 8 1 := ⟨by decide +kernel, rfl, by decide, by decide +kernel⟩
theorem cw_X8_shapeOf_X8_bits : CwO rm_X8_shapeOf yX8_bits wsX8_bits cX8_bits 3 (some .int) rm_X8_bits 1 := ⟨⟨_, rfl⟩, rfl, rfl, by decide +kernel, by decide, by decide⟩
theorem cw_X8_shapeOf_X8_has : CwO rm_X8_shapeOf yX8_has wsX8_has cX8_has 2 (some .boolean) rm_X8_has 2 := ⟨⟨_, rfl⟩, rfl, rfl, by decide +kernel, by decide, by decide⟩
theorem cw_X8_shapeOf_X8_joined : CwO rm_X8_shapeOf yX8_joined wsX8_joined cX8_joined 3 (some .int) rm_X8_joined 2 := ⟨⟨_, rfl⟩, rfl, rfl, by decide +kernel, by decide, by decide⟩
theorem cw_X8_shapeOf_X8_partOf : CwO rm_X8_shapeOf yX8_partOf wsX8_partOf cX8_partOf 6 (some .int) rm_X8_partOf 2 := ⟨⟨_, rfl⟩, rfl, rfl, by decide +kernel, by decide, by decide⟩
set_option maxRecDepth 20000 in
theorem f_X8_shapeOf_b118_ok {X : Cx} {G : Gx} {z : Rs} (h41 : 41 ≤ gN G) (O : Ok X G cX8_shapeOf RX8 11 wsX8_shapeOf (some .int) rm_X8_shapeOf) (N : Nat) (k28 : Int32 → Int32 → Int32 → Int32 → Int32 → Int32 → Int32 → Int32 → Hp → Option Rs) (hk28 : ∀ (v1 : Int32) (v3 : Int32) (v4 : Int32) (v5 : Int32) (v6 : Int32) (v7 : Int32) (v8 : Int32) (v9 : Int32) (h : Hp), k28 v1 v3 v4 v5 v6 v7 v8 v9 h = some z → V X G 11 (QI X G z) h 28 [(0, .ref (G.1 25)), (1, .int v1), (3, .int v3), (4, .int v4), (5, .int v5), (6, .int v6), (7, .int v7), (8, .int v8), (9, .int v9)] []) (v1 : Int32) (v3 : Int32) (v4 : Int32) (v5 : Int32) (v6 : Int32) (v7 : Int32) (v8 : Int32) (v9 : Int32) (h : Hp) (e : f_X8_shapeOf_b118 N k28 v1 v3 v4 v5 v6 v7 v8 v9 h = some z) : V X G 11 (QI X G z) h 118 [(0, .ref (G.1 25)), (1, .int v1), (3, .int v3), (4, .int v4), (5, .int v5), (6, .int v6), (7, .int v7), (8, .int v8), (9, .int v9)] [] := by
  unfold f_X8_shapeOf_b118 at e
  refine v_iinc (v := 1) O dX8_shapeOf_118 8 rfl (by decide) (by decide) (fun x1 => [(9, .int x1), (0, .ref (G.1 25)), (1, .int v1), (3, .int v3), (4, .int v4), (5, .int v5), (6, .int v6), (7, .int v7), (8, .int v8)]) (fun _ => rfl) e (fun x1 e => ?_)
  refine v_goto O dX8_shapeOf_121 28 (by decide) ?_
  refine v_sub [1, 2, 3, 4, 5, 6, 7, 8, 0] rfl ?_
  exact hk28 _ _ _ _ _ _ _ _ _ e
set_option maxRecDepth 20000 in
theorem f_X8_shapeOf_b115_ok {X : Cx} {G : Gx} {z : Rs} (h41 : 41 ≤ gN G) (O : Ok X G cX8_shapeOf RX8 11 wsX8_shapeOf (some .int) rm_X8_shapeOf) (N : Nat) (k28 : Int32 → Int32 → Int32 → Int32 → Int32 → Int32 → Int32 → Int32 → Hp → Option Rs) (hk28 : ∀ (v1 : Int32) (v3 : Int32) (v4 : Int32) (v5 : Int32) (v6 : Int32) (v7 : Int32) (v8 : Int32) (v9 : Int32) (h : Hp), k28 v1 v3 v4 v5 v6 v7 v8 v9 h = some z → V X G 11 (QI X G z) h 28 [(0, .ref (G.1 25)), (1, .int v1), (3, .int v3), (4, .int v4), (5, .int v5), (6, .int v6), (7, .int v7), (8, .int v8), (9, .int v9)] []) (v1 : Int32) (v3 : Int32) (v4 : Int32) (v5 : Int32) (v6 : Int32) (v7 : Int32) (v9 : Int32) (s0 : Int32) (s1 : Int32) (h : Hp) (e : f_X8_shapeOf_b115 N k28 v1 v3 v4 v5 v6 v7 v9 s0 s1 h = some z) : V X G 11 (QI X G z) h 115 [(0, .ref (G.1 25)), (1, .int v1), (3, .int v3), (4, .int v4), (5, .int v5), (6, .int v6), (7, .int v7), (9, .int v9)] [.int s0, .int s1] := by
  unfold f_X8_shapeOf_b115 at e
  refine v_iadd O dX8_shapeOf_115 ?_
  refine v_istore O dX8_shapeOf_116 (by decide) (fun x1 => [(8, .int x1), (0, .ref (G.1 25)), (1, .int v1), (3, .int v3), (4, .int v4), (5, .int v5), (6, .int v6), (7, .int v7), (9, .int v9)]) (fun _ => rfl) e (fun x1 e => ?_)
  refine v_sub [1, 2, 3, 4, 5, 6, 7, 0, 8] rfl ?_
  exact f_X8_shapeOf_b118_ok h41 O N k28 hk28 _ _ _ _ _ _ _ _ _ e
set_option maxRecDepth 20000 in
theorem f_X8_shapeOf_b99_ok {X : Cx} {G : Gx} {z : Rs} (h41 : 41 ≤ gN G) (O : Ok X G cX8_shapeOf RX8 11 wsX8_shapeOf (some .int) rm_X8_shapeOf) (N : Nat) (k28 : Int32 → Int32 → Int32 → Int32 → Int32 → Int32 → Int32 → Int32 → Hp → Option Rs) (hk28 : ∀ (v1 : Int32) (v3 : Int32) (v4 : Int32) (v5 : Int32) (v6 : Int32) (v7 : Int32) (v8 : Int32) (v9 : Int32) (h : Hp), k28 v1 v3 v4 v5 v6 v7 v8 v9 h = some z → V X G 11 (QI X G z) h 28 [(0, .ref (G.1 25)), (1, .int v1), (3, .int v3), (4, .int v4), (5, .int v5), (6, .int v6), (7, .int v7), (8, .int v8), (9, .int v9)] []) (v1 : Int32) (v3 : Int32) (v4 : Int32) (v5 : Int32) (v6 : Int32) (v8 : Int32) (v9 : Int32) (v10 : Int32) (s0 : Int32) (s1 : Int32) (h : Hp) (e : f_X8_shapeOf_b99 N k28 v1 v3 v4 v5 v6 v8 v9 v10 s0 s1 h = some z) : V X G 11 (QI X G z) h 99 [(0, .ref (G.1 25)), (1, .int v1), (3, .int v3), (4, .int v4), (5, .int v5), (6, .int v6), (8, .int v8), (9, .int v9), (10, .int v10)] [.int s0, .int s1] := by
  unfold f_X8_shapeOf_b99 at e
  refine v_iadd O dX8_shapeOf_99 ?_
  refine v_istore O dX8_shapeOf_100 (by decide) (fun x1 => [(7, .int x1), (0, .ref (G.1 25)), (1, .int v1), (3, .int v3), (4, .int v4), (5, .int v5), (6, .int v6), (8, .int v8), (9, .int v9), (10, .int v10)]) (fun _ => rfl) e (fun x1 e => ?_)
  refine v_iload O dX8_shapeOf_102 7 rfl ?_
  refine v_iload O dX8_shapeOf_104 9 rfl ?_
  refine v_iconst (v := 3) O dX8_shapeOf_106 (by decide) ?_
  refine v_icmp_ne O dX8_shapeOf_107 114 (by decide) e (fun e => ?_) (fun e => ?_)
  · refine v_iconst (v := 0) O dX8_shapeOf_114 (by decide) ?_
    refine v_sub [1, 2, 3, 4, 5, 6, 0, 8] rfl ?_
    exact f_X8_shapeOf_b115_ok h41 O N k28 hk28 _ _ _ _ _ _ _ _ _ _ e
  · refine v_iconst (v := 1) O dX8_shapeOf_110 (by decide) ?_
    refine v_goto O dX8_shapeOf_111 115 (by decide) ?_
    refine v_sub [1, 2, 3, 4, 5, 6, 0, 8] rfl ?_
    exact f_X8_shapeOf_b115_ok h41 O N k28 hk28 _ _ _ _ _ _ _ _ _ _ e
set_option maxRecDepth 20000 in
theorem f_X8_shapeOf_b83_ok {X : Cx} {G : Gx} {z : Rs} (h41 : 41 ≤ gN G) (O : Ok X G cX8_shapeOf RX8 11 wsX8_shapeOf (some .int) rm_X8_shapeOf) (N : Nat) (k28 : Int32 → Int32 → Int32 → Int32 → Int32 → Int32 → Int32 → Int32 → Hp → Option Rs) (hk28 : ∀ (v1 : Int32) (v3 : Int32) (v4 : Int32) (v5 : Int32) (v6 : Int32) (v7 : Int32) (v8 : Int32) (v9 : Int32) (h : Hp), k28 v1 v3 v4 v5 v6 v7 v8 v9 h = some z → V X G 11 (QI X G z) h 28 [(0, .ref (G.1 25)), (1, .int v1), (3, .int v3), (4, .int v4), (5, .int v5), (6, .int v6), (7, .int v7), (8, .int v8), (9, .int v9)] []) (v1 : Int32) (v3 : Int32) (v4 : Int32) (v5 : Int32) (v7 : Int32) (v8 : Int32) (v9 : Int32) (v10 : Int32) (s0 : Int32) (s1 : Int32) (h : Hp) (e : f_X8_shapeOf_b83 N k28 v1 v3 v4 v5 v7 v8 v9 v10 s0 s1 h = some z) : V X G 11 (QI X G z) h 83 [(0, .ref (G.1 25)), (1, .int v1), (3, .int v3), (4, .int v4), (5, .int v5), (7, .int v7), (8, .int v8), (9, .int v9), (10, .int v10)] [.int s0, .int s1] := by
  unfold f_X8_shapeOf_b83 at e
  refine v_iadd O dX8_shapeOf_83 ?_
  refine v_istore O dX8_shapeOf_84 (by decide) (fun x1 => [(6, .int x1), (0, .ref (G.1 25)), (1, .int v1), (3, .int v3), (4, .int v4), (5, .int v5), (7, .int v7), (8, .int v8), (9, .int v9), (10, .int v10)]) (fun _ => rfl) e (fun x1 e => ?_)
  refine v_iload O dX8_shapeOf_86 6 rfl ?_
  refine v_iload O dX8_shapeOf_88 9 rfl ?_
  refine v_iconst (v := 2) O dX8_shapeOf_90 (by decide) ?_
  refine v_icmp_ne O dX8_shapeOf_91 98 (by decide) e (fun e => ?_) (fun e => ?_)
  · refine v_iconst (v := 0) O dX8_shapeOf_98 (by decide) ?_
    refine v_sub [1, 2, 3, 4, 5, 0, 7, 8, 9] rfl ?_
    exact f_X8_shapeOf_b99_ok h41 O N k28 hk28 _ _ _ _ _ _ _ _ _ _ _ e
  · refine v_iconst (v := 1) O dX8_shapeOf_94 (by decide) ?_
    refine v_goto O dX8_shapeOf_95 99 (by decide) ?_
    refine v_sub [1, 2, 3, 4, 5, 0, 7, 8, 9] rfl ?_
    exact f_X8_shapeOf_b99_ok h41 O N k28 hk28 _ _ _ _ _ _ _ _ _ _ _ e
set_option maxRecDepth 20000 in
theorem f_X8_shapeOf_b158_ok {X : Cx} {G : Gx} {z : Rs} (h41 : 41 ≤ gN G) (O : Ok X G cX8_shapeOf RX8 11 wsX8_shapeOf (some .int) rm_X8_shapeOf) (N : Nat) (s0 : Int32) (h : Hp) (e : f_X8_shapeOf_b158 N s0 h = some z) : V X G 11 (QI X G z) h 158 [] [.int s0] := by
  unfold f_X8_shapeOf_b158 at e
  exact v_iret O dX8_shapeOf_158 e
set_option maxRecDepth 20000 in
theorem f_X8_shapeOf_b203_ok {X : Cx} {G : Gx} {z : Rs} (h41 : 41 ≤ gN G) (O : Ok X G cX8_shapeOf RX8 11 wsX8_shapeOf (some .int) rm_X8_shapeOf) (N : Nat) (s0 : Int32) (h : Hp) (e : f_X8_shapeOf_b203 N s0 h = some z) : V X G 11 (QI X G z) h 203 [] [.int s0] := by
  unfold f_X8_shapeOf_b203 at e
  exact v_iret O dX8_shapeOf_203 e
set_option maxRecDepth 20000 in
theorem f_X8_shapeOf_b202_ok {X : Cx} {G : Gx} {z : Rs} (h41 : 41 ≤ gN G) (O : Ok X G cX8_shapeOf RX8 11 wsX8_shapeOf (some .int) rm_X8_shapeOf) (N : Nat) (h : Hp) (e : f_X8_shapeOf_b202 N h = some z) : V X G 11 (QI X G z) h 202 [] [] := by
  unfold f_X8_shapeOf_b202 at e
  refine v_iconst (v := 5) O dX8_shapeOf_202 (by decide) ?_
  exact f_X8_shapeOf_b203_ok h41 O N _ _ e
set_option maxRecDepth 20000 in
theorem f_X8_shapeOf_b28_ok {X : Cx} {G : Gx} {z : Rs} (h41 : 41 ≤ gN G) (O : Ok X G cX8_shapeOf RX8 11 wsX8_shapeOf (some .int) rm_X8_shapeOf) (N : Nat) (k28 : Int32 → Int32 → Int32 → Int32 → Int32 → Int32 → Int32 → Int32 → Hp → Option Rs) (hk28 : ∀ (v1 : Int32) (v3 : Int32) (v4 : Int32) (v5 : Int32) (v6 : Int32) (v7 : Int32) (v8 : Int32) (v9 : Int32) (h : Hp), k28 v1 v3 v4 v5 v6 v7 v8 v9 h = some z → V X G 11 (QI X G z) h 28 [(0, .ref (G.1 25)), (1, .int v1), (3, .int v3), (4, .int v4), (5, .int v5), (6, .int v6), (7, .int v7), (8, .int v8), (9, .int v9)] []) (v1 : Int32) (v3 : Int32) (v4 : Int32) (v5 : Int32) (v6 : Int32) (v7 : Int32) (v8 : Int32) (v9 : Int32) (h : Hp) (e : f_X8_shapeOf_b28 N k28 v1 v3 v4 v5 v6 v7 v8 v9 h = some z) : V X G 11 (QI X G z) h 28 [(0, .ref (G.1 25)), (1, .int v1), (3, .int v3), (4, .int v4), (5, .int v5), (6, .int v6), (7, .int v7), (8, .int v8), (9, .int v9)] [] := by
  unfold f_X8_shapeOf_b28 at e
  refine v_iload O dX8_shapeOf_28 8 rfl ?_
  refine v_aload_n O dX8_shapeOf_30 0 rfl rfl ?_
  refine v_get O fd_X8_shapeOf_7 (g41 h41 (by decide)) (cg_25 G _) rfl dX8_shapeOf_31 ?_
  refine v_aload_n O dX8_shapeOf_34 0 rfl rfl ?_
  refine v_get O fd_X8_shapeOf_13 (g41 h41 (by decide)) (cg_25 G _) rfl dX8_shapeOf_35 ?_
  refine v_imul O dX8_shapeOf_38 ?_
  refine v_icmp_ge O dX8_shapeOf_39 124 (by decide) e (fun e => ?_) (fun e => ?_)
  · refine v_iload O dX8_shapeOf_124 3 rfl ?_
    refine v_iconst (v := 1) O dX8_shapeOf_126 (by decide) ?_
    refine v_icmp_ne O dX8_shapeOf_127 132 (by decide) e (fun e => ?_) (fun e => ?_)
    · refine v_iload O dX8_shapeOf_132 4 rfl ?_
      refine v_iconst (v := 2) O dX8_shapeOf_134 (by decide) ?_
      refine v_iload O dX8_shapeOf_135 3 rfl ?_
      refine v_imul O dX8_shapeOf_137 ?_
      refine v_iconst (v := 2) O dX8_shapeOf_138 (by decide) ?_
      refine v_isub O dX8_shapeOf_139 ?_
      refine v_icmp_ne O dX8_shapeOf_140 159 (by decide) e (fun e => ?_) (fun e => ?_)
      · refine v_iload O dX8_shapeOf_159 6 rfl ?_
        refine v_iload O dX8_shapeOf_161 3 rfl ?_
        refine v_icmp_ne O dX8_shapeOf_163 168 (by decide) e (fun e => ?_) (fun e => ?_)
        · refine v_iload O dX8_shapeOf_168 4 rfl ?_
          refine v_iconst (v := 2) O dX8_shapeOf_170 (by decide) ?_
          refine v_iload O dX8_shapeOf_171 3 rfl ?_
          refine v_imul O dX8_shapeOf_173 ?_
          refine v_icmp_ne O dX8_shapeOf_174 202 (by decide) e (fun e => ?_) (fun e => ?_)
          · refine v_sub [] rfl ?_
            exact f_X8_shapeOf_b202_ok h41 O N _ e
          · refine v_iload O dX8_shapeOf_177 7 rfl ?_
            refine v_iconst (v := 1) O dX8_shapeOf_179 (by decide) ?_
            refine v_icmp_ne O dX8_shapeOf_180 202 (by decide) e (fun e => ?_) (fun e => ?_)
            · refine v_sub [] rfl ?_
              exact f_X8_shapeOf_b202_ok h41 O N _ e
            · refine v_iload O dX8_shapeOf_183 5 rfl ?_
              refine v_iconst (v := 1) O dX8_shapeOf_185 (by decide) ?_
              refine v_icmp_ne O dX8_shapeOf_186 202 (by decide) e (fun e => ?_) (fun e => ?_)
              · refine v_sub [] rfl ?_
                exact f_X8_shapeOf_b202_ok h41 O N _ e
              · refine v_iload O dX8_shapeOf_189 6 rfl ?_
                refine v_iload O dX8_shapeOf_191 3 rfl ?_
                refine v_iconst (v := 2) O dX8_shapeOf_193 (by decide) ?_
                refine v_isub O dX8_shapeOf_194 ?_
                refine v_icmp_ne O dX8_shapeOf_195 202 (by decide) e (fun e => ?_) (fun e => ?_)
                · refine v_sub [] rfl ?_
                  exact f_X8_shapeOf_b202_ok h41 O N _ e
                · refine v_iconst (v := 4) O dX8_shapeOf_198 (by decide) ?_
                  refine v_goto O dX8_shapeOf_199 203 (by decide) ?_
                  refine v_sub [] rfl ?_
                  exact f_X8_shapeOf_b203_ok h41 O N _ _ e
        · refine v_iconst (v := 2) O dX8_shapeOf_166 (by decide) ?_
          exact v_iret O dX8_shapeOf_167 e
      · refine v_iload O dX8_shapeOf_143 5 rfl ?_
        refine v_iload O dX8_shapeOf_145 6 rfl ?_
        refine v_iadd O dX8_shapeOf_147 ?_
        refine v_iload O dX8_shapeOf_148 3 rfl ?_
        refine v_icmp_ne O dX8_shapeOf_150 157 (by decide) e (fun e => ?_) (fun e => ?_)
        · refine v_iconst (v := 3) O dX8_shapeOf_157 (by decide) ?_
          refine v_sub [] rfl ?_
          exact f_X8_shapeOf_b158_ok h41 O N _ _ e
        · refine v_iconst (v := 1) O dX8_shapeOf_153 (by decide) ?_
          refine v_goto O dX8_shapeOf_154 158 (by decide) ?_
          refine v_sub [] rfl ?_
          exact f_X8_shapeOf_b158_ok h41 O N _ _ e
    · refine v_iconst (v := 0) O dX8_shapeOf_130 (by decide) ?_
      exact v_iret O dX8_shapeOf_131 e
  · refine v_iload_n O dX8_shapeOf_42 2 rfl rfl ?_
    refine v_iload O dX8_shapeOf_43 8 rfl ?_
    refine v_cSi O [.int v3, .int v9] [] gX8_shapeOf_X8_has cw_X8_shapeOf_X8_has rfl rfl (Nat.le_of_ble_eq_true rfl) dX8_shapeOf_45 e (fun _ e9 => f_X8_has_ok e9) (fun r1 h2 e => ?_)
    refine v_if_eq O dX8_shapeOf_48 118 (by decide) e (fun e => ?_) (fun e => ?_)
    · exact f_X8_shapeOf_b118_ok h41 O N k28 hk28 _ _ _ _ _ _ _ _ _ e
    · refine v_aload_n O dX8_shapeOf_51 0 rfl rfl ?_
      refine v_iload_n O dX8_shapeOf_52 1 rfl rfl ?_
      refine v_iload O dX8_shapeOf_53 8 rfl ?_
      refine v_cVi O [.int v1, .int v9] [] gX8_shapeOf_X8_joined cw_X8_shapeOf_X8_joined rfl rfl (g41 h41 (by decide)) (cg_25 G _) rfl rfl (Nat.le_of_ble_eq_true rfl) dX8_shapeOf_55 e (fun _ e9 => f_X8_joined_ok h41 e9) (fun r3 h4 e => ?_)
      refine v_cSi O [.int r3] [] gX8_shapeOf_X8_bits cw_X8_shapeOf_X8_bits rfl rfl (Nat.le_of_ble_eq_true rfl) dX8_shapeOf_58 e (fun _ e9 => f_X8_bits_ok e9) (fun r5 h6 e => ?_)
      refine v_istore O dX8_shapeOf_61 (by decide) (fun x7 => [(10, .int x7), (0, .ref (G.1 25)), (1, .int v1), (3, .int v3), (4, .int v4), (5, .int v5), (6, .int v6), (7, .int v7), (8, .int v8), (9, .int v9)]) (fun _ => rfl) e (fun x7 e => ?_)
      refine v_iload O dX8_shapeOf_63 5 rfl ?_
      refine v_iload O dX8_shapeOf_65 0 rfl ?_
      refine v_iadd O dX8_shapeOf_67 ?_
      refine v_istore O dX8_shapeOf_68 (by decide) (fun x8 => [(5, .int x8), (10, .int x7), (0, .ref (G.1 25)), (1, .int v1), (3, .int v3), (4, .int v4), (6, .int v6), (7, .int v7), (8, .int v8), (9, .int v9)]) (fun _ => rfl) e (fun x8 e => ?_)
      refine v_iload O dX8_shapeOf_70 6 rfl ?_
      refine v_iload O dX8_shapeOf_72 1 rfl ?_
      refine v_iconst (v := 1) O dX8_shapeOf_74 (by decide) ?_
      refine v_icmp_ne O dX8_shapeOf_75 82 (by decide) e (fun e => ?_) (fun e => ?_)
      · refine v_iconst (v := 0) O dX8_shapeOf_82 (by decide) ?_
        refine v_sub [2, 3, 4, 5, 0, 7, 8, 9, 1] rfl ?_
        exact f_X8_shapeOf_b83_ok h41 O N k28 hk28 _ _ _ _ _ _ _ _ _ _ _ e
      · refine v_iconst (v := 1) O dX8_shapeOf_78 (by decide) ?_
        refine v_goto O dX8_shapeOf_79 83 (by decide) ?_
        refine v_sub [2, 3, 4, 5, 0, 7, 8, 9, 1] rfl ?_
        exact f_X8_shapeOf_b83_ok h41 O N k28 hk28 _ _ _ _ _ _ _ _ _ _ _ e
theorem f_X8_shapeOf_l28_ok {X : Cx} {G : Gx} {z : Rs} (h41 : 41 ≤ gN G) (O : Ok X G cX8_shapeOf RX8 11 wsX8_shapeOf (some .int) rm_X8_shapeOf) (N : Nat) : ∀ (n : Nat) (v1 : Int32) (v3 : Int32) (v4 : Int32) (v5 : Int32) (v6 : Int32) (v7 : Int32) (v8 : Int32) (v9 : Int32) (h : Hp), f_X8_shapeOf_l28 N n v1 v3 v4 v5 v6 v7 v8 v9 h = some z → V X G 11 (QI X G z) h 28 [(0, .ref (G.1 25)), (1, .int v1), (3, .int v3), (4, .int v4), (5, .int v5), (6, .int v6), (7, .int v7), (8, .int v8), (9, .int v9)] [] := by
  intro n
  induction n with
  | zero => intro v1 v3 v4 v5 v6 v7 v8 v9 h e; cases e
  | succ n ih => intro v1 v3 v4 v5 v6 v7 v8 v9 h e; exact f_X8_shapeOf_b28_ok h41 O N _ ih v1 v3 v4 v5 v6 v7 v8 v9 h e
set_option maxRecDepth 20000 in
theorem f_X8_shapeOf_ok {l : Launch} {G : Gx} {N : Nat} (h41 : 41 ≤ gN G) {a0 : Int32} {a1 : Int32} {h : Hp} {z : Rs} (e : f_X8_shapeOf N a0 a1 h = some z) : CI l G yX8_shapeOf wsX8_shapeOf rm_X8_shapeOf [.ref (G.1 25), .int a0, .int a1] h z := by
  refine m_int _ (by decide) rfl [(0, .ref (G.1 25)), (1, .int a0), (2, .int a1)] rfl (Nat.le_of_ble_eq_true rfl) (fun X O => ?_)
  unfold f_X8_shapeOf at e
  refine v_aload_n O dX8_shapeOf_0 0 rfl rfl ?_
  refine v_iload_n O dX8_shapeOf_1 1 rfl rfl ?_
  refine v_iload_n O dX8_shapeOf_2 2 rfl rfl ?_
  refine v_cVi O [.int a0, .int a1] [] gX8_shapeOf_X8_partOf cw_X8_shapeOf_X8_partOf rfl rfl (g41 h41 (by decide)) (cg_25 G _) rfl rfl (Nat.le_of_ble_eq_true rfl) dX8_shapeOf_3 e (fun _ e9 => f_X8_partOf_ok h41 e9) (fun r1 h2 e => ?_)
  refine v_istore_n O dX8_shapeOf_6 rfl (by decide) (fun x3 => [(3, .int x3), (0, .ref (G.1 25)), (1, .int a0), (2, .int a1)]) (fun _ => rfl) e (fun x3 e => ?_)
  refine v_iload_n O dX8_shapeOf_7 0 rfl rfl ?_
  refine v_cSi O [.int x3] [] gX8_shapeOf_X8_bits cw_X8_shapeOf_X8_bits rfl rfl (Nat.le_of_ble_eq_true rfl) dX8_shapeOf_8 e (fun _ e9 => f_X8_bits_ok e9) (fun r4 h5 e => ?_)
  refine v_istore O dX8_shapeOf_11 (by decide) (fun x6 => [(4, .int x6), (3, .int x3), (0, .ref (G.1 25)), (1, .int a0), (2, .int a1)]) (fun _ => rfl) e (fun x6 e => ?_)
  refine v_iconst (v := 0) O dX8_shapeOf_13 (by decide) ?_
  refine v_istore O dX8_shapeOf_14 (by decide) (fun x7 => [(5, .int x7), (4, .int x6), (3, .int x3), (0, .ref (G.1 25)), (1, .int a0), (2, .int a1)]) (fun _ => rfl) e (fun x7 e => ?_)
  refine v_iconst (v := 0) O dX8_shapeOf_16 (by decide) ?_
  refine v_istore O dX8_shapeOf_17 (by decide) (fun x8 => [(6, .int x8), (5, .int x7), (4, .int x6), (3, .int x3), (0, .ref (G.1 25)), (1, .int a0), (2, .int a1)]) (fun _ => rfl) e (fun x8 e => ?_)
  refine v_iconst (v := 0) O dX8_shapeOf_19 (by decide) ?_
  refine v_istore O dX8_shapeOf_20 (by decide) (fun x9 => [(7, .int x9), (6, .int x8), (5, .int x7), (4, .int x6), (3, .int x3), (0, .ref (G.1 25)), (1, .int a0), (2, .int a1)]) (fun _ => rfl) e (fun x9 e => ?_)
  refine v_iconst (v := 0) O dX8_shapeOf_22 (by decide) ?_
  refine v_istore O dX8_shapeOf_23 (by decide) (fun x10 => [(8, .int x10), (7, .int x9), (6, .int x8), (5, .int x7), (4, .int x6), (3, .int x3), (0, .ref (G.1 25)), (1, .int a0), (2, .int a1)]) (fun _ => rfl) e (fun x10 e => ?_)
  refine v_iconst (v := 0) O dX8_shapeOf_25 (by decide) ?_
  refine v_istore O dX8_shapeOf_26 (by decide) (fun x11 => [(9, .int x11), (8, .int x10), (7, .int x9), (6, .int x8), (5, .int x7), (4, .int x6), (3, .int x3), (0, .ref (G.1 25)), (1, .int a0), (2, .int a1)]) (fun _ => rfl) e (fun x11 e => ?_)
  refine v_sub [7, 8, 6, 5, 4, 3, 2, 1, 0] rfl ?_
  exact f_X8_shapeOf_l28_ok h41 O N N _ _ _ _ _ _ _ _ _ e
/-! ===== X8 ring ===== -/
abbrev rm_X8_ring : Room := { frames := 7, cells := 0, slots := 0, locals := 181 }
theorem fd_X8_ring_61 : FdO wsX8_ring RX8 61 RX8 TX8 34 8 33 := ⟨by decide +kernel, rfl, by decide, by decide +kernel⟩
theorem fd_X8_ring_167 : FdO wsX8_ring RX8 167 RX8 TX8 34 8 2 := ⟨by decide +kernel, rfl, by decide, by decide +kernel⟩
theorem cw_X8_ring_X8_has : CwO rm_X8_ring yX8_has wsX8_has cX8_has 2 (some .boolean) rm_X8_has 2 := ⟨⟨_, rfl⟩, rfl, rfl, by decide +kernel, by decide, by decide⟩
theorem cw_X8_ring_X8_in : CwO rm_X8_ring yX8_in wsX8_in cX8_in 3 (some .boolean) rm_X8_in 3 := ⟨⟨_, rfl⟩, rfl, rfl, by decide +kernel, by decide, by decide⟩
theorem cw_X8_ring_X8_isSquare : CwO rm_X8_ring yX8_isSquare wsX8_isSquare cX8_isSquare 2 (some .boolean) rm_X8_isSquare 1 := ⟨⟨_, rfl⟩, rfl, rfl, by decide +kernel, by decide, by decide⟩
theorem cw_X8_ring_X8_layRing : CwO rm_X8_ring yX8_layRing wsX8_layRing cX8_layRing 5 (some .int) rm_X8_layRing 2 := ⟨⟨_, rfl⟩, rfl, rfl, by decide +kernel, by decide, by decide⟩
theorem cw_X8_ring_X8_shapeOf : CwO rm_X8_ring yX8_shapeOf wsX8_shapeOf cX8_shapeOf 11 (some .int) rm_X8_shapeOf 2 := ⟨⟨_, rfl⟩, rfl, rfl, by decide +kernel, by decide, by decide⟩
set_option maxRecDepth 20000 in
theorem f_X8_ring_b24_ok {X : Cx} {G : Gx} {z : Rs} (h41 : 41 ≤ gN G) (O : Ok X G cX8_ring RX8 4 wsX8_ring (some .int) rm_X8_ring) (N : Nat) (h : Hp) (e : f_X8_ring_b24 N h = some z) : V X G 4 (QI X G z) h 24 [] [] := by
  unfold f_X8_ring_b24 at e
  refine v_bipush (v := (-3)) O dX8_ring_24 (by decide) ?_
  exact v_iret O dX8_ring_26 e
set_option maxRecDepth 20000 in
theorem f_X8_ring_b48_ok {X : Cx} {G : Gx} {z : Rs} (h41 : 41 ≤ gN G) (O : Ok X G cX8_ring RX8 4 wsX8_ring (some .int) rm_X8_ring) (N : Nat) (h : Hp) (e : f_X8_ring_b48 N h = some z) : V X G 4 (QI X G z) h 48 [] [] := by
  unfold f_X8_ring_b48 at e
  refine v_bipush (v := (-4)) O dX8_ring_48 (by decide) ?_
  exact v_iret O dX8_ring_50 e
set_option maxRecDepth 20000 in
theorem f_X8_ring_b71_ok {X : Cx} {G : Gx} {z : Rs} (h41 : 41 ≤ gN G) (O : Ok X G cX8_ring RX8 4 wsX8_ring (some .int) rm_X8_ring) (N : Nat) (s0 : Int32) (h : Hp) (e : f_X8_ring_b71 N s0 h = some z) : V X G 4 (QI X G z) h 71 [] [.int s0] := by
  unfold f_X8_ring_b71 at e
  exact v_iret O dX8_ring_71 e
set_option maxRecDepth 20000 in
theorem f_X8_ring_ok {l : Launch} {G : Gx} {N : Nat} (h41 : 41 ≤ gN G) {a0 : Int32} {a1 : Int32} {a2 : Int32} {h : Hp} {z : Rs} (e : f_X8_ring N a0 a1 a2 h = some z) : CI l G yX8_ring wsX8_ring rm_X8_ring [.ref (G.1 25), .int a0, .int a1, .int a2] h z := by
  refine m_int _ (by decide) rfl [(0, .ref (G.1 25)), (1, .int a0), (2, .int a1), (3, .int a2)] rfl (Nat.le_of_ble_eq_true rfl) (fun X O => ?_)
  unfold f_X8_ring at e
  refine v_aload_n O dX8_ring_0 0 rfl rfl ?_
  refine v_iload_n O dX8_ring_1 2 rfl rfl ?_
  refine v_cVi O [.int a1] [] gX8_ring_X8_isSquare cw_X8_ring_X8_isSquare rfl rfl (g41 h41 (by decide)) (cg_25 G _) rfl rfl (Nat.le_of_ble_eq_true rfl) dX8_ring_2 e (fun _ e9 => f_X8_isSquare_ok h41 e9) (fun r1 h2 e => ?_)
  refine v_if_ne O dX8_ring_5 11 (by decide) e (fun e => ?_) (fun e => ?_)
  · refine v_iload_n O dX8_ring_11 1 rfl rfl ?_
    refine v_iconst (v := 0) O dX8_ring_12 (by decide) ?_
    refine v_iconst (v := 3) O dX8_ring_13 (by decide) ?_
    refine v_cSi O [.int a0, .int 0, .int 3] [] gX8_ring_X8_in cw_X8_ring_X8_in rfl rfl (Nat.le_of_ble_eq_true rfl) dX8_ring_14 e (fun _ e9 => f_X8_in_ok e9) (fun r3 h4 e => ?_)
    refine v_if_eq O dX8_ring_17 24 (by decide) e (fun e => ?_) (fun e => ?_)
    · refine v_sub [] rfl ?_
      exact f_X8_ring_b24_ok h41 O N _ e
    · refine v_iload_n O dX8_ring_20 3 rfl rfl ?_
      refine v_if_ge O dX8_ring_21 27 (by decide) e (fun e => ?_) (fun e => ?_)
      · refine v_aload_n O dX8_ring_27 0 rfl rfl ?_
        refine v_get O fd_X8_ring_167 (g41 h41 (by decide)) (cg_25 G _) rfl dX8_ring_28 ?_
        refine v_iload_n O dX8_ring_31 2 rfl rfl ?_
        refine v_cSi O [.int (h4.1 25 2), .int a1] [] gX8_ring_X8_has cw_X8_ring_X8_has rfl rfl (Nat.le_of_ble_eq_true rfl) dX8_ring_32 e (fun _ e9 => f_X8_has_ok e9) (fun r5 h6 e => ?_)
        refine v_if_ne O dX8_ring_35 48 (by decide) e (fun e => ?_) (fun e => ?_)
        · refine v_sub [] rfl ?_
          exact f_X8_ring_b48_ok h41 O N _ e
        · refine v_aload_n O dX8_ring_38 0 rfl rfl ?_
          refine v_iload_n O dX8_ring_39 1 rfl rfl ?_
          refine v_iload_n O dX8_ring_40 2 rfl rfl ?_
          refine v_cVi O [.int a0, .int a1] [] gX8_ring_X8_shapeOf cw_X8_ring_X8_shapeOf rfl rfl (g41 h41 (by decide)) (cg_25 G _) rfl rfl (Nat.le_of_ble_eq_true rfl) dX8_ring_41 e (fun _ e9 => f_X8_shapeOf_ok h41 e9) (fun r7 h8 e => ?_)
          refine v_iconst (v := 2) O dX8_ring_44 (by decide) ?_
          refine v_icmp_eq O dX8_ring_45 51 (by decide) e (fun e => ?_) (fun e => ?_)
          · refine v_iload_n O dX8_ring_51 3 rfl rfl ?_
            refine v_aload_n O dX8_ring_52 0 rfl rfl ?_
            refine v_iload_n O dX8_ring_53 1 rfl rfl ?_
            refine v_iload_n O dX8_ring_54 2 rfl rfl ?_
            refine v_cVi O [.int a0, .int a1] [.int a2] gX8_ring_X8_layRing cw_X8_ring_X8_layRing rfl rfl (g41 h41 (by decide)) (cg_25 G _) rfl rfl (Nat.le_of_ble_eq_true rfl) dX8_ring_55 e (fun _ e9 => f_X8_layRing_ok h41 e9) (fun r9 h10 e => ?_)
            refine v_icmp_ge O dX8_ring_58 70 (by decide) e (fun e => ?_) (fun e => ?_)
            · refine v_iconst (v := (-1)) O dX8_ring_70 (by decide) ?_
              refine v_sub [] rfl ?_
              exact f_X8_ring_b71_ok h41 O N _ _ e
            · refine v_aload_n O dX8_ring_61 0 rfl rfl ?_
              refine v_get O fd_X8_ring_61 (g41 h41 (by decide)) (cg_25 G _) rfl dX8_ring_62 ?_
              refine v_iload_n O dX8_ring_65 3 rfl rfl ?_
              refine v_iald O (g41 h41 (by decide)) (cg_40 G _) dX8_ring_66 e (fun e => ?_)
              refine v_goto O dX8_ring_67 71 (by decide) ?_
              refine v_sub [] rfl ?_
              exact f_X8_ring_b71_ok h41 O N _ _ e
          · refine v_sub [] rfl ?_
            exact f_X8_ring_b48_ok h41 O N _ e
      · refine v_sub [] rfl ?_
        exact f_X8_ring_b24_ok h41 O N _ e
  · refine v_bipush (v := (-2)) O dX8_ring_8 (by decide) ?_
    exact v_iret O dX8_ring_10 e
/-! ===== X8 row ===== -/
abbrev rm_X8_row : Room := { frames := 2, cells := 0, slots := 0, locals := 43 }
theorem fd_X8_row_42 : FdO wsX8_row RX8 42 RX8 TX8 34 8 26 := ⟨by decide +kernel, rfl, by decide, by decide +kernel⟩
theorem fd_X8_row_186 : FdO wsX8_row RX8 186 RX8 TX8 34 8 25 := ⟨by decide +kernel, rfl, by decide, by decide +kernel⟩
theorem cw_X8_row_X8_isMan : CwO rm_X8_row yX8_isMan wsX8_isMan cX8_isMan 2 (some .boolean) rm_X8_isMan 1 := ⟨⟨_, rfl⟩, rfl, rfl, by decide +kernel, by decide, by decide⟩
theorem cw_X8_row_X8_isSquare : CwO rm_X8_row yX8_isSquare wsX8_isSquare cX8_isSquare 2 (some .boolean) rm_X8_isSquare 1 := ⟨⟨_, rfl⟩, rfl, rfl, by decide +kernel, by decide, by decide⟩
set_option maxRecDepth 20000 in
theorem f_X8_row_b16_ok {X : Cx} {G : Gx} {z : Rs} (h41 : 41 ≤ gN G) (O : Ok X G cX8_row RX8 3 wsX8_row (some .int) rm_X8_row) (N : Nat) (h : Hp) (e : f_X8_row_b16 N h = some z) : V X G 3 (QI X G z) h 16 [] [] := by
  unfold f_X8_row_b16 at e
  refine v_bipush (v := (-2)) O dX8_row_16 (by decide) ?_
  exact v_iret O dX8_row_18 e
set_option maxRecDepth 20000 in
theorem f_X8_row_ok {l : Launch} {G : Gx} {N : Nat} (h41 : 41 ≤ gN G) {a0 : Int32} {a1 : Int32} {h : Hp} {z : Rs} (e : f_X8_row N a0 a1 h = some z) : CI l G yX8_row wsX8_row rm_X8_row [.ref (G.1 25), .int a0, .int a1] h z := by
  refine m_int _ (by decide) rfl [(0, .ref (G.1 25)), (1, .int a0), (2, .int a1)] rfl (Nat.le_of_ble_eq_true rfl) (fun X O => ?_)
  unfold f_X8_row at e
  refine v_aload_n O dX8_row_0 0 rfl rfl ?_
  refine v_iload_n O dX8_row_1 1 rfl rfl ?_
  refine v_cVi O [.int a0] [] gX8_row_X8_isMan cw_X8_row_X8_isMan rfl rfl (g41 h41 (by decide)) (cg_25 G _) rfl rfl (Nat.le_of_ble_eq_true rfl) dX8_row_2 e (fun _ e9 => f_X8_isMan_ok h41 e9) (fun r1 h2 e => ?_)
  refine v_if_eq O dX8_row_5 16 (by decide) e (fun e => ?_) (fun e => ?_)
  · refine v_sub [] rfl ?_
    exact f_X8_row_b16_ok h41 O N _ e
  · refine v_aload_n O dX8_row_8 0 rfl rfl ?_
    refine v_iload_n O dX8_row_9 2 rfl rfl ?_
    refine v_cVi O [.int a1] [] gX8_row_X8_isSquare cw_X8_row_X8_isSquare rfl rfl (g41 h41 (by decide)) (cg_25 G _) rfl rfl (Nat.le_of_ble_eq_true rfl) dX8_row_10 e (fun _ e9 => f_X8_isSquare_ok h41 e9) (fun r3 h4 e => ?_)
    refine v_if_ne O dX8_row_13 19 (by decide) e (fun e => ?_) (fun e => ?_)
    · refine v_aload_n O dX8_row_19 0 rfl rfl ?_
      refine v_get O fd_X8_row_186 (g41 h41 (by decide)) (cg_25 G _) rfl dX8_row_20 ?_
      refine v_bipush (v := 12) O dX8_row_23 (by decide) ?_
      refine v_icmp_ne O dX8_row_25 31 (by decide) e (fun e => ?_) (fun e => ?_)
      · refine v_aload_n O dX8_row_31 0 rfl rfl ?_
        refine v_get O fd_X8_row_42 (g41 h41 (by decide)) (cg_25 G _) rfl dX8_row_32 ?_
        refine v_iconst (v := 2) O dX8_row_35 (by decide) ?_
        refine v_aload_n O dX8_row_36 0 rfl rfl ?_
        refine v_get O fd_X8_row_186 (g41 h41 (by decide)) (cg_25 G _) rfl dX8_row_37 ?_
        refine v_imul O dX8_row_40 ?_
        refine v_iload_n O dX8_row_41 1 rfl rfl ?_
        refine v_iast O (g41 h41 (by decide)) (cg_34 G _) (cw_34 G _ _ _) dX8_row_42 e (fun h5 e => ?_)
        refine v_aload_n O dX8_row_43 0 rfl rfl ?_
        refine v_get O fd_X8_row_42 (g41 h41 (by decide)) (cg_25 G _) rfl dX8_row_44 ?_
        refine v_iconst (v := 2) O dX8_row_47 (by decide) ?_
        refine v_aload_n O dX8_row_48 0 rfl rfl ?_
        refine v_get O fd_X8_row_186 (g41 h41 (by decide)) (cg_25 G _) rfl dX8_row_49 ?_
        refine v_imul O dX8_row_52 ?_
        refine v_iconst (v := 1) O dX8_row_53 (by decide) ?_
        refine v_iadd O dX8_row_54 ?_
        refine v_iload_n O dX8_row_55 2 rfl rfl ?_
        refine v_iast O (g41 h41 (by decide)) (cg_34 G _) (cw_34 G _ _ _) dX8_row_56 e (fun h6 e => ?_)
        refine v_aload_n O dX8_row_57 0 rfl rfl ?_
        refine v_dup O dX8_row_58 rfl ?_
        refine v_get O fd_X8_row_186 (g41 h41 (by decide)) (cg_25 G _) rfl dX8_row_59 ?_
        refine v_iconst (v := 1) O dX8_row_62 (by decide) ?_
        refine v_iadd O dX8_row_63 ?_
        refine v_put O fd_X8_row_186 fp_X8_25 (g41 h41 (by decide)) (cg_25 G _) (Nat.le_of_ble_eq_true rfl) (cs_25_25 G _ _) dX8_row_64 e (fun h7 e => ?_)
        refine v_aload_n O dX8_row_67 0 rfl rfl ?_
        refine v_get O fd_X8_row_186 (g41 h41 (by decide)) (cg_25 G _) rfl dX8_row_68 ?_
        exact v_iret O dX8_row_71 e
      · refine v_bipush (v := (-5)) O dX8_row_28 (by decide) ?_
        exact v_iret O dX8_row_30 e
    · refine v_sub [] rfl ?_
      exact f_X8_row_b16_ok h41 O N _ e
/-! ===== X8 shape ===== -/
abbrev rm_X8_shape : Room := { frames := 7, cells := 0, slots := 0, locals := 181 }
theorem fd_X8_shape_167 : FdO wsX8_shape RX8 167 RX8 TX8 34 8 2 := ⟨by decide +kernel, rfl, by decide, by decide +kernel⟩
theorem cw_X8_shape_X8_has : CwO rm_X8_shape yX8_has wsX8_has cX8_has 2 (some .boolean) rm_X8_has 2 := ⟨⟨_, rfl⟩, rfl, rfl, by decide +kernel, by decide, by decide⟩
theorem cw_X8_shape_X8_in : CwO rm_X8_shape yX8_in wsX8_in cX8_in 3 (some .boolean) rm_X8_in 3 := ⟨⟨_, rfl⟩, rfl, rfl, by decide +kernel, by decide, by decide⟩
theorem cw_X8_shape_X8_isSquare : CwO rm_X8_shape yX8_isSquare wsX8_isSquare cX8_isSquare 2 (some .boolean) rm_X8_isSquare 1 := ⟨⟨_, rfl⟩, rfl, rfl, by decide +kernel, by decide, by decide⟩
theorem cw_X8_shape_X8_shapeOf : CwO rm_X8_shape yX8_shapeOf wsX8_shapeOf cX8_shapeOf 11 (some .int) rm_X8_shapeOf 2 := ⟨⟨_, rfl⟩, rfl, rfl, by decide +kernel, by decide, by decide⟩
set_option maxRecDepth 20000 in
theorem f_X8_shape_b45_ok {X : Cx} {G : Gx} {z : Rs} (h41 : 41 ≤ gN G) (O : Ok X G cX8_shape RX8 3 wsX8_shape (some .int) rm_X8_shape) (N : Nat) (s0 : Int32) (h : Hp) (e : f_X8_shape_b45 N s0 h = some z) : V X G 3 (QI X G z) h 45 [] [.int s0] := by
  unfold f_X8_shape_b45 at e
  exact v_iret O dX8_shape_45 e
set_option maxRecDepth 20000 in
theorem f_X8_shape_ok {l : Launch} {G : Gx} {N : Nat} (h41 : 41 ≤ gN G) {a0 : Int32} {a1 : Int32} {h : Hp} {z : Rs} (e : f_X8_shape N a0 a1 h = some z) : CI l G yX8_shape wsX8_shape rm_X8_shape [.ref (G.1 25), .int a0, .int a1] h z := by
  refine m_int _ (by decide) rfl [(0, .ref (G.1 25)), (1, .int a0), (2, .int a1)] rfl (Nat.le_of_ble_eq_true rfl) (fun X O => ?_)
  unfold f_X8_shape at e
  refine v_aload_n O dX8_shape_0 0 rfl rfl ?_
  refine v_iload_n O dX8_shape_1 2 rfl rfl ?_
  refine v_cVi O [.int a1] [] gX8_shape_X8_isSquare cw_X8_shape_X8_isSquare rfl rfl (g41 h41 (by decide)) (cg_25 G _) rfl rfl (Nat.le_of_ble_eq_true rfl) dX8_shape_2 e (fun _ e9 => f_X8_isSquare_ok h41 e9) (fun r1 h2 e => ?_)
  refine v_if_ne O dX8_shape_5 11 (by decide) e (fun e => ?_) (fun e => ?_)
  · refine v_iload_n O dX8_shape_11 1 rfl rfl ?_
    refine v_iconst (v := 0) O dX8_shape_12 (by decide) ?_
    refine v_iconst (v := 3) O dX8_shape_13 (by decide) ?_
    refine v_cSi O [.int a0, .int 0, .int 3] [] gX8_shape_X8_in cw_X8_shape_X8_in rfl rfl (Nat.le_of_ble_eq_true rfl) dX8_shape_14 e (fun _ e9 => f_X8_in_ok e9) (fun r3 h4 e => ?_)
    refine v_if_ne O dX8_shape_17 23 (by decide) e (fun e => ?_) (fun e => ?_)
    · refine v_aload_n O dX8_shape_23 0 rfl rfl ?_
      refine v_get O fd_X8_shape_167 (g41 h41 (by decide)) (cg_25 G _) rfl dX8_shape_24 ?_
      refine v_iload_n O dX8_shape_27 2 rfl rfl ?_
      refine v_cSi O [.int (h4.1 25 2), .int a1] [] gX8_shape_X8_has cw_X8_shape_X8_has rfl rfl (Nat.le_of_ble_eq_true rfl) dX8_shape_28 e (fun _ e9 => f_X8_has_ok e9) (fun r5 h6 e => ?_)
      refine v_if_eq O dX8_shape_31 39 (by decide) e (fun e => ?_) (fun e => ?_)
      · refine v_aload_n O dX8_shape_39 0 rfl rfl ?_
        refine v_iload_n O dX8_shape_40 1 rfl rfl ?_
        refine v_iload_n O dX8_shape_41 2 rfl rfl ?_
        refine v_cVi O [.int a0, .int a1] [] gX8_shape_X8_shapeOf cw_X8_shape_X8_shapeOf rfl rfl (g41 h41 (by decide)) (cg_25 G _) rfl rfl (Nat.le_of_ble_eq_true rfl) dX8_shape_42 e (fun _ e9 => f_X8_shapeOf_ok h41 e9) (fun r7 h8 e => ?_)
        refine v_sub [] rfl ?_
        exact f_X8_shape_b45_ok h41 O N _ _ e
      · refine v_bipush (v := (-4)) O dX8_shape_34 (by decide) ?_
        refine v_goto O dX8_shape_36 45 (by decide) ?_
        refine v_sub [] rfl ?_
        exact f_X8_shape_b45_ok h41 O N _ _ e
    · refine v_bipush (v := (-3)) O dX8_shape_20 (by decide) ?_
      exact v_iret O dX8_shape_22 e
  · refine v_bipush (v := (-2)) O dX8_shape_8 (by decide) ?_
    exact v_iret O dX8_shape_10 e
/-! ===== X8 square ===== -/
abbrev rm_X8_square : Room := { frames := 2, cells := 0, slots := 0, locals := 43 }
theorem fd_X8_square_16 : FdO wsX8_square RX8 16 RX8 TX8 34 8 5 := ⟨by decide +kernel, rfl, by decide, by decide +kernel⟩
theorem fd_X8_square_32 : FdO wsX8_square RX8 32 RX8 TX8 34 8 21 := ⟨by decide +kernel, rfl, by decide, by decide +kernel⟩
theorem fd_X8_square_68 : FdO wsX8_square RX8 68 RX8 TX8 34 8 4 := ⟨by decide +kernel, rfl, by decide, by decide +kernel⟩
theorem fd_X8_square_167 : FdO wsX8_square RX8 167 RX8 TX8 34 8 2 := ⟨by decide +kernel, rfl, by decide, by decide +kernel⟩
theorem cw_X8_square_X8_isSquare : CwO rm_X8_square yX8_isSquare wsX8_isSquare cX8_isSquare 2 (some .boolean) rm_X8_isSquare 1 := ⟨⟨_, rfl⟩, rfl, rfl, by decide +kernel, by decide, by decide⟩
set_option maxRecDepth 20000 in
theorem f_X8_square_b68_ok {X : Cx} {G : Gx} {z : Rs} (h41 : 41 ≤ gN G) (O : Ok X G cX8_square RX8 6 wsX8_square (some .int) rm_X8_square) (N : Nat) (k19 : Int32 → Int32 → Int32 → Int32 → Int32 → Hp → Option Rs) (hk19 : ∀ (v1 : Int32) (v2 : Int32) (v3 : Int32) (v4 : Int32) (v5 : Int32) (h : Hp), k19 v1 v2 v3 v4 v5 h = some z → V X G 6 (QI X G z) h 19 [(0, .ref (G.1 25)), (1, .int v1), (2, .int v2), (3, .int v3), (4, .int v4), (5, .int v5)] []) (v1 : Int32) (v2 : Int32) (v3 : Int32) (v5 : Int32) (s0 : Int32) (h : Hp) (e : f_X8_square_b68 N k19 v1 v2 v3 v5 s0 h = some z) : V X G 6 (QI X G z) h 68 [(0, .ref (G.1 25)), (1, .int v1), (2, .int v2), (3, .int v3), (5, .int v5)] [.int s0] := by
  unfold f_X8_square_b68 at e
  refine v_istore O dX8_square_68 (by decide) (fun x1 => [(4, .int x1), (0, .ref (G.1 25)), (1, .int v1), (2, .int v2), (3, .int v3), (5, .int v5)]) (fun _ => rfl) e (fun x1 e => ?_)
  refine v_iinc (v := 1) O dX8_square_70 5 rfl (by decide) (by decide) (fun x2 => [(5, .int x2), (4, .int x1), (0, .ref (G.1 25)), (1, .int v1), (2, .int v2), (3, .int v3)]) (fun _ => rfl) e (fun x2 e => ?_)
  refine v_goto O dX8_square_73 19 (by decide) ?_
  refine v_sub [2, 3, 4, 5, 1, 0] rfl ?_
  exact hk19 _ _ _ _ _ _ e
set_option maxRecDepth 20000 in
theorem f_X8_square_b45_ok {X : Cx} {G : Gx} {z : Rs} (h41 : 41 ≤ gN G) (O : Ok X G cX8_square RX8 6 wsX8_square (some .int) rm_X8_square) (N : Nat) (k19 : Int32 → Int32 → Int32 → Int32 → Int32 → Hp → Option Rs) (hk19 : ∀ (v1 : Int32) (v2 : Int32) (v3 : Int32) (v4 : Int32) (v5 : Int32) (h : Hp), k19 v1 v2 v3 v4 v5 h = some z → V X G 6 (QI X G z) h 19 [(0, .ref (G.1 25)), (1, .int v1), (2, .int v2), (3, .int v3), (4, .int v4), (5, .int v5)] []) (v1 : Int32) (v2 : Int32) (v4 : Int32) (v5 : Int32) (s0 : Int32) (h : Hp) (e : f_X8_square_b45 N k19 v1 v2 v4 v5 s0 h = some z) : V X G 6 (QI X G z) h 45 [(0, .ref (G.1 25)), (1, .int v1), (2, .int v2), (4, .int v4), (5, .int v5)] [.int s0] := by
  unfold f_X8_square_b45 at e
  refine v_istore_n O dX8_square_45 rfl (by decide) (fun x1 => [(3, .int x1), (0, .ref (G.1 25)), (1, .int v1), (2, .int v2), (4, .int v4), (5, .int v5)]) (fun _ => rfl) e (fun x1 e => ?_)
  refine v_aload_n O dX8_square_46 1 rfl rfl ?_
  refine v_get O fd_X8_square_16 (g41 h41 (by decide)) (cg_25 G _) rfl dX8_square_47 ?_
  refine v_iconst (v := 4) O dX8_square_50 (by decide) ?_
  refine v_iload O dX8_square_51 5 rfl ?_
  refine v_imul O dX8_square_53 ?_
  refine v_iconst (v := 3) O dX8_square_54 (by decide) ?_
  refine v_iadd O dX8_square_55 ?_
  refine v_iald O (g41 h41 (by decide)) (cg_26 G _) dX8_square_56 e (fun e => ?_)
  refine v_iload_n O dX8_square_57 2 rfl rfl ?_
  refine v_icmp_ne O dX8_square_58 66 (by decide) e (fun e => ?_) (fun e => ?_)
  · refine v_iload O dX8_square_66 4 rfl ?_
    refine v_sub [1, 2, 3, 0, 5] rfl ?_
    exact f_X8_square_b68_ok h41 O N k19 hk19 _ _ _ _ _ _ e
  · refine v_iload O dX8_square_61 5 rfl ?_
    refine v_goto O dX8_square_63 68 (by decide) ?_
    refine v_sub [1, 2, 3, 0, 5] rfl ?_
    exact f_X8_square_b68_ok h41 O N k19 hk19 _ _ _ _ _ _ e
set_option maxRecDepth 20000 in
theorem f_X8_square_b112_ok {X : Cx} {G : Gx} {z : Rs} (h41 : 41 ≤ gN G) (O : Ok X G cX8_square RX8 6 wsX8_square (some .int) rm_X8_square) (N : Nat) (s0 : Int32) (h : Hp) (e : f_X8_square_b112 N s0 h = some z) : V X G 6 (QI X G z) h 112 [] [.int s0] := by
  unfold f_X8_square_b112 at e
  exact v_iret O dX8_square_112 e
set_option maxRecDepth 20000 in
theorem f_X8_square_b19_ok {X : Cx} {G : Gx} {z : Rs} (h41 : 41 ≤ gN G) (O : Ok X G cX8_square RX8 6 wsX8_square (some .int) rm_X8_square) (N : Nat) (k19 : Int32 → Int32 → Int32 → Int32 → Int32 → Hp → Option Rs) (hk19 : ∀ (v1 : Int32) (v2 : Int32) (v3 : Int32) (v4 : Int32) (v5 : Int32) (h : Hp), k19 v1 v2 v3 v4 v5 h = some z → V X G 6 (QI X G z) h 19 [(0, .ref (G.1 25)), (1, .int v1), (2, .int v2), (3, .int v3), (4, .int v4), (5, .int v5)] []) (v1 : Int32) (v2 : Int32) (v3 : Int32) (v4 : Int32) (v5 : Int32) (h : Hp) (e : f_X8_square_b19 N k19 v1 v2 v3 v4 v5 h = some z) : V X G 6 (QI X G z) h 19 [(0, .ref (G.1 25)), (1, .int v1), (2, .int v2), (3, .int v3), (4, .int v4), (5, .int v5)] [] := by
  unfold f_X8_square_b19 at e
  refine v_iload O dX8_square_19 5 rfl ?_
  refine v_aload_n O dX8_square_21 0 rfl rfl ?_
  refine v_get O fd_X8_square_68 (g41 h41 (by decide)) (cg_25 G _) rfl dX8_square_22 ?_
  refine v_icmp_ge O dX8_square_25 76 (by decide) e (fun e => ?_) (fun e => ?_)
  · refine v_iload_n O dX8_square_76 2 rfl rfl ?_
    refine v_if_ne O dX8_square_77 91 (by decide) e (fun e => ?_) (fun e => ?_)
    · refine v_iload_n O dX8_square_91 2 rfl rfl ?_
      refine v_iconst (v := 1) O dX8_square_92 (by decide) ?_
      refine v_icmp_ne O dX8_square_93 100 (by decide) e (fun e => ?_) (fun e => ?_)
      · refine v_iload_n O dX8_square_100 2 rfl rfl ?_
        refine v_iconst (v := 2) O dX8_square_101 (by decide) ?_
        refine v_icmp_ne O dX8_square_102 110 (by decide) e (fun e => ?_) (fun e => ?_)
        · refine v_bipush (v := (-3)) O dX8_square_110 (by decide) ?_
          refine v_sub [] rfl ?_
          exact f_X8_square_b112_ok h41 O N _ _ e
        · refine v_iload O dX8_square_105 4 rfl ?_
          refine v_goto O dX8_square_107 112 (by decide) ?_
          refine v_sub [] rfl ?_
          exact f_X8_square_b112_ok h41 O N _ _ e
      · refine v_iload_n O dX8_square_96 3 rfl rfl ?_
        refine v_goto O dX8_square_97 112 (by decide) ?_
        refine v_sub [] rfl ?_
        exact f_X8_square_b112_ok h41 O N _ _ e
    · refine v_aload_n O dX8_square_80 0 rfl rfl ?_
      refine v_get O fd_X8_square_167 (g41 h41 (by decide)) (cg_25 G _) rfl dX8_square_81 ?_
      refine v_iload_n O dX8_square_84 1 rfl rfl ?_
      refine v_ishr O dX8_square_85 ?_
      refine v_iconst (v := 1) O dX8_square_86 (by decide) ?_
      refine v_iand O dX8_square_87 ?_
      refine v_goto O dX8_square_88 112 (by decide) ?_
      refine v_sub [] rfl ?_
      exact f_X8_square_b112_ok h41 O N _ _ e
  · refine v_aload_n O dX8_square_28 0 rfl rfl ?_
    refine v_get O fd_X8_square_32 (g41 h41 (by decide)) (cg_25 G _) rfl dX8_square_29 ?_
    refine v_iload O dX8_square_32 5 rfl ?_
    refine v_iald O (g41 h41 (by decide)) (cg_31 G _) dX8_square_34 e (fun e => ?_)
    refine v_iload_n O dX8_square_35 1 rfl rfl ?_
    refine v_icmp_ne O dX8_square_36 44 (by decide) e (fun e => ?_) (fun e => ?_)
    · refine v_iload_n O dX8_square_44 3 rfl rfl ?_
      refine v_sub [0, 1, 2, 4, 5] rfl ?_
      exact f_X8_square_b45_ok h41 O N k19 hk19 _ _ _ _ _ _ e
    · refine v_iload O dX8_square_39 5 rfl ?_
      refine v_goto O dX8_square_41 45 (by decide) ?_
      refine v_sub [0, 1, 2, 4, 5] rfl ?_
      exact f_X8_square_b45_ok h41 O N k19 hk19 _ _ _ _ _ _ e
theorem f_X8_square_l19_ok {X : Cx} {G : Gx} {z : Rs} (h41 : 41 ≤ gN G) (O : Ok X G cX8_square RX8 6 wsX8_square (some .int) rm_X8_square) (N : Nat) : ∀ (n : Nat) (v1 : Int32) (v2 : Int32) (v3 : Int32) (v4 : Int32) (v5 : Int32) (h : Hp), f_X8_square_l19 N n v1 v2 v3 v4 v5 h = some z → V X G 6 (QI X G z) h 19 [(0, .ref (G.1 25)), (1, .int v1), (2, .int v2), (3, .int v3), (4, .int v4), (5, .int v5)] [] := by
  intro n
  induction n with
  | zero => intro v1 v2 v3 v4 v5 h e; cases e
  | succ n ih => intro v1 v2 v3 v4 v5 h e; exact f_X8_square_b19_ok h41 O N _ ih v1 v2 v3 v4 v5 h e
set_option maxRecDepth 20000 in
theorem f_X8_square_ok {l : Launch} {G : Gx} {N : Nat} (h41 : 41 ≤ gN G) {a0 : Int32} {a1 : Int32} {h : Hp} {z : Rs} (e : f_X8_square N a0 a1 h = some z) : CI l G yX8_square wsX8_square rm_X8_square [.ref (G.1 25), .int a0, .int a1] h z := by
  refine m_int _ (by decide) rfl [(0, .ref (G.1 25)), (1, .int a0), (2, .int a1)] rfl (Nat.le_of_ble_eq_true rfl) (fun X O => ?_)
  unfold f_X8_square at e
  refine v_aload_n O dX8_square_0 0 rfl rfl ?_
  refine v_iload_n O dX8_square_1 1 rfl rfl ?_
  refine v_cVi O [.int a0] [] gX8_square_X8_isSquare cw_X8_square_X8_isSquare rfl rfl (g41 h41 (by decide)) (cg_25 G _) rfl rfl (Nat.le_of_ble_eq_true rfl) dX8_square_2 e (fun _ e9 => f_X8_isSquare_ok h41 e9) (fun r1 h2 e => ?_)
  refine v_if_ne O dX8_square_5 11 (by decide) e (fun e => ?_) (fun e => ?_)
  · refine v_iconst (v := (-1)) O dX8_square_11 (by decide) ?_
    refine v_istore_n O dX8_square_12 rfl (by decide) (fun x3 => [(3, .int x3), (0, .ref (G.1 25)), (1, .int a0), (2, .int a1)]) (fun _ => rfl) e (fun x3 e => ?_)
    refine v_iconst (v := (-1)) O dX8_square_13 (by decide) ?_
    refine v_istore O dX8_square_14 (by decide) (fun x4 => [(4, .int x4), (3, .int x3), (0, .ref (G.1 25)), (1, .int a0), (2, .int a1)]) (fun _ => rfl) e (fun x4 e => ?_)
    refine v_iconst (v := 0) O dX8_square_16 (by decide) ?_
    refine v_istore O dX8_square_17 (by decide) (fun x5 => [(5, .int x5), (4, .int x4), (3, .int x3), (0, .ref (G.1 25)), (1, .int a0), (2, .int a1)]) (fun _ => rfl) e (fun x5 e => ?_)
    refine v_sub [3, 4, 5, 2, 1, 0] rfl ?_
    exact f_X8_square_l19_ok h41 O N N _ _ _ _ _ _ e
  · refine v_bipush (v := (-2)) O dX8_square_8 (by decide) ?_
    exact v_iret O dX8_square_10 e
