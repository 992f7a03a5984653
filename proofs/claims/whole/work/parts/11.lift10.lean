/-! ===== X8 layLine ===== -/
abbrev rm_X8_layLine : Room := { frames := 6, cells := 0, slots := 0, locals := 158 }
theorem fd_X8_layLine_7 : FdO wsX8_layLine RX8 7 RX8 TX8 34 8 0 := ⟨by decide +kernel, rfl, by decide, by decide +kernel⟩
theorem fd_X8_layLine_13 : FdO wsX8_layLine RX8 13 RX8 TX8 34 8 1 := ⟨by decide +kernel, rfl, by decide, by decide +kernel⟩
theorem fd_X8_layLine_32 : FdO wsX8_layLine RX8 32 RX8 TX8 34 8 21 := ⟨by decide +kernel, rfl, by decide, by decide +kernel⟩
theorem fd_X8_layLine_46 : FdO wsX8_layLine RX8 46 RX8 TX8 34 8 27 := ⟨by decide +kernel, rfl, by decide, by decide +kernel⟩
theorem fd_X8_layLine_49 : FdO wsX8_layLine RX8 49 RX8 TX8 34 8 28 := ⟨by decide +kernel, rfl, by decide, by decide +kernel⟩
theorem fd_X8_layLine_52 : FdO wsX8_layLine RX8 52 RX8 TX8 34 8 29 := ⟨by decide +kernel, rfl, by decide, by decide +kernel⟩
theorem fd_X8_layLine_55 : FdO wsX8_layLine RX8 55 RX8 TX8 34 8 30 := ⟨by decide +kernel, rfl, by decide, by decide +kernel⟩
theorem fd_X8_layLine_58 : FdO wsX8_layLine RX8 58 RX8 TX8 34 8 32 := ⟨by decide +kernel, rfl, by decide, by decide +kernel⟩
theorem fd_X8_layLine_68 : FdO wsX8_layLine RX8 68 RX8 TX8 34 8 4 := ⟨by decide +kernel, rfl, by decide, by decide +kernel⟩
theorem fd_X8_layLine_183 : FdO wsX8_layLine RX8 183 RX8 TX8 34 8 22 := ⟨by decide +kernel, rfl, by decide, by decide +kernel⟩
theorem fd_X8_layLine_241 : FdO wsX8_layLine RX8 241 RX8 TX8 34 8 31 := ⟨by decide +kernel, rfl, by decide, by decide +kernel⟩
theorem cw_X8_layLine_X8_codeOf : CwO rm_X8_layLine yX8_codeOf wsX8_codeOf cX8_codeOf 5 (some .int) rm_X8_codeOf 2 := ⟨⟨_, rfl⟩, rfl, rfl, by decide +kernel, by decide, by decide⟩
theorem cw_X8_layLine_X8_has : CwO rm_X8_layLine yX8_has wsX8_has cX8_has 2 (some .boolean) rm_X8_has 2 := ⟨⟨_, rfl⟩, rfl, rfl, by decide +kernel, by decide, by decide⟩
theorem cw_X8_layLine_X8_mayOf : CwO rm_X8_layLine yX8_mayOf wsX8_mayOf cX8_mayOf 9 (some .int) rm_X8_mayOf 3 := ⟨⟨_, rfl⟩, rfl, rfl, by decide +kernel, by decide, by decide⟩
theorem cw_X8_layLine_X8_place : CwO rm_X8_layLine yX8_place wsX8_place cX8_place 4 (none) rm_X8_place 1 := ⟨⟨_, rfl⟩, rfl, rfl, by decide +kernel, by decide, by decide⟩
set_option maxRecDepth 20000 in
theorem f_X8_layLine_b238_ok {X : Cx} {G : Gx} {z : Rs} (h41 : 41 ≤ gN G) (O : Ok X G cX8_layLine RX8 9 wsX8_layLine (none) rm_X8_layLine) (N : Nat) (k57 : Int32 → Hp → Option Rs) (k90 : Int32 → Int32 → Int32 → Int32 → Hp → Option Rs) (k121 : Int32 → Int32 → Int32 → Int32 → Int32 → Int32 → Hp → Option Rs) (hk57 : ∀ (v2 : Int32) (h : Hp), k57 v2 h = some z → V X G 9 (QV X G z) h 57 [(0, .ref (G.1 25)), (2, .int v2)] []) (hk90 : ∀ (v2 : Int32) (v3 : Int32) (v4 : Int32) (v5 : Int32) (h : Hp), k90 v2 v3 v4 v5 h = some z → V X G 9 (QV X G z) h 90 [(0, .ref (G.1 25)), (2, .int v2), (3, .int v3), (4, .int v4), (5, .int v5)] []) (hk121 : ∀ (v2 : Int32) (v3 : Int32) (v4 : Int32) (v5 : Int32) (v6 : Int32) (v7 : Int32) (h : Hp), k121 v2 v3 v4 v5 v6 v7 h = some z → V X G 9 (QV X G z) h 121 [(0, .ref (G.1 25)), (2, .int v2), (3, .int v3), (4, .int v4), (5, .int v5), (6, .int v6), (7, .int v7)] []) (v2 : Int32) (v3 : Int32) (v4 : Int32) (v5 : Int32) (v6 : Int32) (v7 : Int32) (h : Hp) (e : f_X8_layLine_b238 N k57 k90 k121 v2 v3 v4 v5 v6 v7 h = some z) : V X G 9 (QV X G z) h 238 [(0, .ref (G.1 25)), (2, .int v2), (3, .int v3), (4, .int v4), (5, .int v5), (6, .int v6), (7, .int v7)] [] := by
  unfold f_X8_layLine_b238 at e
  refine v_iinc (v := 1) O dX8_layLine_238 6 rfl (by decide) (by decide) (fun x1 => [(7, .int x1), (0, .ref (G.1 25)), (2, .int v2), (3, .int v3), (4, .int v4), (5, .int v5), (6, .int v6)]) (fun _ => rfl) e (fun x1 e => ?_)
  refine v_goto O dX8_layLine_241 121 (by decide) ?_
  refine v_sub [1, 2, 3, 4, 5, 6, 0] rfl ?_
  exact hk121 _ _ _ _ _ _ _ e
set_option maxRecDepth 20000 in
theorem f_X8_layLine_b121_ok {X : Cx} {G : Gx} {z : Rs} (h41 : 41 ≤ gN G) (O : Ok X G cX8_layLine RX8 9 wsX8_layLine (none) rm_X8_layLine) (N : Nat) (k57 : Int32 → Hp → Option Rs) (k90 : Int32 → Int32 → Int32 → Int32 → Hp → Option Rs) (k121 : Int32 → Int32 → Int32 → Int32 → Int32 → Int32 → Hp → Option Rs) (hk57 : ∀ (v2 : Int32) (h : Hp), k57 v2 h = some z → V X G 9 (QV X G z) h 57 [(0, .ref (G.1 25)), (2, .int v2)] []) (hk90 : ∀ (v2 : Int32) (v3 : Int32) (v4 : Int32) (v5 : Int32) (h : Hp), k90 v2 v3 v4 v5 h = some z → V X G 9 (QV X G z) h 90 [(0, .ref (G.1 25)), (2, .int v2), (3, .int v3), (4, .int v4), (5, .int v5)] []) (hk121 : ∀ (v2 : Int32) (v3 : Int32) (v4 : Int32) (v5 : Int32) (v6 : Int32) (v7 : Int32) (h : Hp), k121 v2 v3 v4 v5 v6 v7 h = some z → V X G 9 (QV X G z) h 121 [(0, .ref (G.1 25)), (2, .int v2), (3, .int v3), (4, .int v4), (5, .int v5), (6, .int v6), (7, .int v7)] []) (v2 : Int32) (v3 : Int32) (v4 : Int32) (v5 : Int32) (v6 : Int32) (v7 : Int32) (h : Hp) (e : f_X8_layLine_b121 N k57 k90 k121 v2 v3 v4 v5 v6 v7 h = some z) : V X G 9 (QV X G z) h 121 [(0, .ref (G.1 25)), (2, .int v2), (3, .int v3), (4, .int v4), (5, .int v5), (6, .int v6), (7, .int v7)] [] := by
  unfold f_X8_layLine_b121 at e
  refine v_iload O dX8_layLine_121 6 rfl ?_
  refine v_aload_n O dX8_layLine_123 0 rfl rfl ?_
  refine v_get O fd_X8_layLine_7 (g41 h41 (by decide)) (cg_25 G _) rfl dX8_layLine_124 ?_
  refine v_aload_n O dX8_layLine_127 0 rfl rfl ?_
  refine v_get O fd_X8_layLine_13 (g41 h41 (by decide)) (cg_25 G _) rfl dX8_layLine_128 ?_
  refine v_imul O dX8_layLine_131 ?_
  refine v_icmp_ge O dX8_layLine_132 244 (by decide) e (fun e => ?_) (fun e => ?_)
  · refine v_iinc (v := 1) O dX8_layLine_244 4 rfl (by decide) (by decide) (fun x1 => [(5, .int x1), (0, .ref (G.1 25)), (2, .int v2), (3, .int v3), (4, .int v4), (6, .int v6), (7, .int v7)]) (fun _ => rfl) e (fun x1 e => ?_)
    refine v_goto O dX8_layLine_247 90 (by decide) ?_
    refine v_sub [1, 2, 3, 4, 0] rfl ?_
    exact hk90 _ _ _ _ _ e
  · refine v_iload O dX8_layLine_135 5 rfl ?_
    refine v_iload O dX8_layLine_137 6 rfl ?_
    refine v_cSi O [.int v6, .int v7] [] gX8_layLine_X8_has cw_X8_layLine_X8_has rfl rfl (Nat.le_of_ble_eq_true rfl) dX8_layLine_139 e (fun _ e9 => f_X8_has_ok e9) (fun r2 h3 e => ?_)
    refine v_if_eq O dX8_layLine_142 238 (by decide) e (fun e => ?_) (fun e => ?_)
    · exact f_X8_layLine_b238_ok h41 O N k57 k90 k121 hk57 hk90 hk121 _ _ _ _ _ _ _ e
    · refine v_aload_n O dX8_layLine_145 0 rfl rfl ?_
      refine v_get O fd_X8_layLine_58 (g41 h41 (by decide)) (cg_25 G _) rfl dX8_layLine_146 ?_
      refine v_iload O dX8_layLine_149 4 rfl ?_
      refine v_iload O dX8_layLine_151 6 rfl ?_
      refine v_iast O (g41 h41 (by decide)) (cg_39 G _) (cw_39 G _ _ _) dX8_layLine_153 e (fun h4 e => ?_)
      refine v_aload_n O dX8_layLine_154 0 rfl rfl ?_
      refine v_aload_n O dX8_layLine_155 0 rfl rfl ?_
      refine v_get O fd_X8_layLine_58 (g41 h41 (by decide)) (cg_25 G _) rfl dX8_layLine_156 ?_
      refine v_iconst (v := 1) O dX8_layLine_159 (by decide) ?_
      refine v_iload O dX8_layLine_160 3 rfl ?_
      refine v_isub O dX8_layLine_162 ?_
      refine v_cVi O [.ref (G.1 39), .int ((1 : Int32) - v4)] [] gX8_layLine_X8_codeOf cw_X8_layLine_X8_codeOf rfl rfl (g41 h41 (by decide)) (cg_25 G _) rfl rfl (Nat.le_of_ble_eq_true rfl) dX8_layLine_163 e (fun _ e9 => f_X8_codeOf_ok_39 h41 e9) (fun r5 h6 e => ?_)
      refine v_istore O dX8_layLine_166 (by decide) (fun x7 => [(8, .int x7), (0, .ref (G.1 25)), (2, .int v2), (3, .int v3), (4, .int v4), (5, .int v5), (6, .int v6), (7, .int v7)]) (fun _ => rfl) e (fun x7 e => ?_)
      refine v_aload_n O dX8_layLine_168 1 rfl rfl ?_
      refine v_get O fd_X8_layLine_46 (g41 h41 (by decide)) (cg_25 G _) rfl dX8_layLine_169 ?_
      refine v_iload O dX8_layLine_172 0 rfl ?_
      refine v_iald O (g41 h41 (by decide)) (cg_35 G _) dX8_layLine_174 e (fun e => ?_)
      refine v_iconst (v := (-1)) O dX8_layLine_175 (by decide) ?_
      refine v_icmp_ne O dX8_layLine_176 238 (by decide) e (fun e => ?_) (fun e => ?_)
      · refine v_sub [1, 2, 3, 4, 5, 6, 7] rfl ?_
        exact f_X8_layLine_b238_ok h41 O N k57 k90 k121 hk57 hk90 hk121 _ _ _ _ _ _ _ e
      · refine v_aload_n O dX8_layLine_179 1 rfl rfl ?_
        refine v_get O fd_X8_layLine_46 (g41 h41 (by decide)) (cg_25 G _) rfl dX8_layLine_180 ?_
        refine v_iload O dX8_layLine_183 0 rfl ?_
        refine v_aload_n O dX8_layLine_185 1 rfl rfl ?_
        refine v_get O fd_X8_layLine_46 (g41 h41 (by decide)) (cg_25 G _) rfl dX8_layLine_186 ?_
        refine v_iload_n O dX8_layLine_189 3 rfl rfl ?_
        refine v_iald O (g41 h41 (by decide)) (cg_35 G _) dX8_layLine_190 e (fun e => ?_)
        refine v_iconst (v := 1) O dX8_layLine_191 (by decide) ?_
        refine v_iadd O dX8_layLine_192 ?_
        refine v_iast O (g41 h41 (by decide)) (cg_35 G _) (cw_35 G _ _ _) dX8_layLine_193 e (fun h8 e => ?_)
        refine v_aload_n O dX8_layLine_194 1 rfl rfl ?_
        refine v_get O fd_X8_layLine_52 (g41 h41 (by decide)) (cg_25 G _) rfl dX8_layLine_195 ?_
        refine v_iload O dX8_layLine_198 0 rfl ?_
        refine v_iload_n O dX8_layLine_200 3 rfl rfl ?_
        refine v_iast O (g41 h41 (by decide)) (cg_37 G _) (cw_37 G _ _ _) dX8_layLine_201 e (fun h9 e => ?_)
        refine v_aload_n O dX8_layLine_202 1 rfl rfl ?_
        refine v_get O fd_X8_layLine_55 (g41 h41 (by decide)) (cg_25 G _) rfl dX8_layLine_203 ?_
        refine v_iload O dX8_layLine_206 0 rfl ?_
        refine v_bipush (v := 12) O dX8_layLine_208 (by decide) ?_
        refine v_iload O dX8_layLine_210 5 rfl ?_
        refine v_imul O dX8_layLine_212 ?_
        refine v_iload O dX8_layLine_213 7 rfl ?_
        refine v_iadd O dX8_layLine_215 ?_
        refine v_iast O (g41 h41 (by decide)) (cg_38 G _) (cw_38 G _ _ _) dX8_layLine_216 e (fun h10 e => ?_)
        refine v_aload_n O dX8_layLine_217 1 rfl rfl ?_
        refine v_get O fd_X8_layLine_49 (g41 h41 (by decide)) (cg_25 G _) rfl dX8_layLine_218 ?_
        refine v_aload_n O dX8_layLine_221 1 rfl rfl ?_
        refine v_get O fd_X8_layLine_241 (g41 h41 (by decide)) (cg_25 G _) rfl dX8_layLine_222 ?_
        refine v_iload O dX8_layLine_225 0 rfl ?_
        refine v_iast O (g41 h41 (by decide)) (cg_36 G _) (cw_36 G _ _ _) dX8_layLine_227 e (fun h11 e => ?_)
        refine v_aload_n O dX8_layLine_228 1 rfl rfl ?_
        refine v_dup O dX8_layLine_229 rfl ?_
        refine v_get O fd_X8_layLine_241 (g41 h41 (by decide)) (cg_25 G _) rfl dX8_layLine_230 ?_
        refine v_iconst (v := 1) O dX8_layLine_233 (by decide) ?_
        refine v_iadd O dX8_layLine_234 ?_
        refine v_put O fd_X8_layLine_241 fp_X8_31 (g41 h41 (by decide)) (cg_25 G _) (Nat.le_of_ble_eq_true rfl) (cs_25_31 G _ _) dX8_layLine_235 e (fun h12 e => ?_)
        refine v_sub [1, 2, 3, 4, 5, 6, 7] rfl ?_
        exact f_X8_layLine_b238_ok h41 O N k57 k90 k121 hk57 hk90 hk121 _ _ _ _ _ _ _ e
theorem f_X8_layLine_l121_ok {X : Cx} {G : Gx} {z : Rs} (h41 : 41 ≤ gN G) (O : Ok X G cX8_layLine RX8 9 wsX8_layLine (none) rm_X8_layLine) (N : Nat) (k57 : Int32 → Hp → Option Rs) (k90 : Int32 → Int32 → Int32 → Int32 → Hp → Option Rs) (hk57 : ∀ (v2 : Int32) (h : Hp), k57 v2 h = some z → V X G 9 (QV X G z) h 57 [(0, .ref (G.1 25)), (2, .int v2)] []) (hk90 : ∀ (v2 : Int32) (v3 : Int32) (v4 : Int32) (v5 : Int32) (h : Hp), k90 v2 v3 v4 v5 h = some z → V X G 9 (QV X G z) h 90 [(0, .ref (G.1 25)), (2, .int v2), (3, .int v3), (4, .int v4), (5, .int v5)] []) : ∀ (n : Nat) (v2 : Int32) (v3 : Int32) (v4 : Int32) (v5 : Int32) (v6 : Int32) (v7 : Int32) (h : Hp), f_X8_layLine_l121 N k57 k90 n v2 v3 v4 v5 v6 v7 h = some z → V X G 9 (QV X G z) h 121 [(0, .ref (G.1 25)), (2, .int v2), (3, .int v3), (4, .int v4), (5, .int v5), (6, .int v6), (7, .int v7)] [] := by
  intro n
  induction n with
  | zero => intro v2 v3 v4 v5 v6 v7 h e; cases e
  | succ n ih => intro v2 v3 v4 v5 v6 v7 h e; exact f_X8_layLine_b121_ok h41 O N k57 k90 _ hk57 hk90 ih v2 v3 v4 v5 v6 v7 h e
set_option maxRecDepth 20000 in
theorem f_X8_layLine_b90_ok {X : Cx} {G : Gx} {z : Rs} (h41 : 41 ≤ gN G) (O : Ok X G cX8_layLine RX8 9 wsX8_layLine (none) rm_X8_layLine) (N : Nat) (k57 : Int32 → Hp → Option Rs) (k90 : Int32 → Int32 → Int32 → Int32 → Hp → Option Rs) (hk57 : ∀ (v2 : Int32) (h : Hp), k57 v2 h = some z → V X G 9 (QV X G z) h 57 [(0, .ref (G.1 25)), (2, .int v2)] []) (hk90 : ∀ (v2 : Int32) (v3 : Int32) (v4 : Int32) (v5 : Int32) (h : Hp), k90 v2 v3 v4 v5 h = some z → V X G 9 (QV X G z) h 90 [(0, .ref (G.1 25)), (2, .int v2), (3, .int v3), (4, .int v4), (5, .int v5)] []) (v2 : Int32) (v3 : Int32) (v4 : Int32) (v5 : Int32) (h : Hp) (e : f_X8_layLine_b90 N k57 k90 v2 v3 v4 v5 h = some z) : V X G 9 (QV X G z) h 90 [(0, .ref (G.1 25)), (2, .int v2), (3, .int v3), (4, .int v4), (5, .int v5)] [] := by
  unfold f_X8_layLine_b90 at e
  refine v_iload O dX8_layLine_90 4 rfl ?_
  refine v_aload_n O dX8_layLine_92 0 rfl rfl ?_
  refine v_get O fd_X8_layLine_68 (g41 h41 (by decide)) (cg_25 G _) rfl dX8_layLine_93 ?_
  refine v_icmp_ge O dX8_layLine_96 250 (by decide) e (fun e => ?_) (fun e => ?_)
  · refine v_iinc (v := 1) O dX8_layLine_250 1 rfl (by decide) (by decide) (fun x1 => [(2, .int x1), (0, .ref (G.1 25)), (3, .int v3), (4, .int v4), (5, .int v5)]) (fun _ => rfl) e (fun x1 e => ?_)
    refine v_goto O dX8_layLine_253 57 (by decide) ?_
    refine v_sub [1, 0] rfl ?_
    exact hk57 _ _ e
  · refine v_aload_n O dX8_layLine_99 0 rfl rfl ?_
    refine v_iload_n O dX8_layLine_100 2 rfl rfl ?_
    refine v_cVv O [.int v3] [] gX8_layLine_X8_place cw_X8_layLine_X8_place rfl rfl (g41 h41 (by decide)) (cg_25 G _) rfl rfl (Nat.le_of_ble_eq_true rfl) dX8_layLine_101 e (fun _ e9 => f_X8_place_ok h41 e9) (fun _ h2 e => ?_)
    refine v_aload_n O dX8_layLine_104 0 rfl rfl ?_
    refine v_aload_n O dX8_layLine_105 0 rfl rfl ?_
    refine v_get O fd_X8_layLine_58 (g41 h41 (by decide)) (cg_25 G _) rfl dX8_layLine_106 ?_
    refine v_iload O dX8_layLine_109 4 rfl ?_
    refine v_iload O dX8_layLine_111 3 rfl ?_
    refine v_cVi O [.ref (G.1 39), .int v5, .int v4] [] gX8_layLine_X8_mayOf cw_X8_layLine_X8_mayOf rfl rfl (g41 h41 (by decide)) (cg_25 G _) rfl rfl (Nat.le_of_ble_eq_true rfl) dX8_layLine_113 e (fun _ e9 => f_X8_mayOf_ok_39 h41 e9) (fun r3 h4 e => ?_)
    refine v_istore O dX8_layLine_116 (by decide) (fun x5 => [(6, .int x5), (0, .ref (G.1 25)), (2, .int v2), (3, .int v3), (4, .int v4), (5, .int v5)]) (fun _ => rfl) e (fun x5 e => ?_)
    refine v_iconst (v := 0) O dX8_layLine_118 (by decide) ?_
    refine v_istore O dX8_layLine_119 (by decide) (fun x6 => [(7, .int x6), (6, .int x5), (0, .ref (G.1 25)), (2, .int v2), (3, .int v3), (4, .int v4), (5, .int v5)]) (fun _ => rfl) e (fun x6 e => ?_)
    refine v_sub [2, 3, 4, 5, 6, 1, 0] rfl ?_
    exact f_X8_layLine_l121_ok h41 O N k57 k90 hk57 hk90 N _ _ _ _ _ _ _ e
theorem f_X8_layLine_l90_ok {X : Cx} {G : Gx} {z : Rs} (h41 : 41 ≤ gN G) (O : Ok X G cX8_layLine RX8 9 wsX8_layLine (none) rm_X8_layLine) (N : Nat) (k57 : Int32 → Hp → Option Rs) (hk57 : ∀ (v2 : Int32) (h : Hp), k57 v2 h = some z → V X G 9 (QV X G z) h 57 [(0, .ref (G.1 25)), (2, .int v2)] []) : ∀ (n : Nat) (v2 : Int32) (v3 : Int32) (v4 : Int32) (v5 : Int32) (h : Hp), f_X8_layLine_l90 N k57 n v2 v3 v4 v5 h = some z → V X G 9 (QV X G z) h 90 [(0, .ref (G.1 25)), (2, .int v2), (3, .int v3), (4, .int v4), (5, .int v5)] [] := by
  intro n
  induction n with
  | zero => intro v2 v3 v4 v5 h e; cases e
  | succ n ih => intro v2 v3 v4 v5 h e; exact f_X8_layLine_b90_ok h41 O N k57 _ hk57 ih v2 v3 v4 v5 h e
set_option maxRecDepth 20000 in
theorem f_X8_layLine_b57_ok {X : Cx} {G : Gx} {z : Rs} (h41 : 41 ≤ gN G) (O : Ok X G cX8_layLine RX8 9 wsX8_layLine (none) rm_X8_layLine) (N : Nat) (k57 : Int32 → Hp → Option Rs) (hk57 : ∀ (v2 : Int32) (h : Hp), k57 v2 h = some z → V X G 9 (QV X G z) h 57 [(0, .ref (G.1 25)), (2, .int v2)] []) (v2 : Int32) (h : Hp) (e : f_X8_layLine_b57 N k57 v2 h = some z) : V X G 9 (QV X G z) h 57 [(0, .ref (G.1 25)), (2, .int v2)] [] := by
  unfold f_X8_layLine_b57 at e
  refine v_iload_n O dX8_layLine_57 1 rfl rfl ?_
  refine v_aload_n O dX8_layLine_58 0 rfl rfl ?_
  refine v_get O fd_X8_layLine_241 (g41 h41 (by decide)) (cg_25 G _) rfl dX8_layLine_59 ?_
  refine v_icmp_ge O dX8_layLine_62 256 (by decide) e (fun e => ?_) (fun e => ?_)
  · exact v_vret O dX8_layLine_256 e
  · refine v_aload_n O dX8_layLine_65 0 rfl rfl ?_
    refine v_get O fd_X8_layLine_49 (g41 h41 (by decide)) (cg_25 G _) rfl dX8_layLine_66 ?_
    refine v_iload_n O dX8_layLine_69 1 rfl rfl ?_
    refine v_iald O (g41 h41 (by decide)) (cg_36 G _) dX8_layLine_70 e (fun e => ?_)
    refine v_istore_n O dX8_layLine_71 rfl (by decide) (fun x1 => [(3, .int x1), (0, .ref (G.1 25)), (2, .int v2)]) (fun _ => rfl) e (fun x1 e => ?_)
    refine v_aload_n O dX8_layLine_72 1 rfl rfl ?_
    refine v_get O fd_X8_layLine_183 (g41 h41 (by decide)) (cg_25 G _) rfl dX8_layLine_73 ?_
    refine v_aload_n O dX8_layLine_76 1 rfl rfl ?_
    refine v_get O fd_X8_layLine_46 (g41 h41 (by decide)) (cg_25 G _) rfl dX8_layLine_77 ?_
    refine v_iload_n O dX8_layLine_80 0 rfl rfl ?_
    refine v_iald O (g41 h41 (by decide)) (cg_35 G _) dX8_layLine_81 e (fun e => ?_)
    refine v_iadd O dX8_layLine_82 ?_
    refine v_iconst (v := 2) O dX8_layLine_83 (by decide) ?_
    refine v_irem O dX8_layLine_84 e (fun e => ?_)
    refine v_istore O dX8_layLine_85 (by decide) (fun x2 => [(4, .int x2), (3, .int x1), (0, .ref (G.1 25)), (2, .int v2)]) (fun _ => rfl) e (fun x2 e => ?_)
    refine v_iconst (v := 0) O dX8_layLine_87 (by decide) ?_
    refine v_istore O dX8_layLine_88 (by decide) (fun x3 => [(5, .int x3), (4, .int x2), (3, .int x1), (0, .ref (G.1 25)), (2, .int v2)]) (fun _ => rfl) e (fun x3 e => ?_)
    refine v_sub [3, 4, 2, 1, 0] rfl ?_
    exact f_X8_layLine_l90_ok h41 O N k57 hk57 N _ _ _ _ _ e
theorem f_X8_layLine_l57_ok {X : Cx} {G : Gx} {z : Rs} (h41 : 41 ≤ gN G) (O : Ok X G cX8_layLine RX8 9 wsX8_layLine (none) rm_X8_layLine) (N : Nat) : ∀ (n : Nat) (v2 : Int32) (h : Hp), f_X8_layLine_l57 N n v2 h = some z → V X G 9 (QV X G z) h 57 [(0, .ref (G.1 25)), (2, .int v2)] [] := by
  intro n
  induction n with
  | zero => intro v2 h e; cases e
  | succ n ih => intro v2 h e; exact f_X8_layLine_b57_ok h41 O N _ ih v2 h e
set_option maxRecDepth 20000 in
theorem f_X8_layLine_b2_ok {X : Cx} {G : Gx} {z : Rs} (h41 : 41 ≤ gN G) (O : Ok X G cX8_layLine RX8 9 wsX8_layLine (none) rm_X8_layLine) (N : Nat) (k2 : Int32 → Hp → Option Rs) (hk2 : ∀ (v1 : Int32) (h : Hp), k2 v1 h = some z → V X G 9 (QV X G z) h 2 [(0, .ref (G.1 25)), (1, .int v1)] []) (v1 : Int32) (h : Hp) (e : f_X8_layLine_b2 N k2 v1 h = some z) : V X G 9 (QV X G z) h 2 [(0, .ref (G.1 25)), (1, .int v1)] [] := by
  unfold f_X8_layLine_b2 at e
  refine v_iload_n O dX8_layLine_2 1 rfl rfl ?_
  refine v_ldc (v := 41472) O dX8_layLine_3 (by decide +kernel) ?_
  refine v_icmp_ge O dX8_layLine_5 21 (by decide) e (fun e => ?_) (fun e => ?_)
  · refine v_aload_n O dX8_layLine_21 0 rfl rfl ?_
    refine v_aload_n O dX8_layLine_22 0 rfl rfl ?_
    refine v_get O fd_X8_layLine_32 (g41 h41 (by decide)) (cg_25 G _) rfl dX8_layLine_23 ?_
    refine v_aload_n O dX8_layLine_26 0 rfl rfl ?_
    refine v_get O fd_X8_layLine_183 (g41 h41 (by decide)) (cg_25 G _) rfl dX8_layLine_27 ?_
    refine v_iconst (v := 2) O dX8_layLine_30 (by decide) ?_
    refine v_irem O dX8_layLine_31 e (fun e => ?_)
    refine v_cVi O [.ref (G.1 31), .int ((h.1 25 22) - (h.1 25 22) / 2 * 2)] [] gX8_layLine_X8_codeOf cw_X8_layLine_X8_codeOf rfl rfl (g41 h41 (by decide)) (cg_25 G _) rfl rfl (Nat.le_of_ble_eq_true rfl) dX8_layLine_32 e (fun _ e9 => f_X8_codeOf_ok_31 h41 e9) (fun r1 h2 e => ?_)
    refine v_istore_n O dX8_layLine_35 rfl (by decide) (fun x3 => [(1, .int x3), (0, .ref (G.1 25))]) (fun _ => rfl) e (fun x3 e => ?_)
    refine v_aload_n O dX8_layLine_36 1 rfl rfl ?_
    refine v_get O fd_X8_layLine_46 (g41 h41 (by decide)) (cg_25 G _) rfl dX8_layLine_37 ?_
    refine v_iload_n O dX8_layLine_40 0 rfl rfl ?_
    refine v_iconst (v := 0) O dX8_layLine_41 (by decide) ?_
    refine v_iast O (g41 h41 (by decide)) (cg_35 G _) (cw_35 G _ _ _) dX8_layLine_42 e (fun h4 e => ?_)
    refine v_aload_n O dX8_layLine_43 1 rfl rfl ?_
    refine v_get O fd_X8_layLine_49 (g41 h41 (by decide)) (cg_25 G _) rfl dX8_layLine_44 ?_
    refine v_iconst (v := 0) O dX8_layLine_47 (by decide) ?_
    refine v_iload_n O dX8_layLine_48 0 rfl rfl ?_
    refine v_iast O (g41 h41 (by decide)) (cg_36 G _) (cw_36 G _ _ _) dX8_layLine_49 e (fun h5 e => ?_)
    refine v_aload_n O dX8_layLine_50 1 rfl rfl ?_
    refine v_iconst (v := 1) O dX8_layLine_51 (by decide) ?_
    refine v_put O fd_X8_layLine_241 fp_X8_31 (g41 h41 (by decide)) (cg_25 G _) (Nat.le_of_ble_eq_true rfl) (cs_25_31 G _ _) dX8_layLine_52 e (fun h6 e => ?_)
    refine v_iconst (v := 0) O dX8_layLine_55 (by decide) ?_
    refine v_istore_n O dX8_layLine_56 rfl (by decide) (fun x7 => [(2, .int x7), (1, .int x3), (0, .ref (G.1 25))]) (fun _ => rfl) e (fun x7 e => ?_)
    refine v_sub [2, 0] rfl ?_
    exact f_X8_layLine_l57_ok h41 O N N _ _ e
  · refine v_aload_n O dX8_layLine_8 0 rfl rfl ?_
    refine v_get O fd_X8_layLine_46 (g41 h41 (by decide)) (cg_25 G _) rfl dX8_layLine_9 ?_
    refine v_iload_n O dX8_layLine_12 1 rfl rfl ?_
    refine v_iconst (v := (-1)) O dX8_layLine_13 (by decide) ?_
    refine v_iast O (g41 h41 (by decide)) (cg_35 G _) (cw_35 G _ _ _) dX8_layLine_14 e (fun h8 e => ?_)
    refine v_iinc (v := 1) O dX8_layLine_15 1 rfl (by decide) (by decide) (fun x9 => [(1, .int x9), (0, .ref (G.1 25))]) (fun _ => rfl) e (fun x9 e => ?_)
    refine v_goto O dX8_layLine_18 2 (by decide) ?_
    refine v_sub [1, 0] rfl ?_
    exact hk2 _ _ e
theorem f_X8_layLine_l2_ok {X : Cx} {G : Gx} {z : Rs} (h41 : 41 ≤ gN G) (O : Ok X G cX8_layLine RX8 9 wsX8_layLine (none) rm_X8_layLine) (N : Nat) : ∀ (n : Nat) (v1 : Int32) (h : Hp), f_X8_layLine_l2 N n v1 h = some z → V X G 9 (QV X G z) h 2 [(0, .ref (G.1 25)), (1, .int v1)] [] := by
  intro n
  induction n with
  | zero => intro v1 h e; cases e
  | succ n ih => intro v1 h e; exact f_X8_layLine_b2_ok h41 O N _ ih v1 h e
set_option maxRecDepth 20000 in
theorem f_X8_layLine_ok {l : Launch} {G : Gx} {N : Nat} (h41 : 41 ≤ gN G) {h : Hp} {z : Rs} (e : f_X8_layLine N h = some z) : CV l G yX8_layLine wsX8_layLine rm_X8_layLine [.ref (G.1 25)] h z := by
  refine m_void _ (by decide) rfl [(0, .ref (G.1 25))] rfl (Nat.le_of_ble_eq_true rfl) (fun X O => ?_)
  unfold f_X8_layLine at e
  refine v_iconst (v := 0) O dX8_layLine_0 (by decide) ?_
  refine v_istore_n O dX8_layLine_1 rfl (by decide) (fun x1 => [(1, .int x1), (0, .ref (G.1 25))]) (fun _ => rfl) e (fun x1 e => ?_)
  refine v_sub [1, 0] rfl ?_
  exact f_X8_layLine_l2_ok h41 O N N _ _ e
/-! ===== X8 firstHome ===== -/
abbrev rm_X8_firstHome : Room := { frames := 7, cells := 0, slots := 0, locals := 186 }
theorem fd_X8_firstHome_49 : FdO wsX8_firstHome RX8 49 RX8 TX8 34 8 28 := ⟨by decide +kernel, rfl, by decide, by decide +kernel⟩
theorem fd_X8_firstHome_241 : FdO wsX8_firstHome RX8 241 RX8 TX8 34 8 31 := ⟨by decide +kernel, rfl, by decide, by decide +kernel⟩
theorem cw_X8_firstHome_X8_areHome : CwO rm_X8_firstHome yX8_areHome wsX8_areHome cX8_areHome 7 (some .boolean) rm_X8_areHome 1 := ⟨⟨_, rfl⟩, rfl, rfl, by decide +kernel, by decide, by decide⟩
theorem cw_X8_firstHome_X8_layLine : CwO rm_X8_firstHome yX8_layLine wsX8_layLine cX8_layLine 9 (none) rm_X8_layLine 0 := ⟨⟨_, rfl⟩, rfl, rfl, by decide +kernel, by decide, by decide⟩
theorem cw_X8_firstHome_X8_place : CwO rm_X8_firstHome yX8_place wsX8_place cX8_place 4 (none) rm_X8_place 1 := ⟨⟨_, rfl⟩, rfl, rfl, by decide +kernel, by decide, by decide⟩
set_option maxRecDepth 20000 in
theorem f_X8_firstHome_b6_ok {X : Cx} {G : Gx} {z : Rs} (h41 : 41 ≤ gN G) (O : Ok X G cX8_firstHome RX8 3 wsX8_firstHome (some .int) rm_X8_firstHome) (N : Nat) (k6 : Int32 → Int32 → Hp → Option Rs) (hk6 : ∀ (v1 : Int32) (v2 : Int32) (h : Hp), k6 v1 v2 h = some z → V X G 3 (QI X G z) h 6 [(0, .ref (G.1 25)), (1, .int v1), (2, .int v2)] []) (v1 : Int32) (v2 : Int32) (h : Hp) (e : f_X8_firstHome_b6 N k6 v1 v2 h = some z) : V X G 3 (QI X G z) h 6 [(0, .ref (G.1 25)), (1, .int v1), (2, .int v2)] [] := by
  unfold f_X8_firstHome_b6 at e
  refine v_iload_n O dX8_firstHome_6 2 rfl rfl ?_
  refine v_aload_n O dX8_firstHome_7 0 rfl rfl ?_
  refine v_get O fd_X8_firstHome_241 (g41 h41 (by decide)) (cg_25 G _) rfl dX8_firstHome_8 ?_
  refine v_icmp_ge O dX8_firstHome_11 45 (by decide) e (fun e => ?_) (fun e => ?_)
  · refine v_iconst (v := (-1)) O dX8_firstHome_45 (by decide) ?_
    exact v_iret O dX8_firstHome_46 e
  · refine v_aload_n O dX8_firstHome_14 0 rfl rfl ?_
    refine v_aload_n O dX8_firstHome_15 0 rfl rfl ?_
    refine v_get O fd_X8_firstHome_49 (g41 h41 (by decide)) (cg_25 G _) rfl dX8_firstHome_16 ?_
    refine v_iload_n O dX8_firstHome_19 2 rfl rfl ?_
    refine v_iald O (g41 h41 (by decide)) (cg_36 G _) dX8_firstHome_20 e (fun e => ?_)
    refine v_cVv O [.int (h.1 36 (ix v2))] [] gX8_firstHome_X8_place cw_X8_firstHome_X8_place rfl rfl (g41 h41 (by decide)) (cg_25 G _) rfl rfl (Nat.le_of_ble_eq_true rfl) dX8_firstHome_21 e (fun _ e9 => f_X8_place_ok h41 e9) (fun _ h1 e => ?_)
    refine v_aload_n O dX8_firstHome_24 0 rfl rfl ?_
    refine v_iload_n O dX8_firstHome_25 1 rfl rfl ?_
    refine v_cVi O [.int v1] [] gX8_firstHome_X8_areHome cw_X8_firstHome_X8_areHome rfl rfl (g41 h41 (by decide)) (cg_25 G _) rfl rfl (Nat.le_of_ble_eq_true rfl) dX8_firstHome_26 e (fun _ e9 => f_X8_areHome_ok h41 e9) (fun r2 h3 e => ?_)
    refine v_if_eq O dX8_firstHome_29 39 (by decide) e (fun e => ?_) (fun e => ?_)
    · refine v_iinc (v := 1) O dX8_firstHome_39 2 rfl (by decide) (by decide) (fun x4 => [(2, .int x4), (0, .ref (G.1 25)), (1, .int v1)]) (fun _ => rfl) e (fun x4 e => ?_)
      refine v_goto O dX8_firstHome_42 6 (by decide) ?_
      refine v_sub [1, 2, 0] rfl ?_
      exact hk6 _ _ _ e
    · refine v_aload_n O dX8_firstHome_32 0 rfl rfl ?_
      refine v_get O fd_X8_firstHome_49 (g41 h41 (by decide)) (cg_25 G _) rfl dX8_firstHome_33 ?_
      refine v_iload_n O dX8_firstHome_36 2 rfl rfl ?_
      refine v_iald O (g41 h41 (by decide)) (cg_36 G _) dX8_firstHome_37 e (fun e => ?_)
      exact v_iret O dX8_firstHome_38 e
theorem f_X8_firstHome_l6_ok {X : Cx} {G : Gx} {z : Rs} (h41 : 41 ≤ gN G) (O : Ok X G cX8_firstHome RX8 3 wsX8_firstHome (some .int) rm_X8_firstHome) (N : Nat) : ∀ (n : Nat) (v1 : Int32) (v2 : Int32) (h : Hp), f_X8_firstHome_l6 N n v1 v2 h = some z → V X G 3 (QI X G z) h 6 [(0, .ref (G.1 25)), (1, .int v1), (2, .int v2)] [] := by
  intro n
  induction n with
  | zero => intro v1 v2 h e; cases e
  | succ n ih => intro v1 v2 h e; exact f_X8_firstHome_b6_ok h41 O N _ ih v1 v2 h e
set_option maxRecDepth 20000 in
theorem f_X8_firstHome_ok {l : Launch} {G : Gx} {N : Nat} (h41 : 41 ≤ gN G) {a0 : Int32} {h : Hp} {z : Rs} (e : f_X8_firstHome N a0 h = some z) : CI l G yX8_firstHome wsX8_firstHome rm_X8_firstHome [.ref (G.1 25), .int a0] h z := by
  refine m_int _ (by decide) rfl [(0, .ref (G.1 25)), (1, .int a0)] rfl (Nat.le_of_ble_eq_true rfl) (fun X O => ?_)
  unfold f_X8_firstHome at e
  refine v_aload_n O dX8_firstHome_0 0 rfl rfl ?_
  refine v_cVv O [] [] gX8_firstHome_X8_layLine cw_X8_firstHome_X8_layLine rfl rfl (g41 h41 (by decide)) (cg_25 G _) rfl rfl (Nat.le_of_ble_eq_true rfl) dX8_firstHome_1 e (fun _ e9 => f_X8_layLine_ok h41 e9) (fun _ h1 e => ?_)
  refine v_iconst (v := 0) O dX8_firstHome_4 (by decide) ?_
  refine v_istore_n O dX8_firstHome_5 rfl (by decide) (fun x2 => [(2, .int x2), (0, .ref (G.1 25)), (1, .int a0)]) (fun _ => rfl) e (fun x2 e => ?_)
  refine v_sub [1, 2, 0] rfl ?_
  exact f_X8_firstHome_l6_ok h41 O N N _ _ _ e
/-! ===== X8 fewestBy ===== -/
abbrev rm_X8_fewestBy : Room := { frames := 8, cells := 0, slots := 0, locals := 208 }
theorem fd_X8_fewestBy_46 : FdO wsX8_fewestBy RX8 46 RX8 TX8 34 8 27 := ⟨by decide +kernel, rfl, by decide, by decide +kernel⟩
theorem cw_X8_fewestBy_X8_firstHome : CwO rm_X8_fewestBy yX8_firstHome wsX8_firstHome cX8_firstHome 3 (some .int) rm_X8_firstHome 1 := ⟨⟨_, rfl⟩, rfl, rfl, by decide +kernel, by decide, by decide⟩
set_option maxRecDepth 20000 in
theorem f_X8_fewestBy_b21_ok {X : Cx} {G : Gx} {z : Rs} (h41 : 41 ≤ gN G) (O : Ok X G cX8_fewestBy RX8 3 wsX8_fewestBy (some .int) rm_X8_fewestBy) (N : Nat) (s0 : Int32) (h : Hp) (e : f_X8_fewestBy_b21 N s0 h = some z) : V X G 3 (QI X G z) h 21 [] [.int s0] := by
  unfold f_X8_fewestBy_b21 at e
  exact v_iret O dX8_fewestBy_21 e
set_option maxRecDepth 20000 in
theorem f_X8_fewestBy_ok {l : Launch} {G : Gx} {N : Nat} (h41 : 41 ≤ gN G) {a0 : Int32} {h : Hp} {z : Rs} (e : f_X8_fewestBy N a0 h = some z) : CI l G yX8_fewestBy wsX8_fewestBy rm_X8_fewestBy [.ref (G.1 25), .int a0] h z := by
  refine m_int _ (by decide) rfl [(0, .ref (G.1 25)), (1, .int a0)] rfl (Nat.le_of_ble_eq_true rfl) (fun X O => ?_)
  unfold f_X8_fewestBy at e
  refine v_aload_n O dX8_fewestBy_0 0 rfl rfl ?_
  refine v_iload_n O dX8_fewestBy_1 1 rfl rfl ?_
  refine v_cVi O [.int a0] [] gX8_fewestBy_X8_firstHome cw_X8_fewestBy_X8_firstHome rfl rfl (g41 h41 (by decide)) (cg_25 G _) rfl rfl (Nat.le_of_ble_eq_true rfl) dX8_fewestBy_2 e (fun _ e9 => f_X8_firstHome_ok h41 e9) (fun r1 h2 e => ?_)
  refine v_istore_n O dX8_fewestBy_5 rfl (by decide) (fun x3 => [(2, .int x3), (0, .ref (G.1 25)), (1, .int a0)]) (fun _ => rfl) e (fun x3 e => ?_)
  refine v_iload_n O dX8_fewestBy_6 0 rfl rfl ?_
  refine v_iconst (v := (-1)) O dX8_fewestBy_7 (by decide) ?_
  refine v_icmp_ne O dX8_fewestBy_8 15 (by decide) e (fun e => ?_) (fun e => ?_)
  · refine v_aload_n O dX8_fewestBy_15 1 rfl rfl ?_
    refine v_get O fd_X8_fewestBy_46 (g41 h41 (by decide)) (cg_25 G _) rfl dX8_fewestBy_16 ?_
    refine v_iload_n O dX8_fewestBy_19 0 rfl rfl ?_
    refine v_iald O (g41 h41 (by decide)) (cg_35 G _) dX8_fewestBy_20 e (fun e => ?_)
    refine v_sub [] rfl ?_
    exact f_X8_fewestBy_b21_ok h41 O N _ _ e
  · refine v_iconst (v := (-1)) O dX8_fewestBy_11 (by decide) ?_
    refine v_goto O dX8_fewestBy_12 21 (by decide) ?_
    refine v_sub [] rfl ?_
    exact f_X8_fewestBy_b21_ok h41 O N _ _ e
/-! ===== X8 isSquare ===== -/
abbrev rm_X8_isSquare : Room := { frames := 1, cells := 0, slots := 0, locals := 22 }
theorem fd_X8_isSquare_7 : FdO wsX8_isSquare RX8 7 RX8 TX8 34 8 0 := ⟨by decide +kernel, rfl, by decide, by decide +kernel⟩
theorem fd_X8_isSquare_13 : FdO wsX8_isSquare RX8 13 RX8 TX8 34 8 1 := ⟨by decide +kernel, rfl, by decide, by decide +kernel⟩
theorem cw_X8_isSquare_X8_in : CwO rm_X8_isSquare yX8_in wsX8_in cX8_in 3 (some .boolean) rm_X8_in 3 := ⟨⟨_, rfl⟩, rfl, rfl, by decide +kernel, by decide, by decide⟩
set_option maxRecDepth 20000 in
theorem f_X8_isSquare_ok {l : Launch} {G : Gx} {N : Nat} (h41 : 41 ≤ gN G) {a0 : Int32} {h : Hp} {z : Rs} (e : f_X8_isSquare N a0 h = some z) : CI l G yX8_isSquare wsX8_isSquare rm_X8_isSquare [.ref (G.1 25), .int a0] h z := by
  refine m_bool _ (by decide) rfl [(0, .ref (G.1 25)), (1, .int a0)] rfl (Nat.le_of_ble_eq_true rfl) (fun X O => ?_)
  unfold f_X8_isSquare at e
  refine v_iload_n O dX8_isSquare_0 1 rfl rfl ?_
  refine v_iconst (v := 0) O dX8_isSquare_1 (by decide) ?_
  refine v_aload_n O dX8_isSquare_2 0 rfl rfl ?_
  refine v_get O fd_X8_isSquare_7 (g41 h41 (by decide)) (cg_25 G _) rfl dX8_isSquare_3 ?_
  refine v_aload_n O dX8_isSquare_6 0 rfl rfl ?_
  refine v_get O fd_X8_isSquare_13 (g41 h41 (by decide)) (cg_25 G _) rfl dX8_isSquare_7 ?_
  refine v_imul O dX8_isSquare_10 ?_
  refine v_iconst (v := 1) O dX8_isSquare_11 (by decide) ?_
  refine v_isub O dX8_isSquare_12 ?_
  refine v_cSi O [.int a0, .int 0, .int (((h.1 25 0) * (h.1 25 1)) - 1)] [] gX8_isSquare_X8_in cw_X8_isSquare_X8_in rfl rfl (Nat.le_of_ble_eq_true rfl) dX8_isSquare_13 e (fun _ e9 => f_X8_in_ok e9) (fun r1 h2 e => ?_)
  exact v_zret O dX8_isSquare_16 e
/-! ===== X8 added ===== -/
abbrev rm_X8_added : Room := { frames := 9, cells := 0, slots := 0, locals := 230 }
theorem fd_X8_added_167 : FdO wsX8_added RX8 167 RX8 TX8 34 8 2 := ⟨by decide +kernel, rfl, by decide, by decide +kernel⟩
theorem cw_X8_added_X8_fewestBy : CwO rm_X8_added yX8_fewestBy wsX8_fewestBy cX8_fewestBy 3 (some .int) rm_X8_fewestBy 1 := ⟨⟨_, rfl⟩, rfl, rfl, by decide +kernel, by decide, by decide⟩
theorem cw_X8_added_X8_has : CwO rm_X8_added yX8_has wsX8_has cX8_has 2 (some .boolean) rm_X8_has 2 := ⟨⟨_, rfl⟩, rfl, rfl, by decide +kernel, by decide, by decide⟩
theorem cw_X8_added_X8_isSquare : CwO rm_X8_added yX8_isSquare wsX8_isSquare cX8_isSquare 2 (some .boolean) rm_X8_isSquare 1 := ⟨⟨_, rfl⟩, rfl, rfl, by decide +kernel, by decide, by decide⟩
set_option maxRecDepth 20000 in
theorem f_X8_added_ok {l : Launch} {G : Gx} {N : Nat} (h41 : 41 ≤ gN G) {a0 : Int32} {h : Hp} {z : Rs} (e : f_X8_added N a0 h = some z) : CI l G yX8_added wsX8_added rm_X8_added [.ref (G.1 25), .int a0] h z := by
  refine m_int _ (by decide) rfl [(0, .ref (G.1 25)), (1, .int a0)] rfl (Nat.le_of_ble_eq_true rfl) (fun X O => ?_)
  unfold f_X8_added at e
  refine v_aload_n O dX8_added_0 0 rfl rfl ?_
  refine v_iload_n O dX8_added_1 1 rfl rfl ?_
  refine v_cVi O [.int a0] [] gX8_added_X8_isSquare cw_X8_added_X8_isSquare rfl rfl (g41 h41 (by decide)) (cg_25 G _) rfl rfl (Nat.le_of_ble_eq_true rfl) dX8_added_2 e (fun _ e9 => f_X8_isSquare_ok h41 e9) (fun r1 h2 e => ?_)
  refine v_if_ne O dX8_added_5 11 (by decide) e (fun e => ?_) (fun e => ?_)
  · refine v_aload_n O dX8_added_11 0 rfl rfl ?_
    refine v_get O fd_X8_added_167 (g41 h41 (by decide)) (cg_25 G _) rfl dX8_added_12 ?_
    refine v_iload_n O dX8_added_15 1 rfl rfl ?_
    refine v_cSi O [.int (h2.1 25 2), .int a0] [] gX8_added_X8_has cw_X8_added_X8_has rfl rfl (Nat.le_of_ble_eq_true rfl) dX8_added_16 e (fun _ e9 => f_X8_has_ok e9) (fun r3 h4 e => ?_)
    refine v_if_ne O dX8_added_19 25 (by decide) e (fun e => ?_) (fun e => ?_)
    · refine v_aload_n O dX8_added_25 0 rfl rfl ?_
      refine v_aload_n O dX8_added_26 0 rfl rfl ?_
      refine v_get O fd_X8_added_167 (g41 h41 (by decide)) (cg_25 G _) rfl dX8_added_27 ?_
      refine v_iconst (v := 1) O dX8_added_30 (by decide) ?_
      refine v_iload_n O dX8_added_31 1 rfl rfl ?_
      refine v_ishl O dX8_added_32 ?_
      refine v_iconst (v := (-1)) O dX8_added_33 (by decide) ?_
      refine v_ixor O dX8_added_34 ?_
      refine v_iand O dX8_added_35 ?_
      refine v_put O fd_X8_added_167 fp_X8_2 (g41 h41 (by decide)) (cg_25 G _) (Nat.le_of_ble_eq_true rfl) (cs_25_2 G _ _) dX8_added_36 e (fun h5 e => ?_)
      refine v_aload_n O dX8_added_39 0 rfl rfl ?_
      refine v_iconst (v := 0) O dX8_added_40 (by decide) ?_
      refine v_cVi O [.int 0] [] gX8_added_X8_fewestBy cw_X8_added_X8_fewestBy rfl rfl (g41 h41 (by decide)) (cg_25 G _) rfl rfl (Nat.le_of_ble_eq_true rfl) dX8_added_41 e (fun _ e9 => f_X8_fewestBy_ok h41 e9) (fun r6 h7 e => ?_)
      refine v_istore_n O dX8_added_44 rfl (by decide) (fun x8 => [(2, .int x8), (0, .ref (G.1 25)), (1, .int a0)]) (fun _ => rfl) e (fun x8 e => ?_)
      refine v_aload_n O dX8_added_45 1 rfl rfl ?_
      refine v_aload_n O dX8_added_46 1 rfl rfl ?_
      refine v_get O fd_X8_added_167 (g41 h41 (by decide)) (cg_25 G _) rfl dX8_added_47 ?_
      refine v_iconst (v := 1) O dX8_added_50 (by decide) ?_
      refine v_iload_n O dX8_added_51 2 rfl rfl ?_
      refine v_ishl O dX8_added_52 ?_
      refine v_ior O dX8_added_53 ?_
      refine v_put O fd_X8_added_167 fp_X8_2 (g41 h41 (by decide)) (cg_25 G _) (Nat.le_of_ble_eq_true rfl) (cs_25_2 G _ _) dX8_added_54 e (fun h9 e => ?_)
      refine v_iload_n O dX8_added_57 0 rfl rfl ?_
      exact v_iret O dX8_added_58 e
    · refine v_bipush (v := (-4)) O dX8_added_22 (by decide) ?_
      exact v_iret O dX8_added_24 e
  · refine v_bipush (v := (-2)) O dX8_added_8 (by decide) ?_
    exact v_iret O dX8_added_10 e
/-! ===== X8 alike ===== -/
abbrev rm_X8_alike : Room := { frames := 9, cells := 0, slots := 0, locals := 230 }
theorem cw_X8_alike_X8_fewestBy : CwO rm_X8_alike yX8_fewestBy wsX8_fewestBy cX8_fewestBy 3 (some .int) rm_X8_fewestBy 1 := ⟨⟨_, rfl⟩, rfl, rfl, by decide +kernel, by decide, by decide⟩
set_option maxRecDepth 20000 in
theorem f_X8_alike_ok {l : Launch} {G : Gx} {N : Nat} (h41 : 41 ≤ gN G) {h : Hp} {z : Rs} (e : f_X8_alike N h = some z) : CI l G yX8_alike wsX8_alike rm_X8_alike [.ref (G.1 25)] h z := by
  refine m_int _ (by decide) rfl [(0, .ref (G.1 25))] rfl (Nat.le_of_ble_eq_true rfl) (fun X O => ?_)
  unfold f_X8_alike at e
  refine v_aload_n O dX8_alike_0 0 rfl rfl ?_
  refine v_iconst (v := 1) O dX8_alike_1 (by decide) ?_
  refine v_cVi O [.int 1] [] gX8_alike_X8_fewestBy cw_X8_alike_X8_fewestBy rfl rfl (g41 h41 (by decide)) (cg_25 G _) rfl rfl (Nat.le_of_ble_eq_true rfl) dX8_alike_2 e (fun _ e9 => f_X8_fewestBy_ok h41 e9) (fun r1 h2 e => ?_)
  exact v_iret O dX8_alike_5 e
/-! ===== X8 isMan ===== -/
abbrev rm_X8_isMan : Room := { frames := 1, cells := 0, slots := 0, locals := 22 }
theorem fd_X8_isMan_68 : FdO wsX8_isMan RX8 68 RX8 TX8 34 8 4 := ⟨by decide +kernel, rfl, by decide, by decide +kernel⟩
theorem cw_X8_isMan_X8_in : CwO rm_X8_isMan yX8_in wsX8_in cX8_in 3 (some .boolean) rm_X8_in 3 := ⟨⟨_, rfl⟩, rfl, rfl, by decide +kernel, by decide, by decide⟩
set_option maxRecDepth 20000 in
theorem f_X8_isMan_ok {l : Launch} {G : Gx} {N : Nat} (h41 : 41 ≤ gN G) {a0 : Int32} {h : Hp} {z : Rs} (e : f_X8_isMan N a0 h = some z) : CI l G yX8_isMan wsX8_isMan rm_X8_isMan [.ref (G.1 25), .int a0] h z := by
  refine m_bool _ (by decide) rfl [(0, .ref (G.1 25)), (1, .int a0)] rfl (Nat.le_of_ble_eq_true rfl) (fun X O => ?_)
  unfold f_X8_isMan at e
  refine v_iload_n O dX8_isMan_0 1 rfl rfl ?_
  refine v_iconst (v := 0) O dX8_isMan_1 (by decide) ?_
  refine v_aload_n O dX8_isMan_2 0 rfl rfl ?_
  refine v_get O fd_X8_isMan_68 (g41 h41 (by decide)) (cg_25 G _) rfl dX8_isMan_3 ?_
  refine v_iconst (v := 1) O dX8_isMan_6 (by decide) ?_
  refine v_isub O dX8_isMan_7 ?_
  refine v_cSi O [.int a0, .int 0, .int ((h.1 25 4) - 1)] [] gX8_isMan_X8_in cw_X8_isMan_X8_in rfl rfl (Nat.le_of_ble_eq_true rfl) dX8_isMan_8 e (fun _ e9 => f_X8_in_ok e9) (fun r1 h2 e => ?_)
  exact v_zret O dX8_isMan_11 e
/-! ===== X8 as ===== -/
abbrev rm_X8_as : Room := { frames := 4, cells := 0, slots := 0, locals := 104 }
theorem fd_X8_as_16 : FdO wsX8_as RX8 16 RX8 TX8 34 8 5 := ⟨by decide +kernel, rfl, by decide, by decide +kernel⟩
theorem fd_X8_as_32 : FdO wsX8_as RX8 32 RX8 TX8 34 8 21 := ⟨by decide +kernel, rfl, by decide, by decide +kernel⟩
theorem cw_X8_as_X8_in : CwO rm_X8_as yX8_in wsX8_in cX8_in 3 (some .boolean) rm_X8_in 3 := ⟨⟨_, rfl⟩, rfl, rfl, by decide +kernel, by decide, by decide⟩
theorem cw_X8_as_X8_isMan : CwO rm_X8_as yX8_isMan wsX8_isMan cX8_isMan 2 (some .boolean) rm_X8_isMan 1 := ⟨⟨_, rfl⟩, rfl, rfl, by decide +kernel, by decide, by decide⟩
theorem cw_X8_as_X8_reachOf : CwO rm_X8_as yX8_reachOf wsX8_reachOf cX8_reachOf 13 (some .int) rm_X8_reachOf 3 := ⟨⟨_, rfl⟩, rfl, rfl, by decide +kernel, by decide, by decide⟩
theorem cw_X8_as_X8_takenBy : CwO rm_X8_as yX8_takenBy wsX8_takenBy cX8_takenBy 4 (some .int) rm_X8_takenBy 1 := ⟨⟨_, rfl⟩, rfl, rfl, by decide +kernel, by decide, by decide⟩
set_option maxRecDepth 20000 in
theorem f_X8_as_b121_ok {X : Cx} {G : Gx} {z : Rs} (h41 : 41 ≤ gN G) (O : Ok X G cX8_as RX8 5 wsX8_as (some .int) rm_X8_as) (N : Nat) (s0 : Int32) (h : Hp) (e : f_X8_as_b121 N s0 h = some z) : V X G 5 (QI X G z) h 121 [] [.int s0] := by
  unfold f_X8_as_b121 at e
  exact v_iret O dX8_as_121 e
set_option maxRecDepth 20000 in
theorem f_X8_as_b90_ok {X : Cx} {G : Gx} {z : Rs} (h41 : 41 ≤ gN G) (O : Ok X G cX8_as RX8 5 wsX8_as (some .int) rm_X8_as) (N : Nat) (v1 : Int32) (v3 : Int32) (s0 : Int32) (h : Hp) (e : f_X8_as_b90 N v1 v3 s0 h = some z) : V X G 5 (QI X G z) h 90 [(0, .ref (G.1 25)), (1, .int v1), (3, .int v3)] [.int s0] := by
  unfold f_X8_as_b90 at e
  refine v_istore O dX8_as_90 (by decide) (fun x1 => [(4, .int x1), (0, .ref (G.1 25)), (1, .int v1), (3, .int v3)]) (fun _ => rfl) e (fun x1 e => ?_)
  refine v_iload O dX8_as_92 0 rfl ?_
  refine v_if_eq O dX8_as_94 119 (by decide) e (fun e => ?_) (fun e => ?_)
  · refine v_bipush (v := (-4)) O dX8_as_119 (by decide) ?_
    refine v_sub [] rfl ?_
    exact f_X8_as_b121_ok h41 O N _ _ e
  · refine v_aload_n O dX8_as_97 1 rfl rfl ?_
    refine v_iload_n O dX8_as_98 3 rfl rfl ?_
    refine v_aload_n O dX8_as_99 1 rfl rfl ?_
    refine v_get O fd_X8_as_32 (g41 h41 (by decide)) (cg_25 G _) rfl dX8_as_100 ?_
    refine v_iload_n O dX8_as_103 2 rfl rfl ?_
    refine v_iald O (g41 h41 (by decide)) (cg_31 G _) dX8_as_104 e (fun e => ?_)
    refine v_aload_n O dX8_as_105 1 rfl rfl ?_
    refine v_aload_n O dX8_as_106 1 rfl rfl ?_
    refine v_get O fd_X8_as_32 (g41 h41 (by decide)) (cg_25 G _) rfl dX8_as_107 ?_
    refine v_cVi O [.ref (G.1 31)] [.int (h.1 31 (ix v1)), .int v3, .ref (G.1 25)] gX8_as_X8_takenBy cw_X8_as_X8_takenBy rfl rfl (g41 h41 (by decide)) (cg_25 G _) rfl rfl (Nat.le_of_ble_eq_true rfl) dX8_as_110 e (fun _ e9 => f_X8_takenBy_ok_31 h41 e9) (fun r2 h3 e => ?_)
    refine v_cVi O [.int v3, .int (h.1 31 (ix v1)), .int r2] [] gX8_as_X8_reachOf cw_X8_as_X8_reachOf rfl rfl (g41 h41 (by decide)) (cg_25 G _) rfl rfl (Nat.le_of_ble_eq_true rfl) dX8_as_113 e (fun _ e9 => f_X8_reachOf_ok h41 e9) (fun r4 h5 e => ?_)
    refine v_goto O dX8_as_116 121 (by decide) ?_
    refine v_sub [] rfl ?_
    exact f_X8_as_b121_ok h41 O N _ _ e
set_option maxRecDepth 20000 in
theorem f_X8_as_b85_ok {X : Cx} {G : Gx} {z : Rs} (h41 : 41 ≤ gN G) (O : Ok X G cX8_as RX8 5 wsX8_as (some .int) rm_X8_as) (N : Nat) (v1 : Int32) (v3 : Int32) (h : Hp) (e : f_X8_as_b85 N v1 v3 h = some z) : V X G 5 (QI X G z) h 85 [(0, .ref (G.1 25)), (1, .int v1), (3, .int v3)] [] := by
  unfold f_X8_as_b85 at e
  refine v_iconst (v := 1) O dX8_as_85 (by decide) ?_
  refine v_goto O dX8_as_86 90 (by decide) ?_
  exact f_X8_as_b90_ok h41 O N _ _ _ _ e
set_option maxRecDepth 20000 in
theorem f_X8_as_b89_ok {X : Cx} {G : Gx} {z : Rs} (h41 : 41 ≤ gN G) (O : Ok X G cX8_as RX8 5 wsX8_as (some .int) rm_X8_as) (N : Nat) (v1 : Int32) (v3 : Int32) (h : Hp) (e : f_X8_as_b89 N v1 v3 h = some z) : V X G 5 (QI X G z) h 89 [(0, .ref (G.1 25)), (1, .int v1), (3, .int v3)] [] := by
  unfold f_X8_as_b89 at e
  refine v_iconst (v := 0) O dX8_as_89 (by decide) ?_
  exact f_X8_as_b90_ok h41 O N _ _ _ _ e
set_option maxRecDepth 20000 in
theorem f_X8_as_ok {l : Launch} {G : Gx} {N : Nat} (h41 : 41 ≤ gN G) {a0 : Int32} {a1 : Int32} {h : Hp} {z : Rs} (e : f_X8_as N a0 a1 h = some z) : CI l G yX8_as wsX8_as rm_X8_as [.ref (G.1 25), .int a0, .int a1] h z := by
  refine m_int _ (by decide) rfl [(0, .ref (G.1 25)), (1, .int a0), (2, .int a1)] rfl (Nat.le_of_ble_eq_true rfl) (fun X O => ?_)
  unfold f_X8_as at e
  refine v_aload_n O dX8_as_0 0 rfl rfl ?_
  refine v_iload_n O dX8_as_1 1 rfl rfl ?_
  refine v_cVi O [.int a0] [] gX8_as_X8_isMan cw_X8_as_X8_isMan rfl rfl (g41 h41 (by decide)) (cg_25 G _) rfl rfl (Nat.le_of_ble_eq_true rfl) dX8_as_2 e (fun _ e9 => f_X8_isMan_ok h41 e9) (fun r1 h2 e => ?_)
  refine v_if_ne O dX8_as_5 11 (by decide) e (fun e => ?_) (fun e => ?_)
  · refine v_iload_n O dX8_as_11 2 rfl rfl ?_
    refine v_iconst (v := 0) O dX8_as_12 (by decide) ?_
    refine v_bipush (v := 6) O dX8_as_13 (by decide) ?_
    refine v_cSi O [.int a1, .int 0, .int 6] [] gX8_as_X8_in cw_X8_as_X8_in rfl rfl (Nat.le_of_ble_eq_true rfl) dX8_as_15 e (fun _ e9 => f_X8_in_ok e9) (fun r3 h4 e => ?_)
    refine v_if_ne O dX8_as_18 24 (by decide) e (fun e => ?_) (fun e => ?_)
    · refine v_aload_n O dX8_as_24 0 rfl rfl ?_
      refine v_get O fd_X8_as_16 (g41 h41 (by decide)) (cg_25 G _) rfl dX8_as_25 ?_
      refine v_iconst (v := 4) O dX8_as_28 (by decide) ?_
      refine v_iload_n O dX8_as_29 1 rfl rfl ?_
      refine v_imul O dX8_as_30 ?_
      refine v_iald O (g41 h41 (by decide)) (cg_26 G _) dX8_as_31 e (fun e => ?_)
      refine v_istore_n O dX8_as_32 rfl (by decide) (fun x5 => [(3, .int x5), (0, .ref (G.1 25)), (1, .int a0), (2, .int a1)]) (fun _ => rfl) e (fun x5 e => ?_)
      refine v_iload_n O dX8_as_33 3 rfl rfl ?_
      refine v_if_eq O dX8_as_34 85 (by decide) e (fun e => ?_) (fun e => ?_)
      · refine v_sub [1, 2, 0] rfl ?_
        exact f_X8_as_b85_ok h41 O N _ _ _ e
      · refine v_iload_n O dX8_as_37 3 rfl rfl ?_
        refine v_iconst (v := 1) O dX8_as_38 (by decide) ?_
        refine v_icmp_ne O dX8_as_39 50 (by decide) e (fun e => ?_) (fun e => ?_)
        · refine v_iload_n O dX8_as_50 3 rfl rfl ?_
          refine v_iconst (v := 4) O dX8_as_51 (by decide) ?_
          refine v_icmp_ne O dX8_as_52 63 (by decide) e (fun e => ?_) (fun e => ?_)
          · refine v_iload_n O dX8_as_63 3 rfl rfl ?_
            refine v_iconst (v := 4) O dX8_as_64 (by decide) ?_
            refine v_icmp_ge O dX8_as_65 78 (by decide) e (fun e => ?_) (fun e => ?_)
            · refine v_iload_n O dX8_as_78 0 rfl rfl ?_
              refine v_iload_n O dX8_as_79 3 rfl rfl ?_
              refine v_iconst (v := 3) O dX8_as_80 (by decide) ?_
              refine v_isub O dX8_as_81 ?_
              refine v_icmp_ne O dX8_as_82 89 (by decide) e (fun e => ?_) (fun e => ?_)
              · refine v_sub [1, 2, 0] rfl ?_
                exact f_X8_as_b89_ok h41 O N _ _ _ e
              · refine v_sub [1, 2, 0] rfl ?_
                exact f_X8_as_b85_ok h41 O N _ _ _ e
            · refine v_iload_n O dX8_as_68 0 rfl rfl ?_
              refine v_iload_n O dX8_as_69 3 rfl rfl ?_
              refine v_iconst (v := 2) O dX8_as_70 (by decide) ?_
              refine v_isub O dX8_as_71 ?_
              refine v_icmp_ne O dX8_as_72 89 (by decide) e (fun e => ?_) (fun e => ?_)
              · refine v_sub [1, 2, 0] rfl ?_
                exact f_X8_as_b89_ok h41 O N _ _ _ e
              · refine v_goto O dX8_as_75 85 (by decide) ?_
                refine v_sub [1, 2, 0] rfl ?_
                exact f_X8_as_b85_ok h41 O N _ _ _ e
          · refine v_iload_n O dX8_as_55 0 rfl rfl ?_
            refine v_iconst (v := 1) O dX8_as_56 (by decide) ?_
            refine v_icmp_le O dX8_as_57 89 (by decide) e (fun e => ?_) (fun e => ?_)
            · refine v_sub [1, 2, 0] rfl ?_
              exact f_X8_as_b89_ok h41 O N _ _ _ e
            · refine v_goto O dX8_as_60 85 (by decide) ?_
              refine v_sub [1, 2, 0] rfl ?_
              exact f_X8_as_b85_ok h41 O N _ _ _ e
        · refine v_iload_n O dX8_as_42 0 rfl rfl ?_
          refine v_iconst (v := 2) O dX8_as_43 (by decide) ?_
          refine v_icmp_ge O dX8_as_44 89 (by decide) e (fun e => ?_) (fun e => ?_)
          · refine v_sub [1, 2, 0] rfl ?_
            exact f_X8_as_b89_ok h41 O N _ _ _ e
          · refine v_goto O dX8_as_47 85 (by decide) ?_
            refine v_sub [1, 2, 0] rfl ?_
            exact f_X8_as_b85_ok h41 O N _ _ _ e
    · refine v_bipush (v := (-3)) O dX8_as_21 (by decide) ?_
      exact v_iret O dX8_as_23 e
  · refine v_bipush (v := (-2)) O dX8_as_8 (by decide) ?_
    exact v_iret O dX8_as_10 e
/-! ===== X8 attacked ===== -/
abbrev rm_X8_attacked : Room := { frames := 5, cells := 0, slots := 0, locals := 130 }
theorem fd_X8_attacked_32 : FdO wsX8_attacked RX8 32 RX8 TX8 34 8 21 := ⟨by decide +kernel, rfl, by decide, by decide +kernel⟩
theorem cw_X8_attacked_X8_attackedBy : CwO rm_X8_attacked yX8_attackedBy wsX8_attackedBy cX8_attackedBy 7 (some .int) rm_X8_attackedBy 1 := ⟨⟨_, rfl⟩, rfl, rfl, by decide +kernel, by decide, by decide⟩
set_option maxRecDepth 20000 in
theorem f_X8_attacked_ok {l : Launch} {G : Gx} {N : Nat} (h41 : 41 ≤ gN G) {h : Hp} {z : Rs} (e : f_X8_attacked N h = some z) : CI l G yX8_attacked wsX8_attacked rm_X8_attacked [.ref (G.1 25)] h z := by
  refine m_int _ (by decide) rfl [(0, .ref (G.1 25))] rfl (Nat.le_of_ble_eq_true rfl) (fun X O => ?_)
  unfold f_X8_attacked at e
  refine v_aload_n O dX8_attacked_0 0 rfl rfl ?_
  refine v_aload_n O dX8_attacked_1 0 rfl rfl ?_
  refine v_get O fd_X8_attacked_32 (g41 h41 (by decide)) (cg_25 G _) rfl dX8_attacked_2 ?_
  refine v_cVi O [.ref (G.1 31)] [] gX8_attacked_X8_attackedBy cw_X8_attacked_X8_attackedBy rfl rfl (g41 h41 (by decide)) (cg_25 G _) rfl rfl (Nat.le_of_ble_eq_true rfl) dX8_attacked_5 e (fun _ e9 => f_X8_attackedBy_ok_31 h41 e9) (fun r1 h2 e => ?_)
  exact v_iret O dX8_attacked_8 e
/-! ===== X8 back ===== -/
abbrev rm_X8_back : Room := { frames := 1, cells := 0, slots := 0, locals := 22 }
theorem fd_X8_back_32 : FdO wsX8_back RX8 32 RX8 TX8 34 8 21 := ⟨by decide +kernel, rfl, by decide, by decide +kernel⟩
theorem fd_X8_back_35 : FdO wsX8_back RX8 35 RX8 TX8 34 8 23 := ⟨by decide +kernel, rfl, by decide, by decide +kernel⟩
theorem fd_X8_back_38 : FdO wsX8_back RX8 38 RX8 TX8 34 8 24 := ⟨by decide +kernel, rfl, by decide, by decide +kernel⟩
theorem fd_X8_back_183 : FdO wsX8_back RX8 183 RX8 TX8 34 8 22 := ⟨by decide +kernel, rfl, by decide, by decide +kernel⟩
theorem cw_X8_back_X8_in : CwO rm_X8_back yX8_in wsX8_in cX8_in 3 (some .boolean) rm_X8_in 3 := ⟨⟨_, rfl⟩, rfl, rfl, by decide +kernel, by decide, by decide⟩
set_option maxRecDepth 20000 in
theorem f_X8_back_b26_ok {X : Cx} {G : Gx} {z : Rs} (h41 : 41 ≤ gN G) (O : Ok X G cX8_back RX8 3 wsX8_back (some .int) rm_X8_back) (N : Nat) (k26 : Int32 → Int32 → Hp → Option Rs) (hk26 : ∀ (v1 : Int32) (v2 : Int32) (h : Hp), k26 v1 v2 h = some z → V X G 3 (QI X G z) h 26 [(0, .ref (G.1 25)), (1, .int v1), (2, .int v2)] []) (v1 : Int32) (v2 : Int32) (h : Hp) (e : f_X8_back_b26 N k26 v1 v2 h = some z) : V X G 3 (QI X G z) h 26 [(0, .ref (G.1 25)), (1, .int v1), (2, .int v2)] [] := by
  unfold f_X8_back_b26 at e
  refine v_iload_n O dX8_back_26 2 rfl rfl ?_
  refine v_iconst (v := 4) O dX8_back_27 (by decide) ?_
  refine v_icmp_ge O dX8_back_28 53 (by decide) e (fun e => ?_) (fun e => ?_)
  · refine v_aload_n O dX8_back_53 0 rfl rfl ?_
    refine v_aload_n O dX8_back_54 0 rfl rfl ?_
    refine v_get O fd_X8_back_35 (g41 h41 (by decide)) (cg_25 G _) rfl dX8_back_55 ?_
    refine v_iconst (v := 5) O dX8_back_58 (by decide) ?_
    refine v_iload_n O dX8_back_59 1 rfl rfl ?_
    refine v_imul O dX8_back_60 ?_
    refine v_iconst (v := 4) O dX8_back_61 (by decide) ?_
    refine v_iadd O dX8_back_62 ?_
    refine v_iald O (g41 h41 (by decide)) (cg_32 G _) dX8_back_63 e (fun e => ?_)
    refine v_put O fd_X8_back_183 fp_X8_22 (g41 h41 (by decide)) (cg_25 G _) (Nat.le_of_ble_eq_true rfl) (cs_25_22 G _ _) dX8_back_64 e (fun h1 e => ?_)
    refine v_aload_n O dX8_back_67 0 rfl rfl ?_
    refine v_get O fd_X8_back_183 (g41 h41 (by decide)) (cg_25 G _) rfl dX8_back_68 ?_
    exact v_iret O dX8_back_71 e
  · refine v_aload_n O dX8_back_31 0 rfl rfl ?_
    refine v_get O fd_X8_back_32 (g41 h41 (by decide)) (cg_25 G _) rfl dX8_back_32 ?_
    refine v_iload_n O dX8_back_35 2 rfl rfl ?_
    refine v_aload_n O dX8_back_36 0 rfl rfl ?_
    refine v_get O fd_X8_back_35 (g41 h41 (by decide)) (cg_25 G _) rfl dX8_back_37 ?_
    refine v_iconst (v := 5) O dX8_back_40 (by decide) ?_
    refine v_iload_n O dX8_back_41 1 rfl rfl ?_
    refine v_imul O dX8_back_42 ?_
    refine v_iload_n O dX8_back_43 2 rfl rfl ?_
    refine v_iadd O dX8_back_44 ?_
    refine v_iald O (g41 h41 (by decide)) (cg_32 G _) dX8_back_45 e (fun e => ?_)
    refine v_iast O (g41 h41 (by decide)) (cg_31 G _) (cw_31 G _ _ _) dX8_back_46 e (fun h2 e => ?_)
    refine v_iinc (v := 1) O dX8_back_47 2 rfl (by decide) (by decide) (fun x3 => [(2, .int x3), (0, .ref (G.1 25)), (1, .int v1)]) (fun _ => rfl) e (fun x3 e => ?_)
    refine v_goto O dX8_back_50 26 (by decide) ?_
    refine v_sub [1, 2, 0] rfl ?_
    exact hk26 _ _ _ e
theorem f_X8_back_l26_ok {X : Cx} {G : Gx} {z : Rs} (h41 : 41 ≤ gN G) (O : Ok X G cX8_back RX8 3 wsX8_back (some .int) rm_X8_back) (N : Nat) : ∀ (n : Nat) (v1 : Int32) (v2 : Int32) (h : Hp), f_X8_back_l26 N n v1 v2 h = some z → V X G 3 (QI X G z) h 26 [(0, .ref (G.1 25)), (1, .int v1), (2, .int v2)] [] := by
  intro n
  induction n with
  | zero => intro v1 v2 h e; cases e
  | succ n ih => intro v1 v2 h e; exact f_X8_back_b26_ok h41 O N _ ih v1 v2 h e
set_option maxRecDepth 20000 in
theorem f_X8_back_ok {l : Launch} {G : Gx} {N : Nat} (h41 : 41 ≤ gN G) {a0 : Int32} {h : Hp} {z : Rs} (e : f_X8_back N a0 h = some z) : CI l G yX8_back wsX8_back rm_X8_back [.ref (G.1 25), .int a0] h z := by
  refine m_int _ (by decide) rfl [(0, .ref (G.1 25)), (1, .int a0)] rfl (Nat.le_of_ble_eq_true rfl) (fun X O => ?_)
  unfold f_X8_back at e
  refine v_iload_n O dX8_back_0 1 rfl rfl ?_
  refine v_iconst (v := 0) O dX8_back_1 (by decide) ?_
  refine v_iconst (v := 1) O dX8_back_2 (by decide) ?_
  refine v_cSi O [.int a0, .int 0, .int 1] [] gX8_back_X8_in cw_X8_back_X8_in rfl rfl (Nat.le_of_ble_eq_true rfl) dX8_back_3 e (fun _ e9 => f_X8_in_ok e9) (fun r1 h2 e => ?_)
  refine v_if_ne O dX8_back_6 12 (by decide) e (fun e => ?_) (fun e => ?_)
  · refine v_aload_n O dX8_back_12 0 rfl rfl ?_
    refine v_get O fd_X8_back_38 (g41 h41 (by decide)) (cg_25 G _) rfl dX8_back_13 ?_
    refine v_iload_n O dX8_back_16 1 rfl rfl ?_
    refine v_zald O (g41 h41 (by decide)) (cg_33 G _) dX8_back_17 e (fun e => ?_)
    refine v_if_ne O dX8_back_18 24 (by decide) e (fun e => ?_) (fun e => ?_)
    · refine v_iconst (v := 0) O dX8_back_24 (by decide) ?_
      refine v_istore_n O dX8_back_25 rfl (by decide) (fun x3 => [(2, .int x3), (0, .ref (G.1 25)), (1, .int a0)]) (fun _ => rfl) e (fun x3 e => ?_)
      refine v_sub [1, 2, 0] rfl ?_
      exact f_X8_back_l26_ok h41 O N N _ _ _ e
    · refine v_bipush (v := (-4)) O dX8_back_21 (by decide) ?_
      exact v_iret O dX8_back_23 e
  · refine v_bipush (v := (-2)) O dX8_back_9 (by decide) ?_
    exact v_iret O dX8_back_11 e
