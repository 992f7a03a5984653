/-! ===== X8 turned ===== -/
abbrev rm_X8_turned : Room := { frames := 7, cells := 0, slots := 0, locals := 181 }
theorem fd_X8_turned_16 : FdO wsX8_turned RX8 16 RX8 TX8 34 8 5 := ⟨by decide +kernel, rfl, by decide, by decide +kernel⟩
theorem fd_X8_turned_32 : FdO wsX8_turned RX8 32 RX8 TX8 34 8 21 := ⟨by decide +kernel, rfl, by decide, by decide +kernel⟩
theorem fd_X8_turned_61 : FdO wsX8_turned RX8 61 RX8 TX8 34 8 33 := ⟨by decide +kernel, rfl, by decide, by decide +kernel⟩
theorem fd_X8_turned_68 : FdO wsX8_turned RX8 68 RX8 TX8 34 8 4 := ⟨by decide +kernel, rfl, by decide, by decide +kernel⟩
theorem cw_X8_turned_X8_has : CwO rm_X8_turned yX8_has wsX8_has cX8_has 2 (some .boolean) rm_X8_has 2 := ⟨⟨_, rfl⟩, rfl, rfl, by decide +kernel, by decide, by decide⟩
theorem cw_X8_turned_X8_in : CwO rm_X8_turned yX8_in wsX8_in cX8_in 3 (some .boolean) rm_X8_in 3 := ⟨⟨_, rfl⟩, rfl, rfl, by decide +kernel, by decide, by decide⟩
theorem cw_X8_turned_X8_layRing : CwO rm_X8_turned yX8_layRing wsX8_layRing cX8_layRing 5 (some .int) rm_X8_layRing 2 := ⟨⟨_, rfl⟩, rfl, rfl, by decide +kernel, by decide, by decide⟩
theorem cw_X8_turned_X8_partOf : CwO rm_X8_turned yX8_partOf wsX8_partOf cX8_partOf 6 (some .int) rm_X8_partOf 2 := ⟨⟨_, rfl⟩, rfl, rfl, by decide +kernel, by decide, by decide⟩
theorem cw_X8_turned_X8_shapeOf : CwO rm_X8_turned yX8_shapeOf wsX8_shapeOf cX8_shapeOf 11 (some .int) rm_X8_shapeOf 2 := ⟨⟨_, rfl⟩, rfl, rfl, by decide +kernel, by decide, by decide⟩
set_option maxRecDepth 20000 in
theorem f_X8_turned_b34_ok {X : Cx} {G : Gx} {z : Rs} (h41 : 41 ≤ gN G) (O : Ok X G cX8_turned RX8 12 wsX8_turned (some .int) rm_X8_turned) (N : Nat) (h : Hp) (e : f_X8_turned_b34 N h = some z) : V X G 12 (QI X G z) h 34 [] [] := by
  unfold f_X8_turned_b34 at e
  refine v_bipush (v := (-4)) O dX8_turned_34 (by decide) ?_
  exact v_iret O dX8_turned_36 e
set_option maxRecDepth 20000 in
theorem f_X8_turned_b117_ok {X : Cx} {G : Gx} {z : Rs} (h41 : 41 ≤ gN G) (O : Ok X G cX8_turned RX8 12 wsX8_turned (some .int) rm_X8_turned) (N : Nat) (k54 : Int32 → Int32 → Int32 → Int32 → Hp → Option Rs) (hk54 : ∀ (v1 : Int32) (v2 : Int32) (v3 : Int32) (v4 : Int32) (h : Hp), k54 v1 v2 v3 v4 h = some z → V X G 12 (QI X G z) h 54 [(0, .ref (G.1 25)), (1, .int v1), (2, .int v2), (3, .int v3), (4, .int v4)] []) (v1 : Int32) (v2 : Int32) (v4 : Int32) (s0 : Int32) (h : Hp) (e : f_X8_turned_b117 N k54 v1 v2 v4 s0 h = some z) : V X G 12 (QI X G z) h 117 [(0, .ref (G.1 25)), (1, .int v1), (2, .int v2), (4, .int v4)] [.int s0] := by
  unfold f_X8_turned_b117 at e
  refine v_istore_n O dX8_turned_117 rfl (by decide) (fun x1 => [(3, .int x1), (0, .ref (G.1 25)), (1, .int v1), (2, .int v2), (4, .int v4)]) (fun _ => rfl) e (fun x1 e => ?_)
  refine v_iinc (v := 1) O dX8_turned_118 4 rfl (by decide) (by decide) (fun x2 => [(4, .int x2), (3, .int x1), (0, .ref (G.1 25)), (1, .int v1), (2, .int v2)]) (fun _ => rfl) e (fun x2 e => ?_)
  refine v_goto O dX8_turned_121 54 (by decide) ?_
  refine v_sub [2, 3, 4, 1, 0] rfl ?_
  exact hk54 _ _ _ _ _ e
set_option maxRecDepth 20000 in
theorem f_X8_turned_b116_ok {X : Cx} {G : Gx} {z : Rs} (h41 : 41 ≤ gN G) (O : Ok X G cX8_turned RX8 12 wsX8_turned (some .int) rm_X8_turned) (N : Nat) (k54 : Int32 → Int32 → Int32 → Int32 → Hp → Option Rs) (hk54 : ∀ (v1 : Int32) (v2 : Int32) (v3 : Int32) (v4 : Int32) (h : Hp), k54 v1 v2 v3 v4 h = some z → V X G 12 (QI X G z) h 54 [(0, .ref (G.1 25)), (1, .int v1), (2, .int v2), (3, .int v3), (4, .int v4)] []) (v1 : Int32) (v2 : Int32) (v4 : Int32) (h : Hp) (e : f_X8_turned_b116 N k54 v1 v2 v4 h = some z) : V X G 12 (QI X G z) h 116 [(0, .ref (G.1 25)), (1, .int v1), (2, .int v2), (4, .int v4)] [] := by
  unfold f_X8_turned_b116 at e
  refine v_iconst (v := 0) O dX8_turned_116 (by decide) ?_
  exact f_X8_turned_b117_ok h41 O N k54 hk54 _ _ _ _ _ e
set_option maxRecDepth 20000 in
theorem f_X8_turned_b180_ok {X : Cx} {G : Gx} {z : Rs} (h41 : 41 ≤ gN G) (O : Ok X G cX8_turned RX8 12 wsX8_turned (some .int) rm_X8_turned) (N : Nat) (k150 : Int32 → Int32 → Int32 → Hp → Option Rs) (hk150 : ∀ (v4 : Int32) (v5 : Int32) (v6 : Int32) (h : Hp), k150 v4 v5 v6 h = some z → V X G 12 (QI X G z) h 150 [(0, .ref (G.1 25)), (4, .int v4), (5, .int v5), (6, .int v6)] []) (v4 : Int32) (v6 : Int32) (s0 : Int32) (h : Hp) (e : f_X8_turned_b180 N k150 v4 v6 s0 h = some z) : V X G 12 (QI X G z) h 180 [(0, .ref (G.1 25)), (4, .int v4), (6, .int v6)] [.int s0] := by
  unfold f_X8_turned_b180 at e
  refine v_istore O dX8_turned_180 (by decide) (fun x1 => [(5, .int x1), (0, .ref (G.1 25)), (4, .int v4), (6, .int v6)]) (fun _ => rfl) e (fun x1 e => ?_)
  refine v_iinc (v := 1) O dX8_turned_182 3 rfl (by decide) (by decide) (fun x2 => [(6, .int x2), (5, .int x1), (0, .ref (G.1 25)), (4, .int v4)]) (fun _ => rfl) e (fun x2 e => ?_)
  refine v_goto O dX8_turned_185 150 (by decide) ?_
  refine v_sub [2, 3, 1, 0] rfl ?_
  exact hk150 _ _ _ _ e
set_option maxRecDepth 20000 in
theorem f_X8_turned_b280_ok {X : Cx} {G : Gx} {z : Rs} (h41 : 41 ≤ gN G) (O : Ok X G cX8_turned RX8 12 wsX8_turned (some .int) rm_X8_turned) (N : Nat) (k197 : Int32 → Int32 → Int32 → Int32 → Int32 → Hp → Option Rs) (k207 : Int32 → Int32 → Int32 → Int32 → Int32 → Int32 → Hp → Option Rs) (k239 : Int32 → Int32 → Int32 → Int32 → Int32 → Int32 → Int32 → Int32 → Hp → Option Rs) (hk197 : ∀ (v4 : Int32) (v5 : Int32) (v6 : Int32) (v7 : Int32) (v8 : Int32) (h : Hp), k197 v4 v5 v6 v7 v8 h = some z → V X G 12 (QI X G z) h 197 [(0, .ref (G.1 25)), (4, .int v4), (5, .int v5), (6, .int v6), (7, .int v7), (8, .int v8)] []) (hk207 : ∀ (v4 : Int32) (v5 : Int32) (v6 : Int32) (v7 : Int32) (v8 : Int32) (v9 : Int32) (h : Hp), k207 v4 v5 v6 v7 v8 v9 h = some z → V X G 12 (QI X G z) h 207 [(0, .ref (G.1 25)), (4, .int v4), (5, .int v5), (6, .int v6), (7, .int v7), (8, .int v8), (9, .int v9)] []) (hk239 : ∀ (v4 : Int32) (v5 : Int32) (v6 : Int32) (v7 : Int32) (v8 : Int32) (v9 : Int32) (v10 : Int32) (v11 : Int32) (h : Hp), k239 v4 v5 v6 v7 v8 v9 v10 v11 h = some z → V X G 12 (QI X G z) h 239 [(0, .ref (G.1 25)), (4, .int v4), (5, .int v5), (6, .int v6), (7, .int v7), (8, .int v8), (9, .int v9), (10, .int v10), (11, .int v11)] []) (v4 : Int32) (v5 : Int32) (v6 : Int32) (v7 : Int32) (v8 : Int32) (v9 : Int32) (v11 : Int32) (s0 : Int32) (h : Hp) (e : f_X8_turned_b280 N k197 k207 k239 v4 v5 v6 v7 v8 v9 v11 s0 h = some z) : V X G 12 (QI X G z) h 280 [(0, .ref (G.1 25)), (4, .int v4), (5, .int v5), (6, .int v6), (7, .int v7), (8, .int v8), (9, .int v9), (11, .int v11)] [.int s0] := by
  unfold f_X8_turned_b280 at e
  refine v_istore O dX8_turned_280 (by decide) (fun x1 => [(10, .int x1), (0, .ref (G.1 25)), (4, .int v4), (5, .int v5), (6, .int v6), (7, .int v7), (8, .int v8), (9, .int v9), (11, .int v11)]) (fun _ => rfl) e (fun x1 e => ?_)
  refine v_iinc (v := 1) O dX8_turned_282 8 rfl (by decide) (by decide) (fun x2 => [(11, .int x2), (10, .int x1), (0, .ref (G.1 25)), (4, .int v4), (5, .int v5), (6, .int v6), (7, .int v7), (8, .int v8), (9, .int v9)]) (fun _ => rfl) e (fun x2 e => ?_)
  refine v_goto O dX8_turned_285 239 (by decide) ?_
  refine v_sub [2, 3, 4, 5, 6, 7, 8, 1, 0] rfl ?_
  exact hk239 _ _ _ _ _ _ _ _ _ e
set_option maxRecDepth 20000 in
theorem f_X8_turned_b311_ok {X : Cx} {G : Gx} {z : Rs} (h41 : 41 ≤ gN G) (O : Ok X G cX8_turned RX8 12 wsX8_turned (some .int) rm_X8_turned) (N : Nat) (k197 : Int32 → Int32 → Int32 → Int32 → Int32 → Hp → Option Rs) (k207 : Int32 → Int32 → Int32 → Int32 → Int32 → Int32 → Hp → Option Rs) (hk197 : ∀ (v4 : Int32) (v5 : Int32) (v6 : Int32) (v7 : Int32) (v8 : Int32) (h : Hp), k197 v4 v5 v6 v7 v8 h = some z → V X G 12 (QI X G z) h 197 [(0, .ref (G.1 25)), (4, .int v4), (5, .int v5), (6, .int v6), (7, .int v7), (8, .int v8)] []) (hk207 : ∀ (v4 : Int32) (v5 : Int32) (v6 : Int32) (v7 : Int32) (v8 : Int32) (v9 : Int32) (h : Hp), k207 v4 v5 v6 v7 v8 v9 h = some z → V X G 12 (QI X G z) h 207 [(0, .ref (G.1 25)), (4, .int v4), (5, .int v5), (6, .int v6), (7, .int v7), (8, .int v8), (9, .int v9)] []) (v4 : Int32) (v5 : Int32) (v6 : Int32) (v7 : Int32) (v8 : Int32) (v9 : Int32) (h : Hp) (e : f_X8_turned_b311 N k197 k207 v4 v5 v6 v7 v8 v9 h = some z) : V X G 12 (QI X G z) h 311 [(0, .ref (G.1 25)), (4, .int v4), (5, .int v5), (6, .int v6), (7, .int v7), (8, .int v8), (9, .int v9)] [] := by
  unfold f_X8_turned_b311 at e
  refine v_iinc (v := 1) O dX8_turned_311 6 rfl (by decide) (by decide) (fun x1 => [(9, .int x1), (0, .ref (G.1 25)), (4, .int v4), (5, .int v5), (6, .int v6), (7, .int v7), (8, .int v8)]) (fun _ => rfl) e (fun x1 e => ?_)
  refine v_goto O dX8_turned_314 207 (by decide) ?_
  refine v_sub [1, 2, 3, 4, 5, 6, 0] rfl ?_
  exact hk207 _ _ _ _ _ _ _ e
set_option maxRecDepth 20000 in
theorem f_X8_turned_b305_ok {X : Cx} {G : Gx} {z : Rs} (h41 : 41 ≤ gN G) (O : Ok X G cX8_turned RX8 12 wsX8_turned (some .int) rm_X8_turned) (N : Nat) (k197 : Int32 → Int32 → Int32 → Int32 → Int32 → Hp → Option Rs) (k207 : Int32 → Int32 → Int32 → Int32 → Int32 → Int32 → Hp → Option Rs) (hk197 : ∀ (v4 : Int32) (v5 : Int32) (v6 : Int32) (v7 : Int32) (v8 : Int32) (h : Hp), k197 v4 v5 v6 v7 v8 h = some z → V X G 12 (QI X G z) h 197 [(0, .ref (G.1 25)), (4, .int v4), (5, .int v5), (6, .int v6), (7, .int v7), (8, .int v8)] []) (hk207 : ∀ (v4 : Int32) (v5 : Int32) (v6 : Int32) (v7 : Int32) (v8 : Int32) (v9 : Int32) (h : Hp), k207 v4 v5 v6 v7 v8 v9 h = some z → V X G 12 (QI X G z) h 207 [(0, .ref (G.1 25)), (4, .int v4), (5, .int v5), (6, .int v6), (7, .int v7), (8, .int v8), (9, .int v9)] []) (v4 : Int32) (v5 : Int32) (v8 : Int32) (v9 : Int32) (v10 : Int32) (s0 : Int32) (h : Hp) (e : f_X8_turned_b305 N k197 k207 v4 v5 v8 v9 v10 s0 h = some z) : V X G 12 (QI X G z) h 305 [(0, .ref (G.1 25)), (4, .int v4), (5, .int v5), (8, .int v8), (9, .int v9), (10, .int v10)] [.int s0] := by
  unfold f_X8_turned_b305 at e
  refine v_istore O dX8_turned_305 (by decide) (fun x1 => [(7, .int x1), (0, .ref (G.1 25)), (4, .int v4), (5, .int v5), (8, .int v8), (9, .int v9), (10, .int v10)]) (fun _ => rfl) e (fun x1 e => ?_)
  refine v_iload O dX8_turned_307 6 rfl ?_
  refine v_istore O dX8_turned_309 (by decide) (fun x2 => [(6, .int x2), (7, .int x1), (0, .ref (G.1 25)), (4, .int v4), (5, .int v5), (8, .int v8), (9, .int v9), (10, .int v10)]) (fun _ => rfl) e (fun x2 e => ?_)
  refine v_sub [2, 3, 4, 0, 1, 5, 6] rfl ?_
  exact f_X8_turned_b311_ok h41 O N k197 k207 hk197 hk207 _ _ _ _ _ _ _ e
set_option maxRecDepth 20000 in
theorem f_X8_turned_b304_ok {X : Cx} {G : Gx} {z : Rs} (h41 : 41 ≤ gN G) (O : Ok X G cX8_turned RX8 12 wsX8_turned (some .int) rm_X8_turned) (N : Nat) (k197 : Int32 → Int32 → Int32 → Int32 → Int32 → Hp → Option Rs) (k207 : Int32 → Int32 → Int32 → Int32 → Int32 → Int32 → Hp → Option Rs) (hk197 : ∀ (v4 : Int32) (v5 : Int32) (v6 : Int32) (v7 : Int32) (v8 : Int32) (h : Hp), k197 v4 v5 v6 v7 v8 h = some z → V X G 12 (QI X G z) h 197 [(0, .ref (G.1 25)), (4, .int v4), (5, .int v5), (6, .int v6), (7, .int v7), (8, .int v8)] []) (hk207 : ∀ (v4 : Int32) (v5 : Int32) (v6 : Int32) (v7 : Int32) (v8 : Int32) (v9 : Int32) (h : Hp), k207 v4 v5 v6 v7 v8 v9 h = some z → V X G 12 (QI X G z) h 207 [(0, .ref (G.1 25)), (4, .int v4), (5, .int v5), (6, .int v6), (7, .int v7), (8, .int v8), (9, .int v9)] []) (v4 : Int32) (v5 : Int32) (v8 : Int32) (v9 : Int32) (v10 : Int32) (h : Hp) (e : f_X8_turned_b304 N k197 k207 v4 v5 v8 v9 v10 h = some z) : V X G 12 (QI X G z) h 304 [(0, .ref (G.1 25)), (4, .int v4), (5, .int v5), (8, .int v8), (9, .int v9), (10, .int v10)] [] := by
  unfold f_X8_turned_b304 at e
  refine v_iconst (v := 0) O dX8_turned_304 (by decide) ?_
  exact f_X8_turned_b305_ok h41 O N k197 k207 hk197 hk207 _ _ _ _ _ _ _ e
set_option maxRecDepth 20000 in
theorem f_X8_turned_b239_ok {X : Cx} {G : Gx} {z : Rs} (h41 : 41 ≤ gN G) (O : Ok X G cX8_turned RX8 12 wsX8_turned (some .int) rm_X8_turned) (N : Nat) (k197 : Int32 → Int32 → Int32 → Int32 → Int32 → Hp → Option Rs) (k207 : Int32 → Int32 → Int32 → Int32 → Int32 → Int32 → Hp → Option Rs) (k239 : Int32 → Int32 → Int32 → Int32 → Int32 → Int32 → Int32 → Int32 → Hp → Option Rs) (hk197 : ∀ (v4 : Int32) (v5 : Int32) (v6 : Int32) (v7 : Int32) (v8 : Int32) (h : Hp), k197 v4 v5 v6 v7 v8 h = some z → V X G 12 (QI X G z) h 197 [(0, .ref (G.1 25)), (4, .int v4), (5, .int v5), (6, .int v6), (7, .int v7), (8, .int v8)] []) (hk207 : ∀ (v4 : Int32) (v5 : Int32) (v6 : Int32) (v7 : Int32) (v8 : Int32) (v9 : Int32) (h : Hp), k207 v4 v5 v6 v7 v8 v9 h = some z → V X G 12 (QI X G z) h 207 [(0, .ref (G.1 25)), (4, .int v4), (5, .int v5), (6, .int v6), (7, .int v7), (8, .int v8), (9, .int v9)] []) (hk239 : ∀ (v4 : Int32) (v5 : Int32) (v6 : Int32) (v7 : Int32) (v8 : Int32) (v9 : Int32) (v10 : Int32) (v11 : Int32) (h : Hp), k239 v4 v5 v6 v7 v8 v9 v10 v11 h = some z → V X G 12 (QI X G z) h 239 [(0, .ref (G.1 25)), (4, .int v4), (5, .int v5), (6, .int v6), (7, .int v7), (8, .int v8), (9, .int v9), (10, .int v10), (11, .int v11)] []) (v4 : Int32) (v5 : Int32) (v6 : Int32) (v7 : Int32) (v8 : Int32) (v9 : Int32) (v10 : Int32) (v11 : Int32) (h : Hp) (e : f_X8_turned_b239 N k197 k207 k239 v4 v5 v6 v7 v8 v9 v10 v11 h = some z) : V X G 12 (QI X G z) h 239 [(0, .ref (G.1 25)), (4, .int v4), (5, .int v5), (6, .int v6), (7, .int v7), (8, .int v8), (9, .int v9), (10, .int v10), (11, .int v11)] [] := by
  unfold f_X8_turned_b239 at e
  refine v_iload O dX8_turned_239 8 rfl ?_
  refine v_iload O dX8_turned_241 1 rfl ?_
  refine v_icmp_ge O dX8_turned_243 288 (by decide) e (fun e => ?_) (fun e => ?_)
  · refine v_iload O dX8_turned_288 4 rfl ?_
    refine v_if_eq O dX8_turned_290 304 (by decide) e (fun e => ?_) (fun e => ?_)
    · refine v_sub [0, 1, 2, 5, 6, 7] rfl ?_
      exact f_X8_turned_b304_ok h41 O N k197 k207 hk197 hk207 _ _ _ _ _ _ e
    · refine v_iload O dX8_turned_293 7 rfl ?_
      refine v_iload O dX8_turned_295 3 rfl ?_
      refine v_icmp_le O dX8_turned_297 304 (by decide) e (fun e => ?_) (fun e => ?_)
      · refine v_sub [0, 1, 2, 5, 6, 7] rfl ?_
        exact f_X8_turned_b304_ok h41 O N k197 k207 hk197 hk207 _ _ _ _ _ _ e
      · refine v_iconst (v := 1) O dX8_turned_300 (by decide) ?_
        refine v_goto O dX8_turned_301 305 (by decide) ?_
        refine v_sub [0, 1, 2, 5, 6, 7] rfl ?_
        exact f_X8_turned_b305_ok h41 O N k197 k207 hk197 hk207 _ _ _ _ _ _ _ e
  · refine v_aload_n O dX8_turned_246 0 rfl rfl ?_
    refine v_get O fd_X8_turned_61 (g41 h41 (by decide)) (cg_25 G _) rfl dX8_turned_247 ?_
    refine v_iload O dX8_turned_250 2 rfl ?_
    refine v_iload O dX8_turned_252 8 rfl ?_
    refine v_iadd O dX8_turned_254 ?_
    refine v_iload O dX8_turned_255 1 rfl ?_
    refine v_irem O dX8_turned_257 e (fun e => ?_)
    refine v_iald O (g41 h41 (by decide)) (cg_40 G _) dX8_turned_258 e (fun e => ?_)
    refine v_aload_n O dX8_turned_259 0 rfl rfl ?_
    refine v_get O fd_X8_turned_16 (g41 h41 (by decide)) (cg_25 G _) rfl dX8_turned_260 ?_
    refine v_iconst (v := 4) O dX8_turned_263 (by decide) ?_
    refine v_iload O dX8_turned_264 6 rfl ?_
    refine v_imul O dX8_turned_266 ?_
    refine v_iconst (v := 3) O dX8_turned_267 (by decide) ?_
    refine v_iadd O dX8_turned_268 ?_
    refine v_iald O (g41 h41 (by decide)) (cg_26 G _) dX8_turned_269 e (fun e => ?_)
    refine v_icmp_ne O dX8_turned_270 278 (by decide) e (fun e => ?_) (fun e => ?_)
    · refine v_iload O dX8_turned_278 7 rfl ?_
      refine v_sub [0, 1, 2, 3, 4, 5, 6, 8] rfl ?_
      exact f_X8_turned_b280_ok h41 O N k197 k207 k239 hk197 hk207 hk239 _ _ _ _ _ _ _ _ _ e
    · refine v_iload O dX8_turned_273 8 rfl ?_
      refine v_goto O dX8_turned_275 280 (by decide) ?_
      refine v_sub [0, 1, 2, 3, 4, 5, 6, 8] rfl ?_
      exact f_X8_turned_b280_ok h41 O N k197 k207 k239 hk197 hk207 hk239 _ _ _ _ _ _ _ _ _ e
theorem f_X8_turned_l239_ok {X : Cx} {G : Gx} {z : Rs} (h41 : 41 ≤ gN G) (O : Ok X G cX8_turned RX8 12 wsX8_turned (some .int) rm_X8_turned) (N : Nat) (k197 : Int32 → Int32 → Int32 → Int32 → Int32 → Hp → Option Rs) (k207 : Int32 → Int32 → Int32 → Int32 → Int32 → Int32 → Hp → Option Rs) (hk197 : ∀ (v4 : Int32) (v5 : Int32) (v6 : Int32) (v7 : Int32) (v8 : Int32) (h : Hp), k197 v4 v5 v6 v7 v8 h = some z → V X G 12 (QI X G z) h 197 [(0, .ref (G.1 25)), (4, .int v4), (5, .int v5), (6, .int v6), (7, .int v7), (8, .int v8)] []) (hk207 : ∀ (v4 : Int32) (v5 : Int32) (v6 : Int32) (v7 : Int32) (v8 : Int32) (v9 : Int32) (h : Hp), k207 v4 v5 v6 v7 v8 v9 h = some z → V X G 12 (QI X G z) h 207 [(0, .ref (G.1 25)), (4, .int v4), (5, .int v5), (6, .int v6), (7, .int v7), (8, .int v8), (9, .int v9)] []) : ∀ (n : Nat) (v4 : Int32) (v5 : Int32) (v6 : Int32) (v7 : Int32) (v8 : Int32) (v9 : Int32) (v10 : Int32) (v11 : Int32) (h : Hp), f_X8_turned_l239 N k197 k207 n v4 v5 v6 v7 v8 v9 v10 v11 h = some z → V X G 12 (QI X G z) h 239 [(0, .ref (G.1 25)), (4, .int v4), (5, .int v5), (6, .int v6), (7, .int v7), (8, .int v8), (9, .int v9), (10, .int v10), (11, .int v11)] [] := by
  intro n
  induction n with
  | zero => intro v4 v5 v6 v7 v8 v9 v10 v11 h e; cases e
  | succ n ih => intro v4 v5 v6 v7 v8 v9 v10 v11 h e; exact f_X8_turned_b239_ok h41 O N k197 k207 _ hk197 hk207 ih v4 v5 v6 v7 v8 v9 v10 v11 h e
set_option maxRecDepth 20000 in
theorem f_X8_turned_b207_ok {X : Cx} {G : Gx} {z : Rs} (h41 : 41 ≤ gN G) (O : Ok X G cX8_turned RX8 12 wsX8_turned (some .int) rm_X8_turned) (N : Nat) (k197 : Int32 → Int32 → Int32 → Int32 → Int32 → Hp → Option Rs) (k207 : Int32 → Int32 → Int32 → Int32 → Int32 → Int32 → Hp → Option Rs) (hk197 : ∀ (v4 : Int32) (v5 : Int32) (v6 : Int32) (v7 : Int32) (v8 : Int32) (h : Hp), k197 v4 v5 v6 v7 v8 h = some z → V X G 12 (QI X G z) h 197 [(0, .ref (G.1 25)), (4, .int v4), (5, .int v5), (6, .int v6), (7, .int v7), (8, .int v8)] []) (hk207 : ∀ (v4 : Int32) (v5 : Int32) (v6 : Int32) (v7 : Int32) (v8 : Int32) (v9 : Int32) (h : Hp), k207 v4 v5 v6 v7 v8 v9 h = some z → V X G 12 (QI X G z) h 207 [(0, .ref (G.1 25)), (4, .int v4), (5, .int v5), (6, .int v6), (7, .int v7), (8, .int v8), (9, .int v9)] []) (v4 : Int32) (v5 : Int32) (v6 : Int32) (v7 : Int32) (v8 : Int32) (v9 : Int32) (h : Hp) (e : f_X8_turned_b207 N k197 k207 v4 v5 v6 v7 v8 v9 h = some z) : V X G 12 (QI X G z) h 207 [(0, .ref (G.1 25)), (4, .int v4), (5, .int v5), (6, .int v6), (7, .int v7), (8, .int v8), (9, .int v9)] [] := by
  unfold f_X8_turned_b207 at e
  refine v_iload O dX8_turned_207 6 rfl ?_
  refine v_aload_n O dX8_turned_209 0 rfl rfl ?_
  refine v_get O fd_X8_turned_68 (g41 h41 (by decide)) (cg_25 G _) rfl dX8_turned_210 ?_
  refine v_icmp_ge O dX8_turned_213 317 (by decide) e (fun e => ?_) (fun e => ?_)
  · refine v_iinc (v := 1) O dX8_turned_317 5 rfl (by decide) (by decide) (fun x1 => [(8, .int x1), (0, .ref (G.1 25)), (4, .int v4), (5, .int v5), (6, .int v6), (7, .int v7), (9, .int v9)]) (fun _ => rfl) e (fun x1 e => ?_)
    refine v_goto O dX8_turned_320 197 (by decide) ?_
    refine v_sub [1, 2, 3, 4, 5, 0] rfl ?_
    exact hk197 _ _ _ _ _ _ e
  · refine v_aload_n O dX8_turned_216 0 rfl rfl ?_
    refine v_get O fd_X8_turned_32 (g41 h41 (by decide)) (cg_25 G _) rfl dX8_turned_217 ?_
    refine v_iload O dX8_turned_220 6 rfl ?_
    refine v_iald O (g41 h41 (by decide)) (cg_31 G _) dX8_turned_222 e (fun e => ?_)
    refine v_aload_n O dX8_turned_223 0 rfl rfl ?_
    refine v_get O fd_X8_turned_61 (g41 h41 (by decide)) (cg_25 G _) rfl dX8_turned_224 ?_
    refine v_iload O dX8_turned_227 5 rfl ?_
    refine v_iald O (g41 h41 (by decide)) (cg_40 G _) dX8_turned_229 e (fun e => ?_)
    refine v_icmp_ne O dX8_turned_230 311 (by decide) e (fun e => ?_) (fun e => ?_)
    · exact f_X8_turned_b311_ok h41 O N k197 k207 hk197 hk207 _ _ _ _ _ _ _ e
    · refine v_iconst (v := 0) O dX8_turned_233 (by decide) ?_
      refine v_istore O dX8_turned_234 (by decide) (fun x2 => [(10, .int x2), (0, .ref (G.1 25)), (4, .int v4), (5, .int v5), (6, .int v6), (7, .int v7), (8, .int v8), (9, .int v9)]) (fun _ => rfl) e (fun x2 e => ?_)
      refine v_iconst (v := 0) O dX8_turned_236 (by decide) ?_
      refine v_istore O dX8_turned_237 (by decide) (fun x3 => [(11, .int x3), (10, .int x2), (0, .ref (G.1 25)), (4, .int v4), (5, .int v5), (6, .int v6), (7, .int v7), (8, .int v8), (9, .int v9)]) (fun _ => rfl) e (fun x3 e => ?_)
      refine v_sub [2, 3, 4, 5, 6, 7, 8, 1, 0] rfl ?_
      exact f_X8_turned_l239_ok h41 O N k197 k207 hk197 hk207 N _ _ _ _ _ _ _ _ _ e
theorem f_X8_turned_l207_ok {X : Cx} {G : Gx} {z : Rs} (h41 : 41 ≤ gN G) (O : Ok X G cX8_turned RX8 12 wsX8_turned (some .int) rm_X8_turned) (N : Nat) (k197 : Int32 → Int32 → Int32 → Int32 → Int32 → Hp → Option Rs) (hk197 : ∀ (v4 : Int32) (v5 : Int32) (v6 : Int32) (v7 : Int32) (v8 : Int32) (h : Hp), k197 v4 v5 v6 v7 v8 h = some z → V X G 12 (QI X G z) h 197 [(0, .ref (G.1 25)), (4, .int v4), (5, .int v5), (6, .int v6), (7, .int v7), (8, .int v8)] []) : ∀ (n : Nat) (v4 : Int32) (v5 : Int32) (v6 : Int32) (v7 : Int32) (v8 : Int32) (v9 : Int32) (h : Hp), f_X8_turned_l207 N k197 n v4 v5 v6 v7 v8 v9 h = some z → V X G 12 (QI X G z) h 207 [(0, .ref (G.1 25)), (4, .int v4), (5, .int v5), (6, .int v6), (7, .int v7), (8, .int v8), (9, .int v9)] [] := by
  intro n
  induction n with
  | zero => intro v4 v5 v6 v7 v8 v9 h e; cases e
  | succ n ih => intro v4 v5 v6 v7 v8 v9 h e; exact f_X8_turned_b207_ok h41 O N k197 _ hk197 ih v4 v5 v6 v7 v8 v9 h e
set_option maxRecDepth 20000 in
theorem f_X8_turned_b333_ok {X : Cx} {G : Gx} {z : Rs} (h41 : 41 ≤ gN G) (O : Ok X G cX8_turned RX8 12 wsX8_turned (some .int) rm_X8_turned) (N : Nat) (s0 : Int32) (h : Hp) (e : f_X8_turned_b333 N s0 h = some z) : V X G 12 (QI X G z) h 333 [] [.int s0] := by
  unfold f_X8_turned_b333 at e
  exact v_iret O dX8_turned_333 e
set_option maxRecDepth 20000 in
theorem f_X8_turned_b197_ok {X : Cx} {G : Gx} {z : Rs} (h41 : 41 ≤ gN G) (O : Ok X G cX8_turned RX8 12 wsX8_turned (some .int) rm_X8_turned) (N : Nat) (k197 : Int32 → Int32 → Int32 → Int32 → Int32 → Hp → Option Rs) (hk197 : ∀ (v4 : Int32) (v5 : Int32) (v6 : Int32) (v7 : Int32) (v8 : Int32) (h : Hp), k197 v4 v5 v6 v7 v8 h = some z → V X G 12 (QI X G z) h 197 [(0, .ref (G.1 25)), (4, .int v4), (5, .int v5), (6, .int v6), (7, .int v7), (8, .int v8)] []) (v4 : Int32) (v5 : Int32) (v6 : Int32) (v7 : Int32) (v8 : Int32) (h : Hp) (e : f_X8_turned_b197 N k197 v4 v5 v6 v7 v8 h = some z) : V X G 12 (QI X G z) h 197 [(0, .ref (G.1 25)), (4, .int v4), (5, .int v5), (6, .int v6), (7, .int v7), (8, .int v8)] [] := by
  unfold f_X8_turned_b197 at e
  refine v_iload O dX8_turned_197 5 rfl ?_
  refine v_iload O dX8_turned_199 1 rfl ?_
  refine v_icmp_ge O dX8_turned_201 323 (by decide) e (fun e => ?_) (fun e => ?_)
  · refine v_iload O dX8_turned_323 4 rfl ?_
    refine v_if_eq O dX8_turned_325 332 (by decide) e (fun e => ?_) (fun e => ?_)
    · refine v_iconst (v := 0) O dX8_turned_332 (by decide) ?_
      refine v_sub [] rfl ?_
      exact f_X8_turned_b333_ok h41 O N _ _ e
    · refine v_iconst (v := 1) O dX8_turned_328 (by decide) ?_
      refine v_goto O dX8_turned_329 333 (by decide) ?_
      refine v_sub [] rfl ?_
      exact f_X8_turned_b333_ok h41 O N _ _ e
  · refine v_iconst (v := 0) O dX8_turned_204 (by decide) ?_
    refine v_istore O dX8_turned_205 (by decide) (fun x1 => [(9, .int x1), (0, .ref (G.1 25)), (4, .int v4), (5, .int v5), (6, .int v6), (7, .int v7), (8, .int v8)]) (fun _ => rfl) e (fun x1 e => ?_)
    refine v_sub [1, 2, 3, 4, 5, 6, 0] rfl ?_
    exact f_X8_turned_l207_ok h41 O N k197 hk197 N _ _ _ _ _ _ _ e
theorem f_X8_turned_l197_ok {X : Cx} {G : Gx} {z : Rs} (h41 : 41 ≤ gN G) (O : Ok X G cX8_turned RX8 12 wsX8_turned (some .int) rm_X8_turned) (N : Nat) : ∀ (n : Nat) (v4 : Int32) (v5 : Int32) (v6 : Int32) (v7 : Int32) (v8 : Int32) (h : Hp), f_X8_turned_l197 N n v4 v5 v6 v7 v8 h = some z → V X G 12 (QI X G z) h 197 [(0, .ref (G.1 25)), (4, .int v4), (5, .int v5), (6, .int v6), (7, .int v7), (8, .int v8)] [] := by
  intro n
  induction n with
  | zero => intro v4 v5 v6 v7 v8 h e; cases e
  | succ n ih => intro v4 v5 v6 v7 v8 h e; exact f_X8_turned_b197_ok h41 O N _ ih v4 v5 v6 v7 v8 h e
set_option maxRecDepth 20000 in
theorem f_X8_turned_b150_ok {X : Cx} {G : Gx} {z : Rs} (h41 : 41 ≤ gN G) (O : Ok X G cX8_turned RX8 12 wsX8_turned (some .int) rm_X8_turned) (N : Nat) (k150 : Int32 → Int32 → Int32 → Hp → Option Rs) (hk150 : ∀ (v4 : Int32) (v5 : Int32) (v6 : Int32) (h : Hp), k150 v4 v5 v6 h = some z → V X G 12 (QI X G z) h 150 [(0, .ref (G.1 25)), (4, .int v4), (5, .int v5), (6, .int v6)] []) (v4 : Int32) (v5 : Int32) (v6 : Int32) (h : Hp) (e : f_X8_turned_b150 N k150 v4 v5 v6 h = some z) : V X G 12 (QI X G z) h 150 [(0, .ref (G.1 25)), (4, .int v4), (5, .int v5), (6, .int v6)] [] := by
  unfold f_X8_turned_b150 at e
  refine v_iload O dX8_turned_150 3 rfl ?_
  refine v_iload O dX8_turned_152 1 rfl ?_
  refine v_icmp_ge O dX8_turned_154 188 (by decide) e (fun e => ?_) (fun e => ?_)
  · refine v_iconst (v := (-1)) O dX8_turned_188 (by decide) ?_
    refine v_istore O dX8_turned_189 (by decide) (fun x1 => [(6, .int x1), (0, .ref (G.1 25)), (4, .int v4), (5, .int v5)]) (fun _ => rfl) e (fun x1 e => ?_)
    refine v_iconst (v := 1) O dX8_turned_191 (by decide) ?_
    refine v_istore O dX8_turned_192 (by decide) (fun x2 => [(7, .int x2), (6, .int x1), (0, .ref (G.1 25)), (4, .int v4), (5, .int v5)]) (fun _ => rfl) e (fun x2 e => ?_)
    refine v_iconst (v := 0) O dX8_turned_194 (by decide) ?_
    refine v_istore O dX8_turned_195 (by decide) (fun x3 => [(8, .int x3), (7, .int x2), (6, .int x1), (0, .ref (G.1 25)), (4, .int v4), (5, .int v5)]) (fun _ => rfl) e (fun x3 e => ?_)
    refine v_sub [3, 4, 5, 2, 1, 0] rfl ?_
    exact f_X8_turned_l197_ok h41 O N N _ _ _ _ _ _ e
  · refine v_aload_n O dX8_turned_157 0 rfl rfl ?_
    refine v_get O fd_X8_turned_61 (g41 h41 (by decide)) (cg_25 G _) rfl dX8_turned_158 ?_
    refine v_iload O dX8_turned_161 3 rfl ?_
    refine v_iald O (g41 h41 (by decide)) (cg_40 G _) dX8_turned_163 e (fun e => ?_)
    refine v_aload_n O dX8_turned_164 0 rfl rfl ?_
    refine v_get O fd_X8_turned_16 (g41 h41 (by decide)) (cg_25 G _) rfl dX8_turned_165 ?_
    refine v_iconst (v := 3) O dX8_turned_168 (by decide) ?_
    refine v_iald O (g41 h41 (by decide)) (cg_26 G _) dX8_turned_169 e (fun e => ?_)
    refine v_icmp_ne O dX8_turned_170 178 (by decide) e (fun e => ?_) (fun e => ?_)
    · refine v_iload O dX8_turned_178 2 rfl ?_
      refine v_sub [0, 1, 3] rfl ?_
      exact f_X8_turned_b180_ok h41 O N k150 hk150 _ _ _ _ e
    · refine v_iload O dX8_turned_173 3 rfl ?_
      refine v_goto O dX8_turned_175 180 (by decide) ?_
      refine v_sub [0, 1, 3] rfl ?_
      exact f_X8_turned_b180_ok h41 O N k150 hk150 _ _ _ _ e
theorem f_X8_turned_l150_ok {X : Cx} {G : Gx} {z : Rs} (h41 : 41 ≤ gN G) (O : Ok X G cX8_turned RX8 12 wsX8_turned (some .int) rm_X8_turned) (N : Nat) : ∀ (n : Nat) (v4 : Int32) (v5 : Int32) (v6 : Int32) (h : Hp), f_X8_turned_l150 N n v4 v5 v6 h = some z → V X G 12 (QI X G z) h 150 [(0, .ref (G.1 25)), (4, .int v4), (5, .int v5), (6, .int v6)] [] := by
  intro n
  induction n with
  | zero => intro v4 v5 v6 h e; cases e
  | succ n ih => intro v4 v5 v6 h e; exact f_X8_turned_b150_ok h41 O N _ ih v4 v5 v6 h e
set_option maxRecDepth 20000 in
theorem f_X8_turned_b54_ok {X : Cx} {G : Gx} {z : Rs} (h41 : 41 ≤ gN G) (O : Ok X G cX8_turned RX8 12 wsX8_turned (some .int) rm_X8_turned) (N : Nat) (k54 : Int32 → Int32 → Int32 → Int32 → Hp → Option Rs) (hk54 : ∀ (v1 : Int32) (v2 : Int32) (v3 : Int32) (v4 : Int32) (h : Hp), k54 v1 v2 v3 v4 h = some z → V X G 12 (QI X G z) h 54 [(0, .ref (G.1 25)), (1, .int v1), (2, .int v2), (3, .int v3), (4, .int v4)] []) (v1 : Int32) (v2 : Int32) (v3 : Int32) (v4 : Int32) (h : Hp) (e : f_X8_turned_b54 N k54 v1 v2 v3 v4 h = some z) : V X G 12 (QI X G z) h 54 [(0, .ref (G.1 25)), (1, .int v1), (2, .int v2), (3, .int v3), (4, .int v4)] [] := by
  unfold f_X8_turned_b54 at e
  refine v_iload O dX8_turned_54 4 rfl ?_
  refine v_aload_n O dX8_turned_56 0 rfl rfl ?_
  refine v_get O fd_X8_turned_68 (g41 h41 (by decide)) (cg_25 G _) rfl dX8_turned_57 ?_
  refine v_icmp_ge O dX8_turned_60 124 (by decide) e (fun e => ?_) (fun e => ?_)
  · refine v_iload_n O dX8_turned_124 3 rfl rfl ?_
    refine v_if_ne O dX8_turned_125 131 (by decide) e (fun e => ?_) (fun e => ?_)
    · refine v_aload_n O dX8_turned_131 0 rfl rfl ?_
      refine v_iload_n O dX8_turned_132 1 rfl rfl ?_
      refine v_aload_n O dX8_turned_133 0 rfl rfl ?_
      refine v_get O fd_X8_turned_32 (g41 h41 (by decide)) (cg_25 G _) rfl dX8_turned_134 ?_
      refine v_iconst (v := 0) O dX8_turned_137 (by decide) ?_
      refine v_iald O (g41 h41 (by decide)) (cg_31 G _) dX8_turned_138 e (fun e => ?_)
      refine v_cVi O [.int v1, .int (h.1 31 (ix 0))] [] gX8_turned_X8_layRing cw_X8_turned_X8_layRing rfl rfl (g41 h41 (by decide)) (cg_25 G _) rfl rfl (Nat.le_of_ble_eq_true rfl) dX8_turned_139 e (fun _ e9 => f_X8_layRing_ok h41 e9) (fun r1 h2 e => ?_)
      refine v_istore O dX8_turned_142 (by decide) (fun x3 => [(4, .int x3), (0, .ref (G.1 25)), (1, .int v1), (2, .int v2), (3, .int v3)]) (fun _ => rfl) e (fun x3 e => ?_)
      refine v_iconst (v := 0) O dX8_turned_144 (by decide) ?_
      refine v_istore O dX8_turned_145 (by decide) (fun x4 => [(5, .int x4), (4, .int x3), (0, .ref (G.1 25)), (1, .int v1), (2, .int v2), (3, .int v3)]) (fun _ => rfl) e (fun x4 e => ?_)
      refine v_iconst (v := 0) O dX8_turned_147 (by decide) ?_
      refine v_istore O dX8_turned_148 (by decide) (fun x5 => [(6, .int x5), (5, .int x4), (4, .int x3), (0, .ref (G.1 25)), (1, .int v1), (2, .int v2), (3, .int v3)]) (fun _ => rfl) e (fun x5 e => ?_)
      refine v_sub [3, 2, 1, 0] rfl ?_
      exact f_X8_turned_l150_ok h41 O N N _ _ _ _ e
    · refine v_bipush (v := (-4)) O dX8_turned_128 (by decide) ?_
      exact v_iret O dX8_turned_130 e
  · refine v_iload_n O dX8_turned_63 3 rfl rfl ?_
    refine v_if_eq O dX8_turned_64 116 (by decide) e (fun e => ?_) (fun e => ?_)
    · refine v_sub [0, 1, 2, 4] rfl ?_
      exact f_X8_turned_b116_ok h41 O N k54 hk54 _ _ _ _ e
    · refine v_aload_n O dX8_turned_67 0 rfl rfl ?_
      refine v_get O fd_X8_turned_16 (g41 h41 (by decide)) (cg_25 G _) rfl dX8_turned_68 ?_
      refine v_iconst (v := 4) O dX8_turned_71 (by decide) ?_
      refine v_iload O dX8_turned_72 4 rfl ?_
      refine v_imul O dX8_turned_74 ?_
      refine v_iald O (g41 h41 (by decide)) (cg_26 G _) dX8_turned_75 e (fun e => ?_)
      refine v_iload_n O dX8_turned_76 1 rfl rfl ?_
      refine v_icmp_ne O dX8_turned_77 116 (by decide) e (fun e => ?_) (fun e => ?_)
      · refine v_sub [0, 1, 2, 4] rfl ?_
        exact f_X8_turned_b116_ok h41 O N k54 hk54 _ _ _ _ e
      · refine v_iload_n O dX8_turned_80 2 rfl rfl ?_
        refine v_aload_n O dX8_turned_81 0 rfl rfl ?_
        refine v_get O fd_X8_turned_32 (g41 h41 (by decide)) (cg_25 G _) rfl dX8_turned_82 ?_
        refine v_iload O dX8_turned_85 4 rfl ?_
        refine v_iald O (g41 h41 (by decide)) (cg_31 G _) dX8_turned_87 e (fun e => ?_)
        refine v_cSi O [.int v2, .int (h.1 31 (ix v4))] [] gX8_turned_X8_has cw_X8_turned_X8_has rfl rfl (Nat.le_of_ble_eq_true rfl) dX8_turned_88 e (fun _ e9 => f_X8_has_ok e9) (fun r6 h7 e => ?_)
        refine v_if_eq O dX8_turned_91 116 (by decide) e (fun e => ?_) (fun e => ?_)
        · refine v_sub [0, 1, 2, 4] rfl ?_
          exact f_X8_turned_b116_ok h41 O N k54 hk54 _ _ _ _ e
        · refine v_iload_n O dX8_turned_94 2 rfl rfl ?_
          refine v_aload_n O dX8_turned_95 0 rfl rfl ?_
          refine v_get O fd_X8_turned_16 (g41 h41 (by decide)) (cg_25 G _) rfl dX8_turned_96 ?_
          refine v_iconst (v := 4) O dX8_turned_99 (by decide) ?_
          refine v_iload O dX8_turned_100 4 rfl ?_
          refine v_imul O dX8_turned_102 ?_
          refine v_iconst (v := 3) O dX8_turned_103 (by decide) ?_
          refine v_iadd O dX8_turned_104 ?_
          refine v_iald O (g41 h41 (by decide)) (cg_26 G _) dX8_turned_105 e (fun e => ?_)
          refine v_cSi O [.int v2, .int (h7.1 26 (ix (((4 : Int32) * v4) + 3)))] [] gX8_turned_X8_has cw_X8_turned_X8_has rfl rfl (Nat.le_of_ble_eq_true rfl) dX8_turned_106 e (fun _ e9 => f_X8_has_ok e9) (fun r8 h9 e => ?_)
          refine v_if_eq O dX8_turned_109 116 (by decide) e (fun e => ?_) (fun e => ?_)
          · refine v_sub [0, 1, 2, 4] rfl ?_
            exact f_X8_turned_b116_ok h41 O N k54 hk54 _ _ _ _ e
          · refine v_iconst (v := 1) O dX8_turned_112 (by decide) ?_
            refine v_goto O dX8_turned_113 117 (by decide) ?_
            refine v_sub [0, 1, 2, 4] rfl ?_
            exact f_X8_turned_b117_ok h41 O N k54 hk54 _ _ _ _ _ e
theorem f_X8_turned_l54_ok {X : Cx} {G : Gx} {z : Rs} (h41 : 41 ≤ gN G) (O : Ok X G cX8_turned RX8 12 wsX8_turned (some .int) rm_X8_turned) (N : Nat) : ∀ (n : Nat) (v1 : Int32) (v2 : Int32) (v3 : Int32) (v4 : Int32) (h : Hp), f_X8_turned_l54 N n v1 v2 v3 v4 h = some z → V X G 12 (QI X G z) h 54 [(0, .ref (G.1 25)), (1, .int v1), (2, .int v2), (3, .int v3), (4, .int v4)] [] := by
  intro n
  induction n with
  | zero => intro v1 v2 v3 v4 h e; cases e
  | succ n ih => intro v1 v2 v3 v4 h e; exact f_X8_turned_b54_ok h41 O N _ ih v1 v2 v3 v4 h e
set_option maxRecDepth 20000 in
theorem f_X8_turned_ok {l : Launch} {G : Gx} {N : Nat} (h41 : 41 ≤ gN G) {a0 : Int32} {h : Hp} {z : Rs} (e : f_X8_turned N a0 h = some z) : CI l G yX8_turned wsX8_turned rm_X8_turned [.ref (G.1 25), .int a0] h z := by
  refine m_int _ (by decide) rfl [(0, .ref (G.1 25)), (1, .int a0)] rfl (Nat.le_of_ble_eq_true rfl) (fun X O => ?_)
  unfold f_X8_turned at e
  refine v_iload_n O dX8_turned_0 1 rfl rfl ?_
  refine v_iconst (v := 0) O dX8_turned_1 (by decide) ?_
  refine v_iconst (v := 3) O dX8_turned_2 (by decide) ?_
  refine v_cSi O [.int a0, .int 0, .int 3] [] gX8_turned_X8_in cw_X8_turned_X8_in rfl rfl (Nat.le_of_ble_eq_true rfl) dX8_turned_3 e (fun _ e9 => f_X8_in_ok e9) (fun r1 h2 e => ?_)
  refine v_if_ne O dX8_turned_6 12 (by decide) e (fun e => ?_) (fun e => ?_)
  · refine v_aload_n O dX8_turned_12 0 rfl rfl ?_
    refine v_get O fd_X8_turned_68 (g41 h41 (by decide)) (cg_25 G _) rfl dX8_turned_13 ?_
    refine v_if_eq O dX8_turned_16 34 (by decide) e (fun e => ?_) (fun e => ?_)
    · refine v_sub [] rfl ?_
      exact f_X8_turned_b34_ok h41 O N _ e
    · refine v_aload_n O dX8_turned_19 0 rfl rfl ?_
      refine v_iload_n O dX8_turned_20 1 rfl rfl ?_
      refine v_aload_n O dX8_turned_21 0 rfl rfl ?_
      refine v_get O fd_X8_turned_32 (g41 h41 (by decide)) (cg_25 G _) rfl dX8_turned_22 ?_
      refine v_iconst (v := 0) O dX8_turned_25 (by decide) ?_
      refine v_iald O (g41 h41 (by decide)) (cg_31 G _) dX8_turned_26 e (fun e => ?_)
      refine v_cVi O [.int a0, .int (h2.1 31 (ix 0))] [] gX8_turned_X8_shapeOf cw_X8_turned_X8_shapeOf rfl rfl (g41 h41 (by decide)) (cg_25 G _) rfl rfl (Nat.le_of_ble_eq_true rfl) dX8_turned_27 e (fun _ e9 => f_X8_shapeOf_ok h41 e9) (fun r3 h4 e => ?_)
      refine v_iconst (v := 2) O dX8_turned_30 (by decide) ?_
      refine v_icmp_eq O dX8_turned_31 37 (by decide) e (fun e => ?_) (fun e => ?_)
      · refine v_aload_n O dX8_turned_37 0 rfl rfl ?_
        refine v_iload_n O dX8_turned_38 1 rfl rfl ?_
        refine v_aload_n O dX8_turned_39 0 rfl rfl ?_
        refine v_get O fd_X8_turned_32 (g41 h41 (by decide)) (cg_25 G _) rfl dX8_turned_40 ?_
        refine v_iconst (v := 0) O dX8_turned_43 (by decide) ?_
        refine v_iald O (g41 h41 (by decide)) (cg_31 G _) dX8_turned_44 e (fun e => ?_)
        refine v_cVi O [.int a0, .int (h4.1 31 (ix 0))] [] gX8_turned_X8_partOf cw_X8_turned_X8_partOf rfl rfl (g41 h41 (by decide)) (cg_25 G _) rfl rfl (Nat.le_of_ble_eq_true rfl) dX8_turned_45 e (fun _ e9 => f_X8_partOf_ok h41 e9) (fun r5 h6 e => ?_)
        refine v_istore_n O dX8_turned_48 rfl (by decide) (fun x7 => [(2, .int x7), (0, .ref (G.1 25)), (1, .int a0)]) (fun _ => rfl) e (fun x7 e => ?_)
        refine v_iconst (v := 1) O dX8_turned_49 (by decide) ?_
        refine v_istore_n O dX8_turned_50 rfl (by decide) (fun x8 => [(3, .int x8), (2, .int x7), (0, .ref (G.1 25)), (1, .int a0)]) (fun _ => rfl) e (fun x8 e => ?_)
        refine v_iconst (v := 0) O dX8_turned_51 (by decide) ?_
        refine v_istore O dX8_turned_52 (by decide) (fun x9 => [(4, .int x9), (3, .int x8), (2, .int x7), (0, .ref (G.1 25)), (1, .int a0)]) (fun _ => rfl) e (fun x9 e => ?_)
        refine v_sub [3, 4, 2, 1, 0] rfl ?_
        exact f_X8_turned_l54_ok h41 O N N _ _ _ _ _ e
      · refine v_sub [] rfl ?_
        exact f_X8_turned_b34_ok h41 O N _ e
  · refine v_bipush (v := (-3)) O dX8_turned_9 (by decide) ?_
    exact v_iret O dX8_turned_11 e
/-! ===== X8 way ===== -/
abbrev rm_X8_way : Room := { frames := 8, cells := 0, slots := 0, locals := 208 }
theorem fd_X8_way_46 : FdO wsX8_way RX8 46 RX8 TX8 34 8 27 := ⟨by decide +kernel, rfl, by decide, by decide +kernel⟩
theorem fd_X8_way_52 : FdO wsX8_way RX8 52 RX8 TX8 34 8 29 := ⟨by decide +kernel, rfl, by decide, by decide +kernel⟩
theorem fd_X8_way_55 : FdO wsX8_way RX8 55 RX8 TX8 34 8 30 := ⟨by decide +kernel, rfl, by decide, by decide +kernel⟩
theorem cw_X8_way_X8_firstHome : CwO rm_X8_way yX8_firstHome wsX8_firstHome cX8_firstHome 3 (some .int) rm_X8_firstHome 1 := ⟨⟨_, rfl⟩, rfl, rfl, by decide +kernel, by decide, by decide⟩
theorem cw_X8_way_X8_in : CwO rm_X8_way yX8_in wsX8_in cX8_in 3 (some .boolean) rm_X8_in 3 := ⟨⟨_, rfl⟩, rfl, rfl, by decide +kernel, by decide, by decide⟩
set_option maxRecDepth 20000 in
theorem f_X8_way_b13_ok {X : Cx} {G : Gx} {z : Rs} (h41 : 41 ≤ gN G) (O : Ok X G cX8_way RX8 4 wsX8_way (some .int) rm_X8_way) (N : Nat) (h : Hp) (e : f_X8_way_b13 N h = some z) : V X G 4 (QI X G z) h 13 [] [] := by
  unfold f_X8_way_b13 at e
  refine v_bipush (v := (-3)) O dX8_way_13 (by decide) ?_
  exact v_iret O dX8_way_15 e
set_option maxRecDepth 20000 in
theorem f_X8_way_b37_ok {X : Cx} {G : Gx} {z : Rs} (h41 : 41 ≤ gN G) (O : Ok X G cX8_way RX8 4 wsX8_way (some .int) rm_X8_way) (N : Nat) (h : Hp) (e : f_X8_way_b37 N h = some z) : V X G 4 (QI X G z) h 37 [] [] := by
  unfold f_X8_way_b37 at e
  refine v_iconst (v := (-1)) O dX8_way_37 (by decide) ?_
  exact v_iret O dX8_way_38 e
set_option maxRecDepth 20000 in
theorem f_X8_way_b86_ok {X : Cx} {G : Gx} {z : Rs} (h41 : 41 ≤ gN G) (O : Ok X G cX8_way RX8 4 wsX8_way (some .int) rm_X8_way) (N : Nat) (s0 : Int32) (h : Hp) (e : f_X8_way_b86 N s0 h = some z) : V X G 4 (QI X G z) h 86 [] [.int s0] := by
  unfold f_X8_way_b86 at e
  exact v_iret O dX8_way_86 e
set_option maxRecDepth 20000 in
theorem f_X8_way_b39_ok {X : Cx} {G : Gx} {z : Rs} (h41 : 41 ≤ gN G) (O : Ok X G cX8_way RX8 4 wsX8_way (some .int) rm_X8_way) (N : Nat) (k39 : Int32 → Int32 → Int32 → Hp → Option Rs) (hk39 : ∀ (v1 : Int32) (v2 : Int32) (v3 : Int32) (h : Hp), k39 v1 v2 v3 h = some z → V X G 4 (QI X G z) h 39 [(0, .ref (G.1 25)), (1, .int v1), (2, .int v2), (3, .int v3)] []) (v1 : Int32) (v2 : Int32) (v3 : Int32) (h : Hp) (e : f_X8_way_b39 N k39 v1 v2 v3 h = some z) : V X G 4 (QI X G z) h 39 [(0, .ref (G.1 25)), (1, .int v1), (2, .int v2), (3, .int v3)] [] := by
  unfold f_X8_way_b39 at e
  refine v_aload_n O dX8_way_39 0 rfl rfl ?_
  refine v_get O fd_X8_way_46 (g41 h41 (by decide)) (cg_25 G _) rfl dX8_way_40 ?_
  refine v_iload_n O dX8_way_43 3 rfl rfl ?_
  refine v_iald O (g41 h41 (by decide)) (cg_35 G _) dX8_way_44 e (fun e => ?_)
  refine v_iload_n O dX8_way_45 1 rfl rfl ?_
  refine v_iconst (v := 1) O dX8_way_46 (by decide) ?_
  refine v_iadd O dX8_way_47 ?_
  refine v_icmp_le O dX8_way_48 61 (by decide) e (fun e => ?_) (fun e => ?_)
  · refine v_iload_n O dX8_way_61 2 rfl rfl ?_
    refine v_if_ne O dX8_way_62 77 (by decide) e (fun e => ?_) (fun e => ?_)
    · refine v_aload_n O dX8_way_77 0 rfl rfl ?_
      refine v_get O fd_X8_way_55 (g41 h41 (by decide)) (cg_25 G _) rfl dX8_way_78 ?_
      refine v_iload_n O dX8_way_81 3 rfl rfl ?_
      refine v_iald O (g41 h41 (by decide)) (cg_38 G _) dX8_way_82 e (fun e => ?_)
      refine v_bipush (v := 12) O dX8_way_83 (by decide) ?_
      refine v_irem O dX8_way_85 e (fun e => ?_)
      refine v_sub [] rfl ?_
      exact f_X8_way_b86_ok h41 O N _ _ e
    · refine v_aload_n O dX8_way_65 0 rfl rfl ?_
      refine v_get O fd_X8_way_55 (g41 h41 (by decide)) (cg_25 G _) rfl dX8_way_66 ?_
      refine v_iload_n O dX8_way_69 3 rfl rfl ?_
      refine v_iald O (g41 h41 (by decide)) (cg_38 G _) dX8_way_70 e (fun e => ?_)
      refine v_bipush (v := 12) O dX8_way_71 (by decide) ?_
      refine v_idiv O dX8_way_73 e (fun e => ?_)
      refine v_goto O dX8_way_74 86 (by decide) ?_
      refine v_sub [] rfl ?_
      exact f_X8_way_b86_ok h41 O N _ _ e
  · refine v_aload_n O dX8_way_51 0 rfl rfl ?_
    refine v_get O fd_X8_way_52 (g41 h41 (by decide)) (cg_25 G _) rfl dX8_way_52 ?_
    refine v_iload_n O dX8_way_55 3 rfl rfl ?_
    refine v_iald O (g41 h41 (by decide)) (cg_37 G _) dX8_way_56 e (fun e => ?_)
    refine v_istore_n O dX8_way_57 rfl (by decide) (fun x1 => [(3, .int x1), (0, .ref (G.1 25)), (1, .int v1), (2, .int v2)]) (fun _ => rfl) e (fun x1 e => ?_)
    refine v_goto O dX8_way_58 39 (by decide) ?_
    refine v_sub [1, 2, 3, 0] rfl ?_
    exact hk39 _ _ _ _ e
theorem f_X8_way_l39_ok {X : Cx} {G : Gx} {z : Rs} (h41 : 41 ≤ gN G) (O : Ok X G cX8_way RX8 4 wsX8_way (some .int) rm_X8_way) (N : Nat) : ∀ (n : Nat) (v1 : Int32) (v2 : Int32) (v3 : Int32) (h : Hp), f_X8_way_l39 N n v1 v2 v3 h = some z → V X G 4 (QI X G z) h 39 [(0, .ref (G.1 25)), (1, .int v1), (2, .int v2), (3, .int v3)] [] := by
  intro n
  induction n with
  | zero => intro v1 v2 v3 h e; cases e
  | succ n ih => intro v1 v2 v3 h e; exact f_X8_way_b39_ok h41 O N _ ih v1 v2 v3 h e
set_option maxRecDepth 20000 in
theorem f_X8_way_ok {l : Launch} {G : Gx} {N : Nat} (h41 : 41 ≤ gN G) {a0 : Int32} {a1 : Int32} {h : Hp} {z : Rs} (e : f_X8_way N a0 a1 h = some z) : CI l G yX8_way wsX8_way rm_X8_way [.ref (G.1 25), .int a0, .int a1] h z := by
  refine m_int _ (by decide) rfl [(0, .ref (G.1 25)), (1, .int a0), (2, .int a1)] rfl (Nat.le_of_ble_eq_true rfl) (fun X O => ?_)
  unfold f_X8_way at e
  refine v_iload_n O dX8_way_0 1 rfl rfl ?_
  refine v_if_lt O dX8_way_1 13 (by decide) e (fun e => ?_) (fun e => ?_)
  · refine v_sub [] rfl ?_
    exact f_X8_way_b13_ok h41 O N _ e
  · refine v_iload_n O dX8_way_4 2 rfl rfl ?_
    refine v_iconst (v := 0) O dX8_way_5 (by decide) ?_
    refine v_iconst (v := 1) O dX8_way_6 (by decide) ?_
    refine v_cSi O [.int a1, .int 0, .int 1] [] gX8_way_X8_in cw_X8_way_X8_in rfl rfl (Nat.le_of_ble_eq_true rfl) dX8_way_7 e (fun _ e9 => f_X8_in_ok e9) (fun r1 h2 e => ?_)
    refine v_if_ne O dX8_way_10 16 (by decide) e (fun e => ?_) (fun e => ?_)
    · refine v_aload_n O dX8_way_16 0 rfl rfl ?_
      refine v_iconst (v := 0) O dX8_way_17 (by decide) ?_
      refine v_cVi O [.int 0] [] gX8_way_X8_firstHome cw_X8_way_X8_firstHome rfl rfl (g41 h41 (by decide)) (cg_25 G _) rfl rfl (Nat.le_of_ble_eq_true rfl) dX8_way_18 e (fun _ e9 => f_X8_firstHome_ok h41 e9) (fun r3 h4 e => ?_)
      refine v_istore_n O dX8_way_21 rfl (by decide) (fun x5 => [(3, .int x5), (0, .ref (G.1 25)), (1, .int a0), (2, .int a1)]) (fun _ => rfl) e (fun x5 e => ?_)
      refine v_iload_n O dX8_way_22 0 rfl rfl ?_
      refine v_iconst (v := (-1)) O dX8_way_23 (by decide) ?_
      refine v_icmp_eq O dX8_way_24 37 (by decide) e (fun e => ?_) (fun e => ?_)
      · refine v_sub [] rfl ?_
        exact f_X8_way_b37_ok h41 O N _ e
      · refine v_iload_n O dX8_way_27 2 rfl rfl ?_
        refine v_aload_n O dX8_way_28 1 rfl rfl ?_
        refine v_get O fd_X8_way_46 (g41 h41 (by decide)) (cg_25 G _) rfl dX8_way_29 ?_
        refine v_iload_n O dX8_way_32 0 rfl rfl ?_
        refine v_iald O (g41 h41 (by decide)) (cg_35 G _) dX8_way_33 e (fun e => ?_)
        refine v_icmp_lt O dX8_way_34 39 (by decide) e (fun e => ?_) (fun e => ?_)
        · refine v_sub [1, 2, 3, 0] rfl ?_
          exact f_X8_way_l39_ok h41 O N N _ _ _ _ e
        · refine v_sub [] rfl ?_
          exact f_X8_way_b37_ok h41 O N _ e
    · refine v_sub [] rfl ?_
      exact f_X8_way_b13_ok h41 O N _ e
/-! ===== X8 write ===== -/
abbrev rm_X8_write : Room := { frames := 1, cells := 0, slots := 0, locals := 22 }
theorem fd_X8_write_20 : FdO wsX8_write RX8 20 RX8 TX8 34 8 7 := ⟨by decide +kernel, rfl, by decide, by decide +kernel⟩
theorem fd_X8_write_71 : FdO wsX8_write RX8 71 RX8 TX8 34 8 6 := ⟨by decide +kernel, rfl, by decide, by decide +kernel⟩
theorem cw_X8_write_X8_in : CwO rm_X8_write yX8_in wsX8_in cX8_in 3 (some .boolean) rm_X8_in 3 := ⟨⟨_, rfl⟩, rfl, rfl, by decide +kernel, by decide, by decide⟩
set_option maxRecDepth 20000 in
theorem f_X8_write_b31_ok {X : Cx} {G : Gx} {z : Rs} (h41 : 41 ≤ gN G) (O : Ok X G cX8_write RX8 5 wsX8_write (some .int) rm_X8_write) (N : Nat) (k31 : Int64 → Int32 → Int32 → Hp → Option Rs) (hk31 : ∀ (v1 : Int64) (v3 : Int32) (v4 : Int32) (h : Hp), k31 v1 v3 v4 h = some z → V X G 5 (QI X G z) h 31 [(0, .ref (G.1 25)), (1, .long v1), (3, .int v3), (4, .int v4)] []) (v1 : Int64) (v3 : Int32) (v4 : Int32) (h : Hp) (e : f_X8_write_b31 N k31 v1 v3 v4 h = some z) : V X G 5 (QI X G z) h 31 [(0, .ref (G.1 25)), (1, .long v1), (3, .int v3), (4, .int v4)] [] := by
  unfold f_X8_write_b31 at e
  refine v_iload O dX8_write_31 3 rfl ?_
  refine v_iload_n O dX8_write_33 2 rfl rfl ?_
  refine v_icmp_ge O dX8_write_34 67 (by decide) e (fun e => ?_) (fun e => ?_)
  · refine v_aload_n O dX8_write_67 0 rfl rfl ?_
    refine v_dup O dX8_write_68 rfl ?_
    refine v_get O fd_X8_write_71 (g41 h41 (by decide)) (cg_25 G _) rfl dX8_write_69 ?_
    refine v_iload_n O dX8_write_72 2 rfl rfl ?_
    refine v_iadd O dX8_write_73 ?_
    refine v_put O fd_X8_write_71 fp_X8_6 (g41 h41 (by decide)) (cg_25 G _) (Nat.le_of_ble_eq_true rfl) (cs_25_6 G _ _) dX8_write_74 e (fun h1 e => ?_)
    refine v_aload_n O dX8_write_77 0 rfl rfl ?_
    refine v_get O fd_X8_write_71 (g41 h41 (by decide)) (cg_25 G _) rfl dX8_write_78 ?_
    exact v_iret O dX8_write_81 e
  · refine v_aload_n O dX8_write_37 0 rfl rfl ?_
    refine v_get O fd_X8_write_20 (g41 h41 (by decide)) (cg_25 G _) rfl dX8_write_38 ?_
    refine v_aload_n O dX8_write_41 0 rfl rfl ?_
    refine v_get O fd_X8_write_71 (g41 h41 (by decide)) (cg_25 G _) rfl dX8_write_42 ?_
    refine v_iload O dX8_write_45 3 rfl ?_
    refine v_iadd O dX8_write_47 ?_
    refine v_lload_n O dX8_write_48 1 rfl rfl ?_
    refine v_bipush (v := 8) O dX8_write_49 (by decide) ?_
    refine v_iload O dX8_write_51 3 rfl ?_
    refine v_imul O dX8_write_53 ?_
    refine v_lshr O dX8_write_54 ?_
    refine v_ldc2 (v := 255) O dX8_write_55 (by decide +kernel) ?_
    refine v_land O dX8_write_58 ?_
    refine v_l2i O dX8_write_59 ?_
    refine v_iast O (g41 h41 (by decide)) (cg_27 G _) (cw_27 G _ _ _) dX8_write_60 e (fun h2 e => ?_)
    refine v_iinc (v := 1) O dX8_write_61 3 rfl (by decide) (by decide) (fun x3 => [(4, .int x3), (0, .ref (G.1 25)), (1, .long v1), (3, .int v3)]) (fun _ => rfl) e (fun x3 e => ?_)
    refine v_goto O dX8_write_64 31 (by decide) ?_
    refine v_sub [1, 2, 3, 0] rfl ?_
    exact hk31 _ _ _ _ e
theorem f_X8_write_l31_ok {X : Cx} {G : Gx} {z : Rs} (h41 : 41 ≤ gN G) (O : Ok X G cX8_write RX8 5 wsX8_write (some .int) rm_X8_write) (N : Nat) : ∀ (n : Nat) (v1 : Int64) (v3 : Int32) (v4 : Int32) (h : Hp), f_X8_write_l31 N n v1 v3 v4 h = some z → V X G 5 (QI X G z) h 31 [(0, .ref (G.1 25)), (1, .long v1), (3, .int v3), (4, .int v4)] [] := by
  intro n
  induction n with
  | zero => intro v1 v3 v4 h e; cases e
  | succ n ih => intro v1 v3 v4 h e; exact f_X8_write_b31_ok h41 O N _ ih v1 v3 v4 h e
set_option maxRecDepth 20000 in
theorem f_X8_write_ok {l : Launch} {G : Gx} {N : Nat} (h41 : 41 ≤ gN G) {a0 : Int64} {a1 : Int32} {h : Hp} {z : Rs} (e : f_X8_write N a0 a1 h = some z) : CI l G yX8_write wsX8_write rm_X8_write [.ref (G.1 25), .long a0, .int a1] h z := by
  refine m_int _ (by decide) rfl [(0, .ref (G.1 25)), (1, .long a0), (3, .int a1)] rfl (Nat.le_of_ble_eq_true rfl) (fun X O => ?_)
  unfold f_X8_write at e
  refine v_iload_n O dX8_write_0 2 rfl rfl ?_
  refine v_iconst (v := 1) O dX8_write_1 (by decide) ?_
  refine v_bipush (v := 8) O dX8_write_2 (by decide) ?_
  refine v_cSi O [.int a1, .int 1, .int 8] [] gX8_write_X8_in cw_X8_write_X8_in rfl rfl (Nat.le_of_ble_eq_true rfl) dX8_write_4 e (fun _ e9 => f_X8_in_ok e9) (fun r1 h2 e => ?_)
  refine v_if_ne O dX8_write_7 13 (by decide) e (fun e => ?_) (fun e => ?_)
  · refine v_aload_n O dX8_write_13 0 rfl rfl ?_
    refine v_get O fd_X8_write_71 (g41 h41 (by decide)) (cg_25 G _) rfl dX8_write_14 ?_
    refine v_iload_n O dX8_write_17 2 rfl rfl ?_
    refine v_iadd O dX8_write_18 ?_
    refine v_sipush (v := 200) O dX8_write_19 (by decide) ?_
    refine v_icmp_le O dX8_write_22 28 (by decide) e (fun e => ?_) (fun e => ?_)
    · refine v_iconst (v := 0) O dX8_write_28 (by decide) ?_
      refine v_istore O dX8_write_29 (by decide) (fun x3 => [(4, .int x3), (0, .ref (G.1 25)), (1, .long a0), (3, .int a1)]) (fun _ => rfl) e (fun x3 e => ?_)
      refine v_sub [1, 2, 3, 0] rfl ?_
      exact f_X8_write_l31_ok h41 O N N _ _ _ _ e
    · refine v_bipush (v := (-5)) O dX8_write_25 (by decide) ?_
      exact v_iret O dX8_write_27 e
  · refine v_bipush (v := (-3)) O dX8_write_10 (by decide) ?_
    exact v_iret O dX8_write_12 e
