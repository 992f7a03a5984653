/-! ===== X5 constructor ===== -/
abbrev rm_X5_init : Room := { frames := 1, cells := 2, slots := 8, locals := 12 }
theorem fd_X5_init_9 : FdO wsX5_init RX5 9 RX5 TX5 9 5 7 := ⟨by decide +kernel, rfl, by decide, by decide +kernel⟩
theorem fd_X5_init_15 : FdO wsX5_init RX5 15 RX5 TX5 9 5 8 := ⟨by decide +kernel, rfl, by decide, by decide +kernel⟩
theorem fd_X5_init_18 : FdO wsX5_init RX5 18 RX5 TX5 9 5 0 := ⟨by decide +kernel, rfl, by decide, by decide +kernel⟩
theorem fd_X5_init_22 : FdO wsX5_init RX5 22 RX5 TX5 9 5 1 := ⟨by decide +kernel, rfl, by decide, by decide +kernel⟩
theorem ff_X5_7 : FfO TX5 9 7 tyX5 RX5 := ⟨tyX5_ok, nmX5, rfl, rfl, tyX5 7, tyX5_ok 7 (by decide), fun _ => ⟨rfl, rfl⟩⟩
theorem ff_X5_8 : FfO TX5 9 8 tyX5 RX5 := ⟨tyX5_ok, nmX5, rfl, rfl, tyX5 8, tyX5_ok 8 (by decide), fun _ => ⟨rfl, rfl⟩⟩
set_option maxRecDepth 20000 in
theorem i_X5 {l : Launch} {D : va_G} {cI cZ : ClassId} {a : Nat} : KC l D cI cZ (fun _ => True) yX5_init wsX5_init rm_X5_init [.ref a] [(a, .inr (5, [.int 0, .int 0, .int 0, .int 0, .int 0, .int 0, .int 0, .null, .null]))] (fun u => [(a, .inr (5, [.int 3, .int 3, .int 0, .int 0, .int 0, .int 0, .int 0, .ref (u 0), .ref (u 1)])), ((u 0), .inl (cI, 4, .inl (fun _ => 0))), ((u 1), .inl (cI, 4, .inl (fun _ => 0)))]) := by
  refine k_entry _ (by decide) rfl rfl [(0, .ref a)] rfl (Nat.le_of_ble_eq_true rfl) (fun X A O hin hE hAe fin => ?_)
  refine k_aload_n O dX5_init_0 0 rfl rfl ?_
  refine k_obj O dX5_init_1 (by decide +kernel) (by decide +kernel) (List.mem_of_getElem? (i := 3) rfl) (by decide) (Nat.le_of_ble_eq_true rfl) ?_
  refine k_aload_n O dX5_init_4 0 rfl rfl ?_
  refine k_iconst (v := 4) O dX5_init_5 (by decide) ?_
  refine k_newI O 4 (by decide +kernel) (by decide) (by decide) (by decide) (by decide) (by decide) 1 4 rfl rfl dX5_init_6 (fun q1 => ?_)
  refine k_putF O hin fd_X5_init_9 ff_X5_7 0 rfl (Nat.le_of_ble_eq_true rfl) [(a, .inr (5, [.int 0, .int 0, .int 0, .int 0, .int 0, .int 0, .int 0, .ref q1, .null])), (q1, .inl (cI, 4, .inl (fun _ => 0)))] rfl dX5_init_8 ?_
  refine k_aload_n O dX5_init_11 0 rfl rfl ?_
  refine k_iconst (v := 4) O dX5_init_12 (by decide) ?_
  refine k_newI O 4 (by decide +kernel) (by decide) (by decide) (by decide) (by decide) (by decide) 2 8 rfl rfl dX5_init_13 (fun q2 => ?_)
  refine k_putF O hin fd_X5_init_15 ff_X5_8 0 rfl (Nat.le_of_ble_eq_true rfl) [(a, .inr (5, [.int 0, .int 0, .int 0, .int 0, .int 0, .int 0, .int 0, .ref q1, .ref q2])), (q1, .inl (cI, 4, .inl (fun _ => 0))), (q2, .inl (cI, 4, .inl (fun _ => 0)))] rfl dX5_init_15 ?_
  refine k_aload_n O dX5_init_18 0 rfl rfl ?_
  refine k_iconst (v := 3) O dX5_init_19 (by decide) ?_
  refine k_put O fd_X5_init_18 fp_X5_0 0 rfl (Nat.le_of_ble_eq_true rfl) [(a, .inr (5, [.int 3, .int 0, .int 0, .int 0, .int 0, .int 0, .int 0, .ref q1, .ref q2])), (q1, .inl (cI, 4, .inl (fun _ => 0))), (q2, .inl (cI, 4, .inl (fun _ => 0)))] rfl dX5_init_20 ?_
  refine k_aload_n O dX5_init_23 0 rfl rfl ?_
  refine k_iconst (v := 3) O dX5_init_24 (by decide) ?_
  refine k_put O fd_X5_init_22 fp_X5_1 0 rfl (Nat.le_of_ble_eq_true rfl) [(a, .inr (5, [.int 3, .int 3, .int 0, .int 0, .int 0, .int 0, .int 0, .ref q1, .ref q2])), (q1, .inl (cI, 4, .inl (fun _ => 0))), (q2, .inl (cI, 4, .inl (fun _ => 0)))] rfl dX5_init_25 ?_
  exact fin 28 _ _ _ _ (fun i => [q1, q2].getD i 0) dX5_init_28 rfl (by decide) (by decide)
/-! ===== X6 constructor ===== -/
abbrev rm_X6_init : Room := { frames := 1, cells := 1, slots := 200, locals := 12 }
theorem fd_X6_init_9 : FdO wsX6_init RX6 9 RX6 TX6 4 6 0 := ⟨by decide +kernel, rfl, by decide, by decide +kernel⟩
theorem ff_X6_0 : FfO TX6 4 0 tyX6 RX6 := ⟨tyX6_ok, nmX6, rfl, rfl, tyX6 0, tyX6_ok 0 (by decide), fun _ => ⟨rfl, rfl⟩⟩
set_option maxRecDepth 20000 in
theorem i_X6 {l : Launch} {D : va_G} {cI cZ : ClassId} {a : Nat} : KC l D cI cZ (fun _ => True) yX6_init wsX6_init rm_X6_init [.ref a] [(a, .inr (6, [.null, .int 0, .int 0, .int 0]))] (fun u => [(a, .inr (6, [.ref (u 0), .int 0, .int 0, .int 0])), ((u 0), .inl (cI, 200, .inl (fun _ => 0)))]) := by
  refine k_entry _ (by decide) rfl rfl [(0, .ref a)] rfl (Nat.le_of_ble_eq_true rfl) (fun X A O hin hE hAe fin => ?_)
  refine k_aload_n O dX6_init_0 0 rfl rfl ?_
  refine k_obj O dX6_init_1 (by decide +kernel) (by decide +kernel) (List.mem_of_getElem? (i := 3) rfl) (by decide) (Nat.le_of_ble_eq_true rfl) ?_
  refine k_aload_n O dX6_init_4 0 rfl rfl ?_
  refine k_sipush (v := 200) O dX6_init_5 (by decide) ?_
  refine k_newI O 200 (by decide +kernel) (by decide) (by decide) (by decide) (by decide) (by decide) 1 200 rfl rfl dX6_init_8 (fun q1 => ?_)
  refine k_putF O hin fd_X6_init_9 ff_X6_0 0 rfl (Nat.le_of_ble_eq_true rfl) [(a, .inr (6, [.ref q1, .int 0, .int 0, .int 0])), (q1, .inl (cI, 200, .inl (fun _ => 0)))] rfl dX6_init_10 ?_
  exact fin 13 _ _ _ _ (fun i => [q1].getD i 0) dX6_init_13 rfl (by decide) (by decide)
/-! ===== X3 constructor ===== -/
abbrev rm_X3_init : Room := { frames := 2, cells := 3, slots := 17, locals := 32 }
theorem fd_X3_init_12 : FdO wsX3_init RX3 12 RX3 TX3 4 3 0 := ⟨by decide +kernel, rfl, by decide, by decide +kernel⟩
theorem fd_X3_init_18 : FdO wsX3_init RX3 18 RX3 TX3 4 3 3 := ⟨by decide +kernel, rfl, by decide, by decide +kernel⟩
theorem ff_X3_0 : FfO TX3 4 0 tyX3 RX3 := ⟨tyX3_ok, nmX3, rfl, rfl, tyX3 0, tyX3_ok 0 (by decide), fun _ => ⟨rfl, rfl⟩⟩
theorem ff_X3_3 : FfO TX3 4 3 tyX3 RX3 := ⟨tyX3_ok, nmX3, rfl, rfl, tyX3 3, tyX3_ok 3 (by decide), fun _ => ⟨rfl, rfl⟩⟩
theorem hin_X3_init_X5 : ∀ w ∈ u_ws RX5 TX5 9, w ∈ wsX3_init := by decide +kernel
theorem nw_X3_init_X5 : Cond.classLink RX3 9 RX5 ∈ wsX3_init ∧ Cond.instantiable RX5 9 ∈ wsX3_init ∧ Cond.initialized RX5 ∈ wsX3_init := ⟨by decide +kernel, by decide +kernel, by decide +kernel⟩
theorem ck_X3_init_X5_init : CkO rm_X3_init yX5_init wsX5_init cX5_init 1 rm_X5_init 0 := ⟨⟨_, rfl⟩, rfl, by decide +kernel, by decide, by decide⟩
theorem cl_X3_init_X5_init : Cond.initialized yX5_init.cls ∈ wsX3_init ∧ Cond.methodLink RX3 11 yX5_init ∈ wsX3_init ∧ Cond.instanceMethod yX5_init ∈ wsX3_init := ⟨by decide +kernel, by decide +kernel, by decide +kernel⟩
set_option maxRecDepth 20000 in
theorem i_X3 {l : Launch} {D : va_G} {cI cZ : ClassId} {a p0 : Nat} : KC l D cI cZ (fun _ => True) yX3_init wsX3_init rm_X3_init [.ref a, .ref p0] [(a, .inr (3, [.null, .int 0, .int 0, .null]))] (fun u => [(a, .inr (3, [.ref (u 0), .int 0, .int 0, .ref p0])), ((u 0), .inr (5, [.int 3, .int 3, .int 0, .int 0, .int 0, .int 0, .int 0, .ref (u 1), .ref (u 2)])), ((u 1), .inl (cI, 4, .inl (fun _ => 0))), ((u 2), .inl (cI, 4, .inl (fun _ => 0)))]) := by
  refine k_entry _ (by decide) rfl rfl [(0, .ref a), (1, .ref p0)] rfl (Nat.le_of_ble_eq_true rfl) (fun X A O hin hE hAe fin => ?_)
  refine k_aload_n O dX3_init_0 0 rfl rfl ?_
  refine k_obj O dX3_init_1 (by decide +kernel) (by decide +kernel) (List.mem_of_getElem? (i := 3) rfl) (by decide) (Nat.le_of_ble_eq_true rfl) ?_
  refine k_aload_n O dX3_init_4 0 rfl rfl ?_
  refine k_new (ci := 5) O (hin_X3_init_X5) tyX5_ok nw_X3_init_X5 rfl [.int 0, .int 0, .int 0, .int 0, .int 0, .int 0, .int 0, .null, .null] (by decide) (by decide) (by decide) 1 9 rfl rfl dX3_init_5 (fun q1 => ?_)
  refine k_dup O dX3_init_8 rfl ?_
  refine k_callI (wr := [(a, .inr (3, [.null, .int 0, .int 0, .null]))]) O [] [.ref q1, .ref a] [1] [0] (i_X5 (a := q1)) rfl rfl rfl rfl (by decide) gX3_init_X5_init ck_X3_init_X5_init cl_X3_init_X5_init rfl rfl (Nat.le_of_ble_eq_true rfl) 3 17 rfl rfl (by decide) dX3_init_9 (fun u2 => ?_)
  refine k_putF O hin fd_X3_init_12 ff_X3_0 0 rfl (Nat.le_of_ble_eq_true rfl) [(a, .inr (3, [.ref q1, .int 0, .int 0, .null])), (q1, .inr (5, [.int 3, .int 3, .int 0, .int 0, .int 0, .int 0, .int 0, .ref (u2 0), .ref (u2 1)])), ((u2 0), .inl (cI, 4, .inl (fun _ => 0))), ((u2 1), .inl (cI, 4, .inl (fun _ => 0)))] rfl dX3_init_12 ?_
  refine k_aload_n O dX3_init_15 0 rfl rfl ?_
  refine k_aload_n O dX3_init_16 1 rfl rfl ?_
  refine k_putF O hin fd_X3_init_18 ff_X3_3 0 rfl (Nat.le_of_ble_eq_true rfl) [(a, .inr (3, [.ref q1, .int 0, .int 0, .ref p0])), (q1, .inr (5, [.int 3, .int 3, .int 0, .int 0, .int 0, .int 0, .int 0, .ref (u2 0), .ref (u2 1)])), ((u2 0), .inl (cI, 4, .inl (fun _ => 0))), ((u2 1), .inl (cI, 4, .inl (fun _ => 0)))] rfl dX3_init_17 ?_
  exact fin 20 _ _ _ _ (fun i => [q1, (u2 0), (u2 1)].getD i 0) dX3_init_20 rfl (by decide) (by decide)
/-! ===== X0 constructor ===== -/
abbrev rm_X0_init : Room := { frames := 1, cells := 1, slots := 192, locals := 12 }
theorem fd_X0_init_11 : FdO wsX0_init RX0 11 RX0 TX0 1 0 0 := ⟨by decide +kernel, rfl, by decide, by decide +kernel⟩
theorem ff_X0_0 : FfO TX0 1 0 tyX0 RX0 := ⟨tyX0_ok, nmX0, rfl, rfl, tyX0 0, tyX0_ok 0 (by decide), fun _ => ⟨rfl, rfl⟩⟩
set_option maxRecDepth 20000 in
theorem i_X0 {l : Launch} {D : va_G} {cI cZ : ClassId} {a : Nat} : KC l D cI cZ (fun _ => True) yX0_init wsX0_init rm_X0_init [.ref a] [(a, .inr (0, [.null]))] (fun u => [(a, .inr (0, [.ref (u 0)])), ((u 0), .inl (cI, 192, .inl (fun _ => 0)))]) := by
  refine k_entry _ (by decide) rfl rfl [(0, .ref a)] rfl (Nat.le_of_ble_eq_true rfl) (fun X A O hin hE hAe fin => ?_)
  refine k_aload_n O dX0_init_0 0 rfl rfl ?_
  refine k_obj O dX0_init_1 (by decide +kernel) (by decide +kernel) (List.mem_of_getElem? (i := 3) rfl) (by decide) (Nat.le_of_ble_eq_true rfl) ?_
  refine k_aload_n O dX0_init_4 0 rfl rfl ?_
  refine k_sipush (v := 192) O dX0_init_5 (by decide) ?_
  refine k_newI O 192 (by decide +kernel) (by decide) (by decide) (by decide) (by decide) (by decide) 1 192 rfl rfl dX0_init_8 (fun q1 => ?_)
  refine k_putF O hin fd_X0_init_11 ff_X0_0 0 rfl (Nat.le_of_ble_eq_true rfl) [(a, .inr (0, [.ref q1])), (q1, .inl (cI, 192, .inl (fun _ => 0)))] rfl dX0_init_10 ?_
  exact fin 13 _ _ _ _ (fun i => [q1].getD i 0) dX0_init_13 rfl (by decide) (by decide)
/-! ===== X1 constructor ===== -/
abbrev rm_X1_init : Room := { frames := 1, cells := 0, slots := 0, locals := 12 }
theorem fd_X1_init_9 : FdO wsX1_init RX1 9 RX1 TX1 2 1 0 := ⟨by decide +kernel, rfl, by decide, by decide +kernel⟩
theorem fd_X1_init_15 : FdO wsX1_init RX1 15 RX1 TX1 2 1 1 := ⟨by decide +kernel, rfl, by decide, by decide +kernel⟩
theorem ff_X1_0 : FfO TX1 2 0 tyX1 RX1 := ⟨tyX1_ok, nmX1, rfl, rfl, tyX1 0, tyX1_ok 0 (by decide), fun _ => ⟨rfl, rfl⟩⟩
theorem ff_X1_1 : FfO TX1 2 1 tyX1 RX1 := ⟨tyX1_ok, nmX1, rfl, rfl, tyX1 1, tyX1_ok 1 (by decide), fun _ => ⟨rfl, rfl⟩⟩
set_option maxRecDepth 20000 in
theorem i_X1 {l : Launch} {D : va_G} {cI cZ : ClassId} {a p0 p1 : Nat} : KC l D cI cZ (fun _ => True) yX1_init wsX1_init rm_X1_init [.ref a, .ref p0, .ref p1] [(a, .inr (1, [.null, .null]))] (fun u => [(a, .inr (1, [.ref p0, .ref p1]))]) := by
  refine k_entry _ (by decide) rfl rfl [(0, .ref a), (1, .ref p0), (2, .ref p1)] rfl (Nat.le_of_ble_eq_true rfl) (fun X A O hin hE hAe fin => ?_)
  refine k_aload_n O dX1_init_0 0 rfl rfl ?_
  refine k_obj O dX1_init_1 (by decide +kernel) (by decide +kernel) (List.mem_of_getElem? (i := 3) rfl) (by decide) (Nat.le_of_ble_eq_true rfl) ?_
  refine k_aload_n O dX1_init_4 0 rfl rfl ?_
  refine k_aload_n O dX1_init_5 1 rfl rfl ?_
  refine k_putF O hin fd_X1_init_9 ff_X1_0 0 rfl (Nat.le_of_ble_eq_true rfl) [(a, .inr (1, [.ref p0, .null]))] rfl dX1_init_6 ?_
  refine k_aload_n O dX1_init_9 0 rfl rfl ?_
  refine k_aload_n O dX1_init_10 2 rfl rfl ?_
  refine k_putF O hin fd_X1_init_15 ff_X1_1 0 rfl (Nat.le_of_ble_eq_true rfl) [(a, .inr (1, [.ref p0, .ref p1]))] rfl dX1_init_11 ?_
  exact fin 14 _ _ _ _ (fun i => [].getD i 0) dX1_init_14 rfl (by decide) (by decide)
/-! ===== X2 constructor ===== -/
abbrev rm_X2_init : Room := { frames := 1, cells := 1, slots := 12, locals := 12 }
theorem fd_X2_init_9 : FdO wsX2_init RX2 9 RX2 TX2 3 2 0 := ⟨by decide +kernel, rfl, by decide, by decide +kernel⟩
theorem fd_X2_init_15 : FdO wsX2_init RX2 15 RX2 TX2 3 2 1 := ⟨by decide +kernel, rfl, by decide, by decide +kernel⟩
theorem ff_X2_0 : FfO TX2 3 0 tyX2 RX2 := ⟨tyX2_ok, nmX2, rfl, rfl, tyX2 0, tyX2_ok 0 (by decide), fun _ => ⟨rfl, rfl⟩⟩
theorem ff_X2_1 : FfO TX2 3 1 tyX2 RX2 := ⟨tyX2_ok, nmX2, rfl, rfl, tyX2 1, tyX2_ok 1 (by decide), fun _ => ⟨rfl, rfl⟩⟩
set_option maxRecDepth 20000 in
theorem i_X2 {l : Launch} {D : va_G} {cI cZ : ClassId} {a p0 : Nat} : KC l D cI cZ (fun _ => True) yX2_init wsX2_init rm_X2_init [.ref a, .ref p0] [(a, .inr (2, [.null, .null, .int 0]))] (fun u => [(a, .inr (2, [.ref (u 0), .ref p0, .int 0])), ((u 0), .inl (cI, 12, .inl (fun _ => 0)))]) := by
  refine k_entry _ (by decide) rfl rfl [(0, .ref a), (1, .ref p0)] rfl (Nat.le_of_ble_eq_true rfl) (fun X A O hin hE hAe fin => ?_)
  refine k_aload_n O dX2_init_0 0 rfl rfl ?_
  refine k_obj O dX2_init_1 (by decide +kernel) (by decide +kernel) (List.mem_of_getElem? (i := 3) rfl) (by decide) (Nat.le_of_ble_eq_true rfl) ?_
  refine k_aload_n O dX2_init_4 0 rfl rfl ?_
  refine k_bipush (v := 12) O dX2_init_5 (by decide) ?_
  refine k_newI O 12 (by decide +kernel) (by decide) (by decide) (by decide) (by decide) (by decide) 1 12 rfl rfl dX2_init_7 (fun q1 => ?_)
  refine k_putF O hin fd_X2_init_9 ff_X2_0 0 rfl (Nat.le_of_ble_eq_true rfl) [(a, .inr (2, [.ref q1, .null, .int 0])), (q1, .inl (cI, 12, .inl (fun _ => 0)))] rfl dX2_init_9 ?_
  refine k_aload_n O dX2_init_12 0 rfl rfl ?_
  refine k_aload_n O dX2_init_13 1 rfl rfl ?_
  refine k_putF O hin fd_X2_init_15 ff_X2_1 0 rfl (Nat.le_of_ble_eq_true rfl) [(a, .inr (2, [.ref q1, .ref p0, .int 0])), (q1, .inl (cI, 12, .inl (fun _ => 0)))] rfl dX2_init_14 ?_
  exact fin 17 _ _ _ _ (fun i => [q1].getD i 0) dX2_init_17 rfl (by decide) (by decide)
/-! ===== X4 constructor ===== -/
abbrev rm_X4_init : Room := { frames := 1, cells := 4, slots := 75376, locals := 12 }
theorem fd_X4_init_11 : FdO wsX4_init RX4 11 RX4 TX4 8 4 2 := ⟨by decide +kernel, rfl, by decide, by decide +kernel⟩
theorem fd_X4_init_15 : FdO wsX4_init RX4 15 RX4 TX4 8 4 3 := ⟨by decide +kernel, rfl, by decide, by decide +kernel⟩
theorem fd_X4_init_18 : FdO wsX4_init RX4 18 RX4 TX4 8 4 4 := ⟨by decide +kernel, rfl, by decide, by decide +kernel⟩
theorem fd_X4_init_21 : FdO wsX4_init RX4 21 RX4 TX4 8 4 5 := ⟨by decide +kernel, rfl, by decide, by decide +kernel⟩
theorem fd_X4_init_24 : FdO wsX4_init RX4 24 RX4 TX4 8 4 0 := ⟨by decide +kernel, rfl, by decide, by decide +kernel⟩
theorem fd_X4_init_28 : FdO wsX4_init RX4 28 RX4 TX4 8 4 1 := ⟨by decide +kernel, rfl, by decide, by decide +kernel⟩
theorem ff_X4_0 : FfO TX4 8 0 tyX4 RX4 := ⟨tyX4_ok, nmX4, rfl, rfl, tyX4 0, tyX4_ok 0 (by decide), fun _ => ⟨rfl, rfl⟩⟩
theorem ff_X4_1 : FfO TX4 8 1 tyX4 RX4 := ⟨tyX4_ok, nmX4, rfl, rfl, tyX4 1, tyX4_ok 1 (by decide), fun _ => ⟨rfl, rfl⟩⟩
theorem ff_X4_2 : FfO TX4 8 2 tyX4 RX4 := ⟨tyX4_ok, nmX4, rfl, rfl, tyX4 2, tyX4_ok 2 (by decide), fun _ => ⟨rfl, rfl⟩⟩
theorem ff_X4_3 : FfO TX4 8 3 tyX4 RX4 := ⟨tyX4_ok, nmX4, rfl, rfl, tyX4 3, tyX4_ok 3 (by decide), fun _ => ⟨rfl, rfl⟩⟩
theorem ff_X4_4 : FfO TX4 8 4 tyX4 RX4 := ⟨tyX4_ok, nmX4, rfl, rfl, tyX4 4, tyX4_ok 4 (by decide), fun _ => ⟨rfl, rfl⟩⟩
theorem ff_X4_5 : FfO TX4 8 5 tyX4 RX4 := ⟨tyX4_ok, nmX4, rfl, rfl, tyX4 5, tyX4_ok 5 (by decide), fun _ => ⟨rfl, rfl⟩⟩
set_option maxRecDepth 20000 in
theorem i_X4 {l : Launch} {D : va_G} {cI cZ : ClassId} {a p0 p1 : Nat} : KC l D cI cZ (fun _ => True) yX4_init wsX4_init rm_X4_init [.ref a, .ref p0, .ref p1] [(a, .inr (4, [.null, .null, .null, .null, .null, .null, .int 0, .int 0]))] (fun u => [(a, .inr (4, [.ref p0, .ref p1, .ref (u 0), .ref (u 1), .ref (u 2), .ref (u 3), .int 0, .int 0])), ((u 0), .inl (cI, 4096, .inl (fun _ => 0))), ((u 1), .inl (cI, 23760, .inl (fun _ => 0))), ((u 2), .inl (cI, 23760, .inl (fun _ => 0))), ((u 3), .inl (cI, 23760, .inl (fun _ => 0)))]) := by
  refine k_entry _ (by decide) rfl rfl [(0, .ref a), (1, .ref p0), (2, .ref p1)] rfl (Nat.le_of_ble_eq_true rfl) (fun X A O hin hE hAe fin => ?_)
  refine k_aload_n O dX4_init_0 0 rfl rfl ?_
  refine k_obj O dX4_init_1 (by decide +kernel) (by decide +kernel) (List.mem_of_getElem? (i := 3) rfl) (by decide) (Nat.le_of_ble_eq_true rfl) ?_
  refine k_aload_n O dX4_init_4 0 rfl rfl ?_
  refine k_sipush (v := 4096) O dX4_init_5 (by decide) ?_
  refine k_newI O 4096 (by decide +kernel) (by decide) (by decide) (by decide) (by decide) (by decide) 1 4096 rfl rfl dX4_init_8 (fun q1 => ?_)
  refine k_putF O hin fd_X4_init_11 ff_X4_2 0 rfl (Nat.le_of_ble_eq_true rfl) [(a, .inr (4, [.null, .null, .ref q1, .null, .null, .null, .int 0, .int 0])), (q1, .inl (cI, 4096, .inl (fun _ => 0)))] rfl dX4_init_10 ?_
  refine k_aload_n O dX4_init_13 0 rfl rfl ?_
  refine k_sipush (v := 23760) O dX4_init_14 (by decide) ?_
  refine k_newI O 23760 (by decide +kernel) (by decide) (by decide) (by decide) (by decide) (by decide) 2 27856 rfl rfl dX4_init_17 (fun q2 => ?_)
  refine k_putF O hin fd_X4_init_15 ff_X4_3 0 rfl (Nat.le_of_ble_eq_true rfl) [(a, .inr (4, [.null, .null, .ref q1, .ref q2, .null, .null, .int 0, .int 0])), (q1, .inl (cI, 4096, .inl (fun _ => 0))), (q2, .inl (cI, 23760, .inl (fun _ => 0)))] rfl dX4_init_19 ?_
  refine k_aload_n O dX4_init_22 0 rfl rfl ?_
  refine k_sipush (v := 23760) O dX4_init_23 (by decide) ?_
  refine k_newI O 23760 (by decide +kernel) (by decide) (by decide) (by decide) (by decide) (by decide) 3 51616 rfl rfl dX4_init_26 (fun q3 => ?_)
  refine k_putF O hin fd_X4_init_18 ff_X4_4 0 rfl (Nat.le_of_ble_eq_true rfl) [(a, .inr (4, [.null, .null, .ref q1, .ref q2, .ref q3, .null, .int 0, .int 0])), (q1, .inl (cI, 4096, .inl (fun _ => 0))), (q2, .inl (cI, 23760, .inl (fun _ => 0))), (q3, .inl (cI, 23760, .inl (fun _ => 0)))] rfl dX4_init_28 ?_
  refine k_aload_n O dX4_init_31 0 rfl rfl ?_
  refine k_sipush (v := 23760) O dX4_init_32 (by decide) ?_
  refine k_newI O 23760 (by decide +kernel) (by decide) (by decide) (by decide) (by decide) (by decide) 4 75376 rfl rfl dX4_init_35 (fun q4 => ?_)
  refine k_putF O hin fd_X4_init_21 ff_X4_5 0 rfl (Nat.le_of_ble_eq_true rfl) [(a, .inr (4, [.null, .null, .ref q1, .ref q2, .ref q3, .ref q4, .int 0, .int 0])), (q1, .inl (cI, 4096, .inl (fun _ => 0))), (q2, .inl (cI, 23760, .inl (fun _ => 0))), (q3, .inl (cI, 23760, .inl (fun _ => 0))), (q4, .inl (cI, 23760, .inl (fun _ => 0)))] rfl dX4_init_37 ?_
  refine k_aload_n O dX4_init_40 0 rfl rfl ?_
  refine k_aload_n O dX4_init_41 1 rfl rfl ?_
  refine k_putF O hin fd_X4_init_24 ff_X4_0 0 rfl (Nat.le_of_ble_eq_true rfl) [(a, .inr (4, [.ref p0, .null, .ref q1, .ref q2, .ref q3, .ref q4, .int 0, .int 0])), (q1, .inl (cI, 4096, .inl (fun _ => 0))), (q2, .inl (cI, 23760, .inl (fun _ => 0))), (q3, .inl (cI, 23760, .inl (fun _ => 0))), (q4, .inl (cI, 23760, .inl (fun _ => 0)))] rfl dX4_init_42 ?_
  refine k_aload_n O dX4_init_45 0 rfl rfl ?_
  refine k_aload_n O dX4_init_46 2 rfl rfl ?_
  refine k_putF O hin fd_X4_init_28 ff_X4_1 0 rfl (Nat.le_of_ble_eq_true rfl) [(a, .inr (4, [.ref p0, .ref p1, .ref q1, .ref q2, .ref q3, .ref q4, .int 0, .int 0])), (q1, .inl (cI, 4096, .inl (fun _ => 0))), (q2, .inl (cI, 23760, .inl (fun _ => 0))), (q3, .inl (cI, 23760, .inl (fun _ => 0))), (q4, .inl (cI, 23760, .inl (fun _ => 0)))] rfl dX4_init_47 ?_
  exact fin 50 _ _ _ _ (fun i => [q1, q2, q3, q4].getD i 0) dX4_init_50 rfl (by decide) (by decide)
/-! ===== X8 constructor ===== -/
abbrev rm_X8_init : Room := { frames := 1, cells := 15, slots := 166216, locals := 12 }
theorem fd_X8_init_7 : FdO wsX8_init RX8 7 RX8 TX8 34 8 0 := ⟨by decide +kernel, rfl, by decide, by decide +kernel⟩
theorem fd_X8_init_13 : FdO wsX8_init RX8 13 RX8 TX8 34 8 1 := ⟨by decide +kernel, rfl, by decide, by decide +kernel⟩
theorem fd_X8_init_16 : FdO wsX8_init RX8 16 RX8 TX8 34 8 5 := ⟨by decide +kernel, rfl, by decide, by decide +kernel⟩
theorem fd_X8_init_20 : FdO wsX8_init RX8 20 RX8 TX8 34 8 7 := ⟨by decide +kernel, rfl, by decide, by decide +kernel⟩
theorem fd_X8_init_23 : FdO wsX8_init RX8 23 RX8 TX8 34 8 18 := ⟨by decide +kernel, rfl, by decide, by decide +kernel⟩
theorem fd_X8_init_26 : FdO wsX8_init RX8 26 RX8 TX8 34 8 19 := ⟨by decide +kernel, rfl, by decide, by decide +kernel⟩
theorem fd_X8_init_29 : FdO wsX8_init RX8 29 RX8 TX8 34 8 20 := ⟨by decide +kernel, rfl, by decide, by decide +kernel⟩
theorem fd_X8_init_32 : FdO wsX8_init RX8 32 RX8 TX8 34 8 21 := ⟨by decide +kernel, rfl, by decide, by decide +kernel⟩
theorem fd_X8_init_35 : FdO wsX8_init RX8 35 RX8 TX8 34 8 23 := ⟨by decide +kernel, rfl, by decide, by decide +kernel⟩
theorem fd_X8_init_38 : FdO wsX8_init RX8 38 RX8 TX8 34 8 24 := ⟨by decide +kernel, rfl, by decide, by decide +kernel⟩
theorem fd_X8_init_42 : FdO wsX8_init RX8 42 RX8 TX8 34 8 26 := ⟨by decide +kernel, rfl, by decide, by decide +kernel⟩
theorem fd_X8_init_46 : FdO wsX8_init RX8 46 RX8 TX8 34 8 27 := ⟨by decide +kernel, rfl, by decide, by decide +kernel⟩
theorem fd_X8_init_49 : FdO wsX8_init RX8 49 RX8 TX8 34 8 28 := ⟨by decide +kernel, rfl, by decide, by decide +kernel⟩
theorem fd_X8_init_52 : FdO wsX8_init RX8 52 RX8 TX8 34 8 29 := ⟨by decide +kernel, rfl, by decide, by decide +kernel⟩
theorem fd_X8_init_55 : FdO wsX8_init RX8 55 RX8 TX8 34 8 30 := ⟨by decide +kernel, rfl, by decide, by decide +kernel⟩
theorem fd_X8_init_58 : FdO wsX8_init RX8 58 RX8 TX8 34 8 32 := ⟨by decide +kernel, rfl, by decide, by decide +kernel⟩
theorem fd_X8_init_61 : FdO wsX8_init RX8 61 RX8 TX8 34 8 33 := ⟨by decide +kernel, rfl, by decide, by decide +kernel⟩
theorem ff_X8_5 : FfO TX8 34 5 tyX8 RX8 := ⟨tyX8_ok, nmX8, rfl, rfl, tyX8 5, tyX8_ok 5 (by decide), fun _ => ⟨rfl, rfl⟩⟩
theorem ff_X8_7 : FfO TX8 34 7 tyX8 RX8 := ⟨tyX8_ok, nmX8, rfl, rfl, tyX8 7, tyX8_ok 7 (by decide), fun _ => ⟨rfl, rfl⟩⟩
theorem ff_X8_18 : FfO TX8 34 18 tyX8 RX8 := ⟨tyX8_ok, nmX8, rfl, rfl, tyX8 18, tyX8_ok 18 (by decide), fun _ => ⟨rfl, rfl⟩⟩
theorem ff_X8_19 : FfO TX8 34 19 tyX8 RX8 := ⟨tyX8_ok, nmX8, rfl, rfl, tyX8 19, tyX8_ok 19 (by decide), fun _ => ⟨rfl, rfl⟩⟩
theorem ff_X8_20 : FfO TX8 34 20 tyX8 RX8 := ⟨tyX8_ok, nmX8, rfl, rfl, tyX8 20, tyX8_ok 20 (by decide), fun _ => ⟨rfl, rfl⟩⟩
theorem ff_X8_21 : FfO TX8 34 21 tyX8 RX8 := ⟨tyX8_ok, nmX8, rfl, rfl, tyX8 21, tyX8_ok 21 (by decide), fun _ => ⟨rfl, rfl⟩⟩
theorem ff_X8_23 : FfO TX8 34 23 tyX8 RX8 := ⟨tyX8_ok, nmX8, rfl, rfl, tyX8 23, tyX8_ok 23 (by decide), fun _ => ⟨rfl, rfl⟩⟩
theorem ff_X8_24 : FfO TX8 34 24 tyX8 RX8 := ⟨tyX8_ok, nmX8, rfl, rfl, tyX8 24, tyX8_ok 24 (by decide), fun _ => ⟨rfl, rfl⟩⟩
theorem ff_X8_26 : FfO TX8 34 26 tyX8 RX8 := ⟨tyX8_ok, nmX8, rfl, rfl, tyX8 26, tyX8_ok 26 (by decide), fun _ => ⟨rfl, rfl⟩⟩
theorem ff_X8_27 : FfO TX8 34 27 tyX8 RX8 := ⟨tyX8_ok, nmX8, rfl, rfl, tyX8 27, tyX8_ok 27 (by decide), fun _ => ⟨rfl, rfl⟩⟩
theorem ff_X8_28 : FfO TX8 34 28 tyX8 RX8 := ⟨tyX8_ok, nmX8, rfl, rfl, tyX8 28, tyX8_ok 28 (by decide), fun _ => ⟨rfl, rfl⟩⟩
theorem ff_X8_29 : FfO TX8 34 29 tyX8 RX8 := ⟨tyX8_ok, nmX8, rfl, rfl, tyX8 29, tyX8_ok 29 (by decide), fun _ => ⟨rfl, rfl⟩⟩
theorem ff_X8_30 : FfO TX8 34 30 tyX8 RX8 := ⟨tyX8_ok, nmX8, rfl, rfl, tyX8 30, tyX8_ok 30 (by decide), fun _ => ⟨rfl, rfl⟩⟩
theorem ff_X8_32 : FfO TX8 34 32 tyX8 RX8 := ⟨tyX8_ok, nmX8, rfl, rfl, tyX8 32, tyX8_ok 32 (by decide), fun _ => ⟨rfl, rfl⟩⟩
theorem ff_X8_33 : FfO TX8 34 33 tyX8 RX8 := ⟨tyX8_ok, nmX8, rfl, rfl, tyX8 33, tyX8_ok 33 (by decide), fun _ => ⟨rfl, rfl⟩⟩
set_option maxRecDepth 20000 in
theorem i_X8 {l : Launch} {D : va_G} {cI cZ : ClassId} {a : Nat} : KC l D cI cZ (fun _ => True) yX8_init wsX8_init rm_X8_init [.ref a] [(a, .inr (8, [.int 0, .int 0, .int 0, .int 0, .int 0, .null, .int 0, .null, .int 0, .int 0, .long 0, .int 0, .int 0, .int 0, .int 0, .int 0, .int 0, .int 0, .null, .null, .null, .null, .int 0, .null, .null, .int 0, .null, .null, .null, .null, .null, .int 0, .null, .null]))] (fun u => [(a, .inr (8, [.int 3, .int 3, .int 0, .int 0, .int 0, .ref (u 0), .int 0, .ref (u 1), .int 0, .int 0, .long 0, .int 0, .int 0, .int 0, .int 0, .int 0, .int 0, .int 0, .ref (u 2), .ref (u 3), .ref (u 4), .ref (u 5), .int 0, .ref (u 6), .ref (u 7), .int 0, .ref (u 8), .ref (u 9), .ref (u 10), .ref (u 11), .ref (u 12), .int 0, .ref (u 13), .ref (u 14)])), ((u 0), .inl (cI, 16, .inl (fun _ => 0))), ((u 1), .inl (cI, 200, .inl (fun _ => 0))), ((u 2), .inl (cI, 4, .inl (fun _ => 0))), ((u 3), .inl (cI, 4, .inl (fun _ => 0))), ((u 4), .inl (cI, 48, .inl (fun _ => 0))), ((u 5), .inl (cI, 4, .inl (fun _ => 0))), ((u 6), .inl (cI, 10, .inl (fun _ => 0))), ((u 7), .inl (cZ, 2, .inl (fun _ => 0))), ((u 8), .inl (cI, 24, .inl (fun _ => 0))), ((u 9), .inl (cI, 41472, .inl (fun _ => 0))), ((u 10), .inl (cI, 41472, .inl (fun _ => 0))), ((u 11), .inl (cI, 41472, .inl (fun _ => 0))), ((u 12), .inl (cI, 41472, .inl (fun _ => 0))), ((u 13), .inl (cI, 4, .inl (fun _ => 0))), ((u 14), .inl (cI, 12, .inl (fun _ => 0)))]) := by
  refine k_entry _ (by decide) rfl rfl [(0, .ref a)] rfl (Nat.le_of_ble_eq_true rfl) (fun X A O hin hE hAe fin => ?_)
  refine k_aload_n O dX8_init_0 0 rfl rfl ?_
  refine k_obj O dX8_init_1 (by decide +kernel) (by decide +kernel) (List.mem_of_getElem? (i := 3) rfl) (by decide) (Nat.le_of_ble_eq_true rfl) ?_
  refine k_aload_n O dX8_init_4 0 rfl rfl ?_
  refine k_iconst (v := 3) O dX8_init_5 (by decide) ?_
  refine k_put O fd_X8_init_7 fp_X8_0 0 rfl (Nat.le_of_ble_eq_true rfl) [(a, .inr (8, [.int 3, .int 0, .int 0, .int 0, .int 0, .null, .int 0, .null, .int 0, .int 0, .long 0, .int 0, .int 0, .int 0, .int 0, .int 0, .int 0, .int 0, .null, .null, .null, .null, .int 0, .null, .null, .int 0, .null, .null, .null, .null, .null, .int 0, .null, .null]))] rfl dX8_init_6 ?_
  refine k_aload_n O dX8_init_9 0 rfl rfl ?_
  refine k_iconst (v := 3) O dX8_init_10 (by decide) ?_
  refine k_put O fd_X8_init_13 fp_X8_1 0 rfl (Nat.le_of_ble_eq_true rfl) [(a, .inr (8, [.int 3, .int 3, .int 0, .int 0, .int 0, .null, .int 0, .null, .int 0, .int 0, .long 0, .int 0, .int 0, .int 0, .int 0, .int 0, .int 0, .int 0, .null, .null, .null, .null, .int 0, .null, .null, .int 0, .null, .null, .null, .null, .null, .int 0, .null, .null]))] rfl dX8_init_11 ?_
  refine k_aload_n O dX8_init_14 0 rfl rfl ?_
  refine k_bipush (v := 16) O dX8_init_15 (by decide) ?_
  refine k_newI O 16 (by decide +kernel) (by decide) (by decide) (by decide) (by decide) (by decide) 1 16 rfl rfl dX8_init_17 (fun q1 => ?_)
  refine k_putF O hin fd_X8_init_16 ff_X8_5 0 rfl (Nat.le_of_ble_eq_true rfl) [(a, .inr (8, [.int 3, .int 3, .int 0, .int 0, .int 0, .ref q1, .int 0, .null, .int 0, .int 0, .long 0, .int 0, .int 0, .int 0, .int 0, .int 0, .int 0, .int 0, .null, .null, .null, .null, .int 0, .null, .null, .int 0, .null, .null, .null, .null, .null, .int 0, .null, .null])), (q1, .inl (cI, 16, .inl (fun _ => 0)))] rfl dX8_init_19 ?_
  refine k_aload_n O dX8_init_22 0 rfl rfl ?_
  refine k_sipush (v := 200) O dX8_init_23 (by decide) ?_
  refine k_newI O 200 (by decide +kernel) (by decide) (by decide) (by decide) (by decide) (by decide) 2 216 rfl rfl dX8_init_26 (fun q2 => ?_)
  refine k_putF O hin fd_X8_init_20 ff_X8_7 0 rfl (Nat.le_of_ble_eq_true rfl) [(a, .inr (8, [.int 3, .int 3, .int 0, .int 0, .int 0, .ref q1, .int 0, .ref q2, .int 0, .int 0, .long 0, .int 0, .int 0, .int 0, .int 0, .int 0, .int 0, .int 0, .null, .null, .null, .null, .int 0, .null, .null, .int 0, .null, .null, .null, .null, .null, .int 0, .null, .null])), (q1, .inl (cI, 16, .inl (fun _ => 0))), (q2, .inl (cI, 200, .inl (fun _ => 0)))] rfl dX8_init_28 ?_
  refine k_aload_n O dX8_init_31 0 rfl rfl ?_
  refine k_iconst (v := 4) O dX8_init_32 (by decide) ?_
  refine k_newI O 4 (by decide +kernel) (by decide) (by decide) (by decide) (by decide) (by decide) 3 220 rfl rfl dX8_init_33 (fun q3 => ?_)
  refine k_putF O hin fd_X8_init_23 ff_X8_18 0 rfl (Nat.le_of_ble_eq_true rfl) [(a, .inr (8, [.int 3, .int 3, .int 0, .int 0, .int 0, .ref q1, .int 0, .ref q2, .int 0, .int 0, .long 0, .int 0, .int 0, .int 0, .int 0, .int 0, .int 0, .int 0, .ref q3, .null, .null, .null, .int 0, .null, .null, .int 0, .null, .null, .null, .null, .null, .int 0, .null, .null])), (q1, .inl (cI, 16, .inl (fun _ => 0))), (q2, .inl (cI, 200, .inl (fun _ => 0))), (q3, .inl (cI, 4, .inl (fun _ => 0)))] rfl dX8_init_35 ?_
  refine k_aload_n O dX8_init_38 0 rfl rfl ?_
  refine k_iconst (v := 4) O dX8_init_39 (by decide) ?_
  refine k_newI O 4 (by decide +kernel) (by decide) (by decide) (by decide) (by decide) (by decide) 4 224 rfl rfl dX8_init_40 (fun q4 => ?_)
  refine k_putF O hin fd_X8_init_26 ff_X8_19 0 rfl (Nat.le_of_ble_eq_true rfl) [(a, .inr (8, [.int 3, .int 3, .int 0, .int 0, .int 0, .ref q1, .int 0, .ref q2, .int 0, .int 0, .long 0, .int 0, .int 0, .int 0, .int 0, .int 0, .int 0, .int 0, .ref q3, .ref q4, .null, .null, .int 0, .null, .null, .int 0, .null, .null, .null, .null, .null, .int 0, .null, .null])), (q1, .inl (cI, 16, .inl (fun _ => 0))), (q2, .inl (cI, 200, .inl (fun _ => 0))), (q3, .inl (cI, 4, .inl (fun _ => 0))), (q4, .inl (cI, 4, .inl (fun _ => 0)))] rfl dX8_init_42 ?_
  refine k_aload_n O dX8_init_45 0 rfl rfl ?_
  refine k_bipush (v := 48) O dX8_init_46 (by decide) ?_
  refine k_newI O 48 (by decide +kernel) (by decide) (by decide) (by decide) (by decide) (by decide) 5 272 rfl rfl dX8_init_48 (fun q5 => ?_)
  refine k_putF O hin fd_X8_init_29 ff_X8_20 0 rfl (Nat.le_of_ble_eq_true rfl) [(a, .inr (8, [.int 3, .int 3, .int 0, .int 0, .int 0, .ref q1, .int 0, .ref q2, .int 0, .int 0, .long 0, .int 0, .int 0, .int 0, .int 0, .int 0, .int 0, .int 0, .ref q3, .ref q4, .ref q5, .null, .int 0, .null, .null, .int 0, .null, .null, .null, .null, .null, .int 0, .null, .null])), (q1, .inl (cI, 16, .inl (fun _ => 0))), (q2, .inl (cI, 200, .inl (fun _ => 0))), (q3, .inl (cI, 4, .inl (fun _ => 0))), (q4, .inl (cI, 4, .inl (fun _ => 0))), (q5, .inl (cI, 48, .inl (fun _ => 0)))] rfl dX8_init_50 ?_
  refine k_aload_n O dX8_init_53 0 rfl rfl ?_
  refine k_iconst (v := 4) O dX8_init_54 (by decide) ?_
  refine k_newI O 4 (by decide +kernel) (by decide) (by decide) (by decide) (by decide) (by decide) 6 276 rfl rfl dX8_init_55 (fun q6 => ?_)
  refine k_putF O hin fd_X8_init_32 ff_X8_21 0 rfl (Nat.le_of_ble_eq_true rfl) [(a, .inr (8, [.int 3, .int 3, .int 0, .int 0, .int 0, .ref q1, .int 0, .ref q2, .int 0, .int 0, .long 0, .int 0, .int 0, .int 0, .int 0, .int 0, .int 0, .int 0, .ref q3, .ref q4, .ref q5, .ref q6, .int 0, .null, .null, .int 0, .null, .null, .null, .null, .null, .int 0, .null, .null])), (q1, .inl (cI, 16, .inl (fun _ => 0))), (q2, .inl (cI, 200, .inl (fun _ => 0))), (q3, .inl (cI, 4, .inl (fun _ => 0))), (q4, .inl (cI, 4, .inl (fun _ => 0))), (q5, .inl (cI, 48, .inl (fun _ => 0))), (q6, .inl (cI, 4, .inl (fun _ => 0)))] rfl dX8_init_57 ?_
  refine k_aload_n O dX8_init_60 0 rfl rfl ?_
  refine k_bipush (v := 10) O dX8_init_61 (by decide) ?_
  refine k_newI O 10 (by decide +kernel) (by decide) (by decide) (by decide) (by decide) (by decide) 7 286 rfl rfl dX8_init_63 (fun q7 => ?_)
  refine k_putF O hin fd_X8_init_35 ff_X8_23 0 rfl (Nat.le_of_ble_eq_true rfl) [(a, .inr (8, [.int 3, .int 3, .int 0, .int 0, .int 0, .ref q1, .int 0, .ref q2, .int 0, .int 0, .long 0, .int 0, .int 0, .int 0, .int 0, .int 0, .int 0, .int 0, .ref q3, .ref q4, .ref q5, .ref q6, .int 0, .ref q7, .null, .int 0, .null, .null, .null, .null, .null, .int 0, .null, .null])), (q1, .inl (cI, 16, .inl (fun _ => 0))), (q2, .inl (cI, 200, .inl (fun _ => 0))), (q3, .inl (cI, 4, .inl (fun _ => 0))), (q4, .inl (cI, 4, .inl (fun _ => 0))), (q5, .inl (cI, 48, .inl (fun _ => 0))), (q6, .inl (cI, 4, .inl (fun _ => 0))), (q7, .inl (cI, 10, .inl (fun _ => 0)))] rfl dX8_init_65 ?_
  refine k_aload_n O dX8_init_68 0 rfl rfl ?_
  refine k_iconst (v := 2) O dX8_init_69 (by decide) ?_
  refine k_newZ O 2 (by decide +kernel) (by decide) (by decide) (by decide) (by decide) (by decide) 8 288 rfl rfl dX8_init_70 (fun q8 => ?_)
  refine k_putF O hin fd_X8_init_38 ff_X8_24 0 rfl (Nat.le_of_ble_eq_true rfl) [(a, .inr (8, [.int 3, .int 3, .int 0, .int 0, .int 0, .ref q1, .int 0, .ref q2, .int 0, .int 0, .long 0, .int 0, .int 0, .int 0, .int 0, .int 0, .int 0, .int 0, .ref q3, .ref q4, .ref q5, .ref q6, .int 0, .ref q7, .ref q8, .int 0, .null, .null, .null, .null, .null, .int 0, .null, .null])), (q1, .inl (cI, 16, .inl (fun _ => 0))), (q2, .inl (cI, 200, .inl (fun _ => 0))), (q3, .inl (cI, 4, .inl (fun _ => 0))), (q4, .inl (cI, 4, .inl (fun _ => 0))), (q5, .inl (cI, 48, .inl (fun _ => 0))), (q6, .inl (cI, 4, .inl (fun _ => 0))), (q7, .inl (cI, 10, .inl (fun _ => 0))), (q8, .inl (cZ, 2, .inl (fun _ => 0)))] rfl dX8_init_72 ?_
  refine k_aload_n O dX8_init_75 0 rfl rfl ?_
  refine k_bipush (v := 24) O dX8_init_76 (by decide) ?_
  refine k_newI O 24 (by decide +kernel) (by decide) (by decide) (by decide) (by decide) (by decide) 9 312 rfl rfl dX8_init_78 (fun q9 => ?_)
  refine k_putF O hin fd_X8_init_42 ff_X8_26 0 rfl (Nat.le_of_ble_eq_true rfl) [(a, .inr (8, [.int 3, .int 3, .int 0, .int 0, .int 0, .ref q1, .int 0, .ref q2, .int 0, .int 0, .long 0, .int 0, .int 0, .int 0, .int 0, .int 0, .int 0, .int 0, .ref q3, .ref q4, .ref q5, .ref q6, .int 0, .ref q7, .ref q8, .int 0, .ref q9, .null, .null, .null, .null, .int 0, .null, .null])), (q1, .inl (cI, 16, .inl (fun _ => 0))), (q2, .inl (cI, 200, .inl (fun _ => 0))), (q3, .inl (cI, 4, .inl (fun _ => 0))), (q4, .inl (cI, 4, .inl (fun _ => 0))), (q5, .inl (cI, 48, .inl (fun _ => 0))), (q6, .inl (cI, 4, .inl (fun _ => 0))), (q7, .inl (cI, 10, .inl (fun _ => 0))), (q8, .inl (cZ, 2, .inl (fun _ => 0))), (q9, .inl (cI, 24, .inl (fun _ => 0)))] rfl dX8_init_80 ?_
  refine k_aload_n O dX8_init_83 0 rfl rfl ?_
  refine k_ldc (v := 41472) O dX8_init_84 (by decide +kernel) ?_
  refine k_newI O 41472 (by decide +kernel) (by decide) (by decide) (by decide) (by decide) (by decide) 10 41784 rfl rfl dX8_init_86 (fun q10 => ?_)
  refine k_putF O hin fd_X8_init_46 ff_X8_27 0 rfl (Nat.le_of_ble_eq_true rfl) [(a, .inr (8, [.int 3, .int 3, .int 0, .int 0, .int 0, .ref q1, .int 0, .ref q2, .int 0, .int 0, .long 0, .int 0, .int 0, .int 0, .int 0, .int 0, .int 0, .int 0, .ref q3, .ref q4, .ref q5, .ref q6, .int 0, .ref q7, .ref q8, .int 0, .ref q9, .ref q10, .null, .null, .null, .int 0, .null, .null])), (q1, .inl (cI, 16, .inl (fun _ => 0))), (q2, .inl (cI, 200, .inl (fun _ => 0))), (q3, .inl (cI, 4, .inl (fun _ => 0))), (q4, .inl (cI, 4, .inl (fun _ => 0))), (q5, .inl (cI, 48, .inl (fun _ => 0))), (q6, .inl (cI, 4, .inl (fun _ => 0))), (q7, .inl (cI, 10, .inl (fun _ => 0))), (q8, .inl (cZ, 2, .inl (fun _ => 0))), (q9, .inl (cI, 24, .inl (fun _ => 0))), (q10, .inl (cI, 41472, .inl (fun _ => 0)))] rfl dX8_init_88 ?_
  refine k_aload_n O dX8_init_91 0 rfl rfl ?_
  refine k_ldc (v := 41472) O dX8_init_92 (by decide +kernel) ?_
  refine k_newI O 41472 (by decide +kernel) (by decide) (by decide) (by decide) (by decide) (by decide) 11 83256 rfl rfl dX8_init_94 (fun q11 => ?_)
  refine k_putF O hin fd_X8_init_49 ff_X8_28 0 rfl (Nat.le_of_ble_eq_true rfl) [(a, .inr (8, [.int 3, .int 3, .int 0, .int 0, .int 0, .ref q1, .int 0, .ref q2, .int 0, .int 0, .long 0, .int 0, .int 0, .int 0, .int 0, .int 0, .int 0, .int 0, .ref q3, .ref q4, .ref q5, .ref q6, .int 0, .ref q7, .ref q8, .int 0, .ref q9, .ref q10, .ref q11, .null, .null, .int 0, .null, .null])), (q1, .inl (cI, 16, .inl (fun _ => 0))), (q2, .inl (cI, 200, .inl (fun _ => 0))), (q3, .inl (cI, 4, .inl (fun _ => 0))), (q4, .inl (cI, 4, .inl (fun _ => 0))), (q5, .inl (cI, 48, .inl (fun _ => 0))), (q6, .inl (cI, 4, .inl (fun _ => 0))), (q7, .inl (cI, 10, .inl (fun _ => 0))), (q8, .inl (cZ, 2, .inl (fun _ => 0))), (q9, .inl (cI, 24, .inl (fun _ => 0))), (q10, .inl (cI, 41472, .inl (fun _ => 0))), (q11, .inl (cI, 41472, .inl (fun _ => 0)))] rfl dX8_init_96 ?_
  refine k_aload_n O dX8_init_99 0 rfl rfl ?_
  refine k_ldc (v := 41472) O dX8_init_100 (by decide +kernel) ?_
  refine k_newI O 41472 (by decide +kernel) (by decide) (by decide) (by decide) (by decide) (by decide) 12 124728 rfl rfl dX8_init_102 (fun q12 => ?_)
  refine k_putF O hin fd_X8_init_52 ff_X8_29 0 rfl (Nat.le_of_ble_eq_true rfl) [(a, .inr (8, [.int 3, .int 3, .int 0, .int 0, .int 0, .ref q1, .int 0, .ref q2, .int 0, .int 0, .long 0, .int 0, .int 0, .int 0, .int 0, .int 0, .int 0, .int 0, .ref q3, .ref q4, .ref q5, .ref q6, .int 0, .ref q7, .ref q8, .int 0, .ref q9, .ref q10, .ref q11, .ref q12, .null, .int 0, .null, .null])), (q1, .inl (cI, 16, .inl (fun _ => 0))), (q2, .inl (cI, 200, .inl (fun _ => 0))), (q3, .inl (cI, 4, .inl (fun _ => 0))), (q4, .inl (cI, 4, .inl (fun _ => 0))), (q5, .inl (cI, 48, .inl (fun _ => 0))), (q6, .inl (cI, 4, .inl (fun _ => 0))), (q7, .inl (cI, 10, .inl (fun _ => 0))), (q8, .inl (cZ, 2, .inl (fun _ => 0))), (q9, .inl (cI, 24, .inl (fun _ => 0))), (q10, .inl (cI, 41472, .inl (fun _ => 0))), (q11, .inl (cI, 41472, .inl (fun _ => 0))), (q12, .inl (cI, 41472, .inl (fun _ => 0)))] rfl dX8_init_104 ?_
  refine k_aload_n O dX8_init_107 0 rfl rfl ?_
  refine k_ldc (v := 41472) O dX8_init_108 (by decide +kernel) ?_
  refine k_newI O 41472 (by decide +kernel) (by decide) (by decide) (by decide) (by decide) (by decide) 13 166200 rfl rfl dX8_init_110 (fun q13 => ?_)
  refine k_putF O hin fd_X8_init_55 ff_X8_30 0 rfl (Nat.le_of_ble_eq_true rfl) [(a, .inr (8, [.int 3, .int 3, .int 0, .int 0, .int 0, .ref q1, .int 0, .ref q2, .int 0, .int 0, .long 0, .int 0, .int 0, .int 0, .int 0, .int 0, .int 0, .int 0, .ref q3, .ref q4, .ref q5, .ref q6, .int 0, .ref q7, .ref q8, .int 0, .ref q9, .ref q10, .ref q11, .ref q12, .ref q13, .int 0, .null, .null])), (q1, .inl (cI, 16, .inl (fun _ => 0))), (q2, .inl (cI, 200, .inl (fun _ => 0))), (q3, .inl (cI, 4, .inl (fun _ => 0))), (q4, .inl (cI, 4, .inl (fun _ => 0))), (q5, .inl (cI, 48, .inl (fun _ => 0))), (q6, .inl (cI, 4, .inl (fun _ => 0))), (q7, .inl (cI, 10, .inl (fun _ => 0))), (q8, .inl (cZ, 2, .inl (fun _ => 0))), (q9, .inl (cI, 24, .inl (fun _ => 0))), (q10, .inl (cI, 41472, .inl (fun _ => 0))), (q11, .inl (cI, 41472, .inl (fun _ => 0))), (q12, .inl (cI, 41472, .inl (fun _ => 0))), (q13, .inl (cI, 41472, .inl (fun _ => 0)))] rfl dX8_init_112 ?_
  refine k_aload_n O dX8_init_115 0 rfl rfl ?_
  refine k_iconst (v := 4) O dX8_init_116 (by decide) ?_
  refine k_newI O 4 (by decide +kernel) (by decide) (by decide) (by decide) (by decide) (by decide) 14 166204 rfl rfl dX8_init_117 (fun q14 => ?_)
  refine k_putF O hin fd_X8_init_58 ff_X8_32 0 rfl (Nat.le_of_ble_eq_true rfl) [(a, .inr (8, [.int 3, .int 3, .int 0, .int 0, .int 0, .ref q1, .int 0, .ref q2, .int 0, .int 0, .long 0, .int 0, .int 0, .int 0, .int 0, .int 0, .int 0, .int 0, .ref q3, .ref q4, .ref q5, .ref q6, .int 0, .ref q7, .ref q8, .int 0, .ref q9, .ref q10, .ref q11, .ref q12, .ref q13, .int 0, .ref q14, .null])), (q1, .inl (cI, 16, .inl (fun _ => 0))), (q2, .inl (cI, 200, .inl (fun _ => 0))), (q3, .inl (cI, 4, .inl (fun _ => 0))), (q4, .inl (cI, 4, .inl (fun _ => 0))), (q5, .inl (cI, 48, .inl (fun _ => 0))), (q6, .inl (cI, 4, .inl (fun _ => 0))), (q7, .inl (cI, 10, .inl (fun _ => 0))), (q8, .inl (cZ, 2, .inl (fun _ => 0))), (q9, .inl (cI, 24, .inl (fun _ => 0))), (q10, .inl (cI, 41472, .inl (fun _ => 0))), (q11, .inl (cI, 41472, .inl (fun _ => 0))), (q12, .inl (cI, 41472, .inl (fun _ => 0))), (q13, .inl (cI, 41472, .inl (fun _ => 0))), (q14, .inl (cI, 4, .inl (fun _ => 0)))] rfl dX8_init_119 ?_
  refine k_aload_n O dX8_init_122 0 rfl rfl ?_
  refine k_bipush (v := 12) O dX8_init_123 (by decide) ?_
  refine k_newI O 12 (by decide +kernel) (by decide) (by decide) (by decide) (by decide) (by decide) 15 166216 rfl rfl dX8_init_125 (fun q15 => ?_)
  refine k_putF O hin fd_X8_init_61 ff_X8_33 0 rfl (Nat.le_of_ble_eq_true rfl) [(a, .inr (8, [.int 3, .int 3, .int 0, .int 0, .int 0, .ref q1, .int 0, .ref q2, .int 0, .int 0, .long 0, .int 0, .int 0, .int 0, .int 0, .int 0, .int 0, .int 0, .ref q3, .ref q4, .ref q5, .ref q6, .int 0, .ref q7, .ref q8, .int 0, .ref q9, .ref q10, .ref q11, .ref q12, .ref q13, .int 0, .ref q14, .ref q15])), (q1, .inl (cI, 16, .inl (fun _ => 0))), (q2, .inl (cI, 200, .inl (fun _ => 0))), (q3, .inl (cI, 4, .inl (fun _ => 0))), (q4, .inl (cI, 4, .inl (fun _ => 0))), (q5, .inl (cI, 48, .inl (fun _ => 0))), (q6, .inl (cI, 4, .inl (fun _ => 0))), (q7, .inl (cI, 10, .inl (fun _ => 0))), (q8, .inl (cZ, 2, .inl (fun _ => 0))), (q9, .inl (cI, 24, .inl (fun _ => 0))), (q10, .inl (cI, 41472, .inl (fun _ => 0))), (q11, .inl (cI, 41472, .inl (fun _ => 0))), (q12, .inl (cI, 41472, .inl (fun _ => 0))), (q13, .inl (cI, 41472, .inl (fun _ => 0))), (q14, .inl (cI, 4, .inl (fun _ => 0))), (q15, .inl (cI, 12, .inl (fun _ => 0)))] rfl dX8_init_127 ?_
  exact fin 130 _ _ _ _ (fun i => [q1, q2, q3, q4, q5, q6, q7, q8, q9, q10, q11, q12, q13, q14, q15].getD i 0) dX8_init_130 rfl (by decide) (by decide)
