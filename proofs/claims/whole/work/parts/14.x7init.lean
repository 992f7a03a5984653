/-! the class's own constructor; it lays the grid -/
def hp0 : Hp := (fun o k => match o, k with
  | 1, 0 => 3
  | 1, 1 => 3
  | 7, 0 => 3
  | 7, 1 => 3
  | 25, 0 => 3
  | 25, 1 => 3
  | _, _ => 0, 0)
theorem wld_same {G1 G2 : Gx} {h : Hp} (e1 : G1.1 = G2.1) (e2 : gI G1 = gI G2) (e3 : gZ G1 = gZ G2) (e4 : gN G1 = gN G2) : wld G1 h = wld G2 h := by
  have e : ∀ i, cel G1 h i = cel G2 h i := by
    intro i
    unfold cel
    simp only [e1, e2, e3]
  unfold wld
  simp only [e1, e4, e]
theorem wld_D {G : Gx} {A : Nat → Prop} {h0 : Hp} (hD : va_D A (wld G h0)) (h : Hp) : va_D A (wld G h) := by
  have key : ∀ (i : Nat) (q : Nat × va_E), (wld G h)[i]? = some q → i < gN G ∧ q.1 = G.1 i := by
    intro i q hq
    by_cases hi : i < gN G
    · rw [wld_at hi] at hq
      cases hq
      exact ⟨hi, rfl⟩
    · simp [wld, hi] at hq
  refine ⟨fun i j p q hi hj e => ?_, fun i q hi => ?_⟩
  · obtain ⟨a1, a2⟩ := key i p hi
    obtain ⟨b1, b2⟩ := key j q hj
    exact hD.1 i j _ _ (wld_at a1) (wld_at b1) (by rw [← a2, ← b2]; exact e)
  · obtain ⟨a1, a2⟩ := key i q hi
    rw [a2]
    exact hD.2 i _ (wld_at a1)
def G0 (D : va_G) (cI cZ : ClassId) (sa K W : Nat → Nat) (A : Nat → Prop) : Gx := (fun _ => 0, D, cI, cZ, sa, K, W, A, 0)
/-- what the class's constructor wants beside its cell: the tables, the texts, its nest's links; its cells are ours -/
def Ex7 (D : va_G) (cI cZ : ClassId) (sa K W : Nat → Nat) (AL : Nat → Prop) (wc : va_W) (U : State) : Prop := va_Nw (.methodLinkNest RX7 18 yX6_init "WhiteKnights") U ∧ va_Nw (.methodLinkNest RX7 34 yX0_init "WhiteKnights") U ∧ SA (G0 D cI cZ sa K W AL) U U.heap ∧ Nst U ∧ Str (G0 D cI cZ sa K W AL) U U.heap ∧ StR (G0 D cI cZ sa K W AL) U ∧ (∀ q, va_A wc U.heap.size q → AL q)
theorem Ex7_ok {D : va_G} {cI cZ : ClassId} {sa K W : Nat → Nat} {AL : Nat → Prop} {wc : va_W} : ExOk (Ex7 D cI cZ sa K W AL wc) := by
  intro U g mk a h
  obtain ⟨h1, h2, h3, h4, h5, h6, h7⟩ := h
  have al : U.vm.Alike (U.calling g mk a).vm := Vm.Alike.refl U.vm
  exact ⟨va_Nw.same rfl rfl h1, va_Nw.same rfl rfl h2, fun k hk => ⟨va_Z.moved al (h3 k hk).1, va_T.moved al (h3 k hk).2⟩, fun q hq => va_Nw.same rfl rfl (h4 q hq), ⟨vk_S.moved al h5.1, va_Z.moved al h5.2.1, va_Zq.moved al h5.2.2⟩, fun i hi => vk_R.same rfl (h6 i hi), h7⟩
/-! ===== X7 constructor ===== -/
abbrev rm_X7_init : Room := { frames := 3, cells := 24, slots := 75866, locals := 53 }
theorem fd_X7_init_10 : FdO wsX7_init RX7 10 RX7 TX7 15 7 0 := ⟨by decide +kernel, rfl, by decide, by decide +kernel⟩
theorem fd_X7_init_19 : FdO wsX7_init RX7 19 RX7 TX7 15 7 1 := ⟨by decide +kernel, rfl, by decide, by decide +kernel⟩
theorem fd_X7_init_28 : FdO wsX7_init RX7 28 RX7 TX7 15 7 2 := ⟨by decide +kernel, rfl, by decide, by decide +kernel⟩
theorem fd_X7_init_35 : FdO wsX7_init RX7 35 RX7 TX7 15 7 3 := ⟨by decide +kernel, rfl, by decide, by decide +kernel⟩
theorem fd_X7_init_44 : FdO wsX7_init RX7 44 RX7 TX7 15 7 4 := ⟨by decide +kernel, rfl, by decide, by decide +kernel⟩
theorem fd_X7_init_53 : FdO wsX7_init RX7 53 RX7 TX7 15 7 5 := ⟨by decide +kernel, rfl, by decide, by decide +kernel⟩
theorem fd_X7_init_62 : FdO wsX7_init RX7 62 RX7 TX7 15 7 6 := ⟨by decide +kernel, rfl, by decide, by decide +kernel⟩
theorem fd_X7_init_66 : FdO wsX7_init RX7 66 RX7 TX7 15 7 7 := ⟨by decide +kernel, rfl, by decide, by decide +kernel⟩
theorem fd_X7_init_70 : FdO wsX7_init RX7 70 RX7 TX7 15 7 8 := ⟨by decide +kernel, rfl, by decide, by decide +kernel⟩
theorem fd_X7_init_73 : FdO wsX7_init RX7 73 RX7 TX7 15 7 9 := ⟨by decide +kernel, rfl, by decide, by decide +kernel⟩
theorem fd_X7_init_77 : FdO wsX7_init RX7 77 RX7 TX7 15 7 10 := ⟨by decide +kernel, rfl, by decide, by decide +kernel⟩
theorem fd_X7_init_80 : FdO wsX7_init RX7 80 RX7 TX7 15 7 11 := ⟨by decide +kernel, rfl, by decide, by decide +kernel⟩
theorem fd_X7_init_83 : FdO wsX7_init RX7 83 RX5 TX5 9 5 0 := ⟨by decide +kernel, rfl, by decide, by decide +kernel⟩
theorem fd_X7_init_87 : FdO wsX7_init RX7 87 RX5 TX5 9 5 1 := ⟨by decide +kernel, rfl, by decide, by decide +kernel⟩
theorem ff_X7_0 : FfO TX7 15 0 tyX7 RX7 := ⟨tyX7_ok, nmX7, rfl, rfl, tyX7 0, tyX7_ok 0 (by decide), fun _ => ⟨rfl, rfl⟩⟩
theorem ff_X7_1 : FfO TX7 15 1 tyX7 RX7 := ⟨tyX7_ok, nmX7, rfl, rfl, tyX7 1, tyX7_ok 1 (by decide), fun _ => ⟨rfl, rfl⟩⟩
theorem ff_X7_2 : FfO TX7 15 2 tyX7 RX7 := ⟨tyX7_ok, nmX7, rfl, rfl, tyX7 2, tyX7_ok 2 (by decide), fun _ => ⟨rfl, rfl⟩⟩
theorem ff_X7_3 : FfO TX7 15 3 tyX7 RX7 := ⟨tyX7_ok, nmX7, rfl, rfl, tyX7 3, tyX7_ok 3 (by decide), fun _ => ⟨rfl, rfl⟩⟩
theorem ff_X7_4 : FfO TX7 15 4 tyX7 RX7 := ⟨tyX7_ok, nmX7, rfl, rfl, tyX7 4, tyX7_ok 4 (by decide), fun _ => ⟨rfl, rfl⟩⟩
theorem ff_X7_5 : FfO TX7 15 5 tyX7 RX7 := ⟨tyX7_ok, nmX7, rfl, rfl, tyX7 5, tyX7_ok 5 (by decide), fun _ => ⟨rfl, rfl⟩⟩
theorem ff_X7_6 : FfO TX7 15 6 tyX7 RX7 := ⟨tyX7_ok, nmX7, rfl, rfl, tyX7 6, tyX7_ok 6 (by decide), fun _ => ⟨rfl, rfl⟩⟩
theorem ff_X7_7 : FfO TX7 15 7 tyX7 RX7 := ⟨tyX7_ok, nmX7, rfl, rfl, tyX7 7, tyX7_ok 7 (by decide), fun _ => ⟨rfl, rfl⟩⟩
theorem ff_X7_8 : FfO TX7 15 8 tyX7 RX7 := ⟨tyX7_ok, nmX7, rfl, rfl, tyX7 8, tyX7_ok 8 (by decide), fun _ => ⟨rfl, rfl⟩⟩
theorem ff_X7_9 : FfO TX7 15 9 tyX7 RX7 := ⟨tyX7_ok, nmX7, rfl, rfl, tyX7 9, tyX7_ok 9 (by decide), fun _ => ⟨rfl, rfl⟩⟩
theorem ff_X7_10 : FfO TX7 15 10 tyX7 RX7 := ⟨tyX7_ok, nmX7, rfl, rfl, tyX7 10, tyX7_ok 10 (by decide), fun _ => ⟨rfl, rfl⟩⟩
theorem ff_X7_11 : FfO TX7 15 11 tyX7 RX7 := ⟨tyX7_ok, nmX7, rfl, rfl, tyX7 11, tyX7_ok 11 (by decide), fun _ => ⟨rfl, rfl⟩⟩
theorem hin_X7_init_X5 : ∀ w ∈ u_ws RX5 TX5 9, w ∈ wsX7_init := by decide +kernel
theorem nw_X7_init_X5 : Cond.classLink RX7 7 RX5 ∈ wsX7_init ∧ Cond.instantiable RX5 9 ∈ wsX7_init ∧ Cond.initialized RX5 ∈ wsX7_init := ⟨by decide +kernel, by decide +kernel, by decide +kernel⟩
theorem hin_X7_init_X6 : ∀ w ∈ u_ws RX6 TX6 4, w ∈ wsX7_init := by decide +kernel
theorem nw_X7_init_X6 : Cond.classLink RX7 16 RX6 ∈ wsX7_init ∧ Cond.instantiable RX6 4 ∈ wsX7_init ∧ Cond.initialized RX6 ∈ wsX7_init := ⟨by decide +kernel, by decide +kernel, by decide +kernel⟩
theorem hin_X7_init_X3 : ∀ w ∈ u_ws RX3 TX3 4, w ∈ wsX7_init := by decide +kernel
theorem nw_X7_init_X3 : Cond.classLink RX7 23 RX3 ∈ wsX7_init ∧ Cond.instantiable RX3 4 ∈ wsX7_init ∧ Cond.initialized RX3 ∈ wsX7_init := ⟨by decide +kernel, by decide +kernel, by decide +kernel⟩
theorem hin_X7_init_X0 : ∀ w ∈ u_ws RX0 TX0 1, w ∈ wsX7_init := by decide +kernel
theorem nw_X7_init_X0 : Cond.classLink RX7 32 RX0 ∈ wsX7_init ∧ Cond.instantiable RX0 1 ∈ wsX7_init ∧ Cond.initialized RX0 ∈ wsX7_init := ⟨by decide +kernel, by decide +kernel, by decide +kernel⟩
theorem hin_X7_init_X1 : ∀ w ∈ u_ws RX1 TX1 2, w ∈ wsX7_init := by decide +kernel
theorem nw_X7_init_X1 : Cond.classLink RX7 39 RX1 ∈ wsX7_init ∧ Cond.instantiable RX1 2 ∈ wsX7_init ∧ Cond.initialized RX1 ∈ wsX7_init := ⟨by decide +kernel, by decide +kernel, by decide +kernel⟩
theorem hin_X7_init_X2 : ∀ w ∈ u_ws RX2 TX2 3, w ∈ wsX7_init := by decide +kernel
theorem nw_X7_init_X2 : Cond.classLink RX7 48 RX2 ∈ wsX7_init ∧ Cond.instantiable RX2 3 ∈ wsX7_init ∧ Cond.initialized RX2 ∈ wsX7_init := ⟨by decide +kernel, by decide +kernel, by decide +kernel⟩
theorem hin_X7_init_X4 : ∀ w ∈ u_ws RX4 TX4 8, w ∈ wsX7_init := by decide +kernel
theorem nw_X7_init_X4 : Cond.classLink RX7 57 RX4 ∈ wsX7_init ∧ Cond.instantiable RX4 8 ∈ wsX7_init ∧ Cond.initialized RX4 ∈ wsX7_init := ⟨by decide +kernel, by decide +kernel, by decide +kernel⟩
theorem ck_X7_init_X0_init : CkO rm_X7_init yX0_init wsX0_init cX0_init 1 rm_X0_init 0 := ⟨⟨_, rfl⟩, rfl, by decide +kernel, by decide, by decide⟩
theorem cl_X7_init_X0_init : Cond.initialized yX0_init.cls ∈ wsX7_init ∧ Cond.instanceMethod yX0_init ∈ wsX7_init := ⟨by decide +kernel, by decide +kernel⟩
theorem ck_X7_init_X1_init : CkO rm_X7_init yX1_init wsX1_init cX1_init 3 rm_X1_init 2 := ⟨⟨_, rfl⟩, rfl, by decide +kernel, by decide, by decide⟩
theorem cl_X7_init_X1_init : Cond.initialized yX1_init.cls ∈ wsX7_init ∧ Cond.methodLink RX7 41 yX1_init ∈ wsX7_init ∧ Cond.instanceMethod yX1_init ∈ wsX7_init := ⟨by decide +kernel, by decide +kernel, by decide +kernel⟩
theorem ck_X7_init_X2_init : CkO rm_X7_init yX2_init wsX2_init cX2_init 2 rm_X2_init 1 := ⟨⟨_, rfl⟩, rfl, by decide +kernel, by decide, by decide⟩
theorem cl_X7_init_X2_init : Cond.initialized yX2_init.cls ∈ wsX7_init ∧ Cond.methodLink RX7 50 yX2_init ∈ wsX7_init ∧ Cond.instanceMethod yX2_init ∈ wsX7_init := ⟨by decide +kernel, by decide +kernel, by decide +kernel⟩
theorem ck_X7_init_X3_init : CkO rm_X7_init yX3_init wsX3_init cX3_init 2 rm_X3_init 1 := ⟨⟨_, rfl⟩, rfl, by decide +kernel, by decide, by decide⟩
theorem cl_X7_init_X3_init : Cond.initialized yX3_init.cls ∈ wsX7_init ∧ Cond.methodLink RX7 25 yX3_init ∈ wsX7_init ∧ Cond.instanceMethod yX3_init ∈ wsX7_init := ⟨by decide +kernel, by decide +kernel, by decide +kernel⟩
theorem ck_X7_init_X4_init : CkO rm_X7_init yX4_init wsX4_init cX4_init 3 rm_X4_init 2 := ⟨⟨_, rfl⟩, rfl, by decide +kernel, by decide, by decide⟩
theorem cl_X7_init_X4_init : Cond.initialized yX4_init.cls ∈ wsX7_init ∧ Cond.methodLink RX7 59 yX4_init ∈ wsX7_init ∧ Cond.instanceMethod yX4_init ∈ wsX7_init := ⟨by decide +kernel, by decide +kernel, by decide +kernel⟩
theorem ck_X7_init_X5_init : CkO rm_X7_init yX5_init wsX5_init cX5_init 1 rm_X5_init 0 := ⟨⟨_, rfl⟩, rfl, by decide +kernel, by decide, by decide⟩
theorem cl_X7_init_X5_init : Cond.initialized yX5_init.cls ∈ wsX7_init ∧ Cond.methodLink RX7 9 yX5_init ∈ wsX7_init ∧ Cond.instanceMethod yX5_init ∈ wsX7_init := ⟨by decide +kernel, by decide +kernel, by decide +kernel⟩
theorem ck_X7_init_X6_init : CkO rm_X7_init yX6_init wsX6_init cX6_init 1 rm_X6_init 0 := ⟨⟨_, rfl⟩, rfl, by decide +kernel, by decide, by decide⟩
theorem cl_X7_init_X6_init : Cond.initialized yX6_init.cls ∈ wsX7_init ∧ Cond.instanceMethod yX6_init ∈ wsX7_init := ⟨by decide +kernel, by decide +kernel⟩
theorem cw_X7_init_X0_lay : CwO rm_X7_init yX0_lay wsX0_lay cX0_lay 8 (none) rm_X0_lay 2 := ⟨⟨_, rfl⟩, rfl, rfl, by decide +kernel, by decide, by decide⟩
set_option maxRecDepth 40000 in
set_option maxHeartbeats 4000000 in
theorem i_X7 {l : Launch} {D : va_G} {cI cZ : ClassId} {a : Nat} (sa K W : Nat → Nat) (AL : Nat → Prop) {N : Nat} {z : Rs} (ez : f_X0_lay N 3 3 hp0 = some z) : KC l D cI cZ (Ex7 D cI cZ sa K W AL [(a, .inr (7, [.null, .null, .null, .null, .null, .null, .null, .null, .null, .null, .null, .null, .int 0, .int 0, .int 0]))]) yX7_init wsX7_init rm_X7_init [.ref a] [(a, .inr (7, [.null, .null, .null, .null, .null, .null, .null, .null, .null, .null, .null, .null, .int 0, .int 0, .int 0]))] (fun u => wld ((fun i => if i = 0 then a else u i), D, cI, cZ, sa, K, W, AL, 25) z.2) := by
  refine k_entry _ (by decide) rfl rfl [(0, .ref a)] rfl (Nat.le_of_ble_eq_true rfl) (fun X A O hin hE hAe fin => ?_)
  refine k_aload_n O dX7_init_0 0 rfl rfl ?_
  refine k_obj O dX7_init_1 (by decide +kernel) (by decide +kernel) (List.mem_of_getElem? (i := 3) rfl) (by decide) (Nat.le_of_ble_eq_true rfl) ?_
  refine k_aload_n O dX7_init_4 0 rfl rfl ?_
  refine k_new (ci := 5) O (hin_X7_init_X5) tyX5_ok nw_X7_init_X5 rfl [.int 0, .int 0, .int 0, .int 0, .int 0, .int 0, .int 0, .null, .null] (by decide) (by decide) (by decide) 1 9 rfl rfl dX7_init_5 (fun q1 => ?_)
  refine k_dup O dX7_init_8 rfl ?_
  refine k_callI (wr := [(a, .inr (7, [.null, .null, .null, .null, .null, .null, .null, .null, .null, .null, .null, .null, .int 0, .int 0, .int 0]))]) O [] [.ref q1, .ref a] [1] [0] (i_X5 (a := q1)) rfl rfl rfl rfl (by decide) gX7_init_X5_init ck_X7_init_X5_init cl_X7_init_X5_init rfl rfl (Nat.le_of_ble_eq_true rfl) 3 17 rfl rfl (by decide) dX7_init_9 (fun u2 => ?_)
  refine k_putF O hin fd_X7_init_10 ff_X7_0 0 rfl (Nat.le_of_ble_eq_true rfl) [(a, .inr (7, [.ref q1, .null, .null, .null, .null, .null, .null, .null, .null, .null, .null, .null, .int 0, .int 0, .int 0])), (q1, .inr (5, [.int 3, .int 3, .int 0, .int 0, .int 0, .int 0, .int 0, .ref (u2 0), .ref (u2 1)])), ((u2 0), .inl (cI, 4, .inl (fun _ => 0))), ((u2 1), .inl (cI, 4, .inl (fun _ => 0)))] rfl dX7_init_12 ?_
  refine k_aload_n O dX7_init_15 0 rfl rfl ?_
  refine k_new (ci := 6) O (hin_X7_init_X6) tyX6_ok nw_X7_init_X6 rfl [.null, .int 0, .int 0, .int 0] (by decide) (by decide) (by decide) 4 21 rfl rfl dX7_init_16 (fun q3 => ?_)
  refine k_dup O dX7_init_19 rfl ?_
  refine k_callIN (wr := [(a, .inr (7, [.ref q1, .null, .null, .null, .null, .null, .null, .null, .null, .null, .null, .null, .int 0, .int 0, .int 0])), (q1, .inr (5, [.int 3, .int 3, .int 0, .int 0, .int 0, .int 0, .int 0, .ref (u2 0), .ref (u2 1)])), ((u2 0), .inl (cI, 4, .inl (fun _ => 0))), ((u2 1), .inl (cI, 4, .inl (fun _ => 0)))]) O [] [.ref q3, .ref a] [4] [0, 1, 2, 3] (i_X6 (a := q3)) rfl rfl rfl rfl (by decide) gX7_init_X6_init_n18 ck_X7_init_X6_init cl_X7_init_X6_init hE.1 rfl rfl (Nat.le_of_ble_eq_true rfl) 5 221 rfl rfl (by decide) dX7_init_20 (fun u4 => ?_)
  refine k_putF O hin fd_X7_init_19 ff_X7_1 0 rfl (Nat.le_of_ble_eq_true rfl) [(a, .inr (7, [.ref q1, .ref q3, .null, .null, .null, .null, .null, .null, .null, .null, .null, .null, .int 0, .int 0, .int 0])), (q1, .inr (5, [.int 3, .int 3, .int 0, .int 0, .int 0, .int 0, .int 0, .ref (u2 0), .ref (u2 1)])), ((u2 0), .inl (cI, 4, .inl (fun _ => 0))), ((u2 1), .inl (cI, 4, .inl (fun _ => 0))), (q3, .inr (6, [.ref (u4 0), .int 0, .int 0, .int 0])), ((u4 0), .inl (cI, 200, .inl (fun _ => 0)))] rfl dX7_init_23 ?_
  refine k_aload_n O dX7_init_26 0 rfl rfl ?_
  refine k_new (ci := 3) O (hin_X7_init_X3) tyX3_ok nw_X7_init_X3 rfl [.null, .int 0, .int 0, .null] (by decide) (by decide) (by decide) 6 225 rfl rfl dX7_init_27 (fun q5 => ?_)
  refine k_dup O dX7_init_30 rfl ?_
  refine k_aload_n O dX7_init_31 0 rfl rfl ?_
  refine k_get O fd_X7_init_19 0 rfl rfl dX7_init_32 ?_
  refine k_callI (wr := [(a, .inr (7, [.ref q1, .ref q3, .null, .null, .null, .null, .null, .null, .null, .null, .null, .null, .int 0, .int 0, .int 0])), (q1, .inr (5, [.int 3, .int 3, .int 0, .int 0, .int 0, .int 0, .int 0, .ref (u2 0), .ref (u2 1)])), ((u2 0), .inl (cI, 4, .inl (fun _ => 0))), ((u2 1), .inl (cI, 4, .inl (fun _ => 0))), (q3, .inr (6, [.ref (u4 0), .int 0, .int 0, .int 0])), ((u4 0), .inl (cI, 200, .inl (fun _ => 0)))]) O [.ref q3] [.ref q5, .ref a] [6] [0, 1, 2, 3, 4, 5] (i_X3 (a := q5)) rfl rfl rfl rfl (by decide) gX7_init_X3_init ck_X7_init_X3_init cl_X7_init_X3_init rfl rfl (Nat.le_of_ble_eq_true rfl) 9 242 rfl rfl (by decide) dX7_init_35 (fun u6 => ?_)
  refine k_putF O hin fd_X7_init_28 ff_X7_2 0 rfl (Nat.le_of_ble_eq_true rfl) [(a, .inr (7, [.ref q1, .ref q3, .ref q5, .null, .null, .null, .null, .null, .null, .null, .null, .null, .int 0, .int 0, .int 0])), (q1, .inr (5, [.int 3, .int 3, .int 0, .int 0, .int 0, .int 0, .int 0, .ref (u2 0), .ref (u2 1)])), ((u2 0), .inl (cI, 4, .inl (fun _ => 0))), ((u2 1), .inl (cI, 4, .inl (fun _ => 0))), (q3, .inr (6, [.ref (u4 0), .int 0, .int 0, .int 0])), ((u4 0), .inl (cI, 200, .inl (fun _ => 0))), (q5, .inr (3, [.ref (u6 0), .int 0, .int 0, .ref q3])), ((u6 0), .inr (5, [.int 3, .int 3, .int 0, .int 0, .int 0, .int 0, .int 0, .ref (u6 1), .ref (u6 2)])), ((u6 1), .inl (cI, 4, .inl (fun _ => 0))), ((u6 2), .inl (cI, 4, .inl (fun _ => 0)))] rfl dX7_init_38 ?_
  refine k_aload_n O dX7_init_41 0 rfl rfl ?_
  refine k_new (ci := 0) O (hin_X7_init_X0) tyX0_ok nw_X7_init_X0 rfl [.null] (by decide) (by decide) (by decide) 10 243 rfl rfl dX7_init_42 (fun q7 => ?_)
  refine k_dup O dX7_init_45 rfl ?_
  refine k_callIN (wr := [(a, .inr (7, [.ref q1, .ref q3, .ref q5, .null, .null, .null, .null, .null, .null, .null, .null, .null, .int 0, .int 0, .int 0])), (q1, .inr (5, [.int 3, .int 3, .int 0, .int 0, .int 0, .int 0, .int 0, .ref (u2 0), .ref (u2 1)])), ((u2 0), .inl (cI, 4, .inl (fun _ => 0))), ((u2 1), .inl (cI, 4, .inl (fun _ => 0))), (q3, .inr (6, [.ref (u4 0), .int 0, .int 0, .int 0])), ((u4 0), .inl (cI, 200, .inl (fun _ => 0))), (q5, .inr (3, [.ref (u6 0), .int 0, .int 0, .ref q3])), ((u6 0), .inr (5, [.int 3, .int 3, .int 0, .int 0, .int 0, .int 0, .int 0, .ref (u6 1), .ref (u6 2)])), ((u6 1), .inl (cI, 4, .inl (fun _ => 0))), ((u6 2), .inl (cI, 4, .inl (fun _ => 0)))]) O [] [.ref q7, .ref a] [10] [0, 1, 2, 3, 4, 5, 6, 7, 8, 9] (i_X0 (a := q7)) rfl rfl rfl rfl (by decide) gX7_init_X0_init_n34 ck_X7_init_X0_init cl_X7_init_X0_init hE.2.1 rfl rfl (Nat.le_of_ble_eq_true rfl) 11 435 rfl rfl (by decide) dX7_init_46 (fun u8 => ?_)
  refine k_putF O hin fd_X7_init_35 ff_X7_3 0 rfl (Nat.le_of_ble_eq_true rfl) [(a, .inr (7, [.ref q1, .ref q3, .ref q5, .ref q7, .null, .null, .null, .null, .null, .null, .null, .null, .int 0, .int 0, .int 0])), (q1, .inr (5, [.int 3, .int 3, .int 0, .int 0, .int 0, .int 0, .int 0, .ref (u2 0), .ref (u2 1)])), ((u2 0), .inl (cI, 4, .inl (fun _ => 0))), ((u2 1), .inl (cI, 4, .inl (fun _ => 0))), (q3, .inr (6, [.ref (u4 0), .int 0, .int 0, .int 0])), ((u4 0), .inl (cI, 200, .inl (fun _ => 0))), (q5, .inr (3, [.ref (u6 0), .int 0, .int 0, .ref q3])), ((u6 0), .inr (5, [.int 3, .int 3, .int 0, .int 0, .int 0, .int 0, .int 0, .ref (u6 1), .ref (u6 2)])), ((u6 1), .inl (cI, 4, .inl (fun _ => 0))), ((u6 2), .inl (cI, 4, .inl (fun _ => 0))), (q7, .inr (0, [.ref (u8 0)])), ((u8 0), .inl (cI, 192, .inl (fun _ => 0)))] rfl dX7_init_49 ?_
  refine k_aload_n O dX7_init_52 0 rfl rfl ?_
  refine k_new (ci := 1) O (hin_X7_init_X1) tyX1_ok nw_X7_init_X1 rfl [.null, .null] (by decide) (by decide) (by decide) 12 437 rfl rfl dX7_init_53 (fun q9 => ?_)
  refine k_dup O dX7_init_56 rfl ?_
  refine k_aload_n O dX7_init_57 0 rfl rfl ?_
  refine k_get O fd_X7_init_10 0 rfl rfl dX7_init_58 ?_
  refine k_aload_n O dX7_init_61 0 rfl rfl ?_
  refine k_get O fd_X7_init_35 0 rfl rfl dX7_init_62 ?_
  refine k_callI (wr := [(a, .inr (7, [.ref q1, .ref q3, .ref q5, .ref q7, .null, .null, .null, .null, .null, .null, .null, .null, .int 0, .int 0, .int 0])), (q1, .inr (5, [.int 3, .int 3, .int 0, .int 0, .int 0, .int 0, .int 0, .ref (u2 0), .ref (u2 1)])), ((u2 0), .inl (cI, 4, .inl (fun _ => 0))), ((u2 1), .inl (cI, 4, .inl (fun _ => 0))), (q3, .inr (6, [.ref (u4 0), .int 0, .int 0, .int 0])), ((u4 0), .inl (cI, 200, .inl (fun _ => 0))), (q5, .inr (3, [.ref (u6 0), .int 0, .int 0, .ref q3])), ((u6 0), .inr (5, [.int 3, .int 3, .int 0, .int 0, .int 0, .int 0, .int 0, .ref (u6 1), .ref (u6 2)])), ((u6 1), .inl (cI, 4, .inl (fun _ => 0))), ((u6 2), .inl (cI, 4, .inl (fun _ => 0))), (q7, .inr (0, [.ref (u8 0)])), ((u8 0), .inl (cI, 192, .inl (fun _ => 0)))]) O [.ref q1, .ref q7] [.ref q9, .ref a] [12] [0, 1, 2, 3, 4, 5, 6, 7, 8, 9, 10, 11] (i_X1 (a := q9)) rfl rfl rfl rfl (by decide) gX7_init_X1_init ck_X7_init_X1_init cl_X7_init_X1_init rfl rfl (Nat.le_of_ble_eq_true rfl) 12 437 rfl rfl (by decide) dX7_init_65 (fun u10 => ?_)
  refine k_putF O hin fd_X7_init_44 ff_X7_4 0 rfl (Nat.le_of_ble_eq_true rfl) [(a, .inr (7, [.ref q1, .ref q3, .ref q5, .ref q7, .ref q9, .null, .null, .null, .null, .null, .null, .null, .int 0, .int 0, .int 0])), (q1, .inr (5, [.int 3, .int 3, .int 0, .int 0, .int 0, .int 0, .int 0, .ref (u2 0), .ref (u2 1)])), ((u2 0), .inl (cI, 4, .inl (fun _ => 0))), ((u2 1), .inl (cI, 4, .inl (fun _ => 0))), (q3, .inr (6, [.ref (u4 0), .int 0, .int 0, .int 0])), ((u4 0), .inl (cI, 200, .inl (fun _ => 0))), (q5, .inr (3, [.ref (u6 0), .int 0, .int 0, .ref q3])), ((u6 0), .inr (5, [.int 3, .int 3, .int 0, .int 0, .int 0, .int 0, .int 0, .ref (u6 1), .ref (u6 2)])), ((u6 1), .inl (cI, 4, .inl (fun _ => 0))), ((u6 2), .inl (cI, 4, .inl (fun _ => 0))), (q7, .inr (0, [.ref (u8 0)])), ((u8 0), .inl (cI, 192, .inl (fun _ => 0))), (q9, .inr (1, [.ref q1, .ref q7]))] rfl dX7_init_68 ?_
  refine k_aload_n O dX7_init_71 0 rfl rfl ?_
  refine k_new (ci := 2) O (hin_X7_init_X2) tyX2_ok nw_X7_init_X2 rfl [.null, .null, .int 0] (by decide) (by decide) (by decide) 13 440 rfl rfl dX7_init_72 (fun q11 => ?_)
  refine k_dup O dX7_init_75 rfl ?_
  refine k_aload_n O dX7_init_76 0 rfl rfl ?_
  refine k_get O fd_X7_init_35 0 rfl rfl dX7_init_77 ?_
  refine k_callI (wr := [(a, .inr (7, [.ref q1, .ref q3, .ref q5, .ref q7, .ref q9, .null, .null, .null, .null, .null, .null, .null, .int 0, .int 0, .int 0])), (q1, .inr (5, [.int 3, .int 3, .int 0, .int 0, .int 0, .int 0, .int 0, .ref (u2 0), .ref (u2 1)])), ((u2 0), .inl (cI, 4, .inl (fun _ => 0))), ((u2 1), .inl (cI, 4, .inl (fun _ => 0))), (q3, .inr (6, [.ref (u4 0), .int 0, .int 0, .int 0])), ((u4 0), .inl (cI, 200, .inl (fun _ => 0))), (q5, .inr (3, [.ref (u6 0), .int 0, .int 0, .ref q3])), ((u6 0), .inr (5, [.int 3, .int 3, .int 0, .int 0, .int 0, .int 0, .int 0, .ref (u6 1), .ref (u6 2)])), ((u6 1), .inl (cI, 4, .inl (fun _ => 0))), ((u6 2), .inl (cI, 4, .inl (fun _ => 0))), (q7, .inr (0, [.ref (u8 0)])), ((u8 0), .inl (cI, 192, .inl (fun _ => 0))), (q9, .inr (1, [.ref q1, .ref q7]))]) O [.ref q7] [.ref q11, .ref a] [13] [0, 1, 2, 3, 4, 5, 6, 7, 8, 9, 10, 11, 12] (i_X2 (a := q11)) rfl rfl rfl rfl (by decide) gX7_init_X2_init ck_X7_init_X2_init cl_X7_init_X2_init rfl rfl (Nat.le_of_ble_eq_true rfl) 14 452 rfl rfl (by decide) dX7_init_80 (fun u12 => ?_)
  refine k_putF O hin fd_X7_init_53 ff_X7_5 0 rfl (Nat.le_of_ble_eq_true rfl) [(a, .inr (7, [.ref q1, .ref q3, .ref q5, .ref q7, .ref q9, .ref q11, .null, .null, .null, .null, .null, .null, .int 0, .int 0, .int 0])), (q1, .inr (5, [.int 3, .int 3, .int 0, .int 0, .int 0, .int 0, .int 0, .ref (u2 0), .ref (u2 1)])), ((u2 0), .inl (cI, 4, .inl (fun _ => 0))), ((u2 1), .inl (cI, 4, .inl (fun _ => 0))), (q3, .inr (6, [.ref (u4 0), .int 0, .int 0, .int 0])), ((u4 0), .inl (cI, 200, .inl (fun _ => 0))), (q5, .inr (3, [.ref (u6 0), .int 0, .int 0, .ref q3])), ((u6 0), .inr (5, [.int 3, .int 3, .int 0, .int 0, .int 0, .int 0, .int 0, .ref (u6 1), .ref (u6 2)])), ((u6 1), .inl (cI, 4, .inl (fun _ => 0))), ((u6 2), .inl (cI, 4, .inl (fun _ => 0))), (q7, .inr (0, [.ref (u8 0)])), ((u8 0), .inl (cI, 192, .inl (fun _ => 0))), (q9, .inr (1, [.ref q1, .ref q7])), (q11, .inr (2, [.ref (u12 0), .ref q7, .int 0])), ((u12 0), .inl (cI, 12, .inl (fun _ => 0)))] rfl dX7_init_83 ?_
  refine k_aload_n O dX7_init_86 0 rfl rfl ?_
  refine k_new (ci := 4) O (hin_X7_init_X4) tyX4_ok nw_X7_init_X4 rfl [.null, .null, .null, .null, .null, .null, .int 0, .int 0] (by decide) (by decide) (by decide) 15 460 rfl rfl dX7_init_87 (fun q13 => ?_)
  refine k_dup O dX7_init_90 rfl ?_
  refine k_aload_n O dX7_init_91 0 rfl rfl ?_
  refine k_get O fd_X7_init_10 0 rfl rfl dX7_init_92 ?_
  refine k_aload_n O dX7_init_95 0 rfl rfl ?_
  refine k_get O fd_X7_init_44 0 rfl rfl dX7_init_96 ?_
  refine k_callI (wr := [(a, .inr (7, [.ref q1, .ref q3, .ref q5, .ref q7, .ref q9, .ref q11, .null, .null, .null, .null, .null, .null, .int 0, .int 0, .int 0])), (q1, .inr (5, [.int 3, .int 3, .int 0, .int 0, .int 0, .int 0, .int 0, .ref (u2 0), .ref (u2 1)])), ((u2 0), .inl (cI, 4, .inl (fun _ => 0))), ((u2 1), .inl (cI, 4, .inl (fun _ => 0))), (q3, .inr (6, [.ref (u4 0), .int 0, .int 0, .int 0])), ((u4 0), .inl (cI, 200, .inl (fun _ => 0))), (q5, .inr (3, [.ref (u6 0), .int 0, .int 0, .ref q3])), ((u6 0), .inr (5, [.int 3, .int 3, .int 0, .int 0, .int 0, .int 0, .int 0, .ref (u6 1), .ref (u6 2)])), ((u6 1), .inl (cI, 4, .inl (fun _ => 0))), ((u6 2), .inl (cI, 4, .inl (fun _ => 0))), (q7, .inr (0, [.ref (u8 0)])), ((u8 0), .inl (cI, 192, .inl (fun _ => 0))), (q9, .inr (1, [.ref q1, .ref q7])), (q11, .inr (2, [.ref (u12 0), .ref q7, .int 0])), ((u12 0), .inl (cI, 12, .inl (fun _ => 0)))]) O [.ref q1, .ref q9] [.ref q13, .ref a] [15] [0, 1, 2, 3, 4, 5, 6, 7, 8, 9, 10, 11, 12, 13, 14] (i_X4 (a := q13)) rfl rfl rfl rfl (by decide) gX7_init_X4_init ck_X7_init_X4_init cl_X7_init_X4_init rfl rfl (Nat.le_of_ble_eq_true rfl) 19 75836 rfl rfl (by decide) dX7_init_99 (fun u14 => ?_)
  refine k_putF O hin fd_X7_init_62 ff_X7_6 0 rfl (Nat.le_of_ble_eq_true rfl) [(a, .inr (7, [.ref q1, .ref q3, .ref q5, .ref q7, .ref q9, .ref q11, .ref q13, .null, .null, .null, .null, .null, .int 0, .int 0, .int 0])), (q1, .inr (5, [.int 3, .int 3, .int 0, .int 0, .int 0, .int 0, .int 0, .ref (u2 0), .ref (u2 1)])), ((u2 0), .inl (cI, 4, .inl (fun _ => 0))), ((u2 1), .inl (cI, 4, .inl (fun _ => 0))), (q3, .inr (6, [.ref (u4 0), .int 0, .int 0, .int 0])), ((u4 0), .inl (cI, 200, .inl (fun _ => 0))), (q5, .inr (3, [.ref (u6 0), .int 0, .int 0, .ref q3])), ((u6 0), .inr (5, [.int 3, .int 3, .int 0, .int 0, .int 0, .int 0, .int 0, .ref (u6 1), .ref (u6 2)])), ((u6 1), .inl (cI, 4, .inl (fun _ => 0))), ((u6 2), .inl (cI, 4, .inl (fun _ => 0))), (q7, .inr (0, [.ref (u8 0)])), ((u8 0), .inl (cI, 192, .inl (fun _ => 0))), (q9, .inr (1, [.ref q1, .ref q7])), (q11, .inr (2, [.ref (u12 0), .ref q7, .int 0])), ((u12 0), .inl (cI, 12, .inl (fun _ => 0))), (q13, .inr (4, [.ref q1, .ref q9, .ref (u14 0), .ref (u14 1), .ref (u14 2), .ref (u14 3), .int 0, .int 0])), ((u14 0), .inl (cI, 4096, .inl (fun _ => 0))), ((u14 1), .inl (cI, 23760, .inl (fun _ => 0))), ((u14 2), .inl (cI, 23760, .inl (fun _ => 0))), ((u14 3), .inl (cI, 23760, .inl (fun _ => 0)))] rfl dX7_init_102 ?_
  refine k_aload_n O dX7_init_105 0 rfl rfl ?_
  refine k_iconst (v := 2) O dX7_init_106 (by decide) ?_
  refine k_newI O 2 (by decide +kernel) (by decide) (by decide) (by decide) (by decide) (by decide) 20 75838 rfl rfl dX7_init_107 (fun q15 => ?_)
  refine k_putF O hin fd_X7_init_66 ff_X7_7 0 rfl (Nat.le_of_ble_eq_true rfl) [(a, .inr (7, [.ref q1, .ref q3, .ref q5, .ref q7, .ref q9, .ref q11, .ref q13, .ref q15, .null, .null, .null, .null, .int 0, .int 0, .int 0])), (q1, .inr (5, [.int 3, .int 3, .int 0, .int 0, .int 0, .int 0, .int 0, .ref (u2 0), .ref (u2 1)])), ((u2 0), .inl (cI, 4, .inl (fun _ => 0))), ((u2 1), .inl (cI, 4, .inl (fun _ => 0))), (q3, .inr (6, [.ref (u4 0), .int 0, .int 0, .int 0])), ((u4 0), .inl (cI, 200, .inl (fun _ => 0))), (q5, .inr (3, [.ref (u6 0), .int 0, .int 0, .ref q3])), ((u6 0), .inr (5, [.int 3, .int 3, .int 0, .int 0, .int 0, .int 0, .int 0, .ref (u6 1), .ref (u6 2)])), ((u6 1), .inl (cI, 4, .inl (fun _ => 0))), ((u6 2), .inl (cI, 4, .inl (fun _ => 0))), (q7, .inr (0, [.ref (u8 0)])), ((u8 0), .inl (cI, 192, .inl (fun _ => 0))), (q9, .inr (1, [.ref q1, .ref q7])), (q11, .inr (2, [.ref (u12 0), .ref q7, .int 0])), ((u12 0), .inl (cI, 12, .inl (fun _ => 0))), (q13, .inr (4, [.ref q1, .ref q9, .ref (u14 0), .ref (u14 1), .ref (u14 2), .ref (u14 3), .int 0, .int 0])), ((u14 0), .inl (cI, 4096, .inl (fun _ => 0))), ((u14 1), .inl (cI, 23760, .inl (fun _ => 0))), ((u14 2), .inl (cI, 23760, .inl (fun _ => 0))), ((u14 3), .inl (cI, 23760, .inl (fun _ => 0))), (q15, .inl (cI, 2, .inl (fun _ => 0)))] rfl dX7_init_109 ?_
  refine k_aload_n O dX7_init_112 0 rfl rfl ?_
  refine k_iconst (v := 2) O dX7_init_113 (by decide) ?_
  refine k_newI O 2 (by decide +kernel) (by decide) (by decide) (by decide) (by decide) (by decide) 21 75840 rfl rfl dX7_init_114 (fun q16 => ?_)
  refine k_putF O hin fd_X7_init_70 ff_X7_8 0 rfl (Nat.le_of_ble_eq_true rfl) [(a, .inr (7, [.ref q1, .ref q3, .ref q5, .ref q7, .ref q9, .ref q11, .ref q13, .ref q15, .ref q16, .null, .null, .null, .int 0, .int 0, .int 0])), (q1, .inr (5, [.int 3, .int 3, .int 0, .int 0, .int 0, .int 0, .int 0, .ref (u2 0), .ref (u2 1)])), ((u2 0), .inl (cI, 4, .inl (fun _ => 0))), ((u2 1), .inl (cI, 4, .inl (fun _ => 0))), (q3, .inr (6, [.ref (u4 0), .int 0, .int 0, .int 0])), ((u4 0), .inl (cI, 200, .inl (fun _ => 0))), (q5, .inr (3, [.ref (u6 0), .int 0, .int 0, .ref q3])), ((u6 0), .inr (5, [.int 3, .int 3, .int 0, .int 0, .int 0, .int 0, .int 0, .ref (u6 1), .ref (u6 2)])), ((u6 1), .inl (cI, 4, .inl (fun _ => 0))), ((u6 2), .inl (cI, 4, .inl (fun _ => 0))), (q7, .inr (0, [.ref (u8 0)])), ((u8 0), .inl (cI, 192, .inl (fun _ => 0))), (q9, .inr (1, [.ref q1, .ref q7])), (q11, .inr (2, [.ref (u12 0), .ref q7, .int 0])), ((u12 0), .inl (cI, 12, .inl (fun _ => 0))), (q13, .inr (4, [.ref q1, .ref q9, .ref (u14 0), .ref (u14 1), .ref (u14 2), .ref (u14 3), .int 0, .int 0])), ((u14 0), .inl (cI, 4096, .inl (fun _ => 0))), ((u14 1), .inl (cI, 23760, .inl (fun _ => 0))), ((u14 2), .inl (cI, 23760, .inl (fun _ => 0))), ((u14 3), .inl (cI, 23760, .inl (fun _ => 0))), (q15, .inl (cI, 2, .inl (fun _ => 0))), (q16, .inl (cI, 2, .inl (fun _ => 0)))] rfl dX7_init_116 ?_
  refine k_aload_n O dX7_init_119 0 rfl rfl ?_
  refine k_iconst (v := 2) O dX7_init_120 (by decide) ?_
  refine k_newZ O 2 (by decide +kernel) (by decide) (by decide) (by decide) (by decide) (by decide) 22 75842 rfl rfl dX7_init_121 (fun q17 => ?_)
  refine k_putF O hin fd_X7_init_73 ff_X7_9 0 rfl (Nat.le_of_ble_eq_true rfl) [(a, .inr (7, [.ref q1, .ref q3, .ref q5, .ref q7, .ref q9, .ref q11, .ref q13, .ref q15, .ref q16, .ref q17, .null, .null, .int 0, .int 0, .int 0])), (q1, .inr (5, [.int 3, .int 3, .int 0, .int 0, .int 0, .int 0, .int 0, .ref (u2 0), .ref (u2 1)])), ((u2 0), .inl (cI, 4, .inl (fun _ => 0))), ((u2 1), .inl (cI, 4, .inl (fun _ => 0))), (q3, .inr (6, [.ref (u4 0), .int 0, .int 0, .int 0])), ((u4 0), .inl (cI, 200, .inl (fun _ => 0))), (q5, .inr (3, [.ref (u6 0), .int 0, .int 0, .ref q3])), ((u6 0), .inr (5, [.int 3, .int 3, .int 0, .int 0, .int 0, .int 0, .int 0, .ref (u6 1), .ref (u6 2)])), ((u6 1), .inl (cI, 4, .inl (fun _ => 0))), ((u6 2), .inl (cI, 4, .inl (fun _ => 0))), (q7, .inr (0, [.ref (u8 0)])), ((u8 0), .inl (cI, 192, .inl (fun _ => 0))), (q9, .inr (1, [.ref q1, .ref q7])), (q11, .inr (2, [.ref (u12 0), .ref q7, .int 0])), ((u12 0), .inl (cI, 12, .inl (fun _ => 0))), (q13, .inr (4, [.ref q1, .ref q9, .ref (u14 0), .ref (u14 1), .ref (u14 2), .ref (u14 3), .int 0, .int 0])), ((u14 0), .inl (cI, 4096, .inl (fun _ => 0))), ((u14 1), .inl (cI, 23760, .inl (fun _ => 0))), ((u14 2), .inl (cI, 23760, .inl (fun _ => 0))), ((u14 3), .inl (cI, 23760, .inl (fun _ => 0))), (q15, .inl (cI, 2, .inl (fun _ => 0))), (q16, .inl (cI, 2, .inl (fun _ => 0))), (q17, .inl (cZ, 2, .inl (fun _ => 0)))] rfl dX7_init_123 ?_
  refine k_aload_n O dX7_init_126 0 rfl rfl ?_
  refine k_bipush (v := 12) O dX7_init_127 (by decide) ?_
  refine k_newI O 12 (by decide +kernel) (by decide) (by decide) (by decide) (by decide) (by decide) 23 75854 rfl rfl dX7_init_129 (fun q18 => ?_)
  refine k_putF O hin fd_X7_init_77 ff_X7_10 0 rfl (Nat.le_of_ble_eq_true rfl) [(a, .inr (7, [.ref q1, .ref q3, .ref q5, .ref q7, .ref q9, .ref q11, .ref q13, .ref q15, .ref q16, .ref q17, .ref q18, .null, .int 0, .int 0, .int 0])), (q1, .inr (5, [.int 3, .int 3, .int 0, .int 0, .int 0, .int 0, .int 0, .ref (u2 0), .ref (u2 1)])), ((u2 0), .inl (cI, 4, .inl (fun _ => 0))), ((u2 1), .inl (cI, 4, .inl (fun _ => 0))), (q3, .inr (6, [.ref (u4 0), .int 0, .int 0, .int 0])), ((u4 0), .inl (cI, 200, .inl (fun _ => 0))), (q5, .inr (3, [.ref (u6 0), .int 0, .int 0, .ref q3])), ((u6 0), .inr (5, [.int 3, .int 3, .int 0, .int 0, .int 0, .int 0, .int 0, .ref (u6 1), .ref (u6 2)])), ((u6 1), .inl (cI, 4, .inl (fun _ => 0))), ((u6 2), .inl (cI, 4, .inl (fun _ => 0))), (q7, .inr (0, [.ref (u8 0)])), ((u8 0), .inl (cI, 192, .inl (fun _ => 0))), (q9, .inr (1, [.ref q1, .ref q7])), (q11, .inr (2, [.ref (u12 0), .ref q7, .int 0])), ((u12 0), .inl (cI, 12, .inl (fun _ => 0))), (q13, .inr (4, [.ref q1, .ref q9, .ref (u14 0), .ref (u14 1), .ref (u14 2), .ref (u14 3), .int 0, .int 0])), ((u14 0), .inl (cI, 4096, .inl (fun _ => 0))), ((u14 1), .inl (cI, 23760, .inl (fun _ => 0))), ((u14 2), .inl (cI, 23760, .inl (fun _ => 0))), ((u14 3), .inl (cI, 23760, .inl (fun _ => 0))), (q15, .inl (cI, 2, .inl (fun _ => 0))), (q16, .inl (cI, 2, .inl (fun _ => 0))), (q17, .inl (cZ, 2, .inl (fun _ => 0))), (q18, .inl (cI, 12, .inl (fun _ => 0)))] rfl dX7_init_131 ?_
  refine k_aload_n O dX7_init_134 0 rfl rfl ?_
  refine k_bipush (v := 12) O dX7_init_135 (by decide) ?_
  refine k_newI O 12 (by decide +kernel) (by decide) (by decide) (by decide) (by decide) (by decide) 24 75866 rfl rfl dX7_init_137 (fun q19 => ?_)
  refine k_putF O hin fd_X7_init_80 ff_X7_11 0 rfl (Nat.le_of_ble_eq_true rfl) [(a, .inr (7, [.ref q1, .ref q3, .ref q5, .ref q7, .ref q9, .ref q11, .ref q13, .ref q15, .ref q16, .ref q17, .ref q18, .ref q19, .int 0, .int 0, .int 0])), (q1, .inr (5, [.int 3, .int 3, .int 0, .int 0, .int 0, .int 0, .int 0, .ref (u2 0), .ref (u2 1)])), ((u2 0), .inl (cI, 4, .inl (fun _ => 0))), ((u2 1), .inl (cI, 4, .inl (fun _ => 0))), (q3, .inr (6, [.ref (u4 0), .int 0, .int 0, .int 0])), ((u4 0), .inl (cI, 200, .inl (fun _ => 0))), (q5, .inr (3, [.ref (u6 0), .int 0, .int 0, .ref q3])), ((u6 0), .inr (5, [.int 3, .int 3, .int 0, .int 0, .int 0, .int 0, .int 0, .ref (u6 1), .ref (u6 2)])), ((u6 1), .inl (cI, 4, .inl (fun _ => 0))), ((u6 2), .inl (cI, 4, .inl (fun _ => 0))), (q7, .inr (0, [.ref (u8 0)])), ((u8 0), .inl (cI, 192, .inl (fun _ => 0))), (q9, .inr (1, [.ref q1, .ref q7])), (q11, .inr (2, [.ref (u12 0), .ref q7, .int 0])), ((u12 0), .inl (cI, 12, .inl (fun _ => 0))), (q13, .inr (4, [.ref q1, .ref q9, .ref (u14 0), .ref (u14 1), .ref (u14 2), .ref (u14 3), .int 0, .int 0])), ((u14 0), .inl (cI, 4096, .inl (fun _ => 0))), ((u14 1), .inl (cI, 23760, .inl (fun _ => 0))), ((u14 2), .inl (cI, 23760, .inl (fun _ => 0))), ((u14 3), .inl (cI, 23760, .inl (fun _ => 0))), (q15, .inl (cI, 2, .inl (fun _ => 0))), (q16, .inl (cI, 2, .inl (fun _ => 0))), (q17, .inl (cZ, 2, .inl (fun _ => 0))), (q18, .inl (cI, 12, .inl (fun _ => 0))), (q19, .inl (cI, 12, .inl (fun _ => 0)))] rfl dX7_init_139 ?_
  refine k_aload_n O dX7_init_142 0 rfl rfl ?_
  refine k_get O fd_X7_init_35 0 rfl rfl dX7_init_143 ?_
  refine k_aload_n O dX7_init_146 0 rfl rfl ?_
  refine k_get O fd_X7_init_10 0 rfl rfl dX7_init_147 ?_
  refine k_get O fd_X7_init_83 1 rfl rfl dX7_init_150 ?_
  refine k_aload_n O dX7_init_153 0 rfl rfl ?_
  refine k_get O fd_X7_init_10 0 rfl rfl dX7_init_154 ?_
  refine k_get O fd_X7_init_87 1 rfl rfl dX7_init_157 ?_
  intro ls H locs hl hP hD hS
  have hPw : va_P D vwCl (wld ((fun i => [a, q1, (u2 0), (u2 1), q3, (u4 0), q5, (u6 0), (u6 1), (u6 2), q7, (u8 0), q9, q11, (u12 0), q13, (u14 0), (u14 1), (u14 2), (u14 3), q15, q16, q17, q18, q19].getD i 0), D, cI, cZ, sa, K, W, A, 25) hp0) H := hP
  have hDw : va_D A (wld ((fun i => [a, q1, (u2 0), (u2 1), q3, (u4 0), q5, (u6 0), (u6 1), (u6 2), q7, (u8 0), q9, q11, (u12 0), q13, (u14 0), (u14 1), (u14 2), (u14 3), q15, q16, q17, q18, q19].getD i 0), D, cI, cZ, sa, K, W, A, 25) hp0) := hD
  have hAL : ∀ q, A q → AL q := fun q hq => hE.2.2.2.2.2.2 q (by rw [hAe] at hq; exact hq)
  have hRv : Rv ((fun i => [a, q1, (u2 0), (u2 1), q3, (u4 0), q5, (u6 0), (u6 1), (u6 2), q7, (u8 0), q9, q11, (u12 0), q13, (u14 0), (u14 1), (u14 2), (u14 3), q15, q16, q17, q18, q19].getD i 0), D, cI, cZ, sa, K, W, A, 25) X.2.2.2.2.1 := ⟨O.2.2.2.2.2.1, fun h => wld_D hDw h, fun k hk => ⟨(hE.2.2.1 k hk).1.narrow hAL, (hE.2.2.1 k hk).2.narrow hAL⟩, hE.2.2.2.1, ⟨hE.2.2.2.2.1.1.narrow hAL, hE.2.2.2.2.1.2.1.narrow hAL, hE.2.2.2.2.1.2.2.narrow hAL⟩, hE.2.2.2.2.2.1, Nat.le_refl 25⟩
  obtain ⟨⟨ws', hw1⟩, hw2, hw3, hw4, hw5⟩ := cw_X7_init_X0_lay
  have hrun := va_runV (R := X.2.2.2.1) (H := H) (locs := locs) (g := F0 X.2.2.2.2.2.1 160 ls [.int 3, .int 3, .ref q7]) (As := [.int 3, .int 3]) (rest := []) (b := q7) (cells := 24) (slots := 75866) (e := X.2.2.1) (below := X.2.2.2.2.2.2.2.1) (meth := X.2.2.2.2.2.2.2.2.1) ⟨O.1, O.2.1, O.2.2.1, O.2.2.2.1, O.2.2.2.2.1⟩ (f_X0_lay_ok (l := X.2.1) (G := ((fun i => [a, q1, (u2 0), (u2 1), q3, (u4 0), q5, (u6 0), (u6 1), (u6 2), q7, (u8 0), q9, q11, (u12 0), q13, (u14 0), (u14 1), (u14 2), (u14 3), q15, q16, q17, q18, q19].getD i 0), D, cI, cZ, sa, K, W, A, 25)) ez) (cwV 2 O.2.2.2.2.1 gX7_init_X0_lay hw1 hw2 hw3 ⟨rfl, hw4⟩ (by rw [O.2.2.2.2.2.2.2]; exact hw5)) ⟨pre_blind, va_recv (ci := 0) (q0 := 10) hRv.1 hPw rfl (wld_at (show (10 : Nat) < 25 by decide)), fun U hU hW9 => ⟨rfl, by rw [hU]; exact hPw, hRv.moves hU hW9 hS⟩⟩ rfl rfl hl.1 rfl (lv_room (Nat.le_of_ble_eq_true rfl)) dX7_init_160 (by rw [O.2.2.2.2.2.2.2]; exact ⟨Nat.le_of_ble_eq_true rfl, Nat.le_of_ble_eq_true rfl⟩)
  refine va_callv hrun hS (fun _ _ q => q) (fun _ q => q) (fun u t H1 locs1 ht _ hp hB _ _ hS1 => ?_)
  have hB : va_P D vwCl (wld ((fun i => [a, q1, (u2 0), (u2 1), q3, (u4 0), q5, (u6 0), (u6 1), (u6 2), q7, (u8 0), q9, q11, (u12 0), q13, (u14 0), (u14 1), (u14 2), (u14 3), q15, q16, q17, q18, q19].getD i 0), D, cI, cZ, sa, K, W, A, 25) u) t.heap := hB
  rw [hp, ht] at hB
  refine fin 163 24 75866 _ (wld ((fun i => [a, q1, (u2 0), (u2 1), q3, (u4 0), q5, (u6 0), (u6 1), (u6 2), q7, (u8 0), q9, q11, (u12 0), q13, (u14 0), (u14 1), (u14 2), (u14 3), q15, q16, q17, q18, q19].getD i 0), D, cI, cZ, sa, K, W, A, 25) z.2) (fun i => [a, q1, (u2 0), (u2 1), q3, (u4 0), q5, (u6 0), (u6 1), (u6 2), q7, (u8 0), q9, q11, (u12 0), q13, (u14 0), (u14 1), (u14 2), (u14 3), q15, q16, q17, q18, q19].getD i 0) dX7_init_163 ?_ (by decide) (by decide) ls H1 locs1 hl hB (wld_D hDw z.2) hS1
  refine wld_same ?_ rfl rfl rfl
  funext i
  by_cases hi : i = 0
  · subst hi; rfl
  · exact if_neg hi
