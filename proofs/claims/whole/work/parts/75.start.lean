/-! ===== what the Statement gives at the start ===== -/
theorem mT {w : Cond} (i : Nat) (h : tables_1[i]? = some w) : w ∈ lw_tbl := List.mem_append_right _ (List.mem_of_getElem? h)
def stLay : List Nat := [483, 481, 207, 209, 494, 496, 498]
def stIni : List Nat := [1, 1, 5, 5, 5, 5, 5]
theorem st_lay : ∀ k, k < 7 → tables_1[stLay.getD k 0]? = some (Cond.laysStatic (tbC k) (tbM k) "[I") := by decide +kernel
theorem st_ini : ∀ k, k < 7 → tables_1[stIni.getD k 0]? = some (Cond.initialized (tbC k)) := by decide +kernel
theorem st_lt : ∀ k, k < 7 → tbLen k < 2 ^ 31 := by decide +kernel
theorem st_arr : ∀ k, k < 7 → Cond.arrayOf (.static (tbC k) (tbM k) "[I") .int ∈ flatC (Jvm.Cond.and given_1 narrow_1) := by decide +kernel
theorem st_len : ∀ k, k < 7 → Cond.eq (.length (.static (tbC k) (tbM k) "[I")) (.int (Int32.ofNat (tbLen k))) ∈ flatC (Jvm.Cond.and given_1 narrow_1) := by decide +kernel
theorem st_el : ∀ k, k < 7 → ∀ j, j < tbLen k → Cond.eq (.elem (.static (tbC k) (tbM k) "[I") (.int (Int32.ofNat j))) (.int (tb k j)) ∈ flatC (Jvm.Cond.and given_1 narrow_1) := by decide +kernel
theorem st_SA {s : State} {b : Nat} (hts : ∀ w ∈ lw_tbl, w.before #[Value.ref b] s = true) (hgv : (Jvm.Cond.and given_1 narrow_1).before #[Value.ref b] s = true) {A : Nat → Prop} (hA : ∀ a : Nat, a < s.heap.size → ¬ A a) : ∃ sa : Nat → Nat, ∀ k, k < 7 → va_Z (tbC k) (tbM k) "[I" (.ref (sa k)) A s s.heap ∧ va_T .int (sa k) (tbLen k) (fun j => .int (tb k j)) A s s.heap := by
  have hs := flat_of_before _ hgv
  have h0 : ∀ k : Nat, ∃ t : Nat, k < 7 → va_Z (tbC k) (tbM k) "[I" (.ref t) A s s.heap ∧ va_T .int t (tbLen k) (fun j => .int (tb k j)) A s s.heap := by
    intro k
    by_cases hk : k < 7
    · obtain ⟨t, ht, hT⟩ := va_Tof (tm := .static (tbC k) (tbM k) "[I") (ty := .int) (N := tbLen k) (f := fun j => .int (tb k j)) (A := A) (st_lt k hk) (hs _ (st_arr k hk)) (va_eqt (hs _ (st_len k hk))) (fun j hj => va_eqt (hs _ (st_el k hk j hj))) hA
      exact ⟨t, fun _ => ⟨va_Zof (hts _ (mT _ (st_lay k hk))) (hts _ (mT _ (st_ini k hk))) ht hA, hT⟩⟩
    · exact ⟨0, fun h => absurd h hk⟩
  obtain ⟨sa, hsa⟩ := Classical.axiomOfChoice h0
  exact ⟨sa, fun k hk => hsa k hk⟩
/-! the texts -/
def stT (i : Nat) : Term := .string RX3 (stI i)
def stSr : List Nat := [306, 387, 410, 422, 423, 424, 425, 426, 427, 428, 435]
theorem st_sr : ∀ i, i < 11 → tables_1[stSr.getD i 0]? = some (Cond.stringRef RX3 (stI i) (stX i)) := by decide +kernel
theorem st_sl : ∀ i, i < 11 → stLen.getD i 0 < 2 ^ 31 := by decide +kernel
theorem st_ex : ∀ i, i < 11 → Cond.exactly (stT i) "java/lang/String" ∈ flatC (Jvm.Cond.and given_1 narrow_1) := by decide +kernel
theorem st_co : ∀ i, i < 11 → Cond.eq (.field (stT i) "java/lang/String" "coder" "B") (.int 0) ∈ flatC (Jvm.Cond.and given_1 narrow_1) := by decide +kernel
theorem st_va : ∀ i, i < 11 → Cond.arrayOf (.field (stT i) "java/lang/String" "value" "[B") .byte ∈ flatC (Jvm.Cond.and given_1 narrow_1) := by decide +kernel
theorem st_vl : ∀ i, i < 11 → Cond.eq (.length (.field (stT i) "java/lang/String" "value" "[B")) (.int (Int32.ofNat (stLen.getD i 0))) ∈ flatC (Jvm.Cond.and given_1 narrow_1) := by decide +kernel
theorem st_ve : ∀ i, i < 11 → ∀ j, j < stLen.getD i 0 → Cond.eq (.elem (.field (stT i) "java/lang/String" "value" "[B") (.int (Int32.ofNat j))) (.int ((stByt.getD i []).getD j 0)) ∈ flatC (Jvm.Cond.and given_1 narrow_1) := by decide +kernel
theorem st_ne : ∀ j, j < 11 → ∀ i, i < j → Cond.not (Cond.eq (stT i) (stT j)) ∈ flatC (Jvm.Cond.and given_1 narrow_1) := by decide +kernel
theorem st_cs : Cond.eq (.static "java/lang/String" "COMPACT_STRINGS" "Z") (.int 1) ∈ flatC (Jvm.Cond.and given_1 narrow_1) := by decide +kernel
theorem st_si : Cond.isRef (.static "jdk/internal/util/Preconditions" "SIOOBE_FORMATTER" "Ljava/util/function/BiFunction;") ∈ flatC (Jvm.Cond.and given_1 narrow_1) := by decide +kernel
theorem st_Str {s : State} {b : Nat} (hts : ∀ w ∈ lw_tbl, w.before #[Value.ref b] s = true) (hgv : (Jvm.Cond.and given_1 narrow_1).before #[Value.ref b] s = true) {A : Nat → Prop} (hA : ∀ a : Nat, a < s.heap.size → ¬ A a) : ∃ K W : Nat → Nat, (vk_S 11 stLen stByt K W A s s.heap ∧ va_Z "java/lang/String" "COMPACT_STRINGS" "Z" (.int 1) A s s.heap ∧ va_Zq "jdk/internal/util/Preconditions" "SIOOBE_FORMATTER" "Ljava/util/function/BiFunction;" A s s.heap) ∧ ∀ i, i < 11 → vk_R RX3 (stI i) (stX i) (K i) s := by
  have hs := flat_of_before _ hgv
  obtain ⟨K, W, hS, hev⟩ := vk_Sof (args := #[Value.ref b]) (s := s) (N := 11) (tm := stT) (len := stLen) (byt := stByt) (A := A) st_sl (fun i hi => hs _ (st_ex i hi)) (fun i hi => hs _ (st_co i hi)) (fun i hi => hs _ (st_va i hi)) (fun i hi => hs _ (st_vl i hi)) (fun i hi j hj => hs _ (st_ve i hi j hj)) (fun i j hi hj hij => by
    rcases Nat.lt_or_gt_of_ne hij with h | h
    · exact Or.inl (hs _ (st_ne j hj i h))
    · exact Or.inr (hs _ (st_ne i hi j h))) hA
  refine ⟨K, W, ⟨hS, va_Zof (hts _ (mT 320 (by decide +kernel))) (hts _ (mT 12 (by decide +kernel))) (va_eqi (hs _ st_cs)) hA, va_Zqof (hts _ (mT 336 (by decide +kernel))) (hts _ (mT 14 (by decide +kernel))) (hs _ st_si) hA⟩, fun i hi => vk_R.of (hts _ (mT _ (st_sr i hi))) (hev i hi)⟩
/-! the nest's links -/
theorem st_n0 : Cond.methodLinkNest RX0 27 yX7_noKind "WhiteKnights" ∈ lw_tbl := mT 492 (by decide +kernel)
theorem st_n1 : Cond.methodLinkNest RX0 40 yX7_bit "WhiteKnights" ∈ lw_tbl := mT 499 (by decide +kernel)
theorem st_n2 : Cond.methodLinkNest RX1 23 yX7_bit "WhiteKnights" ∈ lw_tbl := mT 515 (by decide +kernel)
theorem st_n3 : Cond.methodLinkNest RX1 27 yX7_moved "WhiteKnights" ∈ lw_tbl := mT 516 (by decide +kernel)
theorem st_n4 : Cond.methodLinkNest RX1 52 yX7_placeOf "WhiteKnights" ∈ lw_tbl := mT 513 (by decide +kernel)
theorem st_n5 : Cond.methodLinkNest RX2 23 yX7_bit "WhiteKnights" ∈ lw_tbl := mT 551 (by decide +kernel)
theorem st_n6 : Cond.methodLinkNest RX3 132 yX7_bit "WhiteKnights" ∈ lw_tbl := mT 400 (by decide +kernel)
theorem st_n7 : Cond.methodLinkNest RX4 76 yX7_bit "WhiteKnights" ∈ lw_tbl := mT 634 (by decide +kernel)
theorem st_n8 : Cond.methodLinkNest RX4 79 yX7_moved "WhiteKnights" ∈ lw_tbl := mT 645 (by decide +kernel)
theorem st_n9 : Cond.methodLinkNest RX4 93 yX7_placeOf "WhiteKnights" ∈ lw_tbl := mT 664 (by decide +kernel)
theorem st_n10 : Cond.methodLinkNest RX5 43 yX7_moved "WhiteKnights" ∈ lw_tbl := mT 419 (by decide +kernel)
theorem st_n11 : Cond.methodLinkNest RX5 53 yX7_placeOf "WhiteKnights" ∈ lw_tbl := mT 407 (by decide +kernel)
theorem st_nA : Cond.methodLinkNest RX7 18 yX6_init "WhiteKnights" ∈ lw_tbl := mT 85 (by decide +kernel)
theorem st_nB : Cond.methodLinkNest RX7 34 yX0_init "WhiteKnights" ∈ lw_tbl := mT 130 (by decide +kernel)
theorem st_Nst {s : State} {b : Nat} (hts : ∀ w ∈ lw_tbl, w.before #[Value.ref b] s = true) : Nst s := by
  unfold Nst nestT
  exact List.forall_mem_cons.mpr ⟨va_Nw.of rfl (hts _ st_n0), List.forall_mem_cons.mpr ⟨va_Nw.of rfl (hts _ st_n1), List.forall_mem_cons.mpr ⟨va_Nw.of rfl (hts _ st_n2), List.forall_mem_cons.mpr ⟨va_Nw.of rfl (hts _ st_n3), List.forall_mem_cons.mpr ⟨va_Nw.of rfl (hts _ st_n4), List.forall_mem_cons.mpr ⟨va_Nw.of rfl (hts _ st_n5), List.forall_mem_cons.mpr ⟨va_Nw.of rfl (hts _ st_n6), List.forall_mem_cons.mpr ⟨va_Nw.of rfl (hts _ st_n7), List.forall_mem_cons.mpr ⟨va_Nw.of rfl (hts _ st_n8), List.forall_mem_cons.mpr ⟨va_Nw.of rfl (hts _ st_n9), List.forall_mem_cons.mpr ⟨va_Nw.of rfl (hts _ st_n10), List.forall_mem_cons.mpr ⟨va_Nw.of rfl (hts _ st_n11), fun _ h => absurd h List.not_mem_nil⟩⟩⟩⟩⟩⟩⟩⟩⟩⟩⟩⟩
/-! the classes -/
theorem st_K {s : State} {b : Nat} (hts : ∀ w ∈ lw_tbl, w.before #[Value.ref b] s = true) : ∃ (D : va_G) (cI cZ : ClassId), va_K D vwCl (kw cI cZ) s := by
  obtain ⟨c0, i0, h0⟩ := u_known (C := RX0) (T := TX0) (N := 1) (n := 1) hts inX0 (hts (.instantiable RX0 1) (mT 129 (by decide +kernel)))
  obtain ⟨c1, i1, h1⟩ := u_known (C := RX1) (T := TX1) (N := 2) (n := 2) hts inX1 (hts (.instantiable RX1 2) (mT 139 (by decide +kernel)))
  obtain ⟨c2, i2, h2⟩ := u_known (C := RX2) (T := TX2) (N := 3) (n := 3) hts inX2 (hts (.instantiable RX2 3) (mT 152 (by decide +kernel)))
  obtain ⟨c3, i3, h3⟩ := u_known (C := RX3) (T := TX3) (N := 4) (n := 4) hts inX3 (hts (.instantiable RX3 4) (mT 105 (by decide +kernel)))
  obtain ⟨c4, i4, h4⟩ := u_known (C := RX4) (T := TX4) (N := 8) (n := 8) hts inX4 (hts (.instantiable RX4 8) (mT 169 (by decide +kernel)))
  obtain ⟨c5, i5, h5⟩ := u_known (C := RX5) (T := TX5) (N := 9) (n := 9) hts inX5 (hts (.instantiable RX5 9) (mT 26 (by decide +kernel)))
  obtain ⟨c6, i6, h6⟩ := u_known (C := RX6) (T := TX6) (N := 4) (n := 4) hts inX6 (hts (.instantiable RX6 4) (mT 84 (by decide +kernel)))
  obtain ⟨c7, i7, h7⟩ := u_known (C := RX7) (T := TX7) (N := 15) (n := 15) hts inX7 (hts (.instantiable RX7 15) (mT 18 (by decide +kernel)))
  obtain ⟨c8, i8, h8⟩ := u_known (C := RX8) (T := TX8) (N := 34) (n := 34) hts inX8 (hts (.instantiable RX8 34) (mT 723 (by decide +kernel)))
  obtain ⟨cI, kI, mI, f1, f2, f3⟩ := Cond.arrayClass_spec (args := #[Value.ref b]) (first := s) (o := none) (s := s) (idx := []) (type := .int) (hts (.arrayClass .int) (mT 82 (by decide +kernel)))
  obtain ⟨cZ, kZ, mZ, g1, g2, g3⟩ := Cond.arrayClass_spec (args := #[Value.ref b]) (first := s) (o := none) (s := s) (idx := []) (type := .boolean) (hts (.arrayClass .boolean) (mT 256 (by decide +kernel)))
  refine ⟨(fun k => [c0, c1, c2, c3, c4, c5, c6, c7, c8].getD k c0, fun k => [i0, i1, i2, i3, i4, i5, i6, i7, i8].getD k i0), cI, cZ, fun k q hq => ?_, fun k q hq => ?_⟩
  · match k, hq with
    | 0, hq => cases hq; exact h0
    | 1, hq => cases hq; exact h1
    | 2, hq => cases hq; exact h2
    | 3, hq => cases hq; exact h3
    | 4, hq => cases hq; exact h4
    | 5, hq => cases hq; exact h5
    | 6, hq => cases hq; exact h6
    | 7, hq => cases hq; exact h7
    | 8, hq => cases hq; exact h8
    | k + 9, hq => simp [vwCl] at hq
  · match k, hq with
    | 0, hq => cases hq; exact ⟨fun n z => ⟨fun k h => (by cases h), kI, f2, mI, f3⟩, f1⟩
    | 1, hq => cases hq; exact ⟨fun n z => ⟨fun k h => (by cases h), kZ, g2, mZ, g3⟩, g1⟩
    | k + 2, hq => simp [kw] at hq
