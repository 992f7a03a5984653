/-! texts: the String constants, and the JDK's own methods on them -/
section STRROWS
variable {X : Cx} {G : Gx} {nL : Nat} {Q : State → Prop} {h : Hp} {pc : Nat} {lv : List (Nat × Value)} {st : List Value} {cc : ByteArray} {own : String} {Ts : List Cond} {ret : Option FieldType} {R0 : Room} {z : Rs}
theorem v_ldcS (O : Ok X G cc RX3 nL Ts ret R0) (i : Nat) (hi : i < 11) (hdg : decode cc pc = .ok (.ldc (stI i), 2)) (k : V X G nL Q h (pc + 2) lv (.ref (gK G i) :: st)) : V X G nL Q h pc lv st := fun ls H locs hl hR hS => va_ldcS O.1 O.2.1 O.2.2.2.1 (O.2.2.2.2.2.1.2.2.2.2.2.1 i hi) hdg (k ls H locs hl hR hS)
theorem v_getValue (O : Ok X G cc own nL Ts ret R0) {i index : Nat} (hi : i < 11) (hlink : Cond.fieldLink own index "java/lang/String" "value" "[B" ∈ Ts) (hdg : decode cc pc = .ok (.getfield index, 3)) (k : V X G nL Q h (pc + 3) lv (.ref (gV G i) :: st)) : V X G nL Q h pc lv (.ref (gK G i) :: st) := fun ls H locs hl hR hS => vk_getf O.1 O.2.1 (O.2.2.2.2.2.1.2.2.2.2.1.1.1 i hi).2.2.1 hS O.2.2.2.1 (O.2.2.2.2.1 _ hlink) (fun _ q => q) hdg (k ls H locs hl hR hS)
theorem v_getCoder (O : Ok X G cc own nL Ts ret R0) {i index : Nat} (hi : i < 11) (hlink : Cond.fieldLink own index "java/lang/String" "coder" "B" ∈ Ts) (hdg : decode cc pc = .ok (.getfield index, 3)) (k : V X G nL Q h (pc + 3) lv (.int 0 :: st)) : V X G nL Q h pc lv (.ref (gK G i) :: st) := fun ls H locs hl hR hS => vk_getf O.1 O.2.1 (O.2.2.2.2.2.1.2.2.2.2.1.1.1 i hi).2.1 hS O.2.2.2.1 (O.2.2.2.2.1 _ hlink) (fun _ q => q) hdg (k ls H locs hl hR hS)
theorem v_getCS (O : Ok X G cc own nL Ts ret R0) {index : Nat} (hlink : Cond.fieldLink own index "java/lang/String" "COMPACT_STRINGS" "Z" ∈ Ts) (hdg : decode cc pc = .ok (.getstatic index, 3)) (k : V X G nL Q h (pc + 3) lv (.int 1 :: st)) : V X G nL Q h pc lv st := fun ls H locs hl hR hS => va_gets O.1 O.2.1 O.2.2.2.2.2.1.2.2.2.2.1.2.1 hS O.2.2.2.1 (O.2.2.2.2.1 _ hlink) (fun _ q => q) hdg (k ls H locs hl hR hS)
theorem v_getQ (O : Ok X G cc own nL Ts ret R0) {index : Nat} (hlink : Cond.fieldLink own index "jdk/internal/util/Preconditions" "SIOOBE_FORMATTER" "Ljava/util/function/BiFunction;" ∈ Ts) (hdg : decode cc pc = .ok (.getstatic index, 3)) (k : ∀ w : Value, w.category = 1 → V X G nL Q h (pc + 3) lv (w :: st)) : V X G nL Q h pc lv st := by
  intro ls H locs hl hR hS
  rcases O.2.2.2.2.2.1.2.2.2.2.1.2.2 with q | ⟨t, q⟩
  · exact va_gets O.1 O.2.1 q hS O.2.2.2.1 (O.2.2.2.2.1 _ hlink) (fun _ q => q) hdg (k _ rfl ls H locs hl hR hS)
  · exact va_gets O.1 O.2.1 q hS O.2.2.2.1 (O.2.2.2.2.1 _ hlink) (fun _ q => q) hdg (k _ rfl ls H locs hl hR hS)
theorem v_lenS (O : Ok X G cc own nL Ts ret R0) {i : Nat} (hi : i < 11) (hdg : decode cc pc = .ok (.arraylength, 1)) (k : V X G nL Q h (pc + 1) lv (.int (Int32.ofNat (stLen.getD i 0)) :: st)) : V X G nL Q h pc lv (.ref (gV G i) :: st) := fun ls H locs hl hR hS => va_tlen O.1 O.2.1 (O.2.2.2.2.2.1.2.2.2.2.1.1.1 i hi).2.2.2 hS rfl hdg (k ls H locs hl hR hS)
theorem v_tbS (O : Ok X G cc own nL Ts ret R0) {i : Nat} (hi : i < 11) {j : Int32} {A : Option Rs} (hdg : decode cc pc = .ok (.baload, 1)) (e : (if ib j (stLen.getD i 0) = true then A else none) = some z) (k : A = some z → V X G nL Q h (pc + 1) lv (.int ((stByt.getD i []).getD (ix j) 0) :: st)) : V X G nL Q h pc lv (.int j :: .ref (gV G i) :: st) := fun ls H locs hl hR hS => va_tb O.1 O.2.1 (O.2.2.2.2.2.1.2.2.2.2.1.1.1 i hi).2.2.2 hS (ib_in (if_ok e).1) rfl hdg (k (if_ok e).2 ls H locs hl hR hS)
theorem v_nret {rt : FieldType} (O : Ok X G cc own nL Ts (some rt) R0) (hrt : ∀ x, narrow rt (.int x) = .int (vp_nar rt x)) {v : Int32} (hdg : decode cc pc = .ok (.ireturn, 1)) (e : (if nk rt v = true then some (v, h) else none) = some z) : V X G nL (QI X G z) h pc lv [.int v] := by
  obtain ⟨hz, e⟩ := if_ok e
  cases e
  have hz : vp_nar rt v = v := by simpa [nk] using hz
  intro ls H locs hl hR hS
  exact W.zret O.1 O.2.1 O.2.2.2.2.2.2.2.1 (by rw [hrt, hz]) (fun t ht hW => ⟨⟨v, h, rfl, ⟨rfl, rfl⟩, by show Rh G h t.heap; rw [ht]; exact hR⟩, hS.F ht⟩) hS.2.2 hdg O.2.2.2.2.2.2.1
theorem v_cSti (O : Ok X G cc own nL Ts ret R0) {y : MethodName} {bytes : ByteArray} {index maxL n i : Nat} {rt : Option FieldType} {ws : List Cond} {rm : Room} {a : Option Rs} {F : Int32 → Hp → Option Rs} {st0 : List Value} (hi : i < 11) (As rest : List Value) (hg : GoodIn Ts (wsV own index RJ0 y ws)) (hw : CwO R0 y ws bytes maxL rt rm n) (hC : y.cls = RJ0) (hn : As.length = n) (hst : st0 = As.reverse ++ .ref (gK G i) :: rest) (hrest : (rest.map fun v => v.category).sum ≤ 8) (hdg : decode cc pc = .ok (.invokevirtual index, 3)) (e : cl a F = some z) (hM : ∀ z', a = some z' → CI X.2.1 G y ws rm (.ref (gK G i) :: As) h z') (kk : ∀ r h', F r h' = some z → V X G nL Q h' (pc + 3) lv (.int r :: rest)) : V X G nL Q h pc lv st0 := by
  intro ls H locs hl hR hS
  obtain ⟨⟨ws', hw1⟩, hw2, hw3, hw4, hw5⟩ := hw
  exact v_aft hl hS e (fun z' ha => va_runV (ok_fix O) (hM z' ha) (cwV n O.2.2.2.2.1 hg hw1 hw2 hw3 ⟨hC, hw4⟩ (by rw [ok_R O]; exact hw5)) ⟨pre_blind, vk_recv O.2.2.2.2.2.1.2.2.2.2.1.1 hi hS, fun U hU hW => ⟨rfl, by rw [hU]; exact hR, O.2.2.2.2.2.1.moves hU hW hS⟩⟩ rfl hn hl.1 hst (lv_room hrest) hdg (ok_room O)) kk
end STRROWS
theorem m_ret {l : Launch} {G : Gx} {y : MethodName} {ws : List Cond} {rm : Room} {av : List Value} {h : Hp} {z : Rs} {cc : ByteArray} {maxL : Nat} {rt : FieldType} (ws' : List Cond) (hy : plainName y.cls = true) (hw : ws = Cond.code y cc maxL (some rt) :: ws') (lv0 : List (Nat × Value)) (hlv : lv_args 0 av = lv0) (hav : (lg_sl av).length ≤ maxL) (K : ∀ X : Cx, Ok X G cc y.cls maxL ws (some rt) rm → V X G maxL (QI X G z) h 0 lv0 []) : CI l G y ws rm av h z := by
  refine Met.ofW hy hw ?_
  intro p e s m args below meth c s₁ B hml hv
  obtain ⟨rfl, hR, hV⟩ := hv
  rw [lg_entry_eq]
  exact K (p, l, e, (headSpec ws rm).room, s, m, av.toArray, below, meth, c, 0, 0) ⟨B.exec, B.bytes, hml, findClass_of_methodNamed B.named, atoms_spec (ws := ws) B.pre, hV, B.notSynchronized, B.returns, rfl, Nat.zero_le _, Nat.zero_le _⟩ _ _ _ (hlv ▸ lv_entry av hav) hR va_S.rf
/-! Preconditions.checkIndex, its third argument never looked at -/
abbrev rm_J3_checkIndex_8e157 : Room := { frames := 0, cells := 0, slots := 0, locals := 0 }
theorem f_J3_checkIndex_8e157_ok {l : Launch} {G : Gx} {N : Nat} {a0 a1 : Int32} {h : Hp} {z : Rs} {w : Value} (hw : w.category = 1) (e : f_J3_checkIndex_8e157 N a0 a1 h = some z) : CI l G yJ3_checkIndex_8e157 wsJ3_checkIndex_8e157 rm_J3_checkIndex_8e157 [.int a0, .int a1, w] h z := by
  refine m_int _ (by decide) rfl [(0, .int a0), (1, .int a1), (2, w)] rfl (by simp [lg_sl, hw, show (Value.int a0).category = 1 from rfl, show (Value.int a1).category = 1 from rfl]) (fun X O => ?_)
  unfold f_J3_checkIndex_8e157 at e
  refine v_iload_n O dJ3_checkIndex_8e157_0 0 rfl rfl ?_
  refine v_if_lt O dJ3_checkIndex_8e157_1 9 (by decide) e (fun e => ?_) (fun e => ?_)
  · cases e
  refine v_iload_n O dJ3_checkIndex_8e157_4 0 rfl rfl ?_
  refine v_iload_n O dJ3_checkIndex_8e157_5 1 rfl rfl ?_
  refine v_icmp_lt O dJ3_checkIndex_8e157_6 16 (by decide) e (fun e => ?_) (fun e => ?_)
  · refine v_iload_n O dJ3_checkIndex_8e157_16 0 rfl rfl ?_
    exact v_iret O dJ3_checkIndex_8e157_17 e
  · cases e
