/-! the abstract heap: an int for each cell of ours and each slot; one long -/
abbrev Hp : Type := (Nat → Nat → Int32) × Int64
abbrev Rs : Type := Int32 × Hp
def rd (h : Hp) (o k : Nat) : Int32 := h.1 o k
def wrow (h : Hp) (o : Nat) (f : Nat → Int32) : Hp := (fun a => if a = o then f else h.1 a, h.2)
def wr (h : Hp) (o k : Nat) (v : Int32) : Hp := wrow h o (upd (h.1 o) k v)
def wrl (h : Hp) (v : Int64) : Hp := (h.1, v)
/-- a value is named; a call's answer and heap are named; a place is in its bounds -/
def lt {α β : Type} (x : α) (k : α → β) : β := k x
def cl (a : Option Rs) (k : Int32 → Hp → Option Rs) : Option Rs := match a with
  | none => none
  | some z => k z.1 z.2
def ib (i : Int32) (n : Nat) : Bool := decide (0 ≤ i.toInt) && decide (i.toInt < n)
abbrev ix (i : Int32) : Nat := i.toNatClampNeg
theorem ib_in {i : Int32} {n : Nat} (h : ib i n = true) : vp_in i n := by
  simp only [ib, Bool.and_eq_true, decide_eq_true_eq] at h
  exact vp_in_iff.mpr h
theorem cl_ok {a : Option Rs} {k : Int32 → Hp → Option Rs} {z : Rs} (e : cl a k = some z) : ∃ r h, a = some (r, h) ∧ k r h = some z := by
  cases a with
  | none => cases e
  | some q => exact ⟨q.1, q.2, rfl, e⟩
theorem if_ok {c : Prop} [Decidable c] {a : Option Rs} {z : Rs} (e : (if c then a else none) = some z) : c ∧ a = some z := by
  by_cases hc : c
  · rw [if_pos hc] at e; exact ⟨hc, e⟩
  · rw [if_neg hc] at e; cases e
/-! the places: where our cells are, the classes' numbers, the tables, the texts, which addresses are ours -/
abbrev Gx : Type := (Nat → Nat) × va_G × ClassId × ClassId × (Nat → Nat) × (Nat → Nat) × (Nat → Nat) × (Nat → Prop) × Nat
abbrev gAd (G : Gx) : Nat → Nat := G.1
abbrev gD (G : Gx) : va_G := G.2.1
abbrev gI (G : Gx) : ClassId := G.2.2.1
abbrev gZ (G : Gx) : ClassId := G.2.2.2.1
abbrev gSa (G : Gx) : Nat → Nat := G.2.2.2.2.1
abbrev gK (G : Gx) : Nat → Nat := G.2.2.2.2.2.1
abbrev gV (G : Gx) : Nat → Nat := G.2.2.2.2.2.2.1
def gA (G : Gx) : Nat → Prop := G.2.2.2.2.2.2.2.1
/-- how many of our cells there are: 25 (the class's), 41 (the model's, too) -/
abbrev gN (G : Gx) : Nat := G.2.2.2.2.2.2.2.2
def cel (G : Gx) (h : Hp) : Nat → va_E
  | 0 => .inr (7, [.ref (G.1 1), .ref (G.1 4), .ref (G.1 6), .ref (G.1 10), .ref (G.1 12), .ref (G.1 13), .ref (G.1 15), .ref (G.1 20), .ref (G.1 21), .ref (G.1 22), .ref (G.1 23), .ref (G.1 24), .int (h.1 0 12), .int (h.1 0 13), .int (h.1 0 14)])
  | 1 => .inr (5, [.int (h.1 1 0), .int (h.1 1 1), .int (h.1 1 2), .int (h.1 1 3), .int (h.1 1 4), .int (h.1 1 5), .int (h.1 1 6), .ref (G.1 2), .ref (G.1 3)])
  | 2 => .inl (gI G, 4, .inl (h.1 2))
  | 3 => .inl (gI G, 4, .inl (h.1 3))
  | 4 => .inr (6, [.ref (G.1 5), .int (h.1 4 1), .int (h.1 4 2), .int (h.1 4 3)])
  | 5 => .inl (gI G, 200, .inl (h.1 5))
  | 6 => .inr (3, [.ref (G.1 7), .int (h.1 6 1), .int (h.1 6 2), .ref (G.1 4)])
  | 7 => .inr (5, [.int (h.1 7 0), .int (h.1 7 1), .int (h.1 7 2), .int (h.1 7 3), .int (h.1 7 4), .int (h.1 7 5), .int (h.1 7 6), .ref (G.1 8), .ref (G.1 9)])
  | 8 => .inl (gI G, 4, .inl (h.1 8))
  | 9 => .inl (gI G, 4, .inl (h.1 9))
  | 10 => .inr (0, [.ref (G.1 11)])
  | 11 => .inl (gI G, 192, .inl (h.1 11))
  | 12 => .inr (1, [.ref (G.1 1), .ref (G.1 10)])
  | 13 => .inr (2, [.ref (G.1 14), .ref (G.1 10), .int (h.1 13 2)])
  | 14 => .inl (gI G, 12, .inl (h.1 14))
  | 15 => .inr (4, [.ref (G.1 1), .ref (G.1 12), .ref (G.1 16), .ref (G.1 17), .ref (G.1 18), .ref (G.1 19), .int (h.1 15 6), .int (h.1 15 7)])
  | 16 => .inl (gI G, 4096, .inl (h.1 16))
  | 17 => .inl (gI G, 23760, .inl (h.1 17))
  | 18 => .inl (gI G, 23760, .inl (h.1 18))
  | 19 => .inl (gI G, 23760, .inl (h.1 19))
  | 20 => .inl (gI G, 2, .inl (h.1 20))
  | 21 => .inl (gI G, 2, .inl (h.1 21))
  | 22 => .inl (gZ G, 2, .inl (h.1 22))
  | 23 => .inl (gI G, 12, .inl (h.1 23))
  | 24 => .inl (gI G, 12, .inl (h.1 24))
  | 25 => .inr (8, [.int (h.1 25 0), .int (h.1 25 1), .int (h.1 25 2), .int (h.1 25 3), .int (h.1 25 4), .ref (G.1 26), .int (h.1 25 6), .ref (G.1 27), .int (h.1 25 8), .int (h.1 25 9), .long h.2, .int (h.1 25 11), .int (h.1 25 12), .int (h.1 25 13), .int (h.1 25 14), .int (h.1 25 15), .int (h.1 25 16), .int (h.1 25 17), .ref (G.1 28), .ref (G.1 29), .ref (G.1 30), .ref (G.1 31), .int (h.1 25 22), .ref (G.1 32), .ref (G.1 33), .int (h.1 25 25), .ref (G.1 34), .ref (G.1 35), .ref (G.1 36), .ref (G.1 37), .ref (G.1 38), .int (h.1 25 31), .ref (G.1 39), .ref (G.1 40)])
  | 26 => .inl (gI G, 16, .inl (h.1 26))
  | 27 => .inl (gI G, 200, .inl (h.1 27))
  | 28 => .inl (gI G, 4, .inl (h.1 28))
  | 29 => .inl (gI G, 4, .inl (h.1 29))
  | 30 => .inl (gI G, 48, .inl (h.1 30))
  | 31 => .inl (gI G, 4, .inl (h.1 31))
  | 32 => .inl (gI G, 10, .inl (h.1 32))
  | 33 => .inl (gZ G, 2, .inl (h.1 33))
  | 34 => .inl (gI G, 24, .inl (h.1 34))
  | 35 => .inl (gI G, 41472, .inl (h.1 35))
  | 36 => .inl (gI G, 41472, .inl (h.1 36))
  | 37 => .inl (gI G, 41472, .inl (h.1 37))
  | 38 => .inl (gI G, 41472, .inl (h.1 38))
  | 39 => .inl (gI G, 4, .inl (h.1 39))
  | 40 => .inl (gI G, 12, .inl (h.1 40))
  | _ => .inl (gI G, 0, .inl (fun _ => 0))
def wld (G : Gx) (h : Hp) : va_W := (List.range (gN G)).map (fun i => (G.1 i, cel G h i))
theorem wld_at {G : Gx} {h : Hp} {o : Nat} (ho : o < gN G) : (wld G h)[o]? = some (G.1 o, cel G h o) := by
  simp [wld, ho]
theorem wld_set {G : Gx} {h h1 : Hp} {o : Nat} (ho : o < gN G) {x : va_E} (hx : cel G h1 o = x) (hne : ∀ i, i < gN G → i ≠ o → cel G h1 i = cel G h i) : (wld G h).set o (G.1 o, x) = wld G h1 := by
  apply List.ext_getElem?
  intro i
  by_cases hi : i = o
  · subst hi
    rw [wld_at ho, List.getElem?_set_self (by simp [wld, ho]), hx]
  · rw [List.getElem?_set_ne (Ne.symm hi)]
    by_cases hl : i < gN G
    · rw [wld_at hl, wld_at hl, hne i hl hi]
    · simp [wld, hl]
theorem cel_congr {G : Gx} {h h1 : Hp} {i : Nat} (e1 : h1.1 i = h.1 i) (e2 : h1.2 = h.2) : cel G h1 i = cel G h i := by
  unfold cel
  split <;> simp only [e1, e2]
theorem cel_row {G : Gx} {h : Hp} {o : Nat} {f : Nat → Int32} : ∀ i, i < gN G → i ≠ o → cel G (wrow h o f) i = cel G h i := fun i _ hi => cel_congr (by simp [wrow, hi]) rfl
theorem cel_long {G : Gx} {h : Hp} {v : Int64} : ∀ i, i < gN G → i ≠ 25 → cel G (wrl h v) i = cel G h i := by
  intro i _ hi
  unfold cel
  split <;> first | rfl | exact absurd rfl hi
def tabL : List (List Int32) := [[-1, 0, 1, 1, 0, 4, 4], [2, 3, 5, 6], [1, 2, 2, 1, -1, -2, -2, -1, 0, 1, 0, -1, 1, 1, -1, -1], [-2, -1, 1, 2, 2, 1, -1, -2, -1, 0, 1, 0, -1, 1, 1, -1], [0, 8, 8, 12], [8, 16, 12, 16], [1, 1, 3, 3]]
def tabN : List (String × String) := [("WhiteKnights", "OVER"), ("WhiteKnights", "AS_KIND"), ("WhiteKnights$Grid", "ACROSS"), ("WhiteKnights$Grid", "DOWN"), ("WhiteKnights$Grid", "FIRST_DIRECTION"), ("WhiteKnights$Grid", "BEHIND_DIRECTION"), ("WhiteKnights$Grid", "MOST_STEPS")]
def tb (k : Nat) (j : Nat) : Int32 := (tabL.getD k []).getD j 0
def tbC (k : Nat) : String := (tabN.getD k ("", "")).1
def tbM (k : Nat) : String := (tabN.getD k ("", "")).2
def tbLen (k : Nat) : Nat := (tabL.getD k []).length
def stL : List (Nat × String × Nat × List Int32) := [(61, "board", 5, [98, 111, 97, 114, 100]), (66, "hole", 4, [104, 111, 108, 101]), (71, "knight", 6, [107, 110, 105, 103, 104, 116]), (77, "king", 4, [107, 105, 110, 103]), (79, "rook", 4, [114, 111, 111, 107]), (81, "bishop", 6, [98, 105, 115, 104, 111, 112]), (83, "free", 4, [102, 114, 101, 101]), (88, "turns", 5, [116, 117, 114, 110, 115]), (90, "safe", 4, [115, 97, 102, 101]), (92, "bare", 4, [98, 97, 114, 101]), (51, ";", 1, [59])]
def stI (i : Nat) : Nat := (stL.getD i (0, "", 0, [])).1
def stX (i : Nat) : String := (stL.getD i (0, "", 0, [])).2.1
def stLen : List Nat := stL.map (fun q => q.2.2.1)
def stByt : List (List Int32) := stL.map (fun q => q.2.2.2)
def SA (G : Gx) (U : State) (H : Heap) : Prop := ∀ k, k < 7 → va_Z (tbC k) (tbM k) "[I" (.ref (gSa G k)) (gA G) U H ∧ va_T .int (gSa G k) (tbLen k) (fun j => .int (tb k j)) (gA G) U H
def nestT : List (String × Nat × MethodName × String) := [(RX0, 27, yX7_noKind, "WhiteKnights"), (RX0, 40, yX7_bit, "WhiteKnights"), (RX1, 23, yX7_bit, "WhiteKnights"), (RX1, 27, yX7_moved, "WhiteKnights"), (RX1, 52, yX7_placeOf, "WhiteKnights"), (RX2, 23, yX7_bit, "WhiteKnights"), (RX3, 132, yX7_bit, "WhiteKnights"), (RX4, 76, yX7_bit, "WhiteKnights"), (RX4, 79, yX7_moved, "WhiteKnights"), (RX4, 93, yX7_placeOf, "WhiteKnights"), (RX5, 43, yX7_moved, "WhiteKnights"), (RX5, 53, yX7_placeOf, "WhiteKnights")]
def Nst (U : State) : Prop := ∀ q ∈ nestT, va_Nw (.methodLinkNest q.1 q.2.1 q.2.2.1 q.2.2.2) U
def Str (G : Gx) (U : State) (H : Heap) : Prop := vk_S 11 stLen stByt (gK G) (gV G) (gA G) U H ∧ va_Z "java/lang/String" "COMPACT_STRINGS" "Z" (.int 1) (gA G) U H ∧ va_Zq "jdk/internal/util/Preconditions" "SIOOBE_FORMATTER" "Ljava/util/function/BiFunction;" (gA G) U H
def StR (G : Gx) (U : State) : Prop := ∀ i, i < 11 → vk_R RX3 (stI i) (stX i) (gK G i) U
def Rv (G : Gx) (U : State) : Prop := va_K (gD G) vwCl [(gI G, .int), (gZ G, .boolean)] U ∧ (∀ h, va_D (gA G) (wld G h)) ∧ SA G U U.heap ∧ Nst U ∧ Str G U U.heap ∧ StR G U ∧ 25 ≤ gN G
def Rh (G : Gx) (h : Hp) (H : Heap) : Prop := va_P (gD G) vwCl (wld G h) H
theorem SA.kept {G : Gx} {U : State} {H H1 : Heap} (h : SA G U H) (hq : ∀ a : Nat, a < H.size → ¬ gA G a → H1[a]? = H[a]?) : SA G U H1 := fun k hk => ⟨(h k hk).1.kept hq, (h k hk).2.kept hq⟩
theorem Str.kept {G : Gx} {U : State} {H H1 : Heap} (h : Str G U H) (hq : ∀ a : Nat, a < H.size → ¬ gA G a → H1[a]? = H[a]?) : Str G U H1 := ⟨h.1.kept hq, h.2.1.kept hq, h.2.2.kept hq⟩
/-- the static part moves to a callee's entry -/
theorem Rv.moves {G : Gx} {s U : State} {H : Heap} {locs : List Loc} (h : Rv G s) (hU : U.heap = H) (hW : s.WarmedH U.vm) (hS : va_S (gA G) s.heap H locs) : Rv G U := by
  obtain ⟨h1, h2, h3, h4, h5, h6, h7⟩ := h
  have h3 := h3.kept hS.2.1
  have h5 := h5.kept hS.2.1
  rw [← hU] at h3 h5
  exact ⟨va_K.moved hW.alike h1, h2, fun k hk => ⟨va_Z.moved hW.alike (h3 k hk).1, va_T.moved hW.alike (h3 k hk).2⟩, fun q hq => va_Nw.warmM hW (h4 q hq), ⟨vk_S.moved hW.alike h5.1, va_Z.moved hW.alike h5.2.1, va_Zq.moved hW.alike h5.2.2⟩, fun i hi => vk_R.warm hW (h6 i hi), h7⟩
theorem Rv.calling {G : Gx} {U : State} (h : Rv G U) (g : JFrame) (mk : MethodId) (a : Array Value) : Rv G (U.calling g mk a) := by
  obtain ⟨h1, h2, h3, h4, h5, h6, h7⟩ := h
  have al : U.vm.Alike (U.calling g mk a).vm := Vm.Alike.refl U.vm
  exact ⟨va_K.moved al h1, h2, fun k hk => ⟨va_Z.moved al (h3 k hk).1, va_T.moved al (h3 k hk).2⟩, fun q hq => va_Nw.same rfl rfl (h4 q hq), ⟨vk_S.moved al h5.1, va_Z.moved al h5.2.1, va_Zq.moved al h5.2.2⟩, fun i hi => vk_R.same rfl (h6 i hi), h7⟩
/-! the judgement -/
abbrev Cx : Type := Program × Launch × Env × Room × State × MethodId × Array Value × List Frame × Method × Code × Nat × Nat
def V (X : Cx) (G : Gx) (nL : Nat) (Q : State → Prop) (h : Hp) (pc : Nat) (lv : List (Nat × Value)) (st : List Value) : Prop :=
  ∀ (ls : Array Slot) (H : Heap) (locs : List Loc), lv_has ls nL lv → Rh G h H → va_S (gA G) X.2.2.2.2.1.heap H locs → W X.1 X.2.1 X.2.2.1 X.2.2.2.1 X.2.2.2.2.1 X.2.2.2.2.2.1 X.2.2.2.2.2.2.1 X.2.2.2.2.2.2.2.1 X.2.2.2.2.2.2.2.2.1 X.2.2.2.2.2.2.2.2.2.1 H locs X.2.2.2.2.2.2.2.2.2.2.1 X.2.2.2.2.2.2.2.2.2.2.2 Q (F0 X.2.2.2.2.2.1 pc ls st)
def Ok (X : Cx) (G : Gx) (cc : ByteArray) (own : String) (nL : Nat) (Ts : List Cond) (ret : Option FieldType) (R0 : Room) : Prop :=
  X.1.tables.exec = Jvm.exec ∧ X.2.2.2.2.2.2.2.2.2.1.code = cc ∧ X.2.2.2.2.2.2.2.2.2.1.maxLocals = nL ∧ X.2.2.2.2.1.vm.findClass own = some X.2.2.2.2.2.1.cls ∧ (∀ w ∈ Ts, w.before X.2.2.2.2.2.2.1 X.2.2.2.2.1 = true) ∧ Rv G X.2.2.2.2.1 ∧ X.2.2.2.2.2.2.2.2.1.locks = false ∧ X.2.2.2.2.2.2.2.2.1.sig.returnType = ret ∧ X.2.2.2.1 = R0 ∧ X.2.2.2.2.2.2.2.2.2.2.1 ≤ R0.cells ∧ X.2.2.2.2.2.2.2.2.2.2.2 ≤ R0.slots
/-- a method's end: its answer and heap are z -/
def qI (G : Gx) (z : Rs) : Array Value → State → Outcome → State → Prop := va_Qi (fun r u => r = z.1 ∧ u = z.2) (fun u t => Rh G u t.heap) (gA G)
def qV (G : Gx) (z : Rs) : Array Value → State → Outcome → State → Prop := va_Qv (fun u => u = z.2) (fun u t => Rh G u t.heap) (gA G)
def QI (X : Cx) (G : Gx) (z : Rs) : State → Prop := MQ X.2.2.2.2.2.2.2.1 (qI G z) X.2.2.2.2.2.2.1 X.2.2.2.2.1 X.2.2.2.2.2.2.2.2.2.2.1 X.2.2.2.2.2.2.2.2.2.2.2 (gA G)
def QV (X : Cx) (G : Gx) (z : Rs) : State → Prop := MQ X.2.2.2.2.2.2.2.1 (qV G z) X.2.2.2.2.2.2.1 X.2.2.2.2.1 X.2.2.2.2.2.2.2.2.2.2.1 X.2.2.2.2.2.2.2.2.2.2.2 (gA G)
def pre (G : Gx) (av : List Value) (h : Hp) : Array Value → State → Prop := va_Pc av (fun U => Rh G h U.heap ∧ Rv G U)
def CI (l : Launch) (G : Gx) (y : MethodName) (ws : List Cond) (rm : Room) (av : List Value) (h : Hp) (z : Rs) : Prop := Met l y ws rm (pre G av h) (qI G z) 0 0 (gA G)
def CV (l : Launch) (G : Gx) (y : MethodName) (ws : List Cond) (rm : Room) (av : List Value) (h : Hp) (z : Rs) : Prop := Met l y ws rm (pre G av h) (qV G z) 0 0 (gA G)
theorem pre_blind {G : Gx} {av : List Value} {h : Hp} : FrameBlind (pre G av h) := fun a U g mk q => ⟨q.1, q.2.1, q.2.2.calling g mk a⟩
/-- a field's words: its class's layout, its class's place, its link -/
def FdO (Ts : List Cond) (own : String) (index : Nat) (C : String) (T : u_T) (N ci k : Nat) : Prop := (∀ w ∈ u_ws C T N, w ∈ Ts) ∧ vwCl[ci]? = some (C, T, N) ∧ k < N ∧ Cond.fieldLink own index (T k).1 (T k).2.1 (T k).2.2.1 ∈ Ts
def FpO (T : u_T) (N k : Nat) (ty0 : Nat → FieldType) (ty : FieldType) : Prop := (∀ k, k < N → parseFieldDescriptor (T k).2.2.1 = some (ty0 k)) ∧ (∀ a, a < N → ∀ b, b < N → a ≠ b → (T a).2.1 ≠ (T b).2.1) ∧ (T k).2.2.2 = false ∧ parseFieldDescriptor (T k).2.2.1 = some ty
def zk (x : Int32) : Bool := x == 0 || x == 1
theorem zk_nar {x : Int32} (h : zk x = true) : narrow .boolean (.int x) = .int x := by
  simp only [zk, Bool.or_eq_true, beq_iff_eq] at h
  rcases h with rfl | rfl <;> rfl
section ROWS
variable {X : Cx} {G : Gx} {nL : Nat} {Q : State → Prop} {h : Hp} {pc : Nat} {lv : List (Nat × Value)} {st : List Value} {cc : ByteArray} {own : String} {Ts : List Cond} {ret : Option FieldType} {R0 : Room} {z : Rs}

theorem v_iconst (O : Ok X G cc own nL Ts ret R0) {n : Int} {v : Int32} (hdg : decode cc pc = .ok (.iconst n, 1)) (hv : Int32.ofInt n = v) (k : V X G nL Q h (pc + 1) lv (.int v :: st)) : V X G nL Q h pc lv (st) := fun ls H locs hl hR hS => lv_iconst O.1 O.2.1 hdg hv (k ls H locs hl hR hS)
theorem v_bipush (O : Ok X G cc own nL Ts ret R0) {n : Int} {v : Int32} (hdg : decode cc pc = .ok (.bipush n, 2)) (hv : (Int8.ofInt n).toInt32 = v) (k : V X G nL Q h (pc + 2) lv (.int v :: st)) : V X G nL Q h pc lv (st) := fun ls H locs hl hR hS => lv_bipush O.1 O.2.1 hdg hv (k ls H locs hl hR hS)
theorem v_sipush (O : Ok X G cc own nL Ts ret R0) {n : Int} {v : Int32} (hdg : decode cc pc = .ok (.sipush n, 3)) (hv : (Int16.ofInt n).toInt32 = v) (k : V X G nL Q h (pc + 3) lv (.int v :: st)) : V X G nL Q h pc lv (st) := fun ls H locs hl hR hS => lv_sipush O.1 O.2.1 hdg hv (k ls H locs hl hR hS)
theorem v_lconst (O : Ok X G cc own nL Ts ret R0) {n : Fin 2} {v : Int64} (hdg : decode cc pc = .ok (.lconst n, 1)) (hv : Int64.ofNat (n : Nat) = v) (k : V X G nL Q h (pc + 1) lv (.long v :: st)) : V X G nL Q h pc lv (st) := fun ls H locs hl hR hS => lv_lconst O.1 O.2.1 hdg hv (k ls H locs hl hR hS)
theorem v_ldc (O : Ok X G cc own nL Ts ret R0) {index : Nat} {v : Int32} (hdg : decode cc pc = .ok (.ldc index, 2)) (hw : Cond.constant own index v ∈ Ts) (k : V X G nL Q h (pc + 2) lv (.int v :: st)) : V X G nL Q h pc lv (st) := fun ls H locs hl hR hS => lv_ldc O.1 O.2.1 O.2.2.2.1 (O.2.2.2.2.1 _ hw) hdg (k ls H locs hl hR hS)
theorem v_ldcw (O : Ok X G cc own nL Ts ret R0) {index : Nat} {v : Int32} (hdg : decode cc pc = .ok (.ldc_w index, 3)) (hw : Cond.constant own index v ∈ Ts) (k : V X G nL Q h (pc + 3) lv (.int v :: st)) : V X G nL Q h pc lv (st) := fun ls H locs hl hR hS => lv_ldcw O.1 O.2.1 O.2.2.2.1 (O.2.2.2.2.1 _ hw) hdg (k ls H locs hl hR hS)
theorem v_ldc2 (O : Ok X G cc own nL Ts ret R0) {index : Nat} {v : Int64} (hdg : decode cc pc = .ok (.ldc2_w index, 3)) (hw : Cond.constantLong own index v ∈ Ts) (k : V X G nL Q h (pc + 3) lv (.long v :: st)) : V X G nL Q h pc lv (st) := fun ls H locs hl hR hS => lv_ldc2 O.1 O.2.1 O.2.2.2.1 (O.2.2.2.2.1 _ hw) hdg (k ls H locs hl hR hS)
theorem v_iload_n (O : Ok X G cc own nL Ts ret R0) {kk : Fin 4} {i : Nat} {x : Int32} (hdg : decode cc pc = .ok (.iload_n kk, 1)) (j : Nat) (hi : (kk : Nat) = i) (hj : lv[j]? = some (i, .int x)) (k : V X G nL Q h (pc + 1) lv (.int x :: st)) : V X G nL Q h pc lv (st) := fun ls H locs hl hR hS => lv_iload_n O.1 O.2.1 hdg hi (lv_at hl j hj) (k ls H locs hl hR hS)
theorem v_iload (O : Ok X G cc own nL Ts ret R0) {i : Nat} {x : Int32} (hdg : decode cc pc = .ok (.iload i, 2)) (j : Nat) (hj : lv[j]? = some (i, .int x)) (k : V X G nL Q h (pc + 2) lv (.int x :: st)) : V X G nL Q h pc lv (st) := fun ls H locs hl hR hS => lv_iload O.1 O.2.1 hdg (lv_at hl j hj) (k ls H locs hl hR hS)
theorem v_lload_n (O : Ok X G cc own nL Ts ret R0) {kk : Fin 4} {i : Nat} {x : Int64} (hdg : decode cc pc = .ok (.lload_n kk, 1)) (j : Nat) (hi : (kk : Nat) = i) (hj : lv[j]? = some (i, .long x)) (k : V X G nL Q h (pc + 1) lv (.long x :: st)) : V X G nL Q h pc lv (st) := fun ls H locs hl hR hS => lv_lload_n O.1 O.2.1 hdg hi (lv_at hl j hj) (k ls H locs hl hR hS)
theorem v_lload (O : Ok X G cc own nL Ts ret R0) {i : Nat} {x : Int64} (hdg : decode cc pc = .ok (.lload i, 2)) (j : Nat) (hj : lv[j]? = some (i, .long x)) (k : V X G nL Q h (pc + 2) lv (.long x :: st)) : V X G nL Q h pc lv (st) := fun ls H locs hl hR hS => lv_lload O.1 O.2.1 hdg (lv_at hl j hj) (k ls H locs hl hR hS)
theorem v_aload_n (O : Ok X G cc own nL Ts ret R0) {kk : Fin 4} {i : Nat} {x : Nat} (hdg : decode cc pc = .ok (.aload_n kk, 1)) (j : Nat) (hi : (kk : Nat) = i) (hj : lv[j]? = some (i, .ref x)) (k : V X G nL Q h (pc + 1) lv (.ref x :: st)) : V X G nL Q h pc lv (st) := fun ls H locs hl hR hS => lv_aload_n O.1 O.2.1 hdg hi (lv_at hl j hj) (k ls H locs hl hR hS)
theorem v_aload (O : Ok X G cc own nL Ts ret R0) {i : Nat} {x : Nat} (hdg : decode cc pc = .ok (.aload i, 2)) (j : Nat) (hj : lv[j]? = some (i, .ref x)) (k : V X G nL Q h (pc + 2) lv (.ref x :: st)) : V X G nL Q h pc lv (st) := fun ls H locs hl hR hS => lv_aload O.1 O.2.1 hdg (lv_at hl j hj) (k ls H locs hl hR hS)
theorem v_iadd (O : Ok X G cc own nL Ts ret R0) {x y : Int32} (hdg : decode cc pc = .ok (.iadd, 1))  (k : V X G nL Q h (pc + 1) lv (.int (x + y) :: st)) : V X G nL Q h pc lv (.int y :: .int x :: st) := fun ls H locs hl hR hS => lv_iadd O.1 O.2.1 hdg (k ls H locs hl hR hS)
theorem v_isub (O : Ok X G cc own nL Ts ret R0) {x y : Int32} (hdg : decode cc pc = .ok (.isub, 1))  (k : V X G nL Q h (pc + 1) lv (.int (x - y) :: st)) : V X G nL Q h pc lv (.int y :: .int x :: st) := fun ls H locs hl hR hS => lv_isub O.1 O.2.1 hdg (k ls H locs hl hR hS)
theorem v_imul (O : Ok X G cc own nL Ts ret R0) {x y : Int32} (hdg : decode cc pc = .ok (.imul, 1))  (k : V X G nL Q h (pc + 1) lv (.int (x * y) :: st)) : V X G nL Q h pc lv (.int y :: .int x :: st) := fun ls H locs hl hR hS => lv_imul O.1 O.2.1 hdg (k ls H locs hl hR hS)
theorem v_iand (O : Ok X G cc own nL Ts ret R0) {x y : Int32} (hdg : decode cc pc = .ok (.iand, 1))  (k : V X G nL Q h (pc + 1) lv (.int (x &&& y) :: st)) : V X G nL Q h pc lv (.int y :: .int x :: st) := fun ls H locs hl hR hS => lv_iand O.1 O.2.1 hdg (k ls H locs hl hR hS)
theorem v_ior (O : Ok X G cc own nL Ts ret R0) {x y : Int32} (hdg : decode cc pc = .ok (.ior, 1))  (k : V X G nL Q h (pc + 1) lv (.int (x ||| y) :: st)) : V X G nL Q h pc lv (.int y :: .int x :: st) := fun ls H locs hl hR hS => lv_ior O.1 O.2.1 hdg (k ls H locs hl hR hS)
theorem v_ixor (O : Ok X G cc own nL Ts ret R0) {x y : Int32} (hdg : decode cc pc = .ok (.ixor, 1))  (k : V X G nL Q h (pc + 1) lv (.int (x ^^^ y) :: st)) : V X G nL Q h pc lv (.int y :: .int x :: st) := fun ls H locs hl hR hS => lv_ixor O.1 O.2.1 hdg (k ls H locs hl hR hS)
theorem v_ishl (O : Ok X G cc own nL Ts ret R0) {x y : Int32} (hdg : decode cc pc = .ok (.ishl, 1))  (k : V X G nL Q h (pc + 1) lv (.int (x <<< (y &&& 31)) :: st)) : V X G nL Q h pc lv (.int y :: .int x :: st) := fun ls H locs hl hR hS => lv_ishl O.1 O.2.1 hdg (k ls H locs hl hR hS)
theorem v_ishr (O : Ok X G cc own nL Ts ret R0) {x y : Int32} (hdg : decode cc pc = .ok (.ishr, 1))  (k : V X G nL Q h (pc + 1) lv (.int (x >>> (y &&& 31)) :: st)) : V X G nL Q h pc lv (.int y :: .int x :: st) := fun ls H locs hl hR hS => lv_ishr O.1 O.2.1 hdg (k ls H locs hl hR hS)
theorem v_iushr (O : Ok X G cc own nL Ts ret R0) {x y : Int32} (hdg : decode cc pc = .ok (.iushr, 1))  (k : V X G nL Q h (pc + 1) lv (.int ((x.toUInt32 >>> (y.toUInt32 &&& Int32.toUInt32 31)).toInt32) :: st)) : V X G nL Q h pc lv (.int y :: .int x :: st) := fun ls H locs hl hR hS => lv_iushr O.1 O.2.1 hdg rfl (k ls H locs hl hR hS)
theorem v_ineg (O : Ok X G cc own nL Ts ret R0) {x : Int32} (hdg : decode cc pc = .ok (.ineg, 1))  (k : V X G nL Q h (pc + 1) lv (.int (-x) :: st)) : V X G nL Q h pc lv (.int x :: st) := fun ls H locs hl hR hS => lv_ineg O.1 O.2.1 hdg (k ls H locs hl hR hS)
theorem v_ladd (O : Ok X G cc own nL Ts ret R0) {x y : Int64} (hdg : decode cc pc = .ok (.ladd, 1))  (k : V X G nL Q h (pc + 1) lv (.long (x + y) :: st)) : V X G nL Q h pc lv (.long y :: .long x :: st) := fun ls H locs hl hR hS => lv_ladd O.1 O.2.1 hdg (k ls H locs hl hR hS)
theorem v_lsub (O : Ok X G cc own nL Ts ret R0) {x y : Int64} (hdg : decode cc pc = .ok (.lsub, 1))  (k : V X G nL Q h (pc + 1) lv (.long (x - y) :: st)) : V X G nL Q h pc lv (.long y :: .long x :: st) := fun ls H locs hl hR hS => lv_lsub O.1 O.2.1 hdg (k ls H locs hl hR hS)
theorem v_lmul (O : Ok X G cc own nL Ts ret R0) {x y : Int64} (hdg : decode cc pc = .ok (.lmul, 1))  (k : V X G nL Q h (pc + 1) lv (.long (x * y) :: st)) : V X G nL Q h pc lv (.long y :: .long x :: st) := fun ls H locs hl hR hS => lv_lmul O.1 O.2.1 hdg (k ls H locs hl hR hS)
theorem v_land (O : Ok X G cc own nL Ts ret R0) {x y : Int64} (hdg : decode cc pc = .ok (.land, 1))  (k : V X G nL Q h (pc + 1) lv (.long (x &&& y) :: st)) : V X G nL Q h pc lv (.long y :: .long x :: st) := fun ls H locs hl hR hS => lv_land O.1 O.2.1 hdg (k ls H locs hl hR hS)
theorem v_lor (O : Ok X G cc own nL Ts ret R0) {x y : Int64} (hdg : decode cc pc = .ok (.lor, 1))  (k : V X G nL Q h (pc + 1) lv (.long (x ||| y) :: st)) : V X G nL Q h pc lv (.long y :: .long x :: st) := fun ls H locs hl hR hS => lv_lor O.1 O.2.1 hdg (k ls H locs hl hR hS)
theorem v_lxor (O : Ok X G cc own nL Ts ret R0) {x y : Int64} (hdg : decode cc pc = .ok (.lxor, 1))  (k : V X G nL Q h (pc + 1) lv (.long (x ^^^ y) :: st)) : V X G nL Q h pc lv (.long y :: .long x :: st) := fun ls H locs hl hR hS => lv_lxor O.1 O.2.1 hdg (k ls H locs hl hR hS)
theorem v_lshl (O : Ok X G cc own nL Ts ret R0) {x : Int64} {y : Int32} (hdg : decode cc pc = .ok (.lshl, 1))  (k : V X G nL Q h (pc + 1) lv (.long (x <<< (y.toInt64 &&& 63)) :: st)) : V X G nL Q h pc lv (.int y :: .long x :: st) := fun ls H locs hl hR hS => lv_lshl O.1 O.2.1 hdg rfl (k ls H locs hl hR hS)
theorem v_lshr (O : Ok X G cc own nL Ts ret R0) {x : Int64} {y : Int32} (hdg : decode cc pc = .ok (.lshr, 1))  (k : V X G nL Q h (pc + 1) lv (.long (x >>> (y.toInt64 &&& 63)) :: st)) : V X G nL Q h pc lv (.int y :: .long x :: st) := fun ls H locs hl hR hS => lv_lshr O.1 O.2.1 hdg rfl (k ls H locs hl hR hS)
theorem v_i2l (O : Ok X G cc own nL Ts ret R0) {x : Int32} (hdg : decode cc pc = .ok (.i2l, 1))  (k : V X G nL Q h (pc + 1) lv (.long x.toInt64 :: st)) : V X G nL Q h pc lv (.int x :: st) := fun ls H locs hl hR hS => lv_i2l O.1 O.2.1 hdg rfl (k ls H locs hl hR hS)
theorem v_l2i (O : Ok X G cc own nL Ts ret R0) {x : Int64} (hdg : decode cc pc = .ok (.l2i, 1))  (k : V X G nL Q h (pc + 1) lv (.int x.toInt32 :: st)) : V X G nL Q h pc lv (.long x :: st) := fun ls H locs hl hR hS => lv_l2i O.1 O.2.1 hdg rfl (k ls H locs hl hR hS)
theorem v_i2c (O : Ok X G cc own nL Ts ret R0) {x : Int32} (hdg : decode cc pc = .ok (.i2c, 1))  (k : V X G nL Q h (pc + 1) lv (.int (x.toUInt32 % 65536).toInt32 :: st)) : V X G nL Q h pc lv (.int x :: st) := fun ls H locs hl hR hS => lv_i2c O.1 O.2.1 hdg rfl (k ls H locs hl hR hS)
theorem v_lcmp (O : Ok X G cc own nL Ts ret R0) {x y : Int64} (hdg : decode cc pc = .ok (.lcmp, 1))  (k : V X G nL Q h (pc + 1) lv (.int (lg_cmp x y) :: st)) : V X G nL Q h pc lv (.long y :: .long x :: st) := fun ls H locs hl hR hS => W.lcmp O.1 O.2.1 hdg (k ls H locs hl hR hS)
theorem v_dup (O : Ok X G cc own nL Ts ret R0) {a : Value} (hdg : decode cc pc = .ok (.dup, 1)) (ha : a.category = 1) (k : V X G nL Q h (pc + 1) lv (a :: a :: st)) : V X G nL Q h pc lv (a :: st) := fun ls H locs hl hR hS => lv_dup O.1 O.2.1 hdg ha (k ls H locs hl hR hS)
theorem v_pop (O : Ok X G cc own nL Ts ret R0) {a : Value} (hdg : decode cc pc = .ok (.pop, 1)) (ha : a.category = 1) (k : V X G nL Q h (pc + 1) lv (st)) : V X G nL Q h pc lv (a :: st) := fun ls H locs hl hR hS => lv_pop O.1 O.2.1 hdg ha (k ls H locs hl hR hS)
theorem v_dup2 (O : Ok X G cc own nL Ts ret R0) {a b : Value} (hdg : decode cc pc = .ok (.dup2, 1)) (ha : a.category = 1) (hb : b.category = 1) (k : V X G nL Q h (pc + 1) lv (a :: b :: a :: b :: st)) : V X G nL Q h pc lv (a :: b :: st) := fun ls H locs hl hR hS => lv_dup2_11 O.1 O.2.1 hdg ha hb (k ls H locs hl hR hS)
theorem v_goto (O : Ok X G cc own nL Ts ret R0) {off : Int} (hdg : decode cc pc = .ok (.goto off, 3)) (tgt : Nat) (ht : (pc : Int) + off = (tgt : Int)) (k : V X G nL Q h tgt lv st) : V X G nL Q h pc lv st := fun ls H locs hl hR hS => lv_goto O.1 O.2.1 hdg ht (k ls H locs hl hR hS)
theorem v_sub {lv' : List (Nat × Value)} (ks : List Nat) (hs : lv_pick lv ks = lv') (k : V X G nL Q h pc lv' st) : V X G nL Q h pc lv st := fun ls H locs hl hR hS => k ls H locs (lv_sub hl ks hs) hR hS
theorem v_idiv (O : Ok X G cc own nL Ts ret R0) {x y : Int32} {A : Option Rs} (hdg : decode cc pc = .ok (.idiv, 1)) (e : (if ¬ y = 0 then A else none) = some z) (k : A = some z → V X G nL Q h (pc + 1) lv (.int (x / y) :: st)) : V X G nL Q h pc lv (.int y :: .int x :: st) := fun ls H locs hl hR hS => lv_idiv O.1 O.2.1 hdg (if_ok e).1 (k (if_ok e).2 ls H locs hl hR hS)
theorem v_irem (O : Ok X G cc own nL Ts ret R0) {x y : Int32} {A : Option Rs} (hdg : decode cc pc = .ok (.irem, 1)) (e : (if ¬ y = 0 then A else none) = some z) (k : A = some z → V X G nL Q h (pc + 1) lv (.int (x - x / y * y) :: st)) : V X G nL Q h pc lv (.int y :: .int x :: st) := fun ls H locs hl hR hS => lv_irem O.1 O.2.1 hdg (if_ok e).1 (k (if_ok e).2 ls H locs hl hR hS)
theorem v_istore_n (O : Ok X G cc own nL Ts ret R0) {kk : Fin 4} {i : Nat} {x : Int32} {F : Int32 → Option Rs} (hdg : decode cc pc = .ok (.istore_n kk, 1)) (hi : (kk : Nat) = i) (hn : i < nL) (lv' : Int32 → List (Nat × Value)) (hlv : ∀ y, (i, Value.int y) :: lv.filter (fun q => !(q.1 == i) && !(q.1 + 1 == i && q.2.category == 2)) = lv' y) (e : lt x F = some z) (k : ∀ y, F y = some z → V X G nL Q h (pc + 1) (lv' y) st) : V X G nL Q h pc lv (.int x :: st) := fun _ H locs hl hR hS => lv_istore_n O.1 O.2.1 hdg hi hl hn (hlv x) (fun ls hl => k x e ls H locs hl hR hS)
theorem v_istore (O : Ok X G cc own nL Ts ret R0)  {i : Nat} {x : Int32} {F : Int32 → Option Rs} (hdg : decode cc pc = .ok (.istore i, 2)) (hn : i < nL) (lv' : Int32 → List (Nat × Value)) (hlv : ∀ y, (i, Value.int y) :: lv.filter (fun q => !(q.1 == i) && !(q.1 + 1 == i && q.2.category == 2)) = lv' y) (e : lt x F = some z) (k : ∀ y, F y = some z → V X G nL Q h (pc + 2) (lv' y) st) : V X G nL Q h pc lv (.int x :: st) := fun _ H locs hl hR hS => lv_istore O.1 O.2.1 hdg hl hn (hlv x) (fun ls hl => k x e ls H locs hl hR hS)
theorem v_lstore_n (O : Ok X G cc own nL Ts ret R0) {kk : Fin 4} {i : Nat} {x : Int64} {F : Int64 → Option Rs} (hdg : decode cc pc = .ok (.lstore_n kk, 1)) (hi : (kk : Nat) = i) (hn : i + 1 < nL) (lv' : Int64 → List (Nat × Value)) (hlv : ∀ y, (i, Value.long y) :: lv.filter (fun q => !(q.1 == i) && (!(q.1 == i + 1) && !(q.1 + 1 == i && q.2.category == 2))) = lv' y) (e : lt x F = some z) (k : ∀ y, F y = some z → V X G nL Q h (pc + 1) (lv' y) st) : V X G nL Q h pc lv (.long x :: st) := fun _ H locs hl hR hS => lv_lstore_n O.1 O.2.1 hdg hi hl hn (hlv x) (fun ls hl => k x e ls H locs hl hR hS)
theorem v_lstore (O : Ok X G cc own nL Ts ret R0)  {i : Nat} {x : Int64} {F : Int64 → Option Rs} (hdg : decode cc pc = .ok (.lstore i, 2)) (hn : i + 1 < nL) (lv' : Int64 → List (Nat × Value)) (hlv : ∀ y, (i, Value.long y) :: lv.filter (fun q => !(q.1 == i) && (!(q.1 == i + 1) && !(q.1 + 1 == i && q.2.category == 2))) = lv' y) (e : lt x F = some z) (k : ∀ y, F y = some z → V X G nL Q h (pc + 2) (lv' y) st) : V X G nL Q h pc lv (.long x :: st) := fun _ H locs hl hR hS => lv_lstore O.1 O.2.1 hdg hl hn (hlv x) (fun ls hl => k x e ls H locs hl hR hS)
theorem v_iinc (O : Ok X G cc own nL Ts ret R0) {i : Nat} {n : Int} {x v : Int32} {F : Int32 → Option Rs} (hdg : decode cc pc = .ok (.iinc i n, 3)) (j : Nat) (hj : lv[j]? = some (i, .int x)) (hv : Int32.ofInt n = v) (hn : i < nL) (lv' : Int32 → List (Nat × Value)) (hlv : ∀ y, (i, Value.int y) :: lv.filter (fun q => !(q.1 == i) && !(q.1 + 1 == i && q.2.category == 2)) = lv' y) (e : lt (x + v) F = some z) (k : ∀ y, F y = some z → V X G nL Q h (pc + 3) (lv' y) st) : V X G nL Q h pc lv st := fun _ H locs hl hR hS => lv_iinc O.1 O.2.1 hdg hl hj (by rw [hv]) hn (hlv (x + v)) (fun ls hl => k (x + v) e ls H locs hl hR hS)
theorem v_if_eq (O : Ok X G cc own nL Ts ret R0) {x : Int32} {off : Int} {A B : Option Rs} (hdg : decode cc pc = .ok (.ifCond .eq off, 3)) (tgt : Nat) (ht : (pc : Int) + off = (tgt : Int)) (e : (if x = 0 then A else B) = some z) (kt : A = some z → V X G nL Q h tgt lv st) (kf : B = some z → V X G nL Q h (pc + 3) lv st) : V X G nL Q h pc lv (.int x :: st) := fun ls H locs hl hR hS => lv_if_eq O.1 O.2.1 hdg ht (fun c => kt (by rw [if_pos c] at e; exact e) ls H locs hl hR hS) (fun c => kf (by rw [if_neg c] at e; exact e) ls H locs hl hR hS)
theorem v_icmp_eq (O : Ok X G cc own nL Ts ret R0) {x y : Int32} {off : Int} {A B : Option Rs} (hdg : decode cc pc = .ok (.if_icmp .eq off, 3)) (tgt : Nat) (ht : (pc : Int) + off = (tgt : Int)) (e : (if x = y then A else B) = some z) (kt : A = some z → V X G nL Q h tgt lv st) (kf : B = some z → V X G nL Q h (pc + 3) lv st) : V X G nL Q h pc lv (.int y :: .int x :: st) := fun ls H locs hl hR hS => lv_icmp_eq O.1 O.2.1 hdg ht (fun c => kt (by rw [if_pos c] at e; exact e) ls H locs hl hR hS) (fun c => kf (by rw [if_neg c] at e; exact e) ls H locs hl hR hS)
theorem v_if_ne (O : Ok X G cc own nL Ts ret R0) {x : Int32} {off : Int} {A B : Option Rs} (hdg : decode cc pc = .ok (.ifCond .ne off, 3)) (tgt : Nat) (ht : (pc : Int) + off = (tgt : Int)) (e : (if x = 0 then B else A) = some z) (kt : A = some z → V X G nL Q h tgt lv st) (kf : B = some z → V X G nL Q h (pc + 3) lv st) : V X G nL Q h pc lv (.int x :: st) := fun ls H locs hl hR hS => lv_if_ne O.1 O.2.1 hdg ht (fun c => kt (by rw [if_neg c] at e; exact e) ls H locs hl hR hS) (fun c => kf (by rw [if_pos c] at e; exact e) ls H locs hl hR hS)
theorem v_icmp_ne (O : Ok X G cc own nL Ts ret R0) {x y : Int32} {off : Int} {A B : Option Rs} (hdg : decode cc pc = .ok (.if_icmp .ne off, 3)) (tgt : Nat) (ht : (pc : Int) + off = (tgt : Int)) (e : (if x = y then B else A) = some z) (kt : A = some z → V X G nL Q h tgt lv st) (kf : B = some z → V X G nL Q h (pc + 3) lv st) : V X G nL Q h pc lv (.int y :: .int x :: st) := fun ls H locs hl hR hS => lv_icmp_ne O.1 O.2.1 hdg ht (fun c => kt (by rw [if_neg c] at e; exact e) ls H locs hl hR hS) (fun c => kf (by rw [if_pos c] at e; exact e) ls H locs hl hR hS)
theorem v_if_lt (O : Ok X G cc own nL Ts ret R0) {x : Int32} {off : Int} {A B : Option Rs} (hdg : decode cc pc = .ok (.ifCond .lt off, 3)) (tgt : Nat) (ht : (pc : Int) + off = (tgt : Int)) (e : (if x < 0 then A else B) = some z) (kt : A = some z → V X G nL Q h tgt lv st) (kf : B = some z → V X G nL Q h (pc + 3) lv st) : V X G nL Q h pc lv (.int x :: st) := fun ls H locs hl hR hS => lv_if_lt O.1 O.2.1 hdg ht (fun c => kt (by rw [if_pos c] at e; exact e) ls H locs hl hR hS) (fun c => kf (by rw [if_neg c] at e; exact e) ls H locs hl hR hS)
theorem v_icmp_lt (O : Ok X G cc own nL Ts ret R0) {x y : Int32} {off : Int} {A B : Option Rs} (hdg : decode cc pc = .ok (.if_icmp .lt off, 3)) (tgt : Nat) (ht : (pc : Int) + off = (tgt : Int)) (e : (if x < y then A else B) = some z) (kt : A = some z → V X G nL Q h tgt lv st) (kf : B = some z → V X G nL Q h (pc + 3) lv st) : V X G nL Q h pc lv (.int y :: .int x :: st) := fun ls H locs hl hR hS => lv_icmp_lt O.1 O.2.1 hdg ht (fun c => kt (by rw [if_pos c] at e; exact e) ls H locs hl hR hS) (fun c => kf (by rw [if_neg c] at e; exact e) ls H locs hl hR hS)
theorem v_if_ge (O : Ok X G cc own nL Ts ret R0) {x : Int32} {off : Int} {A B : Option Rs} (hdg : decode cc pc = .ok (.ifCond .ge off, 3)) (tgt : Nat) (ht : (pc : Int) + off = (tgt : Int)) (e : (if 0 ≤ x then A else B) = some z) (kt : A = some z → V X G nL Q h tgt lv st) (kf : B = some z → V X G nL Q h (pc + 3) lv st) : V X G nL Q h pc lv (.int x :: st) := fun ls H locs hl hR hS => lv_if_ge O.1 O.2.1 hdg ht (fun c => kt (by rw [if_pos c] at e; exact e) ls H locs hl hR hS) (fun c => kf (by rw [if_neg c] at e; exact e) ls H locs hl hR hS)
theorem v_icmp_ge (O : Ok X G cc own nL Ts ret R0) {x y : Int32} {off : Int} {A B : Option Rs} (hdg : decode cc pc = .ok (.if_icmp .ge off, 3)) (tgt : Nat) (ht : (pc : Int) + off = (tgt : Int)) (e : (if y ≤ x then A else B) = some z) (kt : A = some z → V X G nL Q h tgt lv st) (kf : B = some z → V X G nL Q h (pc + 3) lv st) : V X G nL Q h pc lv (.int y :: .int x :: st) := fun ls H locs hl hR hS => lv_icmp_ge O.1 O.2.1 hdg ht (fun c => kt (by rw [if_pos c] at e; exact e) ls H locs hl hR hS) (fun c => kf (by rw [if_neg c] at e; exact e) ls H locs hl hR hS)
theorem v_if_gt (O : Ok X G cc own nL Ts ret R0) {x : Int32} {off : Int} {A B : Option Rs} (hdg : decode cc pc = .ok (.ifCond .gt off, 3)) (tgt : Nat) (ht : (pc : Int) + off = (tgt : Int)) (e : (if 0 < x then A else B) = some z) (kt : A = some z → V X G nL Q h tgt lv st) (kf : B = some z → V X G nL Q h (pc + 3) lv st) : V X G nL Q h pc lv (.int x :: st) := fun ls H locs hl hR hS => lv_if_gt O.1 O.2.1 hdg ht (fun c => kt (by rw [if_pos c] at e; exact e) ls H locs hl hR hS) (fun c => kf (by rw [if_neg c] at e; exact e) ls H locs hl hR hS)
theorem v_icmp_gt (O : Ok X G cc own nL Ts ret R0) {x y : Int32} {off : Int} {A B : Option Rs} (hdg : decode cc pc = .ok (.if_icmp .gt off, 3)) (tgt : Nat) (ht : (pc : Int) + off = (tgt : Int)) (e : (if y < x then A else B) = some z) (kt : A = some z → V X G nL Q h tgt lv st) (kf : B = some z → V X G nL Q h (pc + 3) lv st) : V X G nL Q h pc lv (.int y :: .int x :: st) := fun ls H locs hl hR hS => lv_icmp_gt O.1 O.2.1 hdg ht (fun c => kt (by rw [if_pos c] at e; exact e) ls H locs hl hR hS) (fun c => kf (by rw [if_neg c] at e; exact e) ls H locs hl hR hS)
theorem v_if_le (O : Ok X G cc own nL Ts ret R0) {x : Int32} {off : Int} {A B : Option Rs} (hdg : decode cc pc = .ok (.ifCond .le off, 3)) (tgt : Nat) (ht : (pc : Int) + off = (tgt : Int)) (e : (if x ≤ 0 then A else B) = some z) (kt : A = some z → V X G nL Q h tgt lv st) (kf : B = some z → V X G nL Q h (pc + 3) lv st) : V X G nL Q h pc lv (.int x :: st) := fun ls H locs hl hR hS => lv_if_le O.1 O.2.1 hdg ht (fun c => kt (by rw [if_pos c] at e; exact e) ls H locs hl hR hS) (fun c => kf (by rw [if_neg c] at e; exact e) ls H locs hl hR hS)
theorem v_icmp_le (O : Ok X G cc own nL Ts ret R0) {x y : Int32} {off : Int} {A B : Option Rs} (hdg : decode cc pc = .ok (.if_icmp .le off, 3)) (tgt : Nat) (ht : (pc : Int) + off = (tgt : Int)) (e : (if x ≤ y then A else B) = some z) (kt : A = some z → V X G nL Q h tgt lv st) (kf : B = some z → V X G nL Q h (pc + 3) lv st) : V X G nL Q h pc lv (.int y :: .int x :: st) := fun ls H locs hl hR hS => lv_icmp_le O.1 O.2.1 hdg ht (fun c => kt (by rw [if_pos c] at e; exact e) ls H locs hl hR hS) (fun c => kf (by rw [if_neg c] at e; exact e) ls H locs hl hR hS)
theorem v_get (O : Ok X G cc own nL Ts ret R0) {C : String} {T : u_T} {N index ci o k : Nat} {fs : List Value} {v : Value} (hF : FdO Ts own index C T N ci k) (ho : o < gN G) (he : cel G h o = .inr (ci, fs)) (hv : fs[k]? = some v) (hdg : decode cc pc = .ok (.getfield index, 3)) (kk : V X G nL Q h (pc + 3) lv (v :: st)) : V X G nL Q h pc lv (.ref (G.1 o) :: st) := fun ls H locs hl hR hS => va_get (ref := (T k).1) O.1 O.2.1 O.2.2.2.2.1 hF.1 O.2.2.2.1 O.2.2.2.2.2.1.1 hR o (by rw [wld_at ho, he]) hF.2.1 k hF.2.2.1 (O.2.2.2.2.1 _ hF.2.2.2) (fun _ q => q) hv hdg (kk ls H locs hl hR hS)
theorem v_put (O : Ok X G cc own nL Ts ret R0) {C : String} {T : u_T} {N index ci o k : Nat} {ty0 : Nat → FieldType} {fs : List Value} {v : Int32} {F : Hp → Option Rs} (hF : FdO Ts own index C T N ci k) (hp : FpO T N k ty0 .int) (ho : o < gN G) (he : cel G h o = .inr (ci, fs)) (hlen : k < fs.length) (hset : cel G (wr h o k v) o = .inr (ci, fs.set k (.int v))) (hdg : decode cc pc = .ok (.putfield index, 3)) (e : lt (wr h o k v) F = some z) (kk : ∀ h', F h' = some z → V X G nL Q h' (pc + 3) lv st) : V X G nL Q h pc lv (.int v :: .ref (G.1 o) :: st) := fun ls H locs hl hR hS => va_put (ref := (T k).1) (H0 := X.2.2.2.2.1.heap) O.1 O.2.1 O.2.2.2.2.1 hF.1 ty0 hp.1 hp.2.1 O.2.2.2.1 O.2.2.2.2.2.1.1 hR (O.2.2.2.2.2.1.2.1 h) hS o (by rw [wld_at ho, he]) hF.2.1 k hF.2.2.1 (O.2.2.2.2.1 _ hF.2.2.2) (fun _ q => q) hp.2.2.1 hp.2.2.2 rfl rfl hlen hdg (fun H1 locs1 hP _ hS1 => kk _ e ls H1 locs1 hl (by rw [wld_set (h1 := wr h o k v) ho hset cel_row] at hP; exact hP) hS1)
theorem v_putl (O : Ok X G cc own nL Ts ret R0) {C : String} {T : u_T} {N index ci k : Nat} {ty0 : Nat → FieldType} {fs : List Value} {v : Int64} {F : Hp → Option Rs} (hF : FdO Ts own index C T N ci k) (hp : FpO T N k ty0 .long) (ho : 25 < gN G) (he : cel G h 25 = .inr (ci, fs)) (hlen : k < fs.length) (hset : cel G (wrl h v) 25 = .inr (ci, fs.set k (.long v))) (hdg : decode cc pc = .ok (.putfield index, 3)) (e : lt (wrl h v) F = some z) (kk : ∀ h', F h' = some z → V X G nL Q h' (pc + 3) lv st) : V X G nL Q h pc lv (.long v :: .ref (G.1 25) :: st) := fun ls H locs hl hR hS => va_put (ref := (T k).1) (H0 := X.2.2.2.2.1.heap) O.1 O.2.1 O.2.2.2.2.1 hF.1 ty0 hp.1 hp.2.1 O.2.2.2.1 O.2.2.2.2.2.1.1 hR (O.2.2.2.2.2.1.2.1 h) hS 25 (by rw [wld_at ho, he]) hF.2.1 k hF.2.2.1 (O.2.2.2.2.1 _ hF.2.2.2) (fun _ q => q) hp.2.2.1 hp.2.2.2 rfl rfl hlen hdg (fun H1 locs1 hP _ hS1 => kk _ e ls H1 locs1 hl (by rw [wld_set (h1 := wrl h v) ho hset cel_long] at hP; exact hP) hS1)
theorem v_iald (O : Ok X G cc own nL Ts ret R0) {o : Nat} {n : Nat} {f : Nat → Int32} {i : Int32} {A : Option Rs} (ho : o < gN G) (he : cel G h o = .inl (gI G, n, .inl f)) (hdg : decode cc pc = .ok (.iaload, 1)) (e : (if ib i n = true then A else none) = some z) (kk : A = some z → V X G nL Q h (pc + 1) lv (.int (f (ix i)) :: st)) : V X G nL Q h pc lv (.int i :: .ref (G.1 o) :: st) := fun ls H locs hl hR hS => va_iald O.1 O.2.1 O.2.2.2.2.2.1.1 hR o 0 (by rw [wld_at ho, he]) rfl (ib_in (if_ok e).1) hdg (kk (if_ok e).2 ls H locs hl hR hS)
theorem v_zald (O : Ok X G cc own nL Ts ret R0) {o : Nat} {n : Nat} {f : Nat → Int32} {i : Int32} {A : Option Rs} (ho : o < gN G) (he : cel G h o = .inl (gZ G, n, .inl f)) (hdg : decode cc pc = .ok (.baload, 1)) (e : (if ib i n = true then A else none) = some z) (kk : A = some z → V X G nL Q h (pc + 1) lv (.int (f (ix i)) :: st)) : V X G nL Q h pc lv (.int i :: .ref (G.1 o) :: st) := fun ls H locs hl hR hS => va_zald O.1 O.2.1 O.2.2.2.2.2.1.1 hR o 1 (by rw [wld_at ho, he]) rfl (ib_in (if_ok e).1) hdg (kk (if_ok e).2 ls H locs hl hR hS)
theorem v_iast (O : Ok X G cc own nL Ts ret R0) {o : Nat} {n : Nat} {i x : Int32} {F : Hp → Option Rs} (ho : o < gN G) (he : cel G h o = .inl (gI G, n, .inl (h.1 o))) (hset : cel G (wr h o (ix i) x) o = .inl (gI G, n, .inl (upd (h.1 o) (ix i) x))) (hdg : decode cc pc = .ok (.iastore, 1)) (e : (if ib i n = true then lt (wr h o (ix i) x) F else none) = some z) (kk : ∀ h', F h' = some z → V X G nL Q h' (pc + 1) lv st) : V X G nL Q h pc lv (.int x :: .int i :: .ref (G.1 o) :: st) := fun ls H locs hl hR hS => va_iast (H0 := X.2.2.2.2.1.heap) O.1 O.2.1 O.2.2.2.2.2.1.1 hR (O.2.2.2.2.2.1.2.1 h) hS o 0 (by rw [wld_at ho, he]) rfl (ib_in (if_ok e).1) hdg (fun H1 locs1 hP _ hS1 => kk _ (if_ok e).2 ls H1 locs1 hl (by rw [wld_set (h1 := wr h o (ix i) x) ho hset cel_row] at hP; exact hP) hS1)
theorem v_zast (O : Ok X G cc own nL Ts ret R0) {o : Nat} {n : Nat} {i x : Int32} {F : Hp → Option Rs} (ho : o < gN G) (he : cel G h o = .inl (gZ G, n, .inl (h.1 o))) (hset : cel G (wr h o (ix i) (vp_nar .boolean x)) o = .inl (gZ G, n, .inl (upd (h.1 o) (ix i) (vp_nar .boolean x)))) (hdg : decode cc pc = .ok (.bastore, 1)) (e : (if ib i n = true then lt (wr h o (ix i) (vp_nar .boolean x)) F else none) = some z) (kk : ∀ h', F h' = some z → V X G nL Q h' (pc + 1) lv st) : V X G nL Q h pc lv (.int x :: .int i :: .ref (G.1 o) :: st) := fun ls H locs hl hR hS => va_zast (H0 := X.2.2.2.2.1.heap) O.1 O.2.1 O.2.2.2.2.2.1.1 hR (O.2.2.2.2.2.1.2.1 h) hS o 1 (by rw [wld_at ho, he]) rfl (ib_in (if_ok e).1) hdg (fun H1 locs1 hP _ hS1 => kk _ (if_ok e).2 ls H1 locs1 hl (by rw [wld_set (h1 := wr h o (ix i) (vp_nar .boolean x)) ho hset cel_row] at hP; exact hP) hS1)
theorem v_alen (O : Ok X G cc own nL Ts ret R0) {o : Nat} {n : Nat} {f : Nat → Int32} {v : Int32} (ho : o < gN G) (he : cel G h o = .inl (gI G, n, .inl f)) (hv : Int32.ofNat n = v) (hdg : decode cc pc = .ok (.arraylength, 1)) (kk : V X G nL Q h (pc + 1) lv (.int v :: st)) : V X G nL Q h pc lv (.ref (G.1 o) :: st) := fun ls H locs hl hR hS => va_alen O.1 O.2.1 O.2.2.2.2.2.1.1 hR o 0 (by rw [wld_at ho, he]) (ty := .int) rfl hv hdg (kk ls H locs hl hR hS)
theorem v_gets (O : Ok X G cc own nL Ts ret R0) {index : Nat} (t : Nat) (ht : t < 7) (hlink : Cond.fieldLink own index (tbC t) (tbM t) "[I" ∈ Ts) (hdg : decode cc pc = .ok (.getstatic index, 3)) (kk : V X G nL Q h (pc + 3) lv (.ref (gSa G t) :: st)) : V X G nL Q h pc lv st := fun ls H locs hl hR hS => va_gets O.1 O.2.1 (O.2.2.2.2.2.1.2.2.1 t ht).1 hS O.2.2.2.1 (O.2.2.2.2.1 _ hlink) (fun _ q => q) hdg (kk ls H locs hl hR hS)
theorem v_ti (O : Ok X G cc own nL Ts ret R0) (t n : Nat) {i : Int32} {A : Option Rs} (ht : t < 7) (hn : tbLen t = n) (hdg : decode cc pc = .ok (.iaload, 1)) (e : (if ib i n = true then A else none) = some z) (kk : A = some z → V X G nL Q h (pc + 1) lv (.int (tb t (ix i)) :: st)) : V X G nL Q h pc lv (.int i :: .ref (gSa G t) :: st) := fun ls H locs hl hR hS => va_ti O.1 O.2.1 (O.2.2.2.2.2.1.2.2.1 t ht).2 hS (ib_in (by rw [hn]; exact (if_ok e).1)) rfl hdg (kk (if_ok e).2 ls H locs hl hR hS)
theorem v_iret (O : Ok X G cc own nL Ts (some .int) R0) {v : Int32} (hdg : decode cc pc = .ok (.ireturn, 1)) (e : some (v, h) = some z) : V X G nL (QI X G z) h pc lv [.int v] := by
  cases e
  intro ls H locs hl hR hS
  exact W.iret O.1 O.2.1 O.2.2.2.2.2.2.2.1 (fun t ht hW => ⟨⟨v, h, rfl, ⟨rfl, rfl⟩, by show Rh G h t.heap; rw [ht]; exact hR⟩, hS.F ht⟩) hS.2.2 hdg O.2.2.2.2.2.2.1
theorem v_zret (O : Ok X G cc own nL Ts (some .boolean) R0) {v : Int32} (hdg : decode cc pc = .ok (.ireturn, 1)) (e : (if zk v = true then some (v, h) else none) = some z) : V X G nL (QI X G z) h pc lv [.int v] := by
  obtain ⟨hz, e⟩ := if_ok e
  cases e
  intro ls H locs hl hR hS
  exact W.zret O.1 O.2.1 O.2.2.2.2.2.2.2.1 (zk_nar hz) (fun t ht hW => ⟨⟨v, h, rfl, ⟨rfl, rfl⟩, by show Rh G h t.heap; rw [ht]; exact hR⟩, hS.F ht⟩) hS.2.2 hdg O.2.2.2.2.2.2.1
theorem v_vret (O : Ok X G cc own nL Ts none R0) (hdg : decode cc pc = .ok (.return_, 1)) (e : some (0, h) = some z) : V X G nL (QV X G z) h pc lv [] := by
  cases e
  intro ls H locs hl hR hS
  exact W.vret O.1 O.2.1 O.2.2.2.2.2.2.2.1 (fun t ht hW => ⟨⟨h, rfl, rfl, by show Rh G h t.heap; rw [ht]; exact hR⟩, hS.F ht⟩) hS.2.2 hdg O.2.2.2.2.2.2.1
theorem v_if {c : Prop} [Decidable c] {A B : Option Rs} (e : (if c then A else B) = some z) (kt : c → A = some z → V X G nL Q h pc lv st) (kf : ¬ c → B = some z → V X G nL Q h pc lv st) : V X G nL Q h pc lv st := by
  by_cases hc : c
  · rw [if_pos hc] at e; exact kt hc e
  · rw [if_neg hc] at e; exact kf hc e
/-- the words of a call: the callee's own, its room in the caller's -/
def CwO (R0 : Room) (y : MethodName) (ws : List Cond) (bytes : ByteArray) (maxL : Nat) (rt : Option FieldType) (rm : Room) (n : Nat) : Prop := (∃ ws', ws = Cond.code y bytes maxL rt :: ws') ∧ rm.cells = 0 ∧ rm.slots = 0 ∧ (y.cls ≠ "java/lang/invoke/MethodHandle" ∧ y.cls ≠ "java/lang/invoke/VarHandle" ∧ (parseMethodDescriptor y.desc).map (fun d => d.parameters.length) = some n) ∧ rm.frames + 1 ≤ R0.frames ∧ 8 + (maxL + 11) + rm.locals ≤ R0.locals
theorem ok_fix (O : Ok X G cc own nL Ts ret R0) : CallFix X.1 X.2.2.2.2.2.1 X.2.2.2.2.2.2.2.2.2.1 cc nL X.2.2.2.2.1 X.2.2.2.2.2.2.1 Ts own := ⟨O.1, O.2.1, O.2.2.1, O.2.2.2.1, O.2.2.2.2.1⟩
theorem ok_preS (O : Ok X G cc own nL Ts ret R0) {H : Heap} {locs : List Loc} {As : List Value} (hR : Rh G h H) (hS : va_S (gA G) X.2.2.2.2.1.heap H locs) : PreS X.2.2.2.2.1 H (pre G As h) As := ⟨pre_blind, fun U hU hW => ⟨rfl, by rw [hU]; exact hR, O.2.2.2.2.2.1.moves hU hW hS⟩⟩
theorem ok_preV (O : Ok X G cc own nL Ts ret R0) {H : Heap} {locs : List Loc} {As : List Value} {o ci N : Nat} {C : String} {T : u_T} {fs : List Value} (ho : o < gN G) (he : cel G h o = .inr (ci, fs)) (hc : vwCl[ci]? = some (C, T, N)) (hR : Rh G h H) (hS : va_S (gA G) X.2.2.2.2.1.heap H locs) : PreV X.2.2.2.2.1 H C (G.1 o) (pre G (.ref (G.1 o) :: As) h) As := ⟨pre_blind, va_recv (ci := ci) (q0 := o) (fs := fs) O.2.2.2.2.2.1.1 hR hc (by rw [wld_at ho, he]), fun U hU hW => ⟨rfl, by rw [hU]; exact hR, O.2.2.2.2.2.1.moves hU hW hS⟩⟩
theorem ok_room (O : Ok X G cc own nL Ts ret R0) : X.2.2.2.2.2.2.2.2.2.2.1 + 0 ≤ X.2.2.2.1.cells ∧ X.2.2.2.2.2.2.2.2.2.2.2 + 0 ≤ X.2.2.2.1.slots := by
  obtain ⟨-, -, -, -, -, -, -, -, e, h1, h2⟩ := O
  rw [e]; exact ⟨h1, h2⟩
theorem g25 (O : Ok X G cc own nL Ts ret R0) {o : Nat} (ho : o < 25) : o < gN G := Nat.lt_of_lt_of_le ho O.2.2.2.2.2.1.2.2.2.2.2.2
theorem ok_R (O : Ok X G cc own nL Ts ret R0) : X.2.2.2.1 = R0 := O.2.2.2.2.2.2.2.2.1
theorem v_aft {H : Heap} {locs : List Loc} {ls : Array Slot} {a : Option Rs} {F : Int32 → Hp → Option Rs} {rest st0 : List Value} {aa : Array Value} (hl : lv_has ls nL lv) (hS : va_S (gA G) X.2.2.2.2.1.heap H locs) (e : cl a F = some z) (hr : ∀ z', a = some z' → va_Run X.1 X.2.1 X.2.2.1 X.2.2.2.1 X.2.2.2.2.1 X.2.2.2.2.2.1 X.2.2.2.2.2.2.1 X.2.2.2.2.2.2.2.1 X.2.2.2.2.2.2.2.2.1 X.2.2.2.2.2.2.2.2.2.1 H locs X.2.2.2.2.2.2.2.2.2.2.1 X.2.2.2.2.2.2.2.2.2.2.2 0 0 (F0 X.2.2.2.2.2.1 pc ls st0) rest (qI G z' aa) (gA G)) (kk : ∀ r h', F r h' = some z → V X G nL Q h' (pc + 3) lv (.int r :: rest)) : W X.1 X.2.1 X.2.2.1 X.2.2.2.1 X.2.2.2.2.1 X.2.2.2.2.2.1 X.2.2.2.2.2.2.1 X.2.2.2.2.2.2.2.1 X.2.2.2.2.2.2.2.2.1 X.2.2.2.2.2.2.2.2.2.1 H locs X.2.2.2.2.2.2.2.2.2.2.1 X.2.2.2.2.2.2.2.2.2.2.2 Q (F0 X.2.2.2.2.2.1 pc ls st0) := by
  obtain ⟨r, h', ha, e⟩ := cl_ok e
  refine va_calli (hr _ ha) hS (fun _ _ q => q) (fun _ q => q) (fun r1 u t H1 locs1 ht _ hp hB _ _ hS1 => ?_)
  obtain ⟨h1, h2⟩ := hp
  rw [h1]
  have hB : Rh G u t.heap := hB
  rw [h2, ht] at hB
  exact kk r h' e ls H1 locs1 hl hB hS1
theorem v_aftV {H : Heap} {locs : List Loc} {ls : Array Slot} {a : Option Rs} {F : Int32 → Hp → Option Rs} {rest st0 : List Value} {aa : Array Value} (hl : lv_has ls nL lv) (hS : va_S (gA G) X.2.2.2.2.1.heap H locs) (e : cl a F = some z) (hr : ∀ z', a = some z' → va_Run X.1 X.2.1 X.2.2.1 X.2.2.2.1 X.2.2.2.2.1 X.2.2.2.2.2.1 X.2.2.2.2.2.2.1 X.2.2.2.2.2.2.2.1 X.2.2.2.2.2.2.2.2.1 X.2.2.2.2.2.2.2.2.2.1 H locs X.2.2.2.2.2.2.2.2.2.2.1 X.2.2.2.2.2.2.2.2.2.2.2 0 0 (F0 X.2.2.2.2.2.1 pc ls st0) rest (qV G z' aa) (gA G)) (kk : ∀ r h', F r h' = some z → V X G nL Q h' (pc + 3) lv rest) : W X.1 X.2.1 X.2.2.1 X.2.2.2.1 X.2.2.2.2.1 X.2.2.2.2.2.1 X.2.2.2.2.2.2.1 X.2.2.2.2.2.2.2.1 X.2.2.2.2.2.2.2.2.1 X.2.2.2.2.2.2.2.2.2.1 H locs X.2.2.2.2.2.2.2.2.2.2.1 X.2.2.2.2.2.2.2.2.2.2.2 Q (F0 X.2.2.2.2.2.1 pc ls st0) := by
  obtain ⟨r, h', ha, e⟩ := cl_ok e
  refine va_callv (hr _ ha) hS (fun _ _ q => q) (fun _ q => q) (fun u t H1 locs1 ht _ hp hB _ _ hS1 => ?_)
  have hB : Rh G u t.heap := hB
  rw [hp, ht] at hB
  exact kk r h' e ls H1 locs1 hl hB hS1
theorem v_cVi (O : Ok X G cc own nL Ts ret R0) {y : MethodName} {bytes : ByteArray} {index maxL n : Nat} {rt : Option FieldType} {ws : List Cond} {rm : Room} {a : Option Rs} {F : Int32 → Hp → Option Rs} {C : String} {T : u_T} {N ci o : Nat} {fs st0 : List Value} (As rest : List Value) (hg : GoodIn Ts (wsV own index C y ws)) (hw : CwO R0 y ws bytes maxL rt rm n) (hC : y.cls = C) (hc : vwCl[ci]? = some (C, T, N)) (ho : o < gN G) (he : cel G h o = .inr (ci, fs)) (hn : As.length = n) (hst : st0 = As.reverse ++ .ref (G.1 o) :: rest) (hrest : (rest.map fun v => v.category).sum ≤ 8) (hdg : decode cc pc = .ok (.invokevirtual index, 3)) (e : cl a F = some z) (hM : ∀ z', a = some z' → CI X.2.1 G y ws rm (.ref (G.1 o) :: As) h z') (kk : ∀ r h', F r h' = some z → V X G nL Q h' (pc + 3) lv (.int r :: rest)) : V X G nL Q h pc lv st0 := by
  intro ls H locs hl hR hS
  obtain ⟨⟨ws', hw1⟩, hw2, hw3, hw4, hw5⟩ := hw
  exact v_aft hl hS e (fun z' ha => va_runV (ok_fix O) (hM z' ha) (cwV n O.2.2.2.2.1 hg hw1 hw2 hw3 ⟨hC, hw4⟩ (by rw [ok_R O]; exact hw5)) (ok_preV O ho he hc hR hS) rfl hn hl.1 hst (lv_room hrest) hdg (ok_room O)) kk
theorem v_cSi (O : Ok X G cc own nL Ts ret R0) {y : MethodName} {bytes : ByteArray} {index maxL n : Nat} {rt : Option FieldType} {ws : List Cond} {rm : Room} {a : Option Rs} {F : Int32 → Hp → Option Rs} {st0 : List Value} (As rest : List Value) (hg : GoodIn Ts (va_wsS own index y ws)) (hw : CwO R0 y ws bytes maxL rt rm n) (hn : As.length = n) (hst : st0 = As.reverse ++ rest) (hrest : (rest.map fun v => v.category).sum ≤ 8) (hdg : decode cc pc = .ok (.invokestatic index, 3)) (e : cl a F = some z) (hM : ∀ z', a = some z' → CI X.2.1 G y ws rm As h z') (kk : ∀ r h', F r h' = some z → V X G nL Q h' (pc + 3) lv (.int r :: rest)) : V X G nL Q h pc lv st0 := by
  intro ls H locs hl hR hS
  obtain ⟨⟨ws', hw1⟩, hw2, hw3, hw4, hw5⟩ := hw
  exact v_aft hl hS e (fun z' ha => va_runS (ok_fix O) (hM z' ha) (va_cwS n O.2.2.2.2.1 hg hw1 hw2 hw3 hw4 (by rw [ok_R O]; exact hw5)) (ok_preS O hR hS) rfl hn hl.1 hst (lv_room hrest) hdg (ok_room O)) kk
theorem v_cNi (O : Ok X G cc own nL Ts ret R0) {y : MethodName} {bytes : ByteArray} {index maxL n : Nat} {rt : Option FieldType} {ws : List Cond} {rm : Room} {a : Option Rs} {F : Int32 → Hp → Option Rs} {st0 : List Value} (As rest : List Value) (j : Nat) {host : String} (hj : nestT[j]? = some (own, index, y, host)) (hg : GoodIn Ts ws) (hs : Cond.static y ∈ Ts) (hi : Cond.initialized y.cls ∈ Ts) (hw : CwO R0 y ws bytes maxL rt rm n) (hn : As.length = n) (hst : st0 = As.reverse ++ rest) (hrest : (rest.map fun v => v.category).sum ≤ 8) (hdg : decode cc pc = .ok (.invokestatic index, 3)) (e : cl a F = some z) (hM : ∀ z', a = some z' → CI X.2.1 G y ws rm As h z') (kk : ∀ r h', F r h' = some z → V X G nL Q h' (pc + 3) lv (.int r :: rest)) : V X G nL Q h pc lv st0 := by
  intro ls H locs hl hR hS
  obtain ⟨⟨ws', hw1⟩, hw2, hw3, hw4, hw5⟩ := hw
  exact v_aft hl hS e (fun z' ha => va_runSN (ok_fix O) (hM z' ha) ⟨va_cnB n O.2.2.2.2.1 hg hw1 hw2 hw3 (O.2.2.2.2.2.1.2.2.2.1 _ (List.mem_of_getElem? hj)) (O.2.2.2.2.1 _ hi) hw4 (by rw [ok_R O]; exact hw5), O.2.2.2.2.1 _ hs, trivial⟩ (ok_preS O hR hS) rfl hn hl.1 hst (lv_room hrest) hdg (ok_room O)) kk
theorem v_cVv (O : Ok X G cc own nL Ts ret R0) {y : MethodName} {bytes : ByteArray} {index maxL n : Nat} {rt : Option FieldType} {ws : List Cond} {rm : Room} {a : Option Rs} {F : Int32 → Hp → Option Rs} {C : String} {T : u_T} {N ci o : Nat} {fs st0 : List Value} (As rest : List Value) (hg : GoodIn Ts (wsV own index C y ws)) (hw : CwO R0 y ws bytes maxL rt rm n) (hC : y.cls = C) (hc : vwCl[ci]? = some (C, T, N)) (ho : o < gN G) (he : cel G h o = .inr (ci, fs)) (hn : As.length = n) (hst : st0 = As.reverse ++ .ref (G.1 o) :: rest) (hrest : (rest.map fun v => v.category).sum ≤ 8) (hdg : decode cc pc = .ok (.invokevirtual index, 3)) (e : cl a F = some z) (hM : ∀ z', a = some z' → CV X.2.1 G y ws rm (.ref (G.1 o) :: As) h z') (kk : ∀ r h', F r h' = some z → V X G nL Q h' (pc + 3) lv (rest)) : V X G nL Q h pc lv st0 := by
  intro ls H locs hl hR hS
  obtain ⟨⟨ws', hw1⟩, hw2, hw3, hw4, hw5⟩ := hw
  exact v_aftV hl hS e (fun z' ha => va_runV (ok_fix O) (hM z' ha) (cwV n O.2.2.2.2.1 hg hw1 hw2 hw3 ⟨hC, hw4⟩ (by rw [ok_R O]; exact hw5)) (ok_preV O ho he hc hR hS) rfl hn hl.1 hst (lv_room hrest) hdg (ok_room O)) kk
theorem v_cSv (O : Ok X G cc own nL Ts ret R0) {y : MethodName} {bytes : ByteArray} {index maxL n : Nat} {rt : Option FieldType} {ws : List Cond} {rm : Room} {a : Option Rs} {F : Int32 → Hp → Option Rs} {st0 : List Value} (As rest : List Value) (hg : GoodIn Ts (va_wsS own index y ws)) (hw : CwO R0 y ws bytes maxL rt rm n) (hn : As.length = n) (hst : st0 = As.reverse ++ rest) (hrest : (rest.map fun v => v.category).sum ≤ 8) (hdg : decode cc pc = .ok (.invokestatic index, 3)) (e : cl a F = some z) (hM : ∀ z', a = some z' → CV X.2.1 G y ws rm As h z') (kk : ∀ r h', F r h' = some z → V X G nL Q h' (pc + 3) lv (rest)) : V X G nL Q h pc lv st0 := by
  intro ls H locs hl hR hS
  obtain ⟨⟨ws', hw1⟩, hw2, hw3, hw4, hw5⟩ := hw
  exact v_aftV hl hS e (fun z' ha => va_runS (ok_fix O) (hM z' ha) (va_cwS n O.2.2.2.2.1 hg hw1 hw2 hw3 hw4 (by rw [ok_R O]; exact hw5)) (ok_preS O hR hS) rfl hn hl.1 hst (lv_room hrest) hdg (ok_room O)) kk
theorem v_cNv (O : Ok X G cc own nL Ts ret R0) {y : MethodName} {bytes : ByteArray} {index maxL n : Nat} {rt : Option FieldType} {ws : List Cond} {rm : Room} {a : Option Rs} {F : Int32 → Hp → Option Rs} {st0 : List Value} (As rest : List Value) (j : Nat) {host : String} (hj : nestT[j]? = some (own, index, y, host)) (hg : GoodIn Ts ws) (hs : Cond.static y ∈ Ts) (hi : Cond.initialized y.cls ∈ Ts) (hw : CwO R0 y ws bytes maxL rt rm n) (hn : As.length = n) (hst : st0 = As.reverse ++ rest) (hrest : (rest.map fun v => v.category).sum ≤ 8) (hdg : decode cc pc = .ok (.invokestatic index, 3)) (e : cl a F = some z) (hM : ∀ z', a = some z' → CV X.2.1 G y ws rm As h z') (kk : ∀ r h', F r h' = some z → V X G nL Q h' (pc + 3) lv (rest)) : V X G nL Q h pc lv st0 := by
  intro ls H locs hl hR hS
  obtain ⟨⟨ws', hw1⟩, hw2, hw3, hw4, hw5⟩ := hw
  exact v_aftV hl hS e (fun z' ha => va_runSN (ok_fix O) (hM z' ha) ⟨va_cnB n O.2.2.2.2.1 hg hw1 hw2 hw3 (O.2.2.2.2.2.1.2.2.2.1 _ (List.mem_of_getElem? hj)) (O.2.2.2.2.1 _ hi) hw4 (by rw [ok_R O]; exact hw5), O.2.2.2.2.1 _ hs, trivial⟩ (ok_preS O hR hS) rfl hn hl.1 hst (lv_room hrest) hdg (ok_room O)) kk
theorem v_tabIn (O : Ok X G cc own nL Ts ret R0) {x v : Int32} {dflt lo hi off : Int} {offs : Array Int} {len : Nat} (hdg : decode cc pc = .ok (.tableswitch dflt lo hi offs, len)) (c : x = v) (h1 : ¬ v.toInt < lo) (h2 : ¬ hi < v.toInt) (ho : offs[(v.toInt - lo).toNat]? = some off) (tgt : Nat) (ht : (pc : Int) + off = (tgt : Int)) (k : V X G nL Q h tgt lv st) : V X G nL Q h pc lv (.int x :: st) := by
  subst c
  exact fun ls H locs hl hR hS => lv_tableIn O.1 O.2.1 hdg h1 h2 ho ht (k ls H locs hl hR hS)
theorem v_tabOut (O : Ok X G cc own nL Ts ret R0) {x : Int32} {dflt lo hi : Int} {offs : Array Int} {len : Nat} (hdg : decode cc pc = .ok (.tableswitch dflt lo hi offs, len)) (hx : x.toInt < lo ∨ hi < x.toInt) (tgt : Nat) (ht : (pc : Int) + dflt = (tgt : Int)) (k : V X G nL Q h tgt lv st) : V X G nL Q h pc lv (.int x :: st) := fun ls H locs hl hR hS => lv_tableOut O.1 O.2.1 hdg hx ht (k ls H locs hl hR hS)
/-- arraycopy of ints, between two of our rows -/
theorem v_copy (O : Ok X G cc own nL Ts ret R0) {index o o1 n0 n1 : Nat} {sp dp n : Int32} {F : Hp → Option Rs} (hw : Cond.methodLink own index arraycopyName ∈ Ts ∧ Cond.native arraycopyName ∈ Ts ∧ Cond.static arraycopyName ∈ Ts ∧ Cond.initialized "java/lang/System" ∈ Ts) (ho : o < gN G) (he : cel G h o = .inl (gI G, n0, .inl (h.1 o))) (ho1 : o1 < gN G) (he1 : cel G h o1 = .inl (gI G, n1, .inl (h.1 o1))) (hset : ∀ f, cel G (wrow h o1 f) o1 = .inl (gI G, n1, .inl f)) (hb : ¬ sp < 0 ∧ ¬ dp < 0 ∧ ¬ n < 0 ∧ ix sp + ix n ≤ n0 ∧ ix dp + ix n ≤ n1) (hr : 1 ≤ R0.frames ∧ (st.map fun v => v.category).sum + (nativeFrameWords "java/lang/System" "arraycopy" 5 + 11) ≤ R0.locals) (hdg : decode cc pc = .ok (.invokestatic index, 3)) (e : lt (wrow h o1 (va_cpy (h.1 o) (h.1 o1) (ix sp) (ix dp) (ix n))) F = some z) (kk : ∀ h', F h' = some z → V X G nL Q h' (pc + 3) lv st) : V X G nL Q h pc lv (.int n :: .int dp :: .ref (G.1 o1) :: .int sp :: .ref (G.1 o) :: st) := by
  intro ls H locs hl hR hS
  refine va_copyi (H0 := X.2.2.2.2.1.heap) (ty := .int) O.1 O.2.1 (O.2.2.1.trans hl.1.symm) O.2.2.2.1 (O.2.2.2.2.1 _ hw.1) (O.2.2.2.2.1 _ hw.2.1) (O.2.2.2.2.1 _ hw.2.2.1) (O.2.2.2.2.1 _ hw.2.2.2) O.2.2.2.2.2.1.1 hR (O.2.2.2.2.2.1.2.1 h) hS o o1 0 0 (by rw [wld_at ho, he]) (by rw [wld_at ho1, he1]) rfl rfl rfl hb.1 hb.2.1 hb.2.2.1 hb.2.2.2.1 hb.2.2.2.2 (fun _ _ => rfl) (by rw [ok_R O]; exact hr.1) (by rw [ok_R O]; exact hr.2) hdg (fun H1 locs1 hP _ hS1 => kk _ e ls H1 locs1 hl ?_ hS1)
  rw [wld_set (h1 := wrow h o1 (va_cpy (h.1 o) (h.1 o1) (ix sp) (ix dp) (ix n))) ho1 (hset _) cel_row] at hP
  exact hP
end ROWS
theorem g41 {G : Gx} (h41 : 41 ≤ gN G) {o : Nat} (ho : o < 41) : o < gN G := Nat.lt_of_lt_of_le ho h41
theorem m_int {l : Launch} {G : Gx} {y : MethodName} {ws : List Cond} {rm : Room} {av : List Value} {h : Hp} {z : Rs} {cc : ByteArray} {maxL : Nat} (ws' : List Cond) (hy : plainName y.cls = true) (hw : ws = Cond.code y cc maxL (some .int) :: ws') (lv0 : List (Nat × Value)) (hlv : lv_args 0 av = lv0) (hav : (lg_sl av).length ≤ maxL) (K : ∀ X : Cx, Ok X G cc y.cls maxL ws (some .int) rm → V X G maxL (QI X G z) h 0 lv0 []) : CI l G y ws rm av h z := by
  refine Met.ofW hy hw ?_
  intro p e s m args below meth c s₁ B hml hv
  obtain ⟨rfl, hR, hV⟩ := hv
  rw [lg_entry_eq]
  exact K (p, l, e, (headSpec ws rm).room, s, m, av.toArray, below, meth, c, 0, 0) ⟨B.exec, B.bytes, hml, findClass_of_methodNamed B.named, atoms_spec (ws := ws) B.pre, hV, B.notSynchronized, B.returns, rfl, Nat.zero_le _, Nat.zero_le _⟩ _ _ _ (hlv ▸ lv_entry av hav) hR va_S.rf
theorem m_bool {l : Launch} {G : Gx} {y : MethodName} {ws : List Cond} {rm : Room} {av : List Value} {h : Hp} {z : Rs} {cc : ByteArray} {maxL : Nat} (ws' : List Cond) (hy : plainName y.cls = true) (hw : ws = Cond.code y cc maxL (some .boolean) :: ws') (lv0 : List (Nat × Value)) (hlv : lv_args 0 av = lv0) (hav : (lg_sl av).length ≤ maxL) (K : ∀ X : Cx, Ok X G cc y.cls maxL ws (some .boolean) rm → V X G maxL (QI X G z) h 0 lv0 []) : CI l G y ws rm av h z := by
  refine Met.ofW hy hw ?_
  intro p e s m args below meth c s₁ B hml hv
  obtain ⟨rfl, hR, hV⟩ := hv
  rw [lg_entry_eq]
  exact K (p, l, e, (headSpec ws rm).room, s, m, av.toArray, below, meth, c, 0, 0) ⟨B.exec, B.bytes, hml, findClass_of_methodNamed B.named, atoms_spec (ws := ws) B.pre, hV, B.notSynchronized, B.returns, rfl, Nat.zero_le _, Nat.zero_le _⟩ _ _ _ (hlv ▸ lv_entry av hav) hR va_S.rf
theorem m_void {l : Launch} {G : Gx} {y : MethodName} {ws : List Cond} {rm : Room} {av : List Value} {h : Hp} {z : Rs} {cc : ByteArray} {maxL : Nat} (ws' : List Cond) (hy : plainName y.cls = true) (hw : ws = Cond.code y cc maxL none :: ws') (lv0 : List (Nat × Value)) (hlv : lv_args 0 av = lv0) (hav : (lg_sl av).length ≤ maxL) (K : ∀ X : Cx, Ok X G cc y.cls maxL ws none rm → V X G maxL (QV X G z) h 0 lv0 []) : CV l G y ws rm av h z := by
  refine Met.ofW hy hw ?_
  intro p e s m args below meth c s₁ B hml hv
  obtain ⟨rfl, hR, hV⟩ := hv
  rw [lg_entry_eq]
  exact K (p, l, e, (headSpec ws rm).room, s, m, av.toArray, below, meth, c, 0, 0) ⟨B.exec, B.bytes, hml, findClass_of_methodNamed B.named, atoms_spec (ws := ws) B.pre, hV, B.notSynchronized, B.returns, rfl, Nat.zero_le _, Nat.zero_le _⟩ _ _ _ (hlv ▸ lv_entry av hav) hR va_S.rf
/-! each cell: as it is read; as it is when a slot of it is written -/
theorem cg_0 (G : Gx) (h : Hp) : cel G h 0 = .inr (7, [.ref (G.1 1), .ref (G.1 4), .ref (G.1 6), .ref (G.1 10), .ref (G.1 12), .ref (G.1 13), .ref (G.1 15), .ref (G.1 20), .ref (G.1 21), .ref (G.1 22), .ref (G.1 23), .ref (G.1 24), .int (h.1 0 12), .int (h.1 0 13), .int (h.1 0 14)]) := rfl
theorem cs_0_12 (G : Gx) (h : Hp) (v : Int32) : cel G (wr h 0 12 v) 0 = .inr (7, ([.ref (G.1 1), .ref (G.1 4), .ref (G.1 6), .ref (G.1 10), .ref (G.1 12), .ref (G.1 13), .ref (G.1 15), .ref (G.1 20), .ref (G.1 21), .ref (G.1 22), .ref (G.1 23), .ref (G.1 24), .int (h.1 0 12), .int (h.1 0 13), .int (h.1 0 14)] : List Value).set 12 (.int v)) := rfl
theorem cs_0_13 (G : Gx) (h : Hp) (v : Int32) : cel G (wr h 0 13 v) 0 = .inr (7, ([.ref (G.1 1), .ref (G.1 4), .ref (G.1 6), .ref (G.1 10), .ref (G.1 12), .ref (G.1 13), .ref (G.1 15), .ref (G.1 20), .ref (G.1 21), .ref (G.1 22), .ref (G.1 23), .ref (G.1 24), .int (h.1 0 12), .int (h.1 0 13), .int (h.1 0 14)] : List Value).set 13 (.int v)) := rfl
theorem cs_0_14 (G : Gx) (h : Hp) (v : Int32) : cel G (wr h 0 14 v) 0 = .inr (7, ([.ref (G.1 1), .ref (G.1 4), .ref (G.1 6), .ref (G.1 10), .ref (G.1 12), .ref (G.1 13), .ref (G.1 15), .ref (G.1 20), .ref (G.1 21), .ref (G.1 22), .ref (G.1 23), .ref (G.1 24), .int (h.1 0 12), .int (h.1 0 13), .int (h.1 0 14)] : List Value).set 14 (.int v)) := rfl
theorem cg_1 (G : Gx) (h : Hp) : cel G h 1 = .inr (5, [.int (h.1 1 0), .int (h.1 1 1), .int (h.1 1 2), .int (h.1 1 3), .int (h.1 1 4), .int (h.1 1 5), .int (h.1 1 6), .ref (G.1 2), .ref (G.1 3)]) := rfl
theorem cs_1_0 (G : Gx) (h : Hp) (v : Int32) : cel G (wr h 1 0 v) 1 = .inr (5, ([.int (h.1 1 0), .int (h.1 1 1), .int (h.1 1 2), .int (h.1 1 3), .int (h.1 1 4), .int (h.1 1 5), .int (h.1 1 6), .ref (G.1 2), .ref (G.1 3)] : List Value).set 0 (.int v)) := rfl
theorem cs_1_1 (G : Gx) (h : Hp) (v : Int32) : cel G (wr h 1 1 v) 1 = .inr (5, ([.int (h.1 1 0), .int (h.1 1 1), .int (h.1 1 2), .int (h.1 1 3), .int (h.1 1 4), .int (h.1 1 5), .int (h.1 1 6), .ref (G.1 2), .ref (G.1 3)] : List Value).set 1 (.int v)) := rfl
theorem cs_1_2 (G : Gx) (h : Hp) (v : Int32) : cel G (wr h 1 2 v) 1 = .inr (5, ([.int (h.1 1 0), .int (h.1 1 1), .int (h.1 1 2), .int (h.1 1 3), .int (h.1 1 4), .int (h.1 1 5), .int (h.1 1 6), .ref (G.1 2), .ref (G.1 3)] : List Value).set 2 (.int v)) := rfl
theorem cs_1_3 (G : Gx) (h : Hp) (v : Int32) : cel G (wr h 1 3 v) 1 = .inr (5, ([.int (h.1 1 0), .int (h.1 1 1), .int (h.1 1 2), .int (h.1 1 3), .int (h.1 1 4), .int (h.1 1 5), .int (h.1 1 6), .ref (G.1 2), .ref (G.1 3)] : List Value).set 3 (.int v)) := rfl
theorem cs_1_4 (G : Gx) (h : Hp) (v : Int32) : cel G (wr h 1 4 v) 1 = .inr (5, ([.int (h.1 1 0), .int (h.1 1 1), .int (h.1 1 2), .int (h.1 1 3), .int (h.1 1 4), .int (h.1 1 5), .int (h.1 1 6), .ref (G.1 2), .ref (G.1 3)] : List Value).set 4 (.int v)) := rfl
theorem cs_1_5 (G : Gx) (h : Hp) (v : Int32) : cel G (wr h 1 5 v) 1 = .inr (5, ([.int (h.1 1 0), .int (h.1 1 1), .int (h.1 1 2), .int (h.1 1 3), .int (h.1 1 4), .int (h.1 1 5), .int (h.1 1 6), .ref (G.1 2), .ref (G.1 3)] : List Value).set 5 (.int v)) := rfl
theorem cs_1_6 (G : Gx) (h : Hp) (v : Int32) : cel G (wr h 1 6 v) 1 = .inr (5, ([.int (h.1 1 0), .int (h.1 1 1), .int (h.1 1 2), .int (h.1 1 3), .int (h.1 1 4), .int (h.1 1 5), .int (h.1 1 6), .ref (G.1 2), .ref (G.1 3)] : List Value).set 6 (.int v)) := rfl
theorem cg_2 (G : Gx) (h : Hp) : cel G h 2 = .inl (gI G, 4, .inl (h.1 2)) := rfl
theorem cr_2 (G : Gx) (h : Hp) (f : Nat → Int32) : cel G (wrow h 2 f) 2 = .inl (gI G, 4, .inl f) := rfl
theorem cw_2 (G : Gx) (h : Hp) (i : Nat) (x : Int32) : cel G (wr h 2 i x) 2 = .inl (gI G, 4, .inl (upd (h.1 2) i x)) := rfl
theorem cg_3 (G : Gx) (h : Hp) : cel G h 3 = .inl (gI G, 4, .inl (h.1 3)) := rfl
theorem cr_3 (G : Gx) (h : Hp) (f : Nat → Int32) : cel G (wrow h 3 f) 3 = .inl (gI G, 4, .inl f) := rfl
theorem cw_3 (G : Gx) (h : Hp) (i : Nat) (x : Int32) : cel G (wr h 3 i x) 3 = .inl (gI G, 4, .inl (upd (h.1 3) i x)) := rfl
theorem cg_4 (G : Gx) (h : Hp) : cel G h 4 = .inr (6, [.ref (G.1 5), .int (h.1 4 1), .int (h.1 4 2), .int (h.1 4 3)]) := rfl
theorem cs_4_1 (G : Gx) (h : Hp) (v : Int32) : cel G (wr h 4 1 v) 4 = .inr (6, ([.ref (G.1 5), .int (h.1 4 1), .int (h.1 4 2), .int (h.1 4 3)] : List Value).set 1 (.int v)) := rfl
theorem cs_4_2 (G : Gx) (h : Hp) (v : Int32) : cel G (wr h 4 2 v) 4 = .inr (6, ([.ref (G.1 5), .int (h.1 4 1), .int (h.1 4 2), .int (h.1 4 3)] : List Value).set 2 (.int v)) := rfl
theorem cs_4_3 (G : Gx) (h : Hp) (v : Int32) : cel G (wr h 4 3 v) 4 = .inr (6, ([.ref (G.1 5), .int (h.1 4 1), .int (h.1 4 2), .int (h.1 4 3)] : List Value).set 3 (.int v)) := rfl
theorem cg_5 (G : Gx) (h : Hp) : cel G h 5 = .inl (gI G, 200, .inl (h.1 5)) := rfl
theorem cr_5 (G : Gx) (h : Hp) (f : Nat → Int32) : cel G (wrow h 5 f) 5 = .inl (gI G, 200, .inl f) := rfl
theorem cw_5 (G : Gx) (h : Hp) (i : Nat) (x : Int32) : cel G (wr h 5 i x) 5 = .inl (gI G, 200, .inl (upd (h.1 5) i x)) := rfl
theorem cg_6 (G : Gx) (h : Hp) : cel G h 6 = .inr (3, [.ref (G.1 7), .int (h.1 6 1), .int (h.1 6 2), .ref (G.1 4)]) := rfl
theorem cs_6_1 (G : Gx) (h : Hp) (v : Int32) : cel G (wr h 6 1 v) 6 = .inr (3, ([.ref (G.1 7), .int (h.1 6 1), .int (h.1 6 2), .ref (G.1 4)] : List Value).set 1 (.int v)) := rfl
theorem cs_6_2 (G : Gx) (h : Hp) (v : Int32) : cel G (wr h 6 2 v) 6 = .inr (3, ([.ref (G.1 7), .int (h.1 6 1), .int (h.1 6 2), .ref (G.1 4)] : List Value).set 2 (.int v)) := rfl
theorem cg_7 (G : Gx) (h : Hp) : cel G h 7 = .inr (5, [.int (h.1 7 0), .int (h.1 7 1), .int (h.1 7 2), .int (h.1 7 3), .int (h.1 7 4), .int (h.1 7 5), .int (h.1 7 6), .ref (G.1 8), .ref (G.1 9)]) := rfl
theorem cs_7_0 (G : Gx) (h : Hp) (v : Int32) : cel G (wr h 7 0 v) 7 = .inr (5, ([.int (h.1 7 0), .int (h.1 7 1), .int (h.1 7 2), .int (h.1 7 3), .int (h.1 7 4), .int (h.1 7 5), .int (h.1 7 6), .ref (G.1 8), .ref (G.1 9)] : List Value).set 0 (.int v)) := rfl
theorem cs_7_1 (G : Gx) (h : Hp) (v : Int32) : cel G (wr h 7 1 v) 7 = .inr (5, ([.int (h.1 7 0), .int (h.1 7 1), .int (h.1 7 2), .int (h.1 7 3), .int (h.1 7 4), .int (h.1 7 5), .int (h.1 7 6), .ref (G.1 8), .ref (G.1 9)] : List Value).set 1 (.int v)) := rfl
theorem cs_7_2 (G : Gx) (h : Hp) (v : Int32) : cel G (wr h 7 2 v) 7 = .inr (5, ([.int (h.1 7 0), .int (h.1 7 1), .int (h.1 7 2), .int (h.1 7 3), .int (h.1 7 4), .int (h.1 7 5), .int (h.1 7 6), .ref (G.1 8), .ref (G.1 9)] : List Value).set 2 (.int v)) := rfl
theorem cs_7_3 (G : Gx) (h : Hp) (v : Int32) : cel G (wr h 7 3 v) 7 = .inr (5, ([.int (h.1 7 0), .int (h.1 7 1), .int (h.1 7 2), .int (h.1 7 3), .int (h.1 7 4), .int (h.1 7 5), .int (h.1 7 6), .ref (G.1 8), .ref (G.1 9)] : List Value).set 3 (.int v)) := rfl
theorem cs_7_4 (G : Gx) (h : Hp) (v : Int32) : cel G (wr h 7 4 v) 7 = .inr (5, ([.int (h.1 7 0), .int (h.1 7 1), .int (h.1 7 2), .int (h.1 7 3), .int (h.1 7 4), .int (h.1 7 5), .int (h.1 7 6), .ref (G.1 8), .ref (G.1 9)] : List Value).set 4 (.int v)) := rfl
theorem cs_7_5 (G : Gx) (h : Hp) (v : Int32) : cel G (wr h 7 5 v) 7 = .inr (5, ([.int (h.1 7 0), .int (h.1 7 1), .int (h.1 7 2), .int (h.1 7 3), .int (h.1 7 4), .int (h.1 7 5), .int (h.1 7 6), .ref (G.1 8), .ref (G.1 9)] : List Value).set 5 (.int v)) := rfl
theorem cs_7_6 (G : Gx) (h : Hp) (v : Int32) : cel G (wr h 7 6 v) 7 = .inr (5, ([.int (h.1 7 0), .int (h.1 7 1), .int (h.1 7 2), .int (h.1 7 3), .int (h.1 7 4), .int (h.1 7 5), .int (h.1 7 6), .ref (G.1 8), .ref (G.1 9)] : List Value).set 6 (.int v)) := rfl
theorem cg_8 (G : Gx) (h : Hp) : cel G h 8 = .inl (gI G, 4, .inl (h.1 8)) := rfl
theorem cr_8 (G : Gx) (h : Hp) (f : Nat → Int32) : cel G (wrow h 8 f) 8 = .inl (gI G, 4, .inl f) := rfl
theorem cw_8 (G : Gx) (h : Hp) (i : Nat) (x : Int32) : cel G (wr h 8 i x) 8 = .inl (gI G, 4, .inl (upd (h.1 8) i x)) := rfl
theorem cg_9 (G : Gx) (h : Hp) : cel G h 9 = .inl (gI G, 4, .inl (h.1 9)) := rfl
theorem cr_9 (G : Gx) (h : Hp) (f : Nat → Int32) : cel G (wrow h 9 f) 9 = .inl (gI G, 4, .inl f) := rfl
theorem cw_9 (G : Gx) (h : Hp) (i : Nat) (x : Int32) : cel G (wr h 9 i x) 9 = .inl (gI G, 4, .inl (upd (h.1 9) i x)) := rfl
theorem cg_10 (G : Gx) (h : Hp) : cel G h 10 = .inr (0, [.ref (G.1 11)]) := rfl
theorem cg_11 (G : Gx) (h : Hp) : cel G h 11 = .inl (gI G, 192, .inl (h.1 11)) := rfl
theorem cr_11 (G : Gx) (h : Hp) (f : Nat → Int32) : cel G (wrow h 11 f) 11 = .inl (gI G, 192, .inl f) := rfl
theorem cw_11 (G : Gx) (h : Hp) (i : Nat) (x : Int32) : cel G (wr h 11 i x) 11 = .inl (gI G, 192, .inl (upd (h.1 11) i x)) := rfl
theorem cg_12 (G : Gx) (h : Hp) : cel G h 12 = .inr (1, [.ref (G.1 1), .ref (G.1 10)]) := rfl
theorem cg_13 (G : Gx) (h : Hp) : cel G h 13 = .inr (2, [.ref (G.1 14), .ref (G.1 10), .int (h.1 13 2)]) := rfl
theorem cs_13_2 (G : Gx) (h : Hp) (v : Int32) : cel G (wr h 13 2 v) 13 = .inr (2, ([.ref (G.1 14), .ref (G.1 10), .int (h.1 13 2)] : List Value).set 2 (.int v)) := rfl
theorem cg_14 (G : Gx) (h : Hp) : cel G h 14 = .inl (gI G, 12, .inl (h.1 14)) := rfl
theorem cr_14 (G : Gx) (h : Hp) (f : Nat → Int32) : cel G (wrow h 14 f) 14 = .inl (gI G, 12, .inl f) := rfl
theorem cw_14 (G : Gx) (h : Hp) (i : Nat) (x : Int32) : cel G (wr h 14 i x) 14 = .inl (gI G, 12, .inl (upd (h.1 14) i x)) := rfl
theorem cg_15 (G : Gx) (h : Hp) : cel G h 15 = .inr (4, [.ref (G.1 1), .ref (G.1 12), .ref (G.1 16), .ref (G.1 17), .ref (G.1 18), .ref (G.1 19), .int (h.1 15 6), .int (h.1 15 7)]) := rfl
theorem cs_15_6 (G : Gx) (h : Hp) (v : Int32) : cel G (wr h 15 6 v) 15 = .inr (4, ([.ref (G.1 1), .ref (G.1 12), .ref (G.1 16), .ref (G.1 17), .ref (G.1 18), .ref (G.1 19), .int (h.1 15 6), .int (h.1 15 7)] : List Value).set 6 (.int v)) := rfl
theorem cs_15_7 (G : Gx) (h : Hp) (v : Int32) : cel G (wr h 15 7 v) 15 = .inr (4, ([.ref (G.1 1), .ref (G.1 12), .ref (G.1 16), .ref (G.1 17), .ref (G.1 18), .ref (G.1 19), .int (h.1 15 6), .int (h.1 15 7)] : List Value).set 7 (.int v)) := rfl
theorem cg_16 (G : Gx) (h : Hp) : cel G h 16 = .inl (gI G, 4096, .inl (h.1 16)) := rfl
theorem cr_16 (G : Gx) (h : Hp) (f : Nat → Int32) : cel G (wrow h 16 f) 16 = .inl (gI G, 4096, .inl f) := rfl
theorem cw_16 (G : Gx) (h : Hp) (i : Nat) (x : Int32) : cel G (wr h 16 i x) 16 = .inl (gI G, 4096, .inl (upd (h.1 16) i x)) := rfl
theorem cg_17 (G : Gx) (h : Hp) : cel G h 17 = .inl (gI G, 23760, .inl (h.1 17)) := rfl
theorem cr_17 (G : Gx) (h : Hp) (f : Nat → Int32) : cel G (wrow h 17 f) 17 = .inl (gI G, 23760, .inl f) := rfl
theorem cw_17 (G : Gx) (h : Hp) (i : Nat) (x : Int32) : cel G (wr h 17 i x) 17 = .inl (gI G, 23760, .inl (upd (h.1 17) i x)) := rfl
theorem cg_18 (G : Gx) (h : Hp) : cel G h 18 = .inl (gI G, 23760, .inl (h.1 18)) := rfl
theorem cr_18 (G : Gx) (h : Hp) (f : Nat → Int32) : cel G (wrow h 18 f) 18 = .inl (gI G, 23760, .inl f) := rfl
theorem cw_18 (G : Gx) (h : Hp) (i : Nat) (x : Int32) : cel G (wr h 18 i x) 18 = .inl (gI G, 23760, .inl (upd (h.1 18) i x)) := rfl
theorem cg_19 (G : Gx) (h : Hp) : cel G h 19 = .inl (gI G, 23760, .inl (h.1 19)) := rfl
theorem cr_19 (G : Gx) (h : Hp) (f : Nat → Int32) : cel G (wrow h 19 f) 19 = .inl (gI G, 23760, .inl f) := rfl
theorem cw_19 (G : Gx) (h : Hp) (i : Nat) (x : Int32) : cel G (wr h 19 i x) 19 = .inl (gI G, 23760, .inl (upd (h.1 19) i x)) := rfl
theorem cg_20 (G : Gx) (h : Hp) : cel G h 20 = .inl (gI G, 2, .inl (h.1 20)) := rfl
theorem cr_20 (G : Gx) (h : Hp) (f : Nat → Int32) : cel G (wrow h 20 f) 20 = .inl (gI G, 2, .inl f) := rfl
theorem cw_20 (G : Gx) (h : Hp) (i : Nat) (x : Int32) : cel G (wr h 20 i x) 20 = .inl (gI G, 2, .inl (upd (h.1 20) i x)) := rfl
theorem cg_21 (G : Gx) (h : Hp) : cel G h 21 = .inl (gI G, 2, .inl (h.1 21)) := rfl
theorem cr_21 (G : Gx) (h : Hp) (f : Nat → Int32) : cel G (wrow h 21 f) 21 = .inl (gI G, 2, .inl f) := rfl
theorem cw_21 (G : Gx) (h : Hp) (i : Nat) (x : Int32) : cel G (wr h 21 i x) 21 = .inl (gI G, 2, .inl (upd (h.1 21) i x)) := rfl
theorem cg_22 (G : Gx) (h : Hp) : cel G h 22 = .inl (gZ G, 2, .inl (h.1 22)) := rfl
theorem cr_22 (G : Gx) (h : Hp) (f : Nat → Int32) : cel G (wrow h 22 f) 22 = .inl (gZ G, 2, .inl f) := rfl
theorem cw_22 (G : Gx) (h : Hp) (i : Nat) (x : Int32) : cel G (wr h 22 i x) 22 = .inl (gZ G, 2, .inl (upd (h.1 22) i x)) := rfl
theorem cg_23 (G : Gx) (h : Hp) : cel G h 23 = .inl (gI G, 12, .inl (h.1 23)) := rfl
theorem cr_23 (G : Gx) (h : Hp) (f : Nat → Int32) : cel G (wrow h 23 f) 23 = .inl (gI G, 12, .inl f) := rfl
theorem cw_23 (G : Gx) (h : Hp) (i : Nat) (x : Int32) : cel G (wr h 23 i x) 23 = .inl (gI G, 12, .inl (upd (h.1 23) i x)) := rfl
theorem cg_24 (G : Gx) (h : Hp) : cel G h 24 = .inl (gI G, 12, .inl (h.1 24)) := rfl
theorem cr_24 (G : Gx) (h : Hp) (f : Nat → Int32) : cel G (wrow h 24 f) 24 = .inl (gI G, 12, .inl f) := rfl
theorem cw_24 (G : Gx) (h : Hp) (i : Nat) (x : Int32) : cel G (wr h 24 i x) 24 = .inl (gI G, 12, .inl (upd (h.1 24) i x)) := rfl
theorem cg_25 (G : Gx) (h : Hp) : cel G h 25 = .inr (8, [.int (h.1 25 0), .int (h.1 25 1), .int (h.1 25 2), .int (h.1 25 3), .int (h.1 25 4), .ref (G.1 26), .int (h.1 25 6), .ref (G.1 27), .int (h.1 25 8), .int (h.1 25 9), .long h.2, .int (h.1 25 11), .int (h.1 25 12), .int (h.1 25 13), .int (h.1 25 14), .int (h.1 25 15), .int (h.1 25 16), .int (h.1 25 17), .ref (G.1 28), .ref (G.1 29), .ref (G.1 30), .ref (G.1 31), .int (h.1 25 22), .ref (G.1 32), .ref (G.1 33), .int (h.1 25 25), .ref (G.1 34), .ref (G.1 35), .ref (G.1 36), .ref (G.1 37), .ref (G.1 38), .int (h.1 25 31), .ref (G.1 39), .ref (G.1 40)]) := rfl
theorem cs_25_0 (G : Gx) (h : Hp) (v : Int32) : cel G (wr h 25 0 v) 25 = .inr (8, ([.int (h.1 25 0), .int (h.1 25 1), .int (h.1 25 2), .int (h.1 25 3), .int (h.1 25 4), .ref (G.1 26), .int (h.1 25 6), .ref (G.1 27), .int (h.1 25 8), .int (h.1 25 9), .long h.2, .int (h.1 25 11), .int (h.1 25 12), .int (h.1 25 13), .int (h.1 25 14), .int (h.1 25 15), .int (h.1 25 16), .int (h.1 25 17), .ref (G.1 28), .ref (G.1 29), .ref (G.1 30), .ref (G.1 31), .int (h.1 25 22), .ref (G.1 32), .ref (G.1 33), .int (h.1 25 25), .ref (G.1 34), .ref (G.1 35), .ref (G.1 36), .ref (G.1 37), .ref (G.1 38), .int (h.1 25 31), .ref (G.1 39), .ref (G.1 40)] : List Value).set 0 (.int v)) := rfl
theorem cs_25_1 (G : Gx) (h : Hp) (v : Int32) : cel G (wr h 25 1 v) 25 = .inr (8, ([.int (h.1 25 0), .int (h.1 25 1), .int (h.1 25 2), .int (h.1 25 3), .int (h.1 25 4), .ref (G.1 26), .int (h.1 25 6), .ref (G.1 27), .int (h.1 25 8), .int (h.1 25 9), .long h.2, .int (h.1 25 11), .int (h.1 25 12), .int (h.1 25 13), .int (h.1 25 14), .int (h.1 25 15), .int (h.1 25 16), .int (h.1 25 17), .ref (G.1 28), .ref (G.1 29), .ref (G.1 30), .ref (G.1 31), .int (h.1 25 22), .ref (G.1 32), .ref (G.1 33), .int (h.1 25 25), .ref (G.1 34), .ref (G.1 35), .ref (G.1 36), .ref (G.1 37), .ref (G.1 38), .int (h.1 25 31), .ref (G.1 39), .ref (G.1 40)] : List Value).set 1 (.int v)) := rfl
theorem cs_25_2 (G : Gx) (h : Hp) (v : Int32) : cel G (wr h 25 2 v) 25 = .inr (8, ([.int (h.1 25 0), .int (h.1 25 1), .int (h.1 25 2), .int (h.1 25 3), .int (h.1 25 4), .ref (G.1 26), .int (h.1 25 6), .ref (G.1 27), .int (h.1 25 8), .int (h.1 25 9), .long h.2, .int (h.1 25 11), .int (h.1 25 12), .int (h.1 25 13), .int (h.1 25 14), .int (h.1 25 15), .int (h.1 25 16), .int (h.1 25 17), .ref (G.1 28), .ref (G.1 29), .ref (G.1 30), .ref (G.1 31), .int (h.1 25 22), .ref (G.1 32), .ref (G.1 33), .int (h.1 25 25), .ref (G.1 34), .ref (G.1 35), .ref (G.1 36), .ref (G.1 37), .ref (G.1 38), .int (h.1 25 31), .ref (G.1 39), .ref (G.1 40)] : List Value).set 2 (.int v)) := rfl
theorem cs_25_3 (G : Gx) (h : Hp) (v : Int32) : cel G (wr h 25 3 v) 25 = .inr (8, ([.int (h.1 25 0), .int (h.1 25 1), .int (h.1 25 2), .int (h.1 25 3), .int (h.1 25 4), .ref (G.1 26), .int (h.1 25 6), .ref (G.1 27), .int (h.1 25 8), .int (h.1 25 9), .long h.2, .int (h.1 25 11), .int (h.1 25 12), .int (h.1 25 13), .int (h.1 25 14), .int (h.1 25 15), .int (h.1 25 16), .int (h.1 25 17), .ref (G.1 28), .ref (G.1 29), .ref (G.1 30), .ref (G.1 31), .int (h.1 25 22), .ref (G.1 32), .ref (G.1 33), .int (h.1 25 25), .ref (G.1 34), .ref (G.1 35), .ref (G.1 36), .ref (G.1 37), .ref (G.1 38), .int (h.1 25 31), .ref (G.1 39), .ref (G.1 40)] : List Value).set 3 (.int v)) := rfl
theorem cs_25_4 (G : Gx) (h : Hp) (v : Int32) : cel G (wr h 25 4 v) 25 = .inr (8, ([.int (h.1 25 0), .int (h.1 25 1), .int (h.1 25 2), .int (h.1 25 3), .int (h.1 25 4), .ref (G.1 26), .int (h.1 25 6), .ref (G.1 27), .int (h.1 25 8), .int (h.1 25 9), .long h.2, .int (h.1 25 11), .int (h.1 25 12), .int (h.1 25 13), .int (h.1 25 14), .int (h.1 25 15), .int (h.1 25 16), .int (h.1 25 17), .ref (G.1 28), .ref (G.1 29), .ref (G.1 30), .ref (G.1 31), .int (h.1 25 22), .ref (G.1 32), .ref (G.1 33), .int (h.1 25 25), .ref (G.1 34), .ref (G.1 35), .ref (G.1 36), .ref (G.1 37), .ref (G.1 38), .int (h.1 25 31), .ref (G.1 39), .ref (G.1 40)] : List Value).set 4 (.int v)) := rfl
theorem cs_25_6 (G : Gx) (h : Hp) (v : Int32) : cel G (wr h 25 6 v) 25 = .inr (8, ([.int (h.1 25 0), .int (h.1 25 1), .int (h.1 25 2), .int (h.1 25 3), .int (h.1 25 4), .ref (G.1 26), .int (h.1 25 6), .ref (G.1 27), .int (h.1 25 8), .int (h.1 25 9), .long h.2, .int (h.1 25 11), .int (h.1 25 12), .int (h.1 25 13), .int (h.1 25 14), .int (h.1 25 15), .int (h.1 25 16), .int (h.1 25 17), .ref (G.1 28), .ref (G.1 29), .ref (G.1 30), .ref (G.1 31), .int (h.1 25 22), .ref (G.1 32), .ref (G.1 33), .int (h.1 25 25), .ref (G.1 34), .ref (G.1 35), .ref (G.1 36), .ref (G.1 37), .ref (G.1 38), .int (h.1 25 31), .ref (G.1 39), .ref (G.1 40)] : List Value).set 6 (.int v)) := rfl
theorem cs_25_8 (G : Gx) (h : Hp) (v : Int32) : cel G (wr h 25 8 v) 25 = .inr (8, ([.int (h.1 25 0), .int (h.1 25 1), .int (h.1 25 2), .int (h.1 25 3), .int (h.1 25 4), .ref (G.1 26), .int (h.1 25 6), .ref (G.1 27), .int (h.1 25 8), .int (h.1 25 9), .long h.2, .int (h.1 25 11), .int (h.1 25 12), .int (h.1 25 13), .int (h.1 25 14), .int (h.1 25 15), .int (h.1 25 16), .int (h.1 25 17), .ref (G.1 28), .ref (G.1 29), .ref (G.1 30), .ref (G.1 31), .int (h.1 25 22), .ref (G.1 32), .ref (G.1 33), .int (h.1 25 25), .ref (G.1 34), .ref (G.1 35), .ref (G.1 36), .ref (G.1 37), .ref (G.1 38), .int (h.1 25 31), .ref (G.1 39), .ref (G.1 40)] : List Value).set 8 (.int v)) := rfl
theorem cs_25_9 (G : Gx) (h : Hp) (v : Int32) : cel G (wr h 25 9 v) 25 = .inr (8, ([.int (h.1 25 0), .int (h.1 25 1), .int (h.1 25 2), .int (h.1 25 3), .int (h.1 25 4), .ref (G.1 26), .int (h.1 25 6), .ref (G.1 27), .int (h.1 25 8), .int (h.1 25 9), .long h.2, .int (h.1 25 11), .int (h.1 25 12), .int (h.1 25 13), .int (h.1 25 14), .int (h.1 25 15), .int (h.1 25 16), .int (h.1 25 17), .ref (G.1 28), .ref (G.1 29), .ref (G.1 30), .ref (G.1 31), .int (h.1 25 22), .ref (G.1 32), .ref (G.1 33), .int (h.1 25 25), .ref (G.1 34), .ref (G.1 35), .ref (G.1 36), .ref (G.1 37), .ref (G.1 38), .int (h.1 25 31), .ref (G.1 39), .ref (G.1 40)] : List Value).set 9 (.int v)) := rfl
theorem cs_25_11 (G : Gx) (h : Hp) (v : Int32) : cel G (wr h 25 11 v) 25 = .inr (8, ([.int (h.1 25 0), .int (h.1 25 1), .int (h.1 25 2), .int (h.1 25 3), .int (h.1 25 4), .ref (G.1 26), .int (h.1 25 6), .ref (G.1 27), .int (h.1 25 8), .int (h.1 25 9), .long h.2, .int (h.1 25 11), .int (h.1 25 12), .int (h.1 25 13), .int (h.1 25 14), .int (h.1 25 15), .int (h.1 25 16), .int (h.1 25 17), .ref (G.1 28), .ref (G.1 29), .ref (G.1 30), .ref (G.1 31), .int (h.1 25 22), .ref (G.1 32), .ref (G.1 33), .int (h.1 25 25), .ref (G.1 34), .ref (G.1 35), .ref (G.1 36), .ref (G.1 37), .ref (G.1 38), .int (h.1 25 31), .ref (G.1 39), .ref (G.1 40)] : List Value).set 11 (.int v)) := rfl
theorem cs_25_12 (G : Gx) (h : Hp) (v : Int32) : cel G (wr h 25 12 v) 25 = .inr (8, ([.int (h.1 25 0), .int (h.1 25 1), .int (h.1 25 2), .int (h.1 25 3), .int (h.1 25 4), .ref (G.1 26), .int (h.1 25 6), .ref (G.1 27), .int (h.1 25 8), .int (h.1 25 9), .long h.2, .int (h.1 25 11), .int (h.1 25 12), .int (h.1 25 13), .int (h.1 25 14), .int (h.1 25 15), .int (h.1 25 16), .int (h.1 25 17), .ref (G.1 28), .ref (G.1 29), .ref (G.1 30), .ref (G.1 31), .int (h.1 25 22), .ref (G.1 32), .ref (G.1 33), .int (h.1 25 25), .ref (G.1 34), .ref (G.1 35), .ref (G.1 36), .ref (G.1 37), .ref (G.1 38), .int (h.1 25 31), .ref (G.1 39), .ref (G.1 40)] : List Value).set 12 (.int v)) := rfl
theorem cs_25_13 (G : Gx) (h : Hp) (v : Int32) : cel G (wr h 25 13 v) 25 = .inr (8, ([.int (h.1 25 0), .int (h.1 25 1), .int (h.1 25 2), .int (h.1 25 3), .int (h.1 25 4), .ref (G.1 26), .int (h.1 25 6), .ref (G.1 27), .int (h.1 25 8), .int (h.1 25 9), .long h.2, .int (h.1 25 11), .int (h.1 25 12), .int (h.1 25 13), .int (h.1 25 14), .int (h.1 25 15), .int (h.1 25 16), .int (h.1 25 17), .ref (G.1 28), .ref (G.1 29), .ref (G.1 30), .ref (G.1 31), .int (h.1 25 22), .ref (G.1 32), .ref (G.1 33), .int (h.1 25 25), .ref (G.1 34), .ref (G.1 35), .ref (G.1 36), .ref (G.1 37), .ref (G.1 38), .int (h.1 25 31), .ref (G.1 39), .ref (G.1 40)] : List Value).set 13 (.int v)) := rfl
theorem cs_25_14 (G : Gx) (h : Hp) (v : Int32) : cel G (wr h 25 14 v) 25 = .inr (8, ([.int (h.1 25 0), .int (h.1 25 1), .int (h.1 25 2), .int (h.1 25 3), .int (h.1 25 4), .ref (G.1 26), .int (h.1 25 6), .ref (G.1 27), .int (h.1 25 8), .int (h.1 25 9), .long h.2, .int (h.1 25 11), .int (h.1 25 12), .int (h.1 25 13), .int (h.1 25 14), .int (h.1 25 15), .int (h.1 25 16), .int (h.1 25 17), .ref (G.1 28), .ref (G.1 29), .ref (G.1 30), .ref (G.1 31), .int (h.1 25 22), .ref (G.1 32), .ref (G.1 33), .int (h.1 25 25), .ref (G.1 34), .ref (G.1 35), .ref (G.1 36), .ref (G.1 37), .ref (G.1 38), .int (h.1 25 31), .ref (G.1 39), .ref (G.1 40)] : List Value).set 14 (.int v)) := rfl
theorem cs_25_15 (G : Gx) (h : Hp) (v : Int32) : cel G (wr h 25 15 v) 25 = .inr (8, ([.int (h.1 25 0), .int (h.1 25 1), .int (h.1 25 2), .int (h.1 25 3), .int (h.1 25 4), .ref (G.1 26), .int (h.1 25 6), .ref (G.1 27), .int (h.1 25 8), .int (h.1 25 9), .long h.2, .int (h.1 25 11), .int (h.1 25 12), .int (h.1 25 13), .int (h.1 25 14), .int (h.1 25 15), .int (h.1 25 16), .int (h.1 25 17), .ref (G.1 28), .ref (G.1 29), .ref (G.1 30), .ref (G.1 31), .int (h.1 25 22), .ref (G.1 32), .ref (G.1 33), .int (h.1 25 25), .ref (G.1 34), .ref (G.1 35), .ref (G.1 36), .ref (G.1 37), .ref (G.1 38), .int (h.1 25 31), .ref (G.1 39), .ref (G.1 40)] : List Value).set 15 (.int v)) := rfl
theorem cs_25_16 (G : Gx) (h : Hp) (v : Int32) : cel G (wr h 25 16 v) 25 = .inr (8, ([.int (h.1 25 0), .int (h.1 25 1), .int (h.1 25 2), .int (h.1 25 3), .int (h.1 25 4), .ref (G.1 26), .int (h.1 25 6), .ref (G.1 27), .int (h.1 25 8), .int (h.1 25 9), .long h.2, .int (h.1 25 11), .int (h.1 25 12), .int (h.1 25 13), .int (h.1 25 14), .int (h.1 25 15), .int (h.1 25 16), .int (h.1 25 17), .ref (G.1 28), .ref (G.1 29), .ref (G.1 30), .ref (G.1 31), .int (h.1 25 22), .ref (G.1 32), .ref (G.1 33), .int (h.1 25 25), .ref (G.1 34), .ref (G.1 35), .ref (G.1 36), .ref (G.1 37), .ref (G.1 38), .int (h.1 25 31), .ref (G.1 39), .ref (G.1 40)] : List Value).set 16 (.int v)) := rfl
theorem cs_25_17 (G : Gx) (h : Hp) (v : Int32) : cel G (wr h 25 17 v) 25 = .inr (8, ([.int (h.1 25 0), .int (h.1 25 1), .int (h.1 25 2), .int (h.1 25 3), .int (h.1 25 4), .ref (G.1 26), .int (h.1 25 6), .ref (G.1 27), .int (h.1 25 8), .int (h.1 25 9), .long h.2, .int (h.1 25 11), .int (h.1 25 12), .int (h.1 25 13), .int (h.1 25 14), .int (h.1 25 15), .int (h.1 25 16), .int (h.1 25 17), .ref (G.1 28), .ref (G.1 29), .ref (G.1 30), .ref (G.1 31), .int (h.1 25 22), .ref (G.1 32), .ref (G.1 33), .int (h.1 25 25), .ref (G.1 34), .ref (G.1 35), .ref (G.1 36), .ref (G.1 37), .ref (G.1 38), .int (h.1 25 31), .ref (G.1 39), .ref (G.1 40)] : List Value).set 17 (.int v)) := rfl
theorem cs_25_22 (G : Gx) (h : Hp) (v : Int32) : cel G (wr h 25 22 v) 25 = .inr (8, ([.int (h.1 25 0), .int (h.1 25 1), .int (h.1 25 2), .int (h.1 25 3), .int (h.1 25 4), .ref (G.1 26), .int (h.1 25 6), .ref (G.1 27), .int (h.1 25 8), .int (h.1 25 9), .long h.2, .int (h.1 25 11), .int (h.1 25 12), .int (h.1 25 13), .int (h.1 25 14), .int (h.1 25 15), .int (h.1 25 16), .int (h.1 25 17), .ref (G.1 28), .ref (G.1 29), .ref (G.1 30), .ref (G.1 31), .int (h.1 25 22), .ref (G.1 32), .ref (G.1 33), .int (h.1 25 25), .ref (G.1 34), .ref (G.1 35), .ref (G.1 36), .ref (G.1 37), .ref (G.1 38), .int (h.1 25 31), .ref (G.1 39), .ref (G.1 40)] : List Value).set 22 (.int v)) := rfl
theorem cs_25_25 (G : Gx) (h : Hp) (v : Int32) : cel G (wr h 25 25 v) 25 = .inr (8, ([.int (h.1 25 0), .int (h.1 25 1), .int (h.1 25 2), .int (h.1 25 3), .int (h.1 25 4), .ref (G.1 26), .int (h.1 25 6), .ref (G.1 27), .int (h.1 25 8), .int (h.1 25 9), .long h.2, .int (h.1 25 11), .int (h.1 25 12), .int (h.1 25 13), .int (h.1 25 14), .int (h.1 25 15), .int (h.1 25 16), .int (h.1 25 17), .ref (G.1 28), .ref (G.1 29), .ref (G.1 30), .ref (G.1 31), .int (h.1 25 22), .ref (G.1 32), .ref (G.1 33), .int (h.1 25 25), .ref (G.1 34), .ref (G.1 35), .ref (G.1 36), .ref (G.1 37), .ref (G.1 38), .int (h.1 25 31), .ref (G.1 39), .ref (G.1 40)] : List Value).set 25 (.int v)) := rfl
theorem cs_25_31 (G : Gx) (h : Hp) (v : Int32) : cel G (wr h 25 31 v) 25 = .inr (8, ([.int (h.1 25 0), .int (h.1 25 1), .int (h.1 25 2), .int (h.1 25 3), .int (h.1 25 4), .ref (G.1 26), .int (h.1 25 6), .ref (G.1 27), .int (h.1 25 8), .int (h.1 25 9), .long h.2, .int (h.1 25 11), .int (h.1 25 12), .int (h.1 25 13), .int (h.1 25 14), .int (h.1 25 15), .int (h.1 25 16), .int (h.1 25 17), .ref (G.1 28), .ref (G.1 29), .ref (G.1 30), .ref (G.1 31), .int (h.1 25 22), .ref (G.1 32), .ref (G.1 33), .int (h.1 25 25), .ref (G.1 34), .ref (G.1 35), .ref (G.1 36), .ref (G.1 37), .ref (G.1 38), .int (h.1 25 31), .ref (G.1 39), .ref (G.1 40)] : List Value).set 31 (.int v)) := rfl
theorem cg_26 (G : Gx) (h : Hp) : cel G h 26 = .inl (gI G, 16, .inl (h.1 26)) := rfl
theorem cr_26 (G : Gx) (h : Hp) (f : Nat → Int32) : cel G (wrow h 26 f) 26 = .inl (gI G, 16, .inl f) := rfl
theorem cw_26 (G : Gx) (h : Hp) (i : Nat) (x : Int32) : cel G (wr h 26 i x) 26 = .inl (gI G, 16, .inl (upd (h.1 26) i x)) := rfl
theorem cg_27 (G : Gx) (h : Hp) : cel G h 27 = .inl (gI G, 200, .inl (h.1 27)) := rfl
theorem cr_27 (G : Gx) (h : Hp) (f : Nat → Int32) : cel G (wrow h 27 f) 27 = .inl (gI G, 200, .inl f) := rfl
theorem cw_27 (G : Gx) (h : Hp) (i : Nat) (x : Int32) : cel G (wr h 27 i x) 27 = .inl (gI G, 200, .inl (upd (h.1 27) i x)) := rfl
theorem cg_28 (G : Gx) (h : Hp) : cel G h 28 = .inl (gI G, 4, .inl (h.1 28)) := rfl
theorem cr_28 (G : Gx) (h : Hp) (f : Nat → Int32) : cel G (wrow h 28 f) 28 = .inl (gI G, 4, .inl f) := rfl
theorem cw_28 (G : Gx) (h : Hp) (i : Nat) (x : Int32) : cel G (wr h 28 i x) 28 = .inl (gI G, 4, .inl (upd (h.1 28) i x)) := rfl
theorem cg_29 (G : Gx) (h : Hp) : cel G h 29 = .inl (gI G, 4, .inl (h.1 29)) := rfl
theorem cr_29 (G : Gx) (h : Hp) (f : Nat → Int32) : cel G (wrow h 29 f) 29 = .inl (gI G, 4, .inl f) := rfl
theorem cw_29 (G : Gx) (h : Hp) (i : Nat) (x : Int32) : cel G (wr h 29 i x) 29 = .inl (gI G, 4, .inl (upd (h.1 29) i x)) := rfl
theorem cg_30 (G : Gx) (h : Hp) : cel G h 30 = .inl (gI G, 48, .inl (h.1 30)) := rfl
theorem cr_30 (G : Gx) (h : Hp) (f : Nat → Int32) : cel G (wrow h 30 f) 30 = .inl (gI G, 48, .inl f) := rfl
theorem cw_30 (G : Gx) (h : Hp) (i : Nat) (x : Int32) : cel G (wr h 30 i x) 30 = .inl (gI G, 48, .inl (upd (h.1 30) i x)) := rfl
theorem cg_31 (G : Gx) (h : Hp) : cel G h 31 = .inl (gI G, 4, .inl (h.1 31)) := rfl
theorem cr_31 (G : Gx) (h : Hp) (f : Nat → Int32) : cel G (wrow h 31 f) 31 = .inl (gI G, 4, .inl f) := rfl
theorem cw_31 (G : Gx) (h : Hp) (i : Nat) (x : Int32) : cel G (wr h 31 i x) 31 = .inl (gI G, 4, .inl (upd (h.1 31) i x)) := rfl
theorem cg_32 (G : Gx) (h : Hp) : cel G h 32 = .inl (gI G, 10, .inl (h.1 32)) := rfl
theorem cr_32 (G : Gx) (h : Hp) (f : Nat → Int32) : cel G (wrow h 32 f) 32 = .inl (gI G, 10, .inl f) := rfl
theorem cw_32 (G : Gx) (h : Hp) (i : Nat) (x : Int32) : cel G (wr h 32 i x) 32 = .inl (gI G, 10, .inl (upd (h.1 32) i x)) := rfl
theorem cg_33 (G : Gx) (h : Hp) : cel G h 33 = .inl (gZ G, 2, .inl (h.1 33)) := rfl
theorem cr_33 (G : Gx) (h : Hp) (f : Nat → Int32) : cel G (wrow h 33 f) 33 = .inl (gZ G, 2, .inl f) := rfl
theorem cw_33 (G : Gx) (h : Hp) (i : Nat) (x : Int32) : cel G (wr h 33 i x) 33 = .inl (gZ G, 2, .inl (upd (h.1 33) i x)) := rfl
theorem cg_34 (G : Gx) (h : Hp) : cel G h 34 = .inl (gI G, 24, .inl (h.1 34)) := rfl
theorem cr_34 (G : Gx) (h : Hp) (f : Nat → Int32) : cel G (wrow h 34 f) 34 = .inl (gI G, 24, .inl f) := rfl
theorem cw_34 (G : Gx) (h : Hp) (i : Nat) (x : Int32) : cel G (wr h 34 i x) 34 = .inl (gI G, 24, .inl (upd (h.1 34) i x)) := rfl
theorem cg_35 (G : Gx) (h : Hp) : cel G h 35 = .inl (gI G, 41472, .inl (h.1 35)) := rfl
theorem cr_35 (G : Gx) (h : Hp) (f : Nat → Int32) : cel G (wrow h 35 f) 35 = .inl (gI G, 41472, .inl f) := rfl
theorem cw_35 (G : Gx) (h : Hp) (i : Nat) (x : Int32) : cel G (wr h 35 i x) 35 = .inl (gI G, 41472, .inl (upd (h.1 35) i x)) := rfl
theorem cg_36 (G : Gx) (h : Hp) : cel G h 36 = .inl (gI G, 41472, .inl (h.1 36)) := rfl
theorem cr_36 (G : Gx) (h : Hp) (f : Nat → Int32) : cel G (wrow h 36 f) 36 = .inl (gI G, 41472, .inl f) := rfl
theorem cw_36 (G : Gx) (h : Hp) (i : Nat) (x : Int32) : cel G (wr h 36 i x) 36 = .inl (gI G, 41472, .inl (upd (h.1 36) i x)) := rfl
theorem cg_37 (G : Gx) (h : Hp) : cel G h 37 = .inl (gI G, 41472, .inl (h.1 37)) := rfl
theorem cr_37 (G : Gx) (h : Hp) (f : Nat → Int32) : cel G (wrow h 37 f) 37 = .inl (gI G, 41472, .inl f) := rfl
theorem cw_37 (G : Gx) (h : Hp) (i : Nat) (x : Int32) : cel G (wr h 37 i x) 37 = .inl (gI G, 41472, .inl (upd (h.1 37) i x)) := rfl
theorem cg_38 (G : Gx) (h : Hp) : cel G h 38 = .inl (gI G, 41472, .inl (h.1 38)) := rfl
theorem cr_38 (G : Gx) (h : Hp) (f : Nat → Int32) : cel G (wrow h 38 f) 38 = .inl (gI G, 41472, .inl f) := rfl
theorem cw_38 (G : Gx) (h : Hp) (i : Nat) (x : Int32) : cel G (wr h 38 i x) 38 = .inl (gI G, 41472, .inl (upd (h.1 38) i x)) := rfl
theorem cg_39 (G : Gx) (h : Hp) : cel G h 39 = .inl (gI G, 4, .inl (h.1 39)) := rfl
theorem cr_39 (G : Gx) (h : Hp) (f : Nat → Int32) : cel G (wrow h 39 f) 39 = .inl (gI G, 4, .inl f) := rfl
theorem cw_39 (G : Gx) (h : Hp) (i : Nat) (x : Int32) : cel G (wr h 39 i x) 39 = .inl (gI G, 4, .inl (upd (h.1 39) i x)) := rfl
theorem cg_40 (G : Gx) (h : Hp) : cel G h 40 = .inl (gI G, 12, .inl (h.1 40)) := rfl
theorem cr_40 (G : Gx) (h : Hp) (f : Nat → Int32) : cel G (wrow h 40 f) 40 = .inl (gI G, 12, .inl f) := rfl
theorem cw_40 (G : Gx) (h : Hp) (i : Nat) (x : Int32) : cel G (wr h 40 i x) 40 = .inl (gI G, 12, .inl (upd (h.1 40) i x)) := rfl
theorem cs_25_10 (G : Gx) (h : Hp) (v : Int64) : cel G (wrl h v) 25 = .inr (8, ([.int (h.1 25 0), .int (h.1 25 1), .int (h.1 25 2), .int (h.1 25 3), .int (h.1 25 4), .ref (G.1 26), .int (h.1 25 6), .ref (G.1 27), .int (h.1 25 8), .int (h.1 25 9), .long h.2, .int (h.1 25 11), .int (h.1 25 12), .int (h.1 25 13), .int (h.1 25 14), .int (h.1 25 15), .int (h.1 25 16), .int (h.1 25 17), .ref (G.1 28), .ref (G.1 29), .ref (G.1 30), .ref (G.1 31), .int (h.1 25 22), .ref (G.1 32), .ref (G.1 33), .int (h.1 25 25), .ref (G.1 34), .ref (G.1 35), .ref (G.1 36), .ref (G.1 37), .ref (G.1 38), .int (h.1 25 31), .ref (G.1 39), .ref (G.1 40)] : List Value).set 10 (.long v)) := rfl
