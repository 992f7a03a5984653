/-! THE CLAIM OUT OF ONE WALK OF THE LAW'S BODY. Your part is whole_start (and what it stands on); all else here is the same for every law, but numbers. -/
def R_law : String := "WhiteKnightsLaw"
def lw_P (b : Addr) (xs : List Int32) (args : Array Value) (s : State) : Prop := args = #[.ref b] ∧ s.IntsAt b xs ∧ xs.length ≤ 2048 ∧ (Jvm.Cond.and given_1 narrow_1).before args s = true
def lw_Q (_ : Array Value) (s : State) (o : Outcome) (t : State) : Prop := o = .returned (some (.int 1)) ∧ Framed s o t [] 600000 7302250
def lw_Z (below : List Frame) (a : Array Value) (s : State) : State → Prop := fun t => ∃ o, t.status = .running ∧ Ended t below o ∧ lw_Q a s o t
/-- the law's own end, with 1 on the stack, nothing written that was there before, its room as the claim has it -/
theorem lw_ret {p : Program} {l : Launch} {e : Env} {s : State} {m : MethodId} {below : List Frame} {meth : Method} {c : Code} {b : Nat} (hx : p.tables.exec = Jvm.exec) (hb : c.code = code) (hr : meth.sig.returnType = ret) (hlocks : meth.locks = false) {pc : Nat} {H : Heap} {ls : Array Slot} (hdg : decode code pc = .ok (.ireturn, 1)) : W p l e room_1 s m #[Value.ref b] below meth c H [] 600000 7302250 (lw_Z below #[Value.ref b] s) (F0 m pc ls [.int 1]) := by
  intro T hT X
  obtain ⟨fs, hret, hrun, hended, hW, hframe⟩ := X.leave (v := some (.int 1)) (hlocks := hlocks) (fun h => by rw [hr] at h; cases h)
  have hmeth' : T.vm.method? m = some meth := X.method'
  refine ⟨T.setFrames fs, ?_, .returned (some (.int 1)), hrun, hended, rfl, ⟨_, rfl⟩, hW, hframe⟩
  jvm_step X.here [X.here.top, hx, hb, hdg, hmeth', hr, ret, narrow_b1]
  (try refine ⟨rfl, ?_⟩); (try refine ⟨rfl, ?_⟩)
  first | (intro acts; rw [hret _ acts rfl rfl rfl]) | rw [hret _ _ rfl rfl rfl]
  exact Steps.refl _
/-- what holds at the law's entry: the machine, the code, the tables' words (any of lw_tbl by 'hts w (by decide +kernel)'), the script of L ints xs at the cell b, what the Statement gives of the start (any of its parts by flat_of_before) -/
def lw_At (p : Program) (s : State) (m : MethodId) (meth : Method) (c : Code) (b L : Nat) (xs : Nat → Int32) : Prop :=
  p.tables.exec = Jvm.exec ∧ c.code = code ∧ meth.sig.returnType = ret ∧ c.maxLocals = 4 ∧ s.vm.findClass R_law = some m.cls ∧ (∀ w ∈ lw_tbl, w.before #[Value.ref b] s = true) ∧ va_X b L xs s s.heap ∧ b < s.heap.size ∧ meth.locks = false ∧ (Jvm.Cond.and given_1 narrow_1).before #[Value.ref b] s = true
/-- the law's own end, and its script -/
def QL (X : Cx) : State → Prop := lw_Z X.2.2.2.2.2.2.2.1 X.2.2.2.2.2.2.1 X.2.2.2.2.1
def LX (X : Cx) (G : Gx) (b L : Nat) (xs : Nat → Int32) : Prop := va_X b L xs X.2.2.2.2.1 X.2.2.2.2.1.heap ∧ b < X.2.2.2.2.1.heap.size ∧ ¬ gA G b ∧ (∀ q, gA G q → X.2.2.2.2.1.heap.size ≤ q) ∧ X.2.2.2.2.2.2.1 = #[Value.ref b]
section LAWROWS
variable {X : Cx} {G : Gx} {nL : Nat} {Q : State → Prop} {h : Hp} {pc : Nat} {lv : List (Nat × Value)} {st : List Value} {cc : ByteArray} {own : String} {Ts : List Cond} {ret0 : Option FieldType} {R0 : Room} {z : Rs} {b L : Nat} {xs : Nat → Int32}
theorem v_sld (O : Ok X G cc own nL Ts ret0 R0) (hB : LX X G b L xs) {i : Int32} {A : Option Rs} (hdg : decode cc pc = .ok (.iaload, 1)) (e : (if ib i L = true then A else none) = some z) (k : A = some z → V X G nL Q h (pc + 1) lv (.int (xs (ix i)) :: st)) : V X G nL Q h pc lv (.int i :: .ref b :: st) := fun ls H locs hl hR hS => va_sld O.1 O.2.1 hB.1 hB.2.1 hB.2.2.1 hS (ib_in (if_ok e).1) hdg (k (if_ok e).2 ls H locs hl hR hS)
theorem v_slen (O : Ok X G cc own nL Ts ret0 R0) (hB : LX X G b L xs) (hdg : decode cc pc = .ok (.arraylength, 1)) (k : V X G nL Q h (pc + 1) lv (.int (Int32.ofNat L) :: st)) : V X G nL Q h pc lv (.ref b :: st) := fun ls H locs hl hR hS => va_slen O.1 O.2.1 hB.1 hB.2.1 hB.2.2.1 hS hdg (k ls H locs hl hR hS)
theorem v_lret (O : Ok X G code own nL Ts ret room_1) (hz : z.1 = 1) (hB : LX X G b L xs) {v : Int32} (hdg : decode code pc = .ok (.ireturn, 1)) (e : some (v, h) = some z) : V X G nL (QL X) h pc lv [.int v] := by
  cases e
  have hz : v = 1 := hz
  subst hz
  obtain ⟨p, l, e, R, s, m, args, below, meth, c, nc, ns⟩ := X
  obtain ⟨hx, hb, hml, hown, hts, hV, hlocks, hr, hR, h1, h2⟩ := O
  obtain ⟨hb1, hb2, hb3, hb4, hb5⟩ := hB
  intro ls H locs hl hRh hS
  have hb5 : args = #[Value.ref b] := hb5
  have hR : R = room_1 := hR
  subst hb5
  subst hR
  refine va_forget (fun q hq => hb4 _ (hS.2.2 q hq)) ?_
  refine W.widen h1 h2 ?_
  exact lw_ret hx hb hr hlocks hdg
end LAWROWS
