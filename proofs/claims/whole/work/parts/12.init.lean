/-! constructors: a judgement over an explicit list of cells -/
def kw (cI cZ : ClassId) : List (ClassId × FieldType) := [(cI, .int), (cZ, .boolean)]
def KJ (X : Cx) (D : va_G) (A : Nat → Prop) (nL : Nat) (Q : State → Prop) (nc ns : Nat) (ws : va_W) (pc : Nat) (lv : List (Nat × Value)) (st : List Value) : Prop :=
  ∀ (ls : Array Slot) (H : Heap) (locs : List Loc), lv_has ls nL lv → va_P D vwCl ws H → va_D A ws → va_S A X.2.2.2.2.1.heap H locs → W X.1 X.2.1 X.2.2.1 X.2.2.2.1 X.2.2.2.2.1 X.2.2.2.2.2.1 X.2.2.2.2.2.2.1 X.2.2.2.2.2.2.2.1 X.2.2.2.2.2.2.2.2.1 X.2.2.2.2.2.2.2.2.2.1 H locs nc ns Q (F0 X.2.2.2.2.2.1 pc ls st)
def KO (X : Cx) (D : va_G) (A : Nat → Prop) (cI cZ : ClassId) (cc : ByteArray) (own : String) (nL : Nat) (Ts : List Cond) (R0 : Room) : Prop :=
  X.1.tables.exec = Jvm.exec ∧ X.2.2.2.2.2.2.2.2.2.1.code = cc ∧ X.2.2.2.2.2.2.2.2.2.1.maxLocals = nL ∧ X.2.2.2.2.1.vm.findClass own = some X.2.2.2.2.2.1.cls ∧ (∀ w ∈ Ts, w.before X.2.2.2.2.2.2.1 X.2.2.2.2.1 = true) ∧ va_K D vwCl (kw cI cZ) X.2.2.2.2.1 ∧ (∀ q, X.2.2.2.2.1.heap.size ≤ q → A q) ∧ X.2.2.2.1 = R0
section KROWS
variable {X : Cx} {D : va_G} {A : Nat → Prop} {cI cZ : ClassId} {nL : Nat} {Q : State → Prop} {nc ns : Nat} {ws : va_W} {pc : Nat} {lv : List (Nat × Value)} {st : List Value} {cc : ByteArray} {own : String} {Ts : List Cond} {R0 : Room}
theorem k_aload_n (O : KO X D A cI cZ cc own nL Ts R0) {kk : Fin 4} {i x : Nat} (hdg : decode cc pc = .ok (.aload_n kk, 1)) (j : Nat) (hi : (kk : Nat) = i) (hj : lv[j]? = some (i, .ref x)) (k : KJ X D A nL Q nc ns ws (pc + 1) lv (.ref x :: st)) : KJ X D A nL Q nc ns ws pc lv st := fun ls H locs hl hP hD hS => lv_aload_n O.1 O.2.1 hdg hi (lv_at hl j hj) (k ls H locs hl hP hD hS)
theorem k_iconst (O : KO X D A cI cZ cc own nL Ts R0) {n : Int} {v : Int32} (hdg : decode cc pc = .ok (.iconst n, 1)) (hv : Int32.ofInt n = v) (k : KJ X D A nL Q nc ns ws (pc + 1) lv (.int v :: st)) : KJ X D A nL Q nc ns ws pc lv st := fun ls H locs hl hP hD hS => lv_iconst O.1 O.2.1 hdg hv (k ls H locs hl hP hD hS)
theorem k_bipush (O : KO X D A cI cZ cc own nL Ts R0) {n : Int} {v : Int32} (hdg : decode cc pc = .ok (.bipush n, 2)) (hv : (Int8.ofInt n).toInt32 = v) (k : KJ X D A nL Q nc ns ws (pc + 2) lv (.int v :: st)) : KJ X D A nL Q nc ns ws pc lv st := fun ls H locs hl hP hD hS => lv_bipush O.1 O.2.1 hdg hv (k ls H locs hl hP hD hS)
theorem k_sipush (O : KO X D A cI cZ cc own nL Ts R0) {n : Int} {v : Int32} (hdg : decode cc pc = .ok (.sipush n, 3)) (hv : (Int16.ofInt n).toInt32 = v) (k : KJ X D A nL Q nc ns ws (pc + 3) lv (.int v :: st)) : KJ X D A nL Q nc ns ws pc lv st := fun ls H locs hl hP hD hS => lv_sipush O.1 O.2.1 hdg hv (k ls H locs hl hP hD hS)
theorem k_ldc (O : KO X D A cI cZ cc own nL Ts R0) {index : Nat} {v : Int32} (hdg : decode cc pc = .ok (.ldc index, 2)) (hw : Cond.constant own index v ∈ Ts) (k : KJ X D A nL Q nc ns ws (pc + 2) lv (.int v :: st)) : KJ X D A nL Q nc ns ws pc lv st := fun ls H locs hl hP hD hS => lv_ldc O.1 O.2.1 O.2.2.2.1 (O.2.2.2.2.1 _ hw) hdg (k ls H locs hl hP hD hS)
theorem k_dup (O : KO X D A cI cZ cc own nL Ts R0) {a : Value} (hdg : decode cc pc = .ok (.dup, 1)) (ha : a.category = 1) (k : KJ X D A nL Q nc ns ws (pc + 1) lv (a :: a :: st)) : KJ X D A nL Q nc ns ws pc lv (a :: st) := fun ls H locs hl hP hD hS => lv_dup O.1 O.2.1 hdg ha (k ls H locs hl hP hD hS)
theorem k_obj (O : KO X D A cI cZ cc own nL Ts R0) {idx a : Nat} (hdg : decode cc pc = .ok (.invokespecial idx, 3)) (h1 : Cond.methodLink own idx objectInit ∈ Ts) (h2 : Cond.instanceMethod objectInit ∈ Ts) (h3 : Cond.code objectInit ⟨#[0xb1]⟩ 1 none ∈ Ts) (hf : 1 ≤ R0.frames) (hlo : (st.map fun v => v.category).sum + 12 ≤ R0.locals) (k : KJ X D A nL Q nc ns ws (pc + 3) lv st) : KJ X D A nL Q nc ns ws pc lv (.ref a :: st) := fun ls H locs hl hP hD hS => W.objInit O.1 O.2.1 O.2.2.2.1 (O.2.2.2.2.1 _ h1) (O.2.2.2.2.1 _ h2) (O.2.2.2.2.1 _ h3) rfl (hl.1.trans O.2.2.1.symm) rfl hdg (by rw [O.2.2.2.2.2.2.2]; exact hf) (by rw [O.2.2.2.2.2.2.2]; show 2 * 0 + _ + 12 ≤ _; omega) (k ls H locs hl hP hD hS)
theorem k_get (O : KO X D A cI cZ cc own nL Ts R0) {C : String} {T : u_T} {N index ci k a : Nat} {fs : List Value} {v : Value} (hF : FdO Ts own index C T N ci k) (q0 : Nat) (he : ws[q0]? = some (a, .inr (ci, fs))) (hv : fs[k]? = some v) (hdg : decode cc pc = .ok (.getfield index, 3)) (kk : KJ X D A nL Q nc ns ws (pc + 3) lv (v :: st)) : KJ X D A nL Q nc ns ws pc lv (.ref a :: st) := fun ls H locs hl hP hD hS => va_get (ref := (T k).1) O.1 O.2.1 O.2.2.2.2.1 hF.1 O.2.2.2.1 O.2.2.2.2.2.1 hP q0 he hF.2.1 k hF.2.2.1 (O.2.2.2.2.1 _ hF.2.2.2) (fun _ q => q) hv hdg (kk ls H locs hl hP hD hS)
theorem k_put (O : KO X D A cI cZ cc own nL Ts R0) {C : String} {T : u_T} {N index ci k a : Nat} {ty0 : Nat → FieldType} {fs : List Value} {v : Int32} (hF : FdO Ts own index C T N ci k) (hp : FpO T N k ty0 .int) (q0 : Nat) (he : ws[q0]? = some (a, .inr (ci, fs))) (hlen : k < fs.length) (ws' : va_W) (hws : ws.set q0 (a, .inr (ci, fs.set k (.int v))) = ws') (hdg : decode cc pc = .ok (.putfield index, 3)) (kk : KJ X D A nL Q nc ns ws' (pc + 3) lv st) : KJ X D A nL Q nc ns ws pc lv (.int v :: .ref a :: st) := fun ls H locs hl hP hD hS => va_put (ref := (T k).1) (H0 := X.2.2.2.2.1.heap) O.1 O.2.1 O.2.2.2.2.1 hF.1 ty0 hp.1 hp.2.1 O.2.2.2.1 O.2.2.2.2.2.1 hP hD hS q0 he hF.2.1 k hF.2.2.1 (O.2.2.2.2.1 _ hF.2.2.2) (fun _ q => q) hp.2.2.1 hp.2.2.2 rfl rfl hlen hdg (fun H1 locs1 hP1 hD1 hS1 => kk ls H1 locs1 hl (hws ▸ hP1) (hws ▸ hD1) hS1)
def FfO (T : u_T) (N k : Nat) (ty0 : Nat → FieldType) (own : String) : Prop := (∀ k, k < N → parseFieldDescriptor (T k).2.2.1 = some (ty0 k)) ∧ (∀ a, a < N → ∀ b, b < N → a ≠ b → (T a).2.1 ≠ (T b).2.1) ∧ (T k).2.2.2 = true ∧ (T k).1 = own ∧ ∃ ty, parseFieldDescriptor (T k).2.2.1 = some ty ∧ ∀ a, narrow ty (.ref a) = .ref a ∧ fits ty (.ref a) = true
theorem k_putF (O : KO X D A cI cZ cc own nL Ts R0) (hin : X.2.2.2.2.2.2.2.2.1.name = "<init>") {C : String} {T : u_T} {N index ci k a q : Nat} {ty0 : Nat → FieldType} {fs : List Value} (hF : FdO Ts own index C T N ci k) (hp : FfO T N k ty0 own) (q0 : Nat) (he : ws[q0]? = some (a, .inr (ci, fs))) (hlen : k < fs.length) (ws' : va_W) (hws : ws.set q0 (a, .inr (ci, fs.set k (.ref q))) = ws') (hdg : decode cc pc = .ok (.putfield index, 3)) (kk : KJ X D A nL Q nc ns ws' (pc + 3) lv st) : KJ X D A nL Q nc ns ws pc lv (.ref q :: .ref a :: st) := by
  obtain ⟨p1, p2, p3, p4, ty, p5, p6⟩ := hp
  exact fun ls H locs hl hP hD hS => va_putF (ref := (T k).1) (H0 := X.2.2.2.2.1.heap) O.1 O.2.1 O.2.2.2.2.1 hF.1 ty0 p1 p2 O.2.2.2.1 O.2.2.2.2.2.1 hP hD hS q0 he hF.2.1 k hF.2.2.1 (O.2.2.2.2.1 _ hF.2.2.2) (fun _ q => q) p3 hin p4 p5 (p6 q).1 (p6 q).2 hlen hdg (fun H1 locs1 hP1 hD1 hS1 => kk ls H1 locs1 hl (hws ▸ hP1) (hws ▸ hD1) hS1)
theorem k_new (O : KO X D A cI cZ cc own nL Ts R0) {C : String} {T : u_T} {N index ci : Nat} {ty : Nat → FieldType} (hin : ∀ w ∈ u_ws C T N, w ∈ Ts) (hty : ∀ k, k < N → parseFieldDescriptor (T k).2.2.1 = some (ty k)) (hw : Cond.classLink own index C ∈ Ts ∧ Cond.instantiable C N ∈ Ts ∧ Cond.initialized C ∈ Ts) (hc : vwCl[ci]? = some (C, T, N)) (fs : List Value) (hfs : ∀ j, j < N → defaultValue (ty j) = vp_V fs j) (h1 : nc + 1 ≤ R0.cells) (h2 : ns + N ≤ R0.slots) (nc' ns' : Nat) (e1 : nc + 1 = nc') (e2 : ns + N = ns') (hdg : decode cc pc = .ok (.new index, 3)) (kk : ∀ q : Nat, KJ X D A nL Q nc' ns' (ws ++ [(q, .inr (ci, fs))]) (pc + 3) lv (.ref q :: st)) : KJ X D A nL Q nc ns ws pc lv st := by
  subst e1; subst e2
  exact fun ls H locs hl hP hD hS => va_new (H0 := X.2.2.2.2.1.heap) O.1 O.2.1 O.2.2.2.2.1 hin ty hty O.2.2.2.1 (O.2.2.2.2.1 _ hw.1) (O.2.2.2.2.1 _ hw.2.1) (O.2.2.2.2.1 _ hw.2.2) O.2.2.2.2.2.1 hP hD hS O.2.2.2.2.2.2.1 hc hfs (by rw [O.2.2.2.2.2.2.2]; exact h1) (by rw [O.2.2.2.2.2.2.2]; exact h2) hdg (fun q H1 hP1 hD1 hS1 => kk q ls H1 locs hl hP1 hD1 hS1)
theorem k_newI (O : KO X D A cI cZ cc own nL Ts R0) {n : Int32} (N : Nat) (hw : Cond.arrayClass .int ∈ Ts) (hn : ¬ n < 0) (hN : n.toNatClampNeg = N) (hb : N * 4 ≤ 536870912) (h1 : nc + 1 ≤ R0.cells) (h2 : ns + N ≤ R0.slots) (nc' ns' : Nat) (e1 : nc + 1 = nc') (e2 : ns + N = ns') (hdg : decode cc pc = .ok (.newarray .int, 2)) (kk : ∀ q : Nat, KJ X D A nL Q nc' ns' (ws ++ [(q, .inl (cI, N, .inl (fun _ => 0)))]) (pc + 2) lv (.ref q :: st)) : KJ X D A nL Q nc ns ws pc lv (.int n :: st) := by
  subst e1; subst e2
  intro ls H locs hl hP hD hS
  refine va_newa (atype := .int) (H0 := X.2.2.2.2.1.heap) (a0 := (N, .inl (fun _ => 0))) O.1 O.2.1 (O.2.2.2.2.1 _ hw) rfl O.2.2.2.2.2.1 hP hD hS O.2.2.2.2.2.2.1 (fun cA => vp_cell_i cA N _) hn hN hb (by rw [O.2.2.2.2.2.2.2]; exact h1) (by rw [O.2.2.2.2.2.2.2]; exact h2) hdg (fun q cA H1 hK1 hP1 hD1 hS1 => ?_)
  have e1 := (hK1.2 0 (cI, .int) rfl).2
  have e2 := (hK1.2 2 (cA, .int) rfl).2
  have e3 : cA = cI := Option.some.inj (e2.symm.trans e1)
  subst e3
  exact kk q ls H1 locs hl hP1 hD1 hS1
theorem k_newZ (O : KO X D A cI cZ cc own nL Ts R0) {n : Int32} (N : Nat) (hw : Cond.arrayClass .boolean ∈ Ts) (hn : ¬ n < 0) (hN : n.toNatClampNeg = N) (hb : N * 1 ≤ 536870912) (h1 : nc + 1 ≤ R0.cells) (h2 : ns + N ≤ R0.slots) (nc' ns' : Nat) (e1 : nc + 1 = nc') (e2 : ns + N = ns') (hdg : decode cc pc = .ok (.newarray .boolean, 2)) (kk : ∀ q : Nat, KJ X D A nL Q nc' ns' (ws ++ [(q, .inl (cZ, N, .inl (fun _ => 0)))]) (pc + 2) lv (.ref q :: st)) : KJ X D A nL Q nc ns ws pc lv (.int n :: st) := by
  subst e1; subst e2
  intro ls H locs hl hP hD hS
  refine va_newa (atype := .boolean) (H0 := X.2.2.2.2.1.heap) (a0 := (N, .inl (fun _ => 0))) O.1 O.2.1 (O.2.2.2.2.1 _ hw) rfl O.2.2.2.2.2.1 hP hD hS O.2.2.2.2.2.2.1 (fun cA => vp_cell_i cA N _) hn hN hb (by rw [O.2.2.2.2.2.2.2]; exact h1) (by rw [O.2.2.2.2.2.2.2]; exact h2) hdg (fun q cA H1 hK1 hP1 hD1 hS1 => ?_)
  have e1 := (hK1.2 1 (cZ, .boolean) rfl).2
  have e2 := (hK1.2 2 (cA, .boolean) rfl).2
  have e3 : cA = cZ := Option.some.inj (e2.symm.trans e1)
  subst e3
  exact kk q ls H1 locs hl hP1 hD1 hS1
end KROWS
/-- a constructor's contract: its cells, what else must hold, and the cells behind it, at addresses that it chose -/
def kpre (D : va_G) (cI cZ : ClassId) (Ex : State → Prop) (sz : Nat) (av : List Value) (wc : va_W) : Array Value → State → Prop := va_Pc av (fun U => U.heap.size = sz ∧ va_P D vwCl wc U.heap ∧ va_K D vwCl (kw cI cZ) U ∧ va_D (fun _ => True) wc ∧ Ex U)
def kpost (D : va_G) (sz : Nat) (wc : va_W) (post : (Nat → Nat) → va_W) : Array Value → State → Outcome → State → Prop := va_Qv (fun _ : Nat → Nat => True) (fun u t => va_P D vwCl (post u) t.heap ∧ va_D (va_A wc sz) (post u)) (va_A wc sz)
def KC (l : Launch) (D : va_G) (cI cZ : ClassId) (Ex : State → Prop) (y : MethodName) (ws : List Cond) (rm : Room) (av : List Value) (wc : va_W) (post : (Nat → Nat) → va_W) : Prop := ∀ sz, Met l y ws rm (kpre D cI cZ Ex sz av wc) (kpost D sz wc post) rm.cells rm.slots (va_A wc sz)
def ExOk (Ex : State → Prop) : Prop := ∀ (U : State) (g : JFrame) (mk : MethodId) (a : Array Value), Ex U → Ex (U.calling g mk a)
theorem k_entry {l : Launch} {D : va_G} {cI cZ : ClassId} {Ex : State → Prop} {y : MethodName} {ws : List Cond} {rm : Room} {av : List Value} {wc : va_W} {post : (Nat → Nat) → va_W} {cc : ByteArray} {maxL : Nat} (ws' : List Cond) (hy : plainName y.cls = true) (hi : y.name = "<init>") (hw : ws = Cond.code y cc maxL none :: ws') (lv0 : List (Nat × Value)) (hlv : lv_args 0 av = lv0) (hav : (lg_sl av).length ≤ maxL) (K : ∀ (X : Cx) (A : Nat → Prop), KO X D A cI cZ cc y.cls maxL ws rm → X.2.2.2.2.2.2.2.2.1.name = "<init>" → Ex X.2.2.2.2.1 → A = va_A wc X.2.2.2.2.1.heap.size → (∀ (pc nc ns : Nat) (lv : List (Nat × Value)) (w2 : va_W) (u : Nat → Nat), decode cc pc = .ok (.return_, 1) → post u = w2 → nc ≤ rm.cells → ns ≤ rm.slots → KJ X D A maxL (MQ X.2.2.2.2.2.2.2.1 (kpost D X.2.2.2.2.1.heap.size wc post) X.2.2.2.2.2.2.1 X.2.2.2.2.1 rm.cells rm.slots (va_A wc X.2.2.2.2.1.heap.size)) nc ns w2 pc lv []) → KJ X D A maxL (MQ X.2.2.2.2.2.2.2.1 (kpost D X.2.2.2.2.1.heap.size wc post) X.2.2.2.2.2.2.1 X.2.2.2.2.1 rm.cells rm.slots (va_A wc X.2.2.2.2.1.heap.size)) 0 0 wc 0 lv0 []) : KC l D cI cZ Ex y ws rm av wc post := by
  intro sz
  refine Met.ofW hy hw ?_
  intro p e s m args below meth c s₁ B hml hv
  obtain ⟨rfl, hsz, hP, hK, hD0, hE⟩ := hv
  subst hsz
  rw [lg_entry_eq]
  have hD := hD0.self (sz := s.heap.size)
  have hr := B.returns
  have hlocks := B.notSynchronized
  refine K (p, l, e, (headSpec ws rm).room, s, m, av.toArray, below, meth, c, 0, 0) (va_A wc s.heap.size) ⟨B.exec, B.bytes, hml, findClass_of_methodNamed B.named, atoms_spec (ws := ws) B.pre, hK, fun q h => Or.inr h, rfl⟩ ((name_of_methodNamed B.named B.method).1.trans hi) hE rfl ?_ _ _ _ (hlv ▸ lv_entry av hav) hP hD va_S.rf
  intro pc nc ns lv w2 u hdg hu h1 h2 ls H locs hl hP2 hD2 hS2
  subst hu
  refine W.widen h1 h2 ?_
  exact W.vret B.exec B.bytes hr (fun t ht hW => ⟨⟨u, rfl, trivial, by show va_P D vwCl (post u) t.heap; rw [ht]; exact hP2, hD2⟩, hS2.F ht⟩) hS2.2.2 hdg hlocks
theorem fm_of_map {α β : Type} (f : α → Option β) : ∀ (l : List α) (w : List β), l.map f = w.map some → l.filterMap f = w := by
  intro l
  induction l with
  | nil => intro w h; cases w with
    | nil => rfl
    | cons b w => simp at h
  | cons a l ih => intro w h; cases w with
    | nil => simp at h
    | cons b w =>
      simp only [List.map_cons, List.cons.injEq] at h
      simp only [List.filterMap_cons, h.1, ih w h.2]
section KCALL
variable {X : Cx} {D : va_G} {A : Nat → Prop} {cI cZ : ClassId} {nL : Nat} {Q : State → Prop} {nc ns : Nat} {ws : va_W} {pc : Nat} {lv : List (Nat × Value)} {cc : ByteArray} {own : String} {Ts : List Cond} {R0 : Room}
def CkO (R0 : Room) (y : MethodName) (wy : List Cond) (bytes : ByteArray) (maxL : Nat) (rm : Room) (n : Nat) : Prop := (∃ ws', wy = Cond.code y bytes maxL none :: ws') ∧ y.name = "<init>" ∧ (y.cls ≠ "java/lang/invoke/MethodHandle" ∧ y.cls ≠ "java/lang/invoke/VarHandle" ∧ (parseMethodDescriptor y.desc).map (fun d => d.parameters.length) = some n) ∧ rm.frames + 1 ≤ R0.frames ∧ 8 + (maxL + 11) + rm.locals ≤ R0.locals
theorem k_after (O : KO X D A cI cZ cc own nL Ts R0) {y : MethodName} {wy : List Cond} {rm : Room} {av : List Value} {wc wr : va_W} {post : (Nat → Nat) → va_W} {st0 rest : List Value} {aa : Array Value} (isC isR : List Nat) (hC : isC.map (fun i => ws[i]?) = wc.map some) (hR : isR.map (fun i => ws[i]?) = wr.map some) (hnR : va_nd isR = true) (hdis : ∀ i ∈ isR, i ∉ isC) (nc' ns' : Nat) (e1 : nc + rm.cells = nc') (e2 : ns + rm.slots = ns') {ls : Array Slot} {H : Heap} {locs : List Loc} (hl : lv_has ls nL lv) (hP : va_P D vwCl ws H) (hD : va_D A ws) (hS : va_S A X.2.2.2.2.1.heap H locs) (hr : va_Run X.1 X.2.1 X.2.2.1 X.2.2.2.1 X.2.2.2.2.1 X.2.2.2.2.2.1 X.2.2.2.2.2.2.1 X.2.2.2.2.2.2.2.1 X.2.2.2.2.2.2.2.2.1 X.2.2.2.2.2.2.2.2.2.1 H locs nc ns rm.cells rm.slots (F0 X.2.2.2.2.2.1 pc ls st0) rest (kpost D H.size wc post aa) (va_A wc H.size)) (kk : ∀ u, KJ X D A nL Q nc' ns' (wr ++ post u) (pc + 3) lv rest) : W X.1 X.2.1 X.2.2.1 X.2.2.2.1 X.2.2.2.2.1 X.2.2.2.2.2.1 X.2.2.2.2.2.2.1 X.2.2.2.2.2.2.2.1 X.2.2.2.2.2.2.2.2.1 X.2.2.2.2.2.2.2.2.2.1 H locs nc ns Q (F0 X.2.2.2.2.2.1 pc ls st0) := by
  subst e1; subst e2
  have hFc := va_free (wc := wc) hD hS O.2.2.2.2.2.2.1 isC hC
  refine va_callv hr hS (fun q _ h => hFc q h) hFc (fun u t H1 locs1 ht _ _ hB _ hk1 hS1 => ?_)
  obtain ⟨hP1, hD1⟩ := hB
  rw [ht] at hP1
  obtain ⟨hP2, hD2⟩ := va_join hP hD isC isR hC hR hnR hdis hk1 hFc hP1 hD1
  exact kk u ls H1 locs1 hl hP2 hD2 hS1
theorem kpre_ok (O : KO X D A cI cZ cc own nL Ts R0) {Ex : State → Prop} (hX : ExOk Ex) {av : List Value} {wc : va_W} {H : Heap} (hE : ∀ U : State, U.heap = H → X.2.2.2.2.1.WarmedH U.vm → Ex U) (hPc : va_P D vwCl wc H) (hDc : va_D A wc) : PreS X.2.2.2.2.1 H (kpre D cI cZ Ex H.size av wc) av := by
  refine ⟨fun a U g mk q => ?_, fun U hU hW => ⟨rfl, by rw [hU], by rw [hU]; exact hPc, va_K.moved hW.alike O.2.2.2.2.2.1, hDc.weaken (fun _ _ _ _ => trivial), hE U hU hW⟩⟩
  obtain ⟨q0, q1, q2, q3, q4, q5⟩ := q
  exact ⟨q0, q1, q2, va_K.moved (u := U) (U := U.calling g mk a) (Vm.Alike.refl U.vm) q3, q4, hX U g mk a q5⟩
theorem k_callI (O : KO X D A cI cZ cc own nL Ts R0) {y : MethodName} {wy : List Cond} {bytes : ByteArray} {maxL n index a : Nat} {rm : Room} {wc wr : va_W} {post : (Nat → Nat) → va_W} {st0 : List Value} (As rest : List Value) (isC isR : List Nat) (hM : KC X.2.1 D cI cZ (fun _ => True) y wy rm (.ref a :: As) wc post) (hC : isC.map (fun i => ws[i]?) = wc.map some) (hnC : va_nd isC = true) (hR : isR.map (fun i => ws[i]?) = wr.map some) (hnR : va_nd isR = true) (hdis : ∀ i ∈ isR, i ∉ isC) (hg : GoodIn Ts wy) (hw : CkO R0 y wy bytes maxL rm n) (hl3 : Cond.initialized y.cls ∈ Ts ∧ Cond.methodLink own index y ∈ Ts ∧ Cond.instanceMethod y ∈ Ts) (hn : As.length = n) (hst : st0 = As.reverse ++ .ref a :: rest) (hrest : (rest.map fun v => v.category).sum ≤ 8) (nc' ns' : Nat) (e1 : nc + rm.cells = nc') (e2 : ns + rm.slots = ns') (hcell : nc' ≤ R0.cells ∧ ns' ≤ R0.slots) (hdg : decode cc pc = .ok (.invokespecial index, 3)) (kk : ∀ u, KJ X D A nL Q nc' ns' (wr ++ post u) (pc + 3) lv rest) : KJ X D A nL Q nc ns ws pc lv st0 := by
  intro ls H locs hl hP hD hS
  obtain ⟨⟨ws', hw1⟩, hw2, hw3, hw4⟩ := hw
  exact k_after (y := y) (wy := wy) (rm := rm) (av := .ref a :: As) O isC isR hC hR hnR hdis nc' ns' e1 e2 hl hP hD hS (va_runI ⟨O.1, O.2.1, O.2.2.1, O.2.2.2.1, O.2.2.2.2.1⟩ (hM H.size) (cwI n O.2.2.2.2.1 hg hw1 rfl rfl (O.2.2.2.2.1 _ hl3.1) (O.2.2.2.2.1 _ hl3.2.1) (O.2.2.2.2.1 _ hl3.2.2) hw2 hw3 (by rw [O.2.2.2.2.2.2.2]; exact hw4)) (kpre_ok O (fun _ _ _ _ q => q) (fun _ _ _ => trivial) (hP.sub isC (fm_of_map _ _ _ hC)) (hD.sub isC hnC hC)) rfl hn hl.1 hst (lv_room hrest) hdg (by rw [O.2.2.2.2.2.2.2, e1, e2]; exact hcell)) kk
theorem k_callIN (O : KO X D A cI cZ cc own nL Ts R0) {y : MethodName} {wy : List Cond} {bytes : ByteArray} {maxL n index a : Nat} {host : String} {rm : Room} {wc wr : va_W} {post : (Nat → Nat) → va_W} {st0 : List Value} (As rest : List Value) (isC isR : List Nat) (hM : KC X.2.1 D cI cZ (fun _ => True) y wy rm (.ref a :: As) wc post) (hC : isC.map (fun i => ws[i]?) = wc.map some) (hnC : va_nd isC = true) (hR : isR.map (fun i => ws[i]?) = wr.map some) (hnR : va_nd isR = true) (hdis : ∀ i ∈ isR, i ∉ isC) (hg : GoodIn Ts wy) (hw : CkO R0 y wy bytes maxL rm n) (hl3 : Cond.initialized y.cls ∈ Ts ∧ Cond.instanceMethod y ∈ Ts) (hNw : va_Nw (.methodLinkNest own index y host) X.2.2.2.2.1) (hn : As.length = n) (hst : st0 = As.reverse ++ .ref a :: rest) (hrest : (rest.map fun v => v.category).sum ≤ 8) (nc' ns' : Nat) (e1 : nc + rm.cells = nc') (e2 : ns + rm.slots = ns') (hcell : nc' ≤ R0.cells ∧ ns' ≤ R0.slots) (hdg : decode cc pc = .ok (.invokespecial index, 3)) (kk : ∀ u, KJ X D A nL Q nc' ns' (wr ++ post u) (pc + 3) lv rest) : KJ X D A nL Q nc ns ws pc lv st0 := by
  intro ls H locs hl hP hD hS
  obtain ⟨⟨ws', hw1⟩, hw2, hw3, hw4⟩ := hw
  exact k_after (y := y) (wy := wy) (rm := rm) (av := .ref a :: As) O isC isR hC hR hnR hdis nc' ns' e1 e2 hl hP hD hS (va_runIN ⟨O.1, O.2.1, O.2.2.1, O.2.2.2.1, O.2.2.2.2.1⟩ (hM H.size) ⟨va_cnB n O.2.2.2.2.1 hg hw1 rfl rfl hNw (O.2.2.2.2.1 _ hl3.1) hw3 (by rw [O.2.2.2.2.2.2.2]; exact hw4), hw2, O.2.2.2.2.1 _ hl3.2⟩ (kpre_ok O (fun _ _ _ _ q => q) (fun _ _ _ => trivial) (hP.sub isC (fm_of_map _ _ _ hC)) (hD.sub isC hnC hC)) rfl hn hl.1 hst (lv_room hrest) hdg (by rw [O.2.2.2.2.2.2.2, e1, e2]; exact hcell)) kk
end KCALL
