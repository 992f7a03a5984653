/-! ===== the law from its entry ===== -/
def hpS : Hp := wrow hp0 11 (stt 3 3 (hp0.1 11))
theorem hpS_lay : f_X0_lay 200 3 3 hp0 = some (0, hpS) := pu_lay 200 (by omega) 3 3 (by omega) (by omega) (by omega) (by omega) hp0
theorem rng_app {α : Type} (l r : List α) : (List.range l.length).map (fun i => (l ++ r)[i]?) = l.map some := by
  apply List.ext_getElem?
  intro i
  by_cases hi : i < l.length
  · rw [List.getElem?_map, List.getElem?_map, List.getElem?_range hi, Option.map_some, List.getElem?_append_left hi, List.getElem?_eq_getElem hi]
    rfl
  · rw [List.getElem?_eq_none (by simp; omega), List.getElem?_eq_none (by simp; omega)]
theorem wld_len (G : Gx) (h : Hp) : (wld G h).length = gN G := by simp [wld]
section LE
variable {X : Cx} {D : va_G} {A : Nat → Prop} {cI cZ : ClassId} {nL : Nat} {Q : State → Prop} {nc ns : Nat} {ws : va_W} {pc : Nat} {lv : List (Nat × Value)} {st : List Value} {cc : ByteArray} {own : String} {Ts : List Cond} {R0 : Room}
theorem k_astore_n (O : KO X D A cI cZ cc own nL Ts R0) {kk : Fin 4} {i x : Nat} (hdg : decode cc pc = .ok (.astore_n kk, 1)) (hi : (kk : Nat) = i) (hn : i < nL) (lv' : List (Nat × Value)) (hlv : (i, Value.ref x) :: lv.filter (fun q => !(q.1 == i) && !(q.1 + 1 == i && q.2.category == 2)) = lv') (k : KJ X D A nL Q nc ns ws (pc + 1) lv' st) : KJ X D A nL Q nc ns ws pc lv (.ref x :: st) := fun _ H locs hl hP hD hS => lv_astore_n O.1 O.2.1 hdg hi hl hn hlv (fun ls hl => k ls H locs hl hP hD hS)
theorem k_callE (O : KO X D A cI cZ cc own nL Ts R0) {Ex : State → Prop} (hX : ExOk Ex) {y : MethodName} {wy : List Cond} {bytes : ByteArray} {maxL n index a : Nat} {rm : Room} {wc wr : va_W} {post : (Nat → Nat) → va_W} {st0 : List Value} (As rest : List Value) (isC isR : List Nat) (hM : KC X.2.1 D cI cZ Ex y wy rm (.ref a :: As) wc post) (hC : isC.map (fun i => ws[i]?) = wc.map some) (hnC : va_nd isC = true) (hR : isR.map (fun i => ws[i]?) = wr.map some) (hnR : va_nd isR = true) (hdis : ∀ i ∈ isR, i ∉ isC) (hE : ∀ (H : Heap) (locs : List Loc), va_S A X.2.2.2.2.1.heap H locs → (∀ q, va_A wc H.size q → A q) → ∀ U : State, U.heap = H → X.2.2.2.2.1.WarmedH U.vm → Ex U) (hg : GoodIn Ts wy) (hw : CkO R0 y wy bytes maxL rm n) (hl3 : Cond.initialized y.cls ∈ Ts ∧ Cond.methodLink own index y ∈ Ts ∧ Cond.instanceMethod y ∈ Ts) (hn : As.length = n) (hst : st0 = As.reverse ++ .ref a :: rest) (hrest : (rest.map fun v => v.category).sum ≤ 8) (nc' ns' : Nat) (e1 : nc + rm.cells = nc') (e2 : ns + rm.slots = ns') (hcell : nc' ≤ R0.cells ∧ ns' ≤ R0.slots) (hdg : decode cc pc = .ok (.invokespecial index, 3)) (kk : ∀ u, KJ X D A nL Q nc' ns' (wr ++ post u) (pc + 3) lv rest) : KJ X D A nL Q nc ns ws pc lv st0 := by
  intro ls H locs hl hP hD hS
  obtain ⟨⟨ws', hw1⟩, hw2, hw3, hw4⟩ := hw
  exact k_after (y := y) (wy := wy) (rm := rm) (av := .ref a :: As) O isC isR hC hR hnR hdis nc' ns' e1 e2 hl hP hD hS (va_runI ⟨O.1, O.2.1, O.2.2.1, O.2.2.2.1, O.2.2.2.2.1⟩ (hM H.size) (cwI n O.2.2.2.2.1 hg hw1 rfl rfl (O.2.2.2.2.1 _ hl3.1) (O.2.2.2.2.1 _ hl3.2.1) (O.2.2.2.2.1 _ hl3.2.2) hw2 hw3 (by rw [O.2.2.2.2.2.2.2]; exact hw4)) (kpre_ok O hX (hE H locs hS (va_free (wc := wc) hD hS O.2.2.2.2.2.2.1 isC hC)) (hP.sub isC (fm_of_map _ _ _ hC)) (hD.sub isC hnC hC)) rfl hn hl.1 hst (lv_room hrest) hdg (by rw [O.2.2.2.2.2.2.2, e1, e2]; exact hcell)) kk
end LE
/-- what the class's constructor wants, at its call -/
theorem st_Ex7 {D : va_G} {cI cZ : ClassId} {sa K W : Nat → Nat} {A : Nat → Prop} {s U : State} {H : Heap} {locs : List Loc} {wc : va_W} (z1 : va_Nw (.methodLinkNest RX7 18 yX6_init "WhiteKnights") s) (z2 : va_Nw (.methodLinkNest RX7 34 yX0_init "WhiteKnights") s) (z3 : SA (G0 D cI cZ sa K W A) s s.heap) (z4 : Nst s) (z5 : Str (G0 D cI cZ sa K W A) s s.heap) (z6 : StR (G0 D cI cZ sa K W A) s) (hS : va_S A s.heap H locs) (hF : ∀ q, va_A wc H.size q → A q) (hU : U.heap = H) (hW : s.WarmedH U.vm) : Ex7 D cI cZ sa K W A wc U := by
  have z3 := z3.kept (H1 := H) hS.2.1
  have z5 := z5.kept (H1 := H) hS.2.1
  rw [← hU] at z3 z5
  exact ⟨va_Nw.warmM hW z1, va_Nw.warmM hW z2, fun k hk => ⟨va_Z.moved hW.alike (z3 k hk).1, va_T.moved hW.alike (z3 k hk).2⟩, fun q hq => va_Nw.warmM hW (z4 q hq), ⟨vk_S.moved hW.alike z5.1, va_Z.moved hW.alike z5.2.1, va_Zq.moved hW.alike z5.2.2⟩, fun i hi => vk_R.warm hW (z6 i hi), fun q hq => hF q (by rw [hU] at hq; exact hq)⟩
/-- both worlds side by side are one -/
def adL (a7 a8 : Nat) (u7 u8 : Nat → Nat) : Nat → Nat := fun i => [a7, (u7 1), (u7 2), (u7 3), (u7 4), (u7 5), (u7 6), (u7 7), (u7 8), (u7 9), (u7 10), (u7 11), (u7 12), (u7 13), (u7 14), (u7 15), (u7 16), (u7 17), (u7 18), (u7 19), (u7 20), (u7 21), (u7 22), (u7 23), (u7 24), a8, (u8 0), (u8 1), (u8 2), (u8 3), (u8 4), (u8 5), (u8 6), (u8 7), (u8 8), (u8 9), (u8 10), (u8 11), (u8 12), (u8 13), (u8 14)].getD i 0
set_option maxRecDepth 100000 in
set_option maxHeartbeats 4000000 in
theorem wld_join (D : va_G) (cI cZ : ClassId) (sa K W : Nat → Nat) (A : Nat → Prop) (a7 a8 : Nat) (u7 u8 : Nat → Nat) : wld ((fun i => if i = 0 then a7 else u7 i), D, cI, cZ, sa, K, W, A, 25) hpS ++ ([(a8, .inr (8, [.int 3, .int 3, .int 0, .int 0, .int 0, .ref (u8 0), .int 0, .ref (u8 1), .int 0, .int 0, .long 0, .int 0, .int 0, .int 0, .int 0, .int 0, .int 0, .int 0, .ref (u8 2), .ref (u8 3), .ref (u8 4), .ref (u8 5), .int 0, .ref (u8 6), .ref (u8 7), .int 0, .ref (u8 8), .ref (u8 9), .ref (u8 10), .ref (u8 11), .ref (u8 12), .int 0, .ref (u8 13), .ref (u8 14)])), ((u8 0), .inl (cI, 16, .inl (fun _ => 0))), ((u8 1), .inl (cI, 200, .inl (fun _ => 0))), ((u8 2), .inl (cI, 4, .inl (fun _ => 0))), ((u8 3), .inl (cI, 4, .inl (fun _ => 0))), ((u8 4), .inl (cI, 48, .inl (fun _ => 0))), ((u8 5), .inl (cI, 4, .inl (fun _ => 0))), ((u8 6), .inl (cI, 10, .inl (fun _ => 0))), ((u8 7), .inl (cZ, 2, .inl (fun _ => 0))), ((u8 8), .inl (cI, 24, .inl (fun _ => 0))), ((u8 9), .inl (cI, 41472, .inl (fun _ => 0))), ((u8 10), .inl (cI, 41472, .inl (fun _ => 0))), ((u8 11), .inl (cI, 41472, .inl (fun _ => 0))), ((u8 12), .inl (cI, 41472, .inl (fun _ => 0))), ((u8 13), .inl (cI, 4, .inl (fun _ => 0))), ((u8 14), .inl (cI, 12, .inl (fun _ => 0)))] : va_W) = wld (adL a7 a8 u7 u8, D, cI, cZ, sa, K, W, A, 41) hpS := rfl
theorem wL_w1 : Cond.classLink RL 7 RX7 ∈ wsL_law ∧ Cond.instantiable RX7 15 ∈ wsL_law ∧ Cond.initialized RX7 ∈ wsL_law := ⟨by decide +kernel, by decide +kernel, by decide +kernel⟩
theorem wL_w2 : Cond.classLink RL 10 RX8 ∈ wsL_law ∧ Cond.instantiable RX8 34 ∈ wsL_law ∧ Cond.initialized RX8 ∈ wsL_law := ⟨by decide +kernel, by decide +kernel, by decide +kernel⟩
theorem wL_c7 : Cond.initialized yX7_init.cls ∈ wsL_law ∧ Cond.methodLink RL 9 yX7_init ∈ wsL_law ∧ Cond.instanceMethod yX7_init ∈ wsL_law := ⟨by decide +kernel, by decide +kernel, by decide +kernel⟩
theorem wL_c8 : Cond.initialized yX8_init.cls ∈ wsL_law ∧ Cond.methodLink RL 12 yX8_init ∈ wsL_law ∧ Cond.instanceMethod yX8_init ∈ wsL_law := ⟨by decide +kernel, by decide +kernel, by decide +kernel⟩
theorem ck_L_X7 : CkO room_1 yX7_init wsX7_init cX7_init 1 rm_X7_init 0 := ⟨⟨_, rfl⟩, rfl, by decide +kernel, by decide, by decide⟩
theorem ck_L_X8 : CkO room_1 yX8_init wsX8_init cX8_init 1 rm_X8_init 0 := ⟨⟨_, rfl⟩, rfl, by decide +kernel, by decide, by decide⟩
theorem i7S {l : Launch} {D : va_G} {cI cZ : ClassId} {a : Nat} (sa K W : Nat → Nat) (AL : Nat → Prop) : KC l D cI cZ (Ex7 D cI cZ sa K W AL [(a, .inr (7, [.null, .null, .null, .null, .null, .null, .null, .null, .null, .null, .null, .null, .int 0, .int 0, .int 0]))]) yX7_init wsX7_init rm_X7_init [.ref a] [(a, .inr (7, [.null, .null, .null, .null, .null, .null, .null, .null, .null, .null, .null, .null, .int 0, .int 0, .int 0]))] (fun u => wld ((fun i => if i = 0 then a else u i), D, cI, cZ, sa, K, W, AL, 25) hpS) := i_X7 sa K W AL hpS_lay
theorem w25_c {G : Gx} {h : Hp} (hG : gN G = 25) (x : Nat × va_E) : [25].map (fun i => (wld G h ++ [x])[i]?) = [x].map some := by
  have e := List.getElem?_append_right (l₁ := wld G h) (l₂ := [x]) (i := 25) (by rw [wld_len, hG]; exact Nat.le_refl 25)
  rw [wld_len, hG] at e
  show [(wld G h ++ [x])[25]?] = [some x]
  rw [e]
  rfl
theorem w25_r {G : Gx} {h : Hp} (hG : gN G = 25) (x : Nat × va_E) : (List.range 25).map (fun i => (wld G h ++ [x])[i]?) = (wld G h).map some := by
  have e := rng_app (wld G h) [x]
  rw [wld_len, hG] at e
  exact e
