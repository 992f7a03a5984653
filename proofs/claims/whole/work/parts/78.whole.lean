set_option maxRecDepth 100000 in
set_option maxHeartbeats 4000000 in
theorem whole_start {p : Program} {e : Env} {s : State} {m : MethodId} {below : List Frame} {meth : Method} {c : Code} (l : Launch) {b L : Nat} {xs : Nat → Int32} (hL : L ≤ 2048) (C0 : lw_At p s m meth c b L xs) : W p l e room_1 s m #[Value.ref b] below meth c s.heap [] 0 0 (lw_Z below #[Value.ref b] s) (entryFrame m ([Value.ref b] : List Value).toArray 4) := by
  obtain ⟨hx, hb, hr, hml, hown, hts, hX, hbl, hlocks, hgv⟩ := C0
  obtain ⟨A, hAd⟩ : ∃ A : Nat → Prop, A = fun q => s.heap.size ≤ q := ⟨_, rfl⟩
  have hA1 : ∀ q, s.heap.size ≤ q → A q := fun q h => by rw [hAd]; exact h
  have hA2 : ∀ q, A q → s.heap.size ≤ q := fun q h => by rw [hAd] at h; exact h
  have hA0 : ∀ a : Nat, a < s.heap.size → ¬ A a := fun a h z => Nat.not_le.mpr h (hA2 a z)
  obtain ⟨D, cI, cZ, hK⟩ := st_K hts
  obtain ⟨sa, hSA⟩ := st_SA hts hgv hA0
  obtain ⟨K, V9, hSt, hStR⟩ := st_Str hts hgv hA0
  have hNst := st_Nst hts
  have hn1 : va_Nw (.methodLinkNest RX7 18 yX6_init "WhiteKnights") s := va_Nw.of rfl (hts _ st_nA)
  have hn2 : va_Nw (.methodLinkNest RX7 34 yX0_init "WhiteKnights") s := va_Nw.of rfl (hts _ st_nB)
  obtain ⟨h9, e9⟩ := law_pure L hL xs hpS hpS_Inv hpS_CH
  have hwl : ∀ w ∈ wsL_law, w.before #[Value.ref b] s = true := fun w hw => hts w (wsL_law_in w hw)
  have O : KO (p, l, e, room_1, s, m, #[Value.ref b], below, meth, c, 0, 0) D A cI cZ cL_law RL 4 wsL_law room_1 := ⟨hx, hb, hml, hown, hwl, hK, hA1, rfl⟩
  have go : KJ (p, l, e, room_1, s, m, #[Value.ref b], below, meth, c, 0, 0) D A 4 (lw_Z below #[Value.ref b] s) 0 0 [] 0 [(0, .ref b)] [] := by
    refine k_new (ci := 7) O inlX7 tyX7_ok wL_w1 rfl [.null, .null, .null, .null, .null, .null, .null, .null, .null, .null, .null, .null, .int 0, .int 0, .int 0] (by decide) (by decide) (by decide) 1 15 rfl rfl dL_law_0 (fun a7 => ?_)
    refine k_dup O dL_law_3 rfl ?_
    refine k_callE (wr := []) O Ex7_ok [] [.ref a7] [0] [] (i7S (a := a7) sa K V9 A) rfl rfl rfl rfl (by decide) (fun H locs hS hF U hU hW => st_Ex7 hn1 hn2 hSA hNst hSt hStR hS hF hU hW) gL_law_X7_init ck_L_X7 wL_c7 rfl rfl (Nat.le_of_ble_eq_true rfl) 25 75881 rfl rfl (by decide) dL_law_4 (fun u7 => ?_)
    rw [List.nil_append]
    refine k_astore_n O dL_law_7 rfl (by decide) [(1, .ref a7), (0, .ref b)] rfl ?_
    refine k_new (ci := 8) O inlX8 tyX8_ok wL_w2 rfl [.int 0, .int 0, .int 0, .int 0, .int 0, .null, .int 0, .null, .int 0, .int 0, .long 0, .int 0, .int 0, .int 0, .int 0, .int 0, .int 0, .int 0, .null, .null, .null, .null, .int 0, .null, .null, .int 0, .null, .null, .null, .null, .null, .int 0, .null, .null] (by decide) (by decide) (by decide) 26 75915 rfl rfl dL_law_8 (fun a8 => ?_)
    refine k_dup O dL_law_11 rfl ?_
    refine k_callI (wr := wld ((fun i => if i = 0 then a7 else u7 i), D, cI, cZ, sa, K, V9, A, 25) hpS) O [] [.ref a8] [25] (List.range 25) (i_X8 (a := a8)) (w25_c rfl _) (by decide) (w25_r rfl _) (by decide) (by decide) gL_law_X8_init ck_L_X8 wL_c8 rfl rfl (Nat.le_of_ble_eq_true rfl) 41 242131 rfl rfl (by decide) dL_law_12 (fun u8 => ?_)
    refine k_astore_n O dL_law_15 rfl (by decide) [(2, .ref a8), (1, .ref a7), (0, .ref b)] rfl ?_
    intro ls H locs hl hP hD hS
    have hP := (congrArg (fun w => va_P D vwCl w H) (wld_join D cI cZ sa K V9 A a7 a8 u7 u8)).mp hP
    have hD := (congrArg (fun w => va_D A w) (wld_join D cI cZ sa K V9 A a7 a8 u7 u8)).mp hD
    exact f_law_ok (X := (p, l, e, room_1, s, m, #[Value.ref b], below, meth, c, 41, 242131)) (G := (adL a7 a8 u7 u8, D, cI, cZ, sa, K, V9, A, 41)) (z := (1, h9)) rfl ⟨hX, hbl, fun z => Nat.not_le.mpr hbl (hA2 b z), hA2, rfl⟩ (Nat.le_refl 41) ⟨hx, hb, hml, hown, hwl, ⟨hK, fun h => wld_D hD h, hSA, hNst, hSt, hStR, (show (25 : Nat) ≤ 41 by decide)⟩, hlocks, hr, rfl, (show (41 : Nat) ≤ 600000 by decide), (show (242131 : Nat) ≤ 7302250 by decide)⟩ 60000 hpS e9 ls H locs (lv_sub hl [2, 1, 0] rfl) hP hS
  rw [lg_entry_eq]
  have hl := lv_entry ([.ref b]) (n := 4) (Nat.le_of_ble_eq_true rfl)
  exact go _ _ _ hl (fun k q h => by simp at h) ⟨fun i j p q h => by simp at h, fun k q h => by simp at h⟩ va_S.rf
set_option maxHeartbeats 4000000 in
theorem lw_walk (l : Launch) (b : Addr) (xs : List Int32) : MetFree l x (headSpec (Jvm.Cond.code x code maxLocals ret :: tables_1) room_1) (lw_P b xs) (fun _ _ _ _ _ => True) lw_Q := by
  refine MetFree.of_bodyS (code := code) (maxLocals := maxLocals) (ret := ret) (by decide) ?_ ?_
  · intro args s m h hn
    obtain ⟨meth, c, h1, h2, h3, h4, h5, h6, -, -⟩ := Cond.code_spec hn (atoms_spec (ws := Jvm.Cond.code x code maxLocals ret :: tables_1) h _ List.mem_cons_self)
    exact ⟨meth, c, h1, h2, h3, h4, h5, h6⟩
  · intro p e s m args below meth c s₁ B hml0 hP _
    obtain ⟨rfl, hx, hbd, hgv⟩ := hP
    obtain ⟨scr, harrAt, hlist, hof, hsmall⟩ := hx
    obtain ⟨hcb, hkn, -, -⟩ := State.arrayAt?_spec harrAt
    have hown : s.vm.findClass R_law = some m.cls := findClass_of_methodNamed B.named
    have hts0 : ∀ c ∈ (Jvm.Cond.code x code maxLocals ret :: tables_1), c.before #[Value.ref b] s = true := atoms_spec (ws := Jvm.Cond.code x code maxLocals ret :: tables_1) B.pre
    have hts : ∀ w ∈ lw_tbl, w.before #[Value.ref b] s = true := k2_hts_sels lw_privs (fun w hw => hts0 w (List.mem_cons_of_mem _ hw)) lw_privs_ok
    have hml : c.maxLocals = 4 := B.maxLocals_eq (hts0 _ List.mem_cons_self)
    have X₀ : Stand p l e room_1 s m #[Value.ref b] below meth c s₁ [] 0 0 := Stand.of_body B
    have hh0 : s₁.heap = s.heap := by rw [B.state]; rfl
    have hsz : scr.slots.size = xs.length := by rw [← Array.length_toList, hlist, List.length_map]
    have hval : ∀ j : Nat, j < xs.length → scr.slots[j]? = some (.int (xs.getD j 0)) := fun j hj => by
      rw [← Array.getElem?_toList, hlist]
      simp [hj]
    have hbl : b < s.heap.size := (Array.getElem?_eq_some_iff.mp hcb).1
    have hX : va_X b xs.length (fun j => xs.getD j 0) s s.heap := ⟨scr, hcb, hof, hkn, hsz, hval⟩
    have K : W p l e room_1 s m #[Value.ref b] below meth c s₁.heap [] 0 0 (lw_Z below #[Value.ref b] s) (entryFrame m ([Value.ref b] : List Value).toArray 4) := by
      rw [hh0]
      exact whole_start l hbd ⟨B.exec, B.bytes, B.returns, hml, hown, hts, hX, hbl, B.notSynchronized, hgv⟩
    obtain ⟨t, a1, o, b1, b2, b3⟩ := K s₁ rfl X₀
    exact ⟨t, o, a1, b1, b2, b3⟩
theorem lw_pre_spec {args : Array Value} {s : State} (h : (Jvm.Cond.and given_1 narrow_1).before args s = true) (hr : rest_1_c.before args s = true) : ∃ (b : Addr) (xs : List Int32), lw_P b xs args s := by
  have hs := flat_of_before _ h
  have hq := flat_of_before _ hr
  have hc : (Cond.count 1).before args s = true := hs _ (by decide +kernel)
  have harr : (Cond.arrayOf (.arg 0) .int).before args s = true := hs _ (by decide +kernel)
  have hle : (Cond.le (.length (.arg 0)) (.int 2048)).before args s = true := hs _ (by decide +kernel)
  have hlen : (Cond.isInt (.length (.arg 0))).before args s = true := hq _ (by decide +kernel)
  have hall : (Cond.all (.arg 0) (.isInt (.elem (.arg 0) (.index 0)))).before args s = true := hq _ (by decide +kernel)
  obtain ⟨b, xs, hb, hx⟩ := State.ints_of_pre rfl harr hlen hall
  have hsm : xs.length < 2 ^ 31 := hx.choose_spec.2.2.2
  have hev : (Term.length (.arg 0)).eval args s none [] s = some (.int xs.length.toInt32) := hx.length_eval hb
  have hv := Cond.le_ints hev (show (Term.int 2048).eval args s none [] s = some (.int 2048) from rfl)
  have hd : xs.length.toInt32 ≤ 2048 := by
    simpa [Cond.before, Cond.holds, hv] using hle
  have hN : xs.length ≤ 2048 := (Int32.ofNat_le_ofNat hsm (by decide)).mp (show Int32.ofNat xs.length ≤ Int32.ofNat 2048 from hd)
  exact ⟨b, xs, Cond.one_arg hc (show args[0]? = some (.ref b) from hb), hx, hN, h⟩
theorem lw_comes (l : Launch) : Comes l x (Jvm.Cond.code x code maxLocals ret :: tables_1) room_1 (fun tb e args s => Calls_1 tb e args s ∧ rest_1 tb e args s ∧ Pre_1 tb e args s)
    (fun _ _ args s o t => lw_Q args s o t) := by
  intro p e ha hc hk s m args below hf hfit hheap happ hpre
  obtain ⟨b, xs, hP⟩ := lw_pre_spec hpre.2.2 hpre.2.1
  obtain ⟨k, o, h1, h2, h3, hQ⟩ := lw_walk l b xs p e ha hc hk s m args below hf ((Spec.applies_iff_loose hf).mp happ).1 hP trivial
  exact ⟨k, o, h1, h2, h3, hQ⟩
theorem lw_frame {s t : State} {o : Outcome} {args : Array Value} (h : Framed s o t [] 600000 7302250) :
    Framed s o t (fieldLocs frame_1_writes args s ++ arrayLocs frame_1_arrays args s ++ staticLocs frame_1_statics s) 600000 7302250 := h
theorem lw_limb (L : Cond) (hL : ∀ (args : Array Value) (s t : State), L.after args s (.returned (some (.int 1))) t = true) :
    ArmFor flags0 classFile x code maxLocals ret World_1 tables_1 room_1 Calls_1 rest_1 Pre_1
      (fun tb e a s o t => postC L tb e a s o t ∧ Framed s o t (fieldLocs frame_1_writes a s ++ arrayLocs frame_1_arrays a s ++ staticLocs frame_1_statics s) 600000 7302250) := by
  intro l _ _ _ p e ha hc hk s m args below hf hfit hheap happ hpre
  obtain ⟨k, o, h1, h2, h3, rfl, hF⟩ := lw_comes l p e ha hc hk s m args below hf hfit hheap happ hpre
  exact ⟨k, _, h1, h2, h3, hL args s _, lw_frame hF⟩
theorem i_vc : Claimed_1_1 ∧ Claimed_1_2 := ⟨lw_limb limb_1_1 (fun args s t => by simp [limb_1_1, Cond.after, Cond.holds, Cond.value]), lw_limb limb_1_2 (fun args s t => Cond.after_iff.mpr (by
  first | (rw [show limb_1_2 = Cond.eq .result (.int 1) from rfl, Cond.eq_ints (x := 1) (y := 1) rfl rfl]; simp; done) | (simp [limb_1_2, Cond.value, Term.eval]; done)))⟩
