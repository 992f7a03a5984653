/-! ===== the search: the class ===== -/
def RC (h : Hp) (Q : List Nd) : Prop := h.1 15 6 = nI Q.length ∧ ∀ j, j < Q.length → h.1 17 j = nI (cdN (Q.getD j d0).sq (Q.getD j d0).tn) ∧ h.1 19 j = nI (Q.getD j d0).dp ∧ h.1 18 j = if j = 0 then -1 else nI (Q.getD j d0).pa
def sn (h : Hp) (c : Nat) : Bool := bt (h.1 16 (c / 32)) (c % 32)
def SN (p : Pm) (h : Hp) (Q : List Nd) : Prop := (∀ x ∈ Q, sn h (cdN x.sq x.tn) = true) ∧ ∀ l t, okL p.n l → t < 2 → sn h (cdN l t) = true → hasK Q l t = true ∨ stnd p.T p.n p.kd p.co (gP l) p.ho p.lw = false
def CS (p : Pm) (h0 h : Hp) (Q : List Nd) : Prop := (∀ c, c < 15 ∨ 19 < c → h.1 c = h0.1 c) ∧ h.1 15 7 = p.ho ∧ RC h Q ∧ SN p h Q
theorem cd_lt {n t : Nat} {l : List Nat} (h : okL n l) (ht : t < 2) : cdN l t < 131072 := by
  have := c16_lt h
  unfold cdN
  omega
theorem pu_isNew (N : Nat) (h : Hp) {c : Nat} (hc : c < 131072) : f_X4_isNew N (nI c) h = if sn h c = true then some (0, h) else some (1, wr h 16 (c / 32) (h.1 16 (c / 32) ||| sg (nI (c % 32)))) := by
  unfold f_X4_isNew f_X4_isNew_b32
  rw [pk_shrN (by omega) ((5 : Int32) &&& 31) 5 (by decide), p_lt, show c / 2 ^ 5 = c / 32 by omega, pk_andN (m := 31) (by omega) 5 (by decide), show c % 2 ^ 5 = c % 32 by omega, if_neg (nI_pos (by omega)), if_neg (show ¬ (4096 : Int32) ≤ nI (c / 32) from nI_ge (a := c / 32) (b := 4096) (by omega) (by omega)), if_pos (p_ib (by omega) (by omega)), p_bit, p_cl, p_ix (by omega)]
  unfold sn
  by_cases hb : bt (h.1 16 (c / 32)) (c % 32) = true
  · rw [bi_e1 (by omega) hb, if_pos rfl, if_pos hb]; rfl
  · rw [bi_e0 (by omega) hb, if_neg n01, if_neg hb, if_pos (p_ib (by omega) (by omega)), if_pos (p_ib (by omega) (by omega)), p_lt, if_pos (by decide)]; rfl
theorem sn_mark (h : Hp) {c d : Nat} : sn (wr h 16 (c / 32) (h.1 16 (c / 32) ||| sg (nI (c % 32)))) d = (decide (d = c) || sn h d) := by
  unfold sn
  by_cases e : d / 32 = c / 32
  · rw [e, p_wrs, b_or, sg_bt (by omega) (by omega), Bool.or_comm]
    congr 1
    by_cases e2 : d = c
    · rw [e2]; simp
    · rw [decide_eq_false e2, decide_eq_false (by omega)]
  · rw [p_wrk _ _ _ _ e, decide_eq_false (fun z => e (by rw [z]))]
    rfl
theorem pu_add (N : Nat) (h : Hp) {k : Nat} (hk : k < 23760) (e : h.1 15 6 = nI k) (a b c : Int32) : f_X4_add N a b c h = some (0, wr (wr (wr (wr h 17 k a) 18 k b) 19 k c) 15 6 (nI (k + 1))) := by
  unfold f_X4_add
  rw [e, if_pos (show nI k < 23760 from nI_lt (b := 23760) hk (by omega)), if_pos (p_ib hk (by omega)), p_lt, p_ix (by omega), p_wro _ _ _ _ (show (15 : Nat) ≠ 17 by decide), e, if_pos (p_ib hk (by omega)), p_lt, p_ix (by omega), p_wro _ _ _ _ (show (15 : Nat) ≠ 18 by decide), p_wro _ _ _ _ (show (15 : Nat) ≠ 17 by decide), e, if_pos (p_ib hk (by omega)), p_lt, p_ix (by omega), p_lt, p_wro _ _ _ _ (show (15 : Nat) ≠ 19 by decide), p_wro _ _ _ _ (show (15 : Nat) ≠ 18 by decide), p_wro _ _ _ _ (show (15 : Nat) ≠ 17 by decide), e, nI_1]
theorem RC_add {h : Hp} {Q : List Nd} (hR : RC h Q) (x : Nd) {v : Int32} (hv : v = if Q.length = 0 then -1 else nI x.pa) : RC (wr (wr (wr (wr h 17 Q.length (nI (cdN x.sq x.tn))) 18 Q.length v) 19 Q.length (nI x.dp)) 15 6 (nI (Q.length + 1))) (Q ++ [x]) := by
  refine ⟨by rw [p_wrs]; simp, fun j hj => ?_⟩
  rw [List.length_append] at hj
  have hj' : j < Q.length + 1 := hj
  have e17 : (wr (wr (wr (wr h 17 Q.length (nI (cdN x.sq x.tn))) 18 Q.length v) 19 Q.length (nI x.dp)) 15 6 (nI (Q.length + 1))).1 17 j = if j = Q.length then nI (cdN x.sq x.tn) else h.1 17 j := by simp [p_wr]
  have e18 : (wr (wr (wr (wr h 17 Q.length (nI (cdN x.sq x.tn))) 18 Q.length v) 19 Q.length (nI x.dp)) 15 6 (nI (Q.length + 1))).1 18 j = if j = Q.length then v else h.1 18 j := by simp [p_wr]
  have e19 : (wr (wr (wr (wr h 17 Q.length (nI (cdN x.sq x.tn))) 18 Q.length v) 19 Q.length (nI x.dp)) 15 6 (nI (Q.length + 1))).1 19 j = if j = Q.length then nI x.dp else h.1 19 j := by simp [p_wr]
  rw [e17, e18, e19]
  by_cases c : j = Q.length
  · subst c
    rw [if_pos rfl, if_pos rfl, if_pos rfl, getD_last]
    exact ⟨rfl, rfl, hv⟩
  · rw [if_neg c, if_neg c, if_neg c, getD_app (by omega)]
    exact hR.2 j (by omega)
theorem hasK_app {Q : List Nd} {x : Nd} {l : List Nat} {t : Nat} : hasK (Q ++ [x]) l t = true ↔ hasK Q l t = true ∨ key x = (l, t) := by
  rw [hasK_iff, hasK_iff, List.map_append, List.mem_append]
  simp only [List.map_cons, List.map_nil, List.mem_singleton]
  constructor
  · rintro (q | q)
    · exact Or.inl q
    · exact Or.inr q.symm
  · rintro (q | q)
    · exact Or.inl q
    · exact Or.inr q.symm
/-- what the class is asked with -/
def CQ (p : Pm) (z m : Nat) (h0 : Hp) : Prop := (BC h0 p.n p.kd p.co) ∧ (Tok (h0.1 11)) ∧ (h0.1 11 = p.T) ∧ (h0.1 1 3 = p.lw) ∧ (z ≤ 12) ∧ (m ≤ 9999) ∧ (∀ (x : Nd), okN p z x → ∀ i s, i < p.n → s < 32 → bt (opn p.T p.n p.kd p.co (gP x.sq) p.ho p.lw i x.tn) s = true → s < z)
theorem CQ.bc {p : Pm} {z m : Nat} {h0 : Hp} (q_ : CQ p z m h0) : BC h0 p.n p.kd p.co := q_.1
theorem CQ.tok {p : Pm} {z m : Nat} {h0 : Hp} (q_ : CQ p z m h0) : Tok (h0.1 11) := q_.2.1
theorem CQ.eT {p : Pm} {z m : Nat} {h0 : Hp} (q_ : CQ p z m h0) : h0.1 11 = p.T := q_.2.2.1
theorem CQ.elw {p : Pm} {z m : Nat} {h0 : Hp} (q_ : CQ p z m h0) : h0.1 1 3 = p.lw := q_.2.2.2.1
theorem CQ.z12 {p : Pm} {z m : Nat} {h0 : Hp} (q_ : CQ p z m h0) : z ≤ 12 := q_.2.2.2.2.1
theorem CQ.m9 {p : Pm} {z m : Nat} {h0 : Hp} (q_ : CQ p z m h0) : m ≤ 9999 := q_.2.2.2.2.2.1
theorem CQ.hop {p : Pm} {z m : Nat} {h0 : Hp} (q_ : CQ p z m h0) : ∀ (x : Nd), okN p z x → ∀ i s, i < p.n → s < 32 → bt (opn p.T p.n p.kd p.co (gP x.sq) p.ho p.lw i x.tn) s = true → s < z := q_.2.2.2.2.2.2
theorem BC_fr {h h0 : Hp} {n : Nat} {kd co : Nat → Nat} (e1 : h.1 1 = h0.1 1) (e2 : h.1 2 = h0.1 2) (e3 : h.1 3 = h0.1 3) (hB : BC h0 n kd co) : BC h n kd co := by
  unfold BC at *
  rw [e1, e2, e3]; exact hB
theorem pu_cnd (N : Nat) (hN : 20 ≤ N) {p : Pm} {z m : Nat} {h0 : Hp} (C : CQ p z m h0) (k3 : Int32 → Int32 → Int32 → Int32 → Int32 → Hp → Option Rs) {Q : List Nd} (V : VQ p z (m % 2) Q) {h : Hp} (S : CS p h0 h Q) {j i s : Nat} (hj : j < Q.length) (hi : i < p.n) (hs : s < 12) : ∃ h', CS p h0 h' (cnd p (Q.getD j d0) j i s Q) ∧ f_X4_addHops_b3 N k3 (nI j) (nI i) (opn p.T p.n p.kd p.co (gP (Q.getD j d0).sq) p.ho p.lw i (Q.getD j d0).tn) (nI (m + (Q.getD j d0).dp + 1)) (nI s) h = k3 (nI j) (nI i) (opn p.T p.n p.kd p.co (gP (Q.getD j d0).sq) p.ho p.lw i (Q.getD j d0).tn) (nI (m + (Q.getD j d0).dp + 1)) (nI (s + 1)) h' := by
  have hlen := VQ_len V
  have V' := VQ_cnd C.z12 (fun x hx => C.hop x (V.ok x hx)) V hj hi hs
  have hx := getD_in hj
  have hdj := V.dj j hj
  obtain ⟨o1, o2, o3, o4, o5⟩ := V.ok _ hx
  have htr := V.tr _ hx
  obtain ⟨S1, S2, S3, S4⟩ := S
  have r17 := (S3.2 j hj).1
  have r19 := (S3.2 j hj).2.1
  have m9 := C.m9
  generalize ex : Q.getD j d0 = x at *
  unfold f_X4_addHops_b3 f_X4_addHops_b89
  rw [if_neg (show ¬ (12 : Int32) ≤ nI s from nI_ge (a := s) (b := 12) (by omega) (by omega)), p_bit, p_cl]
  by_cases c1 : bt (opn p.T p.n p.kd p.co (gP x.sq) p.ho p.lw i x.tn) s = true
  rotate_left
  · refine ⟨h, ?_, ?_⟩
    · unfold cnd
      rw [if_neg (fun q => by
        have := q.1
        unfold okH at this
        rw [Bool.and_eq_true] at this
        exact c1 this.1)]
      exact ⟨S1, S2, S3, S4⟩
    · rw [bi_e0 (by omega) c1, if_pos rfl, p_lt, nI_1]
  · rw [bi_e1 (by omega) c1, if_neg n10, if_pos (p_ib (show j < 23760 by omega) (by omega)), p_ix (by omega), r17, cd_and o1 o4, p_moved, p_cl, p_lt, mvd_c16 o1 hi hs]
    have okl := okL_set o1 hs (i := i)
    have ht' : tn' p x.tn < 2 := by unfold tn'; split <;> omega
    have hcode : f_X4_codeOf N (nI (c16 (x.sq.set i s))) (nI (m + x.dp + 1)) h = some (nI (cdN (x.sq.set i s) (tn' p x.tn)), h) := by
      unfold f_X4_codeOf f_X4_codeOf_b23
      rw [S1 1 (by omega), C.elw]
      by_cases cl1 : p.lw = 1
      · have e1 := htr cl1
        have e2 : tn' p x.tn = (m + x.dp + 1) % 2 := by unfold tn'; rw [if_pos cl1]; omega
        rw [if_pos cl1, turn_and (by omega), ← e2, cd_or okl ht']
      · have e2 : tn' p x.tn = 0 := by unfold tn'; rw [if_neg cl1]
        rw [if_neg cl1, e2]
        rfl
    have hcl := cd_lt okl ht'
    have gset : gP (x.sq.set i s) = mvP (gP x.sq) i s := gP_set o1.1 hi
    rw [hcode, p_cl, p_lt, pu_isNew N h hcl]
    by_cases c2 : sn h (cdN (x.sq.set i s) (tn' p x.tn)) = true
    · rw [if_pos c2, p_cl, if_pos rfl, p_lt, nI_1]
      refine ⟨h, ?_, rfl⟩
      unfold cnd
      rw [if_neg]
      · exact ⟨S1, S2, S3, S4⟩
      · rintro ⟨q1, q2⟩
        unfold okH at q1
        rw [Bool.and_eq_true] at q1
        rcases S4.2 _ _ okl ht' c2 with q | q
        · rw [q2] at q; cases q
        · rw [gset, q1.2] at q; cases q
    · have hnk : hasK Q (x.sq.set i s) (tn' p x.tn) = false := by
        cases hq : hasK Q (x.sq.set i s) (tn' p x.tn) with
        | false => rfl
        | true =>
          exfalso
          obtain ⟨y, hy, ey⟩ := List.mem_map.mp (hasK_iff.mp hq)
          have := S4.1 y hy
          unfold key at ey
          rw [Prod.mk.injEq] at ey
          rw [ey.1, ey.2] at this
          exact c2 this
      rw [if_neg c2, p_cl, if_neg n10]
      generalize eh1 : wr h 16 (cdN (x.sq.set i s) (tn' p x.tn) / 32) (h.1 16 (cdN (x.sq.set i s) (tn' p x.tn) / 32) ||| sg (nI (cdN (x.sq.set i s) (tn' p x.tn) % 32))) = h1
      have f1 : ∀ c, c ≠ 16 → h1.1 c = h.1 c := fun c hc => by rw [← eh1, p_wro _ _ _ _ hc]
      have snm : ∀ d, sn h1 d = (decide (d = cdN (x.sq.set i s) (tn' p x.tn)) || sn h d) := fun d => by rw [← eh1]; exact sn_mark h
      have hB1 : BC h1 p.n p.kd p.co := BC_fr (by rw [f1 1 (by decide)]; exact S1 1 (by omega)) (by rw [f1 2 (by decide)]; exact S1 2 (by omega)) (by rw [f1 3 (by decide)]; exact S1 3 (by omega)) C.bc
      have e11 : h1.1 11 = p.T := by rw [f1 11 (by decide), S1 11 (by omega)]; exact C.eT
      have elw : h1.1 1 3 = p.lw := by rw [f1 1 (by decide), S1 1 (by omega)]; exact C.elw
      rw [f1 15 (by decide), S2, pu_mayStand N hN h1 hB1 (PC_c16 okl) (by rw [e11, ← C.eT]; exact C.tok), p_cl, e11, elw, gset]
      by_cases c3 : stnd p.T p.n p.kd p.co (mvP (gP x.sq) i s) p.ho p.lw = true
      · rw [if_pos c3, if_neg n10, if_pos (p_ib (show j < 23760 by omega) (by omega)), f1 19 (by decide), r19, nI_1]
        have hok : okH p x i s = true := by unfold okH; rw [c1, c3]; rfl
        have ecnd : cnd p x j i s Q = Q ++ [nxt p x j i s] := by unfold cnd; rw [if_pos ⟨hok, hnk⟩]
        rw [ecnd] at V' ⊢
        have hl' := VQ_len V'
        rw [List.length_append] at hl'
        have hl2 : Q.length + 1 ≤ 23760 := hl'
        have e156 : h1.1 15 6 = nI Q.length := by rw [f1 15 (by decide)]; exact S3.1
        rw [pu_add N h1 (by omega) e156, p_cl, p_lt, nI_1]
        refine ⟨_, ?_, rfl⟩
        have RC1 : RC h1 Q := ⟨e156, fun k hk => by rw [f1 17 (by decide), f1 18 (by decide), f1 19 (by decide)]; exact S3.2 k hk⟩
        have hne := V.ne
        refine ⟨?_, ?_, RC_add RC1 (nxt p x j i s) (by rw [if_neg (by omega)]; rfl), ?_⟩
        · intro c hc
          rw [p_wro _ _ _ _ (by omega), p_wro _ _ _ _ (by omega), p_wro _ _ _ _ (by omega), p_wro _ _ _ _ (by omega), f1 c (by omega)]
          exact S1 c hc
        · rw [p_wrk _ _ _ _ (by decide), p_wro _ _ _ _ (by decide), p_wro _ _ _ _ (by decide), p_wro _ _ _ _ (by decide), f1 15 (by decide)]
          exact S2
        · have sn2 : ∀ d, sn (wr (wr (wr (wr h1 17 Q.length (nI (cdN (x.sq.set i s) (tn' p x.tn)))) 18 Q.length (nI j)) 19 Q.length (nI (x.dp + 1))) 15 6 (nI (Q.length + 1))) d = sn h1 d := fun d => by
            unfold sn
            rw [p_wro _ _ _ _ (by decide), p_wro _ _ _ _ (by decide), p_wro _ _ _ _ (by decide), p_wro _ _ _ _ (by decide)]
          refine ⟨fun y hy => ?_, fun l t hl ht hh => ?_⟩
          · refine (sn2 _).trans ?_
            rw [snm]
            rw [List.mem_append, List.mem_singleton] at hy
            rcases hy with hy | rfl
            · rw [S4.1 y hy, Bool.or_true]
            · show (decide (cdN (x.sq.set i s) (tn' p x.tn) = _) || _) = true
              rw [decide_eq_true rfl]; rfl
          · have hh2 := (sn2 _).symm.trans hh
            rw [snm, Bool.or_eq_true] at hh2
            rw [hasK_app]
            rcases hh2 with q | q
            · have e := cd_inj hl okl (of_decide_eq_true q)
              left; right
              show (x.sq.set i s, tn' p x.tn) = (l, t)
              rw [e.1, e.2]
            · rcases S4.2 l t hl ht q with w | w
              · exact Or.inl (Or.inl w)
              · exact Or.inr w
      · rw [if_neg c3, if_pos rfl, p_lt, nI_1]
        refine ⟨h1, ?_, rfl⟩
        unfold cnd
        rw [if_neg (fun q => by
          have := q.1
          unfold okH at this
          rw [Bool.and_eq_true] at this
          exact c3 this.2)]
        refine ⟨fun c hc => by rw [f1 c (by omega)]; exact S1 c hc, by rw [f1 15 (by decide)]; exact S2, ⟨by rw [f1 15 (by decide)]; exact S3.1, fun k hk => by rw [f1 17 (by decide), f1 18 (by decide), f1 19 (by decide)]; exact S3.2 k hk⟩, fun y hy => by rw [snm, S4.1 y hy, Bool.or_true], fun l t hl ht hh => ?_⟩
        rw [snm, Bool.or_eq_true] at hh
        rcases hh with q | q
        · have e := cd_inj hl okl (of_decide_eq_true q)
          right
          rw [e.1, gset]
          simpa using c3
        · exact S4.2 l t hl ht q

theorem cnd_at {p : Pm} {x : Nd} {j i s : Nat} {Q : List Nd} {k : Nat} (hk : k < Q.length) : (cnd p x j i s Q).getD k d0 = Q.getD k d0 ∧ Q.length ≤ (cnd p x j i s Q).length := by
  obtain ⟨R, e⟩ := cnd_pre p x j i s Q
  rw [e]
  exact ⟨getD_app hk, by simp⟩
/-- the rounds over squares, men keep what was there -/
theorem bs_at {p : Pm} {x : Nd} {j i : Nat} : ∀ {r s : Nat} {Q : List Nd} {k : Nat}, k < Q.length → (bs p x j i r s Q).getD k d0 = Q.getD k d0 ∧ Q.length ≤ (bs p x j i r s Q).length
  | 0, s, Q, k, hk => ⟨rfl, Nat.le_refl _⟩
  | r + 1, s, Q, k, hk => by
    have h1 := cnd_at (p := p) (x := x) (j := j) (i := i) (s := s) hk
    have h2 := bs_at (p := p) (x := x) (j := j) (i := i) (r := r) (s := s + 1) (Q := cnd p x j i s Q) (k := k) (by omega)
    exact ⟨h2.1.trans h1.1, Nat.le_trans h1.2 h2.2⟩
theorem bm_at {p : Pm} {x : Nd} {j : Nat} : ∀ {r i : Nat} {Q : List Nd} {k : Nat}, k < Q.length → (bm p x j r i Q).getD k d0 = Q.getD k d0 ∧ Q.length ≤ (bm p x j r i Q).length
  | 0, i, Q, k, hk => ⟨rfl, Nat.le_refl _⟩
  | r + 1, i, Q, k, hk => by
    have h1 := bs_at (p := p) (x := x) (j := j) (i := i) (r := 12) (s := 0) hk
    have h2 := bm_at (p := p) (x := x) (j := j) (r := r) (i := i + 1) (Q := bs p x j i 12 0 Q) (k := k) (by omega)
    exact ⟨h2.1.trans h1.1, Nat.le_trans h1.2 h2.2⟩
/-- what the rounds keep true, without the heap -/
theorem VQ_bs {p : Pm} {z t0 : Nat} (hz : z ≤ 12) (hop : ∀ (x : Nd), okN p z x → ∀ i s, i < p.n → s < 32 → bt (opn p.T p.n p.kd p.co (gP x.sq) p.ho p.lw i x.tn) s = true → s < z) {x : Nd} {j i : Nat} (hi : i < p.n) : ∀ {r s : Nat} {Q : List Nd}, s + r = 12 → VQ p z t0 Q → j < Q.length → Q.getD j d0 = x → VQ p z t0 (bs p x j i r s Q)
  | 0, s, Q, _, V, _, _ => V
  | r + 1, s, Q, hs, V, hj, ex => by
    have V' := VQ_cnd hz (fun y hy => hop y (V.ok y hy)) V hj hi (show s < 12 by omega)
    rw [ex] at V'
    have h1 := cnd_at (p := p) (x := x) (j := j) (i := i) (s := s) hj
    exact VQ_bs hz hop hi (r := r) (s := s + 1) (Q := cnd p x j i s Q) (by omega) V' (by omega) (h1.1.trans ex)
theorem VQ_bm {p : Pm} {z t0 : Nat} (hz : z ≤ 12) (hop : ∀ (x : Nd), okN p z x → ∀ i s, i < p.n → s < 32 → bt (opn p.T p.n p.kd p.co (gP x.sq) p.ho p.lw i x.tn) s = true → s < z) {x : Nd} {j : Nat} : ∀ {r i : Nat} {Q : List Nd}, i + r = p.n → VQ p z t0 Q → j < Q.length → Q.getD j d0 = x → VQ p z t0 (bm p x j r i Q)
  | 0, i, Q, _, V, _, _ => V
  | r + 1, i, Q, hs, V, hj, ex => by
    have V' := VQ_bs hz hop (x := x) (j := j) (i := i) (by omega) (r := 12) (s := 0) (by omega) V hj ex
    have h1 := bs_at (p := p) (x := x) (j := j) (i := i) (r := 12) (s := 0) hj
    exact VQ_bm hz hop (r := r) (i := i + 1) (Q := bs p x j i 12 0 Q) (by omega) V' (by omega) (h1.1.trans ex)
theorem VQ_bq {p : Pm} {z t0 : Nat} (hz : z ≤ 12) (hop : ∀ (x : Nd), okN p z x → ∀ i s, i < p.n → s < 32 → bt (opn p.T p.n p.kd p.co (gP x.sq) p.ho p.lw i x.tn) s = true → s < z) : ∀ {r j : Nat} {Q : List Nd}, VQ p z t0 Q → VQ p z t0 (bq p r j Q)
  | 0, j, Q, V => V
  | r + 1, j, Q, V => by
    show VQ p z t0 (if j < Q.length then bq p r (j + 1) (bm p (Q.getD j d0) j p.n 0 Q) else Q)
    split
    · rename_i c
      exact VQ_bq hz hop (VQ_bm hz hop (by omega) V c rfl)
    · exact V
theorem bq_at {p : Pm} : ∀ {r j : Nat} {Q : List Nd} {k : Nat}, k < Q.length → (bq p r j Q).getD k d0 = Q.getD k d0 ∧ Q.length ≤ (bq p r j Q).length
  | 0, j, Q, k, hk => ⟨rfl, Nat.le_refl _⟩
  | r + 1, j, Q, k, hk => by
    show (if j < Q.length then bq p r (j + 1) (bm p (Q.getD j d0) j p.n 0 Q) else Q).getD k d0 = _ ∧ Q.length ≤ (if j < Q.length then bq p r (j + 1) (bm p (Q.getD j d0) j p.n 0 Q) else Q).length
    split
    · have h1 := bm_at (p := p) (x := Q.getD j d0) (j := j) (r := p.n) (i := 0) hk
      have h2 := bq_at (p := p) (r := r) (j := j + 1) (Q := bm p (Q.getD j d0) j p.n 0 Q) (k := k) (by omega)
      exact ⟨h2.1.trans h1.1, Nat.le_trans h1.2 h2.2⟩
    · exact ⟨rfl, Nat.le_refl _⟩
theorem pu_hops_l (N : Nat) (hN : 20 ≤ N) {p : Pm} {z m : Nat} {h0 : Hp} (C : CQ p z m h0) {x : Nd} {j i : Nat} (hi : i < p.n) : ∀ (e s : Nat) (Q : List Nd) (h : Hp), VQ p z (m % 2) Q → CS p h0 h Q → j < Q.length → Q.getD j d0 = x → s ≤ 12 → 12 - s < e → ∃ h', CS p h0 h' (bs p x j i (12 - s) s Q) ∧ f_X4_addHops_l3 N e (nI j) (nI i) (opn p.T p.n p.kd p.co (gP x.sq) p.ho p.lw i x.tn) (nI (m + x.dp + 1)) (nI s) h = some (0, h') := by
  intro e
  induction e with
  | zero => intro s Q h _ _ _ _ _ h2; omega
  | succ e ih =>
    intro s Q h V S hj ex hs he
    show ∃ h', _ ∧ f_X4_addHops_b3 N (f_X4_addHops_l3 N e) (nI j) (nI i) _ _ (nI s) h = some (0, h')
    by_cases hc : s = 12
    · subst hc
      refine ⟨h, S, ?_⟩
      unfold f_X4_addHops_b3
      rw [if_pos (by decide)]
    · obtain ⟨h1, S1, e1⟩ := pu_cnd N hN C (f_X4_addHops_l3 N e) V S hj hi (show s < 12 by omega)
      have V' := VQ_cnd C.z12 (fun y hy => C.hop y (V.ok y hy)) V hj hi (show s < 12 by omega)
      rw [ex] at S1 e1 V'
      have hat := cnd_at (p := p) (x := x) (j := j) (i := i) (s := s) hj
      obtain ⟨h2, S2, e2⟩ := ih (s + 1) _ h1 V' S1 (by omega) (hat.1.trans ex) (by omega) (by omega)
      refine ⟨h2, ?_, e1.trans e2⟩
      obtain ⟨r, hr⟩ : ∃ r, 12 - s = r + 1 := ⟨11 - s, by omega⟩
      rw [hr]
      rw [show 12 - (s + 1) = r by omega] at S2
      exact S2
theorem opn_t {T : Nat → Int32} {n : Nat} {kd co : Nat → Nat} {P : Nat → Nat} {ho lw : Int32} {i t u : Nat} (h : lw = 1 → t = u) : opn T n kd co P ho lw i t = opn T n kd co P ho lw i u := by
  by_cases c : lw = 1
  · rw [h c]
  · unfold opn
    rw [if_neg (fun z => c z.1), if_neg (fun z => c z.1)]
theorem pu_men_l (N : Nat) (hN : 20 ≤ N) {p : Pm} {z m : Nat} {h0 : Hp} (C : CQ p z m h0) (k73 : Int32 → Int32 → Int32 → Hp → Option Rs) {x : Nd} {j : Nat} : ∀ (e i : Nat) (Q : List Nd) (h : Hp), VQ p z (m % 2) Q → CS p h0 h Q → j < Q.length → Q.getD j d0 = x → i ≤ p.n → p.n - i < e → ∃ h', CS p h0 h' (bm p x j (p.n - i) i Q) ∧ f_X4_explore_l93 N k73 e (nI m) p.ho (nI j) (nI i) h = k73 (nI m) p.ho (nI (j + 1)) h' := by
  have hn4 := C.bc.2.1
  have m9 := C.m9
  intro e
  induction e with
  | zero => intro i Q h _ _ _ _ _ h2; omega
  | succ e ih =>
    intro i Q h V S hj ex hi he
    show ∃ h', _ ∧ f_X4_explore_b93 N k73 (f_X4_explore_l93 N k73 e) (nI m) p.ho (nI j) (nI i) h = _
    unfold f_X4_explore_b93
    have hB := BC_fr (S.1 1 (by omega)) (S.1 2 (by omega)) (S.1 3 (by omega)) C.bc
    have hlen := VQ_len V
    rw [hB.1]
    by_cases hc : i = p.n
    · refine ⟨h, ?_, ?_⟩
      · rw [hc, show p.n - p.n = 0 by omega]; exact S
      · rw [if_pos (nI_le (by omega) (by omega)), p_lt, nI_1]
    · have hx := getD_in hj
      have hdj := V.dj j hj
      have htr := V.tr _ hx
      have o := V.ok _ hx
      have r17 := (S.2.2.1.2 j hj).1
      have r19 := (S.2.2.1.2 j hj).2.1
      rw [ex] at hx hdj htr o r17 r19
      have e11 : h.1 11 = p.T := by rw [S.1 11 (by omega)]; exact C.eT
      have elw : h.1 1 3 = p.lw := by rw [S.1 1 (by omega)]; exact C.elw
      have hop : f_X1_openTo N (nI i) (nI (c16 x.sq)) (nI (m + x.dp)) p.ho h = some (opn p.T p.n p.kd p.co (gP x.sq) p.ho p.lw i x.tn, h) := by
        rw [pu_openTo N hN h hB (PC_c16 o.1) (by rw [e11, ← C.eT]; exact C.tok) (show i < p.n by omega) (turn_and (by omega)) (by omega), e11, elw]
        rw [opn_t (t := (m + x.dp) % 2) (u := x.tn) (fun cl1 => by have := htr cl1; omega)]
      obtain ⟨h1, S1, e1⟩ := pu_hops_l N hN C (x := x) (j := j) (i := i) (by omega) N 0 Q h V S hj ex (by omega) (by omega)
      rw [if_neg (nI_ge (by omega) (by omega)), if_pos (p_ib (show j < 23760 by omega) (by omega)), p_ix (by omega), r19, nI_add, p_lt, if_pos (p_ib (show j < 23760 by omega) (by omega)), r17, cd_and o.1 o.2.2.2.1, hop, p_cl, nI_1]
      unfold f_X4_addHops
      rw [p_lt]
      have V' := VQ_bs C.z12 C.hop (x := x) (j := j) (i := i) (by omega) (r := 12) (s := 0) (by omega) V hj ex
      have hat := bs_at (p := p) (x := x) (j := j) (i := i) (r := 12) (s := 0) hj
      obtain ⟨h2, S2, e2⟩ := ih (i + 1) _ h1 V' S1 (by omega) (hat.1.trans ex) (by omega) (by omega)
      refine ⟨h2, ?_, ?_⟩
      · obtain ⟨r, hr⟩ : ∃ r, p.n - i = r + 1 := ⟨p.n - i - 1, by omega⟩
        rw [hr]
        rw [show p.n - (i + 1) = r by omega] at S2
        exact S2
      · have e1' : f_X4_addHops_l3 N N (nI j) (nI i) (opn p.T p.n p.kd p.co (gP x.sq) p.ho p.lw i x.tn) (nI (m + x.dp + 1)) 0 h = some (0, h1) := e1
        rw [e1', p_cl, p_lt, nI_1]
        exact e2
theorem pu_queue_l (N : Nat) (hN : 20 ≤ N) {p : Pm} {z m : Nat} {h0 : Hp} (C : CQ p z m h0) : ∀ (e r j : Nat) (Q : List Nd) (h : Hp), VQ p z (m % 2) Q → CS p h0 h Q → j ≤ Q.length → r + j = 23761 → r < e → ∃ h', CS p h0 h' (bq p r j Q) ∧ f_X4_explore_l73 N e (nI m) p.ho (nI j) h = some (0, h') := by
  have hn4 := C.bc.2.1
  intro e
  induction e with
  | zero => intro r j Q h _ _ _ _ h2; omega
  | succ e ih =>
    intro r j Q h V S hj hr he
    have hlen := VQ_len V
    obtain ⟨r, rfl⟩ : ∃ y, r = y + 1 := ⟨r - 1, by omega⟩
    show ∃ h', CS p h0 h' (if j < Q.length then bq p r (j + 1) (bm p (Q.getD j d0) j p.n 0 Q) else Q) ∧ f_X4_explore_b73 N (f_X4_explore_l73 N e) (nI m) p.ho (nI j) h = _
    unfold f_X4_explore_b73 f_X4_explore_b162
    rw [S.2.2.1.1]
    by_cases hc : j < Q.length
    · rw [if_pos hc, if_neg (nI_ge (by omega) (by omega)), if_neg (show ¬ (23760 : Int32) ≤ nI j from nI_ge (a := j) (b := 23760) (by omega) (by omega)), p_lt]
      obtain ⟨h1, S1, e1⟩ := pu_men_l N hN C (f_X4_explore_l73 N e) (x := Q.getD j d0) (j := j) N 0 Q h V S hc rfl (by omega) (by omega)
      rw [Nat.sub_zero] at S1
      have V' := VQ_bm C.z12 C.hop (x := Q.getD j d0) (j := j) (r := p.n) (i := 0) (by omega) V hc rfl
      have hat := bm_at (p := p) (x := Q.getD j d0) (j := j) (r := p.n) (i := 0) hc
      obtain ⟨h2, S2, e2⟩ := ih r (j + 1) _ h1 V' S1 (by omega) (by omega) (by omega)
      exact ⟨h2, S2, e1.trans e2⟩
    · rw [if_neg hc, if_pos (nI_le (by omega) (by omega))]
      exact ⟨h, S, rfl⟩
