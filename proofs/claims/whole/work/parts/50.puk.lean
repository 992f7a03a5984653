/-! ===== explore ===== -/
theorem VQ_t {p : Pm} {z t u : Nat} {Q : List Nd} (h : VQ p z t Q) (e : p.lw = 1 → t = u) : VQ p z u Q := ⟨h.ok, h.nd, h.ne, h.d1, h.par, fun x hx hl => by rw [← e hl]; exact h.tr x hx hl, h.dj⟩
def pmH (h : Hp) (ho : Int32) : Pm := ⟨h.1 11, ix (h.1 1 4), fun i => ix (h.1 2 i), fun i => ix (h.1 3 i), ho, h.1 1 3⟩
def CH (h : Hp) : Prop := h.1 15 6 = 0 ∨ ∃ l t, okL (ix (h.1 1 4)) l ∧ t < 2 ∧ RC h (bfs (pmH h (h.1 15 7)) l t)
theorem CH_fr {h h2 : Hp} (hF : Fr h h2) (hC : CH h) : CH h2 := by
  have e1 := hF 1 (by decide)
  have e2 := hF 2 (by decide)
  have e3 := hF 3 (by decide)
  have e11 := hF 11 (by decide)
  have e15 := hF 15 (by decide)
  have e17 := hF 17 (by decide)
  have e18 := hF 18 (by decide)
  have e19 := hF 19 (by decide)
  unfold CH RC pmH at *
  rw [e1, e2, e3, e11, e15, e17, e18, e19]
  exact hC
def t0H (lw : Int32) (m : Nat) : Nat := if lw = 1 then m % 2 else 0
theorem bfs_0 (p : Pm) (l : List Nat) (t : Nat) : (bfs p l t).getD 0 d0 = ⟨l, t, 0, 0, 0, 0⟩ ∧ 0 < (bfs p l t).length := by
  have := bq_at (p := p) (r := 23761) (j := 0) (Q := [⟨l, t, 0, 0, 0, 0⟩]) (k := 0) (by simp)
  exact ⟨this.1, by have := this.2; simp at this; exact this⟩
theorem pu_codeOf (N : Nat) (h : Hp) {n m : Nat} {l : List Nat} (hl : okL n l) (hm : m < 2 ^ 31) : f_X4_codeOf N (nI (c16 l)) (nI m) h = some (nI (cdN l (t0H (h.1 1 3) m)), h) := by
  unfold f_X4_codeOf f_X4_codeOf_b23 t0H
  by_cases c : h.1 1 3 = 1
  · rw [if_pos c, if_pos c, turn_and hm, cd_or hl (by omega)]
  · rw [if_neg c, if_neg c]; rfl
theorem t0H_lt (lw : Int32) (m : Nat) : t0H lw m < 2 := by unfold t0H; split <;> omega
theorem pu_explore_new (N : Nat) (hN : 30000 ≤ N) {p : Pm} {z m : Nat} {h : Hp} (C : CQ p z m h) {l : List Nat} (hl : okN p z ⟨l, t0H p.lw m, 0, 0, 0, 0⟩) : ∃ h1, f_X4_explore_b35 N (nI m) p.ho (nI (cdN l (t0H p.lw m))) h = some (0, h1) ∧ CS p h h1 (bfs p l (t0H p.lw m)) := by
  have ht := t0H_lt p.lw m
  have hc := cd_lt hl.1 ht
  have hcl : okL p.n l := hl.1
  have hfill : f_J7_fill_53178_16 N 0 h = some (0, wrow h 16 (fun j => if 0 ≤ j ∧ j < 4096 then 0 else h.1 16 j)) := by
    unfold f_J7_fill_53178_16
    rw [p_lt, p_lt]
    exact pu_fill16 N 0 N 0 h (by omega) (by omega)
  unfold f_X4_explore_b35
  rw [hfill, p_cl, p_lt, p_lt]
  generalize eh3 : wr (wr (wrow h 16 (fun j => if 0 ≤ j ∧ j < 4096 then 0 else h.1 16 j)) 15 6 0) 15 7 p.ho = h3
  have sn3 : ∀ c, c < 131072 → sn h3 c = false := by
    intro c hc
    unfold sn
    rw [← eh3, p_wro _ _ _ _ (by decide), p_wro _ _ _ _ (by decide), p_wrows]
    show bt (if 0 ≤ c / 32 ∧ c / 32 < 4096 then 0 else h.1 16 (c / 32)) (c % 32) = false
    rw [if_pos (by omega), b_0]
  have f3 : ∀ c, c < 15 ∨ 19 < c → h3.1 c = h.1 c := by
    intro c hc
    rw [← eh3, p_wro _ _ _ _ (by omega), p_wro _ _ _ _ (by omega), p_wrowo _ _ _ (by omega)]
  have e6 : h3.1 15 6 = nI 0 := by rw [← eh3, p_wrk _ _ _ _ (by decide), p_wrs]; rfl
  have e7 : h3.1 15 7 = p.ho := by rw [← eh3, p_wrs]
  rw [pu_isNew N h3 hc, if_neg (by rw [sn3 _ hc]; decide), p_cl, if_neg n10]
  generalize ec : cdN l (t0H p.lw m) = c at *
  generalize eh4 : wr h3 16 (c / 32) (h3.1 16 (c / 32) ||| sg (nI (c % 32))) = h4
  have snm : ∀ d, sn h4 d = (decide (d = c) || sn h3 d) := fun d => by rw [← eh4]; exact sn_mark h3
  have f4 : ∀ c, c ≠ 16 → h4.1 c = h3.1 c := fun c hc => by rw [← eh4, p_wro _ _ _ _ hc]
  have e64 : h4.1 15 6 = nI 0 := by rw [f4 15 (by decide)]; exact e6
  rw [pu_add N h4 (by omega) e64, p_cl]
  unfold f_X4_explore_b70
  rw [p_lt]
  generalize eh5 : wr (wr (wr (wr h4 17 0 (nI c)) 18 0 (-1)) 19 0 0) 15 6 (nI (0 + 1)) = h5
  have S0 : CS p h h5 [⟨l, t0H p.lw m, 0, 0, 0, 0⟩] := by
    refine ⟨?_, ?_, ?_, ?_, ?_⟩
    · intro c hc
      rw [← eh5, p_wro _ _ _ _ (by omega), p_wro _ _ _ _ (by omega), p_wro _ _ _ _ (by omega), p_wro _ _ _ _ (by omega), f4 c (by omega), f3 c hc]
    · rw [← eh5, p_wrk _ _ _ _ (by decide), p_wro _ _ _ _ (by decide), p_wro _ _ _ _ (by decide), p_wro _ _ _ _ (by decide), f4 15 (by decide)]
      exact e7
    · have := RC_add (h := h4) (Q := []) ⟨e64, fun j hj => by cases hj⟩ ⟨l, t0H p.lw m, 0, 0, 0, 0⟩ (v := -1) rfl
      rw [← eh5, ← ec]
      exact this
    · intro x hx
      rw [List.mem_singleton] at hx
      have sn5 : sn h5 c = sn h4 c := by
        unfold sn
        rw [← eh5, p_wro _ _ _ _ (by decide), p_wro _ _ _ _ (by decide), p_wro _ _ _ _ (by decide), p_wro _ _ _ _ (by decide)]
      rw [hx]
      show sn h5 (cdN l (t0H p.lw m)) = true
      rw [ec, sn5, snm, decide_eq_true rfl]
      rfl
    · intro l' t' hl' ht' hh
      have sn5 : ∀ c, sn h5 c = sn h4 c := by
        intro c
        unfold sn
        rw [← eh5, p_wro _ _ _ _ (by decide), p_wro _ _ _ _ (by decide), p_wro _ _ _ _ (by decide), p_wro _ _ _ _ (by decide)]
      rw [sn5, snm, sn3 _ (cd_lt hl' ht'), Bool.or_false] at hh
      have e := of_decide_eq_true hh
      rw [← ec] at e
      have e2 := cd_inj hl' hcl e
      left
      rw [hasK_iff, e2.1, e2.2]
      simp [key]
  have V0 : VQ p z (m % 2) [⟨l, t0H p.lw m, 0, 0, 0, 0⟩] := VQ_t (VQ_0 hl) (fun hw => by unfold t0H; rw [if_pos hw])
  obtain ⟨h6, S6, e6'⟩ := pu_queue_l N (by omega) C N 23761 0 _ h5 V0 S0 (by simp) (by omega) (by omega)
  exact ⟨h6, e6', S6⟩
theorem pu_explore (N : Nat) (hN : 30000 ≤ N) {z m : Nat} {h : Hp} (ho : Int32) (C : CQ (pmH h ho) z m h) (hCH : CH h) {l : List Nat} (hl : okN (pmH h ho) z ⟨l, t0H (h.1 1 3) m, 0, 0, 0, 0⟩) : ∃ h1, f_X4_explore N (nI (c16 l)) (nI m) ho h = some (0, h1) ∧ RC h1 (bfs (pmH h ho) l (t0H (h.1 1 3) m)) ∧ (∀ c, c < 15 ∨ 19 < c → h1.1 c = h.1 c) ∧ CH h1 := by
  have m9 := C.m9
  have ht := t0H_lt (h.1 1 3) m
  have hcl : okL (pmH h ho).n l := hl.1
  obtain ⟨h1, e1, S1⟩ := pu_explore_new N hN C (l := l) hl
  have new : ∃ h1, f_X4_explore_b35 N (nI m) ho (nI (cdN l (t0H (h.1 1 3) m))) h = some (0, h1) ∧ RC h1 (bfs (pmH h ho) l (t0H (h.1 1 3) m)) ∧ (∀ c, c < 15 ∨ 19 < c → h1.1 c = h.1 c) ∧ CH h1 := by
    refine ⟨h1, e1, S1.2.2.1, S1.1, Or.inr ⟨l, t0H (h.1 1 3) m, ?_, ht, ?_⟩⟩
    · rw [S1.1 1 (by omega)]; exact hcl
    · have : pmH h1 (h1.1 15 7) = pmH h ho := by
        unfold pmH
        rw [S1.2.1, S1.1 11 (by omega), S1.1 1 (by omega), S1.1 2 (by omega), S1.1 3 (by omega)]
        rfl
      rw [this]
      exact S1.2.2.1
  unfold f_X4_explore
  rw [pu_codeOf N h hcl (by omega), p_cl, p_lt]
  rcases hCH with h0 | ⟨l', t', hl', ht', hR⟩
  · rw [h0, if_pos (by decide)]
    exact new
  · have hp := (bfs_0 (pmH h (h.1 15 7)) l' t')
    have hs := hR.1
    have r0 := (hR.2 0 hp.2).1
    rw [hp.1] at r0
    by_cases cs : h.1 15 6 ≤ 0
    · rw [if_pos cs]; exact new
    · rw [if_neg cs, if_pos (by decide), show ix 0 = 0 from rfl]
      by_cases c1 : h.1 17 0 = nI (cdN l (t0H (h.1 1 3) m))
      · rw [if_pos c1]
        by_cases c2 : h.1 15 7 = ho
        · rw [if_pos c2]
          refine ⟨h, rfl, ?_, fun _ _ => rfl, Or.inr ⟨l', t', hl', ht', hR⟩⟩
          have ec : cdN l' t' = cdN l (t0H (h.1 1 3) m) := by
            have l1 := cd_lt hl' ht'
            have l2 := cd_lt hcl ht
            exact (nI_eq (by omega) (by omega)).mp (r0.symm.trans c1)
          obtain ⟨e1, e2⟩ := cd_inj hl' hcl ec
          rw [e1, e2, c2] at hR
          exact hR
        · rw [if_neg c2]; exact new
      · rw [if_neg c1]; exact new
