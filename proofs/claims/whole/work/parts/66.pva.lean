/-! ===== fault, board ===== -/
theorem foldl_take {s : Bs} {cs : List Cm} {j : Nat} (hj : j < cs.length) : (cs.take (j + 1)).foldl ap s = ap ((cs.take j).foldl ap s) (cs.getD j (.inr (.inr (.inl ())))) := by
  rw [List.take_add_one, List.foldl_append, List.getD_eq_getElem?_getD, List.getElem?_eq_getElem hj]
  rfl
theorem pAll_WB {t : Nat} {B : Nat → Nat} : ∀ {r k : Nat} {s : Bs} {p : Nat} {cs : List Cm}, WB s → pAll t B r k s p = .ok cs → ∀ j, j ≤ cs.length → WB ((cs.take j).foldl ap s)
  | 0, k, s, p, cs, _, h => by cases h
  | r + 1, k, s, p, cs, W, h => by
    have h' : (match pLine t B s (nb t B p) (ne t B p) with
      | .error () f => Except.error f
      | .ok c p1 => if nb t B p1 = t then .ok [c] else if tbl B (nb t B p1) (ne t B p1) = wd 10 ∧ k + 1 < 12 then (match pAll t B r (k + 1) (ap s c) (ne t B p1) with
        | .error f => .error f
        | .ok cs => .ok (c :: cs)) else .error (nb t B p1)) = .ok cs := h
    cases hL : pLine t B s (nb t B p) (ne t B p) with
    | error u f => rw [hL] at h'; cases h'
    | ok c p1 =>
      rw [hL] at h'
      have W2 := WB_line W hL
      have h2 : (if nb t B p1 = t then (Except.ok [c] : PR) else if tbl B (nb t B p1) (ne t B p1) = wd 10 ∧ k + 1 < 12 then (match pAll t B r (k + 1) (ap s c) (ne t B p1) with
        | .error f => .error f
        | .ok cs => .ok (c :: cs)) else .error (nb t B p1)) = .ok cs := h'
      intro j hj
      rcases j with _ | j
      · exact W
      · split at h2
        · injection h2 with h3
          subst h3
          have : j = 0 := by
            have h4 : j + 1 ≤ 1 := hj
            omega
          subst this
          exact W2
        · split at h2
          · cases hq : pAll t B r (k + 1) (ap s c) (ne t B p1) with
            | error f => rw [hq] at h2; cases h2
            | ok ds =>
              rw [hq] at h2
              injection h2 with h3
              subst h3
              have h4 : j + 1 ≤ ds.length + 1 := hj
              exact pAll_WB W2 hq j (by omega)
          · cases h2
/-- what both have told, as one board -/
theorem Inv_bs {h : Hp} (hI : Inv h) : ∃ (s : Bs) (t : Nat) (B : Nat → Nat), WB s ∧ DR 1 h s ∧ MR h s ∧ TX h t B ∧ TM h t B := by
  obtain ⟨w, g, n, kd, co, f, hV⟩ := hI
  obtain ⟨hB, ⟨S, hS⟩, ⟨L, hL⟩, hP, hH, hK, hR, ⟨t, ht, t1, t2, t3⟩⟩ := hV
  obtain ⟨b1, b2, b3, b4, b5, b6, b7, b8, b9⟩ := hB
  refine ⟨⟨w, g, n, h.1 1 2, h.1 1 3, kd, co, S, L⟩, t, fun j => ix (h.1 5 j), ?_, ?_, ?_, ?_, ?_⟩
  · exact ⟨b1, b4.2.1, fun i hi => ⟨(b4.2.2 i hi).2.1, (b4.2.2 i hi).2.2.2, (hS.2.1 i hi).2, (hL.2.1 i hi).2⟩, hS.2.2, hL.2.2⟩
  · exact ⟨b2, b3, rfl, rfl, b4.1, fun i hi => ⟨(b4.2.2 i hi).1, (b4.2.2 i hi).2.2.1⟩, hS.1, hL.1⟩
  · exact ⟨b6.2.1, b6.2.2, b8, b9, b7.1, fun i hi => ⟨(b7.2.2 i hi).1, (b7.2.2 i hi).2.2.1, (hS.2.1 i hi).1, (hL.2.1 i hi).1⟩⟩
  · refine ⟨ht, t1, fun j hj => ?_⟩
    obtain ⟨-, b, hb, e⟩ := t3 j hj
    show h.1 5 j = nI (ix (h.1 5 j)) ∧ ix (h.1 5 j) < 256
    rw [e, p_ix (by omega)]
    exact ⟨rfl, hb⟩
  · refine ⟨ht, t2, fun j hj => ?_⟩
    obtain ⟨e1, b, hb, e⟩ := t3 j hj
    show h.1 27 j = nI (ix (h.1 5 j)) ∧ ix (h.1 5 j) < 256
    rw [← e1, e, p_ix (by omega)]
    exact ⟨rfl, hb⟩
theorem MR_fr {h h' : Hp} {s : Bs} (M : MR h s) (e25 : ∀ k, k < 5 → h'.1 25 k = h.1 25 k) (e26 : h'.1 26 = h.1 26) : MR h' s := by
  unfold MR
  rw [e25 0 (by omega), e25 1 (by omega), e25 2 (by omega), e25 3 (by omega), e25 4 (by omega), e26]
  exact M
/-- reading leaves the invariant and the search's cells -/
theorem Inv_read {h h1 h2 : Hp} (hI : Inv h) (F1 : ∀ c, c ∉ [4, 6, 7, 8, 9] → h1.1 c = h.1 c) (F14 : h1.1 4 1 = h.1 4 1) (G : MG 0 h1 h2) : Inv h2 ∧ Fr h h2 := by
  obtain ⟨w, g, n, kd, co, f, hV⟩ := hI
  have c : ∀ a, a ∉ [4, 6, 7, 8, 9, 25, 28, 29, 30] → h2.1 a = h.1 a := fun a ha => by
    rw [G.1 a (fun z => ha (by simp at z ⊢; omega)), F1 a (fun z => ha (by simp at z ⊢; omega))]
  have m : ∀ x, x ∉ [8, 9, 11, 12, 13, 14, 15, 16, 17] → h2.1 25 x = h.1 25 x := fun x hx => by rw [G.2.1 x hx, F1 25 (by decide)]
  refine ⟨⟨w, g, n, kd, co, f, IV_congr (c 0 (by decide)) (c 1 (by decide)) (c 2 (by decide)) (c 3 (by decide)) (by rw [G.1 4 (by decide), F14]) (c 5 (by decide)) (c 11 (by decide)) (c 20 (by decide)) (c 21 (by decide)) (c 22 (by decide)) (c 23 (by decide)) (c 24 (by decide)) (fun k hk => m k (by revert hk; simp; omega)) (c 26 (by decide)) (c 27 (by decide)) (c 31 (by decide)) (c 32 (by decide)) (c 33 (by decide)) (c 34 (by decide)) hV⟩, fun a ha => c a (by revert ha; simp; omega)⟩
theorem sim_fault (N : Nat) (hN : 300 ≤ N) {h : Hp} (hI : Inv h) : Sim (f_X7_fault N) (f_X8_fault N) h := by
  obtain ⟨s, t, B, W, D, M, T, TM0⟩ := Inv_bs hI
  obtain ⟨h1, a1, E1⟩ := pu_read N hN h T W D
  have F1 : (∀ c, c ∉ [4, 6, 7, 8, 9] → h1.1 c = h.1 c) ∧ h1.1 4 1 = h.1 4 1 := by
    cases hq : pAll t B 12 0 s 0 with
    | error f => rw [hq] at E1; exact ⟨E1.1, E1.2.1⟩
    | ok cs => rw [hq] at E1; exact ⟨E1.1, E1.2.1⟩
  have TM1 : TM h1 t B := by unfold TM; rw [F1.1 25 (by decide), F1.1 27 (by decide)]; exact TM0
  have M1 : MR h1 s := MR_fr M (fun k _ => by rw [F1.1 25 (by decide)]) (F1.1 26 (by decide))
  obtain ⟨v, h2, a2, E2⟩ := pm_isRead N hN h1 TM1 W M1
  have G2 : MG 0 h1 h2 := by
    cases hq : pAll t B 12 0 s 0 with
    | error f => rw [hq] at E2; exact E2.1
    | ok cs => rw [hq] at E2; exact E2.1
  have hI2 := Inv_read hI F1.1 F1.2 G2
  refine ⟨h1.1 6 1, h1, h2, ?_, ?_, hI2.1, hI2.2⟩
  · unfold f_X7_fault
    rw [a1, p_cl]
  · unfold f_X8_fault f_X8_fault_b15
    rw [a2, p_cl]
    cases hq : pAll t B 12 0 s 0 with
    | error f =>
      rw [hq] at E1 E2
      rw [E2.2.1, if_pos rfl, E2.2.2, E1.2.2.1]
    | ok cs =>
      rw [hq] at E1 E2
      rw [E2.2.1, if_neg n10, E1.2.2.1]
theorem pm_do_l (N : Nat) (hN : 300 ≤ N) (h2 : Hp) {s : Bs} {cs : List Cm} (hlen : cs.length ≤ 12) (e14 : h2.1 25 14 = nI cs.length) (hE : ∀ j, j < cs.length → EN h2 j (cs.getD j (.inr (.inr (.inl ()))))) (hW : ∀ j, j ≤ cs.length → WB ((cs.take j).foldl ap s)) : ∀ (e j : Nat) (h' : Hp), DF h2 h' → MR h' ((cs.take j).foldl ap s) → j ≤ cs.length → cs.length - j < e → ∃ h3, f_X8_board_l12 N e (nI j) h' = f_X8_board_l40 N N 0 (wr h3 25 6 0) ∧ DF h2 h3 ∧ MR h3 (cs.foldl ap s) := by
  intro e
  induction e with
  | zero => intro j h' _ _ _ h2; omega
  | succ e ih =>
    intro j h' F M hj he
    show ∃ h3, f_X8_board_b12 N (f_X8_board_l12 N e) (nI j) h' = _ ∧ _
    unfold f_X8_board_b12
    rw [F.2 14 (by omega), e14]
    by_cases hc : j = cs.length
    · rw [if_pos (nI_le (by omega) (by omega)), p_lt, p_lt]
      rw [hc, List.take_length] at M
      exact ⟨h', rfl, F, M⟩
    · have E := EN_fr (h := h2) (h' := h') (j := j) (fun x _ => by rw [F.1 30 (by decide) (by decide)]) (hE j (by omega))
      have W1 := hW (j + 1) (by omega)
      rw [foldl_take (by omega)] at W1
      obtain ⟨h4, a4, M4, F4⟩ := pm_doLine N hN h' (j := j) (by omega) (hW j (by omega)).2.1 M E W1
      rw [← foldl_take (by omega)] at M4
      rw [if_neg (nI_ge (by omega) (by omega)), p_4x, a4, p_cl, p_lt, nI_1]
      exact ih (j + 1) h4 (DF_tr F F4) M4 (by omega) (by omega)
theorem pm_at_l (N : Nat) (h : Hp) {n : Nat} (hn : h.1 25 4 = nI n) (hn4 : n ≤ 4) {S : Nat → Nat} (hS : ∀ i, i < n → h.1 26 (4 * i + 2) = nI (S i)) : ∀ (e i : Nat) (h' : Hp), (∀ c, c ≠ 31 → h'.1 c = h.1 c) → (∀ j, j < i → h'.1 31 j = nI (S j)) → i ≤ n → n - i < e → ∃ h2, f_X8_board_l40 N e (nI i) h' = some (h.1 25 14, wr (wr (wr (wr h2 25 22 0) 25 25 0) 33 0 0) 33 1 0) ∧ (∀ c, c ≠ 31 → h2.1 c = h.1 c) ∧ ∀ j, j < n → h2.1 31 j = nI (S j) := by
  intro e
  induction e with
  | zero => intro i h' _ _ _ h2; omega
  | succ e ih =>
    intro i h' hc hr hi he
    show ∃ h2, f_X8_board_b40 N (f_X8_board_l40 N e) (nI i) h' = _ ∧ _
    unfold f_X8_board_b40
    rw [hc 25 (by decide), hn]
    by_cases hcc : i = n
    · rw [if_pos (nI_le (by omega) (by omega)), p_lt, p_lt, if_pos (by decide), p_lt, if_pos (by decide), p_lt, x_b0, show ix 0 = 0 from rfl, show ix 1 = 1 from rfl]
      refine ⟨h', ?_, hc, fun j hj => hr j (by omega)⟩
      congr 2
      rw [p_wro _ _ _ _ (by decide), p_wro _ _ _ _ (by decide), p_wrk _ _ _ _ (by decide), p_wrk _ _ _ _ (by decide), hc 25 (by decide)]
    · rw [if_neg (nI_ge (by omega) (by omega)), p_4x2, if_pos (p_ib (by omega) (by omega)), if_pos (p_ib (by omega) (by omega)), p_lt, p_lt, p_ix (by omega), p_ix (by omega), nI_1, hc 26 (by decide), hS i (by omega)]
      refine ih (i + 1) _ (fun c hc2 => by rw [p_wro _ _ _ _ hc2, hc c hc2]) (fun j hj => ?_) (by omega) (by omega)
      by_cases e2 : j = i
      · rw [e2, p_wrs]
      · rw [p_wrk _ _ _ _ e2]; exact hr j (by omega)
theorem pu_anew (N : Nat) (hN : 300 ≤ N) (h : Hp) {s : Bs} (W : WB s) (D : DR 1 h s) : ∃ f, f_X7_beginAnew N h = some (0, wr (wr (wr (wr (wr (wr (wrow h 11 (stt s.w s.g f)) 15 6 0) 0 13 (h.1 1 5)) 0 14 0) 0 12 0) 22 0 0) 22 1 0) := by
  obtain ⟨b1, b2, b3, b4, b5⟩ := W.1
  refine ⟨h.1 11, ?_⟩
  obtain ⟨X, rfl⟩ : ∃ X, N = X + 3 := ⟨N - 3, by omega⟩
  unfold f_X7_beginAnew f_X4_forget
  rw [D.1, D.2.1, pu_lay (X + 3) (by omega) s.w s.g (by omega) b2 b4 b5, p_cl]
  rfl
theorem sim_board (N : Nat) (hN : 300 ≤ N) {h : Hp} (hI : Inv h) (hC : CH h) : SimS (f_X7_board N) (f_X8_board N) h := by
  obtain ⟨s, t, B, W, D, M, T, TM0⟩ := Inv_bs hI
  obtain ⟨h1, a1, E1⟩ := pu_read N hN h T W D
  have F1 : (∀ c, c ∉ [4, 6, 7, 8, 9] → h1.1 c = h.1 c) ∧ h1.1 4 1 = h.1 4 1 := by
    cases hq : pAll t B 12 0 s 0 with
    | error f => rw [hq] at E1; exact ⟨E1.1, E1.2.1⟩
    | ok cs => rw [hq] at E1; exact ⟨E1.1, E1.2.1⟩
  cases hq : pAll t B 12 0 s 0 with
  | error f =>
    have TM1 : TM h1 t B := by unfold TM; rw [F1.1 25 (by decide), F1.1 27 (by decide)]; exact TM0
    have M1 : MR h1 s := MR_fr M (fun k _ => by rw [F1.1 25 (by decide)]) (F1.1 26 (by decide))
    obtain ⟨v, h2, a2, E2⟩ := pm_isRead N hN h1 TM1 W M1
    rw [hq] at E1 E2
    have hI2 := Inv_read hI F1.1 F1.2 E2.1
    refine ⟨-4, h1, h2, ?_, ?_, hI2.1, CH_fr hI2.2 hC⟩
    · unfold f_X7_board
      rw [a1, p_cl, if_neg (by rw [E1.2.2.1]; exact ne_m1 E1.2.2.2)]
    · unfold f_X8_board
      rw [a2, p_cl, E2.2.1, if_pos rfl]
  | ok cs =>
    have hWp := pAll_WB W hq
    rw [hq] at E1
    obtain ⟨-, -, x1, D1, W1, l1⟩ := E1
    rw [Nat.zero_add] at l1
    have n4 := W1.2.1
    generalize es : cs.foldl ap s = s' at *
    obtain ⟨hA, aA, DA, FA⟩ := pu_copy 1 7 N h1 D1 n4 (by omega)
    have DB : DR 1 (wr hA 4 1 0) s' := DR_nf DA (by rw [p_wro _ _ _ _ (by decide)]) (by rw [p_wro _ _ _ _ (by decide)]) (by rw [p_wro _ _ _ _ (by decide)])
    obtain ⟨f, aB⟩ := pu_anew N hN (wr hA 4 1 0) W1 DB
    generalize eC : wr (wr (wr (wr (wr (wr (wrow (wr hA 4 1 0) 11 (stt s'.w s'.g f)) 15 6 0) 0 13 ((wr hA 4 1 0).1 1 5)) 0 14 0) 0 12 0) 22 0 0) 22 1 0 = hC at aB
    have oC : ∀ c, c ∉ [0, 4, 11, 15, 22] → hC.1 c = hA.1 c := fun c hc => by
      rw [← eC, p_wro _ _ _ _ (fun z => hc (by simp [z])), p_wro _ _ _ _ (fun z => hc (by simp [z])), p_wro _ _ _ _ (fun z => hc (by simp [z])), p_wro _ _ _ _ (fun z => hc (by simp [z])), p_wro _ _ _ _ (fun z => hc (by simp [z])), p_wro _ _ _ _ (fun z => hc (by simp [z])), p_wrowo _ _ _ (fun z => hc (by simp [z])), p_wro _ _ _ _ (fun z => hc (by simp [z]))]
    have oC1 : ∀ c, c ∉ [0, 1, 2, 3, 4, 6, 7, 8, 9, 11, 15, 22] → hC.1 c = h.1 c := fun c hc => by
      rw [oC c (fun z => hc (by simp at z ⊢; omega)), FA c (fun z => hc (by simp [z])) (fun z => hc (by simp [z])) (fun z => hc (by simp [z])), F1.1 c (fun z => hc (by simp at z ⊢; omega))]
    have cls : f_X7_board N h = some (nI cs.length, hC) := by
      unfold f_X7_board
      rw [a1, p_cl, if_pos x1, aA, p_cl, p_lt, aB, p_cl]
      congr 2
      rw [oC 6 (by decide), FA 6 (by decide) (by decide) (by decide)]
      exact l1
    have TMC : TM hC t B := by unfold TM; rw [oC1 25 (by decide), oC1 27 (by decide)]; exact TM0
    have MC : MR hC s := MR_fr M (fun k _ => by rw [oC1 25 (by decide)]) (oC1 26 (by decide))
    obtain ⟨v, h2, a2, E2⟩ := pm_isRead N hN hC TMC W MC
    rw [hq] at E2
    obtain ⟨G2, v1, e14, hlen, hE⟩ := E2
    rw [Nat.zero_add] at e14 hlen
    have M2 : MR h2 s := MR_fr MC (fun k hk => G2.2.1 k (by simp; omega)) (G2.1 26 (by decide))
    obtain ⟨h3, a3, F3, M3⟩ := pm_do_l N hN h2 hlen e14 (fun j hj => by have := hE j hj; rwa [Nat.zero_add] at this) hWp N 0 h2 ⟨fun _ _ _ => rfl, fun _ _ => rfl⟩ M2 (by omega) (by omega)
    rw [es] at M3
    obtain ⟨m1, m2, m3, m4, m5, m6⟩ := M3
    obtain ⟨h4, a4, f4, r4⟩ := pm_at_l N (wr h3 25 6 0) (n := s'.n) (by rw [p_wrk _ _ _ _ (by decide)]; exact m5) n4 (S := s'.S) (fun i hi => by rw [p_wro _ _ _ _ (by decide)]; exact (m6 i hi).2.2.1) N 0 (wr h3 25 6 0) (fun _ _ => rfl) (fun j hj => by omega) (by omega) (by omega)
    rw [p_wrk _ _ _ _ (show (14 : Nat) ≠ 6 by decide), F3.2 14 (by omega), e14] at a4
    have mdl : f_X8_board N hC = some (nI cs.length, wr (wr (wr (wr h4 25 22 0) 25 25 0) 33 0 0) 33 1 0) := by
      unfold f_X8_board
      rw [a2, p_cl, v1, if_neg n10, p_lt]
      exact a3.trans a4
    generalize eD : wr (wr (wr (wr h4 25 22 0) 25 25 0) 33 0 0) 33 1 0 = hD at mdl
    have oD : ∀ c, c ∉ [25, 26, 28, 29, 30, 31, 33] → hD.1 c = hC.1 c := fun c hc => by
      rw [← eD, p_wro _ _ _ _ (fun z => hc (by simp [z])), p_wro _ _ _ _ (fun z => hc (by simp [z])), p_wro _ _ _ _ (fun z => hc (by simp [z])), p_wro _ _ _ _ (fun z => hc (by simp [z])), f4 c (fun z => hc (by simp [z])), p_wro _ _ _ _ (fun z => hc (by simp [z])), F3.1 c (fun z => hc (by simp [z])) (fun z => hc (by simp [z])), G2.1 c (fun z => hc (by simp at z ⊢; omega))]
    have d25 : ∀ x, x ∉ [6, 22, 25] → hD.1 25 x = h3.1 25 x := fun x hx => by
      rw [← eD, p_wro _ _ _ _ (by decide), p_wro _ _ _ _ (by decide), p_wrk _ _ _ _ (fun z => hx (by simp [z])), p_wrk _ _ _ _ (fun z => hx (by simp [z])), f4 25 (by decide), p_wrk _ _ _ _ (fun z => hx (by simp [z]))]
    have d26 : hD.1 26 = h3.1 26 := by rw [← eD, p_wro _ _ _ _ (by decide), p_wro _ _ _ _ (by decide), p_wro _ _ _ _ (by decide), p_wro _ _ _ _ (by decide), f4 26 (by decide), p_wro _ _ _ _ (by decide)]
    have d31 : ∀ i, i < s'.n → hD.1 31 i = nI (s'.S i) := fun i hi => by
      rw [← eD, p_wro _ _ _ _ (by decide), p_wro _ _ _ _ (by decide), p_wro _ _ _ _ (by decide), p_wro _ _ _ _ (by decide)]; exact r4 i hi
    -- the class's cells
    obtain ⟨q1, q2, q3, q4, q5, q6, q7, q8⟩ := DA
    have c1 : hD.1 1 = hA.1 1 := by rw [oD 1 (by decide), oC 1 (by decide)]
    have c2 : hD.1 2 = hA.1 2 := by rw [oD 2 (by decide), oC 2 (by decide)]
    have c3 : hD.1 3 = hA.1 3 := by rw [oD 3 (by decide), oC 3 (by decide)]
    have c11 : hD.1 11 = stt s'.w s'.g f := by
      rw [oD 11 (by decide), ← eC, p_wro _ _ _ _ (by decide), p_wro _ _ _ _ (by decide), p_wro _ _ _ _ (by decide), p_wro _ _ _ _ (by decide), p_wro _ _ _ _ (by decide), p_wro _ _ _ _ (by decide), p_wrows]
    have c013 : hD.1 0 13 = hA.1 1 5 := by
      rw [oD 0 (by decide), ← eC, p_wro _ _ _ _ (by decide), p_wro _ _ _ _ (by decide), p_wrk _ _ _ _ (by decide), p_wrk _ _ _ _ (by decide), p_wrs, p_wro _ _ _ _ (by decide)]
    have c014 : hD.1 0 14 = nI 0 := by
      rw [oD 0 (by decide), ← eC, p_wro _ _ _ _ (by decide), p_wro _ _ _ _ (by decide), p_wrk _ _ _ _ (by decide), p_wrs]; rfl
    have c012 : hD.1 0 12 = nI 0 := by
      rw [oD 0 (by decide), ← eC, p_wro _ _ _ _ (by decide), p_wro _ _ _ _ (by decide), p_wrs]; rfl
    have c22 : ∀ k, k < 2 → hD.1 22 k = 0 := fun k hk => by
      rw [oD 22 (by decide), ← eC]
      rcases lt2 hk with rfl | rfl
      · rw [p_wrk _ _ _ _ (by decide), p_wrs]
      · rw [p_wrs]
    have c33 : ∀ k, k < 2 → hD.1 33 k = 0 := fun k hk => by
      rw [← eD]
      rcases lt2 hk with rfl | rfl
      · rw [p_wrk _ _ _ _ (by decide), p_wrs]
      · rw [p_wrs]
    have c41 : hD.1 4 1 = nI 0 := by
      rw [oD 4 (by decide), ← eC, p_wro _ _ _ _ (by decide), p_wro _ _ _ _ (by decide), p_wro _ _ _ _ (by decide), p_wro _ _ _ _ (by decide), p_wro _ _ _ _ (by decide), p_wro _ _ _ _ (by decide), p_wrowo _ _ _ (by decide), p_wrs]; rfl
    have c256 : hD.1 25 6 = nI 0 := by
      rw [← eD, p_wro _ _ _ _ (by decide), p_wro _ _ _ _ (by decide), p_wrk _ _ _ _ (by decide), p_wrk _ _ _ _ (by decide), f4 25 (by decide), p_wrs]; rfl
    have c2522 : hD.1 25 22 = nI 0 := by
      rw [← eD, p_wro _ _ _ _ (by decide), p_wro _ _ _ _ (by decide), p_wrk _ _ _ _ (by decide), p_wrs]; rfl
    have c2525 : hD.1 25 25 = nI 0 := by
      rw [← eD, p_wro _ _ _ _ (by decide), p_wro _ _ _ _ (by decide), p_wrs]; rfl
    refine ⟨nI cs.length, hC, hD, cls, mdl, ⟨s'.w, s'.g, s'.n, s'.kd, s'.co, f, ?_, ⟨s'.S, ?_⟩, ⟨s'.L, ?_⟩, ⟨s'.S, ?_⟩, ⟨0, by omega, c014, c2522⟩, fun k hk => Or.inl ⟨c22 k hk, c33 k hk⟩, ⟨0, by omega, c012, c2525, fun j hj => by omega⟩, ⟨0, by omega, c41, c256, fun j hj => by omega⟩⟩, Or.inl ?_⟩
    · refine ⟨W1.1, by rw [c1]; exact q1, by rw [c1]; exact q2, ⟨by rw [c1]; exact q5, n4, fun i hi => ?_⟩, c11, ⟨W1.1, by rw [d25 0 (by decide)]; exact m1, by rw [d25 1 (by decide)]; exact m2⟩, ⟨by rw [d25 4 (by decide)]; exact m5, n4, fun i hi => ?_⟩, by rw [d25 2 (by decide), m3, c1]; exact q3.symm, by rw [d25 3 (by decide), m4, c1]; exact q4.symm⟩
      · rw [c2, c3]
        exact ⟨(q6 i hi).1, (W1.2.2.1 i hi).1, (q6 i hi).2, (W1.2.2.1 i hi).2.1⟩
      · rw [d26]
        exact ⟨(m6 i hi).1, (W1.2.2.1 i hi).1, (m6 i hi).2.1, (W1.2.2.1 i hi).2.1⟩
    · refine ⟨by rw [c1]; exact q7, fun i hi => ?_, W1.2.2.2.1⟩
      show hD.1 26 (4 * i + 2) = _ ∧ _
      rw [d26]
      exact ⟨(m6 i hi).2.2.1, (W1.2.2.1 i hi).2.2.1⟩
    · refine ⟨by rw [c1]; exact q8, fun i hi => ?_, W1.2.2.2.2⟩
      show hD.1 26 (4 * i + 3) = _ ∧ _
      rw [d26]
      exact ⟨(m6 i hi).2.2.2, (W1.2.2.1 i hi).2.2.2⟩
    · exact ⟨by rw [c013]; exact q7, fun i hi => ⟨d31 i hi, (W1.2.2.1 i hi).2.2.1⟩, W1.2.2.2.1⟩
    · rw [oD 15 (by decide), ← eC, p_wro _ _ _ _ (by decide), p_wro _ _ _ _ (by decide), p_wro _ _ _ _ (by decide), p_wro _ _ _ _ (by decide), p_wro _ _ _ _ (by decide), p_wrs]
