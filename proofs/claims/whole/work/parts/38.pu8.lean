/-! ===== as, keep, back, row, count, judge, write ===== -/
/-! as -/
def suchT (k a : Nat) : Bool := a == 0 || (a == 1 && decide (k < 2)) || (a == 4 && decide (2 ≤ k)) || (decide (2 ≤ a) && decide (a < 4) && k + 2 == a) || (decide (5 ≤ a) && k + 3 == a)
theorem pu_isSuch_l (N : Nat) (h : Hp) (a : Int32) (m v : Nat) (hv : v < 7) (x : Int32) (hx : x < 0 ∨ ∃ j, j < 7 ∧ x = nI j) : f_X7_isSuch_l17 N (m + 1) a x (nI v) h = if x < 0 then some (0, h) else if x = a then some (1, h) else f_X7_isSuch_l17 N m a (tb 0 (ix x)) (nI (v + 1)) h := by
  show f_X7_isSuch_b17 N (f_X7_isSuch_l17 N m) a x (nI v) h = _
  unfold f_X7_isSuch_b17 f_X7_isSuch_b46
  rw [if_neg (show ¬ (6 : Int32) < nI v from nI_nlt (a := 6) (by omega) (by omega))]
  by_cases c1 : x < 0
  · rw [if_pos c1, if_pos c1, if_pos (by decide)]
  · rw [if_neg c1, if_neg c1]
    by_cases c2 : x = a
    · rw [if_pos c2, if_pos c2, if_pos (by decide)]
    · obtain ⟨j, hj, rfl⟩ := hx.resolve_left c1
      rw [if_neg c2, if_neg c2, if_pos (p_ib (by omega) (by omega)), p_lt, p_lt, nI_1]
/-- the kinds over a kind, itself first -/
def chn (k : Nat) : List Nat := match k with
  | 0 => [2, 1, 0]
  | 1 => [3, 1, 0]
  | 2 => [5, 4, 0]
  | _ => [6, 4, 0]
theorem chn_such : ∀ k, k < 4 → ∀ a, a < 7 → ((chn k).contains a = suchT k a) := by decide
theorem pu_isSuch (N : Nat) (hN : 10 ≤ N) {k a : Nat} (hk : k < 4) (ha : a < 7) (h : Hp) : f_X7_isSuch N (nI k) (nI a) h = some (if suchT k a = true then 1 else 0, h) := by
  unfold f_X7_isSuch
  obtain ⟨m, rfl⟩ : ∃ m, N = m + 4 := ⟨N - 4, by omega⟩
  rw [pu_noKind _ k hk h, p_cl, if_pos rfl, if_pos (p_ib (by omega) (by omega)), p_lt, p_lt, p_ix (by omega)]
  have key : ∀ x y z : Nat, x < 7 → y < 7 → z < 7 → tb 1 k = nI x → tb 0 x = nI y → tb 0 y = nI z → tb 0 z = -1 → chn k = [x, y, z] → f_X7_isSuch_l17 (m + 4) (m + 4) (nI a) (tb 1 k) 0 h = some (if suchT k a = true then 1 else 0, h) := by
    intro x y z hx hy hz e1 e2 e3 e4 hc
    rw [← chn_such k hk a ha, hc, e1, show (0 : Int32) = nI 0 from rfl, pu_isSuch_l _ h _ (m + 3) 0 (by omega) _ (Or.inr ⟨x, hx, rfl⟩), if_neg (nI_pos (by omega))]
    by_cases c1 : x = a
    · rw [if_pos (by rw [c1]), c1]; simp
    · rw [if_neg (by rw [nI_eq (by omega) (by omega)]; exact c1), p_ix (by omega), e2, pu_isSuch_l _ h _ (m + 2) 1 (by omega) _ (Or.inr ⟨y, hy, rfl⟩), if_neg (nI_pos (by omega))]
      by_cases c2 : y = a
      · rw [if_pos (by rw [c2]), c2]; simp
      · rw [if_neg (by rw [nI_eq (by omega) (by omega)]; exact c2), p_ix (by omega), e3, pu_isSuch_l _ h _ (m + 1) 2 (by omega) _ (Or.inr ⟨z, hz, rfl⟩), if_neg (nI_pos (by omega))]
        by_cases c3 : z = a
        · rw [if_pos (by rw [c3]), c3]; simp
        · rw [if_neg (by rw [nI_eq (by omega) (by omega)]; exact c3), p_ix (by omega), e4, pu_isSuch_l _ h _ m 3 (by omega) _ (Or.inl p_m1), if_pos p_m1]
          simp [Ne.symm c1, Ne.symm c2, Ne.symm c3]
          rfl
  have hkk : k = 0 ∨ k = 1 ∨ k = 2 ∨ k = 3 := by omega
  rcases hkk with rfl | rfl | rfl | rfl
  · exact key 2 1 0 (by omega) (by omega) (by omega) (by decide) (by decide) (by decide) (by decide) rfl
  · exact key 3 1 0 (by omega) (by omega) (by omega) (by decide) (by decide) (by decide) (by decide) rfl
  · exact key 5 4 0 (by omega) (by omega) (by omega) (by decide) (by decide) (by decide) (by decide) rfl
  · exact key 6 4 0 (by omega) (by omega) (by omega) (by decide) (by decide) (by decide) (by decide) rfl
theorem pm_such (N : Nat) (h : Hp) {k a : Nat} (hk : k < 4) (ha : a < 7) (v1 : Int32) : (if nI a = 0 then f_X8_as_b85 N v1 (nI k) h else if nI a = 1 then if 2 ≤ nI k then f_X8_as_b89 N v1 (nI k) h else f_X8_as_b85 N v1 (nI k) h else if nI a = 4 then if nI k ≤ 1 then f_X8_as_b89 N v1 (nI k) h else f_X8_as_b85 N v1 (nI k) h else if 4 ≤ nI a then if nI k = (nI a - 3) then f_X8_as_b85 N v1 (nI k) h else f_X8_as_b89 N v1 (nI k) h else if nI k = (nI a - 2) then f_X8_as_b85 N v1 (nI k) h else f_X8_as_b89 N v1 (nI k) h) = f_X8_as_b90 N v1 (nI k) (if suchT k a = true then 1 else 0) h := by
  unfold f_X8_as_b85 f_X8_as_b89
  have hkk : k = 0 ∨ k = 1 ∨ k = 2 ∨ k = 3 := by omega
  have haa : a = 0 ∨ a = 1 ∨ a = 2 ∨ a = 3 ∨ a = 4 ∨ a = 5 ∨ a = 6 := by omega
  rcases hkk with rfl | rfl | rfl | rfl <;> rcases haa with rfl | rfl | rfl | rfl | rfl | rfl | rfl <;> rfl
theorem sim_as (N : Nat) (hN : 20 ≤ N) (a b : Int32) {h : Hp} (hI : Inv h) : Sim (f_X7_as N a b) (f_X8_as N a b) h := by
  obtain ⟨w, g, n, kd, co, f, hV⟩ := id hI
  obtain ⟨hB, -, -, ⟨P, hP⟩, -⟩ := id hV
  obtain ⟨b1, b2, b3, b4, b5, b6, b7, b8, b9⟩ := id hB
  have hn4 := b4.2.1
  have h12 := b1.2.2.2.2
  rcases n_case a (s := n) (by omega) with ⟨i, hi, rfl⟩ | ha
  rotate_left
  · refine Sim_same (-2) hI ?_ ?_
    · unfold f_X7_as
      rw [pu_noMan_out N h b4.1 ha, p_cl, if_neg (by decide)]
    · unfold f_X8_as
      rw [pm_isMan_out N h b7.1 (by omega) ha, p_cl, if_pos rfl]
  obtain ⟨c1, c2, c3, c4⟩ := b4.2.2 i hi
  obtain ⟨d1, d2, d3, d4⟩ := b7.2.2 i hi
  rcases n_case b (s := 7) (by omega) with ⟨j, hj, rfl⟩ | hb
  · refine Sim_same (if suchT (kd i) j = true then rch (stt w g f) (kd i) (P i) (h.1 1 2) (tkn P n) else -4) hI ?_ ?_
    · unfold f_X7_as
      rw [pu_noMan_in N h b4.1 (by omega) hi, p_cl, if_pos rfl, if_neg (nI_pos (n := j) (by omega)), if_pos (show nI j ≤ 6 from nI_le (b := 6) (by omega) (by omega)), if_pos (p_ib (by omega) (by omega)), p_ix (by omega), c1, pu_isSuch N (by omega) c2 hj h, p_cl]
      by_cases c : suchT (kd i) j = true
      · rw [if_pos c, if_neg (by decide), if_pos (p_ib (by omega) (by omega)), p_placeOf, p_cl, pu_taken 1 N (by omega) h b4.1 hn4 hP.1, p_cl, c1, (hP.1.2 i hi).1, pu_reached N hN (kd i) (P i) c2 (hP.1.2 i hi).2 _ _ h (IB_T hB), p_cl, if_pos c, b5]
      · rw [if_neg c, if_pos rfl, if_neg c]
    · unfold f_X8_as
      rw [pm_isMan_in N h b7.1 (by omega) hi, p_cl, if_neg (by decide), pm_in, p_cl, if_neg (nI_pos (n := j) (by omega)), if_neg (show ¬ (6 : Int32) < nI j from nI_nlt (a := 6) (by omega) (by omega)), if_neg (by decide), p_4x, if_pos (p_ib (by omega) (by omega)), p_lt, p_ix (by omega), d1, pm_such N h c2 hj]
      unfold f_X8_as_b90 f_X8_as_b121
      rw [p_lt]
      by_cases c : suchT (kd i) j = true
      · rw [if_pos c, if_pos c, if_neg (by decide), if_pos (p_ib (by omega) (by omega)), pm_taken 31 N (by omega) h b7.1 hn4 (fun i hi => (hP.2.1 i hi).1), p_cl, p_ix (by omega), (hP.2.1 i hi).1, pm_reachOf N b1 (by omega) (hP.2.1 i hi).2 _ h b6.2.1 b6.2.2 c2 f, p_cl, b8]
      · rw [if_neg c, if_neg c, if_pos rfl]
  · refine Sim_same (-3) hI ?_ ?_
    · unfold f_X7_as f_X7_as_b21
      rw [pu_noMan_in N h b4.1 (by omega) hi, p_cl, if_pos rfl]
      by_cases h0 : b < 0
      · rw [if_pos h0]
      · rw [if_neg h0, if_neg (fun z => by
          have h1 := n_m1g (n := 7) (by omega) h0 (hb.resolve_left h0)
          have h2 : (6 : Int32) < b := h1
          exact absurd z (Int32.not_le.mpr h2))]
    · unfold f_X8_as
      rw [pm_isMan_in N h b7.1 (by omega) hi, p_cl, if_neg (by decide), pm_in, p_cl]
      by_cases h0 : b < 0
      · rw [if_pos h0, if_pos rfl]
      · rw [if_neg h0, if_pos (show (6 : Int32) < b from n_m1g (n := 7) (by omega) h0 (hb.resolve_left h0)), if_pos rfl]
/-! row -/
theorem sim_row (N : Nat) (a b : Int32) {h : Hp} (hI : Inv h) : Sim (f_X7_row N a b) (f_X8_row N a b) h := by
  obtain ⟨w, g, n, kd, co, f, hV⟩ := id hI
  obtain ⟨hB, hS, hL, hP, hH, hK, ⟨r, hr, r1, r2, r3⟩, hT⟩ := id hV
  obtain ⟨b1, b2, b3, b4, b5, b6, b7, b8, b9⟩ := id hB
  have hn4 := b4.2.1
  have h12 := b1.2.2.2.2
  rcases n_case a (s := n) (by omega) with ⟨i, hi, rfl⟩ | ha
  rotate_left
  · refine Sim_same (-2) hI ?_ ?_
    · unfold f_X7_row f_X7_row_b16
      rw [pu_noMan_out N h b4.1 ha, p_cl, if_neg (by decide)]
    · unfold f_X8_row f_X8_row_b16
      rw [pm_isMan_out N h b7.1 (by omega) ha, p_cl, if_pos rfl]
  rcases n_case b (s := w * g) (by omega) with ⟨q, hq, rfl⟩ | hb
  rotate_left
  · refine Sim_same (-2) hI ?_ ?_
    · unfold f_X7_row f_X7_row_b16
      rw [pu_noMan_in N h b4.1 (by omega) hi, p_cl, if_pos rfl, pu_noSq_out N h b2 b3 hb, p_cl, if_neg (by decide)]
    · unfold f_X8_row f_X8_row_b16
      rw [pm_isMan_in N h b7.1 (by omega) hi, p_cl, if_neg (by decide), pm_isSq_out N h b6.2.1 b6.2.2 (by omega) hb, p_cl, if_pos rfl]
  by_cases c : r = 12
  · refine Sim_same (-5) hI ?_ ?_
    · unfold f_X7_row
      rw [pu_noMan_in N h b4.1 (by omega) hi, p_cl, if_pos rfl, pu_noSq_in N h b2 b3 (by omega) hq, p_cl, if_pos rfl, r1, c, if_neg (by decide)]
    · unfold f_X8_row
      rw [pm_isMan_in N h b7.1 (by omega) hi, p_cl, if_neg (by decide), pm_isSq_in N h b6.2.1 b6.2.2 (by omega) hq, p_cl, if_neg (by decide), r2, c, if_pos (by decide)]
  · have p2 : ∀ x : Nat, (2 : Int32) * nI x = nI (2 * x) := fun x => pk_mul 2 x
    refine ⟨nI (r + 1), wr (wr (wr h 23 r (nI i)) 24 r (nI q)) 0 12 (nI (r + 1)), wr (wr (wr (wr (wr (wr h 23 r (nI i)) 24 r (nI q)) 0 12 (nI (r + 1))) 34 (2 * r) (nI i)) 34 (2 * r + 1) (nI q)) 25 25 (nI (r + 1)), ?_, ?_, ?_, ?_⟩
    · unfold f_X7_row
      rw [pu_noMan_in N h b4.1 (by omega) hi, p_cl, if_pos rfl, pu_noSq_in N h b2 b3 (by omega) hq, p_cl, if_pos rfl, r1, if_pos (show nI r < 12 from nI_lt (b := 12) (by omega) (by omega)), if_pos (p_ib (by omega) (by omega)), p_lt, p_wro _ _ _ _ (by decide), r1, if_pos (p_ib (by omega) (by omega)), p_lt, p_lt, p_ix (by omega), p_wrs, p_wro _ _ _ _ (by decide), p_wro _ _ _ _ (by decide), r1, nI_1]
    · generalize hh : wr (wr (wr h 23 r (nI i)) 24 r (nI q)) 0 12 (nI (r + 1)) = h1
      have cc : h1.1 25 = h.1 25 := by rw [← hh, p_wro _ _ _ _ (by decide), p_wro _ _ _ _ (by decide), p_wro _ _ _ _ (by decide)]
      unfold f_X8_row
      rw [pm_isMan_in N h1 (n := n) (by rw [cc]; exact b7.1) (by omega) hi, p_cl, if_neg (by decide), pm_isSq_in N h1 (w := w) (g := g) (by rw [cc]; exact b6.2.1) (by rw [cc]; exact b6.2.2) (by omega) hq, p_cl, if_neg (by decide), cc, r2, if_neg (show ¬ nI r = 12 by rw [show (12 : Int32) = nI 12 from rfl, nI_eq (by omega) (by omega)]; exact c), p2, if_pos (p_ib (by omega) (by omega)), p_lt, p_wro _ _ _ _ (by decide), cc, r2, p2, nI_1, if_pos (p_ib (by omega) (by omega)), p_lt, p_lt, p_ix (by omega), p_ix (by omega), p_wrs, p_wro _ _ _ _ (by decide), p_wro _ _ _ _ (by decide), cc, r2, nI_1]
    · refine ⟨w, g, n, kd, co, f, ?_⟩
      generalize hh : wr (wr (wr (wr (wr (wr h 23 r (nI i)) 24 r (nI q)) 0 12 (nI (r + 1))) 34 (2 * r) (nI i)) 34 (2 * r + 1) (nI q)) 25 25 (nI (r + 1)) = h2
      have c : ∀ a, a ≠ 0 → a ≠ 25 → a ≠ 34 → a ≠ 23 → a ≠ 24 → h2.1 a = h.1 a := fun a h1 h3 h4 h5 h6 => by rw [← hh, p_wro _ _ _ _ h3, p_wro _ _ _ _ h4, p_wro _ _ _ _ h4, p_wro _ _ _ _ h1, p_wro _ _ _ _ h6, p_wro _ _ _ _ h5]
      have mm : ∀ k, k ≠ 25 → h2.1 25 k = h.1 25 k := fun k hk => by rw [← hh, p_wrk _ _ _ _ hk, p_wro _ _ _ _ (by decide), p_wro _ _ _ _ (by decide), p_wro _ _ _ _ (by decide), p_wro _ _ _ _ (by decide), p_wro _ _ _ _ (by decide)]
      have zz : ∀ k, k ≠ 12 → h2.1 0 k = h.1 0 k := fun k hk => by rw [← hh, p_wro _ _ _ _ (by decide), p_wro _ _ _ _ (by decide), p_wro _ _ _ _ (by decide), p_wrk _ _ _ _ hk, p_wro _ _ _ _ (by decide), p_wro _ _ _ _ (by decide)]
      refine IV_mk hV (c 1 (by decide) (by decide) (by decide) (by decide) (by decide)) (c 2 (by decide) (by decide) (by decide) (by decide) (by decide)) (c 3 (by decide) (by decide) (by decide) (by decide) (by decide)) (c 11 (by decide) (by decide) (by decide) (by decide) (by decide)) (fun k hk => mm k (by omega)) (c 26 (by decide) (by decide) (by decide) (by decide) (by decide)) ?_ (IH_congr (zz 14 (by decide)) (mm 22 (by decide)) hH) (fun k hk => IK_congr (c 20 (by decide) (by decide) (by decide) (by decide) (by decide)) (c 21 (by decide) (by decide) (by decide) (by decide) (by decide)) (c 22 (by decide) (by decide) (by decide) (by decide) (by decide)) (c 32 (by decide) (by decide) (by decide) (by decide) (by decide)) (c 33 (by decide) (by decide) (by decide) (by decide) (by decide)) (hK k hk)) ?_ (IT_congr (by rw [c 4 (by decide) (by decide) (by decide) (by decide) (by decide)]) (mm 6 (by decide)) (c 5 (by decide) (by decide) (by decide) (by decide) (by decide)) (c 27 (by decide) (by decide) (by decide) (by decide) (by decide)) hT)
      · rw [zz 13 (by decide), c 31 (by decide) (by decide) (by decide) (by decide) (by decide)]; exact hP
      · refine ⟨r + 1, by omega, ?_, ?_, fun j hj => ?_⟩
        · rw [← hh, p_wro _ _ _ _ (by decide), p_wro _ _ _ _ (by decide), p_wro _ _ _ _ (by decide), p_wrs]
        · rw [← hh, p_wrs]
        · have e23 : h2.1 23 j = if j = r then nI i else h.1 23 j := by
            rw [← hh, p_wro _ _ _ _ (by decide), p_wro _ _ _ _ (by decide), p_wro _ _ _ _ (by decide), p_wro _ _ _ _ (by decide), p_wro _ _ _ _ (by decide), p_wr, if_pos rfl]
          have e24 : h2.1 24 j = if j = r then nI q else h.1 24 j := by
            rw [← hh, p_wro _ _ _ _ (by decide), p_wro _ _ _ _ (by decide), p_wro _ _ _ _ (by decide), p_wro _ _ _ _ (by decide), p_wr, if_pos rfl, p_wro _ _ _ _ (by decide)]
          have e34 : ∀ x, h2.1 34 x = if x = 2 * r + 1 then nI q else if x = 2 * r then nI i else h.1 34 x := by
            intro x
            rw [← hh, p_wro _ _ _ _ (by decide), p_wr, if_pos rfl, p_wr, if_pos rfl, p_wro _ _ _ _ (by decide), p_wro _ _ _ _ (by decide), p_wro _ _ _ _ (by decide)]
          rw [e23, e24, e34, e34]
          by_cases cj : j = r
          · subst cj
            refine ⟨i, q, hi, hq, if_pos rfl, if_pos rfl, ?_, if_pos rfl⟩
            rw [if_neg (by omega), if_pos rfl]
          · rw [if_neg cj, if_neg cj, if_neg (by omega), if_neg (by omega), if_neg (by omega), if_neg (by omega)]
            exact r3 j (by omega)
    · intro c hc
      rw [p_wro _ _ _ _ (fun z => by subst z; revert hc; decide), p_wro _ _ _ _ (fun z => by subst z; revert hc; decide), p_wro _ _ _ _ (fun z => by subst z; revert hc; decide), p_wro _ _ _ _ (fun z => by subst z; revert hc; decide), p_wro _ _ _ _ (fun z => by subst z; revert hc; decide), p_wro _ _ _ _ (fun z => by subst z; revert hc; decide)]
/-! count -/
theorem ite_some (c : Prop) [Decidable c] (x y : Int32) (h : Hp) : (if c then some (x, h) else some (y, h)) = some (if c then x else y, h) := by split <;> rfl
def hmI (P L : Nat → Nat) (n : Nat) : Int32 := orf (fun i => if P i = L i then sg (nI i) else 0) n
theorem pu_home_l (N : Nat) (h : Hp) {n : Nat} (hn : h.1 1 4 = nI n) (hn4 : n ≤ 4) {P L : Nat → Nat} (hp : PC (h.1 0 13) n P) (hl : PC (h.1 1 6) n L) : ∀ (m i : Nat), i ≤ n → n - i < m → f_X7_menAtHome_l4 N m (hmI P L i) (nI i) h = some (hmI P L n, h) := by
  intro m
  induction m with
  | zero => intro i _ h2; omega
  | succ m ih =>
    intro i hi hm
    show f_X7_menAtHome_b4 N (f_X7_menAtHome_l4 N m) (hmI P L i) (nI i) h = _
    unfold f_X7_menAtHome_b4 f_X7_menAtHome_b43
    rw [hn]
    by_cases hc : n ≤ i
    · have e : i = n := by omega
      subst e
      rw [if_pos (nI_le (Nat.le_refl _) (by omega))]
    · obtain ⟨p1, p2⟩ := hp.2 i (by omega)
      obtain ⟨l1, l2⟩ := hl.2 i (by omega)
      have step := ih (i + 1) (by omega) (by omega)
      rw [if_neg (nI_ge (by omega) (by omega)), p_placeOf, p_cl, p_placeOf, p_cl, p1, l1]
      by_cases c : P i = L i
      · rw [if_pos (by rw [c]), p_lt, p_lt, nI_1, ← step]
        congr 1
        show _ = orf _ i ||| _
        dsimp only
        rw [if_pos c]
        rfl
      · rw [if_neg (by rw [nI_eq (by omega) (by omega)]; exact c), p_lt, nI_1, ← step]
        congr 1
        show _ = orf _ i ||| _
        dsimp only
        rw [if_neg c, or_0]
        rfl
theorem pm_count_l (N : Nat) (h : Hp) {n : Nat} (hn : h.1 25 4 = nI n) (hn4 : n ≤ 4) {P L : Nat → Nat} (hp : ∀ i, i < n → h.1 31 i = nI (P i) ∧ P i < 12) (hl : ∀ i, i < n → h.1 26 (4 * i + 3) = nI (L i) ∧ L i < 12) (a : Int32) : ∀ (m i : Nat), i ≤ n → n - i < m → f_X8_count_l4 N m a (hmI P L i) (nI i) h = some (if a = 0 then h.1 25 0 else if a = 1 then h.1 25 1 else if a = 2 then h.1 25 4 else if a = 3 then h.1 25 2 else if a = 4 then h.1 25 3 else if a = 5 then h.1 25 22 else if a = 6 then hmI P L n else if a = 7 then h.1 25 25 else if a = 8 then h.1 25 6 else -3, h) := by
  intro m
  induction m with
  | zero => intro i _ h2; omega
  | succ m ih =>
    intro i hi hm
    show f_X8_count_b4 N (f_X8_count_l4 N m) a (hmI P L i) (nI i) h = _
    unfold f_X8_count_b4 f_X8_count_b39
    by_cases hc : n ≤ i
    · have e : i = n := by omega
      subst e
      rw [if_pos (show h.1 25 4 ≤ nI i by rw [hn]; exact nI_le (Nat.le_refl _) (by omega))]
      repeat' split
      all_goals rfl
    · obtain ⟨p1, p2⟩ := hp i (by omega)
      obtain ⟨l1, l2⟩ := hl i (by omega)
      have step := ih (i + 1) (by omega) (by omega)
      rw [if_neg (show ¬ h.1 25 4 ≤ nI i by rw [hn]; exact nI_ge (by omega) (by omega)), if_pos (p_ib (by omega) (by omega)), p_4x3, if_pos (p_ib (by omega) (by omega)), p_ix (by omega), p_ix (by omega), p1, l1]
      by_cases c : P i = L i
      · rw [if_pos (by rw [c]), p_lt, p_lt, nI_1, ← step]
        congr 1
        show _ = orf _ i ||| _
        dsimp only
        rw [if_pos c]
        rfl
      · rw [if_neg (by rw [nI_eq (by omega) (by omega)]; exact c), p_lt, p_lt, nI_1, ← step]
        congr 1
        show _ = orf _ i ||| _
        dsimp only
        rw [if_neg c]
        rfl
theorem sim_count (N : Nat) (hN : 20 ≤ N) (a : Int32) {h : Hp} (hI : Inv h) : Sim (f_X7_count N a) (f_X8_count N a) h := by
  obtain ⟨w, g, n, kd, co, f, hV⟩ := id hI
  obtain ⟨hB, hS, ⟨L, hL⟩, ⟨P, hP⟩, ⟨m, hm, m1, m2⟩, hK, ⟨r, hr, r1, r2, r3⟩, ⟨t, ht, t1, t2, t3⟩⟩ := id hV
  obtain ⟨b1, b2, b3, b4, b5, b6, b7, b8, b9⟩ := id hB
  have hn4 := b4.2.1
  have h12 := b1.2.2.2.2
  refine Sim_same (if a = 0 then h.1 25 0 else if a = 1 then h.1 25 1 else if a = 2 then h.1 25 4 else if a = 3 then h.1 25 2 else if a = 4 then h.1 25 3 else if a = 5 then h.1 25 22 else if a = 6 then hmI P L n else if a = 7 then h.1 25 25 else if a = 8 then h.1 25 6 else -3) hI ?_ ?_
  · unfold f_X7_count f_X7_menAtHome
    have e : f_X7_menAtHome_l4 N N 0 0 h = some (hmI P L n, h) := pu_home_l N h b4.1 hn4 hP.1 hL.1 N 0 (by omega) (by omega)
    rw [p_lt, p_lt, e, p_cl, b6.2.1, b6.2.2, b7.1, b8, b9, m2, r2, t2, b2, b3, b4.1, m1, r1, t1]
    simp only [ite_some]
  · unfold f_X8_count
    rw [p_lt, p_lt]
    exact pm_count_l N h b7.1 hn4 (fun i hi => ⟨(hP.2.1 i hi).1, by have := (hP.2.1 i hi).2; omega⟩) (fun i hi => ⟨(hL.2.1 i hi).1, by have := (hL.2.1 i hi).2; omega⟩) a N 0 (by omega) (by omega)
