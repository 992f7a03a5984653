/-! ===== keep, back, judge, write ===== -/
theorem IV_fr {h h' : Hp} {w g n : Nat} {kd co : Nat → Nat} {f : Nat → Int32} (c : ∀ a, a ∈ [0, 1, 2, 3, 4, 5, 11, 20, 21, 22, 23, 24, 26, 27, 31, 32, 33, 34] → h'.1 a = h.1 a) (m : ∀ k, k ∈ [0, 1, 2, 3, 4, 6, 22, 25] → h'.1 25 k = h.1 25 k) (hI : IV h w g n kd co f) : IV h' w g n kd co f :=
  IV_congr (c 0 (by decide)) (c 1 (by decide)) (c 2 (by decide)) (c 3 (by decide)) (by rw [c 4 (by decide)]) (c 5 (by decide)) (c 11 (by decide)) (c 20 (by decide)) (c 21 (by decide)) (c 22 (by decide)) (c 23 (by decide)) (c 24 (by decide)) m (c 26 (by decide)) (c 27 (by decide)) (c 31 (by decide)) (c 32 (by decide)) (c 33 (by decide)) (c 34 (by decide)) hI
theorem x_b1 : vp_nar .boolean 1 = 1 := by decide
theorem x_b0 : vp_nar .boolean 0 = 0 := by decide
theorem keep_inv {h h2 : Hp} {w g n : Nat} {kd co : Nat → Nat} {f : Nat → Int32} (hV : IV h w g n kd co f) {k : Nat} (hk : k < 2) (c : ∀ a, a ≠ 20 → a ≠ 21 → a ≠ 22 → a ≠ 32 → a ≠ 33 → h2.1 a = h.1 a) (e20 : ∀ j, h2.1 20 j = if j = k then h.1 0 13 else h.1 20 j) (e21 : ∀ j, h2.1 21 j = if j = k then h.1 0 14 else h.1 21 j) (e22 : ∀ j, h2.1 22 j = if j = k then 1 else h.1 22 j) (e33 : ∀ j, h2.1 33 j = if j = k then 1 else h.1 33 j) (e32 : ∀ j, j < 2 → ∀ i, i < 5 → h2.1 32 (5 * j + i) = if j = k then (if i = 4 then h.1 25 22 else h.1 31 i) else h.1 32 (5 * j + i)) : IV h2 w g n kd co f := by
  obtain ⟨hB, hS, hL, ⟨P, hP⟩, ⟨m, hm, m1, m2⟩, hK, hR, hT⟩ := id hV
  have hn4 := hB.2.2.2.1.2.1
  have cc : ∀ a, a ∉ [20, 21, 22, 32, 33] → h2.1 a = h.1 a := fun a ha => c a (fun z => ha (by simp [z])) (fun z => ha (by simp [z])) (fun z => ha (by simp [z])) (fun z => ha (by simp [z])) (fun z => ha (by simp [z]))
  refine IV_mk hV (cc 1 (by decide)) (cc 2 (by decide)) (cc 3 (by decide)) (cc 11 (by decide)) (fun k _ => by rw [cc 25 (by decide)]) (cc 26 (by decide)) ?_ (IH_congr (by rw [cc 0 (by decide)]) (by rw [cc 25 (by decide)]) ⟨m, hm, m1, m2⟩) ?_ (IR_congr (by rw [cc 0 (by decide)]) (by rw [cc 25 (by decide)]) (cc 23 (by decide)) (cc 24 (by decide)) (cc 34 (by decide)) hR) (IT_congr (by rw [cc 4 (by decide)]) (by rw [cc 25 (by decide)]) (cc 5 (by decide)) (cc 27 (by decide)) hT)
  · rw [cc 0 (by decide), cc 31 (by decide)]; exact ⟨P, hP⟩
  · intro j hj
    unfold IK
    rw [e20, e21, e22, e33, e32 j hj 4 (by omega)]
    by_cases hjk : j = k
    · right
      rw [if_pos hjk, if_pos hjk, if_pos hjk, if_pos hjk, if_pos hjk, if_pos rfl]
      refine ⟨rfl, rfl, ⟨P, hP.1, fun i hi => ?_, hP.2.2⟩, m, hm, m1, m2⟩
      have q := e32 j hj i (by omega)
      rw [if_pos hjk, if_neg (by omega)] at q
      show h2.1 32 (5 * j + i) = _ ∧ _
      rw [q]
      exact hP.2.1 i hi
    · rw [if_neg hjk, if_neg hjk, if_neg hjk, if_neg hjk, if_neg hjk]
      rcases hK j hj with h0 | ⟨h1, h2', ⟨Q, hQ⟩, h4⟩
      · exact Or.inl h0
      · refine Or.inr ⟨h1, h2', ⟨Q, hQ.1, fun i hi => ?_, hQ.2.2⟩, h4⟩
        have q := e32 j hj i (by omega)
        rw [if_neg hjk] at q
        show h2.1 32 (5 * j + i) = _ ∧ _
        rw [q]
        exact hQ.2.1 i hi
theorem lt2 {k : Nat} (h : k < 2) : k = 0 ∨ k = 1 := by omega
theorem sim_keep (N : Nat) (hN : 20 ≤ N) (a : Int32) {h : Hp} (hI : Inv h) : Sim (f_X7_keep N a) (f_X8_keep N a) h := by
  obtain ⟨w, g, n, kd, co, f, hV⟩ := id hI
  obtain ⟨hB, hS, hL, ⟨P, hP⟩, ⟨m, hm, m1, m2⟩, hK, hR, hT⟩ := id hV
  obtain ⟨N, rfl⟩ : ∃ r, N = r + 6 := ⟨N - 6, by omega⟩
  rcases n_case a (s := 2) (by omega) with ⟨k, hk, rfl⟩ | ha
  rotate_left
  · refine Sim_same (-2) hI ?_ ?_
    · unfold f_X7_keep f_X7_keep_b9
      by_cases h0 : a < 0
      · rw [if_pos h0]
      · rw [if_neg h0, if_neg (show ¬ a < 2 from Int32.not_lt.mpr (ha.resolve_left h0))]
    · unfold f_X8_keep
      rw [pm_in, p_cl]
      by_cases h0 : a < 0
      · rw [if_pos h0, if_pos rfl]
      · rw [if_neg h0, if_pos (show (1 : Int32) < a from n_m1g (n := 2) (by omega) h0 (ha.resolve_left h0)), if_pos rfl]
  · rcases lt2 hk with rfl | rfl
    · refine ⟨h.1 0 14, wr (wr (wr h 20 0 (h.1 0 13)) 21 0 (h.1 0 14)) 22 0 1, wr (wr (wr (wr (wr (wr (wr (wr (wr h 20 0 (h.1 0 13)) 21 0 (h.1 0 14)) 22 0 1) 32 0 (h.1 31 0)) 32 1 (h.1 31 1)) 32 2 (h.1 31 2)) 32 3 (h.1 31 3)) 32 4 (h.1 25 22)) 33 0 1, rfl, ?_, ?_, ?_⟩
      · rw [m1, ← m2]; rfl
      · refine ⟨w, g, n, kd, co, f, keep_inv hV (k := 0) (by omega) ?_ ?_ ?_ ?_ ?_ ?_⟩
        · intro a h1 h2 h3 h4 h5
          simp only [p_wro _ _ _ _ h1, p_wro _ _ _ _ h2, p_wro _ _ _ _ h3, p_wro _ _ _ _ h4, p_wro _ _ _ _ h5]
        · intro j; simp [p_wr]
        · intro j; simp [p_wr]
        · intro j; simp [p_wr]
        · intro j; simp [p_wr]
        · intro j hj i hi
          have hii : i = 0 ∨ i = 1 ∨ i = 2 ∨ i = 3 ∨ i = 4 := by omega
          rcases lt2 hj with rfl | rfl <;> rcases hii with rfl | rfl | rfl | rfl | rfl <;> simp [p_wr]
      · intro c hc
        have hcc : ∀ a, a ∈ [20, 21, 22, 32, 33] → c ≠ a := fun a ha z => by subst z; revert hc ha; revert c; decide
        simp only [p_wro _ _ _ _ (hcc 20 (by decide)), p_wro _ _ _ _ (hcc 21 (by decide)), p_wro _ _ _ _ (hcc 22 (by decide)), p_wro _ _ _ _ (hcc 32 (by decide)), p_wro _ _ _ _ (hcc 33 (by decide))]
    · refine ⟨h.1 0 14, wr (wr (wr h 20 1 (h.1 0 13)) 21 1 (h.1 0 14)) 22 1 1, wr (wr (wr (wr (wr (wr (wr (wr (wr h 20 1 (h.1 0 13)) 21 1 (h.1 0 14)) 22 1 1) 32 5 (h.1 31 0)) 32 6 (h.1 31 1)) 32 7 (h.1 31 2)) 32 8 (h.1 31 3)) 32 9 (h.1 25 22)) 33 1 1, rfl, ?_, ?_, ?_⟩
      · rw [m1, ← m2]; rfl
      · refine ⟨w, g, n, kd, co, f, keep_inv hV (k := 1) (by omega) ?_ ?_ ?_ ?_ ?_ ?_⟩
        · intro a h1 h2 h3 h4 h5
          simp only [p_wro _ _ _ _ h1, p_wro _ _ _ _ h2, p_wro _ _ _ _ h3, p_wro _ _ _ _ h4, p_wro _ _ _ _ h5]
        · intro j; simp [p_wr]
        · intro j; simp [p_wr]
        · intro j; simp [p_wr]
        · intro j; simp [p_wr]
        · intro j hj i hi
          have hii : i = 0 ∨ i = 1 ∨ i = 2 ∨ i = 3 ∨ i = 4 := by omega
          rcases lt2 hj with rfl | rfl <;> rcases hii with rfl | rfl | rfl | rfl | rfl <;> simp [p_wr]
      · intro c hc
        have hcc : ∀ a, a ∈ [20, 21, 22, 32, 33] → c ≠ a := fun a ha z => by subst z; revert hc ha; revert c; decide
        simp only [p_wro _ _ _ _ (hcc 20 (by decide)), p_wro _ _ _ _ (hcc 21 (by decide)), p_wro _ _ _ _ (hcc 22 (by decide)), p_wro _ _ _ _ (hcc 32 (by decide)), p_wro _ _ _ _ (hcc 33 (by decide))]
/-! back -/
theorem back_inv {h h2 : Hp} {w g n : Nat} {kd co : Nat → Nat} {f : Nat → Int32} (hV : IV h w g n kd co f) (c : ∀ a, a ≠ 0 → a ≠ 25 → a ≠ 31 → h2.1 a = h.1 a) (e0 : h2.1 0 12 = h.1 0 12) (m : ∀ k, k ≠ 22 → h2.1 25 k = h.1 25 k) (hP : ∃ P, PQ (h2.1 0 13) (h2.1 31) (w * g) n P) (hH : IH h2) : IV h2 w g n kd co f := by
  obtain ⟨hB, hS, hL, -, -, hK, hR, hT⟩ := id hV
  exact IV_mk hV (c 1 (by decide) (by decide) (by decide)) (c 2 (by decide) (by decide) (by decide)) (c 3 (by decide) (by decide) (by decide)) (c 11 (by decide) (by decide) (by decide)) (fun k hk => m k (by omega)) (c 26 (by decide) (by decide) (by decide)) hP hH (fun k hk => IK_congr (c 20 (by decide) (by decide) (by decide)) (c 21 (by decide) (by decide) (by decide)) (c 22 (by decide) (by decide) (by decide)) (c 32 (by decide) (by decide) (by decide)) (c 33 (by decide) (by decide) (by decide)) (hK k hk)) (IR_congr e0 (m 25 (by decide)) (c 23 (by decide) (by decide) (by decide)) (c 24 (by decide) (by decide) (by decide)) (c 34 (by decide) (by decide) (by decide)) hR) (IT_congr (by rw [c 4 (by decide) (by decide) (by decide)]) (m 6 (by decide)) (c 5 (by decide) (by decide) (by decide)) (c 27 (by decide) (by decide) (by decide)) hT)
theorem sim_back (N : Nat) (hN : 20 ≤ N) (a : Int32) {h : Hp} (hI : Inv h) : Sim (f_X7_back N a) (f_X8_back N a) h := by
  obtain ⟨w, g, n, kd, co, f, hV⟩ := id hI
  obtain ⟨hB, hS, hL, ⟨P, hP⟩, hH, hK, hR, hT⟩ := id hV
  have hn4 := hB.2.2.2.1.2.1
  obtain ⟨N, rfl⟩ : ∃ r, N = r + 6 := ⟨N - 6, by omega⟩
  rcases n_case a (s := 2) (by omega) with ⟨k, hk, rfl⟩ | ha
  rotate_left
  · refine Sim_same (-2) hI ?_ ?_
    · unfold f_X7_back f_X7_back_b9
      by_cases h0 : a < 0
      · rw [if_pos h0]
      · rw [if_neg h0, if_neg (show ¬ a < 2 from Int32.not_lt.mpr (ha.resolve_left h0))]
    · unfold f_X8_back
      rw [pm_in, p_cl]
      by_cases h0 : a < 0
      · rw [if_pos h0, if_pos rfl]
      · rw [if_neg h0, if_pos (show (1 : Int32) < a from n_m1g (n := 2) (by omega) h0 (ha.resolve_left h0)), if_pos rfl]
  · rcases hK k hk with ⟨k1, k2⟩ | ⟨k1, k2, ⟨Q, hQ⟩, m, hm, m1, m2⟩
    · refine Sim_same (-4) hI ?_ ?_
      · unfold f_X7_back
        rw [if_neg (nI_pos (n := k) (by omega)), if_pos (show nI k < 2 from nI_lt (b := 2) hk (by omega)), if_pos (p_ib hk (by omega)), p_ix (by omega), k1, if_pos rfl]
      · unfold f_X8_back
        rw [pm_in, p_cl, if_neg (nI_pos (n := k) (by omega)), if_neg (show ¬ (1 : Int32) < nI k from nI_nlt (a := 1) (by omega) (by omega)), if_neg (by decide), if_pos (p_ib hk (by omega)), p_ix (by omega), k2, if_pos rfl]
    · have hcls : f_X7_back (N + 6) (nI k) h = some (nI m, wr (wr h 0 13 (h.1 20 k)) 0 14 (nI m)) := by
        unfold f_X7_back
        rw [if_neg (nI_pos (n := k) (by omega)), if_pos (show nI k < 2 from nI_lt (b := 2) hk (by omega)), if_pos (p_ib hk (by omega)), p_ix (by omega), k1, if_neg (by decide), if_pos (p_ib hk (by omega)), p_lt, if_pos (p_ib hk (by omega)), p_lt, p_wrs, p_wro _ _ _ _ (by decide), m1]
      have hmod : f_X8_back (N + 6) (nI k) (wr (wr h 0 13 (h.1 20 k)) 0 14 (nI m)) = some (nI m, wr (wr (wr (wr (wr (wr (wr h 0 13 (h.1 20 k)) 0 14 (nI m)) 31 0 (h.1 32 (5 * k + 0))) 31 1 (h.1 32 (5 * k + 1))) 31 2 (h.1 32 (5 * k + 2))) 31 3 (h.1 32 (5 * k + 3))) 25 22 (nI m)) := by
        unfold f_X8_back
        rw [pm_in, p_cl, if_neg (nI_pos (n := k) (by omega)), if_neg (show ¬ (1 : Int32) < nI k from nI_nlt (a := 1) (by omega) (by omega)), if_neg (by decide), if_pos (p_ib hk (by omega)), p_ix (by omega), p_wro _ _ _ _ (by decide), p_wro _ _ _ _ (by decide), k2, if_neg (by decide), p_lt]
        rcases lt2 hk with rfl | rfl <;> (rw [← m2]; rfl)
      refine ⟨nI m, _, _, hcls, hmod, ⟨w, g, n, kd, co, f, back_inv hV ?_ ?_ ?_ ⟨Q, ?_⟩ ⟨m, hm, ?_, ?_⟩⟩, ?_⟩
      · intro a h1 h2 h3
        simp only [p_wro _ _ _ _ h1, p_wro _ _ _ _ h2, p_wro _ _ _ _ h3]
      · simp [p_wr]
      · intro k hk; simp [p_wr, hk]
      · have e : ∀ i, i < n → (wr (wr (wr (wr (wr (wr (wr h 0 13 (h.1 20 k)) 0 14 (nI m)) 31 0 (h.1 32 (5 * k + 0))) 31 1 (h.1 32 (5 * k + 1))) 31 2 (h.1 32 (5 * k + 2))) 31 3 (h.1 32 (5 * k + 3))) 25 22 (nI m)).1 31 i = h.1 32 (5 * k + i) := by
          intro i hi
          have hii : i = 0 ∨ i = 1 ∨ i = 2 ∨ i = 3 := by omega
          rcases hii with rfl | rfl | rfl | rfl <;> simp [p_wr]
        refine ⟨?_, fun i hi => ?_, hQ.2.2⟩
        · have e13 : (wr (wr (wr (wr (wr (wr (wr h 0 13 (h.1 20 k)) 0 14 (nI m)) 31 0 (h.1 32 (5 * k + 0))) 31 1 (h.1 32 (5 * k + 1))) 31 2 (h.1 32 (5 * k + 2))) 31 3 (h.1 32 (5 * k + 3))) 25 22 (nI m)).1 0 13 = h.1 20 k := by simp [p_wr]
          rw [e13]; exact hQ.1
        · rw [e i hi]; exact hQ.2.1 i hi
      · simp [p_wr]
      · simp [p_wr]
      · intro c hc
        have hcc : ∀ a, a ∈ [0, 25, 31] → c ≠ a := fun a ha z => by subst z; revert hc ha; revert c; decide
        simp only [p_wro _ _ _ _ (hcc 0 (by decide)), p_wro _ _ _ _ (hcc 25 (by decide)), p_wro _ _ _ _ (hcc 31 (by decide))]
/-! judge -/
def jdg (T : Nat → Int32) (n : Nat) (kd co : Nat → Nat) (ho lw : Int32) (A B : Nat → Nat) (m : Nat) : Nat → Nat → (Nat → Nat) → Int32
  | 0, _, _ => -1
  | r + 1, k, P => if bt (mayI T n kd co P ho lw (A k) ((m + k) % 2)) (B k) = true then jdg T n kd co ho lw A B m r (k + 1) (mvP P (A k) (B k)) else nI k
theorem pu_judge_l (N : Nat) (hN : 20 ≤ N) (h : Hp) {n : Nat} {kd co : Nat → Nat} (hB : BC h n kd co) (hT : Tok (h.1 11)) {m r : Nat} (hm : m ≤ 9999) (hr : r ≤ 12) (m1 : h.1 0 14 = nI m) (r1 : h.1 0 12 = nI r) {A B : Nat → Nat} (hA : ∀ j, j < r → A j < n ∧ B j < 12 ∧ h.1 23 j = nI (A j) ∧ h.1 24 j = nI (B j)) : ∀ (e k : Nat) (p : Int32) (P : Nat → Nat), PC p n P → k ≤ r → r - k < e → f_X7_judge_l7 N e p (nI k) h = some (jdg (h.1 11) n kd co (h.1 1 2) (h.1 1 3) A B m (r - k) k P, h) := by
  intro e
  induction e with
  | zero => intro k p P _ _ h2; omega
  | succ e ih =>
    intro k p P hp hk he
    show f_X7_judge_b7 N (f_X7_judge_l7 N e) p (nI k) h = _
    unfold f_X7_judge_b7 f_X7_judge_b87
    rw [r1]
    by_cases hc : r ≤ k
    · rw [if_pos (nI_le hc (by omega)), show r - k = 0 by omega]
      rfl
    · obtain ⟨a1, a2, a3, a4⟩ := hA k (by omega)
      have hn4 := hB.2.1
      rw [if_neg (nI_ge (by omega) (by omega)), if_neg (show ¬ (12 : Int32) ≤ nI k from nI_ge (a := k) (b := 12) (by omega) (by omega)), if_pos (p_ib (by omega) (by omega)), p_ix (by omega), a3, m1, nI_add, pu_allowed N hN h hB hp hT a1 (t := (m + k) % 2) (turn_and (by omega)) (by omega), p_cl, p_lt, if_pos (p_ib (by omega) (by omega)), a4, p_bit, p_cl]
      obtain ⟨x, hx⟩ : ∃ x, r - k = x + 1 := ⟨r - k - 1, by omega⟩
      rw [hx]
      show _ = some ((if bt (mayI (h.1 11) n kd co P (h.1 1 2) (h.1 1 3) (A k) ((m + k) % 2)) (B k) = true then jdg (h.1 11) n kd co (h.1 1 2) (h.1 1 3) A B m x (k + 1) (mvP P (A k) (B k)) else nI k), h)
      by_cases c : bt (mayI (h.1 11) n kd co P (h.1 1 2) (h.1 1 3) (A k) ((m + k) % 2)) (B k) = true
      · rw [if_pos c, (bi_1 (by omega)).mpr c, if_neg (by decide), if_pos (p_ib (by omega) (by omega)), if_pos (p_ib (by omega) (by omega)), a3, a4, p_moved, p_cl, p_lt, p_lt, nI_1, ih (k + 1) _ _ (PC_mvd hp hn4 a1 a2) (by omega) (by omega), show r - (k + 1) = x by omega]
        rfl
      · rw [if_neg c, (bi_0 (by omega)).mpr (by simpa using c), if_pos rfl]
theorem pm_judge_l (N : Nat) (hN : 20 ≤ N) (h : Hp) {w g : Nat} (hM : MB h w g) (f : Nat → Int32) {n : Nat} {kd co : Nat → Nat} (hB : BM h n kd co) {m r : Nat} (hm : m ≤ 9999) (hr : r ≤ 12) (m1 : h.1 25 22 = nI m) (r1 : h.1 25 25 = nI r) {A B : Nat → Nat} (hA : ∀ j, j < r → A j < n ∧ B j < w * g ∧ h.1 34 (2 * j) = nI (A j) ∧ h.1 34 (2 * j + 1) = nI (B j)) : ∀ (e k : Nat) (h' : Hp) (P : Nat → Nat), (∀ c, c ≠ 39 → h'.1 c = h.1 c) → (∀ i, i < n → h'.1 39 i = nI (P i) ∧ P i < w * g) → k ≤ r → r - k < e → ∃ h2, f_X8_judge_l30 N e (nI k) h' = some (jdg (stt w g f) n kd co (h.1 25 2) (h.1 25 3) A B m (r - k) k P, h2) ∧ ∀ c, c ≠ 39 → h2.1 c = h.1 c := by
  have p2 : ∀ x : Nat, (2 : Int32) * nI x = nI (2 * x) := fun x => pk_mul 2 x
  intro e
  induction e with
  | zero => intro k p P _ _ _ h2; omega
  | succ e ih =>
    intro k h' P hc hp hk he
    have hM' : MB h' w g := by unfold MB; rw [hc 25 (by decide)]; exact hM
    have hB' : BM h' n kd co := by unfold BM; rw [hc 25 (by decide), hc 26 (by decide)]; exact hB
    have h12 := hM.1.2.2.2.2
    have hn4 := hB.2.1
    show ∃ h2, f_X8_judge_b30 N (f_X8_judge_l30 N e) (nI k) h' = _ ∧ _
    unfold f_X8_judge_b30
    rw [hc 25 (by decide), hc 34 (by decide), r1]
    by_cases hcc : r ≤ k
    · rw [if_pos (nI_le hcc (by omega)), show r - k = 0 by omega]
      exact ⟨h', rfl, hc⟩
    · obtain ⟨a1, a2, a3, a4⟩ := hA k (by omega)
      rw [if_neg (nI_ge (by omega) (by omega)), p2, if_pos (p_ib (by omega) (by omega)), if_pos (by decide), p_ix (by omega), a3, m1, nI_add, turn_rem (by omega), pm_mayOf 39 N (by decide) (by decide) hN h' hM' f hB' hp a1 (by omega), p_cl, nI_1, if_pos (p_ib (by omega) (by omega)), hc 34 (by decide), p_ix (by omega), a4, pm_has, p_cl, hc 25 (by decide)]
      obtain ⟨x, hx⟩ : ∃ x, r - k = x + 1 := ⟨r - k - 1, by omega⟩
      rw [hx]
      have ej : jdg (stt w g f) n kd co (h.1 25 2) (h.1 25 3) A B m (x + 1) k P = (if bt (mayI (stt w g f) n kd co P (h.1 25 2) (h.1 25 3) (A k) ((m + k) % 2)) (B k) = true then jdg (stt w g f) n kd co (h.1 25 2) (h.1 25 3) A B m x (k + 1) (mvP P (A k) (B k)) else nI k) := rfl
      rw [ej]
      by_cases c : bt (mayI (stt w g f) n kd co P (h.1 25 2) (h.1 25 3) (A k) ((m + k) % 2)) (B k) = true
      · rw [if_pos c, if_pos ((bi_1 (by omega)).mpr c), if_neg (by decide), if_pos (p_ib (by omega) (by omega)), if_pos (p_ib (by omega) (by omega)), hc 34 (by decide), a3, a4, if_pos (p_ib (by omega) (by omega)), p_lt, p_lt, p_ix (by omega), nI_1]
        have := ih (k + 1) (wr h' 39 (A k) (nI (B k))) (mvP P (A k) (B k)) (fun c hcc => by rw [p_wro _ _ _ _ hcc, hc c hcc]) (fun i hi => by
          unfold mvP
          by_cases hia : i = A k
          · rw [hia, p_wrs, if_pos rfl]; exact ⟨rfl, a2⟩
          · rw [p_wrk _ _ _ _ hia, if_neg hia]; exact hp i hi) (by omega) (by omega)
        rw [show r - (k + 1) = x by omega] at this
        exact this
      · rw [if_neg c, if_neg (fun z => c ((bi_1 (by omega)).mp z)), if_pos rfl]
        exact ⟨h', rfl, hc⟩
theorem pm_judge_c (N : Nat) (h : Hp) {n : Nat} (hn : h.1 25 4 = nI n) (hn4 : n ≤ 4) : ∀ (e i : Nat) (h' : Hp), (∀ c, c ≠ 39 → h'.1 c = h.1 c) → (∀ j, j < i → h'.1 39 j = h.1 31 j) → i ≤ n → n - i < e → ∃ h2, f_X8_judge_l2 N e (nI i) h' = f_X8_judge_l30 N N 0 h2 ∧ (∀ c, c ≠ 39 → h2.1 c = h.1 c) ∧ ∀ j, j < n → h2.1 39 j = h.1 31 j := by
  intro e
  induction e with
  | zero => intro i h' _ _ _ h2; omega
  | succ e ih =>
    intro i h' hc hp hi he
    show ∃ h2, f_X8_judge_b2 N (f_X8_judge_l2 N e) (nI i) h' = _ ∧ _
    unfold f_X8_judge_b2
    rw [hc 25 (by decide), hn]
    by_cases hcc : n ≤ i
    · rw [if_pos (nI_le hcc (by omega)), p_lt]
      exact ⟨h', rfl, hc, fun j hj => hp j (by omega)⟩
    · rw [if_neg (nI_ge (by omega) (by omega)), if_pos (p_ib (by omega) (by omega)), if_pos (p_ib (by omega) (by omega)), p_lt, p_lt, p_ix (by omega), nI_1, hc 31 (by decide)]
      refine ih (i + 1) _ (fun c hcc => by rw [p_wro _ _ _ _ hcc, hc c hcc]) (fun j hj => ?_) (by omega) (by omega)
      by_cases hji : j = i
      · rw [hji, p_wrs]
      · rw [p_wrk _ _ _ _ hji]; exact hp j (by omega)
theorem sim_judge (N : Nat) (hN : 20 ≤ N) {h : Hp} (hI : Inv h) : Sim (f_X7_judge N) (f_X8_judge N) h := by
  obtain ⟨w, g, n, kd, co, f, hV⟩ := id hI
  obtain ⟨hB, hS, hL, ⟨P, hP⟩, ⟨m, hm, m1, m2⟩, hK, ⟨r, hr, r1, r2, r3⟩, hT⟩ := id hV
  obtain ⟨b1, b2, b3, b4, b5, b6, b7, b8, b9⟩ := id hB
  have hn4 := b4.2.1
  have h12 := b1.2.2.2.2
  have hA : ∀ j, j < r → ix (h.1 23 j) < n ∧ ix (h.1 24 j) < w * g ∧ h.1 23 j = nI (ix (h.1 23 j)) ∧ h.1 24 j = nI (ix (h.1 24 j)) ∧ h.1 34 (2 * j) = nI (ix (h.1 23 j)) ∧ h.1 34 (2 * j + 1) = nI (ix (h.1 24 j)) := by
    intro j hj
    obtain ⟨a, b, ha, hb, c1, c2, c3, c4⟩ := r3 j hj
    rw [c1, c2, p_ix (by omega), p_ix (by omega)]
    exact ⟨ha, hb, rfl, rfl, c3, c4⟩
  obtain ⟨h3, e3, c3, d3⟩ := pm_judge_c N h b7.1 hn4 N 0 h (fun _ _ => rfl) (fun j hj => by omega) (by omega) (by omega)
  obtain ⟨h4, e4, c4⟩ := pm_judge_l N hN h b6 f b7 hm hr m2 r2 (A := fun j => ix (h.1 23 j)) (B := fun j => ix (h.1 24 j)) (fun j hj => ⟨(hA j hj).1, (hA j hj).2.1, (hA j hj).2.2.2.2⟩) N 0 h3 P c3 (fun i hi => by rw [d3 i hi]; exact hP.2.1 i hi) (by omega) (by omega)
  refine ⟨jdg (stt w g f) n kd co (h.1 25 2) (h.1 25 3) (fun j => ix (h.1 23 j)) (fun j => ix (h.1 24 j)) m (r - 0) 0 P, h, h4, ?_, ?_, ⟨w, g, n, kd, co, f, IV_fr (fun c hc => c4 c (fun z => by subst z; revert hc; decide)) (fun k hk => by rw [c4 25 (by decide)]) hV⟩, fun c hc => c4 c (fun z => by subst z; revert hc; decide)⟩
  · unfold f_X7_judge
    rw [p_lt, p_lt, b8, b9, ← b5]
    exact pu_judge_l N hN h b4 (IB_T hB) hm hr m1 r1 (A := fun j => ix (h.1 23 j)) (B := fun j => ix (h.1 24 j)) (fun j hj => ⟨(hA j hj).1, by have := (hA j hj).2.1; show ix (h.1 24 j) < 12; omega, (hA j hj).2.2.1, (hA j hj).2.2.2.1⟩) N 0 _ P hP.1 (by omega) (by omega)
  · unfold f_X8_judge
    rw [p_lt]
    exact e3.trans e4
/-! write -/
theorem by_lt (y : Int64) : ∃ b, b < 256 ∧ (y &&& 255).toInt32 = nI b := by
  rw [Int64.toInt32_and]
  exact pk_andE y.toInt32 8 (by decide)
def byt (v : Int64) (i : Nat) : Int32 := ((v >>> (((8 : Int32) * nI i).toInt64 &&& 63)) &&& 255).toInt32
def wrt (h : Hp) (c t i : Nat) (v : Int64) : Hp := wrow h c (fun j => if t ≤ j ∧ j < t + i then byt v (j - t) else h.1 c j)
theorem wrt_0 (h : Hp) (c t : Nat) (v : Int64) : wrt h c t 0 v = h := by
  unfold wrt
  rw [show (fun j => if t ≤ j ∧ j < t + 0 then byt v (j - t) else h.1 c j) = h.1 c from funext fun j => if_neg (by omega), wrow_id]
theorem wrt_s (h : Hp) (c t i : Nat) (v : Int64) : wr (wrt h c t i v) c (t + i) (byt v i) = wrt h c t (i + 1) v := by
  unfold wrt
  rw [wr_wrow]
  congr 1
  funext j
  show (if j = t + i then _ else _) = _
  by_cases hj : j = t + i
  · rw [if_pos hj, if_pos (by omega), show j - t = i by omega]
  · rw [if_neg hj]
    dsimp only
    by_cases h2 : t ≤ j ∧ j < t + i
    · rw [if_pos h2, if_pos (by omega)]
    · rw [if_neg h2, if_neg (by omega)]
theorem wr_comm (h : Hp) {o o2 : Nat} (k k2 : Nat) (v v2 : Int32) (ho : o ≠ o2) : wr (wr h o k v) o2 k2 v2 = wr (wr h o2 k2 v2) o k v := by
  apply h_ext
  · intro a b
    simp only [p_wr]
    by_cases h1 : a = o
    · subst h1
      rw [if_neg ho, if_pos rfl, if_pos rfl, if_neg ho]
    · rw [if_neg h1, if_neg h1]
  · rfl
theorem pu_write_l (N : Nat) (h : Hp) {t n : Nat} (ht : t + n ≤ 200) (v : Int64) : ∀ (e i : Nat), i ≤ n → n - i < e → f_X7_write_l35 N e v (nI n) (nI i) (wr (wrt h 5 t i v) 4 1 (nI (t + i))) = some (nI (t + n), wr (wrt h 5 t n v) 4 1 (nI (t + n))) := by
  intro e
  induction e with
  | zero => intro i _ h2; omega
  | succ e ih =>
    intro i hi he
    show f_X7_write_b35 N (f_X7_write_l35 N e) v (nI n) (nI i) _ = _
    unfold f_X7_write_b35
    by_cases hc : n ≤ i
    · have : i = n := by omega
      subst this
      rw [if_pos (nI_le hc (by omega)), p_wrs]
    · rw [if_neg (nI_ge (by omega) (by omega))]
      unfold f_X6_append
      rw [p_wrs, if_pos (show nI (t + i) < 200 from nI_lt (b := 200) (by omega) (by omega)), if_pos (p_ib (by omega) (by omega)), p_lt, p_lt, p_ix (by omega), p_cl, p_lt, nI_1]
      have e1 : wr (wr (wr (wrt h 5 t i v) 4 1 (nI (t + i))) 5 (t + i) (byt v i)) 4 1 ((wr (wr (wrt h 5 t i v) 4 1 (nI (t + i))) 5 (t + i) (byt v i)).1 4 1 + 1) = wr (wrt h 5 t (i + 1) v) 4 1 (nI (t + (i + 1))) := by
        rw [p_wro _ _ _ _ (by decide), p_wrs, nI_1, wr_comm _ _ _ _ _ (by decide), wr_wr, wr_comm _ _ _ _ _ (by decide), wrt_s]
        rfl
      show f_X7_write_l35 N e v (nI n) (nI (i + 1)) (wr (wr (wr (wrt h 5 t i v) 4 1 (nI (t + i))) 5 (t + i) (byt v i)) 4 1 ((wr (wr (wrt h 5 t i v) 4 1 (nI (t + i))) 5 (t + i) (byt v i)).1 4 1 + 1)) = _
      rw [e1]
      exact ih (i + 1) (by omega) (by omega)
theorem pm_write_l (N : Nat) (h : Hp) {t n : Nat} (ht : t + n ≤ 200) (t1 : h.1 25 6 = nI t) (v : Int64) : ∀ (e i : Nat), i ≤ n → n - i < e → f_X8_write_l31 N e v (nI n) (nI i) (wrt h 27 t i v) = some (nI (t + n), wr (wrt h 27 t n v) 25 6 (nI (t + n))) := by
  intro e
  induction e with
  | zero => intro i _ h2; omega
  | succ e ih =>
    intro i hi he
    show f_X8_write_b31 N (f_X8_write_l31 N e) v (nI n) (nI i) _ = _
    unfold f_X8_write_b31
    have e6 : (wrt h 27 t i v).1 25 6 = nI t := t1
    rw [e6]
    by_cases hc : n ≤ i
    · have : i = n := by omega
      subst this
      rw [if_pos (nI_le hc (by omega)), p_lt, p_wrs, nI_add]
    · rw [if_neg (nI_ge (by omega) (by omega)), nI_add, if_pos (p_ib (by omega) (by omega)), p_lt, p_lt, p_ix (by omega), nI_1]
      show f_X8_write_l31 N e v (nI n) (nI (i + 1)) (wr (wrt h 27 t i v) 27 (t + i) (byt v i)) = _
      rw [wrt_s]
      exact ih (i + 1) (by omega) (by omega)
theorem sim_write (N : Nat) (hN : 20 ≤ N) (v : Int64) (a : Int32) {h : Hp} (hI : Inv h) : Sim (f_X7_write N v a) (f_X8_write N v a) h := by
  obtain ⟨w, g, n, kd, co, f, hV⟩ := id hI
  obtain ⟨hB, hS, hL, hP, hH, hK, hR, ⟨t, ht, t1, t2, t3⟩⟩ := id hV
  rcases n_case a (s := 9) (by omega) with ⟨k, hk, rfl⟩ | ha
  rotate_left
  · refine Sim_same (-3) hI ?_ ?_
    · unfold f_X7_write f_X7_write_b11
      by_cases h0 : a < 1
      · rw [if_pos h0]
      · have h0' : ¬ a < 0 := fun z => h0 (Int32.lt_trans z (by decide))
        have h1 : (8 : Int32) < a := n_m1g (n := 9) (by omega) h0' (ha.resolve_left h0')
        rw [if_neg h0, if_neg (Int32.not_le.mpr h1)]
    · unfold f_X8_write
      rw [pm_in, p_cl]
      by_cases h0 : a < 1
      · rw [if_pos h0, if_pos rfl]
      · have h0' : ¬ a < 0 := fun z => h0 (Int32.lt_trans z (by decide))
        have h1 : (8 : Int32) < a := n_m1g (n := 9) (by omega) h0' (ha.resolve_left h0')
        rw [if_neg h0, if_pos h1, if_pos rfl]
  · by_cases hk0 : k = 0
    · subst hk0
      refine Sim_same (-3) hI ?_ ?_
      · unfold f_X7_write f_X7_write_b11
        rw [if_pos (by decide)]
      · unfold f_X8_write
        rw [pm_in, p_cl, if_pos (by decide)]
    · have g1 : ¬ nI k < 1 := nI_nlt (b := 1) (by omega) (by omega)
      have g2 : nI k ≤ 8 := nI_le (b := 8) (by omega) (by omega)
      have g3 : ¬ (8 : Int32) < nI k := nI_nlt (a := 8) (by omega) (by omega)
      by_cases hf : t + k ≤ 200
      · have g4 : nI (t + k) ≤ 200 := nI_le (b := 200) hf (by omega)
        refine ⟨nI (t + k), wr (wrt h 5 t k v) 4 1 (nI (t + k)), wr (wrt (wr (wrt h 5 t k v) 4 1 (nI (t + k))) 27 t k v) 25 6 (nI (t + k)), ?_, ?_, ?_, ?_⟩
        · unfold f_X7_write
          rw [if_neg g1, if_pos g2, t1, nI_add, if_pos g4, p_lt]
          have e := pu_write_l N h hf v N 0 (by omega) (by omega)
          rw [wrt_0, show nI (t + 0) = h.1 4 1 from t1.symm, wr_same] at e
          exact e
        · have t2' : (wr (wrt h 5 t k v) 4 1 (nI (t + k))).1 25 6 = nI t := t2
          unfold f_X8_write
          rw [pm_in, p_cl, if_neg g1, if_neg g3, if_neg (by decide), t2', nI_add, if_pos g4, p_lt]
          have e := pm_write_l N (wr (wrt h 5 t k v) 4 1 (nI (t + k))) hf t2' v N 0 (by omega) (by omega)
          rw [wrt_0] at e
          exact e
        · refine ⟨w, g, n, kd, co, f, IV_mk hV rfl rfl rfl rfl ?_ rfl hP ?_ (fun k hk => IK_congr rfl rfl rfl rfl rfl (hK k hk)) (IR_congr rfl ?_ rfl rfl rfl hR) ?_⟩
          · intro j hj
            rw [p_wrk _ _ _ _ (by omega)]
            rfl
          · exact IH_congr rfl rfl hH
          · rfl
          · refine ⟨t + k, hf, rfl, by rw [p_wrs], fun j hj => ?_⟩
            have e5 : (wr (wrt (wr (wrt h 5 t k v) 4 1 (nI (t + k))) 27 t k v) 25 6 (nI (t + k))).1 5 j = if t ≤ j ∧ j < t + k then byt v (j - t) else h.1 5 j := rfl
            have e27 : (wr (wrt (wr (wrt h 5 t k v) 4 1 (nI (t + k))) 27 t k v) 25 6 (nI (t + k))).1 27 j = if t ≤ j ∧ j < t + k then byt v (j - t) else h.1 27 j := rfl
            rw [e5, e27]
            by_cases hj2 : t ≤ j ∧ j < t + k
            · rw [if_pos hj2, if_pos hj2]
              exact ⟨rfl, by_lt _⟩
            · rw [if_neg hj2, if_neg hj2]
              exact t3 j (by omega)
        · intro c hc
          have hcc : ∀ a, a ∈ [4, 5, 25, 27] → c ≠ a := fun a ha z => by subst z; revert hc ha; revert c; decide
          unfold wrt
          rw [p_wro _ _ _ _ (hcc 25 (by decide)), p_wrowo _ _ _ (hcc 27 (by decide)), p_wro _ _ _ _ (hcc 4 (by decide)), p_wrowo _ _ _ (hcc 5 (by decide))]
      · have g4 : ¬ nI (t + k) ≤ 200 := nI_ge (a := 200) (by omega) (by omega)
        refine Sim_same (-5) hI ?_ ?_
        · unfold f_X7_write
          rw [if_neg g1, if_pos g2, t1, nI_add, if_neg g4]
        · unfold f_X8_write
          rw [pm_in, p_cl, if_neg g1, if_neg g3, if_neg (by decide), t2, nI_add, if_neg g4]
