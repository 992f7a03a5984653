/-! ===== the class's reader ===== -/
theorem inj_add {n : Nat} {P : Nat → Nat} {v : Nat} (h : ∀ i j, i < n → j < n → P i = P j → i = j) (hv : ∀ i, i < n → P i ≠ v) : ∀ i j, i < n + 1 → j < n + 1 → updN P n v i = updN P n v j → i = j := by
  intro i j hi hj e
  unfold updN at e
  by_cases c1 : i = n
  · by_cases c2 : j = n
    · rw [c1, c2]
    · rw [if_pos c1, if_neg c2] at e
      exact absurd e.symm (hv j (by omega))
  · by_cases c2 : j = n
    · rw [if_neg c1, if_pos c2] at e
      exact absurd e (hv i (by omega))
    · rw [if_neg c1, if_neg c2] at e
      exact h i j (by omega) (by omega) e
theorem WB_man {t : Nat} {B : Nat → Nat} {s : Bs} (W : WB s) {kind b k : Nat} (hk : kind < 4) {c : Cm} {p : Nat} (h : pMan t B s kind b k = .ok c p) : WB (ap s c) := by
  have wp := wg_pos W.1
  unfold pMan at h
  split at h
  · cases h
  · rename_i hfull
    split at h
    · cases h
    · rename_i co hco
      split at h
      · cases h
      · rename_i a ha
        split at h
        · cases h
        · rename_i cs
          split at h
          · cases h
          · rename_i d hd
            split at h
            · cases h
            · rename_i cg
              have i1 := rN_in hco
              have i2 := rN_in ha
              have i3 := rN_in hd
              have cs' : occ s.n s.S a = false := by
                have : (bt s.ho a || occ s.n s.S a) = false := by simpa using cs
                rw [Bool.or_eq_false_iff] at this
                exact this.2
              have cg' : occ s.n s.L d = false := by
                have : (bt s.ho d || occ s.n s.L d) = false := by simpa using cg
                rw [Bool.or_eq_false_iff] at this
                exact this.2
              injection h with h1 h2
              subst h1
              refine ⟨W.1, by show s.n + 1 ≤ 4; omega, fun i hi => ?_, inj_add W.2.2.2.1 (occ_no cs'), inj_add W.2.2.2.2 (occ_no cg')⟩
              have hi' : i < s.n + 1 := hi
              show updN s.kd s.n kind i < 4 ∧ updN s.co s.n co i < 2 ∧ updN s.S s.n a i < s.w * s.g ∧ updN s.L s.n d i < s.w * s.g
              unfold updN
              by_cases e : i = s.n
              · rw [if_pos e, if_pos e, if_pos e, if_pos e]
                exact ⟨hk, by omega, by omega, by omega⟩
              · rw [if_neg e, if_neg e, if_neg e, if_neg e]
                exact W.2.2.1 i (by omega)
theorem WB_line {t : Nat} {B : Nat → Nat} {s : Bs} (W : WB s) {b e : Nat} {c : Cm} {p : Nat} (h : pLine t B s b e = .ok c p) : WB (ap s c) := by
  have bare : WB (ap s (.inr (.inr (.inl ())))) := ⟨W.1, Nat.zero_le _, fun i hi => (by cases hi), fun i j hi => (by cases hi), fun i j hi => (by cases hi)⟩
  have law : ∀ l, WB (ap s ((.inr (.inl l)))) := fun l => W
  unfold pLine at h
  split at h
  · unfold pBoard at h
    split at h
    · cases h
    · rename_i x hx
      split at h
      · cases h
      · rename_i y hy
        split at h
        · rename_i hxy
          injection h with h1 h2
          subst h1
          have i1 := rN_in hx
          have i2 := rN_in hy
          exact ⟨⟨i1.1, i1.2, i2.1, i2.2, hxy⟩, Nat.zero_le _, fun i hi => (by cases hi), fun i j hi => (by cases hi), fun i j hi => (by cases hi)⟩
        · cases h
  · split at h
    · unfold pHole at h
      split at h
      · cases h
      · split at h
        · cases h
        · injection h with h1 h2
          subst h1
          exact W
    · split at h
      · exact WB_man W (by omega) h
      · split at h
        · exact WB_man W (by omega) h
        · split at h
          · exact WB_man W (by omega) h
          · split at h
            · exact WB_man W (by omega) h
            · split at h
              · injection h with h1 h2; subst h1; exact law 0
              · split at h
                · injection h with h1 h2; subst h1; exact law 1
                · split at h
                  · injection h with h1 h2; subst h1; exact law 2
                  · split at h
                    · injection h with h1 h2; subst h1; exact bare
                    · cases h
theorem pu_line (N : Nat) (hN : 300 ≤ N) (h : Hp) {t : Nat} {B : Nat → Nat} (T : TX h t B) {b e : Nat} (e2 : h.1 4 2 = nI b) (e3 : h.1 4 3 = nI e) (hbe : b ≤ e) (he : e ≤ t) (hf : h.1 6 1 = -1) {s : Bs} (W : WB s) (D : DR 7 h s) : ∃ h', f_X3_readLine N h = some (0, h') ∧ CL t h h' s (pLine t B s b e) := by
  have sp := fun i hi => pu_spells N hN h T e2 e3 hbe he (i := i) hi
  have lawc : ∀ l : Nat, ∀ v : Int32, v = nI l → CL t h (wr h 7 3 v) s (.ok ((.inr (.inl l))) e) := by
    intro l v hv
    have ee : ∀ c, c ≠ 7 → (wr h 7 3 v).1 c = h.1 c := fun c hc => by rw [p_wro _ _ _ _ hc]
    obtain ⟨d1, d2, d3, d4, d5, d6, d7, d8⟩ := id D
    refine ⟨⟨fun c hc => ee c (fun z => hc (by simp [z])), by rw [ee 4 (by decide)], by rw [ee 6 (by decide)]⟩, by rw [ee 6 (by decide)]; exact hf, ?_, by rw [ee 4 (by decide)]; exact e3, he⟩
    refine ⟨by rw [p_wrk _ _ _ _ (by decide)]; exact d1, by rw [p_wrk _ _ _ _ (by decide)]; exact d2, by rw [p_wrk _ _ _ _ (by decide)]; exact d3, by rw [p_wrs]; exact hv, by rw [p_wrk _ _ _ _ (by decide)]; exact d5, fun i hi => by rw [ee _ (by decide), ee _ (by decide)]; exact d6 i hi, by rw [p_wrk _ _ _ _ (by decide)]; exact d7, by rw [p_wrk _ _ _ _ (by decide)]; exact d8⟩
  unfold f_X3_readLine f_X3_readLine_b214 pLine
  rw [sp 0 (by omega), p_cl]
  by_cases c0 : tbl B b e = wd 0
  · rw [decide_eq_true c0, if_neg (by decide), if_pos c0]
    obtain ⟨h', a1, a2⟩ := pu_size N hN h T e3 he hf s
    rw [a1, p_cl]
    exact ⟨h', rfl, a2⟩
  rw [decide_eq_false c0, if_pos (by decide), if_neg c0, sp 1 (by omega), p_cl]
  by_cases c1 : tbl B b e = wd 1
  · rw [decide_eq_true c1, if_neg (by decide), if_pos c1]
    obtain ⟨h', a1, a2⟩ := pu_hole N hN h T e3 he hf W D
    rw [a1, p_cl]
    exact ⟨h', rfl, a2⟩
  rw [decide_eq_false c1, if_pos (by decide), if_neg c1, sp 2 (by omega), p_cl]
  by_cases c2 : tbl B b e = wd 2
  · rw [decide_eq_true c2, if_neg (by decide), if_pos c2]
    obtain ⟨h', a1, a2⟩ := pu_man N hN h T (kind := 0) e2 (by omega) e3 he hf W D
    rw [show f_X3_readMan N 0 h = some (0, h') from a1, p_cl]
    exact ⟨h', rfl, a2⟩
  rw [decide_eq_false c2, if_pos (by decide), if_neg c2, sp 3 (by omega), p_cl]
  by_cases c3 : tbl B b e = wd 3
  · rw [decide_eq_true c3, if_neg (by decide), if_pos c3]
    obtain ⟨h', a1, a2⟩ := pu_man N hN h T (kind := 1) e2 (by omega) e3 he hf W D
    rw [show f_X3_readMan N 1 h = some (0, h') from a1, p_cl]
    exact ⟨h', rfl, a2⟩
  rw [decide_eq_false c3, if_pos (by decide), if_neg c3, sp 4 (by omega), p_cl]
  by_cases c4 : tbl B b e = wd 4
  · rw [decide_eq_true c4, if_neg (by decide), if_pos c4]
    obtain ⟨h', a1, a2⟩ := pu_man N hN h T (kind := 2) e2 (by omega) e3 he hf W D
    rw [show f_X3_readMan N 2 h = some (0, h') from a1, p_cl]
    exact ⟨h', rfl, a2⟩
  rw [decide_eq_false c4, if_pos (by decide), if_neg c4, sp 5 (by omega), p_cl]
  by_cases c5 : tbl B b e = wd 5
  · rw [decide_eq_true c5, if_neg (by decide), if_pos c5]
    obtain ⟨h', a1, a2⟩ := pu_man N hN h T (kind := 3) e2 (by omega) e3 he hf W D
    rw [show f_X3_readMan N 3 h = some (0, h') from a1, p_cl]
    exact ⟨h', rfl, a2⟩
  rw [decide_eq_false c5, if_pos (by decide), if_neg c5, sp 6 (by omega), p_cl]
  by_cases c6 : tbl B b e = wd 6
  · rw [decide_eq_true c6, if_neg (by decide), if_pos c6, p_lt]
    exact ⟨_, rfl, lawc 0 0 rfl⟩
  rw [decide_eq_false c6, if_pos (by decide), if_neg c6, sp 7 (by omega), p_cl]
  by_cases c7 : tbl B b e = wd 7
  · rw [decide_eq_true c7, if_neg (by decide), if_pos c7, p_lt]
    exact ⟨_, rfl, lawc 1 1 rfl⟩
  rw [decide_eq_false c7, if_pos (by decide), if_neg c7, sp 8 (by omega), p_cl]
  by_cases c8 : tbl B b e = wd 8
  · rw [decide_eq_true c8, if_neg (by decide), if_pos c8, p_lt]
    exact ⟨_, rfl, lawc 2 2 rfl⟩
  rw [decide_eq_false c8, if_pos (by decide), if_neg c8, sp 9 (by omega), p_cl]
  by_cases c9 : tbl B b e = wd 9
  · rw [decide_eq_true c9, if_neg (by decide), if_pos c9]
    unfold f_X5_takeMenAway
    simp only [p_lt, p_cl]
    refine ⟨_, rfl, ?_⟩
    have ee : ∀ c, c ≠ 7 → (wr (wr (wr h 7 4 0) 7 5 0) 7 6 0).1 c = h.1 c := fun c hc => by simp only [p_wro _ _ _ _ hc]
    obtain ⟨d1, d2, d3, d4, d5, d6, d7, d8⟩ := id D
    refine ⟨⟨fun c hc => ee c (fun z => hc (by simp [z])), by rw [ee 4 (by decide)], by rw [ee 6 (by decide)]⟩, by rw [ee 6 (by decide)]; exact hf, ?_, by rw [ee 4 (by decide)]; exact e3, he⟩
    have g7 : ∀ j, j ≠ 4 → j ≠ 5 → j ≠ 6 → (wr (wr (wr h 7 4 0) 7 5 0) 7 6 0).1 7 j = h.1 7 j := fun j j4 j5 j6 => by rw [p_wrk _ _ _ _ j6, p_wrk _ _ _ _ j5, p_wrk _ _ _ _ j4]
    refine ⟨by rw [g7 0 (by decide) (by decide) (by decide)]; exact d1, by rw [g7 1 (by decide) (by decide) (by decide)]; exact d2, by rw [g7 2 (by decide) (by decide) (by decide)]; exact d3, by rw [g7 3 (by decide) (by decide) (by decide)]; exact d4, by rw [p_wrk _ _ _ _ (by decide), p_wrk _ _ _ _ (by decide), p_wrs]; rfl, fun i hi => (by cases hi), ⟨fun j _ _ => ?_, fun i hi => (by cases hi)⟩, ⟨fun j _ _ => ?_, fun i hi => (by cases hi)⟩⟩
    · rw [p_wrk _ _ _ _ (by decide), p_wrs, b_0]
    · rw [p_wrs, b_0]
  rw [decide_eq_false c9, if_pos (by decide), if_neg c9, pu_refuse_1 N h hf, p_cl]
  have fl := fault_cf e2
  exact ⟨_, rfl, fl.1, fl.2.1⟩
/-! all lines -/
abbrev PR : Type := Except Nat (List Cm)
def pAll (t : Nat) (B : Nat → Nat) : Nat → Nat → Bs → Nat → PR
  | 0, _, _, _ => .error 0
  | r + 1, k, s, p => match pLine t B s (nb t B p) (ne t B p) with
    | .error () f => .error f
    | .ok c p1 => if nb t B p1 = t then .ok [c] else if tbl B (nb t B p1) (ne t B p1) = wd 10 ∧ k + 1 < 12 then (match pAll t B r (k + 1) (ap s c) (ne t B p1) with
      | .error f => .error f
      | .ok cs => .ok (c :: cs)) else .error (nb t B p1)
/-- how the reading ends, in the class -/
def CE (h h' : Hp) (s : Bs) (k : Nat) : PR → Prop
  | .error f => (∀ c, c ∉ [4, 6, 7, 8, 9] → h'.1 c = h.1 c) ∧ h'.1 4 1 = h.1 4 1 ∧ h'.1 6 1 = nI f ∧ f < 300
  | .ok cs => (∀ c, c ∉ [4, 6, 7, 8, 9] → h'.1 c = h.1 c) ∧ h'.1 4 1 = h.1 4 1 ∧ h'.1 6 1 = -1 ∧ DR 7 h' (cs.foldl ap s) ∧ WB (cs.foldl ap s) ∧ h'.1 6 2 = nI (k + cs.length)
theorem pLine_f {t : Nat} {B : Nat → Nat} {s : Bs} {p f : Nat} (hp : p ≤ t) (ht : t ≤ 200) (h : pLine t B s (nb t B p) (ne t B p) = .error () f) : f < 300 := by
  have h1 := ne_le (B := B) hp
  have h2 := ne_le (B := B) h1.1
  have h3 := ne_le (B := B) h2.1
  have h4 := ne_le (B := B) h3.1
  have man : ∀ kind, pMan t B s kind (nb t B p) (ne t B p) = .error () f → f < 300 := by
    intro kind hm
    unfold pMan at hm
    split at hm
    · injection hm with e; omega
    · split at hm
      · injection hm with e; omega
      · split at hm
        · injection hm with e; omega
        · split at hm
          · injection hm with e; omega
          · split at hm
            · injection hm with e; omega
            · split at hm
              · injection hm with e; omega
              · cases hm
  unfold pLine at h
  split at h
  · unfold pBoard at h
    split at h
    · injection h with e; omega
    · split at h
      · injection h with e; omega
      · split at h
        · cases h
        · injection h with e; omega
  · split at h
    · unfold pHole at h
      split at h
      · injection h with e; omega
      · split at h
        · injection h with e; omega
        · cases h
    · split at h
      · exact man _ h
      · split at h
        · exact man _ h
        · split at h
          · exact man _ h
          · split at h
            · exact man _ h
            · split at h
              · cases h
              · split at h
                · cases h
                · split at h
                  · cases h
                  · split at h
                    · cases h
                    · injection h with e; omega
theorem pu_read_l (N : Nat) (hN : 300 ≤ N) {t : Nat} {B : Nat → Nat} : ∀ (r e k p : Nat) (h : Hp) (s : Bs), TX h t B → h.1 4 3 = nI p → p ≤ t → h.1 6 1 = -1 → h.1 6 2 = nI k → r + k = 12 → 0 < r → r < e → WB s → DR 7 h s → ∃ h', f_X3_read_l27 N e 1 h = some (0, h') ∧ CE h h' s k (pAll t B r k s p) := by
  intro r
  induction r with
  | zero => intro e k p h s _ _ _ _ _ _ h2; omega
  | succ r ih =>
    intro e k p h s T e3 hp hf hl hrk _ he W D
    obtain ⟨e, rfl⟩ : ∃ x, e = x + 1 := ⟨e - 1, by omega⟩
    have ht := T.1
    have hle := ne_le (B := B) hp
    show ∃ h', f_X3_read_b27 N (f_X3_read_l27 N e) 1 h = some (0, h') ∧ _
    unfold f_X3_read_b27 f_X3_read_b69
    rw [if_neg n10, hl, if_neg (show ¬ (12 : Int32) ≤ nI k from nI_ge (b := 12) (by omega) (by omega))]
    obtain ⟨h1, a1, F1, b1, c1⟩ := pu_next N hN h T e3 hp
    have T1 := TX_nx T F1
    have F1c : CF h h1 := ⟨fun c hc => F1.1 c (fun z => hc (by simp [z])), F1.2, by rw [F1.1 6 (by decide)]⟩
    have D1 : DR 7 h1 s := DR_nf D (F1.1 7 (by decide)) (F1.1 8 (by decide)) (F1.1 9 (by decide))
    have hbe : nb t B p ≤ ne t B p := (en_ge (B := B) hle.2).1
    obtain ⟨h2, a2, L2⟩ := pu_line N hN h1 T1 (b := nb t B p) (e := ne t B p) b1 c1 hbe hle.1 (by rw [F1.1 6 (by decide)]; exact hf) W D1
    rw [a1, p_cl, a2, p_cl, p_lt]
    have hk6 : ∀ F : CF h1 h2, h2.1 6 2 = nI k := fun F => by rw [F.2.2, F1c.2.2]; exact hl
    -- behind the line
    unfold f_X3_readBehindLine f_X3_readBehindLine_b51 f_X3_readBehindLine_b56 f_X3_readBehindLine_b72
    have last : ∀ v h', v = (0 : Int32) → f_X3_read_l27 N e v h' = some (0, h') := by
      intro v h' hv
      obtain ⟨e, rfl⟩ : ∃ x, e = x + 1 := ⟨e - 1, by omega⟩
      show f_X3_read_b27 N _ v h' = _
      unfold f_X3_read_b27 f_X3_read_b69
      rw [if_pos hv]
    cases hL : pLine t B s (nb t B p) (ne t B p) with
    | error u f =>
      rw [hL] at L2
      obtain ⟨F2, x2⟩ := L2
      have hf300 := pLine_f hp ht hL
      have hfl : ¬ (wr h2 6 2 (h2.1 6 2 + 1)).1 6 1 = -1 := by rw [p_wrk _ _ _ _ (by decide), x2]; exact ne_m1 hf300
      rw [if_neg hfl, if_pos (by decide), p_cl, p_lt, last 0 _ rfl]
      refine ⟨_, rfl, ?_⟩
      have epa : pAll t B (r + 1) k s p = .error f := by
        show (match pLine t B s (nb t B p) (ne t B p) with | .error () f => Except.error f | .ok c p1 => _) = _
        rw [hL]
      rw [epa]
      exact ⟨fun c hc => by rw [p_wro _ _ _ _ (fun z => hc (by simp [z])), F2.1 c hc, F1c.1 c hc], by rw [p_wro _ _ _ _ (by decide), F2.2.1, F1c.2.1], by rw [p_wrk _ _ _ _ (by decide)]; exact x2, hf300⟩
    | ok c p1 =>
      rw [hL] at L2
      obtain ⟨F2, x2, D2, c2, hp1⟩ := L2
      have W2 := WB_line W hL
      have hle2 := ne_le (B := B) hp1
      rw [hk6 F2, nI_1]
      generalize eh3 : wr h2 6 2 (nI (k + 1)) = h3
      have g3 : ∀ c, c ≠ 6 → h3.1 c = h2.1 c := fun c hc => by rw [← eh3, p_wro _ _ _ _ hc]
      have F3 : ∀ c, c ∉ [4, 6, 7, 8, 9] → h3.1 c = h.1 c := fun c hc => by rw [g3 c (fun z => hc (by simp [z])), F2.1 c hc, F1c.1 c hc]
      have F34 : h3.1 4 1 = h.1 4 1 := by rw [g3 4 (by decide), F2.2.1, F1c.2.1]
      have x3 : h3.1 6 1 = -1 := by rw [← eh3, p_wrk _ _ _ _ (by decide)]; exact x2
      have l3 : h3.1 6 2 = nI (k + 1) := by rw [← eh3, p_wrs]
      have T3 : TX h3 t B := by unfold TX; rw [F34, F3 5 (by decide)]; exact T
      have D3 : DR 7 h3 (ap s c) := DR_nf D2 (g3 7 (by decide)) (g3 8 (by decide)) (g3 9 (by decide))
      obtain ⟨h4, a4, F4, b4, c4⟩ := pu_next N hN h3 T3 (k := p1) (by rw [g3 4 (by decide)]; exact c2) hp1
      have T4 := TX_nx T3 F4
      have x4 : h4.1 6 1 = -1 := by rw [F4.1 6 (by decide)]; exact x3
      have l4 : h4.1 6 2 = nI (k + 1) := by rw [F4.1 6 (by decide)]; exact l3
      have F4' : ∀ c, c ∉ [4, 6, 7, 8, 9] → h4.1 c = h.1 c := fun c hc => by rw [F4.1 c (fun z => hc (by simp [z])), F3 c hc]
      have F44 : h4.1 4 1 = h.1 4 1 := by rw [F4.2, F34]
      have D4 : DR 7 h4 (ap s c) := DR_nf D3 (F4.1 7 (by decide)) (F4.1 8 (by decide)) (F4.1 9 (by decide))
      have hbe4 : nb t B p1 ≤ ne t B p1 := (en_ge (B := B) hle2.2).1
      have epa : pAll t B (r + 1) k s p = (if nb t B p1 = t then .ok [c] else if tbl B (nb t B p1) (ne t B p1) = wd 10 ∧ k + 1 < 12 then (match pAll t B r (k + 1) (ap s c) (ne t B p1) with
        | .error f => .error f
        | .ok cs => .ok (c :: cs)) else .error (nb t B p1)) := by
        show (match pLine t B s (nb t B p) (ne t B p) with | .error () f => Except.error f | .ok c p1 => _) = _
        rw [hL]
      rw [if_pos x3, a4, p_cl, epa]
      unfold f_X6_isOver f_X6_isOver_b16
      rw [T4.2.1, b4]
      by_cases co : nb t B p1 = t
      · rw [if_neg (show ¬ nI (bg t B p1) < nI t from nI_nlt (by unfold nb at co; omega) (by unfold nb at co; omega)), if_pos (by decide), p_cl, if_neg n10, if_pos (by decide), p_cl, p_lt, last 0 _ rfl, if_pos co]
        exact ⟨h4, rfl, F4', F44, x4, D4, W2, l4⟩
      · rw [if_pos (show nI (bg t B p1) < nI t from nI_lt (by have := hle2.2; unfold nb at co this; omega) (by omega)), if_pos (by decide), p_cl, if_pos rfl, pu_spells N hN h4 T4 (b := nb t B p1) (e := ne t B p1) b4 c4 hbe4 hle2.1 (by omega), p_cl, if_neg co, l4]
        have bad : ∃ h', cl (cl (f_X3_refuseIf N 1 h4) fun _ h1 => if h1.1 6 1 = -1 then if zk 1 = true then some ((1 : Int32), h1) else none else if zk 0 = true then some (0, h1) else none) (fun r4 h5 => lt r4 fun x6 => f_X3_read_l27 N e x6 h5) = some (0, h') ∧ CE h h' s k (.error (nb t B p1)) := by
          have fl := fault_cf (h := h4) (b := nb t B p1) b4
          have hflt : ¬ (wr h4 6 1 (h4.1 4 2)).1 6 1 = -1 := by rw [fl.2.1]; exact ne_m1 (by omega)
          rw [pu_refuse_1 N h4 x4, p_cl, if_neg hflt, if_pos (by decide), p_cl, p_lt, last 0 _ rfl]
          exact ⟨_, rfl, fun c hc => by rw [fl.1.1 c hc, F4' c hc], by rw [fl.1.2.1, F44], fl.2.1, by omega⟩
        by_cases cw : tbl B (nb t B p1) (ne t B p1) = wd 10
        · rw [decide_eq_true cw, if_neg (by decide)]
          by_cases ck : k + 1 < 12
          · rw [if_pos (show nI (k + 1) < 12 from nI_lt (b := 12) ck (by omega)), if_pos ⟨cw, ck⟩, pu_refuse_0 N h4, p_cl, if_pos x4, if_pos (by decide), p_cl, p_lt]
            obtain ⟨h5, a5, E5⟩ := ih e (k + 1) (ne t B p1) h4 (ap s c) T4 c4 hle2.1 x4 l4 (by omega) (by omega) (by omega) W2 D4
            refine ⟨h5, a5, ?_⟩
            cases hq : pAll t B r (k + 1) (ap s c) (ne t B p1) with
            | error f =>
              rw [hq] at E5
              exact ⟨fun c hc => by rw [E5.1 c hc, F4' c hc], by rw [E5.2.1, F44], E5.2.2⟩
            | ok cs =>
              rw [hq] at E5
              refine ⟨fun c hc => by rw [E5.1 c hc, F4' c hc], by rw [E5.2.1, F44], E5.2.2.1, E5.2.2.2.1, E5.2.2.2.2.1, ?_⟩
              rw [E5.2.2.2.2.2]
              congr 1
              show k + 1 + cs.length = k + (cs.length + 1)
              omega
          · rw [if_neg (show ¬ nI (k + 1) < 12 from nI_nlt (b := 12) (by omega) (by omega)), if_neg (fun z => ck z.2)]
            exact bad
        · rw [decide_eq_false cw, if_pos (by decide), if_neg (fun z => cw z.1)]
          exact bad
