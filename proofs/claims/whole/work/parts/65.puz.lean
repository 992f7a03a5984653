/-! ===== isRead, doLine ===== -/
def MR (h : Hp) (s : Bs) : Prop := h.1 25 0 = nI s.w ∧ h.1 25 1 = nI s.g ∧ h.1 25 2 = s.ho ∧ h.1 25 3 = s.lw ∧ h.1 25 4 = nI s.n ∧ ∀ i, i < s.n → h.1 26 (4 * i) = nI (s.kd i) ∧ h.1 26 (4 * i + 1) = nI (s.co i) ∧ h.1 26 (4 * i + 2) = nI (s.S i) ∧ h.1 26 (4 * i + 3) = nI (s.L i)
theorem p_4x2 (i : Nat) : (4 : Int32) * nI i + 2 = nI (4 * i + 2) := by rw [p_4x]; exact nI_add _ 2
theorem pm_isRead (N : Nat) (hN : 300 ≤ N) (h : Hp) {t : Nat} {B : Nat → Nat} (T : TM h t B) {s : Bs} (W : WB s) (M : MR h s) : ∃ v h', f_X8_isRead N h = some (v, h') ∧ ME h h' s 0 (pAll t B 12 0 s 0) v := by
  obtain ⟨m1, m2, m3, m4, m5, m6⟩ := id M
  have hn4 := W.2.1
  have ht := T.1
  unfold f_X8_isRead
  simp only [p_lt]
  rw [p_wrk _ _ _ _ (show (0 : Nat) ≠ 14 by decide), p_wrk _ _ _ _ (show (0 : Nat) ≠ 8 by decide), p_wrk _ _ _ _ (show (1 : Nat) ≠ 14 by decide), p_wrk _ _ _ _ (show (1 : Nat) ≠ 8 by decide), m1, m2, pk_mul, p_wrk _ _ _ _ (show (2 : Nat) ≠ 15 by decide), p_wrk _ _ _ _ (show (2 : Nat) ≠ 14 by decide), p_wrk _ _ _ _ (show (2 : Nat) ≠ 8 by decide), m3, p_wrk _ _ _ _ (show (4 : Nat) ≠ 16 by decide), p_wrk _ _ _ _ (show (4 : Nat) ≠ 15 by decide), p_wrk _ _ _ _ (show (4 : Nat) ≠ 14 by decide), p_wrk _ _ _ _ (show (4 : Nat) ≠ 8 by decide), m5]
  generalize eh5 : wr (wr (wr (wr (wr h 25 8 0) 25 14 0) 25 15 (nI (s.w * s.g))) 25 16 s.ho) 25 17 (nI s.n) = h5
  have o5 : ∀ c, c ≠ 25 → h5.1 c = h.1 c := fun c hc => by rw [← eh5]; simp only [p_wro _ _ _ _ hc]
  have o25 : ∀ x, x ∉ [8, 14, 15, 16, 17] → h5.1 25 x = h.1 25 x := fun x hx => by rw [← eh5, p_wrk _ _ _ _ (fun z => hx (by simp [z])), p_wrk _ _ _ _ (fun z => hx (by simp [z])), p_wrk _ _ _ _ (fun z => hx (by simp [z])), p_wrk _ _ _ _ (fun z => hx (by simp [z])), p_wrk _ _ _ _ (fun z => hx (by simp [z]))]
  have loop : ∀ (e i : Nat) (h' : Hp), (∀ c, c ≠ 28 → c ≠ 29 → h'.1 c = h5.1 c) → (∀ j, j < i → h'.1 28 j = nI (s.S j) ∧ h'.1 29 j = nI (s.L j)) → i ≤ s.n → s.n - i < e → ∃ h2, f_X8_isRead_l41 N e (nI i) h' = f_X8_isRead_l89 N N 1 h2 ∧ (∀ c, c ≠ 28 → c ≠ 29 → h2.1 c = h5.1 c) ∧ ∀ j, j < s.n → h2.1 28 j = nI (s.S j) ∧ h2.1 29 j = nI (s.L j) := by
    intro e
    induction e with
    | zero => intro i h' _ _ _ h2; omega
    | succ e ih =>
      intro i h' hc hr hi he
      show ∃ h2, f_X8_isRead_b41 N (f_X8_isRead_l41 N e) (nI i) h' = _ ∧ _
      unfold f_X8_isRead_b41
      rw [hc 25 (by decide) (by decide), o25 4 (by decide), m5]
      by_cases hcc : i = s.n
      · rw [if_pos (nI_le (by omega) (by omega)), p_lt]
        exact ⟨h', rfl, hc, fun j hj => hr j (by omega)⟩
      · obtain ⟨k1, k2, k3, k4⟩ := m6 i (by omega)
        rw [if_neg (nI_ge (by omega) (by omega)), p_4x2, p_4x3, if_pos (p_ib (by omega) (by omega)), if_pos (p_ib (by omega) (by omega)), p_lt, if_pos (p_ib (by omega) (by omega)), if_pos (p_ib (by omega) (by omega)), p_lt, p_lt, p_ix (by omega), p_ix (by omega), p_ix (by omega), nI_1, p_wro _ _ _ _ (show (26 : Nat) ≠ 28 by decide), hc 26 (by decide) (by decide), o5 26 (by decide), k3, k4]
        refine ih (i + 1) _ (fun c h1 h2 => by rw [p_wro _ _ _ _ h2, p_wro _ _ _ _ h1, hc c h1 h2]) (fun j hj => ?_) (by omega) (by omega)
        rw [p_wro _ _ _ _ (show (28 : Nat) ≠ 29 by decide)]
        by_cases e : j = i
        · rw [e, p_wrs, p_wrs]; exact ⟨rfl, rfl⟩
        · rw [p_wrk _ _ _ _ e, p_wrk _ _ _ _ e, p_wro _ _ _ _ (show (29 : Nat) ≠ 28 by decide)]
          exact hr j (by omega)
  obtain ⟨h6, a6, f6, r6⟩ := loop N 0 h5 (fun _ _ _ => rfl) (fun j hj => by omega) (by omega) (by omega)
  have G6 : MG 0 h h6 := ⟨fun c hc => by rw [f6 c (fun z => hc (by simp [z])) (fun z => hc (by simp [z])), o5 c (fun z => hc (by simp [z]))], fun x hx => by rw [f6 25 (by decide) (by decide), o25 x (fun z => hx (by simp at z ⊢; omega))], fun x hx => by omega⟩
  have T6 : TM h6 t B := by unfold TM; rw [G6.2.1 6 (by decide), G6.1 27 (by decide)]; exact T
  have R6 : RD h6 s := by
    refine ⟨?_, ?_, ?_, r6⟩
    · rw [f6 25 (by decide) (by decide), ← eh5, p_wrk _ _ _ _ (by decide), p_wrk _ _ _ _ (by decide), p_wrs]
    · rw [f6 25 (by decide) (by decide), ← eh5, p_wrk _ _ _ _ (by decide), p_wrs]
    · rw [f6 25 (by decide) (by decide), ← eh5, p_wrs]
  obtain ⟨v, h7, a7, E7⟩ := pm_read_l N hN (t := t) (B := B) 12 N 0 0 h6 s T6 (by rw [f6 25 (by decide) (by decide), ← eh5, p_wrk _ _ _ _ (by decide), p_wrk _ _ _ _ (by decide), p_wrk _ _ _ _ (by decide), p_wrk _ _ _ _ (by decide), p_wrs]; rfl) (Nat.zero_le _) (by rw [f6 25 (by decide) (by decide), ← eh5, p_wrk _ _ _ _ (by decide), p_wrk _ _ _ _ (by decide), p_wrk _ _ _ _ (by decide), p_wrs]; rfl) (by omega) (by omega) (by omega) W R6
  refine ⟨v, h7, a6.trans a7, ?_⟩
  cases hq : pAll t B 12 0 s 0 with
  | error f =>
    rw [hq] at E7
    exact ⟨MG_tr G6 E7.1, E7.2⟩
  | ok cs =>
    rw [hq] at E7
    exact ⟨MG_tr G6 E7.1, E7.2⟩
/-- doing a line -/
def DF (h h' : Hp) : Prop := (∀ c, c ≠ 25 → c ≠ 26 → h'.1 c = h.1 c) ∧ ∀ x, 5 ≤ x → h'.1 25 x = h.1 25 x
theorem DF_tr {a b c : Hp} (h1 : DF a b) (h2 : DF b c) : DF a c := ⟨fun x hx hy => by rw [h2.1 x hx hy, h1.1 x hx hy], fun x hx => by rw [h2.2 x hx, h1.2 x hx]⟩
theorem DF_w {h : Hp} {k : Nat} (v : Int32) (hk : k < 5) : DF h (wr h 25 k v) := ⟨fun c h1 _ => by rw [p_wro _ _ _ _ h1], fun x hx => by rw [p_wrk _ _ _ _ (by omega)]⟩
theorem pm_doLine (N : Nat) (hN : 300 ≤ N) (h : Hp) {j : Nat} (hj : j < 12) {s : Bs} (hn : s.n ≤ 4) (M : MR h s) {c : Cm} (E : EN h j c) (W : WB (ap s c)) : ∃ h', f_X8_doLine N (nI (4 * j)) h = some (0, h') ∧ MR h' (ap s c) ∧ DF h h' := by
  obtain ⟨m1, m2, m3, m4, m5, m6⟩ := id M
  have e26 : ∀ k v, ∀ i, i < s.n → (wr h 25 k v).1 26 (4 * i) = nI (s.kd i) ∧ (wr h 25 k v).1 26 (4 * i + 1) = nI (s.co i) ∧ (wr h 25 k v).1 26 (4 * i + 2) = nI (s.S i) ∧ (wr h 25 k v).1 26 (4 * i + 3) = nI (s.L i) := fun k v i hi => by rw [p_wro _ _ _ _ (by decide)]; exact m6 i hi
  unfold f_X8_doLine f_X8_doLine_b44 f_X8_doLine_b175
  rw [if_pos (p_ib (show 4 * j < 48 by omega) (by omega)), p_ix (by omega), a0_1, a0_2]
  rcases c with ⟨kind, co, a, b⟩ | l | u | ⟨w, g⟩ | p
  · obtain ⟨k1, k2, k3, k4, k5⟩ := E
    have hn1 : s.n < 4 := by
      have : s.n + 1 ≤ 4 := W.2.1
      omega
    have ne : ∀ m, 4 ≤ m → m < 10 → ¬ nI kind = nI m := fun m h1 h2 => by rw [nI_eq (by omega) (by omega)]; omega
    rw [k1, if_neg (show ¬ nI kind = 4 from ne 4 (by omega) (by omega)), if_neg (show ¬ nI kind = 5 from ne 5 (by omega) (by omega)), if_neg (show ¬ nI kind = 6 from ne 6 (by omega) (by omega)), if_neg (show ¬ nI kind = 7 from ne 7 (by omega) (by omega)), if_neg (show ¬ nI kind = 8 from ne 8 (by omega) (by omega)), if_neg (show ¬ nI kind = 9 from ne 9 (by omega) (by omega)), p_lt]
    have step : ∀ (e i : Nat) (h' : Hp), i < 4 → (∀ c, c ≠ 26 → h'.1 c = h.1 c) → f_X8_doLine_l133 N (e + 1) (nI (4 * j)) (nI i) h' = f_X8_doLine_l133 N e (nI (4 * j)) (nI (i + 1)) (wr h' 26 (4 * s.n + i) (h.1 30 (4 * j + i))) := by
      intro e i h' hi hc
      show f_X8_doLine_b133 N (f_X8_doLine_l133 N e) (nI (4 * j)) (nI i) h' = _
      unfold f_X8_doLine_b133
      rw [if_neg (show ¬ (4 : Int32) ≤ nI i from nI_ge (b := 4) hi (by omega)), nI_add, if_pos (p_ib (show 4 * j + i < 48 by omega) (by omega)), hc 25 (by decide), m5, p_4x, nI_add, if_pos (p_ib (show 4 * s.n + i < 16 by omega) (by omega)), p_lt, p_lt, p_ix (by omega), p_ix (by omega), nI_1, hc 30 (by decide)]
    obtain ⟨X, rfl⟩ : ∃ X, N = X + 5 := ⟨N - 5, by omega⟩
    rw [show (0 : Int32) = nI 0 from rfl, step (X + 4) 0 h (by omega) (fun _ _ => rfl), step (X + 3) 1 _ (by omega) (fun c hc => by rw [p_wro _ _ _ _ hc]), step (X + 2) 2 _ (by omega) (fun c hc => by rw [p_wro _ _ _ _ hc, p_wro _ _ _ _ hc]), step (X + 1) 3 _ (by omega) (fun c hc => by rw [p_wro _ _ _ _ hc, p_wro _ _ _ _ hc, p_wro _ _ _ _ hc]), show 4 * s.n + 0 = 4 * s.n from rfl, show 4 * j + 0 = 4 * j from rfl, k1, k2, k3, k4]
    generalize eh4 : wr (wr (wr (wr h 26 (4 * s.n) (nI kind)) 26 (4 * s.n + 1) (nI co)) 26 (4 * s.n + 2) (nI a)) 26 (4 * s.n + 3) (nI b) = h4
    have o4 : ∀ c, c ≠ 26 → h4.1 c = h.1 c := fun c hc => by rw [← eh4]; simp only [p_wro _ _ _ _ hc]
    have g26 : ∀ x, h4.1 26 x = if x = 4 * s.n + 3 then nI b else if x = 4 * s.n + 2 then nI a else if x = 4 * s.n + 1 then nI co else if x = 4 * s.n then nI kind else h.1 26 x := fun x => by
      rw [← eh4, p_wr, if_pos rfl, p_wr, if_pos rfl, p_wr, if_pos rfl, p_wr, if_pos rfl]
    show ∃ h', f_X8_doLine_b133 (X + 5) (f_X8_doLine_l133 (X + 5) X) (nI (4 * j)) (nI 4) h4 = _ ∧ _
    unfold f_X8_doLine_b133 f_X8_doLine_b175
    rw [if_pos (by decide), p_lt, o4 25 (by decide), m5, nI_1]
    refine ⟨_, rfl, ⟨by rw [p_wrk _ _ _ _ (by decide), o4 25 (by decide)]; exact m1, by rw [p_wrk _ _ _ _ (by decide), o4 25 (by decide)]; exact m2, by rw [p_wrk _ _ _ _ (by decide), o4 25 (by decide)]; exact m3, by rw [p_wrk _ _ _ _ (by decide), o4 25 (by decide)]; exact m4, by rw [p_wrs]; rfl, fun i hi => ?_⟩, ⟨fun c h1 h2 => by rw [p_wro _ _ _ _ h1, o4 c h2], fun x hx => by rw [p_wrk _ _ _ _ (by omega), o4 25 (by decide)]⟩⟩
    have hi' : i < s.n + 1 := hi
    rw [p_wro _ _ _ _ (show (26 : Nat) ≠ 25 by decide)]
    show h4.1 26 (4 * i) = nI (updN s.kd s.n kind i) ∧ h4.1 26 (4 * i + 1) = nI (updN s.co s.n co i) ∧ h4.1 26 (4 * i + 2) = nI (updN s.S s.n a i) ∧ h4.1 26 (4 * i + 3) = nI (updN s.L s.n b i)
    unfold updN
    by_cases e : i = s.n
    · refine ⟨?_, ?_, ?_, ?_⟩
      · rw [g26, if_neg (show ¬ 4 * i = 4 * s.n + 3 by omega), if_neg (show ¬ 4 * i = 4 * s.n + 2 by omega), if_neg (show ¬ 4 * i = 4 * s.n + 1 by omega), if_pos (show 4 * i = 4 * s.n by omega), if_pos e]
      · rw [g26, if_neg (show ¬ 4 * i + 1 = 4 * s.n + 3 by omega), if_neg (show ¬ 4 * i + 1 = 4 * s.n + 2 by omega), if_pos (show 4 * i + 1 = 4 * s.n + 1 by omega), if_pos e]
      · rw [g26, if_neg (show ¬ 4 * i + 2 = 4 * s.n + 3 by omega), if_pos (show 4 * i + 2 = 4 * s.n + 2 by omega), if_pos e]
      · rw [g26, if_pos (show 4 * i + 3 = 4 * s.n + 3 by omega), if_pos e]
    · have old : ∀ x, x < 4 * s.n → h4.1 26 x = h.1 26 x := fun x hx => by
        rw [g26, if_neg (show ¬ x = 4 * s.n + 3 by omega), if_neg (show ¬ x = 4 * s.n + 2 by omega), if_neg (show ¬ x = 4 * s.n + 1 by omega), if_neg (show ¬ x = 4 * s.n by omega)]
      rw [old _ (by omega), old _ (by omega), old _ (by omega), old _ (by omega), if_neg e, if_neg e, if_neg e, if_neg e]
      exact m6 i (by omega)
  · obtain ⟨k1, k2⟩ := E
    have hl : l = 0 ∨ l = 1 ∨ l = 2 := by omega
    have fin : ∃ h', (if ib (nI (4 * j)) 48 = true then lt (wr h 25 3 (nI (4 + l) - 4)) fun h1 => some ((0 : Int32), h1) else none) = some (0, h') ∧ MR h' (ap s ((.inr (.inl l)))) ∧ DF h h' := by
      rw [if_pos (p_ib (show 4 * j < 48 by omega) (by omega)), p_lt, show nI (4 + l) - 4 = nI l from (pk_sub (b := 4) (by omega)).trans (by rw [Nat.add_sub_cancel_left])]
      refine ⟨_, rfl, ⟨by rw [p_wrk _ _ _ _ (by decide)]; exact m1, by rw [p_wrk _ _ _ _ (by decide)]; exact m2, by rw [p_wrk _ _ _ _ (by decide)]; exact m3, by rw [p_wrs]; rfl, by rw [p_wrk _ _ _ _ (by decide)]; exact m5, e26 _ _⟩, DF_w _ (by omega)⟩
    rw [k1]
    rcases hl with rfl | rfl | rfl
    · rw [if_pos (by decide)]; exact fin
    · rw [if_neg (by decide), if_pos (by decide)]; exact fin
    · rw [if_neg (by decide), if_neg (by decide), if_pos (by decide)]; exact fin
  · have k1 : h.1 30 (4 * j) = nI 7 := E
    rw [k1, if_neg (by decide), if_neg (by decide), if_neg (by decide), if_pos (by decide), p_lt]
    refine ⟨_, rfl, ⟨by rw [p_wrk _ _ _ _ (by decide)]; exact m1, by rw [p_wrk _ _ _ _ (by decide)]; exact m2, by rw [p_wrk _ _ _ _ (by decide)]; exact m3, by rw [p_wrk _ _ _ _ (by decide)]; exact m4, by rw [p_wrs]; rfl, fun i hi => (by cases hi)⟩, DF_w _ (by omega)⟩
  · obtain ⟨k1, k2, k3⟩ := E
    rw [k1, if_neg (by decide), if_neg (by decide), if_neg (by decide), if_neg (by decide), if_pos (by decide), if_pos (p_ib (by omega) (by omega)), p_lt, if_pos (p_ib (by omega) (by omega)), p_ix (by omega), p_ix (by omega), p_wro _ _ _ _ (show (30 : Nat) ≠ 25 by decide), k2, k3]
    simp only [p_lt]
    refine ⟨_, rfl, ⟨by simp [p_wr]; rfl, by simp [p_wr]; rfl, by simp [p_wr]; rfl, by simp [p_wr]; rfl, by simp [p_wr]; rfl, fun i hi => (by cases hi)⟩, DF_tr (DF_tr (DF_tr (DF_tr (DF_w _ (by omega)) (DF_w _ (by omega))) (DF_w _ (by omega))) (DF_w _ (by omega))) (DF_w _ (by omega))⟩
  · obtain ⟨k1, k2⟩ := E
    rw [k1, if_neg (by decide), if_neg (by decide), if_neg (by decide), if_neg (by decide), if_neg (by decide), if_pos (by decide), if_pos (p_ib (by omega) (by omega)), p_lt, p_ix (by omega), k2, m3]
    refine ⟨_, rfl, ⟨by rw [p_wrk _ _ _ _ (by decide)]; exact m1, by rw [p_wrk _ _ _ _ (by decide)]; exact m2, by rw [p_wrs]; rfl, by rw [p_wrk _ _ _ _ (by decide)]; exact m4, by rw [p_wrk _ _ _ _ (by decide)]; exact m5, e26 _ _⟩, DF_w _ (by omega)⟩
