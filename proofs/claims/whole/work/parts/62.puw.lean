/-! ===== the class's read; the model's lines ===== -/
theorem pu_copy (o q N : Nat) (h : Hp) {s : Bs} (D : DR q h s) (n4 : s.n ≤ 4) (hoq : o + 2 < q ∨ q + 2 < o) : ∃ h', f_X5_copy o q N h = some (0, h') ∧ DR o h' s ∧ ∀ c, c ≠ o → c ≠ o + 1 → c ≠ o + 2 → h'.1 c = h.1 c := by
  obtain ⟨d1, d2, d3, d4, d5, d6, d7, d8⟩ := D
  unfold f_X5_copy
  simp only [p_lt]
  have hq : q ≠ o := by omega
  simp only [p_wro _ _ _ _ hq]
  generalize eh7 : wr (wr (wr (wr (wr (wr (wr h o 0 (h.1 q 0)) o 1 (h.1 q 1)) o 2 (h.1 q 2)) o 3 (h.1 q 3)) o 4 (h.1 q 4)) o 5 (h.1 q 5)) o 6 (h.1 q 6) = h7
  have f7 : ∀ c, c ≠ o → h7.1 c = h.1 c := fun c hc => by rw [← eh7]; simp only [p_wro _ _ _ _ hc]
  refine ⟨_, rfl, ?_, ?_⟩
  · have g : ∀ c, c ≠ o + 1 → c ≠ o + 2 → ∀ x y, (wrow (wrow h7 (o + 1) x) (o + 2) y).1 c = h7.1 c := fun c h1 h2 x y => by rw [p_wrowo _ _ _ h2, p_wrowo _ _ _ h1]
    have go := fun x y => g o (by omega) (by omega) x y
    have k0 : h7.1 o 0 = h.1 q 0 := by rw [← eh7]; simp [p_wr]
    have k1 : h7.1 o 1 = h.1 q 1 := by rw [← eh7]; simp [p_wr]
    have k2 : h7.1 o 2 = h.1 q 2 := by rw [← eh7]; simp [p_wr]
    have k3 : h7.1 o 3 = h.1 q 3 := by rw [← eh7]; simp [p_wr]
    have k4 : h7.1 o 4 = h.1 q 4 := by rw [← eh7]; simp [p_wr]
    have k5 : h7.1 o 5 = h.1 q 5 := by rw [← eh7]; simp [p_wr]
    have k6 : h7.1 o 6 = h.1 q 6 := by rw [← eh7]; simp [p_wr]
    refine ⟨by rw [go, k0]; exact d1, by rw [go, k1]; exact d2, by rw [go, k2]; exact d3, by rw [go, k3]; exact d4, by rw [go, k4]; exact d5, ?_, by rw [go, k5]; exact d7, by rw [go, k6]; exact d8⟩
    intro i hi
    have c4 : ix (4 : Int32) = 4 := rfl
    have c0 : ix (0 : Int32) = 0 := rfl
    rw [p_wrowo _ _ _ (show o + 1 ≠ o + 2 by omega), p_wrows, p_wrows, c4, c0, pk_cpy_in (Nat.zero_le _) (by omega), pk_cpy_in (Nat.zero_le _) (by omega), Nat.sub_zero, Nat.zero_add, p_wrowo _ _ _ (show q + 2 ≠ o + 1 by omega), f7 (q + 1) (by omega), f7 (q + 2) (by omega)]
    exact d6 i hi
  · intro c h1 h2 h3
    rw [p_wrowo _ _ _ h3, p_wrowo _ _ _ h2]
    exact f7 c h1
theorem pu_read (N : Nat) (hN : 300 ≤ N) (h : Hp) {t : Nat} {B : Nat → Nat} (T : TX h t B) {s : Bs} (W : WB s) (D : DR 1 h s) : ∃ h', f_X3_read N h = some (0, h') ∧ CE h h' s 0 (pAll t B 12 0 s 0) := by
  obtain ⟨h1, a1, D1, F1⟩ := pu_copy 7 1 N h D W.2.1 (by omega)
  unfold f_X3_read f_X6_rewind
  rw [a1, p_cl]
  simp only [p_lt, p_cl]
  generalize eh4 : wr (wr (wr (wr h1 6 1 (-1)) 6 2 0) 4 2 0) 4 3 0 = h4
  have g4 : ∀ c, c ≠ 6 → c ≠ 4 → h4.1 c = h1.1 c := fun c c6 c4 => by rw [← eh4, p_wro _ _ _ _ c4, p_wro _ _ _ _ c4, p_wro _ _ _ _ c6, p_wro _ _ _ _ c6]
  have F4 : ∀ c, c ∉ [4, 6, 7, 8, 9] → h4.1 c = h.1 c := fun c hc => by rw [g4 c (fun z => hc (by simp [z])) (fun z => hc (by simp [z])), F1 c (fun z => hc (by simp [z])) (fun z => hc (by simp [z])) (fun z => hc (by simp [z]))]
  have F44 : h4.1 4 1 = h.1 4 1 := by rw [← eh4, p_wrk _ _ _ _ (by decide), p_wrk _ _ _ _ (by decide), p_wro _ _ _ _ (by decide), p_wro _ _ _ _ (by decide), F1 4 (by decide) (by decide) (by decide)]
  have T4 : TX h4 t B := by unfold TX; rw [F44, F4 5 (by decide)]; exact T
  have D4 : DR 7 h4 s := DR_nf D1 (g4 7 (by decide) (by decide)) (g4 8 (by decide) (by decide)) (g4 9 (by decide) (by decide))
  obtain ⟨h5, a5, E5⟩ := pu_read_l N hN (t := t) (B := B) 12 N 0 0 h4 s T4 (by rw [← eh4, p_wrs]; rfl) (Nat.zero_le _) (by rw [← eh4, p_wro _ _ _ _ (by decide), p_wro _ _ _ _ (by decide), p_wrk _ _ _ _ (by decide), p_wrs]) (by rw [← eh4, p_wro _ _ _ _ (by decide), p_wro _ _ _ _ (by decide), p_wrs]; rfl) (by omega) (by omega) (by omega) W D4
  refine ⟨h5, a5, ?_⟩
  cases hq : pAll t B 12 0 s 0 with
  | error f =>
    rw [hq] at E5
    exact ⟨fun c hc => by rw [E5.1 c hc, F4 c hc], by rw [E5.2.1, F44], E5.2.2⟩
  | ok cs =>
    rw [hq] at E5
    exact ⟨fun c hc => by rw [E5.1 c hc, F4 c hc], by rw [E5.2.1, F44], E5.2.2⟩
/-! the model's lines -/
def RD (h : Hp) (s : Bs) : Prop := h.1 25 15 = nI (s.w * s.g) ∧ h.1 25 16 = s.ho ∧ h.1 25 17 = nI s.n ∧ ∀ i, i < s.n → h.1 28 i = nI (s.S i) ∧ h.1 29 i = nI (s.L i)
def EN (h : Hp) (j : Nat) : Cm → Prop
  | (.inl (k, c, a, b)) => h.1 30 (4 * j) = nI k ∧ h.1 30 (4 * j + 1) = nI c ∧ h.1 30 (4 * j + 2) = nI a ∧ h.1 30 (4 * j + 3) = nI b ∧ k < 4
  | (.inr (.inl l)) => h.1 30 (4 * j) = nI (4 + l) ∧ l < 3
  | (.inr (.inr (.inl ()))) => h.1 30 (4 * j) = nI 7
  | (.inr (.inr (.inr (.inl (w, g))))) => h.1 30 (4 * j) = nI 8 ∧ h.1 30 (4 * j + 1) = nI w ∧ h.1 30 (4 * j + 2) = nI g
  | (.inr (.inr (.inr (.inr p)))) => h.1 30 (4 * j) = nI 9 ∧ h.1 30 (4 * j + 1) = nI p
/-- what the model's reading of line j keeps -/
def MK (j : Nat) (h h' : Hp) : Prop := (∀ c, c ∉ [25, 28, 29, 30] → h'.1 c = h.1 c) ∧ (∀ k, k ∉ [8, 9, 11, 12, 13, 15, 16, 17] → h'.1 25 k = h.1 25 k) ∧ ∀ x, x < 4 * j → h'.1 30 x = h.1 30 x
theorem MK_tr {j : Nat} {a b c : Hp} (h1 : MK j a b) (h2 : MK j b c) : MK j a c := ⟨fun x hx => by rw [h2.1 x hx, h1.1 x hx], fun k hk => by rw [h2.2.1 k hk, h1.2.1 k hk], fun x hx => by rw [h2.2.2 x hx, h1.2.2 x hx]⟩
theorem TM_mk {j : Nat} {h h' : Hp} {t : Nat} {B : Nat → Nat} (T : TM h t B) (F : MK j h h') : TM h' t B := by
  unfold TM
  rw [F.2.1 6 (by decide), F.1 27 (by decide)]
  exact T
def ML (t j : Nat) (h h' : Hp) (s : Bs) : LR → Int32 → Prop
  | .error () f, r => MK j h h' ∧ r = 0 ∧ h'.1 25 13 = nI f
  | .ok c k, r => MK j h h' ∧ r = 1 ∧ RD h' (ap s c) ∧ EN h' j c ∧ h'.1 25 8 = nI k ∧ k ≤ t
theorem pm_fails (N : Nat) (h : Hp) : f_X8_fails N h = some (0, wr h 25 13 (h.1 25 9)) := by
  unfold f_X8_fails
  rw [p_lt, if_pos (by decide)]
/-- a number read in the model -/
def MN (wh : Nat) (h h' : Hp) : Prop := (∀ c, c ∉ [25, 30] → h'.1 c = h.1 c) ∧ (∀ k, k ∉ [8, 9, 11, 12, 13] → h'.1 25 k = h.1 25 k) ∧ ∀ x, x ≠ wh → h'.1 30 x = h.1 30 x
theorem MN_mk {j wh : Nat} {h h' : Hp} (F : MN wh h h') (hw : 4 * j ≤ wh) : MK j h h' := ⟨fun c hc => F.1 c (fun z => hc (by simp at z ⊢; omega)), fun k hk => F.2.1 k (fun z => hk (by simp at z ⊢; omega)), fun x hx => F.2.2 x (by omega)⟩
theorem RD_mn {wh : Nat} {h h' : Hp} {s : Bs} (R : RD h s) (F : MN wh h h') : RD h' s := by
  unfold RD
  rw [F.2.1 15 (by decide), F.2.1 16 (by decide), F.2.1 17 (by decide), F.1 28 (by decide), F.1 29 (by decide)]
  exact R
theorem pm_num (N : Nat) (hN : 300 ≤ N) (h : Hp) {t : Nat} {B : Nat → Nat} (T : TM h t B) {k lo hi wh : Nat} (e8 : h.1 25 8 = nI k) (hk : k ≤ t) (hlo : lo < 100) (hhi : hi < 100) (hwh : wh < 48) : ∃ r h', f_X8_isNumber N (nI wh) (nI lo) (nI hi) h = some (r, h') ∧ MN wh h h' ∧ h'.1 25 9 = nI (nb t B k) ∧ h'.1 25 8 = nI (ne t B k) ∧ ((∃ x, rN t B k lo hi = some x ∧ r = 1 ∧ h'.1 30 wh = nI x) ∨ (rN t B k lo hi = none ∧ r = 0 ∧ h'.1 25 13 = nI (nb t B k))) := by
  obtain ⟨h1, a1, F1, b1, c1, g1, v1⟩ := pm_next N hN h T e8 hk
  have hb := bg_ge (B := B) hk
  have F1n : MN wh h h1 := ⟨fun c hc => F1.1 c (fun z => hc (by simp [z])), fun k hk => F1.2 k (fun z => hk (by simp at z ⊢; omega)), fun x _ => by rw [F1.1 30 (by decide)]⟩
  have bad : ∃ r h', f_X8_isNumber_b27 N h1 = some (r, h') ∧ MN wh h h' ∧ h'.1 25 9 = nI (nb t B k) ∧ h'.1 25 8 = nI (ne t B k) ∧ r = 0 ∧ h'.1 25 13 = nI (nb t B k) := by
    unfold f_X8_isNumber_b27
    rw [pm_fails, p_cl, if_pos (by decide)]
    refine ⟨0, _, rfl, ⟨fun c hc => by rw [p_wro _ _ _ _ (fun z => hc (by simp [z]))]; exact F1n.1 c hc, fun k hk => by rw [p_wrk _ _ _ _ (fun z => hk (by simp [z]))]; exact F1n.2.1 k hk, fun x hx => by rw [p_wro _ _ _ _ (by decide)]; exact F1n.2.2 x hx⟩, by rw [p_wrk _ _ _ _ (by decide)]; exact c1, by rw [p_wrk _ _ _ _ (by decide)]; exact b1, rfl, by rw [p_wrs]; exact c1⟩
  unfold f_X8_isNumber
  rw [a1, p_cl, g1]
  have enm : nm B (nb t B k) (ne t B k) = nm B (bg t B k) (en t B (bg t B k)) := rfl
  by_cases ct : tkI B (bg t B k) (en t B (bg t B k)) = -1
  · obtain ⟨v, hv⟩ := (tk_num hb.2).mp ct
    have e12 := v1 v hv
    have hv100 : v < 100 := by
      unfold nm at hv
      split at hv
      · cases hv
      · split at hv
        · cases hv
        · rename_i q1 q2
          have hd : isD (B (bg t B k)) = true := by simpa using q2
          have hd1 := isD_b hd
          split at hv
          · have := Option.some.inj hv; omega
          · split at hv
            · have hd2 := isD_b (tok_D (t := t) (b := bg t B k) (k := bg t B k + 1) (by have := (en_ge (B := B) hb.2); omega) hd (by omega) (by omega))
              have := Option.some.inj hv
              omega
            · cases hv
    rw [if_pos ((lg_cmp_eq _ _).mpr ct), pm_in, p_cl, e12]
    by_cases q1 : lo ≤ v
    · rw [if_neg (nI_nlt q1 (by omega))]
      by_cases q2 : v ≤ hi
      · have rn : rN t B k lo hi = some v := by
          unfold rN; rw [enm, hv]
          show (if lo ≤ v ∧ v ≤ hi then some v else none) = some v
          rw [if_pos ⟨q1, q2⟩]
        rw [if_neg (nI_nlt q2 (by omega)), if_neg n10, if_pos (p_ib hwh (by omega)), p_lt, if_pos (by decide), p_ix (by omega)]
        refine ⟨1, _, rfl, ⟨fun c hc => by rw [p_wro _ _ _ _ (fun z => hc (by simp [z]))]; exact F1n.1 c hc, fun k hk => by rw [p_wro _ _ _ _ (by decide)]; exact F1n.2.1 k hk, fun x hx => by rw [p_wrk _ _ _ _ hx]; exact F1n.2.2 x hx⟩, by rw [p_wro _ _ _ _ (by decide)]; exact c1, by rw [p_wro _ _ _ _ (by decide)]; exact b1, Or.inl ⟨v, rn, rfl, by rw [p_wrs]⟩⟩
      · have rn : rN t B k lo hi = none := by
          unfold rN; rw [enm, hv]
          show (if lo ≤ v ∧ v ≤ hi then some v else none) = none
          rw [if_neg (fun z => q2 z.2)]
        rw [if_pos (nI_lt (by omega) (by omega)), if_pos rfl]
        obtain ⟨r, h', x1, x2, x3, x4, x5, x6⟩ := bad
        exact ⟨r, h', x1, x2, x3, x4, Or.inr ⟨rn, x5, x6⟩⟩
    · have rn : rN t B k lo hi = none := by
        unfold rN; rw [enm, hv]
        show (if lo ≤ v ∧ v ≤ hi then some v else none) = none
        rw [if_neg (fun z => q1 z.1)]
      rw [if_pos (nI_lt (by omega) (by omega)), if_pos rfl]
      obtain ⟨r, h', x1, x2, x3, x4, x5, x6⟩ := bad
      exact ⟨r, h', x1, x2, x3, x4, Or.inr ⟨rn, x5, x6⟩⟩
  · have hnone : nm B (bg t B k) (en t B (bg t B k)) = none := by
      cases hv : nm B (bg t B k) (en t B (bg t B k)) with
      | none => rfl
      | some v => exact absurd ((tk_num hb.2).mpr ⟨v, hv⟩) ct
    have rn : rN t B k lo hi = none := by unfold rN; rw [enm, hnone]; rfl
    rw [if_neg (fun z => ct ((lg_cmp_eq _ _).mp z))]
    obtain ⟨r, h', x1, x2, x3, x4, x5, x6⟩ := bad
    exact ⟨r, h', x1, x2, x3, x4, Or.inr ⟨rn, x5, x6⟩⟩
theorem pm_isOf (w9 N : Nat) (hN : 20 ≤ N) (h : Hp) {n q : Nat} (hn4 : n ≤ 4) (hq : q < 100) {P : Nat → Nat} (hP : ∀ i, i < n → h.1 w9 i = nI (P i) ∧ P i < 100) : f_X8_isOf w9 N (nI n) (nI q) h = some (b2i (occ n P q), h) := by
  have loop : ∀ (e i : Nat) (b : Bool), i ≤ n → n - i < e → f_X8_isOf_l5 w9 N e (nI n) (nI q) (b2i b) (nI i) h = some (b2i (b || anyr (fun i => decide (P i = q)) (n - i) i), h) := by
    intro e
    induction e with
    | zero => intro i b _ h2; omega
    | succ e ih =>
      intro i b hi he
      show f_X8_isOf_b5 w9 N (f_X8_isOf_l5 w9 N e) (nI n) (nI q) (b2i b) (nI i) h = _
      unfold f_X8_isOf_b5 f_X8_isOf_b23 f_X8_isOf_b28
      by_cases hc : i = n
      · subst hc
        rw [if_pos (nI_le (Nat.le_refl _) (by omega)), Nat.sub_self]
        cases b <;> rfl
      · have p1 := hP i (by omega)
        obtain ⟨r, hr⟩ : ∃ r, n - i = r + 1 := ⟨n - i - 1, by omega⟩
        have s1 := ih (i + 1) true (by omega) (by omega)
        have s0 := ih (i + 1) false (by omega) (by omega)
        rw [show n - (i + 1) = r by omega] at s1 s0
        rw [if_neg (nI_ge (by omega) (by omega)), hr]
        simp only [p_lt, nI_1]
        show _ = some (b2i (b || (decide (P i = q) || anyr (fun i => decide (P i = q)) r (i + 1))), h)
        cases b
        · rw [if_pos (by decide), if_pos (p_ib (by omega) (by omega)), p_ix (by omega), p1.1]
          by_cases c1 : P i = q
          · rw [if_pos (by rw [c1]), decide_eq_true c1]; exact s1
          · rw [if_neg (by rw [nI_eq (by omega) (by omega)]; exact c1), decide_eq_false c1]; exact s0
        · rw [if_neg (by decide)]; exact s1
  unfold f_X8_isOf
  rw [p_lt, p_lt]
  exact loop N 0 false (by omega) (by omega)
