/-! ===== the model's isLine, isRead ===== -/
/-- which word it is, in the model's count -/
def wc (l : List Nat) : Int32 := if l = wd 2 then 0 else if l = wd 3 then 1 else if l = wd 4 then 2 else if l = wd 5 then 3 else if l = wd 6 then 4 else if l = wd 7 then 5 else if l = wd 8 then 6 else if l = wd 9 then 7 else if l = wd 0 then 8 else if l = wd 1 then 9 else -1
theorem b80_a (N : Nat) (h : Hp) (v a : Int32) (ha : ¬ a = -1) : f_X8_isLine_b80 N v a h = f_X8_isLine_b177 N v a v h := by
  unfold f_X8_isLine_b80 f_X8_isLine_b161
  simp only [p_lt, if_neg ha, ite_self]
theorem pm_word (N : Nat) (h : Hp) {t : Nat} {B : Nat → Nat} {b : Nat} (hb : b ≤ t) (hB : ∀ j, j < t → B j < 256) (e2 : h.2 = tkI B b (en t B b)) (v : Int32) : (if (lg_cmp h.2 165460637) = 0 then f_X8_isLine_b80 N v 0 h else if (lg_cmp h.2 223459) = 0 then f_X8_isLine_b80 N v 1 h else if (lg_cmp h.2 365645) = 0 then f_X8_isLine_b80 N v 2 h else if (lg_cmp h.2 33861013) = 0 then f_X8_isLine_b80 N v 3 h else if (lg_cmp h.2 131360) = 0 then f_X8_isLine_b80 N v 4 h else f_X8_isLine_b80 N v (-1) h) = f_X8_isLine_b177 N v (wc (tbl B b (en t B b))) v h := by
  have tw := fun i (hi : i < 10) => tk_word hb hB hi
  have k : ∀ i, i < 10 → ((lg_cmp h.2 (lN (wv i))) = 0 ↔ tbl B b (en t B b) = wd i) := fun i hi => by rw [lg_cmp_eq, e2]; exact tw i hi
  have w0 : (1359346 : Int64) = lN (wv 0) := rfl
  have w1 : (168728 : Int64) = lN (wv 1) := rfl
  have w2 : (165460637 : Int64) = lN (wv 2) := rfl
  have w3 : (223459 : Int64) = lN (wv 3) := rfl
  have w4 : (365645 : Int64) = lN (wv 4) := rfl
  have w5 : (33861013 : Int64) = lN (wv 5) := rfl
  have w6 : (131360 : Int64) = lN (wv 6) := rfl
  have w7 : (11055682 : Int64) = lN (wv 7) := rfl
  have w8 : (374873 : Int64) = lN (wv 8) := rfl
  have w9 : (40586 : Int64) = lN (wv 9) := rfl
  rw [w2, w3, w4, w5, w6]
  unfold wc
  by_cases c2 : tbl B b (en t B b) = wd 2
  · rw [if_pos ((k 2 (by omega)).mpr c2), if_pos c2, b80_a N h v 0 (by decide)]
  rw [if_neg (fun z => c2 ((k 2 (by omega)).mp z)), if_neg c2]
  by_cases c3 : tbl B b (en t B b) = wd 3
  · rw [if_pos ((k 3 (by omega)).mpr c3), if_pos c3, b80_a N h v 1 (by decide)]
  rw [if_neg (fun z => c3 ((k 3 (by omega)).mp z)), if_neg c3]
  by_cases c4 : tbl B b (en t B b) = wd 4
  · rw [if_pos ((k 4 (by omega)).mpr c4), if_pos c4, b80_a N h v 2 (by decide)]
  rw [if_neg (fun z => c4 ((k 4 (by omega)).mp z)), if_neg c4]
  by_cases c5 : tbl B b (en t B b) = wd 5
  · rw [if_pos ((k 5 (by omega)).mpr c5), if_pos c5, b80_a N h v 3 (by decide)]
  rw [if_neg (fun z => c5 ((k 5 (by omega)).mp z)), if_neg c5]
  by_cases c6 : tbl B b (en t B b) = wd 6
  · rw [if_pos ((k 6 (by omega)).mpr c6), if_pos c6, b80_a N h v 4 (by decide)]
  rw [if_neg (fun z => c6 ((k 6 (by omega)).mp z)), if_neg c6]
  unfold f_X8_isLine_b80 f_X8_isLine_b161
  rw [p_lt, w7, w8, w9, w0, w1]
  simp only [p_lt]
  by_cases c7 : tbl B b (en t B b) = wd 7
  · rw [if_pos ((k 7 (by omega)).mpr c7), if_pos c7, if_pos trivial]
  rw [if_neg (fun z => c7 ((k 7 (by omega)).mp z)), if_neg c7]
  by_cases c8 : tbl B b (en t B b) = wd 8
  · rw [if_pos ((k 8 (by omega)).mpr c8), if_pos c8, if_pos trivial]
  rw [if_neg (fun z => c8 ((k 8 (by omega)).mp z)), if_neg c8]
  by_cases c9 : tbl B b (en t B b) = wd 9
  · rw [if_pos ((k 9 (by omega)).mpr c9), if_pos c9, if_pos trivial]
  rw [if_neg (fun z => c9 ((k 9 (by omega)).mp z)), if_neg c9]
  by_cases c0 : tbl B b (en t B b) = wd 0
  · rw [if_pos ((k 0 (by omega)).mpr c0), if_pos c0, if_pos trivial]
  rw [if_neg (fun z => c0 ((k 0 (by omega)).mp z)), if_neg c0]
  by_cases c1 : tbl B b (en t B b) = wd 1
  · rw [if_pos ((k 1 (by omega)).mpr c1), if_pos c1, if_pos trivial]
  rw [if_neg (fun z => c1 ((k 1 (by omega)).mp z)), if_neg c1, if_pos trivial]
theorem zk_01 {r : Int32} (h : r = 0 ∨ r = 1) : zk r = true := by rcases h with rfl | rfl <;> decide
theorem ML_01 {t j : Nat} {h h' : Hp} {s : Bs} {l : LR} {r : Int32} (M : ML t j h h' s l r) : r = 0 ∨ r = 1 := by
  cases l with
  | error u f => exact Or.inl M.2.1
  | ok c k => exact Or.inr M.2.1
theorem ML_pre {t j : Nat} {h0 h h' : Hp} {s : Bs} {l : LR} {r : Int32} (F : MK j h0 h) (M : ML t j h h' s l r) : ML t j h0 h' s l r := by
  cases l with
  | error u f => exact ⟨MK_tr F M.1, M.2⟩
  | ok c k => exact ⟨MK_tr F M.1, M.2⟩
theorem pm_line (N : Nat) (hN : 300 ≤ N) (h : Hp) {t : Nat} {B : Nat → Nat} (T : TM h t B) {p j : Nat} (hj : j < 12) (e8 : h.1 25 8 = nI p) (hp : p ≤ t) {s : Bs} (W : WB s) (R : RD h s) : ∃ r h', f_X8_isLine N (nI (4 * j)) h = some (r, h') ∧ ML t j h h' s (pLine t B s (nb t B p) (ne t B p)) r := by
  obtain ⟨h1, a1, F1, b1, c1, g1, -⟩ := pm_next N hN h T e8 hp
  have hle := ne_le (B := B) hp
  have hbt : bg t B p ≤ t := hle.2
  unfold f_X8_isLine
  rw [a1, p_cl, pm_word N h1 hbt (fun j hj => (T.2.2 j hj).2) g1]
  unfold f_X8_isLine_b177 f_X8_isLine_b240 f_X8_isLine_b246
  rw [if_pos (p_ib (show 4 * j < 48 by omega) (by omega)), p_lt, if_pos (p_ib (show 4 * j < 48 by omega) (by omega)), p_ix (by omega), p_wrs]
  have K1 : ∀ v, MK j h (wr h1 30 (4 * j) v) := fun v => ⟨fun c hc => by rw [p_wro _ _ _ _ (fun z => hc (by simp [z])), F1.1 c (fun z => hc (by simp [z]))], fun k hk => by rw [p_wro _ _ _ _ (by decide), F1.2 k (fun z => hk (by simp at z ⊢; omega))], fun x hx => by rw [p_wrk _ _ _ _ (by omega), F1.1 30 (by decide)]⟩
  have R1 : ∀ v, RD (wr h1 30 (4 * j) v) s := fun v => by
    unfold RD
    rw [p_wro _ _ _ _ (by decide), p_wro _ _ _ _ (by decide), p_wro _ _ _ _ (by decide), F1.2 15 (by decide), F1.2 16 (by decide), F1.2 17 (by decide), F1.1 28 (by decide), F1.1 29 (by decide)]
    exact R
  have T1 : ∀ v, TM (wr h1 30 (4 * j) v) t B := fun v => TM_mk T (K1 v)
  have g8 : ∀ v, (wr h1 30 (4 * j) v).1 25 8 = nI (ne t B p) := fun v => by rw [p_wro _ _ _ _ (by decide)]; exact b1
  have g9 : ∀ v, (wr h1 30 (4 * j) v).1 25 9 = nI (nb t B p) := fun v => by rw [p_wro _ _ _ _ (by decide)]; exact c1
  have g30 : ∀ v, (wr h1 30 (4 * j) v).1 30 (4 * j) = v := fun v => by rw [p_wrs]
  have etb : tbl B (bg t B p) (en t B (bg t B p)) = tbl B (nb t B p) (ne t B p) := rfl
  rw [etb]
  have man : ∀ kind, kind < 4 → ∃ r h', (cl (f_X8_isManLine N (nI (4 * j)) (wr h1 30 (4 * j) (nI kind))) fun r1 h2 => if zk r1 = true then some (r1, h2) else none) = some (r, h') ∧ ML t j h h' s (pMan t B s kind (nb t B p) (ne t B p)) r := by
    intro kind hk
    obtain ⟨r, h', x1, x2⟩ := pm_man N hN (wr h1 30 (4 * j) (nI kind)) (T1 _) hk hj (g9 _) (g8 _) hle.1 W (R1 _) (g30 _)
    rw [x1, p_cl, if_pos (zk_01 (ML_01 x2))]
    exact ⟨r, h', rfl, ML_pre (K1 _) x2⟩
  have law : ∀ l, l < 3 → ∃ r h', (if zk 1 = true then some ((1 : Int32), wr h1 30 (4 * j) (nI (4 + l))) else none) = some (r, h') ∧ ML t j h h' s (.ok ((.inr (.inl l))) (ne t B p)) r := by
    intro l hl
    rw [if_pos (by decide)]
    exact ⟨1, _, rfl, K1 _, rfl, R1 _, ⟨g30 _, hl⟩, g8 _, hle.1⟩
  unfold pLine
  by_cases c0 : tbl B (nb t B p) (ne t B p) = wd 0
  · rw [if_pos c0, c0, show wc (wd 0) = nI 8 by decide, if_neg (by decide), if_neg (by decide), if_neg (by decide), if_neg (by decide), if_neg (by decide), if_neg (by decide), if_neg (by decide), if_neg (by decide), if_pos (by decide)]
    obtain ⟨r, h', x1, x2⟩ := pm_board N hN (wr h1 30 (4 * j) (nI 8)) (T1 _) hj (g8 _) hle.1 s (g30 _)
    rw [x1, p_cl, if_pos (zk_01 (ML_01 x2))]
    exact ⟨r, h', rfl, ML_pre (K1 _) x2⟩
  by_cases c1 : tbl B (nb t B p) (ne t B p) = wd 1
  · rw [if_neg c0, if_pos c1, c1, show wc (wd 1) = nI 9 by decide, if_neg (by decide), if_neg (by decide), if_neg (by decide), if_neg (by decide), if_neg (by decide), if_neg (by decide), if_neg (by decide), if_neg (by decide), if_neg (by decide), if_pos (by decide)]
    obtain ⟨r, h', x1, x2⟩ := pm_hole N hN (wr h1 30 (4 * j) (nI 9)) (T1 _) hj (g8 _) hle.1 W (R1 _) (g30 _)
    rw [x1, p_cl, if_pos (zk_01 (ML_01 x2))]
    exact ⟨r, h', rfl, ML_pre (K1 _) x2⟩
  rw [if_neg c0, if_neg c1]
  by_cases c2 : tbl B (nb t B p) (ne t B p) = wd 2
  · rw [if_pos c2, c2, show wc (wd 2) = nI 0 by decide, if_pos (by decide)]
    exact man 0 (by omega)
  rw [if_neg c2]
  by_cases c3 : tbl B (nb t B p) (ne t B p) = wd 3
  · rw [if_pos c3, c3, show wc (wd 3) = nI 1 by decide, if_neg (by decide), if_pos (by decide)]
    exact man 1 (by omega)
  rw [if_neg c3]
  by_cases c4 : tbl B (nb t B p) (ne t B p) = wd 4
  · rw [if_pos c4, c4, show wc (wd 4) = nI 2 by decide, if_neg (by decide), if_neg (by decide), if_pos (by decide)]
    exact man 2 (by omega)
  rw [if_neg c4]
  by_cases c5 : tbl B (nb t B p) (ne t B p) = wd 5
  · rw [if_pos c5, c5, show wc (wd 5) = nI 3 by decide, if_neg (by decide), if_neg (by decide), if_neg (by decide), if_pos (by decide)]
    exact man 3 (by omega)
  rw [if_neg c5]
  by_cases c6 : tbl B (nb t B p) (ne t B p) = wd 6
  · rw [if_pos c6, c6, show wc (wd 6) = nI (4 + 0) by decide, if_neg (by decide), if_neg (by decide), if_neg (by decide), if_neg (by decide), if_pos (by decide)]
    exact law 0 (by omega)
  rw [if_neg c6]
  by_cases c7 : tbl B (nb t B p) (ne t B p) = wd 7
  · rw [if_pos c7, c7, show wc (wd 7) = nI (4 + 1) by decide, if_neg (by decide), if_neg (by decide), if_neg (by decide), if_neg (by decide), if_neg (by decide), if_pos (by decide)]
    exact law 1 (by omega)
  rw [if_neg c7]
  by_cases c8 : tbl B (nb t B p) (ne t B p) = wd 8
  · rw [if_pos c8, c8, show wc (wd 8) = nI (4 + 2) by decide, if_neg (by decide), if_neg (by decide), if_neg (by decide), if_neg (by decide), if_neg (by decide), if_neg (by decide), if_pos (by decide)]
    exact law 2 (by omega)
  rw [if_neg c8]
  by_cases c9 : tbl B (nb t B p) (ne t B p) = wd 9
  · rw [if_pos c9, c9, show wc (wd 9) = nI 7 by decide, if_neg (by decide), if_neg (by decide), if_neg (by decide), if_neg (by decide), if_neg (by decide), if_neg (by decide), if_neg (by decide), if_pos (by decide), p_lt, if_pos (by decide)]
    refine ⟨1, _, rfl, MK_tr (K1 _) (ML_w 17 _ (by decide)), rfl, ⟨by rw [p_wrk _ _ _ _ (by decide)]; exact (R1 _).1, by rw [p_wrk _ _ _ _ (by decide)]; exact (R1 _).2.1, by rw [p_wrs]; rfl, fun i hi => (by cases hi)⟩, ?_, by rw [p_wrk _ _ _ _ (by decide)]; exact g8 _, hle.1⟩
    show (wr (wr h1 30 (4 * j) (nI 7)) 25 17 0).1 30 (4 * j) = nI 7
    rw [p_wro _ _ _ _ (by decide), p_wrs]
  rw [if_neg c9]
  have ewc : wc (tbl B (nb t B p) (ne t B p)) = -1 := by
    unfold wc
    rw [if_neg c2, if_neg c3, if_neg c4, if_neg c5, if_neg c6, if_neg c7, if_neg c8, if_neg c9, if_neg c0, if_neg c1]
  rw [ewc, if_neg (by decide), if_neg (by decide), if_neg (by decide), if_neg (by decide), if_neg (by decide), if_neg (by decide), if_neg (by decide), if_neg (by decide), if_neg (by decide), if_neg (by decide), pm_fails, p_cl, if_pos (by decide), g9]
  exact ⟨0, _, rfl, MK_tr (K1 _) (ML_w 13 _ (by decide)), rfl, by rw [p_wrs]⟩
theorem EN_fr {h h' : Hp} {j : Nat} {c : Cm} (e : ∀ x, x < 4 * (j + 1) → h'.1 30 x = h.1 30 x) (E : EN h j c) : EN h' j c := by
  rcases c with ⟨k, c, a, b⟩ | l | u | ⟨w, g⟩ | p
  · show h'.1 30 (4 * j) = nI k ∧ h'.1 30 (4 * j + 1) = nI c ∧ h'.1 30 (4 * j + 2) = nI a ∧ h'.1 30 (4 * j + 3) = nI b ∧ k < 4
    rw [e _ (by omega), e _ (by omega), e _ (by omega), e _ (by omega)]; exact E
  · show h'.1 30 (4 * j) = nI (4 + l) ∧ l < 3
    rw [e _ (by omega)]; exact E
  · show h'.1 30 (4 * j) = nI 7
    rw [e _ (by omega)]; exact E
  · show h'.1 30 (4 * j) = nI 8 ∧ h'.1 30 (4 * j + 1) = nI w ∧ h'.1 30 (4 * j + 2) = nI g
    rw [e _ (by omega), e _ (by omega), e _ (by omega)]; exact E
  · show h'.1 30 (4 * j) = nI 9 ∧ h'.1 30 (4 * j + 1) = nI p
    rw [e _ (by omega), e _ (by omega)]; exact E
/-- what the model's reading keeps from line k on -/
def MG (k : Nat) (h h' : Hp) : Prop := (∀ c, c ∉ [25, 28, 29, 30] → h'.1 c = h.1 c) ∧ (∀ x, x ∉ [8, 9, 11, 12, 13, 14, 15, 16, 17] → h'.1 25 x = h.1 25 x) ∧ ∀ x, x < 4 * k → h'.1 30 x = h.1 30 x
theorem MG_mk {k : Nat} {h h' : Hp} (F : MK k h h') : MG k h h' := ⟨F.1, fun x hx => F.2.1 x (fun z => hx (by simp at z ⊢; omega)), F.2.2⟩
theorem MG_tr {k : Nat} {a b c : Hp} (h1 : MG k a b) (h2 : MG k b c) : MG k a c := ⟨fun x hx => by rw [h2.1 x hx, h1.1 x hx], fun x hx => by rw [h2.2.1 x hx, h1.2.1 x hx], fun x hx => by rw [h2.2.2 x hx, h1.2.2 x hx]⟩
def ME (h h' : Hp) (s : Bs) (k : Nat) : PR → Int32 → Prop
  | .error f, r => MG k h h' ∧ r = 0 ∧ h'.1 25 13 = nI f
  | .ok cs, r => MG k h h' ∧ r = 1 ∧ h'.1 25 14 = nI (k + cs.length) ∧ k + cs.length ≤ 12 ∧ ∀ j, j < cs.length → EN h' (k + j) (cs.getD j (.inr (.inr (.inl ()))))
theorem pm_read_l (N : Nat) (hN : 300 ≤ N) {t : Nat} {B : Nat → Nat} : ∀ (r e k p : Nat) (h : Hp) (s : Bs), TM h t B → h.1 25 8 = nI p → p ≤ t → h.1 25 14 = nI k → r + k = 12 → 0 < r → r + 1 < e → WB s → RD h s → ∃ v h', f_X8_isRead_l89 N e 1 h = some (v, h') ∧ ME h h' s k (pAll t B r k s p) v := by
  intro r
  induction r with
  | zero => intro e k p h s _ _ _ _ _ h2; omega
  | succ r ih =>
    intro e k p h s T e8 hp hl hrk _ he W R
    obtain ⟨e, rfl⟩ : ∃ x, e = x + 1 := ⟨e - 1, by omega⟩
    have ht := T.1
    obtain ⟨r1, h1, a1, M1⟩ := pm_line N hN h T (j := k) (by omega) e8 hp W R
    show ∃ v h', f_X8_isRead_b89 N (f_X8_isRead_l89 N e) 1 h = some (v, h') ∧ _
    unfold f_X8_isRead_b89 f_X8_isRead_b146 f_X8_isRead_b147
    rw [if_neg n10, hl, p_4x, a1, p_cl]
    cases hL : pLine t B s (nb t B p) (ne t B p) with
    | error u f =>
      rw [hL] at M1
      obtain ⟨K1, x1, x2⟩ := M1
      have epa : pAll t B (r + 1) k s p = .error f := by
        show (match pLine t B s (nb t B p) (ne t B p) with | .error () f => Except.error f | .ok c p1 => _) = _
        rw [hL]
      rw [x1, if_pos rfl, if_pos (by decide), epa]
      exact ⟨0, h1, rfl, MG_mk K1, rfl, x2⟩
    | ok c p1 =>
      rw [hL] at M1
      obtain ⟨K1, x1, R1, E1, g8, hp1⟩ := M1
      have W2 := WB_line W hL
      have hle2 := ne_le (B := B) hp1
      have epa : pAll t B (r + 1) k s p = (if nb t B p1 = t then .ok [c] else if tbl B (nb t B p1) (ne t B p1) = wd 10 ∧ k + 1 < 12 then (match pAll t B r (k + 1) (ap s c) (ne t B p1) with
        | .error f => .error f
        | .ok cs => .ok (c :: cs)) else .error (nb t B p1)) := by
        show (match pLine t B s (nb t B p) (ne t B p) with | .error () f => Except.error f | .ok c p1 => _) = _
        rw [hL]
        rfl
      rw [x1, if_neg n10, p_lt, K1.2.1 14 (by decide), hl, nI_1, epa]
      generalize eh2 : wr h1 25 14 (nI (k + 1)) = h2
      have o2 : ∀ c, c ≠ 25 → h2.1 c = h1.1 c := fun c hc => by rw [← eh2, p_wro _ _ _ _ hc]
      have o25 : ∀ x, x ≠ 14 → h2.1 25 x = h1.1 25 x := fun x hx => by rw [← eh2, p_wrk _ _ _ _ hx]
      have G2 : MG k h h2 := ⟨fun c hc => by rw [o2 c (fun z => hc (by simp [z])), K1.1 c hc], fun x hx => by rw [o25 x (fun z => hx (by simp [z])), K1.2.1 x (fun z => hx (by simp at z ⊢; omega))], fun x hx => by rw [o2 30 (by decide), K1.2.2 x hx]⟩
      have T2 : TM h2 t B := by unfold TM; rw [G2.2.1 6 (by decide), G2.1 27 (by decide)]; exact T
      obtain ⟨h3, a3, F3, b3, c3, g3, -⟩ := pm_next N hN h2 T2 (k := p1) (by rw [o25 8 (by decide)]; exact g8) hp1
      have G3 : MG k h h3 := MG_tr G2 ⟨fun c hc => F3.1 c (fun z => hc (by simp [z])), fun x hx => F3.2 x (fun z => hx (by simp at z ⊢; omega)), fun x _ => by rw [F3.1 30 (by decide)]⟩
      have T3 : TM h3 t B := TM_nx T2 F3
      have l3 : h3.1 25 14 = nI (k + 1) := by rw [F3.2 14 (by decide), ← eh2, p_wrs]
      have E3 : EN h3 k c := EN_fr (fun x _ => by rw [F3.1 30 (by decide), o2 30 (by decide)]) E1
      have R3 : RD h3 (ap s c) := by
        unfold RD
        rw [F3.2 15 (by decide), F3.2 16 (by decide), F3.2 17 (by decide), F3.1 28 (by decide), F3.1 29 (by decide), o25 15 (by decide), o25 16 (by decide), o25 17 (by decide), o2 28 (by decide), o2 29 (by decide)]
        exact R1
      have to := tk_over (B := B) (show bg t B p1 ≤ t from hle2.2)
      have ts := tk_semi (B := B) (show bg t B p1 ≤ t from hle2.2)
      -- the last round: more is false
      have last : ∃ v h', f_X8_isRead_l89 N e 0 h3 = some (v, h') ∧ ME h h' s k (if nb t B p1 = t then .ok [c] else .error (nb t B p1)) v := by
        obtain ⟨e, rfl⟩ : ∃ x, e = x + 1 := ⟨e - 1, by omega⟩
        show ∃ v h', f_X8_isRead_b89 N (f_X8_isRead_l89 N e) 0 h3 = some (v, h') ∧ _
        unfold f_X8_isRead_b89 f_X8_isRead_b169 f_X8_isRead_b174
        rw [if_pos rfl, g3]
        by_cases co : nb t B p1 = t
        · rw [if_pos ((lg_cmp_eq _ _).mpr (to.mpr co)), if_pos (by decide), if_pos co]
          refine ⟨1, h3, rfl, G3, rfl, l3, by show k + 1 ≤ 12; omega, fun j hj => ?_⟩
          have : j = 0 := by
            have hj' : j < 1 := hj
            omega
          subst this
          exact E3
        · rw [if_neg (fun z => co (to.mp ((lg_cmp_eq _ _).mp z))), pm_fails, p_cl, if_pos rfl, if_pos (by decide), if_neg co, c3]
          exact ⟨0, _, rfl, MG_tr G3 (MG_mk (ML_w 13 _ (by decide))), rfl, by rw [p_wrs]; rfl⟩
      rw [a3, p_cl, g3, l3]
      simp only [p_lt]
      by_cases cw : tbl B (nb t B p1) (ne t B p1) = wd 10
      · have hno : ¬ nb t B p1 = t := by
          intro z
          have h1 := tbl_len B (nb t B p1) (ne t B p1)
          rw [cw] at h1
          have h2 : ne t B p1 = nb t B p1 := by
            show en t B (nb t B p1) = nb t B p1
            unfold en
            rw [if_neg (by omega)]
          rw [h2, Nat.sub_self] at h1
          cases h1
        rw [if_pos ((lg_cmp_eq _ _).mpr (ts.mpr cw)), if_neg hno]
        by_cases ck : k + 1 < 12
        · rw [if_neg (show ¬ (12 : Int32) ≤ nI (k + 1) from nI_ge (b := 12) ck (by omega)), if_pos ⟨cw, ck⟩]
          obtain ⟨v, h5, a5, E5⟩ := ih e (k + 1) (ne t B p1) h3 (ap s c) T3 b3 hle2.1 l3 (by omega) (by omega) (by omega) W2 R3
          refine ⟨v, h5, a5, ?_⟩
          have dn : ∀ G : MG (k + 1) h3 h5, MG k h h5 := fun G => MG_tr G3 ⟨G.1, G.2.1, fun x hx => G.2.2 x (by omega)⟩
          cases hq : pAll t B r (k + 1) (ap s c) (ne t B p1) with
          | error f =>
            rw [hq] at E5
            exact ⟨dn E5.1, E5.2⟩
          | ok cs =>
            rw [hq] at E5
            obtain ⟨q1, q2, q3, q4, q5⟩ := E5
            refine ⟨dn q1, q2, ?_, by show k + (cs.length + 1) ≤ 12; omega, fun j hj => ?_⟩
            · rw [q3]; congr 1; show k + 1 + cs.length = k + (cs.length + 1); omega
            · rcases j with _ | j
              · exact EN_fr (fun x hx => q1.2.2 x (by omega)) E3
              · have hj' : j < cs.length := by
                  have : j + 1 < cs.length + 1 := hj
                  omega
                have := q5 j hj'
                rw [show k + (j + 1) = k + 1 + j by omega]
                exact this
        · rw [if_pos (show (12 : Int32) ≤ nI (k + 1) from nI_le (a := 12) (by omega) (by omega)), if_neg (fun z => ck z.2)]
          rw [if_neg hno] at last
          exact last
      · rw [if_neg (fun z => cw (ts.mp ((lg_cmp_eq _ _).mp z)))]
        by_cases co : nb t B p1 = t
        · rw [if_pos co] at last ⊢
          exact last
        · rw [if_neg co] at last ⊢
          rw [if_neg (fun z => cw z.1)]
          exact last
