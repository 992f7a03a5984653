/-! ===== lines: holes, men, in the class ===== -/
theorem pu_isHole3 (N : Nat) (h : Hp) (v : Int32) : f_X3_isHole N v h = some (if bi (h.1 7 2) v = 1 then 1 else 0, h) := by
  unfold f_X3_isHole f_X3_isHole_b20
  rw [p_bit, p_cl]
  by_cases c : bi (h.1 7 2) v = 1
  · rw [if_pos c, if_pos c]; rfl
  · rw [if_neg c, if_neg c]; rfl
section FA
theorem hole77_f (N : Nat) (hN : 300 ≤ N) (h : Hp) {n : Nat} (hn : h.1 7 4 = nI n) (hn4 : n ≤ 4) (hf : ¬ h.1 6 1 = -1) (v a : Int32) : f_X3_readHole_b77 N v a h = some (0, h) := by
  have := hN; have := hn; have := hn4
  unfold f_X3_readHole_b77 f_X3_readHole_b103
  rw [pu_refuse_f N h a hf, p_cl, if_neg hf]
theorem hole49_f (N : Nat) (hN : 300 ≤ N) (h : Hp) {n : Nat} (hn : h.1 7 4 = nI n) (hn4 : n ≤ 4) (hf : ¬ h.1 6 1 = -1) (v a : Int32) : f_X3_readHole_b49 N v a h = some (0, h) := by
  unfold f_X3_readHole_b49
  obtain ⟨r, hr⟩ := pu_manOf_any 7 N (by omega) h hn hn4 (h.1 7 6) v
  rw [pu_refuse_f N h a hf, p_cl, hr, p_cl, hole77_f N hN h hn hn4 hf, hole77_f N hN h hn hn4 hf]
  split <;> rfl
theorem man129_f (N : Nat) (hN : 300 ≤ N) (h : Hp) {n : Nat} (hn : h.1 7 4 = nI n) (hn4 : n ≤ 4) (hf : ¬ h.1 6 1 = -1) (a b c d e : Int32) : f_X3_readMan_b129 N a b c d e h = some (0, h) := by
  have := hN; have := hn; have := hn4
  unfold f_X3_readMan_b129 f_X3_readMan_b152
  rw [pu_refuse_f N h e hf, p_cl, if_neg hf]
theorem man75_f (N : Nat) (hN : 300 ≤ N) (h : Hp) {n : Nat} (hn : h.1 7 4 = nI n) (hn4 : n ≤ 4) (hf : ¬ h.1 6 1 = -1) (a b c e : Int32) : f_X3_readMan_b75 N a b c e h = some (0, h) := by
  unfold f_X3_readMan_b75 f_X3_readMan_b124 f_X5_squares
  rw [pu_refuse_f N h e hf, p_cl, p_cl, pu_rNum_f N h _ _ hf, p_cl, p_lt, pu_isHole3, p_cl]
  obtain ⟨r, hr⟩ := pu_manOf_any 7 N (by omega) h hn hn4 (h.1 7 6) 0
  rw [hr, p_cl, man129_f N hN h hn hn4 hf, man129_f N hN h hn hn4 hf]
  simp only [ite_self]
theorem man17_f (N : Nat) (hN : 300 ≤ N) (h : Hp) {n : Nat} (hn : h.1 7 4 = nI n) (hn4 : n ≤ 4) (hf : ¬ h.1 6 1 = -1) (a e : Int32) : f_X3_readMan_b17 N a e h = some (0, h) := by
  unfold f_X3_readMan_b17 f_X3_readMan_b70 f_X5_squares
  rw [pu_refuse_f N h e hf, p_cl, pu_rNum_f N h _ _ hf, p_cl, p_lt, p_cl, pu_rNum_f N h _ _ hf, p_cl, p_lt, pu_isHole3, p_cl]
  obtain ⟨r, hr⟩ := pu_manOf_any 7 N (by omega) h hn hn4 (h.1 7 5) 0
  rw [hr, p_cl, man75_f N hN h hn hn4 hf, man75_f N hN h hn hn4 hf]
  simp only [ite_self]
end FA
theorem wg_pos {w g : Nat} (h : bd w g) : 4 ≤ w * g := Nat.mul_le_mul h.1 h.2.2.1
/-- refusing with no fault before: the fault stands at the token's begin -/
theorem fault_cf {h : Hp} {b : Nat} (e2 : h.1 4 2 = nI b) : CF h (wr h 6 1 (h.1 4 2)) ∧ (wr h 6 1 (h.1 4 2)).1 6 1 = nI b ∧ (wr h 6 1 (h.1 4 2)).1 7 4 = h.1 7 4 :=
  ⟨⟨fun c hc => by rw [p_wro _ _ _ _ (fun z => hc (by simp [z]))], by rw [p_wro _ _ _ _ (by decide)], by rw [p_wrk _ _ _ _ (by decide)]⟩, by rw [p_wrs, e2], by rw [p_wro _ _ _ _ (by decide)]⟩
theorem sq_m1 {w g : Nat} (h : bd w g) : nI w * nI g - 1 = nI (w * g - 1) := by
  have := wg_pos h
  rw [pk_mul]
  exact pk_sub (b := 1) (by omega)
theorem pu_hole (N : Nat) (hN : 300 ≤ N) (h : Hp) {t : Nat} {B : Nat → Nat} (T : TX h t B) {k : Nat} (e3 : h.1 4 3 = nI k) (hk : k ≤ t) (hf : h.1 6 1 = -1) {s : Bs} (W : WB s) (D : DR 7 h s) : ∃ h', f_X3_readHole N h = some (0, h') ∧ CL t h h' s (pHole t B s k) := by
  have ht := T.1
  have hle := ne_le (B := B) hk
  have h12 := W.1.2.2.2.2
  have hn4 := W.2.1
  obtain ⟨v, h1, a1, F1, b1, c1, r1⟩ := pu_rNum N hN h T (lo := 0) (hi := s.w * s.g - 1) e3 hk hf (by omega) (by omega)
  have D1 := nf7 F1 D
  obtain ⟨d1, d2, d3, d4, d5, d6, d7, d8⟩ := id D1
  unfold f_X3_readHole f_X5_squares
  rw [p_cl, D.1, D.2.1, sq_m1 W.1, show f_X3_readNumber N 0 (nI (s.w * s.g - 1)) h = some (v, h1) from a1, p_cl, p_lt, pu_isHole3, p_cl]
  rcases r1 with ⟨p, x1, x2, x3⟩ | ⟨x1, x2⟩
  rotate_left
  · have hfl : ¬ h1.1 6 1 = -1 := by rw [x2]; exact ne_m1 (by omega)
    obtain ⟨r, hr⟩ := pu_manOf_any 7 N (by omega) h1 d5 hn4 (h1.1 7 5) v
    rw [pu_refuse_f N h1 _ hfl, p_cl, hr, p_cl, hole49_f N hN h1 d5 hn4 hfl, hole49_f N hN h1 d5 hn4 hfl]
    refine ⟨h1, by split <;> rfl, ?_⟩
    unfold pHole
    rw [x1]
    exact ⟨NF_cf F1, x2⟩
  have hx := rN_in x1
  have wp := wg_pos W.1
  have hp12 : p < 12 := by omega
  have ep : pHole t B s k = if (bt s.ho p || (occ s.n s.S p || occ s.n s.L p)) = true then .error () (nb t B k) else .ok ((.inr (.inr (.inr (.inr p))))) (ne t B k) := by
    unfold pHole
    rw [x1]
  rw [ep, x2, d3]
  have fl := fault_cf b1
  have hbad : CL t h (wr h1 6 1 (h1.1 4 2)) s (.error () (nb t B k)) := ⟨CF_tr (NF_cf F1) fl.1, fl.2.1⟩
  have hflt : ¬ (wr h1 6 1 (h1.1 4 2)).1 6 1 = -1 := by rw [fl.2.1]; exact ne_m1 (by omega)
  have hn' : (wr h1 6 1 (h1.1 4 2)).1 7 4 = nI s.n := by rw [fl.2.2]; exact d5
  cases hb : bt s.ho p with
  | true =>
    rw [bi_e1 (by omega) hb, if_pos rfl, pu_refuse_1 N h1 x3, p_cl]
    obtain ⟨r, hr⟩ := pu_manOf_any 7 N (by omega) (wr h1 6 1 (h1.1 4 2)) hn' hn4 ((wr h1 6 1 (h1.1 4 2)).1 7 5) (nI p)
    rw [hr, p_cl, hole49_f N hN _ hn' hn4 hflt, hole49_f N hN _ hn' hn4 hflt]
    refine ⟨_, by split <;> rfl, ?_⟩
    rw [Bool.true_or, if_pos rfl]
    exact hbad
  | false =>
    rw [bi_e0 (by omega) (by rw [hb]; decide), if_neg n01, pu_refuse_0 N h1, p_cl, pu_manOf 7 N (by omega) h1 d5 hn4 hp12 d7 W.2.2.2.1, p_cl, Bool.false_or]
    unfold f_X3_readHole_b49
    cases ho1 : occ s.n s.S p with
    | true =>
      rw [if_neg (fun z => by have := (lastm_occ hn4).mp z; rw [ho1] at this; cases this), pu_refuse_1 N h1 x3, p_cl]
      obtain ⟨r, hr⟩ := pu_manOf_any 7 N (by omega) (wr h1 6 1 (h1.1 4 2)) hn' hn4 ((wr h1 6 1 (h1.1 4 2)).1 7 6) (nI p)
      rw [hr, p_cl, hole77_f N hN _ hn' hn4 hflt, hole77_f N hN _ hn' hn4 hflt]
      refine ⟨_, by split <;> rfl, ?_⟩
      rw [Bool.true_or, if_pos rfl]
      exact hbad
    | false =>
      rw [if_pos ((lastm_occ hn4).mpr ho1), pu_refuse_0 N h1, p_cl, pu_manOf 7 N (by omega) h1 d5 hn4 hp12 d8 W.2.2.2.2, p_cl, Bool.false_or]
      unfold f_X3_readHole_b77 f_X3_readHole_b103
      cases ho2 : occ s.n s.L p with
      | true =>
        rw [if_neg (fun z => by have := (lastm_occ hn4).mp z; rw [ho2] at this; cases this), pu_refuse_1 N h1 x3, p_cl, if_neg hflt, if_pos rfl]
        exact ⟨_, rfl, hbad⟩
      | false =>
        rw [if_pos ((lastm_occ hn4).mpr ho2), pu_refuse_0 N h1, p_cl, if_pos x3, p_lt, if_neg (by decide), d3]
        have e : ∀ c, c ≠ 7 → (wr h1 7 2 (s.ho ||| ((1 : Int32) <<< (nI p &&& 31)))).1 c = h1.1 c := fun c hc => by rw [p_wro _ _ _ _ hc]
        refine ⟨_, rfl, CF_tr (NF_cf F1) ⟨fun c hc => e c (fun z => hc (by simp [z])), by rw [e 4 (by decide)], by rw [e 6 (by decide)]⟩, by rw [e 6 (by decide)]; exact x3, ?_, by rw [e 4 (by decide)]; exact c1, hle.1⟩
        refine ⟨by rw [p_wrk _ _ _ _ (by decide)]; exact d1, by rw [p_wrk _ _ _ _ (by decide)]; exact d2, by rw [p_wrs]; rfl, by rw [p_wrk _ _ _ _ (by decide)]; exact d4, by rw [p_wrk _ _ _ _ (by decide)]; exact d5, ?_, by rw [p_wrk _ _ _ _ (by decide)]; exact d7, by rw [p_wrk _ _ _ _ (by decide)]; exact d8⟩
        intro i hi
        rw [p_wro _ _ _ _ (by decide), p_wro _ _ _ _ (by decide)]
        exact d6 i hi
theorem PC_add {p : Int32} {n s : Nat} {P : Nat → Nat} (h : PC p n P) (hn : n < 4) (hs : s < 12) : PC (mvd p n (nI s)) (n + 1) (updN P n s) := by
  refine ⟨ps_add h.1 hn (by omega), fun j hj => ?_⟩
  unfold updN
  by_cases hji : j = n
  · subst hji
    rw [plc_mvd_self p (by omega) (by omega), if_pos rfl]
    exact ⟨rfl, hs⟩
  · rw [plc_mvd_ne p (by omega) (by omega) (by omega) hji, if_neg hji]
    exact h.2 j (by omega)
theorem pu_man (N : Nat) (hN : 300 ≤ N) (h : Hp) {t : Nat} {B : Nat → Nat} (T : TX h t B) {b k kind : Nat} (e2 : h.1 4 2 = nI b) (hb : b ≤ t) (e3 : h.1 4 3 = nI k) (hk : k ≤ t) (hf : h.1 6 1 = -1) {s : Bs} (W : WB s) (D : DR 7 h s) : ∃ h', f_X3_readMan N (nI kind) h = some (0, h') ∧ CL t h h' s (pMan t B s kind b k) := by
  have ht := T.1
  have hle := ne_le (B := B) hk
  have h12 := W.1.2.2.2.2
  have hn4 := W.2.1
  have wp := wg_pos W.1
  obtain ⟨d1, d2, d3, d4, d5, d6, d7, d8⟩ := id D
  unfold f_X3_readMan
  rw [d5]
  by_cases hfull : 4 ≤ s.n
  · have fl := fault_cf e2
    have hflt : ¬ (wr h 6 1 (h.1 4 2)).1 6 1 = -1 := by rw [fl.2.1]; exact ne_m1 (by omega)
    have hn' : (wr h 6 1 (h.1 4 2)).1 7 4 = nI s.n := by rw [fl.2.2]; exact d5
    rw [if_neg (show ¬ nI s.n < 4 from nI_nlt (b := 4) hfull (by omega))]
    have ep : pMan t B s kind b k = .error () b := by unfold pMan; rw [if_pos hfull]
    rw [ep]
    refine ⟨wr h 6 1 (h.1 4 2), ?_, fl.1, fl.2.1⟩
    -- the fault is set by the first refusal, then nothing more is looked at
    have := man17_f N hN (wr h 6 1 (h.1 4 2)) hn' hn4 hflt (nI kind) 0
    unfold f_X3_readMan_b17 at this ⊢
    rw [pu_refuse_1 N h hf, p_cl]
    rw [pu_refuse_0, p_cl] at this
    exact this
  rw [if_pos (show nI s.n < 4 from nI_lt (b := 4) (by omega) (by omega))]
  obtain ⟨v, h1, a1, F1, g1, c1, r1⟩ := pu_rNum N hN h T (lo := 0) (hi := 1) e3 hk hf (by omega) (by omega)
  have T1 := TX_cf T (NF_cf F1)
  have D1 := nf7 F1 D
  unfold f_X3_readMan_b17 f_X5_squares
  rw [pu_refuse_0 N h, p_cl, show f_X3_readNumber N 0 1 h = some (v, h1) from a1, p_cl, p_lt, p_cl]
  rcases r1 with ⟨co, x1, x2, x3⟩ | ⟨x1, x2⟩
  rotate_left
  · have hfl : ¬ h1.1 6 1 = -1 := by rw [x2]; exact ne_m1 (by omega)
    rw [pu_rNum_f N h1 _ _ hfl, p_cl, p_lt, pu_isHole3, p_cl]
    obtain ⟨r, hr⟩ := pu_manOf_any 7 N (by omega) h1 D1.2.2.2.2.1 hn4 (h1.1 7 5) 0
    unfold f_X3_readMan_b70
    rw [hr, p_cl, man75_f N hN h1 D1.2.2.2.2.1 hn4 hfl, man75_f N hN h1 D1.2.2.2.2.1 hn4 hfl]
    refine ⟨h1, by simp only [ite_self], ?_⟩
    unfold pMan
    rw [if_neg hfull, x1]
    exact ⟨NF_cf F1, x2⟩
  have hx := rN_in x1
  have hle2 := ne_le (B := B) hle.1
  obtain ⟨v2, h2, a2, F2, g2, c2, r2⟩ := pu_rNum N hN h1 T1 (lo := 0) (hi := s.w * s.g - 1) c1 hle.1 x3 (by omega) (by omega)
  have T2 := TX_cf T1 (NF_cf F2)
  have D2 := nf7 F2 D1
  have F12 : CF h h2 := CF_tr (NF_cf F1) (NF_cf F2)
  rw [D1.1, D1.2.1, sq_m1 W.1, show f_X3_readNumber N 0 (nI (s.w * s.g - 1)) h1 = some (v2, h2) from a2, p_cl, p_lt, pu_isHole3, p_cl, x2]
  have e1 : pMan t B s kind b k = (match rN t B (ne t B k) 0 (s.w * s.g - 1) with
    | none => .error () (nb t B (ne t B k))
    | some a => if (bt s.ho a || occ s.n s.S a) = true then .error () (nb t B (ne t B k)) else match rN t B (ne t B (ne t B k)) 0 (s.w * s.g - 1) with
      | none => .error () (nb t B (ne t B (ne t B k)))
      | some d => if (bt s.ho d || occ s.n s.L d) = true then .error () (nb t B (ne t B (ne t B k))) else .ok ((.inl (kind, co, a, d))) (ne t B (ne t B (ne t B k)))) := by
    unfold pMan
    rw [if_neg hfull, x1]
    rfl
  rw [e1]
  rcases r2 with ⟨a, y1, y2, y3⟩ | ⟨y1, y2⟩
  rotate_left
  · have hfl : ¬ h2.1 6 1 = -1 := by rw [y2]; exact ne_m1 (by omega)
    obtain ⟨r, hr⟩ := pu_manOf_any 7 N (by omega) h2 D2.2.2.2.2.1 hn4 (h2.1 7 5) v2
    unfold f_X3_readMan_b70
    rw [hr, p_cl, man75_f N hN h2 D2.2.2.2.2.1 hn4 hfl, man75_f N hN h2 D2.2.2.2.2.1 hn4 hfl]
    refine ⟨h2, by simp only [ite_self], ?_⟩
    rw [y1]
    exact ⟨F12, y2⟩
  have hy := rN_in y1
  have ha12 : a < 12 := by omega
  have fl2 := fault_cf g2
  have hbad2 : CL t h (wr h2 6 1 (h2.1 4 2)) s (.error () (nb t B (ne t B k))) := ⟨CF_tr F12 fl2.1, fl2.2.1⟩
  have hflt2 : ¬ (wr h2 6 1 (h2.1 4 2)).1 6 1 = -1 := by rw [fl2.2.1]; exact ne_m1 (by omega)
  have hn2 : (wr h2 6 1 (h2.1 4 2)).1 7 4 = nI s.n := by rw [fl2.2.2]; exact D2.2.2.2.2.1
  rw [y1, y2, D2.2.2.1]
  dsimp only
  -- a refusal of the start
  have start_bad : f_X3_readMan_b75 N (nI kind) (nI co) (nI a) 1 h2 = some (0, wr h2 6 1 (h2.1 4 2)) := by
    have := man75_f N hN (wr h2 6 1 (h2.1 4 2)) hn2 hn4 hflt2 (nI kind) (nI co) (nI a) 0
    unfold f_X3_readMan_b75 at this ⊢
    rw [pu_refuse_1 N h2 y3, p_cl]
    rw [pu_refuse_0, p_cl] at this
    exact this
  unfold f_X3_readMan_b70
  by_cases cs : (bt s.ho a || occ s.n s.S a) = true
  · rw [if_pos cs]
    refine ⟨wr h2 6 1 (h2.1 4 2), ?_, hbad2⟩
    cases hh : bt s.ho a with
    | true => rw [bi_e1 (by omega) hh, if_pos rfl, if_neg n10, start_bad]
    | false =>
      rw [hh, Bool.false_or] at cs
      rw [bi_e0 (by omega) (by rw [hh]; decide), if_neg n01, if_pos rfl, pu_manOf 7 N (by omega) h2 D2.2.2.2.2.1 hn4 ha12 D2.2.2.2.2.2.2.1 W.2.2.2.1, p_cl, if_neg (fun z => by have := (lastm_occ hn4).mp z; rw [cs] at this; cases this), start_bad]
  have cs' : bt s.ho a = false ∧ occ s.n s.S a = false := by
    have : (bt s.ho a || occ s.n s.S a) = false := by simpa using cs
    rwa [Bool.or_eq_false_iff] at this
  rw [if_neg cs, bi_e0 (by omega) (by rw [cs'.1]; decide), if_neg n01, if_pos rfl, pu_manOf 7 N (by omega) h2 D2.2.2.2.2.1 hn4 ha12 D2.2.2.2.2.2.2.1 W.2.2.2.1, p_cl, if_pos ((lastm_occ hn4).mpr cs'.2)]
  have hle3 := ne_le (B := B) hle2.1
  obtain ⟨v3, h3, a3, F3, g3, c3, r3⟩ := pu_rNum N hN h2 T2 (lo := 0) (hi := s.w * s.g - 1) c2 hle2.1 y3 (by omega) (by omega)
  have D3 := nf7 F3 D2
  have F123 : CF h h3 := CF_tr F12 (NF_cf F3)
  unfold f_X3_readMan_b75 f_X5_squares
  rw [pu_refuse_0 N h2, p_cl, p_cl, D2.1, D2.2.1, sq_m1 W.1, show f_X3_readNumber N 0 (nI (s.w * s.g - 1)) h2 = some (v3, h3) from a3, p_cl, p_lt, pu_isHole3, p_cl]
  rcases r3 with ⟨d, z1, z2, z3⟩ | ⟨z1, z2⟩
  rotate_left
  · have hfl : ¬ h3.1 6 1 = -1 := by rw [z2]; exact ne_m1 (by omega)
    obtain ⟨r, hr⟩ := pu_manOf_any 7 N (by omega) h3 D3.2.2.2.2.1 hn4 (h3.1 7 6) v3
    unfold f_X3_readMan_b124
    rw [hr, p_cl, man129_f N hN h3 D3.2.2.2.2.1 hn4 hfl, man129_f N hN h3 D3.2.2.2.2.1 hn4 hfl]
    refine ⟨h3, by simp only [ite_self], ?_⟩
    rw [z1]
    exact ⟨F123, z2⟩
  have hz := rN_in z1
  have hd12 : d < 12 := by omega
  have fl3 := fault_cf g3
  have hbad3 : CL t h (wr h3 6 1 (h3.1 4 2)) s (.error () (nb t B (ne t B (ne t B k)))) := ⟨CF_tr F123 fl3.1, fl3.2.1⟩
  have hflt3 : ¬ (wr h3 6 1 (h3.1 4 2)).1 6 1 = -1 := by rw [fl3.2.1]; exact ne_m1 (by omega)
  rw [z1, z2, D3.2.2.1]
  dsimp only
  have goal_bad : f_X3_readMan_b129 N (nI kind) (nI co) (nI a) (nI d) 1 h3 = some (0, wr h3 6 1 (h3.1 4 2)) := by
    unfold f_X3_readMan_b129 f_X3_readMan_b152
    rw [pu_refuse_1 N h3 z3, p_cl, if_neg hflt3]
  unfold f_X3_readMan_b124
  by_cases cg : (bt s.ho d || occ s.n s.L d) = true
  · rw [if_pos cg]
    refine ⟨wr h3 6 1 (h3.1 4 2), ?_, hbad3⟩
    cases hh : bt s.ho d with
    | true => rw [bi_e1 (by omega) hh, if_pos rfl, if_neg n10, goal_bad]
    | false =>
      rw [hh, Bool.false_or] at cg
      rw [bi_e0 (by omega) (by rw [hh]; decide), if_neg n01, if_pos rfl, pu_manOf 7 N (by omega) h3 D3.2.2.2.2.1 hn4 hd12 D3.2.2.2.2.2.2.2 W.2.2.2.2, p_cl, if_neg (fun z => by have := (lastm_occ hn4).mp z; rw [cg] at this; cases this), goal_bad]
  have cg' : bt s.ho d = false ∧ occ s.n s.L d = false := by
    have : (bt s.ho d || occ s.n s.L d) = false := by simpa using cg
    rwa [Bool.or_eq_false_iff] at this
  rw [if_neg cg, bi_e0 (by omega) (by rw [cg'.1]; decide), if_neg n01, if_pos rfl, pu_manOf 7 N (by omega) h3 D3.2.2.2.2.1 hn4 hd12 D3.2.2.2.2.2.2.2 W.2.2.2.2, p_cl, if_pos ((lastm_occ hn4).mpr cg'.2)]
  obtain ⟨q1, q2, q3, q4, q5, q6, q7, q8⟩ := id D3
  unfold f_X3_readMan_b129 f_X3_readMan_b152 f_X5_addMan
  rw [pu_refuse_0 N h3, p_cl, if_pos z3, q5, if_pos (show nI s.n < 4 from nI_lt (b := 4) (by omega) (by omega)), if_pos (p_ib (show s.n < 4 by omega) (by omega)), p_lt, p_ix (by omega), p_wro _ _ _ _ (show (7 : Nat) ≠ 7 + 1 by decide), q5, if_pos (p_ib (show s.n < 4 by omega) (by omega)), p_lt, p_ix (by omega)]
  generalize eh5 : wr (wr h3 (7 + 1) s.n (nI kind)) (7 + 2) s.n (nI co) = h5
  have f5 : ∀ c, c ≠ 8 → c ≠ 9 → h5.1 c = h3.1 c := fun c hc hc2 => by rw [← eh5, p_wro _ _ _ _ hc2, p_wro _ _ _ _ hc]
  rw [f5 7 (by decide) (by decide), q5, p_moved, p_cl, p_lt, p_wrk _ _ _ _ (show (6 : Nat) ≠ 5 by decide), p_wrk _ _ _ _ (show (4 : Nat) ≠ 5 by decide), f5 7 (by decide) (by decide), q5, p_moved, p_cl, p_lt, p_lt, p_wrk _ _ _ _ (show (4 : Nat) ≠ 6 by decide), p_wrk _ _ _ _ (show (4 : Nat) ≠ 5 by decide), f5 7 (by decide) (by decide), q5, nI_1, p_cl]
  refine ⟨_, rfl, ?_⟩
  generalize eh8 : wr (wr (wr h5 7 5 (mvd (h3.1 7 5) s.n (nI a))) 7 6 (mvd (h3.1 7 6) s.n (nI d))) 7 4 (nI (s.n + 1)) = h8
  have f8 : ∀ c, c ≠ 7 → h8.1 c = h5.1 c := fun c hc => by rw [← eh8, p_wro _ _ _ _ hc, p_wro _ _ _ _ hc, p_wro _ _ _ _ hc]
  have f83 : ∀ c, c ≠ 7 → c ≠ 8 → c ≠ 9 → h8.1 c = h3.1 c := fun c hc h1 h2 => by rw [f8 c hc, f5 c h1 h2]
  refine ⟨CF_tr F123 ⟨fun c hc => f83 c (fun z => hc (by simp [z])) (fun z => hc (by simp [z])) (fun z => hc (by simp [z])), by rw [f83 4 (by decide) (by decide) (by decide)], by rw [f83 6 (by decide) (by decide) (by decide)]⟩, by rw [f83 6 (by decide) (by decide) (by decide)]; exact z3, ?_, by rw [f83 4 (by decide) (by decide) (by decide)]; exact c3, hle3.1⟩
  have g7 : ∀ j, j ≠ 4 → j ≠ 5 → j ≠ 6 → h8.1 7 j = h3.1 7 j := fun j j4 j5 j6 => by rw [← eh8, p_wrk _ _ _ _ j4, p_wrk _ _ _ _ j6, p_wrk _ _ _ _ j5, f5 7 (by decide) (by decide)]
  refine ⟨by rw [g7 0 (by decide) (by decide) (by decide)]; exact q1, by rw [g7 1 (by decide) (by decide) (by decide)]; exact q2, by rw [g7 2 (by decide) (by decide) (by decide)]; exact q3, by rw [g7 3 (by decide) (by decide) (by decide)]; exact q4, by rw [← eh8, p_wrs]; rfl, ?_, ?_, ?_⟩
  · intro i hi
    have hi' : i < s.n + 1 := hi
    rw [f8 (7 + 1) (by decide), f8 (7 + 2) (by decide), ← eh5, p_wro _ _ _ _ (show (7 + 1 : Nat) ≠ 7 + 2 by decide)]
    show (wr h3 (7 + 1) s.n (nI kind)).1 (7 + 1) i = nI (updN s.kd s.n kind i) ∧ (wr (wr h3 (7 + 1) s.n (nI kind)) (7 + 2) s.n (nI co)).1 (7 + 2) i = nI (updN s.co s.n co i)
    unfold updN
    by_cases ei : i = s.n
    · rw [ei, p_wrs, p_wrs, if_pos rfl, if_pos rfl]
      exact ⟨rfl, rfl⟩
    · rw [p_wrk _ _ _ _ ei, p_wrk _ _ _ _ ei, p_wro _ _ _ _ (show (7 + 2 : Nat) ≠ 7 + 1 by decide), if_neg ei, if_neg ei]
      exact q6 i (by omega)
  · have : h8.1 7 5 = mvd (h3.1 7 5) s.n (nI a) := by rw [← eh8, p_wrk _ _ _ _ (by decide), p_wrk _ _ _ _ (by decide), p_wrs]
    rw [this]
    exact PC_add q7 (by omega) ha12
  · have : h8.1 7 6 = mvd (h3.1 7 6) s.n (nI d) := by rw [← eh8, p_wrk _ _ _ _ (by decide), p_wrs]
    rw [this]
    exact PC_add q8 (by omega) hd12
