/-! ===== the text: the model's tokens ===== -/
def c27 (B : Nat → Nat) (b : Nat) : Nat → Nat
  | 0 => 0
  | m + 1 => 27 * c27 B b m + (B (b + m) - 96)
theorem c27_lt {B : Nat → Nat} {b : Nat} : ∀ {m : Nat}, (∀ k, k < m → isL (B (b + k)) = true) → c27 B b m < 27 ^ m
  | 0, _ => by show 0 < 27 ^ 0; decide
  | m + 1, h => by
    have h1 := c27_lt (B := B) (b := b) (m := m) (fun k hk => h k (by omega))
    have h2 := isL_b (h m (by omega))
    show 27 * c27 B b m + (B (b + m) - 96) < 27 ^ (m + 1)
    rw [Nat.pow_succ]
    omega
theorem c27_inj {B B' : Nat → Nat} {b b' : Nat} : ∀ {m m' : Nat}, (∀ k, k < m → isL (B (b + k)) = true) → (∀ k, k < m' → isL (B' (b' + k)) = true) → c27 B b m = c27 B' b' m' → m = m' ∧ ∀ k, k < m → B (b + k) = B' (b' + k)
  | 0, 0, _, _, _ => ⟨rfl, fun k hk => by omega⟩
  | 0, m' + 1, _, h2, e => by
    have := isL_b (h2 m' (by omega))
    have e' : 0 = 27 * c27 B' b' m' + (B' (b' + m') - 96) := e
    omega
  | m + 1, 0, h1, _, e => by
    have := isL_b (h1 m (by omega))
    have e' : 27 * c27 B b m + (B (b + m) - 96) = 0 := e
    omega
  | m + 1, m' + 1, h1, h2, e => by
    have g1 := isL_b (h1 m (by omega))
    have g2 := isL_b (h2 m' (by omega))
    have e' : 27 * c27 B b m + (B (b + m) - 96) = 27 * c27 B' b' m' + (B' (b' + m') - 96) := e
    obtain ⟨q1, q2⟩ := c27_inj (m := m) (m' := m') (fun k hk => h1 k (by omega)) (fun k hk => h2 k (by omega)) (by omega)
    subst q1
    refine ⟨rfl, fun k hk => ?_⟩
    by_cases ek : k = m
    · subst ek; omega
    · exact q2 k (by omega)
/-- the model's token, as its number -/
def tkI (B : Nat → Nat) (b e : Nat) : Int64 := if e ≤ b then -2 else if isL (B b) = true then (if e - b ≤ 9 then lN (c27 B b (e - b)) else -4) else if isD (B b) = true then (if e - b ≤ 2 then -1 else -4) else if B b = 59 then -3 else -4
def MNX (h h' : Hp) : Prop := (∀ c, c ≠ 25 → h'.1 c = h.1 c) ∧ ∀ k, k ∉ [8, 9, 11, 12] → h'.1 25 k = h.1 25 k
theorem MNX_rfl (h : Hp) : MNX h h := ⟨fun _ _ => rfl, fun _ _ => rfl⟩
theorem MNX_tr {a b c : Hp} (h1 : MNX a b) (h2 : MNX b c) : MNX a c := ⟨fun x hx => by rw [h2.1 x hx, h1.1 x hx], fun k hk => by rw [h2.2 k hk, h1.2 k hk]⟩
theorem MNX_wr {h : Hp} {k : Nat} (v : Int32) (hk : k ∈ [8, 9, 11, 12]) : MNX h (wr h 25 k v) := ⟨fun c hc => by rw [p_wro _ _ _ _ hc], fun j hj => by rw [p_wrk _ _ _ _ (fun z => hj (by rw [z]; exact hk))]⟩
theorem MNX_wrl {h : Hp} (v : Int64) : MNX h (wrl h v) := ⟨fun c _ => by rw [p_wrl1], fun k _ => by rw [p_wrl1]⟩
theorem TM_nx {h h' : Hp} {t : Nat} {B : Nat → Nat} (T : TM h t B) (F : MNX h h') : TM h' t B := by
  unfold TM
  rw [F.2 6 (by decide), F.1 27 (by decide)]
  exact T
theorem pm_inL (N : Nat) (h : Hp) {c : Nat} (hc : c < 256) : f_X8_in N (nI c) 97 122 h = some (b2i (isL c), h) := by
  rw [pm_in]
  unfold isL
  by_cases c1 : 97 ≤ c
  · rw [if_neg (show ¬ nI c < 97 from nI_nlt (b := 97) c1 (by omega)), decide_eq_true c1]
    by_cases c2 : c ≤ 122
    · rw [if_neg (show ¬ (122 : Int32) < nI c from nI_nlt (a := 122) c2 (by omega)), decide_eq_true c2]; rfl
    · rw [if_pos (show (122 : Int32) < nI c from nI_lt (a := 122) (by omega) (by omega)), decide_eq_false c2]; rfl
  · rw [if_pos (show nI c < 97 from nI_lt (b := 97) (by omega) (by omega)), decide_eq_false c1]; rfl
theorem pm_inD (N : Nat) (h : Hp) {c : Nat} (hc : c < 256) : f_X8_in N (nI c) 48 57 h = some (b2i (isD c), h) := by
  rw [pm_in]
  unfold isD
  by_cases c1 : 48 ≤ c
  · rw [if_neg (show ¬ nI c < 48 from nI_nlt (b := 48) c1 (by omega)), decide_eq_true c1]
    by_cases c2 : c ≤ 57
    · rw [if_neg (show ¬ (57 : Int32) < nI c from nI_nlt (a := 57) c2 (by omega)), decide_eq_true c2]; rfl
    · rw [if_pos (show (57 : Int32) < nI c from nI_lt (a := 57) (by omega) (by omega)), decide_eq_false c2]; rfl
  · rw [if_pos (show nI c < 48 from nI_lt (b := 48) (by omega) (by omega)), decide_eq_false c1]; rfl
theorem pm_let_l (N : Nat) {t : Nat} {B : Nat → Nat} {b : Nat} : ∀ (x k : Nat) (h : Hp), TM h t B → h.1 25 8 = nI k → h.1 25 9 = nI b → b ≤ k → k ≤ t → h.2 = (if k - b ≤ 9 then lN (c27 B b (k - b)) else -4) → t - k < x → ∃ h', f_X8_nextToken_l101 N x h = some (0, h') ∧ MNX h h' ∧ h'.1 25 8 = nI (lowf (fun i => !isL (B i)) (t - k) k) ∧ h'.1 25 9 = nI b ∧ h'.2 = (if lowf (fun i => !isL (B i)) (t - k) k - b ≤ 9 then lN (c27 B b (lowf (fun i => !isL (B i)) (t - k) k - b)) else -4) := by
  intro x
  induction x with
  | zero => intro k h _ _ _ _ _ _ h2; omega
  | succ x ih =>
    intro k h T e8 e9 hbk hk e2 hx
    obtain ⟨ht, t1, t2⟩ := id T
    have stop : ∃ h', f_X8_nextToken_b191 N h = some (0, h') ∧ MNX h h' ∧ h'.1 25 8 = nI k ∧ h'.1 25 9 = nI b ∧ h'.2 = (if k - b ≤ 9 then lN (c27 B b (k - b)) else -4) := by
      unfold f_X8_nextToken_b191 f_X8_nextToken_b216 f_X8_nextToken_b394
      rw [e8, e9, pk_sub hbk, p_lt, p_lt]
      by_cases c : k - b ≤ 9
      · rw [if_pos (show nI (k - b) ≤ 9 from nI_le (b := 9) c (by omega))]
        exact ⟨_, rfl, MNX_wrl _, e8, e9, e2⟩
      · rw [if_neg (show ¬ nI (k - b) ≤ 9 from nI_ge (a := 9) (by omega) (by omega))]
        exact ⟨_, rfl, MNX_wrl _, e8, e9, by rw [if_neg c]; rfl⟩
    show ∃ h', f_X8_nextToken_b101 N (f_X8_nextToken_l101 N x) h = _ ∧ _
    unfold f_X8_nextToken_b101
    rw [t1, e8]
    by_cases hc : k = t
    · have el : lowf (fun i => !isL (B i)) (t - k) k = k := by rw [hc, Nat.sub_self]; rfl
      rw [if_pos (nI_le (by omega) (by omega)), el]
      exact stop
    · obtain ⟨r, hr⟩ : ∃ r, t - k = r + 1 := ⟨t - k - 1, by omega⟩
      have bk := t2 k (by omega)
      rw [if_neg (nI_ge (by omega) (by omega)), if_pos (p_ib (show k < 200 by omega) (by omega)), p_ix (by omega), bk.1, pm_inL N h bk.2, p_cl]
      cases hl : isL (B k) with
      | false =>
        rw [if_pos (by decide), hr, lowf_stop (p := fun i => !isL (B i)) (k := k) (by simp [hl])]
        exact stop
      | true =>
        have lb := isL_b hl
        have el : lowf (fun i => !isL (B i)) (t - k) k = lowf (fun i => !isL (B i)) (t - (k + 1)) (k + 1) := by
          rw [hr, lowf_go (p := fun i => !isL (B i)) (k := k) (by simp [hl]), show t - (k + 1) = r by omega]
        rw [if_neg (by decide), el, e8, e9, pk_sub hbk]
        unfold f_X8_nextToken_b175
        simp only [p_lt]
        have go : ∀ v : Int64, v = (if k + 1 - b ≤ 9 then lN (c27 B b (k + 1 - b)) else -4) → ∃ h', f_X8_nextToken_l101 N x (wr (wrl h v) 25 8 ((wrl h v).1 25 8 + 1)) = some (0, h') ∧ MNX h h' ∧ h'.1 25 8 = nI (lowf (fun i => !isL (B i)) (t - (k + 1)) (k + 1)) ∧ h'.1 25 9 = nI b ∧ h'.2 = (if lowf (fun i => !isL (B i)) (t - (k + 1)) (k + 1) - b ≤ 9 then lN (c27 B b (lowf (fun i => !isL (B i)) (t - (k + 1)) (k + 1) - b)) else -4) := by
          intro v hv
          rw [p_wrl1, e8, nI_1]
          have F1 : MNX h (wr (wrl h v) 25 8 (nI (k + 1))) := MNX_tr (MNX_wrl v) (MNX_wr _ (by decide))
          obtain ⟨h', a1, a2, a3, a4, a5⟩ := ih (k + 1) (wr (wrl h v) 25 8 (nI (k + 1))) (TM_nx T F1) (by rw [p_wrs]) (by rw [p_wrk _ _ _ _ (by decide), p_wrl1]; exact e9) (by omega) (by omega) (by rw [p_wr2, p_wrl2]; exact hv) (by omega)
          exact ⟨h', a1, MNX_tr F1 a2, a3, a4, a5⟩
        by_cases c : 9 ≤ k - b
        · rw [if_pos (show (9 : Int32) ≤ nI (k - b) from nI_le (a := 9) c (by omega))]
          exact go (-4) (by rw [if_neg (by omega)])
        · rw [if_neg (show ¬ (9 : Int32) ≤ nI (k - b) from nI_ge (b := 9) (by omega) (by omega)), if_pos (p_ib (show k < 200 by omega) (by omega))]
          refine go _ ?_
          rw [e2, if_pos (by omega), if_pos (by omega), p_ix (by omega), bk.1, nI_l (by omega), show k + 1 - b = (k - b) + 1 by omega]
          show (27 : Int64) * lN (c27 B b (k - b)) + lN (B k) - 96 = lN (27 * c27 B b (k - b) + (B (b + (k - b)) - 96))
          rw [show (27 : Int64) = lN 27 from rfl, lN_mul, lN_add, show (96 : Int64) = lN 96 from rfl, lN_sub (by omega), show b + (k - b) = k by omega]
          congr 1
          omega
def vd (B : Nat → Nat) (b : Nat) : Nat → Nat
  | 0 => 0
  | 1 => B b - 48
  | _ + 2 => 10 * (B b - 48) + (B (b + 1) - 48)
theorem vd_2 {B : Nat → Nat} {b m : Nat} (h : 2 ≤ m) : vd B b m = 10 * (B b - 48) + (B (b + 1) - 48) := by
  obtain ⟨x, rfl⟩ : ∃ x, m = x + 2 := ⟨m - 2, by omega⟩
  rfl
theorem pm_dig_l (N : Nat) {t : Nat} {B : Nat → Nat} {b : Nat} : ∀ (x k : Nat) (h : Hp), TM h t B → h.1 25 8 = nI k → h.1 25 9 = nI b → h.1 25 11 = nI (k - b) → h.1 25 12 = nI (vd B b (k - b)) → b ≤ k → k ≤ t → t - k < x → ∃ h', f_X8_nextToken_l241 N x h = some (0, h') ∧ MNX h h' ∧ h'.1 25 8 = nI (lowf (fun i => !isD (B i)) (t - k) k) ∧ h'.1 25 9 = nI b ∧ h'.1 25 12 = nI (vd B b (lowf (fun i => !isD (B i)) (t - k) k - b)) ∧ h'.2 = (if lowf (fun i => !isD (B i)) (t - k) k - b ≤ 2 then -1 else -4) := by
  intro x
  induction x with
  | zero => intro k h _ _ _ _ _ _ _ h2; omega
  | succ x ih =>
    intro k h T e8 e9 e11 e12 hbk hk hx
    obtain ⟨ht, t1, t2⟩ := id T
    have stop : ∃ h', f_X8_nextToken_b333 N h = some (0, h') ∧ MNX h h' ∧ h'.1 25 8 = nI k ∧ h'.1 25 9 = nI b ∧ h'.1 25 12 = nI (vd B b (k - b)) ∧ h'.2 = (if k - b ≤ 2 then -1 else -4) := by
      unfold f_X8_nextToken_b333 f_X8_nextToken_b351 f_X8_nextToken_b394
      rw [e11, p_lt, p_lt]
      by_cases c : k - b ≤ 2
      · rw [if_pos (show nI (k - b) ≤ 2 from nI_le (b := 2) c (by omega))]
        exact ⟨_, rfl, MNX_wrl _, e8, e9, e12, by rw [if_pos c]; rfl⟩
      · rw [if_neg (show ¬ nI (k - b) ≤ 2 from nI_ge (a := 2) (by omega) (by omega))]
        exact ⟨_, rfl, MNX_wrl _, e8, e9, e12, by rw [if_neg c]; rfl⟩
    show ∃ h', f_X8_nextToken_b241 N (f_X8_nextToken_l241 N x) h = _ ∧ _
    unfold f_X8_nextToken_b241
    rw [t1, e8]
    by_cases hc : k = t
    · have el : lowf (fun i => !isD (B i)) (t - k) k = k := by rw [hc, Nat.sub_self]; rfl
      rw [if_pos (nI_le (by omega) (by omega)), el]
      exact stop
    · obtain ⟨r, hr⟩ : ∃ r, t - k = r + 1 := ⟨t - k - 1, by omega⟩
      have bk := t2 k (by omega)
      rw [if_neg (nI_ge (by omega) (by omega)), if_pos (p_ib (show k < 200 by omega) (by omega)), p_ix (by omega), bk.1, pm_inD N h bk.2, p_cl]
      cases hl : isD (B k) with
      | false =>
        rw [if_pos (by decide), hr, lowf_stop (p := fun i => !isD (B i)) (k := k) (by simp [hl])]
        exact stop
      | true =>
        have lb := isD_b hl
        have el : lowf (fun i => !isD (B i)) (t - k) k = lowf (fun i => !isD (B i)) (t - (k + 1)) (k + 1) := by
          rw [hr, lowf_go (p := fun i => !isD (B i)) (k := k) (by simp [hl]), show t - (k + 1) = r by omega]
        rw [if_neg (by decide), el, e11, e12]
        unfold f_X8_nextToken_b307
        simp only [p_lt]
        have go : ∀ v : Int32, v = nI (vd B b (k + 1 - b)) → ∃ h', f_X8_nextToken_l241 N x (wr (wr (wr h 25 12 v) 25 11 ((wr h 25 12 v).1 25 11 + 1)) 25 8 ((wr (wr h 25 12 v) 25 11 ((wr h 25 12 v).1 25 11 + 1)).1 25 8 + 1)) = some (0, h') ∧ MNX h h' ∧ h'.1 25 8 = nI (lowf (fun i => !isD (B i)) (t - (k + 1)) (k + 1)) ∧ h'.1 25 9 = nI b ∧ h'.1 25 12 = nI (vd B b (lowf (fun i => !isD (B i)) (t - (k + 1)) (k + 1) - b)) ∧ h'.2 = (if lowf (fun i => !isD (B i)) (t - (k + 1)) (k + 1) - b ≤ 2 then -1 else -4) := by
          intro v hv
          rw [p_wrk _ _ _ _ (show (8 : Nat) ≠ 11 by decide), p_wrk _ _ _ _ (show (8 : Nat) ≠ 12 by decide), p_wrk _ _ _ _ (show (11 : Nat) ≠ 12 by decide), e8, e11, nI_1, nI_1]
          have F1 : MNX h (wr (wr (wr h 25 12 v) 25 11 (nI (k - b + 1))) 25 8 (nI (k + 1))) := MNX_tr (MNX_tr (MNX_wr _ (by decide)) (MNX_wr _ (by decide))) (MNX_wr _ (by decide))
          obtain ⟨h', a1, a2, a3, a4, a5, a6⟩ := ih (k + 1) _ (TM_nx T F1) (by rw [p_wrs]) (by rw [p_wrk _ _ _ _ (by decide), p_wrk _ _ _ _ (by decide), p_wrk _ _ _ _ (by decide)]; exact e9) (by rw [p_wrk _ _ _ _ (by decide), p_wrs, show k - b + 1 = k + 1 - b by omega]) (by rw [p_wrk _ _ _ _ (by decide), p_wrk _ _ _ _ (by decide), p_wrs]; exact hv) (by omega) (by omega) (by omega)
          exact ⟨h', a1, MNX_tr F1 a2, a3, a4, a5, a6⟩
        by_cases c : 2 ≤ k - b
        · rw [if_pos (show (2 : Int32) ≤ nI (k - b) from nI_le (a := 2) c (by omega))]
          exact go _ (by rw [vd_2 c, vd_2 (by omega)])
        · rw [if_neg (show ¬ (2 : Int32) ≤ nI (k - b) from nI_ge (b := 2) (by omega) (by omega)), e8, if_pos (p_ib (show k < 200 by omega) (by omega)), p_ix (by omega), bk.1]
          refine go _ ?_
          rw [show (10 : Int32) = nI 10 from rfl, pk_mul, nI_add, show (48 : Int32) = nI 48 from rfl, pk_sub (by omega)]
          have hcase : k - b = 0 ∨ k - b = 1 := by omega
          rcases hcase with z | z
          · have ek : k = b := by omega
            rw [z, show k + 1 - b = 1 by omega, ek]
            show nI (10 * 0 + B b - 48) = nI (B b - 48)
            congr 1
            omega
          · have ek : k = b + 1 := by omega
            rw [z, show k + 1 - b = 2 by omega, ek]
            show nI (10 * (B b - 48) + B (b + 1) - 48) = nI (10 * (B b - 48) + (B (b + 1) - 48))
            congr 1
            rw [ek] at lb
            omega
theorem en_L {t : Nat} {B : Nat → Nat} {b : Nat} (hb : b < t) (hl : isL (B b) = true) : lowf (fun i => !isL (B i)) (t - b) b = en t B b := by
  have hnd : isD (B b) = false := by
    cases hx : isD (B b) with
    | false => rfl
    | true => rw [isD_L hx] at hl; cases hl
  unfold en
  rw [if_pos hb]
  obtain ⟨r, hr⟩ : ∃ r, t - b = r + 1 := ⟨t - b - 1, by omega⟩
  rw [hr, lowf_go (p := fun i => !isL (B i)) (k := b) (by simp [hl]), show t - (b + 1) = r by omega]
  refine lowf_congr (fun x _ _ => ?_)
  unfold jn
  rw [hl, hnd]
  simp
theorem en_D {t : Nat} {B : Nat → Nat} {b : Nat} (hb : b < t) (hl : isD (B b) = true) : lowf (fun i => !isD (B i)) (t - b) b = en t B b := by
  unfold en
  rw [if_pos hb]
  obtain ⟨r, hr⟩ : ∃ r, t - b = r + 1 := ⟨t - b - 1, by omega⟩
  rw [hr, lowf_go (p := fun i => !isD (B i)) (k := b) (by simp [hl]), show t - (b + 1) = r by omega]
  refine lowf_congr (fun x _ _ => ?_)
  unfold jn
  rw [hl, isD_L hl]
  simp
theorem en_O {t : Nat} {B : Nat → Nat} {b : Nat} (hb : b < t) (hl : isL (B b) = false) (hd : isD (B b) = false) : en t B b = b + 1 := by
  unfold en
  rw [if_pos hb]
  have hp : ∀ x, (!jn (B b) (B x)) = true := fun x => by unfold jn; rw [hl, hd]; rfl
  rcases h : t - (b + 1) with _ | r
  · rfl
  · rw [lowf_stop (hp _)]
theorem pm_tok (N : Nat) (hN : 300 ≤ N) {t : Nat} {B : Nat → Nat} {b : Nat} (h : Hp) (T : TM h t B) (e8 : h.1 25 8 = nI b) (hb : b ≤ t) : ∃ h', f_X8_nextToken_b38 N h = some (0, h') ∧ MNX h h' ∧ h'.1 25 8 = nI (en t B b) ∧ h'.1 25 9 = nI b ∧ h'.2 = tkI B b (en t B b) ∧ ∀ v, nm B b (en t B b) = some v → h'.1 25 12 = nI v := by
  obtain ⟨ht, t1, t2⟩ := id T
  have ge := en_ge (B := B) hb
  unfold f_X8_nextToken_b38
  rw [p_lt, p_lt, p_lt, e8]
  have F3 : MNX h (wr (wr (wr h 25 9 (nI b)) 25 11 0) 25 12 0) := MNX_tr (MNX_tr (MNX_wr _ (by decide)) (MNX_wr _ (by decide))) (MNX_wr _ (by decide))
  generalize eh3 : wr (wr (wr h 25 9 (nI b)) 25 11 0) 25 12 0 = h3 at *
  have T3 := TM_nx T F3
  have g8 : h3.1 25 8 = nI b := by rw [← eh3, p_wrk _ _ _ _ (by decide), p_wrk _ _ _ _ (by decide), p_wrk _ _ _ _ (by decide)]; exact e8
  have g9 : h3.1 25 9 = nI b := by rw [← eh3, p_wrk _ _ _ _ (by decide), p_wrk _ _ _ _ (by decide), p_wrs]
  have g11 : h3.1 25 11 = nI (b - b) := by rw [← eh3, p_wrk _ _ _ _ (by decide), p_wrs, Nat.sub_self]; rfl
  have g12 : h3.1 25 12 = nI (vd B b (b - b)) := by rw [← eh3, p_wrs, Nat.sub_self]; rfl
  rw [g8, T3.2.1]
  by_cases c0 : b = t
  · have ee : en t B b = b := by unfold en; rw [if_neg (by omega)]
    rw [if_pos (by rw [c0]), p_lt, ee]
    unfold f_X8_nextToken_b394 tkI nm
    refine ⟨_, rfl, MNX_tr F3 (MNX_wrl _), g8, g9, ?_, fun v hv => ?_⟩
    · rw [if_pos (Nat.le_refl _)]; rfl
    · rw [if_pos (Nat.le_refl _)] at hv; cases hv
  · have hlt := ge.2.2 (by omega)
    have bb := T3.2.2 b (by omega)
    rw [if_neg (by rw [nI_eq (by omega) (by omega)]; exact c0), if_pos (p_ib (show b < 200 by omega) (by omega)), p_ix (by omega), bb.1, pm_inL N h3 bb.2, p_cl]
    unfold tkI nm
    rw [if_neg (show ¬ en t B b ≤ b by omega), if_neg (show ¬ en t B b ≤ b by omega)]
    cases hl : isL (B b) with
    | true =>
      have hnd : isD (B b) = false := by
        cases hx : isD (B b) with
        | false => rfl
        | true => rw [isD_L hx] at hl; cases hl
      rw [if_neg (show ¬ b2i true = 0 by decide), p_lt, if_pos rfl]
      obtain ⟨h', a1, a2, a3, a4, a5⟩ := pm_let_l N N b (wrl h3 0) (TM_nx T3 (MNX_wrl _)) (by rw [p_wrl1]; exact g8) (by rw [p_wrl1]; exact g9) (Nat.le_refl _) hb (by rw [p_wrl2, Nat.sub_self]; rfl) (by omega)
      rw [en_L (by omega) hl] at a3 a5
      exact ⟨h', a1, MNX_tr (MNX_tr F3 (MNX_wrl _)) a2, a3, a4, a5, fun v hv => by rw [hnd, if_pos rfl] at hv; cases hv⟩
    | false =>
      rw [if_pos (show b2i false = 0 by decide), g8, if_pos (p_ib (show b < 200 by omega) (by omega)), p_ix (by omega), bb.1, pm_inD N h3 bb.2, p_cl, if_neg (show ¬ false = true by decide)]
      cases hd : isD (B b) with
      | true =>
        rw [if_neg (show ¬ b2i true = 0 by decide), if_pos rfl, if_neg (show ¬ true = false by decide)]
        obtain ⟨h', a1, a2, a3, a4, a5, a6⟩ := pm_dig_l N N b h3 T3 g8 g9 g11 g12 (Nat.le_refl _) hb (by omega)
        rw [en_D (by omega) hd] at a3 a5 a6
        refine ⟨h', a1, MNX_tr F3 a2, a3, a4, a6, fun v hv => ?_⟩
        rw [a5]
        by_cases z1 : en t B b - b = 1
        · rw [if_pos z1] at hv
          rw [z1]
          exact congrArg nI (Option.some.inj hv)
        · rw [if_neg z1] at hv
          by_cases z2 : en t B b - b = 2
          · rw [if_pos z2] at hv
            rw [z2]
            exact congrArg nI (Option.some.inj hv)
          · rw [if_neg z2] at hv; cases hv
      | false =>
        rw [if_pos (show b2i false = 0 by decide), g8, if_pos (p_ib (show b < 200 by omega) (by omega)), p_ix (by omega), bb.1, if_neg (show ¬ false = true by decide), if_pos rfl, en_O (by omega) hl hd]
        unfold f_X8_nextToken_b381 f_X8_nextToken_b394
        simp only [p_lt]
        have fin : ∀ v : Int64, ∃ h', some ((0 : Int32), wr (wrl h3 v) 25 8 ((wrl h3 v).1 25 8 + 1)) = some (0, h') ∧ MNX h h' ∧ h'.1 25 8 = nI (b + 1) ∧ h'.1 25 9 = nI b ∧ h'.2 = v := by
          intro v
          rw [p_wrl1, g8, nI_1]
          exact ⟨_, rfl, MNX_tr F3 (MNX_tr (MNX_wrl v) (MNX_wr _ (by decide))), by rw [p_wrs], by rw [p_wrk _ _ _ _ (by decide), p_wrl1]; exact g9, by rw [p_wr2, p_wrl2]⟩
        by_cases c59 : B b = 59
        · rw [if_pos (by rw [c59]; rfl), if_pos c59]
          obtain ⟨h', a1, a2, a3, a4, a5⟩ := fin (-3)
          exact ⟨h', a1, a2, a3, a4, a5, fun v hv => by cases hv⟩
        · rw [if_neg (by rw [show (59 : Int32) = nI 59 from rfl, nI_eq (by omega) (by omega)]; exact c59), if_neg c59]
          obtain ⟨h', a1, a2, a3, a4, a5⟩ := fin (-4)
          exact ⟨h', a1, a2, a3, a4, a5, fun v hv => by cases hv⟩
theorem pm_next_l (N : Nat) (hN : 300 ≤ N) {t : Nat} {B : Nat → Nat} : ∀ (x k : Nat) (h : Hp), TM h t B → h.1 25 8 = nI k → k ≤ t → t - k < x → ∃ h', f_X8_nextToken_l0 N x h = some (0, h') ∧ MNX h h' ∧ h'.1 25 8 = nI (en t B (bg t B k)) ∧ h'.1 25 9 = nI (bg t B k) ∧ h'.2 = tkI B (bg t B k) (en t B (bg t B k)) ∧ ∀ v, nm B (bg t B k) (en t B (bg t B k)) = some v → h'.1 25 12 = nI v := by
  intro x
  induction x with
  | zero => intro k h _ _ _ h2; omega
  | succ x ih =>
    intro k h T e8 hk hx
    obtain ⟨ht, t1, t2⟩ := id T
    show ∃ h', f_X8_nextToken_b0 N (f_X8_nextToken_l0 N x) h = _ ∧ _
    unfold f_X8_nextToken_b0
    rw [t1, e8]
    by_cases hc : k = t
    · have ebg : bg t B k = k := by unfold bg; rw [hc, Nat.sub_self]; rfl
      rw [if_pos (nI_le (by omega) (by omega)), ebg]
      exact pm_tok N hN h T e8 hk
    · obtain ⟨r, hr⟩ : ∃ r, t - k = r + 1 := ⟨t - k - 1, by omega⟩
      have bk := t2 k (by omega)
      rw [if_neg (nI_ge (by omega) (by omega)), if_pos (p_ib (show k < 200 by omega) (by omega)), p_ix (by omega), bk.1]
      by_cases c : B k = 32
      · have ebg : bg t B k = bg t B (k + 1) := by
          unfold bg
          rw [hr, lowf_go (p := fun i => !decide (B i = 32)) (k := k) (by simp [c]), show t - (k + 1) = r by omega]
        rw [if_pos (by rw [c]; rfl), p_lt, nI_1, ebg]
        have F1 : MNX h (wr h 25 8 (nI (k + 1))) := MNX_wr _ (by decide)
        obtain ⟨h', a1, a2, a3⟩ := ih (k + 1) _ (TM_nx T F1) (by rw [p_wrs]) (by omega) (by omega)
        exact ⟨h', a1, MNX_tr F1 a2, a3⟩
      · have ebg : bg t B k = k := by
          unfold bg
          rw [hr, lowf_stop (p := fun i => !decide (B i = 32)) (k := k) (by simp [c])]
        rw [if_neg (by rw [show (32 : Int32) = nI 32 from rfl, nI_eq (by omega) (by omega)]; exact c), ebg]
        exact pm_tok N hN h T e8 hk
theorem pm_next (N : Nat) (hN : 300 ≤ N) {t : Nat} {B : Nat → Nat} {k : Nat} (h : Hp) (T : TM h t B) (e8 : h.1 25 8 = nI k) (hk : k ≤ t) : ∃ h', f_X8_nextToken N h = some (0, h') ∧ MNX h h' ∧ h'.1 25 8 = nI (en t B (bg t B k)) ∧ h'.1 25 9 = nI (bg t B k) ∧ h'.2 = tkI B (bg t B k) (en t B (bg t B k)) ∧ ∀ v, nm B (bg t B k) (en t B (bg t B k)) = some v → h'.1 25 12 = nI v := by
  have ht := T.1
  unfold f_X8_nextToken
  exact pm_next_l N hN N k h T e8 hk (by omega)
/-! tokens and words -/
def wv (i : Nat) : Nat := ([1359346, 168728, 165460637, 223459, 365645, 33861013, 131360, 11055682, 374873, 40586] : List Nat).getD i 0
theorem wv_c27 : ∀ i, i < 10 → wv i = c27 (fun k => (wd i).getD k 0) 0 (wd i).length ∧ (∀ k, k < 7 → k < (wd i).length → isL ((wd i).getD k 0) = true) ∧ 4 ≤ (wd i).length := by decide +kernel
theorem tk_word {t : Nat} {B : Nat → Nat} {b : Nat} (hb : b ≤ t) (hB : ∀ j, j < t → B j < 256) {i : Nat} (hi : i < 10) : tkI B b (en t B b) = lN (wv i) ↔ tbl B b (en t B b) = wd i := by
  obtain ⟨w1, w2, w3⟩ := wv_c27 i hi
  have wl := wd_len i (by omega)
  have ge := en_ge (B := B) hb
  have wlt : wv i < 27 ^ (wd i).length := by rw [w1]; exact c27_lt (fun k hk => by rw [Nat.zero_add]; exact w2 k (by omega) hk)
  have w7 : (27 : Nat) ^ (wd i).length ≤ 27 ^ 7 := Nat.pow_le_pow_right (by omega) (by omega)
  have wb : wv i < 2 ^ 63 := by omega
  have neg : ∀ m : Nat, m < 10 → m ≠ 0 → ¬ (-(Int64.ofNat m)) = lN (wv i) := by
    intro m hm hm0 z
    have h1 := congrArg Int64.toInt z
    rw [pk_lT wb] at h1
    have h2 : ∀ m, m < 10 → (-(Int64.ofNat m)).toInt = -(m : Int) := by decide
    rw [h2 m hm] at h1
    omega
  unfold tkI
  by_cases c0 : en t B b ≤ b
  · rw [if_pos c0]
    constructor
    · intro z; exact absurd z (neg 2 (by omega) (by omega))
    · intro z
      have := tbl_len B b (en t B b)
      rw [z] at this
      omega
  · have hbt : b < t := by omega
    rw [if_neg c0]
    cases hl : isL (B b) with
    | true =>
      rw [if_pos rfl]
      have hall : ∀ k, k < en t B b - b → isL (B (b + k)) = true := fun k hk => tok_L hbt hl (by omega) (by omega)
      by_cases c9 : en t B b - b ≤ 9
      · rw [if_pos c9]
        have clt := c27_lt (B := B) (b := b) hall
        have c97 : (27 : Nat) ^ (en t B b - b) ≤ 27 ^ 9 := Nat.pow_le_pow_right (by omega) c9
        rw [pk_lEQ (by omega) wb, w1]
        constructor
        · intro z
          obtain ⟨q1, q2⟩ := c27_inj hall (fun k hk => by rw [Nat.zero_add]; exact w2 k (by omega) hk) z
          refine list_eq (by rw [tbl_len, q1]) (fun k hk => ?_)
          rw [tbl_len] at hk
          rw [tbl_at hk, q2 k hk, Nat.zero_add]
        · intro z
          have hlen := tbl_len B b (en t B b)
          rw [z] at hlen
          rw [← hlen]
          have : ∀ m, m ≤ (wd i).length → c27 B b m = c27 (fun k => (wd i).getD k 0) 0 m := by
            intro m
            induction m with
            | zero => intro _; rfl
            | succ m ihm =>
              intro hm
              show 27 * c27 B b m + (B (b + m) - 96) = 27 * c27 (fun k => (wd i).getD k 0) 0 m + ((wd i).getD (0 + m) 0 - 96)
              rw [ihm (by omega), Nat.zero_add, ← z, tbl_at (by omega)]
          exact this _ (Nat.le_refl _)
      · rw [if_neg c9]
        constructor
        · intro z; exact absurd z (neg 4 (by omega) (by omega))
        · intro z
          have := tbl_len B b (en t B b)
          rw [z] at this
          omega
    | false =>
      rw [if_neg (by decide)]
      have nospell : ¬ tbl B b (en t B b) = wd i := by
        intro z
        have h1 := w2 0 (by omega) (by omega)
        rw [← z, tbl_at (by omega), Nat.add_zero, hl] at h1
        cases h1
      constructor
      · intro z
        exfalso
        split at z
        · split at z
          · exact neg 1 (by omega) (by omega) z
          · exact neg 4 (by omega) (by omega) z
        · split at z
          · exact neg 3 (by omega) (by omega) z
          · exact neg 4 (by omega) (by omega) z
      · intro z; exact absurd z nospell
theorem lN_neg {x : Nat} (hx : x < 2 ^ 63) : ∀ m, m < 10 → m ≠ 0 → ¬ lN x = -(Int64.ofNat m) := by
  intro m hm hm0 z
  have h1 := congrArg Int64.toInt z
  rw [pk_lT hx] at h1
  have h2 : ∀ m, m < 10 → (-(Int64.ofNat m)).toInt = -(m : Int) := by decide
  rw [h2 m hm] at h1
  omega
/-- the letters' code is small -/
theorem c27_63 {t : Nat} {B : Nat → Nat} {b : Nat} (hbt : b < t) (hl : isL (B b) = true) (c9 : en t B b - b ≤ 9) : c27 B b (en t B b - b) < 2 ^ 63 := by
  have clt := c27_lt (B := B) (b := b) (m := en t B b - b) (fun k hk => tok_L hbt hl (by omega) (by omega))
  have c97 : (27 : Nat) ^ (en t B b - b) ≤ 27 ^ 9 := Nat.pow_le_pow_right (by omega) c9
  omega
theorem tk_over {t : Nat} {B : Nat → Nat} {b : Nat} (hb : b ≤ t) : tkI B b (en t B b) = -2 ↔ b = t := by
  have ge := en_ge (B := B) hb
  unfold tkI
  by_cases c0 : b = t
  · have ee : en t B b = b := by unfold en; rw [if_neg (by omega)]
    rw [ee, if_pos (Nat.le_refl _)]
    exact ⟨fun _ => c0, fun _ => rfl⟩
  · have hbt : b < t := by omega
    rw [if_neg (by have := ge.2.2 hbt; omega)]
    constructor
    · intro z
      exfalso
      split at z
      · rename_i hl
        split at z
        · rename_i c9; exact lN_neg (c27_63 hbt hl c9) 2 (by omega) (by omega) z
        · revert z; decide
      · split at z
        · split at z <;> revert z <;> decide
        · split at z <;> revert z <;> decide
    · intro z; exact absurd z c0
theorem tk_semi {t : Nat} {B : Nat → Nat} {b : Nat} (hb : b ≤ t) : tkI B b (en t B b) = -3 ↔ tbl B b (en t B b) = wd 10 := by
  have ge := en_ge (B := B) hb
  unfold tkI
  by_cases c0 : b = t
  · have ee : en t B b = b := by unfold en; rw [if_neg (by omega)]
    rw [ee, if_pos (Nat.le_refl _)]
    constructor
    · intro z; exact absurd z (by decide)
    · intro z
      have := tbl_len B b b
      rw [z, Nat.sub_self] at this
      cases this
  · have hbt : b < t := by omega
    have hlt := ge.2.2 hbt
    rw [if_neg (by omega)]
    constructor
    · intro z
      split at z
      · rename_i hl
        split at z
        · rename_i c9; exact absurd z (lN_neg (c27_63 hbt hl c9) 3 (by omega) (by omega))
        · exact absurd z (by decide)
      · rename_i hl
        split at z
        · split at z
          · exact absurd z (by decide)
          · exact absurd z (by decide)
        · rename_i hd
          split at z
          · rename_i c59
            have ee := en_O hbt (by simpa using hl) (by simpa using hd)
            refine list_eq (by rw [tbl_len, ee]; show b + 1 - b = 1; omega) (fun k hk => ?_)
            rw [tbl_len] at hk
            have : k = 0 := by omega
            subst this
            rw [tbl_at hk]
            exact c59
          · exact absurd z (by decide)
    · intro z
      have h0 : B b = 59 := by
        have := tbl_at (B := B) (b := b) (e := en t B b) (k := 0) (by omega)
        rw [z] at this
        exact this.symm
      have hl : isL (B b) = false := by rw [h0]; decide
      have hd : isD (B b) = false := by rw [h0]; decide
      rw [hl, if_neg (by decide), hd, if_neg (by decide), if_pos h0]
theorem tk_num {t : Nat} {B : Nat → Nat} {b : Nat} (hb : b ≤ t) : tkI B b (en t B b) = -1 ↔ ∃ v, nm B b (en t B b) = some v := by
  have ge := en_ge (B := B) hb
  unfold tkI nm
  by_cases c0 : en t B b ≤ b
  · rw [if_pos c0, if_pos c0]
    constructor
    · intro z; exact absurd z (by decide)
    · rintro ⟨v, z⟩; cases z
  · have hbt : b < t := by omega
    rw [if_neg c0, if_neg c0]
    cases hd : isD (B b) with
    | true =>
      rw [isD_L hd, if_neg (show ¬ false = true by decide), if_pos rfl, if_neg (show ¬ true = false by decide)]
      by_cases c2 : en t B b - b ≤ 2
      · rw [if_pos c2]
        refine ⟨fun _ => ?_, fun _ => rfl⟩
        by_cases c1 : en t B b - b = 1
        · rw [if_pos c1]; exact ⟨_, rfl⟩
        · rw [if_neg c1, if_pos (by omega)]; exact ⟨_, rfl⟩
      · rw [if_neg c2, if_neg (by omega), if_neg (by omega)]
        constructor
        · intro z; exact absurd z (by decide)
        · rintro ⟨v, z⟩; cases z
    | false =>
      rw [if_pos rfl, if_neg (show ¬ false = true by decide)]
      constructor
      · intro z
        exfalso
        split at z
        · rename_i hl
          split at z
          · rename_i c9; exact lN_neg (c27_63 hbt hl c9) 1 (by omega) (by omega) z
          · revert z; decide
        · split at z <;> revert z <;> decide
      · rintro ⟨v, z⟩; cases z
