/-! ===== lines: what they say, how the class reads them ===== -/
abbrev Bs : Type := Nat × Nat × Nat × Int32 × Int32 × (Nat → Nat) × (Nat → Nat) × (Nat → Nat) × (Nat → Nat)
abbrev Bs.w (x_ : Bs) : Nat := x_.1
abbrev Bs.g (x_ : Bs) : Nat := x_.2.1
abbrev Bs.n (x_ : Bs) : Nat := x_.2.2.1
abbrev Bs.ho (x_ : Bs) : Int32 := x_.2.2.2.1
abbrev Bs.lw (x_ : Bs) : Int32 := x_.2.2.2.2.1
abbrev Bs.kd (x_ : Bs) : Nat → Nat := x_.2.2.2.2.2.1
abbrev Bs.co (x_ : Bs) : Nat → Nat := x_.2.2.2.2.2.2.1
abbrev Bs.S (x_ : Bs) : Nat → Nat := x_.2.2.2.2.2.2.2.1
abbrev Bs.L (x_ : Bs) : Nat → Nat := x_.2.2.2.2.2.2.2.2
def WB (s : Bs) : Prop := bd s.w s.g ∧ s.n ≤ 4 ∧ (∀ i, i < s.n → s.kd i < 4 ∧ s.co i < 2 ∧ s.S i < s.w * s.g ∧ s.L i < s.w * s.g) ∧ (∀ i j, i < s.n → j < s.n → s.S i = s.S j → i = j) ∧ ∀ i j, i < s.n → j < s.n → s.L i = s.L j → i = j
/-- a board as the class has it in the cells o, o + 1, o + 2 -/
def DR (o : Nat) (h : Hp) (s : Bs) : Prop := h.1 o 0 = nI s.w ∧ h.1 o 1 = nI s.g ∧ h.1 o 2 = s.ho ∧ h.1 o 3 = s.lw ∧ h.1 o 4 = nI s.n ∧ (∀ i, i < s.n → h.1 (o + 1) i = nI (s.kd i) ∧ h.1 (o + 2) i = nI (s.co i)) ∧ PC (h.1 o 5) s.n s.S ∧ PC (h.1 o 6) s.n s.L
/-- a line: a man; a law; bare; a board; a hole -/
abbrev Cm : Type := (Nat × Nat × Nat × Nat) ⊕ Nat ⊕ Unit ⊕ (Nat × Nat) ⊕ Nat
def updN (f : Nat → Nat) (n v : Nat) : Nat → Nat := fun i => if i = n then v else f i
def ap (s : Bs) : Cm → Bs
  | .inl (k, c, a, b) => (s.w, s.g, s.n + 1, s.ho, s.lw, updN s.kd s.n k, updN s.co s.n c, updN s.S s.n a, updN s.L s.n b)
  | .inr (.inl l) => (s.w, s.g, s.n, s.ho, nI l, s.kd, s.co, s.S, s.L)
  | .inr (.inr (.inl ())) => (s.w, s.g, 0, s.ho, s.lw, s.kd, s.co, s.S, s.L)
  | .inr (.inr (.inr (.inl (w, g)))) => (w, g, 0, 0, 0, s.kd, s.co, s.S, s.L)
  | .inr (.inr (.inr (.inr p))) => (s.w, s.g, s.n, s.ho ||| sg (nI p), s.lw, s.kd, s.co, s.S, s.L)
/-- how a line is read: its fault's place; or what it says, and where it ends -/
abbrev LR : Type := EStateM.Result Unit Nat Cm
def inr' (o : Option Nat) (lo hi : Nat) : Option Nat := match o with
  | some v => if lo ≤ v ∧ v ≤ hi then some v else none
  | none => none
def nb (t : Nat) (B : Nat → Nat) (k : Nat) : Nat := bg t B k
def ne (t : Nat) (B : Nat → Nat) (k : Nat) : Nat := en t B (bg t B k)
def rN (t : Nat) (B : Nat → Nat) (k lo hi : Nat) : Option Nat := inr' (nm B (nb t B k) (ne t B k)) lo hi
def occ (n : Nat) (P : Nat → Nat) (q : Nat) : Bool := anyr (fun i => decide (P i = q)) n 0
def pBoard (t : Nat) (B : Nat → Nat) (k : Nat) : LR := match rN t B k 2 4 with
  | none => .error () (nb t B k)
  | some c => match rN t B (ne t B k) 2 4 with
    | none => .error () (nb t B (ne t B k))
    | some r => if c * r ≤ 12 then .ok ((.inr (.inr (.inr (.inl (c, r)))))) (ne t B (ne t B k)) else .error () (nb t B (ne t B k))
def pHole (t : Nat) (B : Nat → Nat) (s : Bs) (k : Nat) : LR := match rN t B k 0 (s.w * s.g - 1) with
  | none => .error () (nb t B k)
  | some p => if (bt s.ho p || (occ s.n s.S p || occ s.n s.L p)) = true then .error () (nb t B k) else .ok ((.inr (.inr (.inr (.inr p))))) (ne t B k)
def pMan (t : Nat) (B : Nat → Nat) (s : Bs) (kind b k : Nat) : LR := if 4 ≤ s.n then .error () b else match rN t B k 0 1 with
  | none => .error () (nb t B k)
  | some c => match rN t B (ne t B k) 0 (s.w * s.g - 1) with
    | none => .error () (nb t B (ne t B k))
    | some a => if (bt s.ho a || occ s.n s.S a) = true then .error () (nb t B (ne t B k)) else match rN t B (ne t B (ne t B k)) 0 (s.w * s.g - 1) with
      | none => .error () (nb t B (ne t B (ne t B k)))
      | some d => if (bt s.ho d || occ s.n s.L d) = true then .error () (nb t B (ne t B (ne t B k))) else .ok ((.inl (kind, c, a, d))) (ne t B (ne t B (ne t B k)))
def pLine (t : Nat) (B : Nat → Nat) (s : Bs) (b e : Nat) : LR :=
  if tbl B b e = wd 0 then pBoard t B e else if tbl B b e = wd 1 then pHole t B s e else if tbl B b e = wd 2 then pMan t B s 0 b e else if tbl B b e = wd 3 then pMan t B s 1 b e else if tbl B b e = wd 4 then pMan t B s 2 b e else if tbl B b e = wd 5 then pMan t B s 3 b e else if tbl B b e = wd 6 then .ok ((.inr (.inl 0))) e else if tbl B b e = wd 7 then .ok ((.inr (.inl 1))) e else if tbl B b e = wd 8 then .ok ((.inr (.inl 2))) e else if tbl B b e = wd 9 then .ok (.inr (.inr (.inl ()))) e else .error () b
theorem rN_in {t : Nat} {B : Nat → Nat} {k lo hi v : Nat} (h : rN t B k lo hi = some v) : lo ≤ v ∧ v ≤ hi := by
  unfold rN inr' at h
  split at h
  · split at h
    · rename_i c
      rw [← Option.some.inj h]; exact c
    · cases h
  · cases h
theorem ne_le {t : Nat} {B : Nat → Nat} {k : Nat} (hk : k ≤ t) : ne t B k ≤ t ∧ nb t B k ≤ t := by
  have h1 := bg_ge (B := B) hk
  have h2 := en_ge (B := B) h1.2
  unfold ne nb
  omega
theorem occ_no {n : Nat} {P : Nat → Nat} {q : Nat} (h : occ n P q = false) : ∀ i, i < n → P i ≠ q := by
  intro i hi z
  have : occ n P q = true := (anyr_iff _ _ _).mpr ⟨i, by omega, by omega, by simp [z]⟩
  rw [h] at this; cases this
theorem lastm_occ {n : Nat} {P : Nat → Nat} {q : Nat} (hn : n ≤ 4) : lastm P q n = -1 ↔ occ n P q = false := by
  constructor
  · intro h
    cases hx : occ n P q with
    | false => rfl
    | true =>
      exfalso
      obtain ⟨i, i1, i2, i3⟩ := (anyr_iff _ _ _).mp hx
      have : ∀ m, m ≤ 4 → i < m → lastm P q m ≠ -1 := by
        intro m
        induction m with
        | zero => intro _ h; omega
        | succ m ih =>
          intro hm him
          show (if P m = q then nI m else lastm P q m) ≠ -1
          split
          · exact p_nI_ne_m1 (by omega)
          · rename_i c
            have : i ≠ m := fun z => c (by rw [← z]; exact of_decide_eq_true i3)
            exact ih (by omega) (by omega)
      exact this n hn (by omega) h
  · intro h
    exact lastm_none (occ_no h)
/-- what a reader's step keeps -/
def CF (h h' : Hp) : Prop := (∀ c, c ∉ [4, 6, 7, 8, 9] → h'.1 c = h.1 c) ∧ h'.1 4 1 = h.1 4 1 ∧ h'.1 6 2 = h.1 6 2
theorem CF_rfl (h : Hp) : CF h h := ⟨fun _ _ => rfl, rfl, rfl⟩
theorem CF_tr {a b c : Hp} (h1 : CF a b) (h2 : CF b c) : CF a c := ⟨fun x hx => by rw [h2.1 x hx, h1.1 x hx], by rw [h2.2.1, h1.2.1], by rw [h2.2.2, h1.2.2]⟩
theorem TX_cf {h h' : Hp} {t : Nat} {B : Nat → Nat} (T : TX h t B) (F : CF h h') : TX h' t B := by
  unfold TX
  rw [F.2.1, F.1 5 (by decide)]
  exact T
theorem pu_refuse_f (N : Nat) (h : Hp) (a : Int32) (hf : ¬ h.1 6 1 = -1) : f_X3_refuseIf N a h = some (0, h) := by
  unfold f_X3_refuseIf f_X3_refuseIf_b23
  by_cases c : a = 0
  · rw [if_pos c]
  · rw [if_neg c, if_neg hf]
theorem pu_refuse_0 (N : Nat) (h : Hp) : f_X3_refuseIf N 0 h = some (0, h) := by
  unfold f_X3_refuseIf f_X3_refuseIf_b23
  rw [if_pos rfl]
theorem pu_refuse_1 (N : Nat) (h : Hp) (hf : h.1 6 1 = -1) : f_X3_refuseIf N 1 h = some (0, wr h 6 1 (h.1 4 2)) := by
  unfold f_X3_refuseIf f_X3_refuseIf_b23
  rw [if_neg n10, if_pos hf, p_lt]
theorem pu_manOf_any (o N : Nat) (hN : 5 ≤ N) (h : Hp) {n : Nat} (hn : h.1 o 4 = nI n) (hn4 : n ≤ 4) (p v : Int32) : ∃ r, f_X5_manOf o N p v h = some (r, h) := by
  have loop : ∀ (e i : Nat), i ≤ n → n - i < e → ∃ r, f_X5_manOf_l2 o N e p v (nI i) h = some (r, h) := by
    intro e
    induction e with
    | zero => intro i _ h2; omega
    | succ e ih =>
      intro i hi he
      show ∃ r, f_X5_manOf_b2 o N (f_X5_manOf_l2 o N e) p v (nI i) h = some (r, h)
      unfold f_X5_manOf_b2
      rw [hn]
      by_cases hc : i = n
      · rw [if_pos (nI_le (by omega) (by omega))]; exact ⟨_, rfl⟩
      · rw [if_neg (nI_ge (by omega) (by omega)), p_placeOf, p_cl]
        split
        · exact ⟨_, rfl⟩
        · rw [p_lt, nI_1]; exact ih (i + 1) (by omega) (by omega)
  unfold f_X5_manOf
  rw [p_lt]
  exact loop N 0 (by omega) (by omega)
/-- a number read: what changes -/
def NF (h h' : Hp) : Prop := (∀ c, c ∉ [4, 6] → h'.1 c = h.1 c) ∧ h'.1 4 1 = h.1 4 1 ∧ h'.1 6 2 = h.1 6 2
theorem NF_cf {h h' : Hp} (F : NF h h') : CF h h' := ⟨fun c hc => F.1 c (fun z => hc (by simp at z ⊢; omega)), F.2.1, F.2.2⟩
theorem pu_rNum (N : Nat) (hN : 300 ≤ N) (h : Hp) {t : Nat} {B : Nat → Nat} (T : TX h t B) {k lo hi : Nat} (e3 : h.1 4 3 = nI k) (hk : k ≤ t) (hf : h.1 6 1 = -1) (hlo : lo < 100) (hhi : hi < 100) : ∃ v h', f_X3_readNumber N (nI lo) (nI hi) h = some (v, h') ∧ NF h h' ∧ h'.1 4 2 = nI (nb t B k) ∧ h'.1 4 3 = nI (ne t B k) ∧ ((∃ x, rN t B k lo hi = some x ∧ v = nI x ∧ h'.1 6 1 = -1) ∨ (rN t B k lo hi = none ∧ h'.1 6 1 = nI (nb t B k))) := by
  obtain ⟨h1, a1, a2, a3, a4⟩ := pu_next N hN h T e3 hk
  have hb := bg_ge (B := B) hk
  have T1 := TX_nx T a2
  have hnum := pu_number N hN h1 T1 a3 a4 hb.2
  have f1 : h1.1 6 1 = -1 := by rw [a2.1 6 (by decide)]; exact hf
  have F1 : NF h h1 := ⟨fun c hc => a2.1 c (fun z => hc (by simp [z])), a2.2, by rw [a2.1 6 (by decide)]⟩
  unfold f_X3_readNumber f_X3_readNumber_b36 f_X3_readNumber_b41
  rw [if_pos hf, a1, p_cl, hnum, p_cl, p_lt, pu_refuse_0 N h1, p_cl, pu_refuse_1 N h1 f1, p_cl, a3]
  have bad : NF h (wr h1 6 1 (nI (bg t B k))) := ⟨fun c hc => by rw [p_wro _ _ _ _ (fun z => hc (by simp [z]))]; exact F1.1 c hc, by rw [p_wro _ _ _ _ (by decide)]; exact F1.2.1, by rw [p_wrk _ _ _ _ (by decide)]; exact F1.2.2⟩
  have bad2 : (wr h1 6 1 (nI (bg t B k))).1 4 2 = nI (nb t B k) := by rw [p_wro _ _ _ _ (by decide)]; exact a3
  have bad3 : (wr h1 6 1 (nI (bg t B k))).1 4 3 = nI (ne t B k) := by rw [p_wro _ _ _ _ (by decide)]; exact a4
  have bad6 : (wr h1 6 1 (nI (bg t B k))).1 6 1 = nI (nb t B k) := by rw [p_wrs]; rfl
  have enm : nm B (nb t B k) (ne t B k) = nm B (bg t B k) (en t B (bg t B k)) := rfl
  cases hv : nm B (bg t B k) (en t B (bg t B k)) with
  | none =>
    have rn : rN t B k lo hi = none := by unfold rN; rw [enm, hv]; rfl
    refine ⟨-1, wr h1 6 1 (nI (bg t B k)), ?_, bad, bad2, bad3, Or.inr ⟨rn, bad6⟩⟩
    show (if (-1 : Int32) < nI lo then _ else _) = _
    rw [if_pos (Int32.lt_of_lt_of_le p_m1 (nI_le (a := 0) (Nat.zero_le _) (by omega)))]
    rfl
  | some x =>
    have hx : x < 100 := by
      unfold nm at hv
      split at hv
      · cases hv
      · split at hv
        · cases hv
        · rename_i c1 c2
          have hd : isD (B (bg t B k)) = true := by simpa using c2
          have hd1 := isD_b hd
          split at hv
          · have := Option.some.inj hv; omega
          · split at hv
            · rename_i c3 c4
              have hd2 := isD_b (tok_D (t := t) (b := bg t B k) (k := bg t B k + 1) (by have := (en_ge (B := B) hb.2); omega) hd (by omega) (by omega))
              have := Option.some.inj hv
              omega
            · cases hv
    show ∃ v h', (if nI x < nI lo then some (nmI (some x), wr h1 6 1 (nI (bg t B k))) else if nI x ≤ nI hi then some (nmI (some x), h1) else some (nmI (some x), wr h1 6 1 (nI (bg t B k)))) = some (v, h') ∧ _
    by_cases c1 : lo ≤ x
    · rw [if_neg (nI_nlt c1 (by omega))]
      by_cases c2 : x ≤ hi
      · rw [if_pos (nI_le c2 (by omega))]
        refine ⟨nI x, h1, rfl, F1, a3, a4, Or.inl ⟨x, ?_, rfl, f1⟩⟩
        unfold rN; rw [enm, hv]
        show (if lo ≤ x ∧ x ≤ hi then some x else none) = some x
        rw [if_pos ⟨c1, c2⟩]
      · rw [if_neg (nI_ge (by omega) (by omega))]
        refine ⟨nI x, _, rfl, bad, bad2, bad3, Or.inr ⟨?_, bad6⟩⟩
        unfold rN; rw [enm, hv]
        show (if lo ≤ x ∧ x ≤ hi then some x else none) = none
        rw [if_neg (fun z => c2 z.2)]
    · rw [if_pos (nI_lt (by omega) (by omega))]
      refine ⟨nI x, _, rfl, bad, bad2, bad3, Or.inr ⟨?_, bad6⟩⟩
      unfold rN; rw [enm, hv]
      show (if lo ≤ x ∧ x ≤ hi then some x else none) = none
      rw [if_neg (fun z => c1 z.1)]
theorem pu_rNum_f (N : Nat) (h : Hp) (a b : Int32) (hf : ¬ h.1 6 1 = -1) : f_X3_readNumber N a b h = some (a, h) := by
  unfold f_X3_readNumber
  rw [if_neg hf]
theorem DR_nf {o : Nat} {h h' : Hp} {s : Bs} (D : DR o h s) (e0 : h'.1 o = h.1 o) (e1 : h'.1 (o + 1) = h.1 (o + 1)) (e2 : h'.1 (o + 2) = h.1 (o + 2)) : DR o h' s := by
  unfold DR
  rw [e0, e1, e2]
  exact D
/-- how a line's reading ends, in the class -/
def CL (t : Nat) (h h' : Hp) (s : Bs) : LR → Prop
  | .error () f => CF h h' ∧ h'.1 6 1 = nI f
  | .ok c k => CF h h' ∧ h'.1 6 1 = -1 ∧ DR 7 h' (ap s c) ∧ h'.1 4 3 = nI k ∧ k ≤ t
theorem nf7 {h h' : Hp} (F : NF h h') {s : Bs} (D : DR 7 h s) : DR 7 h' s := DR_nf D (F.1 7 (by decide)) (F.1 8 (by decide)) (F.1 9 (by decide))
theorem ne_m1 {f : Nat} (h : f < 300) : ¬ nI f = -1 := p_nI_ne_m1 (by omega)
theorem pu_size (N : Nat) (hN : 300 ≤ N) (h : Hp) {t : Nat} {B : Nat → Nat} (T : TX h t B) {k : Nat} (e3 : h.1 4 3 = nI k) (hk : k ≤ t) (hf : h.1 6 1 = -1) (s : Bs) : ∃ h', f_X3_readSize N h = some (0, h') ∧ CL t h h' s (pBoard t B k) := by
  have ht := T.1
  have hle := ne_le (B := B) hk
  obtain ⟨v, h1, a1, F1, b1, c1, r1⟩ := pu_rNum N hN h T (lo := 2) (hi := 4) e3 hk hf (by omega) (by omega)
  have T1 := TX_cf T (NF_cf F1)
  unfold f_X3_readSize f_X3_readSize_b28 f_X3_readSize_b48
  rw [show f_X3_readNumber N 2 4 h = some (v, h1) from a1, p_cl, p_lt]
  rcases r1 with ⟨x, x1, x2, x3⟩ | ⟨x1, x2⟩
  rotate_left
  · have hfl : ¬ h1.1 6 1 = -1 := by rw [x2]; exact ne_m1 (by omega)
    rw [pu_rNum_f N h1 2 4 hfl, p_cl, p_lt, pu_refuse_f N h1 0 hfl, p_cl, if_neg hfl, pu_refuse_f N h1 1 hfl, p_cl, if_neg hfl]
    refine ⟨h1, by split <;> rfl, ?_⟩
    unfold pBoard
    rw [x1]
    exact ⟨NF_cf F1, x2⟩
  have hx := rN_in x1
  have hle2 := ne_le (B := B) hle.1
  obtain ⟨v2, h2, a2, F2, b2, c2, r2⟩ := pu_rNum N hN h1 T1 (lo := 2) (hi := 4) c1 hle.1 x3 (by omega) (by omega)
  have F12 : CF h h2 := CF_tr (NF_cf F1) (NF_cf F2)
  rw [show f_X3_readNumber N 2 4 h1 = some (v2, h2) from a2, p_cl, p_lt]
  rcases r2 with ⟨y, y1, y2, y3⟩ | ⟨y1, y2⟩
  rotate_left
  · have hfl : ¬ h2.1 6 1 = -1 := by rw [y2]; exact ne_m1 (by omega)
    rw [pu_refuse_f N h2 0 hfl, p_cl, if_neg hfl, pu_refuse_f N h2 1 hfl, p_cl, if_neg hfl]
    refine ⟨h2, by split <;> rfl, ?_⟩
    unfold pBoard
    rw [x1]
    show CL t h h2 s (match rN t B (ne t B k) 2 4 with | none => _ | some r => _)
    rw [y1]
    exact ⟨F12, y2⟩
  have hy := rN_in y1
  rw [x2, y2, pk_mul]
  have exy : pBoard t B k = if x * y ≤ 12 then .ok ((.inr (.inr (.inr (.inl (x, y)))))) (ne t B (ne t B k)) else .error () (nb t B (ne t B k)) := by
    unfold pBoard
    rw [x1]
    show (match rN t B (ne t B k) 2 4 with | none => _ | some r => _) = _
    rw [y1]
  have hxy : x * y < 100 := Nat.lt_of_le_of_lt (Nat.mul_le_mul hx.2 hy.2) (by omega)
  rw [exy]
  by_cases c : x * y ≤ 12
  · rw [if_pos (show nI (x * y) ≤ 12 from nI_le (b := 12) c (by omega)), if_pos c, pu_refuse_0 N h2, p_cl, if_pos y3]
    unfold f_X5_lay f_X5_takeMenAway
    simp only [p_lt, p_cl]
    refine ⟨_, rfl, ?_⟩
    have e : ∀ c, c ≠ 7 → (wr (wr (wr (wr (wr (wr (wr h2 7 0 (nI x)) 7 1 (nI y)) 7 2 0) 7 3 0) 7 4 0) 7 5 0) 7 6 0).1 c = h2.1 c := fun c hc => by
      simp only [p_wro _ _ _ _ hc]
    refine ⟨CF_tr F12 ⟨fun c hc => e c (fun z => hc (by simp [z])), by rw [e 4 (by decide)], by rw [e 6 (by decide)]⟩, by rw [e 6 (by decide)]; exact y3, ?_, by rw [e 4 (by decide)]; exact c2, hle2.1⟩
    refine ⟨by simp [p_wr]; rfl, by simp [p_wr]; rfl, by simp [p_wr]; rfl, by simp [p_wr]; rfl, by simp [p_wr]; rfl, fun i hi => (by cases hi), ⟨fun j _ _ => ?_, fun i hi => (by cases hi)⟩, ⟨fun j _ _ => ?_, fun i hi => (by cases hi)⟩⟩
    · simp [p_wr, b_0]
    · simp [p_wr, b_0]
  · rw [if_neg (show ¬ nI (x * y) ≤ 12 from nI_ge (a := 12) (by omega) (by omega)), if_neg c, pu_refuse_1 N h2 y3, p_cl, b2]
    have hfl : ¬ (wr h2 6 1 (nI (nb t B (ne t B k)))).1 6 1 = -1 := by rw [p_wrs]; exact ne_m1 (by omega)
    rw [if_neg hfl]
    exact ⟨_, rfl, CF_tr F12 ⟨fun c hc => by rw [p_wro _ _ _ _ (fun z => hc (by simp [z]))], by rw [p_wro _ _ _ _ (by decide)], by rw [p_wrk _ _ _ _ (by decide)]⟩, by rw [p_wrs]⟩
