/-! ===== the model's attackedBy; allowed and mayOf ===== -/
theorem p_4x (i : Nat) : (4 : Int32) * nI i = nI (4 * i) := pk_mul 4 i
theorem p_4x1 (i : Nat) : (4 : Int32) * nI i + 1 = nI (4 * i + 1) := by rw [p_4x, nI_1]
/-- the board as the model has it -/
def MB (h : Hp) (w g : Nat) : Prop := bd w g ∧ h.1 25 0 = nI w ∧ h.1 25 1 = nI g
theorem pm_att2 (w9 N : Nat) (k11 : Int32 → Int32 → Int32 → Hp → Option Rs) (h : Hp) {n : Nat} {kd co : Nat → Nat} (hB : BM h n kd co) {P : Nat → Nat} (hp : ∀ i, i < n → h.1 w9 i = nI (P i) ∧ P i < 12) (tk R : Int32) {i : Nat} (hi : i < n) : ∀ (m j : Nat) (set : Int32), j ≤ n → n - j < m → f_X8_attackedBy_l43 w9 N k11 m (set ||| orf (fun j => if co i = co j then 0 else if bt R (P j) = true then sg (nI j) else 0) j) tk (nI i) R (nI j) h = k11 (set ||| orf (fun j => if co i = co j then 0 else if bt R (P j) = true then sg (nI j) else 0) n) tk (nI (i + 1)) h := by
  obtain ⟨hn, hn4, hB⟩ := hB
  intro m
  induction m with
  | zero => intro j _ _ h2; omega
  | succ m ih =>
    intro j set hj hm
    show f_X8_attackedBy_b43 w9 N k11 (f_X8_attackedBy_l43 w9 N k11 m) _ tk (nI i) R (nI j) h = _
    unfold f_X8_attackedBy_b43 f_X8_attackedBy_b97 f_X8_attackedBy_b98
    rw [hn]
    by_cases hc : n ≤ j
    · have e : j = n := by omega
      subst e
      rw [if_pos (nI_le (Nat.le_refl _) (by omega)), p_lt, nI_1]
    · obtain ⟨a1, a2, a3, a4⟩ := hB i hi
      obtain ⟨b1, b2, b3, b4⟩ := hB j (by omega)
      have hP := hp j (by omega)
      rw [if_neg (nI_ge (by omega) (by omega)), p_4x1, p_4x1, if_pos (p_ib (by omega) (by omega)), if_pos (p_ib (by omega) (by omega)), p_ix (by omega), p_ix (by omega), a3, b3]
      have step := ih (j + 1) set (by omega) (by omega)
      have key : ∀ s0 : Int32, s0 = (if co i = co j then 0 else if bt R (P j) = true then sg (nI j) else 0) → lt ((set ||| orf (fun j => if co i = co j then 0 else if bt R (P j) = true then sg (nI j) else 0) j) ||| s0) (fun x1 => lt (nI j + 1) (fun x2 => f_X8_attackedBy_l43 w9 N k11 m x1 tk (nI i) R x2 h)) = k11 (set ||| orf (fun j => if co i = co j then 0 else if bt R (P j) = true then sg (nI j) else 0) n) tk (nI (i + 1)) h := by
        intro s0 hs
        subst hs
        rw [p_lt, p_lt, nI_1, or_a]
        exact step
      by_cases c : co i = co j
      · rw [if_pos (by rw [c])]
        exact key 0 (by rw [if_pos c])
      · rw [if_neg (by rw [nI_eq (by omega) (by omega)]; omega), if_pos (p_ib (by omega) (by omega)), p_ix (by omega), hP.1, pm_has, p_cl]
        by_cases c2 : bi R (nI (P j)) = 1
        · rw [if_pos c2, if_neg (by decide)]
          exact key _ (by rw [if_neg c, if_pos ((bi_1 (by omega)).mp c2)]; rfl)
        · rw [if_neg c2, if_pos rfl]
          exact key 0 (by rw [if_neg c, if_neg (fun z => c2 ((bi_1 (by omega)).mpr z))])
def atk2 (T : Nat → Int32) (n : Nat) (kd co : Nat → Nat) (P : Nat → Nat) (ho : Int32) (m : Nat) : Int32 := orf (fun i => orf (fun j => if co i = co j then 0 else if bt (rcm T n kd P ho i) (P j) = true then sg (nI j) else 0) n) m
theorem pm_att1 (w9 N : Nat) (hN : 20 ≤ N) (h : Hp) {w g : Nat} (hM : MB h w g) (f : Nat → Int32) {n : Nat} {kd co : Nat → Nat} (hB : BM h n kd co) {P : Nat → Nat} (hp : ∀ i, i < n → h.1 w9 i = nI (P i) ∧ P i < w * g) : ∀ (m i : Nat), i ≤ n → n - i < m → f_X8_attackedBy_l11 w9 N m (atk2 (stt w g f) n kd co P (h.1 25 2) i) (tkn P n) (nI i) h = some (atk2 (stt w g f) n kd co P (h.1 25 2) n, h) := by
  obtain ⟨hn, hn4, hB0⟩ := id hB
  obtain ⟨hb, e0, e1⟩ := hM
  have h12 := hb.2.2.2.2
  intro m
  induction m with
  | zero => intro i _ h2; omega
  | succ m ih =>
    intro i hi hm
    show f_X8_attackedBy_b11 w9 N (f_X8_attackedBy_l11 w9 N m) _ (tkn P n) (nI i) h = _
    unfold f_X8_attackedBy_b11
    rw [hn]
    by_cases hc : n ≤ i
    · have e : i = n := by omega
      subst e
      rw [if_pos (nI_le (Nat.le_refl _) (by omega))]
    · obtain ⟨a1, a2, a3, a4⟩ := hB0 i (by omega)
      have hP := hp i (by omega)
      rw [if_neg (nI_ge (by omega) (by omega)), p_4x, if_pos (p_ib (by omega) (by omega)), if_pos (p_ib (by omega) (by omega)), p_ix (by omega), p_ix (by omega), a1, hP.1, pm_reachOf N hb (by omega) hP.2 _ h e0 e1 a2 f, p_cl, p_lt, p_lt]
      have e2 := pm_att2 w9 N (f_X8_attackedBy_l11 w9 N m) h hB (fun i hi => ⟨(hp i hi).1, by have := (hp i hi).2; omega⟩) (tkn P n) (rcm (stt w g f) n kd P (h.1 25 2) i) (i := i) (by omega) N 0 (atk2 (stt w g f) n kd co P (h.1 25 2) i) (by omega) (by omega)
      rw [show orf (fun j => if co i = co j then 0 else if bt (rcm (stt w g f) n kd P (h.1 25 2) i) (P j) = true then sg (nI j) else 0) 0 = 0 from rfl, or_0] at e2
      refine Eq.trans e2 ?_
      exact ih (i + 1) (by omega) (by omega)
theorem atk_eq (T : Nat → Int32) (n : Nat) (kd co : Nat → Nat) (P : Nat → Nat) (ho : Int32) : atk2 T n kd co P ho n = atk T n kd co P ho := by
  apply bt_iff
  intro b _
  unfold atk2 atk
  rw [orf_bt, orf_bt]
  constructor
  · rintro ⟨i, hi, h2⟩
    obtain ⟨j, hj, h3⟩ := (orf_bt _ _ _).mp h2
    exact ⟨j, hj, (orf_bt _ _ _).mpr ⟨i, hi, h3⟩⟩
  · rintro ⟨i, hi, h2⟩
    obtain ⟨j, hj, h3⟩ := (orf_bt _ _ _).mp h2
    exact ⟨j, hj, (orf_bt _ _ _).mpr ⟨i, hi, h3⟩⟩
theorem pm_attacked (w9 N : Nat) (hN : 20 ≤ N) (h : Hp) {w g : Nat} (hM : MB h w g) (f : Nat → Int32) {n : Nat} {kd co : Nat → Nat} (hB : BM h n kd co) {P : Nat → Nat} (hp : ∀ i, i < n → h.1 w9 i = nI (P i) ∧ P i < w * g) : f_X8_attackedBy w9 N h = some (atk (stt w g f) n kd co P (h.1 25 2), h) := by
  unfold f_X8_attackedBy
  have hn4 := hB.2.1
  rw [p_lt, pm_taken w9 N (by omega) h hB.1 hB.2.1 (fun i hi => (hp i hi).1), p_cl, p_lt, p_lt, ← atk_eq]
  exact pm_att1 w9 N hN h hM f hB hp N 0 (by omega) (by omega)
/-! reached squares are squares of the board -/
theorem ray_bt {w g d : Nat} (hb : bd w g) (hd : d < 16) (T : Nat → Int32) (hT : ∀ q, q < 12 → T (d * 12 + q) = if q < w * g then ent w g q d else -1) (ho me : Int32) (b : Nat) (hb32 : b < 32) : ∀ (n : Nat) (a : Int32), (a < 0 ∨ ∃ j, j < w * g ∧ a = nI j) → bt (ray (Sd T d) ho me n a) b = true → b < w * g := by
  have h12 := hb.2.2.2.2
  intro n
  induction n with
  | zero => intro a _ h; rw [show ray (Sd T d) ho me 0 a = 0 from rfl, b_0] at h; cases h
  | succ n ih =>
    intro a ha h
    have h : bt (if a < 0 then 0 else if bi ho a = 0 then sg a ||| ray (Sd T d) ho me n (if bi me a = 1 then -1 else Sd T d a) else 0) b = true := h
    by_cases c1 : a < 0
    · rw [if_pos c1, b_0] at h; cases h
    · rw [if_neg c1] at h
      obtain ⟨j, hj, rfl⟩ : ∃ j, j < w * g ∧ a = nI j := by
        rcases ha with q | q
        · exact absurd q c1
        · exact q
      by_cases c2 : bi ho (nI j) = 0
      · rw [if_pos c2, b_or, Bool.or_eq_true] at h
        rcases h with h | h
        · rw [sg_bt (by omega) hb32] at h
          have := of_decide_eq_true h
          omega
        · refine ih _ ?_ h
          by_cases c3 : bi me (nI j) = 1
          · rw [if_pos c3]; exact Or.inl p_m1
          · rw [if_neg c3, Sd_at T hd (by omega), hT j (by omega), if_pos hj]
            rcases ent_case hb hj hd with ⟨e, -⟩ | ⟨m, e1, e2, -⟩
            · rw [e]; exact Or.inl p_m1
            · exact Or.inr ⟨m, e1, e2⟩
      · rw [if_neg c2, b_0] at h; cases h
theorem gat_bt (f : Nat → Int32) (b : Nat) : ∀ (n d : Nat), bt (gat f n d) b = true ↔ ∃ e, d ≤ e ∧ e < d + n ∧ bt (f e) b = true := by
  intro n
  induction n with
  | zero => intro d; rw [show gat f 0 d = 0 from rfl, b_0]; constructor
            · intro h; cases h
            · rintro ⟨e, h1, h2, -⟩; omega
  | succ n ih =>
    intro d
    show bt (f d ||| gat f n (d + 1)) b = true ↔ _
    rw [b_or, Bool.or_eq_true, ih]
    constructor
    · rintro (h | ⟨e, h1, h2, h3⟩)
      · exact ⟨d, by omega, by omega, h⟩
      · exact ⟨e, by omega, by omega, h3⟩
    · rintro ⟨e, h1, h2, h3⟩
      by_cases he : e = d
      · exact Or.inl (he ▸ h3)
      · exact Or.inr ⟨e, by omega, by omega, h3⟩
theorem rch_bt {w g k q : Nat} (hb : bd w g) (hk : k < 4) (hq : q < 12) (f : Nat → Int32) (ho me : Int32) {b : Nat} (hb32 : b < 32) (h : bt (rch (stt w g f) k q ho me) b = true) : b < w * g := by
  have hbd : bdn k ≤ 16 := by unfold bdn; split; omega; split <;> omega
  have hfd := fdn_le k hk
  obtain ⟨d, h1, h2, h3⟩ := (gat_bt _ _ _ _).mp h
  have hd : d < 16 := by omega
  refine ray_bt hb hd (stt w g f) (fun q hq => stt_at f hd hq) ho me b hb32 _ _ ?_ h3
  rw [stt_at f hd hq]
  by_cases c : q < w * g
  · rw [if_pos c]
    rcases ent_case hb c hd with ⟨e, -⟩ | ⟨m, e1, e2, -⟩
    · rw [e]; exact Or.inl p_m1
    · exact Or.inr ⟨m, e1, e2⟩
  · rw [if_neg c]; exact Or.inl p_m1
/-! who may hop where -/
/-- squares open to man i: reached and free; by turns (law 1) only if it is his turn t -/
def opn (T : Nat → Int32) (n : Nat) (kd co : Nat → Nat) (P : Nat → Nat) (ho lw : Int32) (i t : Nat) : Int32 := if lw = 1 ∧ ¬ co i = t then 0 else rcm T n kd P ho i &&& (tkn P n ^^^ (-1))
def mvP (P : Nat → Nat) (i s : Nat) : Nat → Nat := fun j => if j = i then s else P j
/-- whether a position may stand -/
def stnd (T : Nat → Int32) (n : Nat) (kd co : Nat → Nat) (P : Nat → Nat) (ho lw : Int32) : Bool := !decide (lw = 2) || decide (atk T n kd co P ho = 0)
/-- squares to which man i may hop -/
def mayI (T : Nat → Int32) (n : Nat) (kd co : Nat → Nat) (P : Nat → Nat) (ho lw : Int32) (i t : Nat) : Int32 := orf (fun s => if bt (opn T n kd co P ho lw i t) s = true ∧ stnd T n kd co (mvP P i s) ho lw = true then sg (nI s) else 0) 12
theorem pu_openTo (N : Nat) (hN : 20 ≤ N) (h : Hp) {n : Nat} {kd co : Nat → Nat} (hB : BC h n kd co) {p ho hops : Int32} {P : Nat → Nat} (hp : PC p n P) (hT : Tok (h.1 11)) {i t : Nat} (hi : i < n) (ht : hops &&& 1 = nI t) (ht2 : t < 2) : f_X1_openTo N (nI i) p hops ho h = some (opn (h.1 11) n kd co P ho (h.1 1 3) i t, h) := by
  have hn4 := hB.2.1
  obtain ⟨b1, b2, b3, b4⟩ := hB.2.2 i hi
  have body : f_X1_openTo_b39 N (nI i) p ho h = some (rcm (h.1 11) n kd P ho i &&& (tkn P n ^^^ (-1)), h) := by
    unfold f_X1_openTo_b39
    rw [pu_taken 1 N (by omega) h hB.1 hB.2.1 hp, p_cl, p_lt, if_pos (p_ib (by omega) (by omega)), p_placeOf, p_cl, p_ix (by omega), b1, (hp.2 i hi).1, pu_reached N hN (kd i) (P i) b2 (hp.2 i hi).2 ho _ h hT, p_cl]
    rfl
  unfold f_X1_openTo opn
  rw [if_neg (nI_pos (by omega)), if_pos (show nI i < 4 from nI_lt (b := 4) (by omega) (by omega))]
  by_cases c1 : h.1 1 3 = 1
  · rw [if_pos c1, if_pos (p_ib (by omega) (by omega)), p_ix (by omega), b3, ht]
    by_cases c2 : co i = t
    · rw [if_pos (by rw [c2]), body, if_neg (fun z => z.2 c2)]
    · rw [if_neg (by rw [nI_eq (by omega) (by omega)]; exact c2), if_pos ⟨c1, c2⟩]
  · rw [if_neg c1, body, if_neg (fun z => c1 z.1)]
theorem pu_mayStand (N : Nat) (hN : 20 ≤ N) (h : Hp) {n : Nat} {kd co : Nat → Nat} (hB : BC h n kd co) {p ho : Int32} {P : Nat → Nat} (hp : PC p n P) (hT : Tok (h.1 11)) : f_X1_mayStand N p ho h = some (if stnd (h.1 11) n kd co P ho (h.1 1 3) = true then 1 else 0, h) := by
  unfold f_X1_mayStand f_X1_mayStand_b20 f_X1_mayStand_b25 stnd
  by_cases c1 : h.1 1 3 = 2
  · rw [if_pos c1, pu_attacked N hN h hB hp hT, p_cl]
    by_cases c2 : atk (h.1 11) n kd co P ho = 0
    · rw [if_pos c2, if_pos (by decide), if_pos (by simp [c2])]
    · rw [if_neg c2, if_pos (by decide), if_neg (by simp [c1, c2])]
  · rw [if_neg c1, if_pos (by decide), if_pos (by simp [c1])]
theorem pu_allowed_l (N : Nat) (hN : 20 ≤ N) (h : Hp) {n : Nat} {kd co : Nat → Nat} (hB : BC h n kd co) {p ho op : Int32} {P : Nat → Nat} (hp : PC p n P) (hT : Tok (h.1 11)) {i : Nat} (hi : i < n) : ∀ (m s : Nat), s ≤ 12 → 12 - s < m → f_X1_allowed_l17 N m (nI i) p ho op (orf (fun s => if bt op s = true ∧ stnd (h.1 11) n kd co (mvP P i s) ho (h.1 1 3) = true then sg (nI s) else 0) s) (nI s) h = some (orf (fun s => if bt op s = true ∧ stnd (h.1 11) n kd co (mvP P i s) ho (h.1 1 3) = true then sg (nI s) else 0) 12, h) := by
  have hn4 := hB.2.1
  intro m
  induction m with
  | zero => intro s _ h2; omega
  | succ m ih =>
    intro s hs hm
    show f_X1_allowed_b17 N (f_X1_allowed_l17 N m) (nI i) p ho op _ (nI s) h = _
    unfold f_X1_allowed_b17 f_X1_allowed_b60
    by_cases hc : 12 ≤ s
    · have e : s = 12 := by omega
      subst e
      rw [if_pos (show (12 : Int32) ≤ nI 12 by decide)]
    · rw [if_neg (show ¬ (12 : Int32) ≤ nI s from nI_ge (a := s) (b := 12) (by omega) (by omega)), p_bit, p_cl]
      have step := ih (s + 1) (by omega) (by omega)
      by_cases c1 : bi op (nI s) = 1
      · have c1' := (bi_1 (by omega)).mp c1
        have hst : f_X1_mayStand N (mvd p i (nI s)) ho h = some (if stnd (h.1 11) n kd co (mvP P i s) ho (h.1 1 3) = true then 1 else 0, h) := pu_mayStand N hN h hB (PC_mvd hp hn4 hi (by omega)) hT
        rw [if_pos c1, p_moved, p_cl, hst, p_cl]
        by_cases c2 : stnd (h.1 11) n kd co (mvP P i s) ho (h.1 1 3) = true
        · rw [if_pos c2, if_neg (by decide), p_lt, p_lt, nI_1, ← step]
          congr 1
          show _ = orf _ s ||| _
          dsimp only
          rw [if_pos ⟨c1', c2⟩]
          rfl
        · rw [if_neg c2, if_pos rfl, p_lt, nI_1, ← step]
          congr 1
          show _ = orf _ s ||| _
          dsimp only
          rw [if_neg (fun z => c2 z.2), or_0]
      · rw [if_neg c1, p_lt, nI_1, ← step]
        congr 1
        show _ = orf _ s ||| _
        dsimp only
        rw [if_neg (fun z => c1 ((bi_1 (by omega)).mpr z.1)), or_0]
theorem pu_allowed (N : Nat) (hN : 20 ≤ N) (h : Hp) {n : Nat} {kd co : Nat → Nat} (hB : BC h n kd co) {p ho hops : Int32} {P : Nat → Nat} (hp : PC p n P) (hT : Tok (h.1 11)) {i t : Nat} (hi : i < n) (ht : hops &&& 1 = nI t) (ht2 : t < 2) : f_X1_allowed N (nI i) p hops ho h = some (mayI (h.1 11) n kd co P ho (h.1 1 3) i t, h) := by
  unfold f_X1_allowed
  rw [pu_openTo N hN h hB hp hT hi ht ht2, p_cl, p_lt, p_lt, p_lt]
  exact pu_allowed_l N hN h hB hp hT hi N 0 (by omega) (by omega)
/-- the model's mayOf: by SAFE it moves the man and puts him back -/
theorem wr_wr (h : Hp) (o k : Nat) (v v' : Int32) : wr (wr h o k v) o k v' = wr h o k v' := by
  apply h_ext
  · intro a b
    rw [p_wr, p_wr, p_wr]
    by_cases ha : a = o
    · by_cases hb : b = k <;> simp [ha, hb]
    · simp [ha]
  · rfl
theorem wr_same (h : Hp) (o k : Nat) : wr h o k (h.1 o k) = h := by
  apply h_ext
  · intro a b
    rw [p_wr]
    by_cases ha : a = o
    · by_cases hb : b = k <;> simp [ha, hb]
    · simp [ha]
  · rfl
theorem BM_wr {h : Hp} {n : Nat} {kd co : Nat → Nat} (hB : BM h n kd co) {o : Nat} (k : Nat) (v : Int32) (h1 : o ≠ 25) (h2 : o ≠ 26) : BM (wr h o k v) n kd co := by
  unfold BM
  rw [p_wro h o k v (Ne.symm h1), p_wro h o k v (Ne.symm h2)]
  exact hB
theorem MB_wr {h : Hp} {w g : Nat} (hB : MB h w g) {o : Nat} (k : Nat) (v : Int32) (h1 : o ≠ 25) : MB (wr h o k v) w g := by
  unfold MB
  rw [p_wro h o k v (Ne.symm h1)]
  exact hB
theorem pm_may_l (w9 N : Nat) (hw9 : w9 ≠ 25) (hw96 : w9 ≠ 26) (hN : 20 ≤ N) (h : Hp) {w g : Nat} (hM : MB h w g) (f : Nat → Int32) {n : Nat} {kd co : Nat → Nat} (hB : BM h n kd co) (op : Int32) {P : Nat → Nat} (hp : ∀ i, i < n → h.1 w9 i = nI (P i) ∧ P i < w * g) {i : Nat} (hi : i < n) : ∀ (m s : Nat) (v : Int32), s ≤ w * g → w * g - s < m → f_X8_mayOf_l77 w9 N m (nI i) op (nI (P i)) (orf (fun s => if bt op s = true ∧ atk (stt w g f) n kd co (mvP P i s) (h.1 25 2) = 0 then sg (nI s) else 0) s) (nI s) (wr h w9 i v) = some (orf (fun s => if bt op s = true ∧ atk (stt w g f) n kd co (mvP P i s) (h.1 25 2) = 0 then sg (nI s) else 0) (w * g), h) := by
  have hn4 := hB.2.1
  obtain ⟨hb, e0, e1⟩ := id hM
  have h12 := hb.2.2.2.2
  intro m
  induction m with
  | zero => intro s _ _ h2; omega
  | succ m ih =>
    intro s v hs hm
    show f_X8_mayOf_b77 w9 N (f_X8_mayOf_l77 w9 N m) (nI i) op (nI (P i)) _ (nI s) (wr h w9 i v) = _
    unfold f_X8_mayOf_b77 f_X8_mayOf_b124 f_X8_mayOf_b127
    have f0 : (wr h w9 i v).1 25 0 = nI w := by rw [p_wro h w9 i v (Ne.symm hw9)]; exact e0
    have f1 : (wr h w9 i v).1 25 1 = nI g := by rw [p_wro h w9 i v (Ne.symm hw9)]; exact e1
    rw [f0, f1, pk_mul]
    by_cases hc : w * g ≤ s
    · have e : s = w * g := by omega
      subst e
      rw [if_pos (nI_le (Nat.le_refl _) (by omega)), if_pos (p_ib (by omega) (by omega)), p_lt, p_ix (by omega), wr_wr, ← (hp i hi).1, wr_same]
    · rw [if_neg (nI_ge (by omega) (by omega)), pm_has, p_cl]
      by_cases c1 : bi op (nI s) = 1
      · have c1' := (bi_1 (by omega)).mp c1
        rw [if_pos c1, if_neg (by decide), if_pos (p_ib (by omega) (by omega)), p_lt, p_ix (by omega), wr_wr]
        have hat := pm_attacked w9 N hN (wr h w9 i (nI s)) (MB_wr hM i (nI s) hw9) f (BM_wr hB i (nI s) hw9 hw96) (P := mvP P i s) (fun j hj => by
          unfold mvP
          by_cases hji : j = i
          · subst hji; rw [p_wrs, if_pos rfl]; exact ⟨rfl, by omega⟩
          · rw [p_wrk _ _ _ _ hji, if_neg hji]; exact hp j hj)
        rw [hat, p_cl, p_wro h w9 i (nI s) (Ne.symm hw9)]
        have step := ih (s + 1) (nI s) (by omega) (by omega)
        by_cases c2 : atk (stt w g f) n kd co (mvP P i s) (h.1 25 2) = 0
        · rw [if_pos c2, p_lt, p_lt, nI_1, ← step]
          congr 1
          show _ = orf _ s ||| _
          dsimp only
          rw [if_pos ⟨c1', c2⟩]
          rfl
        · rw [if_neg c2, p_lt, p_lt, nI_1, ← step]
          congr 1
          show _ = orf _ s ||| _
          dsimp only
          rw [if_neg (fun z => c2 z.2)]
      · rw [if_neg c1, if_pos rfl, p_lt, nI_1]
        have step := ih (s + 1) v (by omega) (by omega)
        rw [← step]
        congr 1
        show _ = orf _ s ||| _
        dsimp only
        rw [if_neg (fun z => c1 ((bi_1 (by omega)).mpr z.1)), or_0]
theorem opn_bt {w g n : Nat} (hb : bd w g) (f : Nat → Int32) {kd co : Nat → Nat} {P : Nat → Nat} {i : Nat} (hk : kd i < 4) (hq : P i < 12) (ho lw : Int32) (t : Nat) {b : Nat} (hb32 : b < 32) (h : bt (opn (stt w g f) n kd co P ho lw i t) b = true) : b < w * g := by
  unfold opn at h
  split at h
  · rw [b_0] at h; cases h
  · rw [b_and, Bool.and_eq_true] at h
    exact rch_bt hb hk hq f ho _ hb32 h.1
theorem orf_trim {f : Nat → Int32} {a b : Nat} (hab : a ≤ b) (h : ∀ i, a ≤ i → i < b → f i = 0) : orf f b = orf f a := by
  obtain ⟨c, rfl⟩ : ∃ c, b = a + c := ⟨b - a, by omega⟩
  clear hab
  induction c with
  | zero => rfl
  | succ c ih =>
    show orf f (a + c) ||| f (a + c) = _
    rw [h (a + c) (by omega) (by omega), or_0]
    exact ih (fun i h1 h2 => h i h1 (by omega))
theorem pm_mayOf (w9 N : Nat) (hw9 : w9 ≠ 25) (hw96 : w9 ≠ 26) (hN : 20 ≤ N) (h : Hp) {w g : Nat} (hM : MB h w g) (f : Nat → Int32) {n : Nat} {kd co : Nat → Nat} (hB : BM h n kd co) {P : Nat → Nat} (hp : ∀ i, i < n → h.1 w9 i = nI (P i) ∧ P i < w * g) {i t : Nat} (hi : i < n) (ht2 : t < 2) : f_X8_mayOf w9 N (nI i) (nI t) h = some (mayI (stt w g f) n kd co P (h.1 25 2) (h.1 25 3) i t, h) := by
  have hn4 := hB.2.1
  obtain ⟨hb, e0, e1⟩ := id hM
  have h12 := hb.2.2.2.2
  obtain ⟨a1, a2, a3, a4⟩ := hB.2.2 i hi
  have hP := hp i hi
  have free : ∀ op : Int32, (∀ b, b < 32 → bt op b = true → b < w * g) → ¬ h.1 25 3 = 2 → op = orf (fun s => if bt op s = true ∧ stnd (stt w g f) n kd co (mvP P i s) (h.1 25 2) (h.1 25 3) = true then sg (nI s) else 0) 12 := by
    intro op h1 h2
    apply bt_iff
    intro b hb32
    rw [orf_bt]
    constructor
    · intro hx
      have hbw := h1 b hb32 hx
      refine ⟨b, by omega, ?_⟩
      rw [if_pos ⟨hx, by simp [stnd, h2]⟩, sg_bt hb32 hb32]
      simp
    · rintro ⟨s, hs, h3⟩
      split at h3
      · rename_i c
        rw [sg_bt (by omega) hb32] at h3
        have e := of_decide_eq_true h3
        rw [e]; exact c.1
      · rw [b_0] at h3; cases h3
  have body : ∀ lwt : ¬ (h.1 25 3 = 1 ∧ ¬ co i = t), f_X8_mayOf_b24 w9 N (nI i) h = some (mayI (stt w g f) n kd co P (h.1 25 2) (h.1 25 3) i t, h) := by
    intro lwt
    have eop : opn (stt w g f) n kd co P (h.1 25 2) (h.1 25 3) i t = rcm (stt w g f) n kd P (h.1 25 2) i &&& (tkn P n ^^^ (-1)) := by unfold opn; rw [if_neg lwt]
    unfold f_X8_mayOf_b24
    rw [pm_taken w9 N (by omega) h hB.1 hB.2.1 (fun i hi => (hp i hi).1), p_cl, p_lt, p_4x, if_pos (p_ib (by omega) (by omega)), if_pos (p_ib (by omega) (by omega)), p_ix (by omega), p_ix (by omega), a1, hP.1, pm_reachOf N hb (by omega) hP.2 _ h e0 e1 a2 f, p_cl, p_lt]
    show (if h.1 25 3 = 2 then _ else some (rcm (stt w g f) n kd P (h.1 25 2) i &&& (tkn P n ^^^ (-1)), h)) = _
    by_cases c : h.1 25 3 = 2
    · rw [if_pos c, if_pos (p_ib (by omega) (by omega)), p_lt, p_lt, p_lt, hP.1]
      have e := pm_may_l w9 N hw9 hw96 hN h hM f hB (rcm (stt w g f) n kd P (h.1 25 2) i &&& (tkn P n ^^^ (-1))) hp hi N 0 (nI (P i)) (by omega) (by omega)
      rw [← hP.1, wr_same] at e
      rw [hP.1] at e
      refine Eq.trans e ?_
      congr 2
      unfold mayI
      rw [eop]
      rw [orf_trim (a := w * g) (b := 12) h12]
      · apply orf_congr
        intro s _
        by_cases c3 : atk (stt w g f) n kd co (mvP P i s) (h.1 25 2) = 0
        · simp [stnd, c, c3]
        · simp [stnd, c, c3]
      · intro s h1 h2
        rw [if_neg]
        rintro ⟨c4, -⟩
        rw [← eop] at c4
        have := opn_bt hb f a2 (by omega) (h.1 25 2) (h.1 25 3) t (by omega) c4
        omega
    · rw [if_neg c]
      congr 2
      unfold mayI
      rw [← eop]
      exact free _ (fun b hb32 hx => opn_bt hb f a2 (by omega) (h.1 25 2) (h.1 25 3) t hb32 hx) c
  unfold f_X8_mayOf
  by_cases c1 : h.1 25 3 = 1
  · rw [if_pos c1, p_4x1, if_pos (p_ib (by omega) (by omega)), p_ix (by omega), a3]
    by_cases c2 : co i = t
    · rw [if_pos (by rw [c2])]
      exact body (fun z => z.2 c2)
    · rw [if_neg (by rw [nI_eq (by omega) (by omega)]; exact c2)]
      congr 2
      unfold mayI
      have eop : opn (stt w g f) n kd co P (h.1 25 2) (h.1 25 3) i t = 0 := by unfold opn; rw [if_pos ⟨c1, c2⟩]
      rw [eop]
      have e2 := free 0 (fun b _ hx => by rw [b_0] at hx; cases hx) (by rw [c1]; decide)
      exact e2
  · rw [if_neg c1]
    exact body (fun z => c1 z.1)
