/-! ===== the grid: lay, reached ===== -/
theorem h_ext {h1 h2 : Hp} (e1 : ∀ a b, h1.1 a b = h2.1 a b) (e2 : h1.2 = h2.2) : h1 = h2 := Prod.ext (funext fun a => funext fun b => e1 a b) e2
theorem wrow_id (h : Hp) (o : Nat) : wrow h o (h.1 o) = h := h_ext (fun a b => by rw [p_wrow]; by_cases ha : a = o <;> simp [ha]) rfl
theorem wrow_wrow (h : Hp) (o : Nat) (f g : Nat → Int32) : wrow (wrow h o f) o g = wrow h o g := h_ext (fun a b => by rw [p_wrow, p_wrow, p_wrow]; by_cases ha : a = o <;> simp [ha]) rfl
theorem wrow_wr (h : Hp) (o k : Nat) (v : Int32) (g : Nat → Int32) : wrow (wr h o k v) o g = wrow h o g := wrow_wrow h o _ g
theorem wr_wrow (h : Hp) (o k : Nat) (v : Int32) (f : Nat → Int32) : wr (wrow h o f) o k v = wrow h o (upd f k v) := by
  show wrow (wrow h o f) o (upd ((wrow h o f).1 o) k v) = _
  rw [wrow_wrow, p_wrows]
theorem pu_fill11 (N : Nat) (v : Int32) : ∀ (m i : Nat) (h : Hp), i ≤ 192 → 192 - i < m → f_J7_fill_53178_11_l5 N m v (nI i) 192 h = some (0, wrow h 11 (fun j => if i ≤ j ∧ j < 192 then v else h.1 11 j)) := by
  intro m
  induction m with
  | zero => intro i h _ h2; omega
  | succ m ih =>
    intro i h hi hm
    show f_J7_fill_53178_11_b5 N (f_J7_fill_53178_11_l5 N m) v (nI i) (nI 192) h = _
    unfold f_J7_fill_53178_11_b5
    by_cases hc : 192 ≤ i
    · rw [if_pos (nI_le hc (by omega))]
      congr 2
      rw [show (fun j => if i ≤ j ∧ j < 192 then v else h.1 11 j) = h.1 11 from funext fun j => if_neg (by omega), wrow_id]
    · rw [if_neg (nI_ge (by omega) (by omega)), if_pos (p_ib (by omega) (by omega)), p_lt, p_lt, p_ix (by omega), nI_1]
      rw [show (nI 192) = (192 : Int32) from rfl, ih (i + 1) _ (by omega) (by omega), wrow_wr]
      congr 3
      funext j
      by_cases hj : j = i
      · subst hj; rw [p_wrs, if_pos (show j ≤ j ∧ j < 192 by omega), if_neg (by omega)]
      · rw [p_wrk _ _ _ _ hj]
        by_cases h1 : i ≤ j ∧ j < 192
        · rw [if_pos h1, if_pos (by omega)]
        · rw [if_neg h1, if_neg (by omega)]
theorem pu_fill16 (N : Nat) (v : Int32) : ∀ (m i : Nat) (h : Hp), i ≤ 4096 → 4096 - i < m → f_J7_fill_53178_16_l5 N m v (nI i) 4096 h = some (0, wrow h 16 (fun j => if i ≤ j ∧ j < 4096 then v else h.1 16 j)) := by
  intro m
  induction m with
  | zero => intro i h _ h2; omega
  | succ m ih =>
    intro i h hi hm
    show f_J7_fill_53178_16_b5 N (f_J7_fill_53178_16_l5 N m) v (nI i) (nI 4096) h = _
    unfold f_J7_fill_53178_16_b5
    by_cases hc : 4096 ≤ i
    · rw [if_pos (nI_le hc (by omega))]
      congr 2
      rw [show (fun j => if i ≤ j ∧ j < 4096 then v else h.1 16 j) = h.1 16 from funext fun j => if_neg (by omega), wrow_id]
    · rw [if_neg (nI_ge (by omega) (by omega)), if_pos (p_ib (by omega) (by omega)), p_lt, p_lt, p_ix (by omega), nI_1]
      rw [show (nI 4096) = (4096 : Int32) from rfl, ih (i + 1) _ (by omega) (by omega), wrow_wr]
      congr 3
      funext j
      by_cases hj : j = i
      · subst hj; rw [p_wrs, if_pos (show j ≤ j ∧ j < 4096 by omega), if_neg (by omega)]
      · rw [p_wrk _ _ _ _ hj]
        by_cases h1 : i ≤ j ∧ j < 4096
        · rw [if_pos h1, if_pos (by omega)]
        · rw [if_neg h1, if_neg (by omega)]
/-- the entry of the steps' table: where a step of direction d leads from square q, or -1 -/
def ent (w g q d : Nat) : Int32 :=
  if (nI q - nI q / nI w * nI w) + tb 2 d < 0 then -1 else if nI w ≤ (nI q - nI q / nI w * nI w) + tb 2 d then -1 else if nI q / nI w + tb 3 d < 0 then -1 else if nI g ≤ nI q / nI w + tb 3 d then -1 else (nI q / nI w + tb 3 d) * nI w + ((nI q - nI q / nI w * nI w) + tb 2 d)
/-- the table when squares below q are laid, and of q the directions below d -/
def gtab (w g q d : Nat) (f : Nat → Int32) : Nat → Int32 := fun j => if j < 192 then (if j % 12 < q ∨ (j % 12 = q ∧ j / 12 < d) then ent w g (j % 12) (j / 12) else -1) else f j
theorem gtab_step {w g q d : Nat} (f : Nat → Int32) (hq : q < 12) (hd : d < 16) : upd (gtab w g q d f) (d * 12 + q) (ent w g q d) = gtab w g q (d + 1) f := by
  funext j
  show (if j = d * 12 + q then ent w g q d else gtab w g q d f j) = _
  by_cases hj : j = d * 12 + q
  · subst hj
    rw [if_pos rfl]
    unfold gtab
    rw [if_pos (by omega), if_pos (by right; omega), show (d * 12 + q) % 12 = q by omega, show (d * 12 + q) / 12 = d by omega]
  · rw [if_neg hj]
    unfold gtab
    by_cases h1 : j < 192
    · rw [if_pos h1, if_pos h1]
      by_cases h2 : j % 12 < q ∨ (j % 12 = q ∧ j / 12 < d)
      · rw [if_pos h2, if_pos (by omega)]
      · rw [if_neg h2, if_neg (by omega)]
    · rw [if_neg h1, if_neg h1]
theorem gtab_skip {w g q d : Nat} (f : Nat → Int32) (hq : q < 12) (hd : d < 16) (he : ent w g q d = -1) : gtab w g q d f = gtab w g q (d + 1) f := by
  rw [← gtab_step f hq hd, he]
  funext j
  show _ = (if j = d * 12 + q then (-1 : Int32) else gtab w g q d f j)
  by_cases hj : j = d * 12 + q
  · subst hj
    rw [if_pos rfl]
    unfold gtab
    rw [if_pos (by omega), if_neg (by omega)]
  · rw [if_neg hj]
theorem gtab_next {w g q : Nat} (f : Nat → Int32) : gtab w g q 16 f = gtab w g (q + 1) 0 f := by
  funext j
  unfold gtab
  by_cases h1 : j < 192
  · rw [if_pos h1, if_pos h1]
    by_cases h2 : j % 12 < q ∨ (j % 12 = q ∧ j / 12 < 16)
    · rw [if_pos h2, if_pos (by omega)]
    · rw [if_neg h2, if_neg (by omega)]
  · rw [if_neg h1, if_neg h1]
theorem pu_lay_in (N : Nat) (k16 : Int32 → Int32 → Int32 → Hp → Option Rs) (w g q : Nat) (hw : 0 < w) (hw4 : w ≤ 4) (hq : q < 12) (f : Nat → Int32) (h : Hp) : ∀ (m d : Nat), d ≤ 16 → 16 - d < m → f_X0_lay_l32 N k16 m (nI w) (nI g) (nI q) (nI d) (wrow h 11 (gtab w g q d f)) = k16 (nI w) (nI g) (nI (q + 1)) (wrow h 11 (gtab w g (q + 1) 0 f)) := by
  intro m
  induction m with
  | zero => intro d _ h2; omega
  | succ m ih =>
    intro d hd hm
    show f_X0_lay_b32 N k16 (f_X0_lay_l32 N k16 m) (nI w) (nI g) (nI q) (nI d) _ = _
    unfold f_X0_lay_b32
    by_cases hc : 16 ≤ d
    · have e : d = 16 := by omega
      subst e
      rw [if_pos (show (16 : Int32) ≤ nI 16 by decide), p_lt, nI_1, gtab_next]
    · have hw0 : ¬ nI w = 0 := nI_ne0 hw (by omega)
      have key : ∀ s0 : Int32, (s0 = 0 → ent w g q d = -1) → (¬ s0 = 0 → ent w g q d = (nI q / nI w + tb 3 d) * nI w + ((nI q - nI q / nI w * nI w) + tb 2 d)) → f_X0_lay_b90 N k16 (f_X0_lay_l32 N k16 m) (nI w) (nI g) (nI q) (nI d) ((nI q - nI q / nI w * nI w) + tb 2 d) (nI q / nI w + tb 3 d) s0 (wrow h 11 (gtab w g q d f)) = k16 (nI w) (nI g) (nI (q + 1)) (wrow h 11 (gtab w g (q + 1) 0 f)) := by
        intro s0 h1 h2
        unfold f_X0_lay_b90 f_X0_lay_b116
        rw [p_lt]
        by_cases hs : s0 = 0
        · rw [if_pos hs, p_lt, nI_1, gtab_skip f hq (by omega) (h1 hs)]
          exact ih (d + 1) (by omega) (by omega)
        · rw [if_neg hs, show (12 : Int32) = nI 12 from rfl, pk_mul, nI_add, if_pos (p_ib (by omega) (by omega)), p_lt, p_lt, nI_1, p_ix (by omega), ← h2 hs, wr_wrow, gtab_step f hq (by omega)]
          exact ih (d + 1) (by omega) (by omega)
      rw [if_neg (show ¬ (16 : Int32) ≤ nI d from nI_ge (a := d) (b := 16) (by omega) (by omega)), if_pos hw0, if_pos (p_ib (by omega) (by omega)), p_lt, if_pos hw0, if_pos (p_ib (by omega) (by omega)), p_lt, p_ix (by omega)]
      unfold f_X0_lay_b89
      by_cases c1 : (nI q - nI q / nI w * nI w) + tb 2 d < 0
      · rw [if_pos c1]; exact key 0 (fun _ => by unfold ent; rw [if_pos c1]) (fun z => absurd rfl z)
      · rw [if_neg c1]
        by_cases c2 : nI w ≤ (nI q - nI q / nI w * nI w) + tb 2 d
        · rw [if_pos c2]; exact key 0 (fun _ => by unfold ent; rw [if_neg c1, if_pos c2]) (fun z => absurd rfl z)
        · rw [if_neg c2]
          by_cases c3 : nI q / nI w + tb 3 d < 0
          · rw [if_pos c3]; exact key 0 (fun _ => by unfold ent; rw [if_neg c1, if_neg c2, if_pos c3]) (fun z => absurd rfl z)
          · rw [if_neg c3]
            by_cases c4 : nI g ≤ nI q / nI w + tb 3 d
            · rw [if_pos c4]; exact key 0 (fun _ => by unfold ent; rw [if_neg c1, if_neg c2, if_neg c3, if_pos c4]) (fun z => absurd rfl z)
            · rw [if_neg c4]; exact key 1 (fun z => absurd z (by decide)) (fun _ => by unfold ent; rw [if_neg c1, if_neg c2, if_neg c3, if_neg c4])
theorem pu_lay_out (N : Nat) (hN : 17 ≤ N) (w g : Nat) (hw : 0 < w) (hw4 : w ≤ 4) (hg : g ≤ 4) (hs : w * g ≤ 12) (f : Nat → Int32) (h : Hp) : ∀ (m q : Nat), q ≤ w * g → w * g - q < m → f_X0_lay_l16 N m (nI w) (nI g) (nI q) (wrow h 11 (gtab w g q 0 f)) = some (0, wrow h 11 (gtab w g (w * g) 0 f)) := by
  intro m
  induction m with
  | zero => intro q _ h2; omega
  | succ m ih =>
    intro q hq hm
    show f_X0_lay_b16 N (f_X0_lay_l16 N m) (nI w) (nI g) (nI q) _ = _
    unfold f_X0_lay_b16 f_X0_lay_b128
    rw [pk_mul]
    by_cases hc : w * g ≤ q
    · have e : q = w * g := by omega
      subst e
      rw [if_pos (nI_le (Nat.le_refl _) (by omega))]
    · rw [if_neg (nI_ge (by omega) (by omega)), if_neg (show ¬ (12 : Int32) ≤ nI q from nI_ge (a := q) (b := 12) (by omega) (by omega)), p_lt]
      rw [show (0 : Int32) = nI 0 from rfl, pu_lay_in N _ w g q hw hw4 (by omega) f h N 0 (by omega) (by omega)]
      exact ih (q + 1) (by omega) (by omega)
/-- the whole table of a board -/
def stt (w g : Nat) (f : Nat → Int32) : Nat → Int32 := gtab w g (w * g) 0 f
theorem pu_lay (N : Nat) (hN : 200 ≤ N) (w g : Nat) (hw : 0 < w) (hw4 : w ≤ 4) (hg : g ≤ 4) (hs : w * g ≤ 12) (h : Hp) : f_X0_lay N (nI w) (nI g) h = some (0, wrow h 11 (stt w g (h.1 11))) := by
  unfold f_X0_lay f_J7_fill_53178_11
  rw [p_lt, p_lt, show (0 : Int32) = nI 0 from rfl, pu_fill11 N (-1) N 0 h (by omega) (by omega), p_cl, if_pos (show (1 : Int32) ≤ nI w from nI_le (a := 1) (by omega) (by omega)), p_lt]
  have e : (fun j => if 0 ≤ j ∧ j < 192 then (-1 : Int32) else h.1 11 j) = gtab w g 0 0 (h.1 11) := by
    funext j
    unfold gtab
    by_cases hj : j < 192
    · rw [if_pos (by omega), if_pos hj, if_neg (by omega)]
    · rw [if_neg (by omega), if_neg hj]
  rw [e]
  exact pu_lay_out N (by omega) w g hw hw4 hg hs (h.1 11) h N 0 (by omega) (by omega)
/-! reached: the rays -/
def ray (S : Int32 → Int32) (ho me : Int32) : Nat → Int32 → Int32
  | 0, _ => 0
  | n + 1, a => if a < 0 then 0 else if bi ho a = 0 then sg a ||| ray S ho me n (if bi me a = 1 then -1 else S a) else 0
def ok12 (a : Int32) : Prop := a < 0 ∨ ∃ j, j < 12 ∧ a = nI j
theorem or_a (x y z : Int32) : (x ||| y) ||| z = x ||| (y ||| z) := Int32.or_assoc x y z
theorem or_0 (x : Int32) : x ||| 0 = x := by apply b_ext; intro i _; rw [b_or, b_0]; simp
theorem z_or (x : Int32) : 0 ||| x = x := by apply b_ext; intro i _; rw [b_or, b_0]; simp
def msn (k : Nat) : Nat := if k < 2 then 1 else 3
theorem msn_tb : ∀ k, k < 4 → tb 6 k = nI (msn k) := by decide +kernel
/-- the table's row of direction d, as a function of the square -/
def Sd (T : Nat → Int32) (d : Nat) (a : Int32) : Int32 := T (ix (nI (d * 12) + a))
def Tok (T : Nat → Int32) : Prop := ∀ d, d < 16 → ∀ q, q < 12 → ok12 (T (d * 12 + q))
theorem Sd_at (T : Nat → Int32) {d j : Nat} (hd : d < 16) (hj : j < 12) : Sd T d (nI j) = T (d * 12 + j) := by
  unfold Sd; rw [nI_add, p_ix (by omega)]
theorem pu_ray (N : Nat) (k29 : Int32 → Int32 → Int32 → Int32 → Int32 → Int32 → Hp → Option Rs) (k d : Nat) (hk : k < 4) (hd : d < 16) (sq ho me : Int32) (h : Hp) (hT : Tok (h.1 11)) : ∀ (m c : Nat) (bits a : Int32), c ≤ msn k → msn k - c < m → ok12 a → f_X0_reached_l60 N k29 m (nI k) sq ho me bits (nI d) (nI (d * 12)) a (nI c) h = k29 (nI k) sq ho me (bits ||| ray (Sd (h.1 11) d) ho me (msn k - c) a) (nI (d + 1)) h := by
  intro m
  have hms : msn k ≤ 3 := by unfold msn; split <;> omega
  induction m with
  | zero => intro c _ _ _ h2; omega
  | succ m ih =>
    intro c bits a hc hm ha
    show f_X0_reached_b60 N k29 (f_X0_reached_l60 N k29 m) (nI k) sq ho me bits (nI d) (nI (d * 12)) a (nI c) h = _
    unfold f_X0_reached_b60 f_X0_reached_b126
    rw [if_pos (p_ib (by omega) (by omega)), p_ix (by omega), msn_tb k hk, p_lt, nI_1]
    by_cases h1 : msn k ≤ c
    · rw [if_pos (nI_le h1 (by omega)), show msn k - c = 0 by omega, show ray (Sd (h.1 11) d) ho me 0 a = 0 from rfl, or_0]
    · rw [if_neg (nI_ge (by omega) (by omega))]
      obtain ⟨r, hr⟩ : ∃ r, msn k - c = r + 1 := ⟨msn k - c - 1, by omega⟩
      rw [hr]
      show _ = k29 _ _ _ _ (bits ||| (if a < 0 then 0 else if bi ho a = 0 then sg a ||| ray (Sd (h.1 11) d) ho me r (if bi me a = 1 then -1 else Sd (h.1 11) d a) else 0)) _ _
      by_cases h2 : a < 0
      · rw [if_pos h2, if_pos h2, or_0]
      · rw [if_neg h2, if_neg h2, p_bit, p_cl]
        obtain ⟨j, hj, rfl⟩ : ∃ j, j < 12 ∧ a = nI j := by
          rcases ha with q | q
          · exact absurd q h2
          · exact q
        by_cases h3 : bi ho (nI j) = 0
        · rw [if_pos h3, if_pos h3, p_lt, p_bit, p_cl]
          unfold f_X0_reached_b118
          by_cases h4 : bi me (nI j) = 1
          · rw [if_pos h4, if_pos h4, p_lt, p_lt, nI_1, ih (c + 1) _ _ (by omega) (by omega) (Or.inl p_m1), show msn k - (c + 1) = r by omega]
            show k29 _ _ _ _ ((bits ||| sg (nI j)) ||| _) _ _ = _
            rw [or_a]
          · rw [if_neg h4, if_neg h4, nI_add, if_pos (p_ib (by omega) (by omega)), p_lt, p_lt, nI_1, p_ix (by omega), ← Sd_at (h.1 11) hd hj, ih (c + 1) _ _ (by omega) (by omega) (by rw [Sd_at _ hd hj]; exact hT d hd j hj), show msn k - (c + 1) = r by omega]
            show k29 _ _ _ _ ((bits ||| sg (nI j)) ||| _) _ _ = _
            rw [or_a]
        · rw [if_neg h3, if_neg h3, or_0]
          rfl
def fdn (k : Nat) : Nat := if k = 0 then 0 else if k = 3 then 12 else 8
def bdn (k : Nat) : Nat := if k = 0 then 8 else if k = 2 then 12 else 16
theorem fdn_tb : ∀ k, k < 4 → tb 4 k = nI (fdn k) := by decide +kernel
theorem bdn_tb : ∀ k, k < 4 → tb 5 k = nI (bdn k) := by decide +kernel
theorem fdn_le : ∀ k, k < 4 → fdn k ≤ bdn k := by decide
/-- what is gathered in n directions from d on -/
def gat (f : Nat → Int32) : Nat → Nat → Int32
  | 0, _ => 0
  | n + 1, d => f d ||| gat f n (d + 1)
def ryd (T : Nat → Int32) (k q : Nat) (ho me : Int32) (d : Nat) : Int32 := ray (Sd T d) ho me (msn k) (T (d * 12 + q))
/-- the squares that a man of kind k reaches from q -/
def rch (T : Nat → Int32) (k q : Nat) (ho me : Int32) : Int32 := gat (ryd T k q ho me) (bdn k - fdn k) (fdn k)
theorem pu_rays (N : Nat) (hN : 5 ≤ N) (k q : Nat) (hk : k < 4) (hq : q < 12) (ho me : Int32) (h : Hp) (hT : Tok (h.1 11)) : ∀ (m d : Nat) (bits : Int32), d ≤ bdn k → bdn k - d < m → f_X0_reached_l29 N m (nI k) (nI q) ho me bits (nI d) h = some (bits ||| gat (ryd (h.1 11) k q ho me) (bdn k - d) d, h) := by
  intro m
  have hb : bdn k ≤ 16 := by unfold bdn; split; omega; split <;> omega
  induction m with
  | zero => intro d _ _ h2; omega
  | succ m ih =>
    intro d bits hd hm
    show f_X0_reached_b29 N (f_X0_reached_l29 N m) (nI k) (nI q) ho me bits (nI d) h = _
    unfold f_X0_reached_b29
    rw [if_pos (p_ib (by omega) (by omega)), p_ix (by omega), bdn_tb k hk]
    by_cases h1 : bdn k ≤ d
    · rw [if_pos (nI_le h1 (by omega)), show bdn k - d = 0 by omega, show gat (ryd (h.1 11) k q ho me) 0 d = 0 from rfl, or_0]
    · rw [if_neg (nI_ge (by omega) (by omega)), p_lt, show (12 : Int32) = nI 12 from rfl, pk_mul, nI_add, if_pos (p_ib (by omega) (by omega)), p_lt, p_lt, p_ix (by omega), show (0 : Int32) = nI 0 from rfl, pu_ray N _ k d hk (by omega) (nI q) ho me h hT N 0 bits _ (by omega) (by unfold msn; split <;> omega) (hT d (by omega) q hq), ih (d + 1) _ (by omega) (by omega)]
      obtain ⟨r, hr⟩ : ∃ r, bdn k - d = r + 1 := ⟨bdn k - d - 1, by omega⟩
      rw [hr, show bdn k - (d + 1) = r by omega, Nat.sub_zero, or_a]
      rfl
theorem pu_noKind (N : Nat) (k : Nat) (hk : k < 4) (h : Hp) : f_X7_noKind N (nI k) h = some (0, h) := by
  unfold f_X7_noKind f_X7_noKind_b14
  rw [if_neg (nI_pos (by omega)), if_pos (show nI k ≤ 3 from nI_le (b := 3) (by omega) (by omega)), if_pos (by decide)]
theorem pu_reached (N : Nat) (hN : 20 ≤ N) (k q : Nat) (hk : k < 4) (hq : q < 12) (ho me : Int32) (h : Hp) (hT : Tok (h.1 11)) : f_X0_reached N (nI k) (nI q) ho me h = some (rch (h.1 11) k q ho me, h) := by
  unfold f_X0_reached
  have hb : bdn k ≤ 16 := by unfold bdn; split; omega; split <;> omega
  have hf : fdn k ≤ bdn k := fdn_le k hk
  rw [pu_noKind N k hk h, p_cl, if_pos rfl, if_neg (nI_pos (by omega)), if_pos (show nI q < 12 from nI_lt (b := 12) hq (by omega)), p_lt, if_pos (p_ib (by omega) (by omega)), p_lt, p_ix (by omega), fdn_tb k hk, pu_rays N (by omega) k q hk hq ho me h hT N (fdn k) 0 hf (by omega), z_or]
  rfl
