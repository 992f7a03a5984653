/-! ===== the search: the model ===== -/
def mcX (x : Nd) : Nat := mcN x.sq x.tn
theorem mc_lt {n t : Nat} {l : List Nat} (h : okL n l) (ht : t < 2) : mcN l t < 41472 := by
  have := c12_lt h
  unfold mcN
  omega
def RM (n : Nat) (h : Hp) (Q : List Nd) : Prop := h.1 25 31 = nI Q.length ∧ (∀ j, j < Q.length → h.1 36 j = nI (mcX (Q.getD j d0)) ∧ h.1 35 (mcX (Q.getD j d0)) = nI (Q.getD j d0).dp ∧ (0 < j → h.1 37 (mcX (Q.getD j d0)) = nI (mcX (Q.getD (Q.getD j d0).pa d0)) ∧ h.1 38 (mcX (Q.getD j d0)) = nI (12 * (Q.getD j d0).mn + (Q.getD j d0).ms))) ∧ ∀ l t, okL n l → t < 2 → hasK Q l t = false → h.1 35 (mcN l t) = -1
/-- what layLine leaves alone -/
def MF (h0 h : Hp) : Prop := (∀ c, c ≠ 25 → c < 35 ∨ 39 < c → h.1 c = h0.1 c) ∧ ∀ k, k ≠ 31 → h.1 25 k = h0.1 25 k
theorem cB_drop {b : Nat} {l : List Nat} {i : Nat} (hi : i < l.length) : cB b (l.drop i) = gP l i + b * cB b (l.drop (i + 1)) := by
  rw [List.drop_eq_getElem_cons hi]
  show l[i] + b * _ = _
  unfold gP
  rw [List.getD_eq_getElem?_getD, List.getElem?_eq_getElem hi]
  rfl
theorem cB_drop_lt {n : Nat} {l : List Nat} (h : okL n l) (i : Nat) : cB 12 (l.drop i) < 20736 := by
  have : okL (l.drop i).length (l.drop i) := ⟨rfl, by rw [List.length_drop, h.1]; have := h.2.1; omega, fun a ha => h.2.2 a (List.mem_of_mem_drop ha)⟩
  exact c12_lt this
theorem pm_codeOf_l (w9 N : Nat) (h : Hp) {n : Nat} {l : List Nat} (hl : okL n l) (hr : ∀ i, i < n → h.1 w9 i = nI (gP l i)) {t : Nat} (ht : t < 2) : ∀ (e i : Nat), i ≤ n → i < e → f_X8_codeOf_l10 w9 N e (nI t) (nI (cB 12 (l.drop i))) (nI i - 1) h = some (nI (mcN l (if h.1 25 3 = 1 then t else 0)), h) := by
  have hn4 := hl.2.1
  intro e
  induction e with
  | zero => intro i _ h2; omega
  | succ e ih =>
    intro i hi he
    show f_X8_codeOf_b10 w9 N (f_X8_codeOf_l10 w9 N e) (nI t) _ (nI i - 1) h = _
    unfold f_X8_codeOf_b10 f_X8_codeOf_b49
    rcases i with _ | i
    · rw [if_pos (by decide), List.drop_zero]
      unfold mcN
      by_cases c : h.1 25 3 = 1
      · rw [if_pos c, if_pos c, show (20736 : Int32) = nI 20736 from rfl, pk_mul, nI_add, Nat.mul_comm]
      · rw [if_neg c, if_neg c]
        congr 2
        exact nI_add _ 0
    · have e1 : nI (i + 1) - 1 = nI i := nI_pred i
      rw [e1, if_neg (nI_pos (by omega)), if_pos (p_ib (by omega) (by omega)), p_lt, p_lt, p_ix (by omega), hr i (by omega), show (12 : Int32) = nI 12 from rfl, pk_mul, nI_add, show nI i + (-1) = nI i - 1 from (Int32.sub_eq_add_neg ..).symm, Nat.add_comm, ← cB_drop (by rw [hl.1]; omega)]
      exact ih i (by omega) (by omega)
theorem pm_codeOf (w9 N : Nat) (hN : 20 ≤ N) (h : Hp) {n : Nat} (hn : h.1 25 4 = nI n) {l : List Nat} (hl : okL n l) (hr : ∀ i, i < n → h.1 w9 i = nI (gP l i)) {t : Nat} (ht : t < 2) : f_X8_codeOf w9 N (nI t) h = some (nI (mcN l (if h.1 25 3 = 1 then t else 0)), h) := by
  have hn4 := hl.2.1
  unfold f_X8_codeOf
  rw [p_lt, p_lt, hn]
  have := pm_codeOf_l w9 N h hl hr ht N n (by omega) (by omega)
  rw [show l.drop n = [] by rw [List.drop_eq_nil_iff]; rw [hl.1]; exact Nat.le_refl _] at this
  exact this
theorem pm_place_l (N : Nat) (h : Hp) {n : Nat} (hn : h.1 25 4 = nI n) {l : List Nat} (hl : okL n l) : ∀ (e i : Nat) (h' : Hp), (∀ c, c ≠ 39 → h'.1 c = h.1 c) → (∀ j, j < i → h'.1 39 j = nI (gP l j)) → i ≤ n → n - i < e → ∃ h2, f_X8_place_l8 N e (nI (cB 12 (l.drop i))) (nI i) h' = some (0, h2) ∧ (∀ c, c ≠ 39 → h2.1 c = h.1 c) ∧ ∀ j, j < n → h2.1 39 j = nI (gP l j) := by
  have hn4 := hl.2.1
  intro e
  induction e with
  | zero => intro i h' _ _ _ h2; omega
  | succ e ih =>
    intro i h' hc hr hi he
    show ∃ h2, f_X8_place_b8 N (f_X8_place_l8 N e) _ (nI i) h' = _ ∧ _
    unfold f_X8_place_b8
    rw [hc 25 (by decide), hn]
    by_cases hin : i = n
    · subst hin
      rw [if_pos (nI_le (Nat.le_refl _) (by omega))]
      exact ⟨h', rfl, hc, hr⟩
    · have hlt := cB_drop_lt hl i
      have hg := gP_lt (i := i) hl
      have e1 := cB_drop (b := 12) (l := l) (i := i) (by rw [hl.1]; omega)
      rw [if_neg (nI_ge (by omega) (by omega)), if_pos (by decide), if_pos (p_ib (by omega) (by omega)), p_lt, if_pos (by decide), p_lt, p_lt, p_ix (by omega), show (12 : Int32) = nI 12 from rfl, pk_rem (by omega) (by omega) (by omega), pk_div (by omega) (by omega) (by omega), nI_1]
      have m1 : cB 12 (l.drop i) % 12 = gP l i := by rw [e1]; omega
      have m2 : cB 12 (l.drop i) / 12 = cB 12 (l.drop (i + 1)) := by rw [e1]; omega
      rw [m1, m2]
      exact ih (i + 1) (wr h' 39 i (nI (gP l i))) (fun c hcc => by rw [p_wro _ _ _ _ hcc, hc c hcc]) (fun j hj => by
        by_cases hji : j = i
        · rw [hji, p_wrs]
        · rw [p_wrk _ _ _ _ hji]; exact hr j (by omega)) (by omega) (by omega)
theorem pm_place (N : Nat) (hN : 20 ≤ N) (h : Hp) {n : Nat} (hn : h.1 25 4 = nI n) {l : List Nat} (hl : okL n l) {t : Nat} (ht : t < 2) : ∃ h2, f_X8_place N (nI (mcN l t)) h = some (0, h2) ∧ (∀ c, c ≠ 39 → h2.1 c = h.1 c) ∧ ∀ j, j < n → h2.1 39 j = nI (gP l j) := by
  have hn4 := hl.2.1
  have hlt := c12_lt hl
  have hm := mc_lt hl ht
  unfold f_X8_place
  rw [if_pos (by decide), p_lt, p_lt, show (20736 : Int32) = nI 20736 from rfl, pk_rem (by omega) (by omega) (by omega), show mcN l t % 20736 = cB 12 l by unfold mcN; omega]
  have := pm_place_l N h hn hl N 0 h (fun _ _ => rfl) (fun j hj => by omega) (by omega) (by omega)
  rw [List.drop_zero] at this
  exact this
/-- what the model is asked with -/
def MQx (p : Pm) (w g m : Nat) (f : Nat → Int32) (h0 : Hp) : Prop := (MB h0 w g) ∧ (BM h0 p.n p.kd p.co) ∧ (stt w g f = p.T) ∧ (h0.1 25 2 = p.ho) ∧ (h0.1 25 3 = p.lw) ∧ (h0.1 25 22 = nI m) ∧ (m ≤ 9999) ∧ (∀ (x : Nd), okN p (w * g) x → ∀ i s, i < p.n → s < 32 → bt (opn p.T p.n p.kd p.co (gP x.sq) p.ho p.lw i x.tn) s = true → s < w * g)
theorem MQx.mb {p : Pm} {w g m : Nat} {f : Nat → Int32} {h0 : Hp} (q_ : MQx p w g m f h0) : MB h0 w g := q_.1
theorem MQx.bm {p : Pm} {w g m : Nat} {f : Nat → Int32} {h0 : Hp} (q_ : MQx p w g m f h0) : BM h0 p.n p.kd p.co := q_.2.1
theorem MQx.eT {p : Pm} {w g m : Nat} {f : Nat → Int32} {h0 : Hp} (q_ : MQx p w g m f h0) : stt w g f = p.T := q_.2.2.1
theorem MQx.eho {p : Pm} {w g m : Nat} {f : Nat → Int32} {h0 : Hp} (q_ : MQx p w g m f h0) : h0.1 25 2 = p.ho := q_.2.2.2.1
theorem MQx.elw {p : Pm} {w g m : Nat} {f : Nat → Int32} {h0 : Hp} (q_ : MQx p w g m f h0) : h0.1 25 3 = p.lw := q_.2.2.2.2.1
theorem MQx.ehp {p : Pm} {w g m : Nat} {f : Nat → Int32} {h0 : Hp} (q_ : MQx p w g m f h0) : h0.1 25 22 = nI m := q_.2.2.2.2.2.1
theorem MQx.m9 {p : Pm} {w g m : Nat} {f : Nat → Int32} {h0 : Hp} (q_ : MQx p w g m f h0) : m ≤ 9999 := q_.2.2.2.2.2.2.1
theorem MQx.hop {p : Pm} {w g m : Nat} {f : Nat → Int32} {h0 : Hp} (q_ : MQx p w g m f h0) : ∀ (x : Nd), okN p (w * g) x → ∀ i s, i < p.n → s < 32 → bt (opn p.T p.n p.kd p.co (gP x.sq) p.ho p.lw i x.tn) s = true → s < w * g := q_.2.2.2.2.2.2.2
theorem MQx_fr {p : Pm} {w g m : Nat} {f : Nat → Int32} {h0 h : Hp} (M : MQx p w g m f h0) (F : MF h0 h) : MQx p w g m f h := by
  refine ⟨?_, ?_, M.eT, ?_, ?_, ?_, M.m9, M.hop⟩
  · unfold MB; rw [F.2 0 (by decide), F.2 1 (by decide)]; exact M.mb
  · unfold BM; rw [F.2 4 (by decide), F.1 26 (by decide) (by omega)]; exact M.bm
  · rw [F.2 2 (by decide)]; exact M.eho
  · rw [F.2 3 (by decide)]; exact M.elw
  · rw [F.2 22 (by decide)]; exact M.ehp
theorem mayI_ok {p : Pm} {x : Nd} {i s t : Nat} (hs : s < 12) (e : p.lw = 1 → t = x.tn) : bt (mayI p.T p.n p.kd p.co (gP x.sq) p.ho p.lw i t) s = okH p x i s := by
  unfold mayI okH
  rw [opn_t (t := t) (u := x.tn) e]
  have h := orf_bt (fun s => if bt (opn p.T p.n p.kd p.co (gP x.sq) p.ho p.lw i x.tn) s = true ∧ stnd p.T p.n p.kd p.co (mvP (gP x.sq) i s) p.ho p.lw = true then sg (nI s) else 0) s 12
  cases c : (bt (opn p.T p.n p.kd p.co (gP x.sq) p.ho p.lw i x.tn) s && stnd p.T p.n p.kd p.co (mvP (gP x.sq) i s) p.ho p.lw) with
  | true =>
    rw [Bool.and_eq_true] at c
    exact h.mpr ⟨s, hs, by rw [if_pos c]; exact sg_self (by omega)⟩
  | false =>
    rw [Bool.eq_false_iff]
    intro z
    obtain ⟨k, hk, h2⟩ := h.mp z
    split at h2
    · rename_i c2
      rw [sg_bt (by omega) (by omega)] at h2
      have e2 := of_decide_eq_true h2
      rw [← e2] at c2
      rw [c2.1, c2.2] at c
      cases c
    · rw [b_0] at h2; cases h2
theorem bs_id {p : Pm} {x : Nd} {j i z : Nat} (hno : ∀ s, z ≤ s → s < 12 → okH p x i s = false) : ∀ {r s : Nat} {Q : List Nd}, z ≤ s → s + r = 12 → bs p x j i r s Q = Q
  | 0, s, Q, _, _ => rfl
  | r + 1, s, Q, h1, h2 => by
    show bs p x j i r (s + 1) (cnd p x j i s Q) = Q
    have : cnd p x j i s Q = Q := by
      unfold cnd
      rw [if_neg (fun q => by rw [hno s h1 (by omega)] at q; cases q.1)]
    rw [this]
    exact bs_id hno (by omega) (by omega)
theorem pm_cnd (N : Nat) (hN : 20 ≤ N) {p : Pm} {w g m : Nat} {f : Nat → Int32} {h0 : Hp} (M : MQx p w g m f h0) (k57 : Int32 → Hp → Option Rs) (k90 : Int32 → Int32 → Int32 → Int32 → Hp → Option Rs) (k121 : Int32 → Int32 → Int32 → Int32 → Int32 → Int32 → Hp → Option Rs) {Q : List Nd} (V : VQ p (w * g) (m % 2) Q) {h : Hp} (F : MF h0 h) (R : RM p.n h Q) {x : Nd} {j i s : Nat} (hj : j < Q.length) (ex : Q.getD j d0 = x) (hi : i < p.n) (hs : s < w * g) (htr : ∀ k, k < p.n → k ≠ i → h.1 39 k = nI (gP x.sq k)) (v2 : Int32) : ∃ h', MF h0 h' ∧ RM p.n h' (cnd p x j i s Q) ∧ (∀ k, k < p.n → k ≠ i → h'.1 39 k = nI (gP x.sq k)) ∧ f_X8_layLine_b121 N k57 k90 k121 v2 (nI (mcX x)) (nI ((m + x.dp) % 2)) (nI i) (mayI p.T p.n p.kd p.co (gP x.sq) p.ho p.lw i ((m + x.dp) % 2)) (nI s) h = k121 v2 (nI (mcX x)) (nI ((m + x.dp) % 2)) (nI i) (mayI p.T p.n p.kd p.co (gP x.sq) p.ho p.lw i ((m + x.dp) % 2)) (nI (s + 1)) h' := by
  have h12 := M.mb.1.2.2.2.2
  have hn4 := M.bm.2.1
  have M' := MQx_fr M F
  have hlen := VQ_len V
  have V' := VQ_cnd h12 (fun y hy => M.hop y (V.ok y hy)) V hj hi (show s < 12 by omega)
  have hx := getD_in hj
  have hdj := V.dj j hj
  obtain ⟨o1, o2, o3, o4, o5⟩ := V.ok _ hx
  have htn := V.tr _ hx
  obtain ⟨R1, R2, R3⟩ := R
  have rj := R2 j hj
  rw [ex] at hx hdj o1 o2 o3 o4 o5 htn V' rj
  have hok := mayI_ok (p := p) (x := x) (i := i) (s := s) (t := (m + x.dp) % 2) (by omega) (fun cl1 => by have := htn cl1; omega)
  unfold f_X8_layLine_b121 f_X8_layLine_b238
  rw [M'.mb.2.1, M'.mb.2.2, pk_mul, if_neg (nI_ge (by omega) (by omega)), pm_has, p_cl]
  by_cases c1 : okH p x i s = true
  rotate_left
  · refine ⟨h, F, ?_, htr, ?_⟩
    · unfold cnd
      rw [if_neg (fun q => c1 q.1)]
      exact ⟨R1, R2, R3⟩
    · rw [bi_e0 (by omega) (by rw [hok]; exact c1), if_neg n01, if_pos rfl, p_lt, nI_1]
  · rw [bi_e1 (by omega) (by rw [hok]; exact c1), if_pos rfl, if_neg n10, if_pos (p_ib (by omega) (by omega)), p_lt, p_ix (by omega)]
    have okl := okL_set o1 (show s < 12 by omega) (i := i)
    have ht' : tn' p x.tn < 2 := by unfold tn'; split <;> omega
    generalize eh1 : wr h 39 i (nI s) = h1
    have f1 : ∀ c, c ≠ 39 → h1.1 c = h.1 c := fun c hc => by rw [← eh1, p_wro _ _ _ _ hc]
    have row1 : ∀ k, k < p.n → h1.1 39 k = nI (gP (x.sq.set i s) k) := by
      intro k hk
      rw [gP_set o1.1 hi, ← eh1]
      unfold mvP
      by_cases e : k = i
      · rw [e, p_wrs, if_pos rfl]
      · rw [p_wrk _ _ _ _ e, if_neg e]; exact htr k hk e
    have htr1 : ∀ k, k < p.n → k ≠ i → h1.1 39 k = nI (gP x.sq k) := fun k hk e => by rw [← eh1, p_wrk _ _ _ _ e]; exact htr k hk e
    have hcode : f_X8_codeOf 39 N ((1 : Int32) - nI ((m + x.dp) % 2)) h1 = some (nI (mcN (x.sq.set i s) (tn' p x.tn)), h1) := by
      rw [show (1 : Int32) - nI ((m + x.dp) % 2) = nI (1 - (m + x.dp) % 2) from pk_sub (a := 1) (by omega), pm_codeOf 39 N hN h1 (by rw [f1 25 (by decide)]; exact M'.bm.1) okl row1 (by omega), f1 25 (by decide), M'.elw]
      unfold tn'
      by_cases cl1 : p.lw = 1
      · have := htn cl1
        rw [if_pos cl1, if_pos cl1, show 1 - (m + x.dp) % 2 = 1 - x.tn by omega]
      · rw [if_neg cl1, if_neg cl1]
    have hml := mc_lt okl ht'
    have hmx : mcX x < 41472 := mc_lt o1 o4
    rw [hcode, p_cl, p_lt, if_pos (p_ib hml (by omega)), p_ix (by omega), f1 35 (by decide)]
    by_cases c2 : hasK Q (x.sq.set i s) (tn' p x.tn) = true
    · obtain ⟨y, hy, ey⟩ := List.mem_map.mp (hasK_iff.mp c2)
      obtain ⟨k, hk, eyk⟩ := List.getElem_of_mem hy
      have rk := (R2 k hk).2.1
      have eq : Q.getD k d0 = y := by rw [List.getD_eq_getElem?_getD, List.getElem?_eq_getElem hk]; exact eyk
      unfold key at ey
      rw [Prod.mk.injEq] at ey
      have emc : mcX y = mcN (x.sq.set i s) (tn' p x.tn) := by unfold mcX; rw [ey.1, ey.2]
      rw [eq, emc] at rk
      have hdk := V.dj k hk
      rw [eq] at hdk
      rw [rk, if_neg (p_nI_ne_m1 (by omega)), p_lt, nI_1]
      refine ⟨h1, ⟨fun c hc hc2 => by rw [f1 c (by omega)]; exact F.1 c hc hc2, fun k hk => by rw [f1 25 (by decide)]; exact F.2 k hk⟩, ?_, htr1, rfl⟩
      unfold cnd
      rw [if_neg (fun q => by rw [c2] at q; cases q.2)]
      unfold RM
      rw [f1 25 (by decide), f1 35 (by decide), f1 36 (by decide), f1 37 (by decide), f1 38 (by decide)]
      exact ⟨R1, R2, R3⟩
    · have c2' : hasK Q (x.sq.set i s) (tn' p x.tn) = false := by simpa using c2
      have ecnd : cnd p x j i s Q = Q ++ [nxt p x j i s] := by unfold cnd; rw [if_pos ⟨c1, c2'⟩]
      rw [ecnd] at V' ⊢
      have hl' := VQ_len V'
      rw [List.length_append] at hl'
      have hl2 : Q.length + 1 ≤ 23760 := hl'
      rw [R3 _ _ okl ht' c2', if_pos rfl, if_pos (p_ib hmx (by omega)), if_pos (p_ib hml (by omega)), p_ix (by omega), rj.2.1, nI_1, p_lt, if_pos (p_ib hml (by omega)), p_lt, if_pos (p_ib hml (by omega)), p_lt]
      generalize ec : mcN (x.sq.set i s) (tn' p x.tn) = c at *
      rw [show (12 : Int32) * nI i + nI s = nI (12 * i + s) by rw [show (12 : Int32) = nI 12 from rfl, pk_mul, nI_add]]
      have e31 : (wr (wr (wr h1 35 c (nI (x.dp + 1))) 37 c (nI (mcX x))) 38 c (nI (12 * i + s))).1 25 31 = nI Q.length := by
        rw [p_wro _ _ _ _ (by decide), p_wro _ _ _ _ (by decide), p_wro _ _ _ _ (by decide), f1 25 (by decide)]; exact R1
      rw [e31, if_pos (p_ib (show Q.length < 41472 by omega) (by omega)), p_lt, p_lt, p_ix (by omega), p_wro _ _ _ _ (show (25 : Nat) ≠ 36 by decide), e31, nI_1, p_lt, nI_1]
      generalize eh5 : wr (wr (wr (wr (wr h1 35 c (nI (x.dp + 1))) 37 c (nI (mcX x))) 38 c (nI (12 * i + s))) 36 Q.length (nI c)) 25 31 (nI (Q.length + 1)) = h5
      have g35 : ∀ k, h5.1 35 k = if k = c then nI (x.dp + 1) else h.1 35 k := fun k => by rw [← eh5]; simp [p_wr]; rw [f1 35 (by decide)]
      have g37 : ∀ k, h5.1 37 k = if k = c then nI (mcX x) else h.1 37 k := fun k => by rw [← eh5]; simp [p_wr]; rw [f1 37 (by decide)]
      have g38 : ∀ k, h5.1 38 k = if k = c then nI (12 * i + s) else h.1 38 k := fun k => by rw [← eh5]; simp [p_wr]; rw [f1 38 (by decide)]
      have g36 : ∀ k, h5.1 36 k = if k = Q.length then nI c else h.1 36 k := fun k => by rw [← eh5]; simp [p_wr]; rw [f1 36 (by decide)]
      have g25 : ∀ k, h5.1 25 k = if k = 31 then nI (Q.length + 1) else h.1 25 k := fun k => by rw [← eh5]; simp [p_wr]; rw [f1 25 (by decide)]
      have go : ∀ c', c' ∉ [25, 35, 36, 37, 38] → h5.1 c' = h1.1 c' := fun c' hc => by
        rw [← eh5, p_wro _ _ _ _ (fun z => hc (by simp [z])), p_wro _ _ _ _ (fun z => hc (by simp [z])), p_wro _ _ _ _ (fun z => hc (by simp [z])), p_wro _ _ _ _ (fun z => hc (by simp [z])), p_wro _ _ _ _ (fun z => hc (by simp [z]))]
      have old : ∀ k, k < Q.length → mcX (Q.getD k d0) ≠ c := by
        intro k hk e
        have ok := V.ok _ (getD_in hk)
        rw [← ec] at e
        have e2 := mc_inj ok.1 okl e
        have : hasK Q (x.sq.set i s) (tn' p x.tn) = true := hasK_iff.mpr (List.mem_map.mpr ⟨_, getD_in hk, by unfold key; rw [e2.1, e2.2]⟩)
        rw [c2'] at this
        cases this
      refine ⟨h5, ⟨fun c' hc hc2 => ?_, fun k hk => ?_⟩, ⟨?_, fun k hk => ?_, fun l t hl ht hh => ?_⟩, fun k hk e => ?_, rfl⟩
      · rw [go c' (by simp; omega), f1 c' (by omega)]; exact F.1 c' hc hc2
      · rw [g25, if_neg hk]; exact F.2 k hk
      · rw [g25, if_pos rfl, List.length_append]; rfl
      · rw [List.length_append] at hk
        have hk' : k < Q.length + 1 := hk
        by_cases hkl : k < Q.length
        · have ok := old k hkl
          have rk := R2 k hkl
          rw [getD_app hkl, g36, if_neg (by omega), g35, if_neg ok, g37, if_neg ok, g38, if_neg ok]
          refine ⟨rk.1, rk.2.1, fun h0k => ?_⟩
          have hpa := (V.par k h0k hkl).1
          rw [getD_app (by omega)]
          exact rk.2.2 h0k
        · have e : k = Q.length := by omega
          subst e
          rw [getD_last]
          have emx : mcX (nxt p x j i s) = c := ec
          rw [emx, g36, if_pos rfl, g35, if_pos rfl, g37, if_pos rfl, g38, if_pos rfl]
          refine ⟨rfl, rfl, fun _ => ⟨?_, rfl⟩⟩
          show nI (mcX x) = nI (mcX ((Q ++ [nxt p x j i s]).getD j d0))
          rw [getD_app hj, ex]
      · have h2 : ¬ (hasK Q l t = true ∨ key (nxt p x j i s) = (l, t)) := fun z => by
          rw [hasK_app.mpr z] at hh; cases hh
        have hn : mcN l t ≠ c := fun z => by
          rw [← ec] at z
          have e2 := mc_inj hl okl z
          exact h2 (Or.inr (by show (x.sq.set i s, tn' p x.tn) = (l, t); rw [e2.1, e2.2]))
        rw [g35, if_neg hn]
        exact R3 l t hl ht (by cases hq : hasK Q l t with
          | false => rfl
          | true => exact absurd (Or.inl hq) h2)
      · rw [go 39 (by decide)]; exact htr1 k hk e
