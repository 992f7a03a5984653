/-! ===== layLine ===== -/
theorem MF_rfl (h : Hp) : MF h h := ⟨fun _ _ _ => rfl, fun _ _ => rfl⟩
theorem MF_39 {h0 h h' : Hp} (F : MF h0 h) (e : ∀ c, c ≠ 39 → h'.1 c = h.1 c) : MF h0 h' := ⟨fun c hc hc2 => by rw [e c (by omega)]; exact F.1 c hc hc2, fun k hk => by rw [e 25 (by decide)]; exact F.2 k hk⟩
theorem RM_39 {n : Nat} {h h' : Hp} {Q : List Nd} (R : RM n h Q) (e : ∀ c, c ≠ 39 → h'.1 c = h.1 c) : RM n h' Q := by
  unfold RM
  rw [e 25 (by decide), e 35 (by decide), e 36 (by decide), e 37 (by decide), e 38 (by decide)]
  exact R
section LL
theorem pm_sq_l (N : Nat) (hN : 20 ≤ N) {p : Pm} {w g m : Nat} {f : Nat → Int32} {h0 : Hp} (M : MQx p w g m f h0) (k57 : Int32 → Hp → Option Rs) (k90 : Int32 → Int32 → Int32 → Int32 → Hp → Option Rs) {x : Nd} {j i : Nat} (hi : i < p.n) (v2 : Int32) : ∀ (e s : Nat) (Q : List Nd) (h : Hp), VQ p (w * g) (m % 2) Q → MF h0 h → RM p.n h Q → j < Q.length → Q.getD j d0 = x → (∀ k, k < p.n → k ≠ i → h.1 39 k = nI (gP x.sq k)) → s ≤ w * g → w * g - s < e → ∃ h', MF h0 h' ∧ RM p.n h' (bs p x j i (12 - s) s Q) ∧ f_X8_layLine_l121 N k57 k90 e v2 (nI (mcX x)) (nI ((m + x.dp) % 2)) (nI i) (mayI p.T p.n p.kd p.co (gP x.sq) p.ho p.lw i ((m + x.dp) % 2)) (nI s) h = k90 v2 (nI (mcX x)) (nI ((m + x.dp) % 2)) (nI (i + 1)) h' := by
  have h12 := M.mb.1.2.2.2.2
  intro e
  induction e with
  | zero => intro s Q h _ _ _ _ _ _ _ h2; omega
  | succ e ih =>
    intro s Q h V F R hj ex htr hs he
    show ∃ h', _ ∧ _ ∧ f_X8_layLine_b121 N k57 k90 (f_X8_layLine_l121 N k57 k90 e) v2 (nI (mcX x)) (nI ((m + x.dp) % 2)) (nI i) _ (nI s) h = _
    by_cases hc : s = w * g
    · have M' := MQx_fr M F
      have hx := getD_in hj
      have o := V.ok _ hx
      rw [ex] at o
      refine ⟨h, F, ?_, ?_⟩
      · rw [bs_id (z := w * g) (fun s h1 h2 => ?_) (by omega) (by omega)]
        · exact R
        · cases hq : okH p x i s with
          | false => rfl
          | true =>
            unfold okH at hq
            rw [Bool.and_eq_true] at hq
            have := M.hop x o i s hi (by omega) hq.1
            omega
      · unfold f_X8_layLine_b121
        rw [M'.mb.2.1, M'.mb.2.2, pk_mul, if_pos (nI_le (by omega) (by omega)), p_lt, nI_1]
    · obtain ⟨h1, F1, R1, t1, e1⟩ := pm_cnd N hN M k57 k90 (f_X8_layLine_l121 N k57 k90 e) V F R hj ex hi (show s < w * g by omega) htr v2
      have V' := VQ_cnd h12 (fun y hy => M.hop y (V.ok y hy)) V hj hi (show s < 12 by omega)
      rw [ex] at V'
      have hat := cnd_at (p := p) (x := x) (j := j) (i := i) (s := s) hj
      obtain ⟨h2, F2, R2, e2⟩ := ih (s + 1) _ h1 V' F1 R1 (by omega) (hat.1.trans ex) t1 (by omega) (by omega)
      refine ⟨h2, F2, ?_, e1.trans e2⟩
      obtain ⟨r, hr⟩ : ∃ r, 12 - s = r + 1 := ⟨11 - s, by omega⟩
      rw [hr]
      rw [show 12 - (s + 1) = r by omega] at R2
      exact R2
theorem pm_men_l (N : Nat) (hN : 20 ≤ N) {p : Pm} {w g m : Nat} {f : Nat → Int32} {h0 : Hp} (M : MQx p w g m f h0) (k57 : Int32 → Hp → Option Rs) {x : Nd} {j : Nat} : ∀ (e i : Nat) (Q : List Nd) (h : Hp), VQ p (w * g) (m % 2) Q → MF h0 h → RM p.n h Q → j < Q.length → Q.getD j d0 = x → i ≤ p.n → p.n - i < e → ∃ h', MF h0 h' ∧ RM p.n h' (bm p x j (p.n - i) i Q) ∧ f_X8_layLine_l90 N k57 e (nI j) (nI (mcX x)) (nI ((m + x.dp) % 2)) (nI i) h = k57 (nI (j + 1)) h' := by
  have h12 := M.mb.1.2.2.2.2
  have hn4 := M.bm.2.1
  intro e
  induction e with
  | zero => intro i Q h _ _ _ _ _ _ h2; omega
  | succ e ih =>
    intro i Q h V F R hj ex hi he
    have M' := MQx_fr M F
    show ∃ h', _ ∧ _ ∧ f_X8_layLine_b90 N k57 (f_X8_layLine_l90 N k57 e) (nI j) (nI (mcX x)) (nI ((m + x.dp) % 2)) (nI i) h = _
    unfold f_X8_layLine_b90
    rw [M'.bm.1]
    by_cases hc : i = p.n
    · refine ⟨h, F, ?_, ?_⟩
      · rw [hc, show p.n - p.n = 0 by omega]; exact R
      · rw [if_pos (nI_le (by omega) (by omega)), p_lt, nI_1]
    · have hx := getD_in hj
      have o := V.ok _ hx
      rw [ex] at o
      obtain ⟨h1, e1, c1, r1⟩ := pm_place N hN h M'.bm.1 o.1 o.2.2.2.1
      have F1 := MF_39 F c1
      have R1 := RM_39 R c1
      have M1 := MQx_fr M F1
      have hmay := pm_mayOf 39 N (by decide) (by decide) hN h1 M1.mb f M1.bm (P := gP x.sq) (fun k hk => ⟨r1 k hk, o.2.1 _ (gP_in (by rw [o.1.1]; exact hk))⟩) (show i < p.n by omega) (t := (m + x.dp) % 2) (by omega)
      rw [M1.eT, M1.eho, M1.elw] at hmay
      rw [if_neg (nI_ge (by omega) (by omega)), show nI (mcX x) = nI (mcN x.sq x.tn) from rfl, e1, p_cl, hmay, p_cl, p_lt, p_lt]
      obtain ⟨h2, F2, R2, e2⟩ := pm_sq_l N hN M k57 (f_X8_layLine_l90 N k57 e) (x := x) (j := j) (i := i) (by omega) (nI j) N 0 Q h1 V F1 R1 hj ex (fun k hk _ => r1 k hk) (by omega) (by omega)
      have V' := VQ_bs h12 M.hop (x := x) (j := j) (i := i) (by omega) (r := 12) (s := 0) (by omega) V hj ex
      have hat := bs_at (p := p) (x := x) (j := j) (i := i) (r := 12) (s := 0) hj
      obtain ⟨h3, F3, R3, e3⟩ := ih (i + 1) _ h2 V' F2 R2 (by omega) (hat.1.trans ex) (by omega) (by omega)
      refine ⟨h3, F3, ?_, ?_⟩
      · obtain ⟨r, hr⟩ : ∃ r, p.n - i = r + 1 := ⟨p.n - i - 1, by omega⟩
        rw [hr]
        rw [show p.n - (i + 1) = r by omega] at R3
        exact R3
      · exact e2.trans e3
theorem pm_queue_l (N : Nat) (hN : 20 ≤ N) {p : Pm} {w g m : Nat} {f : Nat → Int32} {h0 : Hp} (M : MQx p w g m f h0) : ∀ (e r j : Nat) (Q : List Nd) (h : Hp), VQ p (w * g) (m % 2) Q → MF h0 h → RM p.n h Q → j ≤ Q.length → r + j = 23761 → r < e → ∃ h', MF h0 h' ∧ RM p.n h' (bq p r j Q) ∧ f_X8_layLine_l57 N e (nI j) h = some (0, h') := by
  have h12 := M.mb.1.2.2.2.2
  have hn4 := M.bm.2.1
  have m9 := M.m9
  intro e
  induction e with
  | zero => intro r j Q h _ _ _ _ _ h2; omega
  | succ e ih =>
    intro r j Q h V F R hj hr he
    have hlen := VQ_len V
    have M' := MQx_fr M F
    obtain ⟨r, rfl⟩ : ∃ y, r = y + 1 := ⟨r - 1, by omega⟩
    show ∃ h', MF h0 h' ∧ RM p.n h' (if j < Q.length then bq p r (j + 1) (bm p (Q.getD j d0) j p.n 0 Q) else Q) ∧ f_X8_layLine_b57 N (f_X8_layLine_l57 N e) (nI j) h = _
    unfold f_X8_layLine_b57
    rw [R.1]
    by_cases hc : j < Q.length
    · have o := V.ok _ (getD_in hc)
      have hm := mc_lt o.1 o.2.2.2.1
      have hdj := V.dj j hc
      have rj := R.2.1 j hc
      rw [if_pos hc, if_neg (nI_ge (by omega) (by omega)), if_pos (p_ib (show j < 41472 by omega) (by omega)), p_lt, p_ix (by omega), rj.1, if_pos (p_ib (show mcX (Q.getD j d0) < 41472 from hm) (by omega)), if_pos (by decide), p_ix (show mcX (Q.getD j d0) < 2 ^ 31 from Nat.lt_trans hm (by omega)), rj.2.1, M'.ehp, nI_add, turn_rem (by omega), p_lt, p_lt]
      obtain ⟨h1, F1, R1, e1⟩ := pm_men_l N hN M (f_X8_layLine_l57 N e) (x := Q.getD j d0) (j := j) N 0 Q h V F R hc rfl (by omega) (by omega)
      rw [Nat.sub_zero] at R1
      have V' := VQ_bm h12 M.hop (x := Q.getD j d0) (j := j) (r := p.n) (i := 0) (by omega) V hc rfl
      have hat := bm_at (p := p) (x := Q.getD j d0) (j := j) (r := p.n) (i := 0) hc
      obtain ⟨h2, F2, R2, e2⟩ := ih r (j + 1) _ h1 V' F1 R1 (by omega) (by omega) (by omega)
      exact ⟨h2, F2, R2, e1.trans e2⟩
    · rw [if_neg hc, if_pos (nI_le (by omega) (by omega))]
      exact ⟨h, F, R, rfl⟩
end LL
theorem pm_fill_l (N : Nat) (h : Hp) : ∀ (e k : Nat) (h' : Hp), (∀ c, c ≠ 35 → h'.1 c = h.1 c) → (∀ j, j < k → h'.1 35 j = -1) → k ≤ 41472 → 41472 - k < e → ∃ h2, (∀ c, c ≠ 35 → h2.1 c = h.1 c) ∧ (∀ j, j < 41472 → h2.1 35 j = -1) ∧ f_X8_layLine_l2 N e (nI k) h' = f_X8_layLine_b2 N (f_X8_layLine_l2 N 0) (nI 41472) h2 := by
  intro e
  induction e with
  | zero => intro k h' _ _ _ h2; omega
  | succ e ih =>
    intro k h' hc hr hk he
    by_cases hk2 : k = 41472
    · subst hk2
      refine ⟨h', hc, hr, ?_⟩
      show f_X8_layLine_b2 N (f_X8_layLine_l2 N e) (nI 41472) h' = _
      unfold f_X8_layLine_b2
      rw [if_pos (show (41472 : Int32) ≤ nI 41472 by decide), if_pos (show (41472 : Int32) ≤ nI 41472 by decide)]
    · have step := ih (k + 1) (wr h' 35 k (-1)) (fun c hcc => by rw [p_wro _ _ _ _ hcc, hc c hcc]) (fun j hj => by
        by_cases hjk : j = k
        · rw [hjk, p_wrs]
        · rw [p_wrk _ _ _ _ hjk]; exact hr j (by omega)) (by omega) (by omega)
      obtain ⟨h2, a1, a2, a3⟩ := step
      refine ⟨h2, a1, a2, ?_⟩
      rw [← a3]
      show f_X8_layLine_b2 N (f_X8_layLine_l2 N e) (nI k) h' = _
      unfold f_X8_layLine_b2
      rw [if_neg (show ¬ (41472 : Int32) ≤ nI k from nI_ge (a := k) (b := 41472) (by omega) (by omega)), if_pos (p_ib (by omega) (by omega)), p_lt, p_lt, p_ix (by omega), nI_1]
theorem pm_layLine (N : Nat) (hN : 60000 ≤ N) {p : Pm} {w g m : Nat} {f : Nat → Int32} {h0 : Hp} (M : MQx p w g m f h0) {l : List Nat} (hl : okN p (w * g) ⟨l, t0H p.lw m, 0, 0, 0, 0⟩) (hat : ∀ i, i < p.n → h0.1 31 i = nI (gP l i)) : ∃ h1, f_X8_layLine N h0 = some (0, h1) ∧ MF h0 h1 ∧ RM p.n h1 (bfs p l (t0H p.lw m)) := by
  have m9 := M.m9
  have ht := t0H_lt p.lw m
  have hcl : okL p.n l := hl.1
  obtain ⟨h2, a1, a2, a3⟩ := pm_fill_l N h0 N 0 h0 (fun _ _ => rfl) (fun j hj => by omega) (by omega) (by omega)
  have hcode : f_X8_codeOf 31 N (nI (m % 2)) h2 = some (nI (mcN l (t0H p.lw m)), h2) := by
    rw [pm_codeOf 31 N (by omega) h2 (by rw [a1 25 (by decide)]; exact M.bm.1) hcl (fun i hi => by rw [a1 31 (by decide)]; exact hat i hi) (by omega), a1 25 (by decide), M.elw]
    rfl
  have hm := mc_lt hcl ht
  unfold f_X8_layLine
  rw [p_lt]
  show ∃ h1, f_X8_layLine_l2 N N (nI 0) h0 = _ ∧ _
  rw [a3]
  unfold f_X8_layLine_b2
  rw [if_pos (by decide), if_pos (by decide), a1 25 (by decide), M.ehp, turn_rem (by omega), hcode, p_cl, p_lt, if_pos (p_ib hm (by omega)), p_lt, if_pos (by decide), p_lt, p_lt, p_lt, p_ix (by omega), show ix 0 = 0 from rfl]
  generalize ec : mcN l (t0H p.lw m) = c at *
  generalize eh3 : wr (wr (wr h2 35 c 0) 36 0 (nI c)) 25 31 1 = h3
  have F3 : MF h0 h3 := by
    refine ⟨fun c' hc hc2 => ?_, fun k hk => ?_⟩
    · rw [← eh3, p_wro _ _ _ _ hc, p_wro _ _ _ _ (by omega), p_wro _ _ _ _ (by omega), a1 c' (by omega)]
    · rw [← eh3, p_wrk _ _ _ _ hk, p_wro _ _ _ _ (by decide), p_wro _ _ _ _ (by decide), a1 25 (by decide)]
  have g35 : ∀ k, h3.1 35 k = if k = c then 0 else h2.1 35 k := fun k => by rw [← eh3]; simp [p_wr]
  have R3 : RM p.n h3 [⟨l, t0H p.lw m, 0, 0, 0, 0⟩] := by
    refine ⟨by rw [← eh3, p_wrs]; rfl, fun j hj => ?_, fun l' t' hl' ht' hh => ?_⟩
    · have : j = 0 := by simpa using hj
      subst this
      have e1 : mcX ((([⟨l, t0H p.lw m, 0, 0, 0, 0⟩] : List Nd)).getD 0 d0) = c := ec
      rw [e1]
      refine ⟨by rw [← eh3, p_wro _ _ _ _ (by decide), p_wrs], by rw [g35, if_pos rfl]; rfl, fun z => by omega⟩
    · have hn : mcN l' t' ≠ c := fun z => by
        rw [← ec] at z
        have e2 := mc_inj hl' hcl z
        have : hasK [⟨l, t0H p.lw m, 0, 0, 0, 0⟩] l' t' = true := by
          rw [hasK_iff, e2.1, e2.2]; simp [key]
        rw [this] at hh
        cases hh
      rw [g35, if_neg hn]
      exact a2 _ (mc_lt hl' ht')
  have V0 : VQ p (w * g) (m % 2) [⟨l, t0H p.lw m, 0, 0, 0, 0⟩] := VQ_t (VQ_0 hl) (fun hw => by unfold t0H; rw [if_pos hw])
  obtain ⟨h6, F6, R6, e6⟩ := pm_queue_l N (by omega) M N 23761 0 _ h3 V0 F3 R3 (by simp) (by omega) (by omega)
  exact ⟨h6, e6, F6, R6⟩
