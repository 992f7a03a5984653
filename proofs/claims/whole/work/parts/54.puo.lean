/-! the class's homes alike -/
theorem pu_alike_l (N : Nat) (hN : 20 ≤ N) (h : Hp) {n : Nat} {kd co : Nat → Nat} (hB : BC h n kd co) {L : Nat → Nat} (hL : PC (h.1 1 6) n L) (hinj : ∀ a b, a < n → b < n → L a = L b → a = b) {l : List Nat} {t : Nat} (hl : okL n l) (ht : t < 2) : ∀ (e i : Nat), i ≤ n → n - i < e → f_X4_allHomeAlike_l2 N e (nI (cdN l t)) (nI i) h = some (b2i (allr (fun i => anyr (lik true kd co (gP l) L i) n 0) (n - i) i), h) := by
  obtain ⟨hn, hn4, hB⟩ := hB
  intro e
  induction e with
  | zero => intro i _ h2; omega
  | succ e ih =>
    intro i hi he
    show f_X4_allHomeAlike_b2 N (f_X4_allHomeAlike_l2 N e) (nI (cdN l t)) (nI i) h = _
    unfold f_X4_allHomeAlike_b2 f_X4_allHomeAlike_b86 f_X4_allHomeAlike_b87
    rw [hn]
    by_cases hc : i = n
    · subst hc
      rw [if_pos (nI_le (Nat.le_refl _) (by omega)), Nat.sub_self]
      rfl
    · obtain ⟨a1, a2, a3, a4⟩ := hB i (by omega)
      obtain ⟨r, hr⟩ : ∃ r, n - i = r + 1 := ⟨n - i - 1, by omega⟩
      have step := ih (i + 1) (by omega) (by omega)
      rw [show n - (i + 1) = r by omega] at step
      have hg := gP_lt (i := i) hl
      have hpl : plc (nI (cdN l t)) i = nI (gP l i) := plc_c16 hl ht (by omega)
      rw [if_neg (nI_ge (by omega) (by omega)), p_placeOf, p_cl, hpl, pu_manOf 1 N (by omega) h hn hn4 hg hL hinj, p_cl, hr]
      simp only [p_lt, nI_1]
      show _ = some (b2i (anyr (lik true kd co (gP l) L i) n 0 && allr (fun i => anyr (lik true kd co (gP l) L i) n 0) r (i + 1)), h)
      by_cases hex : ∃ j, j < n ∧ L j = gP l i
      · obtain ⟨j, hj, ej⟩ := hex
        obtain ⟨c1, c2, c3, c4⟩ := hB j hj
        rw [lastm_at hj ej hinj, if_neg (p_nI_ne_m1 (by omega)), if_pos (p_ib (by omega) (by omega)), if_pos (p_ib (by omega) (by omega)), if_pos (p_ib (by omega) (by omega)), if_pos (p_ib (by omega) (by omega)), p_ix (by omega), p_ix (by omega), a1, c1, a3, c3]
        by_cases c6 : kd i = kd j
        · by_cases c7 : co i = co j
          · have hany : anyr (lik true kd co (gP l) L i) n 0 = true := (anyr_iff _ _ _).mpr ⟨j, by omega, by omega, by unfold lik; simp [c6, c7, ej]⟩
            rw [if_pos (by rw [c6]), if_pos (by rw [c7]), if_neg n10, step, hany]
            rfl
          · have hany : anyr (lik true kd co (gP l) L i) n 0 = false := by
              rw [Bool.eq_false_iff]
              intro z
              obtain ⟨x, x1, x2, x3⟩ := (anyr_iff _ _ _).mp z
              unfold lik at x3
              rw [Bool.and_eq_true] at x3
              have ex : x = j := hinj x j (by omega) hj (by rw [ej]; exact (of_decide_eq_true x3.2).symm)
              subst ex
              have x4 := x3.1
              by_cases e2 : i = x
              · rw [e2] at c7; exact c7 rfl
              · simp [e2, c7] at x4
            rw [if_pos (by rw [c6]), if_neg (by rw [nI_eq (by omega) (by omega)]; exact c7), if_pos trivial, if_pos (by decide), hany]
            rfl
        · have hany : anyr (lik true kd co (gP l) L i) n 0 = false := by
            rw [Bool.eq_false_iff]
            intro z
            obtain ⟨x, x1, x2, x3⟩ := (anyr_iff _ _ _).mp z
            unfold lik at x3
            rw [Bool.and_eq_true] at x3
            have ex : x = j := hinj x j (by omega) hj (by rw [ej]; exact (of_decide_eq_true x3.2).symm)
            subst ex
            have x4 := x3.1
            by_cases e2 : i = x
            · rw [e2] at c6; exact c6 rfl
            · simp [e2, c6] at x4
          rw [if_neg (by rw [nI_eq (by omega) (by omega)]; exact c6), if_pos trivial, if_pos (by decide), hany]
          rfl
      · have hany : anyr (lik true kd co (gP l) L i) n 0 = false := by
          rw [Bool.eq_false_iff]
          intro z
          obtain ⟨x, x1, x2, x3⟩ := (anyr_iff _ _ _).mp z
          unfold lik at x3
          rw [Bool.and_eq_true] at x3
          exact hex ⟨x, by omega, (of_decide_eq_true x3.2).symm⟩
        rw [lastm_none (fun j hj z => hex ⟨j, hj, z⟩), if_pos rfl, if_pos (by decide), hany]
        rfl
theorem pu_firstAlike_l (N : Nat) (hN : 20 ≤ N) (h : Hp) {n : Nat} {kd co : Nat → Nat} (hB : BC h n kd co) {L : Nat → Nat} (hL : PC (h.1 1 6) n L) (hinj : ∀ a b, a < n → b < n → L a = L b → a = b) {Q : List Nd} (K : QK n Q) (R : RC h Q) : ∀ (e k : Nat), k ≤ Q.length → Q.length - k < e → f_X4_firstHomeAlike_l2 N e (nI k) h = some (resC (lowf (fun j => allr (fun i => anyr (lik true kd co (gP (Q.getD j d0).sq) L i) n 0) n 0) (Q.length - k) k) Q.length, h) := by
  have hlen := K.len
  have hn4 := hB.2.1
  intro e
  induction e with
  | zero => intro k _ h2; omega
  | succ e ih =>
    intro k hk he
    show f_X4_firstHomeAlike_b2 N (f_X4_firstHomeAlike_l2 N e) (nI k) h = _
    unfold f_X4_firstHomeAlike_b2
    rw [R.1]
    by_cases hc : k = Q.length
    · subst hc
      rw [if_pos (nI_le (Nat.le_refl _) (by omega)), Nat.sub_self]
      unfold resC
      show _ = some (if Q.length < Q.length then _ else _, h)
      rw [if_neg (show ¬ Q.length < Q.length by omega)]
    · have o := K.ok k (by omega)
      obtain ⟨r, hr⟩ : ∃ r, Q.length - k = r + 1 := ⟨Q.length - k - 1, by omega⟩
      have hal : f_X4_allHomeAlike N (nI (cdN (Q.getD k d0).sq (Q.getD k d0).tn)) h = some (b2i (allr (fun i => anyr (lik true kd co (gP (Q.getD k d0).sq) L i) n 0) n 0), h) := by
        unfold f_X4_allHomeAlike
        rw [p_lt]
        exact pu_alike_l N hN h hB hL hinj o.1 o.2 N 0 (by omega) (by omega)
      rw [if_neg (nI_ge (by omega) (by omega)), if_pos (p_ib (show k < 23760 by omega) (by omega)), p_ix (by omega), (R.2 k (by omega)).1, hal, p_cl, hr]
      by_cases c : allr (fun i => anyr (lik true kd co (gP (Q.getD k d0).sq) L i) n 0) n 0 = true
      · rw [lowf_stop (p := fun j => allr (fun i => anyr (lik true kd co (gP (Q.getD j d0).sq) L i) n 0) n 0) (k := k) c, c, if_neg (by decide)]
        unfold resC
        rw [if_pos (by omega)]
      · rw [lowf_go (p := fun j => allr (fun i => anyr (lik true kd co (gP (Q.getD j d0).sq) L i) n 0) n 0) (k := k) c, show allr (fun i => anyr (lik true kd co (gP (Q.getD k d0).sq) L i) n 0) n 0 = false by simpa using c, if_pos (by decide), p_lt, nI_1, ih (k + 1) (by omega) (by omega), show Q.length - (k + 1) = r by omega]
theorem pu_firstAlike (N : Nat) (hN : 30000 ≤ N) (h : Hp) {n : Nat} {kd co : Nat → Nat} (hB : BC h n kd co) {L : Nat → Nat} (hL : PC (h.1 1 6) n L) (hinj : ∀ a b, a < n → b < n → L a = L b → a = b) {Q : List Nd} (K : QK n Q) (R : RC h Q) : f_X4_firstHomeAlike N h = some (resC (lowf (fun j => allr (fun i => anyr (lik true kd co (gP (Q.getD j d0).sq) L i) n 0) n 0) Q.length 0) Q.length, h) := by
  have hlen := K.len
  unfold f_X4_firstHomeAlike
  rw [p_lt]
  exact pu_firstAlike_l N (by omega) h hB hL hinj K R N 0 (by omega) (by omega)
/-! the model's first home -/
def resM (Q : List Nd) (r : Nat) : Int32 := if r < Q.length then nI (mcX (Q.getD r d0)) else -1
theorem pm_first_l (N : Nat) (hN : 20 ≤ N) (h : Hp) {n : Nat} {kd co : Nat → Nat} (hB : BM h n kd co) {L : Nat → Nat} (hL : ∀ i, i < n → h.1 26 (4 * i + 3) = nI (L i) ∧ L i < 12) {Q : List Nd} (K : QK n Q) (R : RM n h Q) (al : Bool) : ∀ (e k : Nat) (h' : Hp), (∀ c, c ≠ 39 → h'.1 c = h.1 c) → k ≤ Q.length → Q.length - k < e → ∃ h2, f_X8_firstHome_l6 N e (b2i al) (nI k) h' = some (resM Q (lowf (fun j => allr (fun i => anyr (lik al kd co (gP (Q.getD j d0).sq) L i) n 0) n 0) (Q.length - k) k), h2) ∧ ∀ c, c ≠ 39 → h2.1 c = h.1 c := by
  have hlen := K.len
  have hn4 := hB.2.1
  intro e
  induction e with
  | zero => intro k h' _ _ h2; omega
  | succ e ih =>
    intro k h' hf hk he
    show ∃ h2, f_X8_firstHome_b6 N (f_X8_firstHome_l6 N e) (b2i al) (nI k) h' = _ ∧ _
    unfold f_X8_firstHome_b6
    rw [hf 25 (by decide), R.1]
    by_cases hc : k = Q.length
    · subst hc
      refine ⟨h', ?_, hf⟩
      rw [if_pos (nI_le (Nat.le_refl _) (by omega)), Nat.sub_self]
      unfold resM
      show _ = some (if Q.length < Q.length then _ else _, h')
      rw [if_neg (show ¬ Q.length < Q.length by omega)]
    · have o := K.ok k (by omega)
      have rk := R.2.1 k (by omega)
      obtain ⟨r, hr⟩ : ∃ r, Q.length - k = r + 1 := ⟨Q.length - k - 1, by omega⟩
      obtain ⟨h1, e1, f1, r1⟩ := pm_place N hN h' (n := n) (by rw [hf 25 (by decide)]; exact hB.1) o.1 o.2
      have f1' : ∀ c, c ≠ 39 → h1.1 c = h.1 c := fun c hc => by rw [f1 c hc, hf c hc]
      have hB1 : BM h1 n kd co := by unfold BM; rw [f1' 25 (by decide), f1' 26 (by decide)]; exact hB
      have hh := pm_areHome N h1 hB1 (P := gP (Q.getD k d0).sq) (L := L) (fun i hi => ⟨r1 i hi, gP_lt o.1⟩) (fun i hi => by rw [f1' 26 (by decide)]; exact hL i hi) hN al
      rw [if_neg (nI_ge (by omega) (by omega)), if_pos (p_ib (show k < 41472 by omega) (by omega)), hf 36 (by decide), p_ix (by omega), rk.1, show nI (mcX (Q.getD k d0)) = nI (mcN (Q.getD k d0).sq (Q.getD k d0).tn) from rfl, e1, p_cl, hh, p_cl, hr]
      by_cases c : allr (fun i => anyr (lik al kd co (gP (Q.getD k d0).sq) L i) n 0) n 0 = true
      · rw [lowf_stop (p := fun j => allr (fun i => anyr (lik al kd co (gP (Q.getD j d0).sq) L i) n 0) n 0) (k := k) c, c, if_neg (by decide), if_pos (p_ib (show k < 41472 by omega) (by omega)), f1' 36 (by decide), rk.1]
        refine ⟨h1, ?_, f1'⟩
        unfold resM
        rw [if_pos (by omega)]
      · rw [lowf_go (p := fun j => allr (fun i => anyr (lik al kd co (gP (Q.getD j d0).sq) L i) n 0) n 0) (k := k) c, show allr (fun i => anyr (lik al kd co (gP (Q.getD k d0).sq) L i) n 0) n 0 = false by simpa using c, if_pos (by decide), p_lt, nI_1]
        have := ih (k + 1) h1 f1' (by omega) (by omega)
        rw [show Q.length - (k + 1) = r by omega] at this
        exact this
/-- alike false: the squares are the goals -/
theorem lik_false {n : Nat} {kd co : Nat → Nat} {l gl : List Nat} (hl : okL n l) (hg : okL n gl) : allr (fun i => anyr (lik false kd co (gP l) (gP gl) i) n 0) n 0 = decide (l = gl) := by
  have key : allr (fun i => anyr (lik false kd co (gP l) (gP gl) i) n 0) n 0 = true ↔ l = gl := by
    rw [allr_iff]
    constructor
    · intro h
      apply List.ext_getElem (by rw [hl.1, hg.1])
      intro i h1 h2
      have := h i (by omega) (by rw [hl.1] at h1; omega)
      obtain ⟨x, x1, x2, x3⟩ := (anyr_iff _ _ _).mp this
      unfold lik at x3
      rw [Bool.and_eq_true] at x3
      have e1 : i = x := by simpa using x3.1
      have e2 := of_decide_eq_true x3.2
      rw [← e1] at e2
      unfold gP at e2
      rw [List.getD_eq_getElem?_getD, List.getD_eq_getElem?_getD, List.getElem?_eq_getElem h1, List.getElem?_eq_getElem h2] at e2
      exact e2
    · rintro rfl i h1 h2
      exact (anyr_iff _ _ _).mpr ⟨i, by omega, by omega, by unfold lik; simp⟩
  by_cases c : l = gl
  · rw [decide_eq_true c, key.mpr c]
  · rw [decide_eq_false c]
    cases hx : allr (fun i => anyr (lik false kd co (gP l) (gP gl) i) n 0) n 0 with
    | false => rfl
    | true => exact absurd (key.mp hx) c
theorem lowf_congr {p q : Nat → Bool} : ∀ {r k : Nat}, (∀ x, k ≤ x → x < k + r → p x = q x) → lowf p r k = lowf q r k
  | 0, k, _ => rfl
  | r + 1, k, h => by
    show (if p k = true then k else lowf p r (k + 1)) = (if q k = true then k else lowf q r (k + 1))
    rw [h k (by omega) (by omega), lowf_congr (fun x h1 h2 => h x (by omega) (by omega))]
