/-! ===== what is read off the search ===== -/
/-- what both sides know of the queue -/
def QK (n : Nat) (Q : List Nd) : Prop := (Q.length ≤ 23760) ∧ (0 < Q.length) ∧ (∀ j, j < Q.length → okL n (Q.getD j d0).sq ∧ (Q.getD j d0).tn < 2) ∧ (∀ j, j < Q.length → (Q.getD j d0).dp ≤ j)
theorem QK.len {n : Nat} {Q : List Nd} (q_ : QK n Q) : Q.length ≤ 23760 := q_.1
theorem QK.ne {n : Nat} {Q : List Nd} (q_ : QK n Q) : 0 < Q.length := q_.2.1
theorem QK.ok {n : Nat} {Q : List Nd} (q_ : QK n Q) : ∀ j, j < Q.length → okL n (Q.getD j d0).sq ∧ (Q.getD j d0).tn < 2 := q_.2.2.1
theorem QK.dj {n : Nat} {Q : List Nd} (q_ : QK n Q) : ∀ j, j < Q.length → (Q.getD j d0).dp ≤ j := q_.2.2.2
theorem QK_of {p : Pm} {z t : Nat} {Q : List Nd} (V : VQ p z t Q) : QK p.n Q := ⟨VQ_len V, V.ne, fun j hj => ⟨(V.ok _ (getD_in hj)).1, (V.ok _ (getD_in hj)).2.2.2.1⟩, V.dj⟩
def resC (r n : Nat) : Int32 := if r < n then nI r else -1
theorem lowf_stop {p : Nat → Bool} {r k : Nat} (h : p k = true) : lowf p (r + 1) k = k := by
  show (if p k = true then k else _) = k
  rw [if_pos h]
theorem lowf_go {p : Nat → Bool} {r k : Nat} (h : ¬ p k = true) : lowf p (r + 1) k = lowf p r (k + 1) := by
  show (if p k = true then k else _) = _
  rw [if_neg h]
theorem pu_firstHome_l (N : Nat) (h : Hp) {n : Nat} {Q : List Nd} (K : QK n Q) (R : RC h Q) {gl : List Nat} (hg : h.1 1 6 = nI (c16 gl)) (hgl : okL n gl) : ∀ (e k : Nat), k ≤ Q.length → Q.length - k < e → f_X4_firstHome_l2 N e (nI k) h = some (resC (lowf (fun j => decide ((Q.getD j d0).sq = gl)) (Q.length - k) k) Q.length, h) := by
  have hlen := K.len
  intro e
  induction e with
  | zero => intro k _ h2; omega
  | succ e ih =>
    intro k hk he
    show f_X4_firstHome_b2 N (f_X4_firstHome_l2 N e) (nI k) h = _
    unfold f_X4_firstHome_b2
    rw [R.1]
    by_cases hc : k = Q.length
    · subst hc
      rw [if_pos (nI_le (Nat.le_refl _) (by omega)), Nat.sub_self]
      unfold resC
      rw [show lowf (fun j => decide ((Q.getD j d0).sq = gl)) 0 Q.length = Q.length from rfl, if_neg (show ¬ Q.length < Q.length by omega)]
    · have o := K.ok k (by omega)
      obtain ⟨r, hr⟩ : ∃ r, Q.length - k = r + 1 := ⟨Q.length - k - 1, by omega⟩
      rw [if_neg (nI_ge (by omega) (by omega)), if_pos (p_ib (show k < 23760 by omega) (by omega)), p_ix (by omega), (R.2 k (by omega)).1, cd_and o.1 o.2, hg, hr]
      have l1 := c16_lt o.1
      have l2 := c16_lt hgl
      by_cases c : (Q.getD k d0).sq = gl
      · rw [if_pos (by rw [c]), lowf_stop (by simpa using c)]
        unfold resC
        rw [if_pos (by omega)]
      · rw [if_neg (by
          rw [nI_eq (by omega) (by omega)]
          intro z
          exact c (cB_inj (b := 16) (by omega) (by rw [o.1.1, hgl.1]) o.1.2.2 hgl.2.2 z)), lowf_go (by simpa using c), p_lt, nI_1, ih (k + 1) (by omega) (by omega), show Q.length - (k + 1) = r by omega]
theorem pu_firstHome (N : Nat) (hN : 30000 ≤ N) (h : Hp) {n : Nat} {Q : List Nd} (K : QK n Q) (R : RC h Q) {gl : List Nat} (hg : h.1 1 6 = nI (c16 gl)) (hgl : okL n gl) : f_X4_firstHome N h = some (resC (lowf (fun j => decide ((Q.getD j d0).sq = gl)) Q.length 0) Q.length, h) := by
  have hlen := K.len
  unfold f_X4_firstHome
  rw [p_lt]
  exact pu_firstHome_l N h K R hg hgl N 0 (by omega) (by omega)
theorem pu_depthOf (N : Nat) (h : Hp) {n : Nat} {Q : List Nd} (K : QK n Q) (R : RC h Q) (r : Nat) : f_X4_depthOf N (resC r Q.length) h = some (if r < Q.length then nI (Q.getD r d0).dp else -1, h) := by
  have hlen := K.len
  unfold f_X4_depthOf f_X4_depthOf_b12 f_X4_depthOf_b22 resC
  by_cases c : r < Q.length
  · rw [if_pos c, if_neg (nI_pos (n := r) (by omega)), R.1, if_pos (nI_lt c (by omega)), if_pos (p_ib (show r < 23760 by omega) (by omega)), p_ix (by omega), (R.2 r c).2.1, if_pos c]
  · rw [if_neg c, if_pos p_m1, if_neg c]
theorem pu_howMany_l (N : Nat) (h : Hp) {n : Nat} {Q : List Nd} (K : QK n Q) (R : RC h Q) (a : Int32) : ∀ (e k : Nat), k ≤ Q.length → Q.length - k < e → f_X4_howMany_l4 N e a (nI (cnt (fun j => decide (nI (Q.getD j d0).dp = a)) k)) (nI k) h = some (nI (cnt (fun j => decide (nI (Q.getD j d0).dp = a)) Q.length), h) := by
  have hlen := K.len
  intro e
  induction e with
  | zero => intro k _ h2; omega
  | succ e ih =>
    intro k hk he
    show f_X4_howMany_b4 N (f_X4_howMany_l4 N e) a _ (nI k) h = _
    unfold f_X4_howMany_b4 f_X4_howMany_b25
    rw [R.1]
    by_cases hc : k = Q.length
    · subst hc
      rw [if_pos (nI_le (Nat.le_refl _) (by omega))]
    · have step := ih (k + 1) (by omega) (by omega)
      rw [cnt_s] at step
      rw [if_neg (nI_ge (by omega) (by omega)), if_pos (p_ib (show k < 23760 by omega) (by omega)), p_ix (by omega), (R.2 k (by omega)).2.1]
      by_cases c : nI (Q.getD k d0).dp = a
      · rw [if_pos (by simpa using c)] at step
        rw [if_pos c, p_lt, p_lt, nI_1, nI_1]
        exact step
      · rw [if_neg (by simpa using c)] at step
        rw [if_neg c, p_lt, nI_1]
        exact step
theorem pu_howMany (N : Nat) (hN : 30000 ≤ N) (h : Hp) {n : Nat} {Q : List Nd} (K : QK n Q) (R : RC h Q) (a : Int32) : f_X4_howMany N a h = some (nI (cnt (fun j => decide (nI (Q.getD j d0).dp = a)) Q.length), h) := by
  have hlen := K.len
  unfold f_X4_howMany
  rw [p_lt, p_lt]
  exact pu_howMany_l N h K R a N 0 (by omega) (by omega)
theorem pm_many_l (N : Nat) (h : Hp) {n : Nat} {Q : List Nd} (K : QK n Q) (R : RM n h Q) (a : Int32) : ∀ (e k : Nat), k ≤ Q.length → Q.length - k < e → f_X8_many_l15 N e a (nI (cnt (fun j => decide (nI (Q.getD j d0).dp = a)) k)) (nI k) h = some (nI (cnt (fun j => decide (nI (Q.getD j d0).dp = a)) Q.length), h) := by
  have hlen := K.len
  intro e
  induction e with
  | zero => intro k _ h2; omega
  | succ e ih =>
    intro k hk he
    show f_X8_many_b15 N (f_X8_many_l15 N e) a _ (nI k) h = _
    unfold f_X8_many_b15 f_X8_many_b44
    rw [R.1]
    by_cases hc : k = Q.length
    · subst hc
      rw [if_pos (nI_le (Nat.le_refl _) (by omega))]
    · have step := ih (k + 1) (by omega) (by omega)
      rw [cnt_s] at step
      have o := K.ok k (by omega)
      have hm : mcX (Q.getD k d0) < 41472 := mc_lt o.1 o.2
      have rk := R.2.1 k (by omega)
      rw [if_neg (nI_ge (by omega) (by omega)), if_pos (p_ib (show k < 41472 by omega) (by omega)), p_ix (by omega), rk.1, if_pos (p_ib hm (by omega)), p_ix (by omega), rk.2.1]
      by_cases c : nI (Q.getD k d0).dp = a
      · rw [if_pos (by simpa using c)] at step
        rw [if_pos c, p_lt, p_lt, nI_1, nI_1]
        exact step
      · rw [if_neg (by simpa using c)] at step
        rw [if_neg c, p_lt, p_lt, nI_1, show ∀ a : Nat, nI a + 0 = nI a from fun a => nI_add a 0]
        exact step
theorem pm_far_l (N : Nat) (h : Hp) {n : Nat} {Q : List Nd} (K : QK n Q) (R : RM n h Q) (v a : Int32) : ∀ (e k : Nat), k ≤ Q.length → Q.length - k < e → f_X8_farthest_l38 N e v a (nI (cnt (fun j => decide (nI (Q.getD j d0).dp = a)) k)) (nI k) h = some (if v = 0 then a else nI (cnt (fun j => decide (nI (Q.getD j d0).dp = a)) Q.length), h) := by
  have hlen := K.len
  intro e
  induction e with
  | zero => intro k _ h2; omega
  | succ e ih =>
    intro k hk he
    show f_X8_farthest_b38 N (f_X8_farthest_l38 N e) v a _ (nI k) h = _
    unfold f_X8_farthest_b38 f_X8_farthest_b69 f_X8_farthest_b86
    rw [R.1]
    by_cases hc : k = Q.length
    · subst hc
      rw [if_pos (nI_le (Nat.le_refl _) (by omega))]
      by_cases c : v = 0
      · rw [if_pos c, if_pos c]
      · rw [if_neg c, if_neg c]
    · have step := ih (k + 1) (by omega) (by omega)
      rw [cnt_s] at step
      have o := K.ok k (by omega)
      have hm : mcX (Q.getD k d0) < 41472 := mc_lt o.1 o.2
      have rk := R.2.1 k (by omega)
      rw [if_neg (nI_ge (by omega) (by omega)), if_pos (p_ib (show k < 41472 by omega) (by omega)), p_ix (by omega), rk.1, if_pos (p_ib hm (by omega)), p_ix (by omega), rk.2.1]
      by_cases c : nI (Q.getD k d0).dp = a
      · rw [if_pos (by simpa using c)] at step
        rw [if_pos c, p_lt, p_lt, nI_1, nI_1]
        exact step
      · rw [if_neg (by simpa using c)] at step
        rw [if_neg c, p_lt, p_lt, nI_1, show ∀ a : Nat, nI a + 0 = nI a from fun a => nI_add a 0]
        exact step
/-! who is at home -/
def anyr (p : Nat → Bool) : Nat → Nat → Bool
  | 0, _ => false
  | r + 1, k => p k || anyr p r (k + 1)
theorem anyr_iff (p : Nat → Bool) : ∀ (r k : Nat), anyr p r k = true ↔ ∃ x, k ≤ x ∧ x < k + r ∧ p x = true
  | 0, k => by
    constructor
    · intro h
      have h' : false = true := h
      cases h'
    · rintro ⟨x, h1, h2, _⟩
      omega
  | r + 1, k => by
    show (p k || anyr p r (k + 1)) = true ↔ _
    rw [Bool.or_eq_true, anyr_iff p r (k + 1)]
    constructor
    · rintro (h | ⟨x, h1, h2, h3⟩)
      · exact ⟨k, by omega, by omega, h⟩
      · exact ⟨x, by omega, by omega, h3⟩
    · rintro ⟨x, h1, h2, h3⟩
      by_cases e : x = k
      · exact Or.inl (e ▸ h3)
      · exact Or.inr ⟨x, by omega, by omega, h3⟩
def lik (al : Bool) (kd co : Nat → Nat) (P L : Nat → Nat) (i j : Nat) : Bool := (decide (i = j) || (al && (decide (kd i = kd j) && decide (co i = co j)))) && decide (P i = L j)
def b2i (b : Bool) : Int32 := if b = true then 1 else 0
section AH
theorem pm_home_in (N : Nat) (h : Hp) {n : Nat} {kd co : Nat → Nat} (hB : BM h n kd co) {P L : Nat → Nat} (hP : ∀ i, i < n → h.1 39 i = nI (P i) ∧ P i < 12) (hL : ∀ i, i < n → h.1 26 (4 * i + 3) = nI (L i) ∧ L i < 12) (k4 : Int32 → Int32 → Int32 → Hp → Option Rs) (al : Bool) (ar : Bool) {i : Nat} (hi : i < n) : ∀ (e j : Nat) (b : Bool), j ≤ n → n - j < e → f_X8_areHome_l18 N k4 e (b2i al) (b2i ar) (nI i) (b2i b) (nI j) h = k4 (b2i al) (b2i (ar && (b || anyr (lik al kd co P L i) (n - j) j))) (nI (i + 1)) h := by
  obtain ⟨hn, hn4, hB⟩ := hB
  intro e
  induction e with
  | zero => intro j b _ h2; omega
  | succ e ih =>
    intro j b hj he
    show f_X8_areHome_b18 N k4 (f_X8_areHome_l18 N k4 e) (b2i al) (b2i ar) (nI i) (b2i b) (nI j) h = _
    unfold f_X8_areHome_b18
    rw [hn]
    by_cases hc : j = n
    · subst hc
      rw [if_pos (nI_le (Nat.le_refl _) (by omega)), Nat.sub_self]
      unfold f_X8_areHome_b144 f_X8_areHome_b145
      simp only [p_lt, nI_1]
      cases ar <;> cases b <;> rfl
    · obtain ⟨a1, a2, a3, a4⟩ := hB i hi
      obtain ⟨c1, c2, c3, c4⟩ := hB j (by omega)
      have p1 := hP i hi
      have l1 := hL j (by omega)
      obtain ⟨r, hr⟩ : ∃ r, n - j = r + 1 := ⟨n - j - 1, by omega⟩
      have step := fun b => ih (j + 1) b (by omega) (by omega)
      rw [show n - (j + 1) = r by omega] at step
      rw [if_neg (nI_ge (by omega) (by omega)), hr]
      show _ = k4 (b2i al) (b2i (ar && (b || (lik al kd co P L i j || anyr (lik al kd co P L i) r (j + 1))))) (nI (i + 1)) h
      have hlik : ∀ q : Bool, (b || (q || anyr (lik al kd co P L i) r (j + 1))) = ((b || q) || anyr (lik al kd co P L i) r (j + 1)) := fun q => by rw [Bool.or_assoc]
      rw [hlik, ← step]
      have tail : ∀ q : Bool, f_X8_areHome_b86 N k4 (f_X8_areHome_l18 N k4 e) (b2i al) (b2i ar) (nI i) (b2i b) (nI j) (b2i q) h = f_X8_areHome_l18 N k4 e (b2i al) (b2i ar) (nI i) (b2i (b || (q && decide (P i = L j)))) (nI (j + 1)) h := by
        intro q
        unfold f_X8_areHome_b86 f_X8_areHome_b118 f_X8_areHome_b122 f_X8_areHome_b123
        simp only [p_lt, nI_1]
        rw [show (4 : Int32) * nI j + 3 = nI (4 * j + 3) by rw [p_4x]; exact nI_add _ 3, if_pos (p_ib (by omega) (by omega)), if_pos (p_ib (by omega) (by omega)), p_ix (by omega), p_ix (by omega), p1.1, l1.1]
        cases b
        · rw [if_pos (by decide)]
          cases q
          · rw [if_pos (by decide)]; rfl
          · rw [if_neg (by decide)]
            by_cases c : P i = L j
            · rw [if_pos (by rw [c]), decide_eq_true c]; rfl
            · rw [if_neg (by rw [nI_eq (by omega) (by omega)]; exact c), decide_eq_false c]; rfl
        · rw [if_neg (by decide)]; rfl
      unfold f_X8_areHome_b81 f_X8_areHome_b85 lik
      by_cases c5 : i = j
      · rw [if_pos (by rw [c5]), decide_eq_true c5, Bool.true_or]
        exact tail true
      · rw [if_neg (by rw [nI_eq (by omega) (by omega)]; exact c5), decide_eq_false c5, Bool.false_or]
        cases al
        · rw [if_pos (by decide)]
          exact tail false
        · rw [if_neg (by decide), p_4x, p_4x, nI_1, nI_1, if_pos (p_ib (by omega) (by omega)), if_pos (p_ib (by omega) (by omega)), if_pos (p_ib (by omega) (by omega)), if_pos (p_ib (by omega) (by omega)), p_ix (by omega), p_ix (by omega), p_ix (by omega), p_ix (by omega), a1, c1, a3, c3]
          by_cases c6 : kd i = kd j
          · rw [if_pos (by rw [c6]), decide_eq_true c6]
            by_cases c7 : co i = co j
            · rw [if_pos (by rw [c7]), decide_eq_true c7]
              exact tail true
            · rw [if_neg (by rw [nI_eq (by omega) (by omega)]; exact c7), decide_eq_false c7]
              exact tail false
          · rw [if_neg (by rw [nI_eq (by omega) (by omega)]; exact c6), decide_eq_false c6]
            exact tail false
theorem pm_home_l (N : Nat) (h : Hp) {n : Nat} {kd co : Nat → Nat} (hB : BM h n kd co) {P L : Nat → Nat} (hP : ∀ i, i < n → h.1 39 i = nI (P i) ∧ P i < 12) (hL : ∀ i, i < n → h.1 26 (4 * i + 3) = nI (L i) ∧ L i < 12) (hN : 20 ≤ N) (al : Bool) : ∀ (e i : Nat) (ar : Bool), i ≤ n → n - i < e → f_X8_areHome_l4 N e (b2i al) (b2i ar) (nI i) h = some (b2i (ar && allr (fun i => anyr (lik al kd co P L i) n 0) (n - i) i), h) := by
  have hn := hB.1
  have hn4 := hB.2.1
  intro e
  induction e with
  | zero => intro i ar _ h2; omega
  | succ e ih =>
    intro i ar hi he
    show f_X8_areHome_b4 N (f_X8_areHome_l4 N e) (b2i al) (b2i ar) (nI i) h = _
    unfold f_X8_areHome_b4
    rw [hn]
    by_cases hc : i = n
    · subst hc
      rw [if_pos (nI_le (Nat.le_refl _) (by omega)), Nat.sub_self]
      cases ar <;> rfl
    · obtain ⟨r, hr⟩ : ∃ r, n - i = r + 1 := ⟨n - i - 1, by omega⟩
      rw [if_neg (nI_ge (by omega) (by omega)), p_lt, p_lt]
      refine (pm_home_in N h hB hP hL (f_X8_areHome_l4 N e) al ar (show i < n by omega) N 0 false (by omega) (by omega)).trans ?_
      rw [ih (i + 1) _ (by omega) (by omega), hr, show n - (i + 1) = r by omega, Nat.sub_zero, Bool.false_or, Bool.and_assoc]
      rfl
theorem pm_areHome (N : Nat) (h : Hp) {n : Nat} {kd co : Nat → Nat} (hB : BM h n kd co) {P L : Nat → Nat} (hP : ∀ i, i < n → h.1 39 i = nI (P i) ∧ P i < 12) (hL : ∀ i, i < n → h.1 26 (4 * i + 3) = nI (L i) ∧ L i < 12) (hN : 20 ≤ N) (al : Bool) : f_X8_areHome N (b2i al) h = some (b2i (allr (fun i => anyr (lik al kd co P L i) n 0) n 0), h) := by
  have hn4 := hB.2.1
  unfold f_X8_areHome
  rw [p_lt, p_lt]
  exact pm_home_l N h hB hP hL hN al N 0 true (by omega) (by omega)
end AH
