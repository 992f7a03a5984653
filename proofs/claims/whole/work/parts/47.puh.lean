/-! ===== the search: positions as lists, their codes ===== -/
abbrev Nd : Type := (List Nat) × Nat × Nat × Nat × Nat × Nat
abbrev Nd.sq (x_ : Nd) : List Nat := x_.1
abbrev Nd.tn (x_ : Nd) : Nat := x_.2.1
abbrev Nd.dp (x_ : Nd) : Nat := x_.2.2.1
abbrev Nd.pa (x_ : Nd) : Nat := x_.2.2.2.1
abbrev Nd.mn (x_ : Nd) : Nat := x_.2.2.2.2.1
abbrev Nd.ms (x_ : Nd) : Nat := x_.2.2.2.2.2
def gP (l : List Nat) : Nat → Nat := fun i => l.getD i 0
/-- a list as a number, of base b -/
def cB (b : Nat) : List Nat → Nat
  | [] => 0
  | a :: l => a + b * cB b l
theorem cB_lt {b : Nat} (hb : 12 ≤ b) : ∀ {l : List Nat}, (∀ a ∈ l, a < 12) → cB b l < b ^ l.length
  | [], _ => by simp [cB]
  | a :: l, h => by
    have h1 := h a (List.mem_cons_self ..)
    have h2 := cB_lt hb (l := l) (fun x hx => h x (List.mem_cons_of_mem _ hx))
    show a + b * cB b l < b ^ (l.length + 1)
    have h3 : b * (cB b l + 1) ≤ b * b ^ l.length := Nat.mul_le_mul_left b h2
    rw [Nat.mul_add, Nat.mul_one] at h3
    rw [Nat.pow_succ, Nat.mul_comm (b ^ l.length) b]
    omega
theorem cB_inj {b : Nat} (hb : 12 ≤ b) : ∀ {l m : List Nat}, l.length = m.length → (∀ a ∈ l, a < 12) → (∀ a ∈ m, a < 12) → cB b l = cB b m → l = m
  | [], [], _, _, _, _ => rfl
  | [], _ :: _, h, _, _, _ => by cases h
  | _ :: _, [], h, _, _, _ => by cases h
  | a :: l, c :: m, h, hl, hm, e => by
    have h1 := hl a (List.mem_cons_self ..)
    have h2 := hm c (List.mem_cons_self ..)
    have e' : a + b * cB b l = c + b * cB b m := e
    have ha : a = c := by
      have := congrArg (fun x => x % b) e'
      simp only [Nat.add_mul_mod_self_left] at this
      rwa [Nat.mod_eq_of_lt (by omega), Nat.mod_eq_of_lt (by omega)] at this
    subst ha
    have e2 : b * cB b l = b * cB b m := by omega
    have e3 := Nat.eq_of_mul_eq_mul_left (by omega) e2
    rw [cB_inj hb (by simpa using h) (fun x hx => hl x (List.mem_cons_of_mem _ hx)) (fun x hx => hm x (List.mem_cons_of_mem _ hx)) e3]
theorem cB_at {b : Nat} (hb : 12 ≤ b) : ∀ {l : List Nat} {i : Nat}, (∀ a ∈ l, a < 12) → i < l.length → cB b l / b ^ i % b = gP l i
  | [], i, _, h => by cases h
  | a :: l, 0, h, _ => by
    have h1 := h a (List.mem_cons_self ..)
    show (a + b * cB b l) / b ^ 0 % b = a
    rw [Nat.pow_zero, Nat.div_one, Nat.add_mul_mod_self_left, Nat.mod_eq_of_lt (by omega)]
  | a :: l, i + 1, h, hi => by
    have h1 := h a (List.mem_cons_self ..)
    show (a + b * cB b l) / b ^ (i + 1) % b = gP l i
    rw [Nat.pow_succ, Nat.mul_comm (b ^ i) b, ← Nat.div_div_eq_div_mul, Nat.add_mul_div_left _ _ (by omega), Nat.div_eq_of_lt (show a < b by omega), Nat.zero_add]
    exact cB_at hb (fun x hx => h x (List.mem_cons_of_mem _ hx)) (by simpa using hi)
/-! the class's code -/
theorem bt_nI {c b : Nat} (hc : c < 2 ^ 32) (hb : b < 32) : bt (nI c) b = c.testBit b := by
  unfold bt nI
  show (BitVec.ofNat 32 c).getLsbD b = _
  rw [BitVec.getLsbD_ofNat]
  simp [hb]
theorem nI_or {a b : Nat} (ha : a < 2 ^ 32) (hb : b < 2 ^ 32) : nI a ||| nI b = nI (a ||| b) := by
  apply b_ext
  intro i hi
  rw [b_or, bt_nI ha hi, bt_nI hb hi, bt_nI (Nat.or_lt_two_pow ha hb) hi, Nat.testBit_or]
def c16 (l : List Nat) : Nat := cB 16 l
def okL (n : Nat) (l : List Nat) : Prop := l.length = n ∧ n ≤ 4 ∧ ∀ a ∈ l, a < 12
theorem c16_lt {n : Nat} {l : List Nat} (h : okL n l) : c16 l < 65536 := by
  have h1 := cB_lt (b := 16) (by omega) h.2.2
  have h2 : (16 : Nat) ^ l.length ≤ 16 ^ 4 := Nat.pow_le_pow_right (by omega) (by rw [h.1]; exact h.2.1)
  unfold c16
  omega
theorem gP_lt {n i : Nat} {l : List Nat} (h : okL n l) : gP l i < 12 := by
  unfold gP
  rcases Nat.lt_or_ge i l.length with c | c
  · rw [List.getD_eq_getElem?_getD, List.getElem?_eq_getElem c]
    exact h.2.2 _ (List.getElem_mem c)
  · rw [List.getD_eq_getElem?_getD, List.getElem?_eq_none c]
    simp
theorem s_4 : ∀ i, i < 4 → ((nI (4 * i) &&& 31).toBitVec.smod 32).toNat = 4 * i := by decide +kernel
theorem plc_c16 {n t i : Nat} {l : List Nat} (h : okL n l) (ht : t < 2) (hi : i < n) : plc (nI (c16 l + 65536 * t)) i = nI (gP l i) := by
  have hc := c16_lt h
  have h4 := h.2.1
  unfold plc
  rw [p_4, pk_shrN (by omega) _ (4 * i) (s_4 i (by omega)), pk_andN (by have : (c16 l + 65536 * t) / 2 ^ (4 * i) ≤ c16 l + 65536 * t := Nat.div_le_self _ _; omega) 4 (by decide)]
  congr 1
  have e := cB_at (b := 16) (by omega) h.2.2 (i := i) (by rw [h.1]; exact hi)
  rw [← e]
  have ii : i = 0 ∨ i = 1 ∨ i = 2 ∨ i = 3 := by omega
  unfold c16
  rcases ii with rfl | rfl | rfl | rfl <;> omega
theorem PC_c16 {n : Nat} {l : List Nat} (h : okL n l) : PC (nI (c16 l)) n (gP l) := by
  have hc := c16_lt h
  refine ⟨fun j hj hj2 => ?_, fun i hi => ⟨?_, gP_lt h⟩⟩
  · rw [bt_nI (by omega) hj]
    apply Nat.testBit_lt_two_pow
    have h1 := cB_lt (b := 16) (by omega) h.2.2
    rw [h.1] at h1
    unfold c16
    have : (16 : Nat) ^ n = 2 ^ (4 * n) := by rw [Nat.pow_mul]
    rw [this] at h1
    exact Nat.lt_of_lt_of_le h1 (Nat.pow_le_pow_right (by omega) hj2)
  · have := plc_c16 h (t := 0) (by omega) hi
    simpa using this
theorem gP_set {n i s : Nat} {l : List Nat} (h : l.length = n) (hi : i < n) : gP (l.set i s) = mvP (gP l) i s := by
  funext j
  unfold gP mvP
  simp only [List.getD_eq_getElem?_getD, List.getElem?_set]
  by_cases e : j = i
  · subst e; simp [h, hi]
  · simp [e, Ne.symm e]
theorem okL_set {n i s : Nat} {l : List Nat} (h : okL n l) (hs : s < 12) : okL n (l.set i s) := by
  refine ⟨by rw [List.length_set]; exact h.1, h.2.1, fun a ha => ?_⟩
  rcases List.mem_or_eq_of_mem_set ha with q | q
  · exact h.2.2 a q
  · rw [q]; exact hs
theorem mvd_c16 {n i s : Nat} {l : List Nat} (h : okL n l) (hi : i < n) (hs : s < 12) : mvd (nI (c16 l)) i (nI s) = nI (c16 (l.set i s)) := by
  have h1 := PC_mvd (PC_c16 h) h.2.1 hi hs
  have h2 := PC_c16 (okL_set h hs (i := i))
  refine ps_ext h1.1 h2.1 h.2.1 (fun j hj => ?_)
  rw [(h1.2 j hj).1, (h2.2 j hj).1, gP_set h.1 hi]
  rfl
/-- a position of the class is the code of its squares -/
theorem PC_uni {p : Int32} {n : Nat} {P : Nat → Nat} (hp : PC p n P) (hn : n ≤ 4) {l : List Nat} (hl : okL n l) (e : ∀ i, i < n → gP l i = P i) : p = nI (c16 l) := by
  have h2 := PC_c16 hl
  exact ps_ext hp.1 h2.1 hn (fun j hj => by rw [(hp.2 j hj).1, (h2.2 j hj).1, e j hj])
/-- code with the turn -/
def cdN (l : List Nat) (t : Nat) : Nat := c16 l + 65536 * t
theorem cd_or {n t : Nat} {l : List Nat} (h : okL n l) (ht : t < 2) : nI (c16 l) ||| (nI t <<< ((16 : Int32) &&& 31)) = nI (cdN l t) := by
  have hc := c16_lt h
  rw [pk_shlN ((16 : Int32) &&& 31) 16 (by decide) (by omega), nI_or (by omega) (by omega)]
  unfold cdN
  congr 1
  rw [Nat.or_comm, Nat.mul_comm 65536 t, show t * 65536 = 2 ^ 16 * t by omega, ← Nat.two_pow_add_eq_or_of_lt (by omega)]
  omega
theorem cd_and {n t : Nat} {l : List Nat} (h : okL n l) (ht : t < 2) : nI (cdN l t) &&& 65535 = nI (c16 l) := by
  have hc := c16_lt h
  unfold cdN
  rw [pk_andN (by omega) 16 (by decide)]
  congr 1
  omega
theorem cd_inj {n t u : Nat} {l m : List Nat} (hl : okL n l) (hm : okL n m) (e : cdN l t = cdN m u) : l = m ∧ t = u := by
  have h1 := c16_lt hl
  have h2 := c16_lt hm
  unfold cdN at e
  have e1 : c16 l = c16 m := by omega
  exact ⟨cB_inj (b := 16) (by omega) (by rw [hl.1, hm.1]) hl.2.2 hm.2.2 e1, by omega⟩
/-- the model's code -/
def mcN (l : List Nat) (t : Nat) : Nat := cB 12 l + 20736 * t
theorem c12_lt {n : Nat} {l : List Nat} (h : okL n l) : cB 12 l < 20736 := by
  have h1 := cB_lt (b := 12) (by omega) h.2.2
  have h2 : (12 : Nat) ^ l.length ≤ 12 ^ 4 := Nat.pow_le_pow_right (by omega) (by rw [h.1]; exact h.2.1)
  omega
theorem mc_inj {n t u : Nat} {l m : List Nat} (hl : okL n l) (hm : okL n m) (e : mcN l t = mcN m u) : l = m ∧ t = u := by
  have h1 := c12_lt hl
  have h2 := c12_lt hm
  unfold mcN at e
  have e1 : cB 12 l = cB 12 m := by omega
  exact ⟨cB_inj (b := 12) (by omega) (by rw [hl.1, hm.1]) hl.2.2 hm.2.2 e1, by omega⟩
/-! how many positions there are -/
def arr : Nat → List Nat → List (List Nat)
  | 0, _ => [[]]
  | n + 1, used => ((List.range 12).filter (fun a => !used.contains a)).flatMap (fun a => (arr n (a :: used)).map (fun l => a :: l))
theorem arr_in : ∀ {n : Nat} {used l : List Nat}, l.length = n → (∀ a ∈ l, a < 12) → l.Nodup → (∀ a ∈ l, a ∉ used) → l ∈ arr n used
  | 0, used, [], _, _, _, _ => by simp [arr]
  | 0, used, _ :: _, h, _, _, _ => by cases h
  | n + 1, used, [], h, _, _, _ => by cases h
  | n + 1, used, a :: l, h, h1, h2, h3 => by
    have hn := List.nodup_cons.mp h2
    unfold arr
    rw [List.mem_flatMap]
    refine ⟨a, ?_, ?_⟩
    · rw [List.mem_filter]
      refine ⟨List.mem_range.mpr (h1 a (List.mem_cons_self ..)), ?_⟩
      have := h3 a (List.mem_cons_self ..)
      simpa using this
    · rw [List.mem_map]
      refine ⟨l, arr_in (by simpa using h) (fun x hx => h1 x (List.mem_cons_of_mem _ hx)) hn.2 (fun x hx => ?_), rfl⟩
      rw [List.mem_cons]
      rintro (z | z)
      · exact hn.1 (z ▸ hx)
      · exact h3 x (List.mem_cons_of_mem _ hx) z
theorem arr_len : ∀ n, n < 5 → (arr n []).length ≤ 11880 := by decide +kernel
def key (x : Nd) : List Nat × Nat := (x.sq, x.tn)
theorem q_len {n : Nat} {Q : List Nd} (h1 : (Q.map key).Nodup) (h2 : ∀ x ∈ Q, okL n x.sq ∧ x.sq.Nodup ∧ x.tn < 2) : Q.length ≤ 23760 := by
  rcases Q with _ | ⟨q, Q⟩
  · simp
  have hn := (h2 q (List.mem_cons_self ..)).1.2.1
  generalize q :: Q = Q' at *
  have := nd_len h1 (m := (arr n []).map (fun l => (l, 0)) ++ (arr n []).map (fun l => (l, 1))) (fun k hk => by
    obtain ⟨x, hx, rfl⟩ := List.mem_map.mp hk
    obtain ⟨a1, a2, a3⟩ := h2 x hx
    have ain := arr_in (used := []) a1.1 a1.2.2 a2 (fun a _ => by simp)
    rw [List.mem_append]
    have ht : x.tn = 0 ∨ x.tn = 1 := by omega
    rcases ht with e | e
    · left; rw [List.mem_map]; exact ⟨x.sq, ain, by unfold key; rw [e]⟩
    · right; rw [List.mem_map]; exact ⟨x.sq, ain, by unfold key; rw [e]⟩)
  have hl := arr_len n (by omega)
  simp at this
  omega
