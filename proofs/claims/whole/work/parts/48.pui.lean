/-! ===== the search, without the heap ===== -/
/-- what a search is asked of: table, men, kinds, colours, holes, law, the board's size -/
abbrev Pm : Type := (Nat → Int32) × Nat × (Nat → Nat) × (Nat → Nat) × Int32 × Int32
abbrev Pm.T (x_ : Pm) : Nat → Int32 := x_.1
abbrev Pm.n (x_ : Pm) : Nat := x_.2.1
abbrev Pm.kd (x_ : Pm) : Nat → Nat := x_.2.2.1
abbrev Pm.co (x_ : Pm) : Nat → Nat := x_.2.2.2.1
abbrev Pm.ho (x_ : Pm) : Int32 := x_.2.2.2.2.1
abbrev Pm.lw (x_ : Pm) : Int32 := x_.2.2.2.2.2
def d0 : Nd := ⟨[], 0, 0, 0, 0, 0⟩
def okH (p : Pm) (x : Nd) (i s : Nat) : Bool := bt (opn p.T p.n p.kd p.co (gP x.sq) p.ho p.lw i x.tn) s && stnd p.T p.n p.kd p.co (mvP (gP x.sq) i s) p.ho p.lw
def tn' (p : Pm) (t : Nat) : Nat := if p.lw = 1 then 1 - t else 0
def hasK (Q : List Nd) (l : List Nat) (t : Nat) : Bool := Q.any (fun y => decide (key y = (l, t)))
def nxt (p : Pm) (x : Nd) (j i s : Nat) : Nd := ⟨x.sq.set i s, tn' p x.tn, x.dp + 1, j, i, s⟩
/-- one hop tried -/
def cnd (p : Pm) (x : Nd) (j i s : Nat) (Q : List Nd) : List Nd := if okH p x i s = true ∧ hasK Q (x.sq.set i s) (tn' p x.tn) = false then Q ++ [nxt p x j i s] else Q
def bs (p : Pm) (x : Nd) (j i : Nat) : Nat → Nat → List Nd → List Nd
  | 0, _, Q => Q
  | r + 1, s, Q => bs p x j i r (s + 1) (cnd p x j i s Q)
def bm (p : Pm) (x : Nd) (j : Nat) : Nat → Nat → List Nd → List Nd
  | 0, _, Q => Q
  | r + 1, i, Q => bm p x j r (i + 1) (bs p x j i 12 0 Q)
def bq (p : Pm) : Nat → Nat → List Nd → List Nd
  | 0, _, Q => Q
  | r + 1, j, Q => if j < Q.length then bq p r (j + 1) (bm p (Q.getD j d0) j p.n 0 Q) else Q
def bfs (p : Pm) (l : List Nat) (t : Nat) : List Nd := bq p 23761 0 [⟨l, t, 0, 0, 0, 0⟩]
/-- what is true of a node, of a queue -/
def okN (p : Pm) (z : Nat) (x : Nd) : Prop := okL p.n x.sq ∧ (∀ a ∈ x.sq, a < z) ∧ x.sq.Nodup ∧ x.tn < 2 ∧ (p.lw ≠ 1 → x.tn = 0)
def VQ (p : Pm) (z t0 : Nat) (Q : List Nd) : Prop := (∀ x ∈ Q, okN p z x) ∧ ((Q.map key).Nodup) ∧ (0 < Q.length) ∧ ((Q.getD 0 d0).dp = 0) ∧ (∀ j, 0 < j → j < Q.length → (Q.getD j d0).pa < j ∧ (Q.getD j d0).dp = (Q.getD (Q.getD j d0).pa d0).dp + 1 ∧ (Q.getD j d0).mn < p.n ∧ (Q.getD j d0).ms < 12 ∧ (Q.getD j d0).sq = (Q.getD (Q.getD j d0).pa d0).sq.set (Q.getD j d0).mn (Q.getD j d0).ms ∧ gP (Q.getD (Q.getD j d0).pa d0).sq (Q.getD j d0).mn ≠ (Q.getD j d0).ms) ∧ (∀ x ∈ Q, p.lw = 1 → x.tn = (t0 + x.dp) % 2) ∧ (∀ j, j < Q.length → (Q.getD j d0).dp ≤ j)
theorem VQ.ok {p : Pm} {z t0 : Nat} {Q : List Nd} (q_ : VQ p z t0 Q) : ∀ x ∈ Q, okN p z x := q_.1
theorem VQ.nd {p : Pm} {z t0 : Nat} {Q : List Nd} (q_ : VQ p z t0 Q) : (Q.map key).Nodup := q_.2.1
theorem VQ.ne {p : Pm} {z t0 : Nat} {Q : List Nd} (q_ : VQ p z t0 Q) : 0 < Q.length := q_.2.2.1
theorem VQ.d1 {p : Pm} {z t0 : Nat} {Q : List Nd} (q_ : VQ p z t0 Q) : (Q.getD 0 d0).dp = 0 := q_.2.2.2.1
theorem VQ.par {p : Pm} {z t0 : Nat} {Q : List Nd} (q_ : VQ p z t0 Q) : ∀ j, 0 < j → j < Q.length → (Q.getD j d0).pa < j ∧ (Q.getD j d0).dp = (Q.getD (Q.getD j d0).pa d0).dp + 1 ∧ (Q.getD j d0).mn < p.n ∧ (Q.getD j d0).ms < 12 ∧ (Q.getD j d0).sq = (Q.getD (Q.getD j d0).pa d0).sq.set (Q.getD j d0).mn (Q.getD j d0).ms ∧ gP (Q.getD (Q.getD j d0).pa d0).sq (Q.getD j d0).mn ≠ (Q.getD j d0).ms := q_.2.2.2.2.1
theorem VQ.tr {p : Pm} {z t0 : Nat} {Q : List Nd} (q_ : VQ p z t0 Q) : ∀ x ∈ Q, p.lw = 1 → x.tn = (t0 + x.dp) % 2 := q_.2.2.2.2.2.1
theorem VQ.dj {p : Pm} {z t0 : Nat} {Q : List Nd} (q_ : VQ p z t0 Q) : ∀ j, j < Q.length → (Q.getD j d0).dp ≤ j := q_.2.2.2.2.2.2
theorem VQ_len {p : Pm} {z t0 : Nat} {Q : List Nd} (h : VQ p z t0 Q) : Q.length ≤ 23760 := q_len h.nd (fun x hx => ⟨(h.ok x hx).1, (h.ok x hx).2.2.1, (h.ok x hx).2.2.2.1⟩)
theorem getD_in {Q : List Nd} {j : Nat} (h : j < Q.length) : Q.getD j d0 ∈ Q := by
  rw [List.getD_eq_getElem?_getD, List.getElem?_eq_getElem h]
  exact List.getElem_mem h
theorem getD_app {Q R : List Nd} {j : Nat} (h : j < Q.length) : (Q ++ R).getD j d0 = Q.getD j d0 := by
  rw [List.getD_eq_getElem?_getD, List.getD_eq_getElem?_getD, List.getElem?_append_left h]
theorem getD_last {Q : List Nd} {x : Nd} : (Q ++ [x]).getD Q.length d0 = x := by
  rw [List.getD_eq_getElem?_getD, List.getElem?_append_right (Nat.le_refl _)]
  simp
theorem hasK_iff {Q : List Nd} {l : List Nat} {t : Nat} : hasK Q l t = true ↔ (l, t) ∈ Q.map key := by
  unfold hasK
  rw [List.any_eq_true, List.mem_map]
  constructor
  · rintro ⟨x, h1, h2⟩; exact ⟨x, h1, of_decide_eq_true h2⟩
  · rintro ⟨x, h1, h2⟩; exact ⟨x, h1, decide_eq_true h2⟩
theorem gP_in {l : List Nat} {i : Nat} (h : i < l.length) : gP l i ∈ l := by
  unfold gP
  rw [List.getD_eq_getElem?_getD, List.getElem?_eq_getElem h]
  exact List.getElem_mem h
theorem set_nodup {l : List Nat} {i s : Nat} (h : l.Nodup) (hs : s ∉ l) : (l.set i s).Nodup := by
  rw [List.nodup_iff_pairwise_ne, List.pairwise_iff_getElem] at h ⊢
  intro a b ha hb hab
  rw [List.length_set] at ha hb
  have q := h a b ha hb hab
  have na : ∀ c (hc : c < l.length), l[c] ≠ s := fun c hc z => hs (z ▸ List.getElem_mem hc)
  rw [List.getElem_set, List.getElem_set]
  by_cases c1 : i = a
  · subst c1
    rw [if_pos rfl, if_neg (by omega)]
    exact Ne.symm (na b hb)
  · rw [if_neg c1]
    by_cases c2 : i = b
    · rw [if_pos c2]; exact na a ha
    · rw [if_neg c2]; exact q
/-- a hop that is tried keeps all -/
theorem VQ_cnd {p : Pm} {z t0 : Nat} {Q : List Nd} (hz : z ≤ 12) (hop : ∀ (x : Nd), x ∈ Q → ∀ i s, i < p.n → s < 32 → bt (opn p.T p.n p.kd p.co (gP x.sq) p.ho p.lw i x.tn) s = true → s < z) (h : VQ p z t0 Q) {j i s : Nat} (hj : j < Q.length) (hi : i < p.n) (hs : s < 12) : VQ p z t0 (cnd p (Q.getD j d0) j i s Q) := by
  unfold cnd
  split
  · rename_i c
    obtain ⟨c1, c2⟩ := c
    have hx := getD_in hj
    obtain ⟨o1, o2, o3, o4, o5⟩ := h.ok _ hx
    generalize ex : Q.getD j d0 = x at *
    unfold okH at c1
    rw [Bool.and_eq_true] at c1
    have sz := hop x hx i s hi (by omega) c1.1
    have free := opn_free (fun k _ => gP_lt o1) (by omega) c1.1
    have hsn : s ∉ x.sq := by
      intro hm
      obtain ⟨k, hk, e⟩ := List.getElem_of_mem hm
      refine free k (by rw [← o1.1]; exact hk) ?_
      unfold gP
      rw [List.getD_eq_getElem?_getD, List.getElem?_eq_getElem hk]
      exact e
    have okx : okN p z (nxt p x j i s) := by
      refine ⟨okL_set o1 hs, fun a ha => ?_, set_nodup o3 hsn, ?_, fun hl => ?_⟩
      · rcases List.mem_or_eq_of_mem_set ha with q | q
        · exact o2 a q
        · rw [q]; exact sz
      · show tn' p x.tn < 2
        unfold tn'
        split <;> omega
      · show tn' p x.tn = 0
        unfold tn'
        rw [if_neg hl]
    have hlen : (Q ++ [nxt p x j i s]).length = Q.length + 1 := by simp
    refine ⟨?_, ?_, by omega, ?_, ?_, ?_, ?_⟩
    · intro y hy
      rw [List.mem_append, List.mem_singleton] at hy
      rcases hy with hy | rfl
      · exact h.ok y hy
      · exact okx
    · rw [List.map_append, List.nodup_append]
      refine ⟨h.nd, by simp, ?_⟩
      intro a ha b hb
      simp only [List.map_cons, List.map_nil, List.mem_singleton] at hb
      rintro rfl
      rw [hb] at ha
      have : hasK Q (x.sq.set i s) (tn' p x.tn) = true := hasK_iff.mpr ha
      rw [c2] at this
      cases this
    · rw [getD_app h.ne]; exact h.d1
    · intro k hk0 hk
      by_cases hkl : k < Q.length
      · obtain ⟨a1, a2, a3, a4, a5, a6⟩ := h.par k hk0 hkl
        rw [getD_app hkl, getD_app (by omega)]
        exact ⟨a1, a2, a3, a4, a5, a6⟩
      · have e : k = Q.length := by omega
        subst e
        rw [getD_last]
        show j < Q.length ∧ x.dp + 1 = ((Q ++ [nxt p x j i s]).getD j d0).dp + 1 ∧ i < p.n ∧ s < 12 ∧ x.sq.set i s = ((Q ++ [nxt p x j i s]).getD j d0).sq.set i s ∧ gP ((Q ++ [nxt p x j i s]).getD j d0).sq i ≠ s
        rw [getD_app hj, ex]
        exact ⟨hj, rfl, hi, hs, rfl, free i hi⟩
    · intro y hy hl
      rw [List.mem_append, List.mem_singleton] at hy
      rcases hy with hy | rfl
      · exact h.tr y hy hl
      · show tn' p x.tn = (t0 + (x.dp + 1)) % 2
        unfold tn'
        rw [if_pos hl]
        have := h.tr x hx hl
        omega
    · intro k hk
      by_cases hkl : k < Q.length
      · rw [getD_app hkl]; exact h.dj k hkl
      · have e : k = Q.length := by omega
        subst e
        rw [getD_last]
        have := h.dj j hj
        rw [ex] at this
        show x.dp + 1 ≤ _
        omega
  · exact h
theorem cnd_pre (p : Pm) (x : Nd) (j i s : Nat) (Q : List Nd) : ∃ R, cnd p x j i s Q = Q ++ R := by
  unfold cnd
  split
  · exact ⟨_, rfl⟩
  · exact ⟨[], by simp⟩
/-- the start -/
theorem VQ_0 {p : Pm} {z t : Nat} {l : List Nat} (h : okN p z ⟨l, t, 0, 0, 0, 0⟩) : VQ p z t [⟨l, t, 0, 0, 0, 0⟩] := by
  refine ⟨?_, by simp, by simp, rfl, fun j h1 h2 => ?_, ?_, ?_⟩
  · intro x hx
    rw [List.mem_singleton] at hx
    rw [hx]; exact h
  · simp at h2; omega
  · intro x hx _
    rw [List.mem_singleton] at hx
    rw [hx]
    have := h.2.2.2.1
    show t = (t + 0) % 2
    have h2 : t < 2 := this
    omega
  · intro j hj
    simp at hj
    subst hj
    exact Nat.zero_le _
