/-! ===== fewest, alike, many, farthest, way, left, added ===== -/
def SimS (fc fm : Hp → Option Rs) (h : Hp) : Prop := ∃ r h1 h2, fc h = some (r, h1) ∧ fm h1 = some (r, h2) ∧ Inv h2 ∧ CH h2
theorem SimS_same {fc fm : Hp → Option Rs} {h : Hp} (r : Int32) (hI : Inv h) (hC : CH h) (h1 : fc h = some (r, h)) (h2 : fm h = some (r, h)) : SimS fc fm h := ⟨r, h, h, h1, h2, hI, hC⟩
theorem SimS_of {fc fm : Hp → Option Rs} {h : Hp} (hC : CH h) (S : Sim fc fm h) : SimS fc fm h := by
  obtain ⟨r, h1, h2, e1, e2, hI, hF⟩ := S
  exact ⟨r, h1, h2, e1, e2, hI, CH_fr hF hC⟩
theorem gP_map {n : Nat} {P : Nat → Nat} {i : Nat} (hi : i < n) : gP ((List.range n).map P) i = P i := by
  unfold gP
  rw [List.getD_eq_getElem?_getD, List.getElem?_map, List.getElem?_range hi]
  rfl
theorem okL_map {n : Nat} {P : Nat → Nat} (hn : n ≤ 4) (h : ∀ i, i < n → P i < 12) : okL n ((List.range n).map P) := by
  refine ⟨by simp, hn, fun a ha => ?_⟩
  obtain ⟨i, hi, rfl⟩ := List.mem_map.mp ha
  exact h i (List.mem_range.mp hi)
theorem nodup_map {n : Nat} {P : Nat → Nat} (h : ∀ i j, i < n → j < n → P i = P j → i = j) : ((List.range n).map P).Nodup := by
  rw [List.nodup_iff_pairwise_ne, List.pairwise_map]
  have : (List.range n).Pairwise (fun a b => a < b ∧ b < n) := by
    rw [List.pairwise_iff_getElem]
    intro i j hi hj hij
    simp at hi hj ⊢
    omega
  exact this.imp (fun ⟨a, b⟩ z => by have := h _ _ (by omega) b z; omega)
/-- what a search call begins with -/
def SX (h : Hp) (ho : Int32) (w g m : Nat) (f : Nat → Int32) (l gl : List Nat) : Prop := (IV h w g (pmH h ho).n (pmH h ho).kd (pmH h ho).co f) ∧ (CQ (pmH h ho) (w * g) m h) ∧ (okN (pmH h ho) (w * g) ⟨l, t0H (h.1 1 3) m, 0, 0, 0, 0⟩) ∧ (h.1 0 13 = nI (c16 l)) ∧ (h.1 0 14 = nI m) ∧ (h.1 25 22 = nI m) ∧ (∀ i, i < (pmH h ho).n → h.1 31 i = nI (gP l i)) ∧ (h.1 1 6 = nI (c16 gl)) ∧ (okL (pmH h ho).n gl) ∧ (gl.Nodup) ∧ (∀ i, i < (pmH h ho).n → h.1 26 (4 * i + 3) = nI (gP gl i)) ∧ (∀ a ∈ gl, a < w * g)
theorem SX.iv {h : Hp} {ho : Int32} {w g m : Nat} {f : Nat → Int32} {l gl : List Nat} (q_ : SX h ho w g m f l gl) : IV h w g (pmH h ho).n (pmH h ho).kd (pmH h ho).co f := q_.1
theorem SX.cq {h : Hp} {ho : Int32} {w g m : Nat} {f : Nat → Int32} {l gl : List Nat} (q_ : SX h ho w g m f l gl) : CQ (pmH h ho) (w * g) m h := q_.2.1
theorem SX.ok {h : Hp} {ho : Int32} {w g m : Nat} {f : Nat → Int32} {l gl : List Nat} (q_ : SX h ho w g m f l gl) : okN (pmH h ho) (w * g) ⟨l, t0H (h.1 1 3) m, 0, 0, 0, 0⟩ := q_.2.2.1
theorem SX.ps {h : Hp} {ho : Int32} {w g m : Nat} {f : Nat → Int32} {l gl : List Nat} (q_ : SX h ho w g m f l gl) : h.1 0 13 = nI (c16 l) := q_.2.2.2.1
theorem SX.hp {h : Hp} {ho : Int32} {w g m : Nat} {f : Nat → Int32} {l gl : List Nat} (q_ : SX h ho w g m f l gl) : h.1 0 14 = nI m := q_.2.2.2.2.1
theorem SX.mhp {h : Hp} {ho : Int32} {w g m : Nat} {f : Nat → Int32} {l gl : List Nat} (q_ : SX h ho w g m f l gl) : h.1 25 22 = nI m := q_.2.2.2.2.2.1
theorem SX.mat {h : Hp} {ho : Int32} {w g m : Nat} {f : Nat → Int32} {l gl : List Nat} (q_ : SX h ho w g m f l gl) : ∀ i, i < (pmH h ho).n → h.1 31 i = nI (gP l i) := q_.2.2.2.2.2.2.1
theorem SX.go {h : Hp} {ho : Int32} {w g m : Nat} {f : Nat → Int32} {l gl : List Nat} (q_ : SX h ho w g m f l gl) : h.1 1 6 = nI (c16 gl) := q_.2.2.2.2.2.2.2.1
theorem SX.okg {h : Hp} {ho : Int32} {w g m : Nat} {f : Nat → Int32} {l gl : List Nat} (q_ : SX h ho w g m f l gl) : okL (pmH h ho).n gl := q_.2.2.2.2.2.2.2.2.1
theorem SX.ndg {h : Hp} {ho : Int32} {w g m : Nat} {f : Nat → Int32} {l gl : List Nat} (q_ : SX h ho w g m f l gl) : gl.Nodup := q_.2.2.2.2.2.2.2.2.2.1
theorem SX.mgo {h : Hp} {ho : Int32} {w g m : Nat} {f : Nat → Int32} {l gl : List Nat} (q_ : SX h ho w g m f l gl) : ∀ i, i < (pmH h ho).n → h.1 26 (4 * i + 3) = nI (gP gl i) := q_.2.2.2.2.2.2.2.2.2.2.1
theorem SX.gz {h : Hp} {ho : Int32} {w g m : Nat} {f : Nat → Int32} {l gl : List Nat} (q_ : SX h ho w g m f l gl) : ∀ a ∈ gl, a < w * g := q_.2.2.2.2.2.2.2.2.2.2.2
theorem ctx {h : Hp} (hI : Inv h) (ho : Int32) : ∃ w g m f l gl, SX h ho w g m f l gl := by
  obtain ⟨w, g, n, kd, co, f, hV⟩ := hI
  obtain ⟨hB, hS, ⟨L, hL⟩, ⟨P, hP⟩, ⟨m, hm, m1, m2⟩, hK, hR, hT⟩ := id hV
  obtain ⟨b1, b2, b3, b4, b5, b6, b7, b8, b9⟩ := id hB
  have h12 := b1.2.2.2.2
  have hn4 := b4.2.1
  have en : (pmH h ho).n = n := by show ix (h.1 1 4) = n; rw [b4.1, p_ix (by omega)]
  have ek : ∀ i, i < n → (pmH h ho).kd i = kd i := fun i hi => by
    obtain ⟨c1, c2, c3, c4⟩ := b4.2.2 i hi
    show ix (h.1 2 i) = kd i
    rw [c1, p_ix (by omega)]
  have ec : ∀ i, i < n → (pmH h ho).co i = co i := fun i hi => by
    obtain ⟨c1, c2, c3, c4⟩ := b4.2.2 i hi
    show ix (h.1 3 i) = co i
    rw [c3, p_ix (by omega)]
  have hBC : BC h n (pmH h ho).kd (pmH h ho).co := ⟨b4.1, hn4, fun i hi => by rw [ek i hi, ec i hi]; exact b4.2.2 i hi⟩
  have hBM : BM h n (pmH h ho).kd (pmH h ho).co := ⟨b7.1, hn4, fun i hi => by rw [ek i hi, ec i hi]; exact b7.2.2 i hi⟩
  have okl : okL n ((List.range n).map P) := okL_map hn4 (fun i hi => (hP.1.2 i hi).2)
  have okg : okL n ((List.range n).map L) := okL_map hn4 (fun i hi => (hL.1.2 i hi).2)
  refine ⟨w, g, m, f, (List.range n).map P, (List.range n).map L, ?_⟩
  refine ⟨?_, ?_, ?_, ?_, m1, m2, ?_, ?_, ?_, ?_, ?_, ?_⟩
  · rw [en]
    exact ⟨⟨b1, b2, b3, hBC, b5, b6, hBM, b8, b9⟩, hS, ⟨L, hL⟩, ⟨P, hP⟩, ⟨m, hm, m1, m2⟩, hK, hR, hT⟩
  · refine ⟨by rw [en]; exact hBC, IB_T hB, rfl, rfl, h12, hm, ?_⟩
    intro x hx i s hi hs hb
    have hki := (hBC.2.2 i (by rw [en] at hi; exact hi)).2.1
    have hb' : bt (opn (stt w g f) (pmH h ho).n (pmH h ho).kd (pmH h ho).co (gP x.sq) (pmH h ho).ho (pmH h ho).lw i x.tn) s = true := by
      rw [← b5]; exact hb
    exact opn_bt b1 f hki (gP_lt hx.1) _ _ _ hs hb'
  · refine ⟨by rw [en]; exact okl, fun a ha => ?_, nodup_map hP.2.2, t0H_lt _ _, fun hw => ?_⟩
    · obtain ⟨i, hi, rfl⟩ := List.mem_map.mp ha
      exact (hP.2.1 i (List.mem_range.mp hi)).2
    · show t0H (h.1 1 3) m = 0
      unfold t0H
      rw [if_neg (show ¬ h.1 1 3 = 1 from hw)]
  · exact PC_uni hP.1 hn4 okl (fun i hi => gP_map hi)
  · rw [en]; exact fun i hi => by rw [gP_map hi]; exact (hP.2.1 i hi).1
  · exact PC_uni hL.1 hn4 okg (fun i hi => gP_map hi)
  · rw [en]; exact okg
  · exact nodup_map hL.2.2
  · rw [en]; exact fun i hi => by rw [gP_map hi]; exact (hL.2.1 i hi).1
  · intro a ha
    obtain ⟨i, hi, rfl⟩ := List.mem_map.mp ha
    exact (hL.2.1 i (List.mem_range.mp hi)).2
theorem gP_inj {l : List Nat} (h : l.Nodup) : ∀ a b, a < l.length → b < l.length → gP l a = gP l b → a = b := by
  intro a b ha hb e
  unfold gP at e
  rw [List.getD_eq_getElem?_getD, List.getD_eq_getElem?_getD, List.getElem?_eq_getElem ha, List.getElem?_eq_getElem hb] at e
  have e' : l[a] = l[b] := e
  rw [List.nodup_iff_pairwise_ne, List.pairwise_iff_getElem] at h
  rcases Nat.lt_trichotomy a b with c | c | c
  · exact absurd e' (h a b ha hb c)
  · exact c
  · exact absurd e'.symm (h b a hb ha c)
/-- the class has searched: what stands then -/
def SY (h h1 : Hp) (ho : Int32) (w g m : Nat) (f : Nat → Int32) (l gl : List Nat) (Q : List Nd) : Prop := (SX h ho w g m f l gl) ∧ (∀ c, c < 15 ∨ 19 < c → h1.1 c = h.1 c) ∧ (CH h1) ∧ (RC h1 Q) ∧ (VQ (pmH h ho) (w * g) (m % 2) Q) ∧ (Q = bfs (pmH h ho) l (t0H (h.1 1 3) m))
theorem SY.sx {h h1 : Hp} {ho : Int32} {w g m : Nat} {f : Nat → Int32} {l gl : List Nat} {Q : List Nd} (q_ : SY h h1 ho w g m f l gl Q) : SX h ho w g m f l gl := q_.1
theorem SY.fr {h h1 : Hp} {ho : Int32} {w g m : Nat} {f : Nat → Int32} {l gl : List Nat} {Q : List Nd} (q_ : SY h h1 ho w g m f l gl Q) : ∀ c, c < 15 ∨ 19 < c → h1.1 c = h.1 c := q_.2.1
theorem SY.ch {h h1 : Hp} {ho : Int32} {w g m : Nat} {f : Nat → Int32} {l gl : List Nat} {Q : List Nd} (q_ : SY h h1 ho w g m f l gl Q) : CH h1 := q_.2.2.1
theorem SY.rc {h h1 : Hp} {ho : Int32} {w g m : Nat} {f : Nat → Int32} {l gl : List Nat} {Q : List Nd} (q_ : SY h h1 ho w g m f l gl Q) : RC h1 Q := q_.2.2.2.1
theorem SY.vq {h h1 : Hp} {ho : Int32} {w g m : Nat} {f : Nat → Int32} {l gl : List Nat} {Q : List Nd} (q_ : SY h h1 ho w g m f l gl Q) : VQ (pmH h ho) (w * g) (m % 2) Q := q_.2.2.2.2.1
theorem SY.eq {h h1 : Hp} {ho : Int32} {w g m : Nat} {f : Nat → Int32} {l gl : List Nat} {Q : List Nd} (q_ : SY h h1 ho w g m f l gl Q) : Q = bfs (pmH h ho) l (t0H (h.1 1 3) m) := q_.2.2.2.2.2
theorem srch (N : Nat) (hN : 30000 ≤ N) {h : Hp} (hI : Inv h) (hC : CH h) (ho : Int32) : ∃ w g m f l gl Q h1, f_X4_explore N (h.1 0 13) (h.1 0 14) ho h = some (0, h1) ∧ SY h h1 ho w g m f l gl Q := by
  obtain ⟨w, g, m, f, l, gl, X⟩ := ctx hI ho
  obtain ⟨h1, e1, r1, f1, c1⟩ := pu_explore N hN ho X.cq hC X.ok
  refine ⟨w, g, m, f, l, gl, _, h1, by rw [X.ps, X.hp]; exact e1, X, f1, c1, r1, ?_, rfl⟩
  exact VQ_bq X.cq.z12 X.cq.hop (VQ_t (VQ_0 X.ok) (fun hw => by show t0H (h.1 1 3) m = m % 2; unfold t0H; rw [if_pos (show h.1 1 3 = 1 from hw)]))
theorem SY_MQ {h h1 h1' : Hp} {ho : Int32} {w g m : Nat} {f : Nat → Int32} {l gl : List Nat} {Q : List Nd} (Y : SY h h1 ho w g m f l gl Q) (f1 : ∀ c, c ≠ 25 → h1'.1 c = h1.1 c) (f2 : ∀ k, k ≠ 2 → h1'.1 25 k = h1.1 25 k) (f3 : h1'.1 25 2 = ho) : MQx (pmH h ho) w g m f h1' := by
  obtain ⟨b1, b2, b3, b4, b5, b6, b7, b8, b9⟩ := Y.sx.iv.1
  have c25 := Y.fr 25 (by omega)
  have c26 := Y.fr 26 (by omega)
  refine ⟨?_, ?_, b5.symm, f3, ?_, ?_, Y.sx.cq.m9, Y.sx.cq.hop⟩
  · unfold MB; rw [f2 0 (by decide), f2 1 (by decide), c25]; exact b6
  · unfold BM; rw [f2 4 (by decide), f1 26 (by decide), c25, c26]; exact b7
  · rw [f2 3 (by decide), c25]; exact b9
  · rw [f2 22 (by decide), c25]; exact Y.sx.mhp
theorem SY_lay (N : Nat) (hN : 60000 ≤ N) {h h1 h1' : Hp} {ho : Int32} {w g m : Nat} {f : Nat → Int32} {l gl : List Nat} {Q : List Nd} (Y : SY h h1 ho w g m f l gl Q) (f1 : ∀ c, c ≠ 25 → h1'.1 c = h1.1 c) (f2 : ∀ k, k ≠ 2 → h1'.1 25 k = h1.1 25 k) (f3 : h1'.1 25 2 = ho) : ∃ h2, f_X8_layLine N h1' = some (0, h2) ∧ MF h1' h2 ∧ RM (pmH h ho).n h2 Q ∧ BM h2 (pmH h ho).n (pmH h ho).kd (pmH h ho).co ∧ ∀ i, i < (pmH h ho).n → h2.1 26 (4 * i + 3) = nI (gP gl i) ∧ gP gl i < 12 := by
  have M := SY_MQ Y f1 f2 f3
  obtain ⟨h2, e2, F2, R2⟩ := pm_layLine N hN M (l := l) Y.sx.ok (fun i hi => by rw [f1 31 (by decide), Y.fr 31 (by omega)]; exact Y.sx.mat i hi)
  have M2 := MQx_fr M F2
  refine ⟨h2, e2, F2, by rw [Y.eq]; exact R2, M2.bm, fun i hi => ⟨?_, gP_lt Y.sx.okg⟩⟩
  rw [F2.1 26 (by decide) (by omega), f1 26 (by decide), Y.fr 26 (by omega)]
  exact Y.sx.mgo i hi
/-- what a search call leaves as it is -/
theorem SY_inv {h h1 h2 : Hp} {ho : Int32} {w g m : Nat} {f : Nat → Int32} {l gl : List Nat} {Q : List Nd} (Y : SY h h1 ho w g m f l gl Q) (f1 : ∀ c, c ≠ 25 → c < 35 ∨ 39 < c → h2.1 c = h1.1 c) (f2 : ∀ k, k ≠ 31 → h2.1 25 k = h1.1 25 k) : Inv h2 ∧ CH h2 := by
  refine ⟨⟨w, g, _, _, _, f, IV_fr (fun c hc => ?_) (fun k hk => ?_) Y.sx.iv⟩, CH_fr (fun c hc => ?_) Y.ch⟩
  · rw [f1 c (fun z => by subst z; revert hc; decide) (by revert hc; revert c; decide), Y.fr c (by revert hc; revert c; decide)]
  · rw [f2 k (fun z => by subst z; revert hk; decide), Y.fr 25 (by omega)]
  · exact f1 c (fun z => by subst z; revert hc; decide) (by revert hc; revert c; decide)
theorem SY_self {h h1 : Hp} {w g m : Nat} {f : Nat → Int32} {l gl : List Nat} {Q : List Nd} (Y : SY h h1 (h.1 1 2) w g m f l gl Q) : h1.1 25 2 = h.1 1 2 := by
  rw [Y.fr 25 (by omega)]
  exact Y.sx.iv.1.2.2.2.2.2.2.2.1
/-- the model's fewestBy -/
def depM (Q : List Nd) (r : Nat) : Int32 := if r < Q.length then nI (Q.getD r d0).dp else -1
theorem pm_firstHome (N : Nat) (hN : 60000 ≤ N) {h h1 h1' : Hp} {ho : Int32} {w g m : Nat} {f : Nat → Int32} {l gl : List Nat} {Q : List Nd} (Y : SY h h1 ho w g m f l gl Q) (f1 : ∀ c, c ≠ 25 → h1'.1 c = h1.1 c) (f2 : ∀ k, k ≠ 2 → h1'.1 25 k = h1.1 25 k) (f3 : h1'.1 25 2 = ho) (al : Bool) : ∃ h2, f_X8_firstHome N (b2i al) h1' = some (resM Q (lowf (fun j => allr (fun i => anyr (lik al (pmH h ho).kd (pmH h ho).co (gP (Q.getD j d0).sq) (gP gl) i) (pmH h ho).n 0) (pmH h ho).n 0) Q.length 0), h2) ∧ MF h1' h2 ∧ RM (pmH h ho).n h2 Q := by
  obtain ⟨h2, e2, F2, R2, B2, G2⟩ := SY_lay N hN Y f1 f2 f3
  have K := QK_of Y.vq
  have hlen := K.len
  obtain ⟨h3, e3, c3⟩ := pm_first_l N (by omega) h2 B2 (L := gP gl) G2 K R2 al N 0 h2 (fun _ _ => rfl) (by omega) (by omega)
  refine ⟨h3, ?_, MF_39 F2 c3, RM_39 R2 c3⟩
  unfold f_X8_firstHome
  rw [e2, p_cl, p_lt]
  exact e3
theorem pm_fewestBy (N : Nat) (hN : 60000 ≤ N) {h h1 h1' : Hp} {ho : Int32} {w g m : Nat} {f : Nat → Int32} {l gl : List Nat} {Q : List Nd} (Y : SY h h1 ho w g m f l gl Q) (f1 : ∀ c, c ≠ 25 → h1'.1 c = h1.1 c) (f2 : ∀ k, k ≠ 2 → h1'.1 25 k = h1.1 25 k) (f3 : h1'.1 25 2 = ho) (al : Bool) : ∃ h2, f_X8_fewestBy N (b2i al) h1' = some (depM Q (lowf (fun j => allr (fun i => anyr (lik al (pmH h ho).kd (pmH h ho).co (gP (Q.getD j d0).sq) (gP gl) i) (pmH h ho).n 0) (pmH h ho).n 0) Q.length 0), h2) ∧ MF h1' h2 := by
  obtain ⟨h2, e2, F2, R2⟩ := pm_firstHome N hN Y f1 f2 f3 al
  have K := QK_of Y.vq
  refine ⟨h2, ?_, F2⟩
  unfold f_X8_fewestBy f_X8_fewestBy_b21
  rw [e2, p_cl, p_lt]
  generalize lowf (fun j => allr (fun i => anyr (lik al (pmH h ho).kd (pmH h ho).co (gP (Q.getD j d0).sq) (gP gl) i) (pmH h ho).n 0) (pmH h ho).n 0) Q.length 0 = r
  unfold resM depM
  by_cases c : r < Q.length
  · have o := K.ok r c
    have hm : mcX (Q.getD r d0) < 41472 := mc_lt o.1 o.2
    rw [if_pos c, if_pos c, if_neg (p_nI_ne_m1 (by omega)), if_pos (p_ib hm (by omega)), p_ix (by omega), (R2.2.1 r c).2.1]
  · rw [if_neg c, if_neg c, if_pos rfl]
/-- the index where all are home, of both -/
theorem low_home {h h1 : Hp} {ho : Int32} {w g m : Nat} {f : Nat → Int32} {l gl : List Nat} {Q : List Nd} (Y : SY h h1 ho w g m f l gl Q) : lowf (fun j => allr (fun i => anyr (lik false (pmH h ho).kd (pmH h ho).co (gP (Q.getD j d0).sq) (gP gl) i) (pmH h ho).n 0) (pmH h ho).n 0) Q.length 0 = lowf (fun j => decide ((Q.getD j d0).sq = gl)) Q.length 0 :=
  lowf_congr (fun x _ h2 => lik_false ((QK_of Y.vq).ok x (by omega)).1 Y.sx.okg)
theorem cls_few (N : Nat) (hN : 30000 ≤ N) {h h1 : Hp} {ho : Int32} {w g m : Nat} {f : Nat → Int32} {l gl : List Nat} {Q : List Nd} (Y : SY h h1 ho w g m f l gl Q) : cl (f_X4_firstHome N h1) (fun r2 h3 => cl (f_X4_depthOf N r2 h3) (fun r4 h5 => some (r4, h5))) = some (depM Q (lowf (fun j => decide ((Q.getD j d0).sq = gl)) Q.length 0), h1) := by
  have K := QK_of Y.vq
  rw [pu_firstHome N hN h1 K Y.rc (gl := gl) (by rw [Y.fr 1 (by omega)]; exact Y.sx.go) Y.sx.okg, p_cl, pu_depthOf N h1 K Y.rc, p_cl]
  rfl
theorem sim_fewest (N : Nat) (hN : 60000 ≤ N) {h : Hp} (hI : Inv h) (hC : CH h) : SimS (f_X7_fewest N) (f_X8_fewest N) h := by
  obtain ⟨w, g, m, f, l, gl, Q, h1, e1, Y⟩ := srch N (by omega) hI hC (h.1 1 2)
  obtain ⟨h2, e2, F2⟩ := pm_fewestBy N hN Y (h1' := h1) (fun _ _ => rfl) (fun _ _ => rfl) (SY_self Y) false
  have hJ := SY_inv Y F2.1 F2.2
  refine ⟨depM Q (lowf (fun j => decide ((Q.getD j d0).sq = gl)) Q.length 0), h1, h2, ?_, ?_, hJ.1, hJ.2⟩
  · unfold f_X7_fewest
    rw [e1, p_cl]
    exact cls_few N (by omega) Y
  · unfold f_X8_fewest
    rw [low_home Y] at e2
    rw [show (0 : Int32) = b2i false from rfl, e2, p_cl]
theorem sim_alike (N : Nat) (hN : 60000 ≤ N) {h : Hp} (hI : Inv h) (hC : CH h) : SimS (f_X7_alike N) (f_X8_alike N) h := by
  obtain ⟨w, g, m, f, l, gl, Q, h1, e1, Y⟩ := srch N (by omega) hI hC (h.1 1 2)
  obtain ⟨h2, e2, F2⟩ := pm_fewestBy N hN Y (h1' := h1) (fun _ _ => rfl) (fun _ _ => rfl) (SY_self Y) true
  have hJ := SY_inv Y F2.1 F2.2
  have K := QK_of Y.vq
  have hB1 : BC h1 (pmH h (h.1 1 2)).n (pmH h (h.1 1 2)).kd (pmH h (h.1 1 2)).co := BC_fr (Y.fr 1 (by omega)) (Y.fr 2 (by omega)) (Y.fr 3 (by omega)) Y.sx.cq.bc
  have hg : PC (h1.1 1 6) (pmH h (h.1 1 2)).n (gP gl) := by rw [Y.fr 1 (by omega), Y.sx.go]; exact PC_c16 Y.sx.okg
  refine ⟨depM Q (lowf (fun j => allr (fun i => anyr (lik true (pmH h (h.1 1 2)).kd (pmH h (h.1 1 2)).co (gP (Q.getD j d0).sq) (gP gl) i) (pmH h (h.1 1 2)).n 0) (pmH h (h.1 1 2)).n 0) Q.length 0), h1, h2, ?_, ?_, hJ.1, hJ.2⟩
  · unfold f_X7_alike
    rw [e1, p_cl, pu_firstAlike N (by omega) h1 hB1 hg (fun a b ha hb => gP_inj Y.sx.ndg a b (by rw [Y.sx.okg.1]; exact ha) (by rw [Y.sx.okg.1]; exact hb)) K Y.rc, p_cl, pu_depthOf N h1 K Y.rc, p_cl]
    rfl
  · unfold f_X8_alike
    rw [show (1 : Int32) = b2i true from rfl, e2, p_cl]
theorem sim_many (N : Nat) (hN : 60000 ≤ N) (a : Int32) {h : Hp} (hI : Inv h) (hC : CH h) : SimS (f_X7_many N a) (f_X8_many N a) h := by
  by_cases ha : 0 ≤ a
  rotate_left
  · refine SimS_same (-3) hI hC ?_ ?_
    · unfold f_X7_many; rw [if_neg ha]
    · unfold f_X8_many; rw [if_neg ha]
  obtain ⟨w, g, m, f, l, gl, Q, h1, e1, Y⟩ := srch N (by omega) hI hC (h.1 1 2)
  obtain ⟨h2, e2, F2, R2, -, -⟩ := SY_lay N hN Y (h1' := h1) (fun _ _ => rfl) (fun _ _ => rfl) (SY_self Y)
  have hJ := SY_inv Y F2.1 F2.2
  have K := QK_of Y.vq
  have hlen := K.len
  refine ⟨nI (cnt (fun j => decide (nI (Q.getD j d0).dp = a)) Q.length), h1, h2, ?_, ?_, hJ.1, hJ.2⟩
  · unfold f_X7_many
    rw [if_pos ha, e1, p_cl, pu_howMany N (by omega) h1 K Y.rc a, p_cl]
  · unfold f_X8_many
    rw [if_pos ha, e2, p_cl, p_lt, p_lt]
    exact pm_many_l N h2 K R2 a N 0 (by omega) (by omega)
theorem sim_farthest (N : Nat) (hN : 60000 ≤ N) (a : Int32) {h : Hp} (hI : Inv h) (hC : CH h) : SimS (f_X7_farthest N a) (f_X8_farthest N a) h := by
  rcases n_case a (s := 2) (by omega) with ⟨k, hk, rfl⟩ | ha
  rotate_left
  · refine SimS_same (-3) hI hC ?_ ?_
    · unfold f_X7_farthest f_X7_farthest_b9
      by_cases h0 : a < 0
      · rw [if_pos h0]
      · rw [if_neg h0, if_neg (show ¬ a ≤ 1 from Int32.not_le.mpr (n_m1g (n := 2) (by omega) h0 (ha.resolve_left h0)))]
    · unfold f_X8_farthest
      rw [pm_in, p_cl]
      by_cases h0 : a < 0
      · rw [if_pos h0, if_pos rfl]
      · rw [if_neg h0, if_pos (show (1 : Int32) < a from n_m1g (n := 2) (by omega) h0 (ha.resolve_left h0)), if_pos rfl]
  obtain ⟨w, g, m, f, l, gl, Q, h1, e1, Y⟩ := srch N (by omega) hI hC (h.1 1 2)
  obtain ⟨h2, e2, F2, R2, -, -⟩ := SY_lay N hN Y (h1' := h1) (fun _ _ => rfl) (fun _ _ => rfl) (SY_self Y)
  have hJ := SY_inv Y F2.1 F2.2
  have K := QK_of Y.vq
  have hlen := K.len
  have hne := K.ne
  have o := K.ok (Q.length - 1) (by omega)
  have hm : mcX (Q.getD (Q.length - 1) d0) < 41472 := mc_lt o.1 o.2
  have rl := R2.2.1 (Q.length - 1) (by omega)
  have hgd : f_X4_greatestDepth N h1 = some (nI (Q.getD (Q.length - 1) d0).dp, h1) := by
    unfold f_X4_greatestDepth
    have e : h1.1 15 6 - 1 = resC (Q.length - 1) Q.length := by
      unfold resC
      rw [if_pos (by omega), Y.rc.1]
      exact pk_sub (b := 1) (by omega)
    rw [e, pu_depthOf N h1 K Y.rc, p_cl, if_pos (by omega)]
  refine ⟨if nI k = 0 then nI (Q.getD (Q.length - 1) d0).dp else nI (cnt (fun j => decide (nI (Q.getD j d0).dp = nI (Q.getD (Q.length - 1) d0).dp)) Q.length), h1, h2, ?_, ?_, hJ.1, hJ.2⟩
  · unfold f_X7_farthest f_X7_farthest_b58
    rw [if_neg (nI_pos (n := k) (by omega)), if_pos (show nI k ≤ 1 from nI_le (b := 1) (by omega) (by omega)), e1, p_cl, hgd, p_cl, p_lt, pu_howMany N (by omega) h1 K Y.rc, p_cl, ite_some]
  · unfold f_X8_farthest
    rw [pm_in, p_cl, if_neg (nI_pos (n := k) (by omega)), if_neg (show ¬ (1 : Int32) < nI k from nI_nlt (a := 1) (by omega) (by omega)), if_neg n10, e2, p_cl, R2.1, show nI Q.length - 1 = nI (Q.length - 1) from pk_sub (b := 1) (by omega), if_pos (p_ib (show Q.length - 1 < 41472 by omega) (by omega)), p_ix (by omega), rl.1, if_pos (p_ib hm (by omega)), p_ix (by omega), rl.2.1, p_lt, p_lt, p_lt]
    exact pm_far_l N h2 K R2 (nI k) _ N 0 (by omega) (by omega)
