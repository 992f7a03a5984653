/-! ===== nets: joined squares, walks, parts ===== -/
def nj (T : Nat → Int32) (k : Nat) (ho : Int32) (q : Nat) : Int32 := if bt ho q = true then 0 else rch T k q ho 0
/-- a row of m steps in direction d that meets no hole -/
def wx (w g : Nat) (ho : Int32) (d : Nat) : Nat → Nat → Nat → Prop
  | 0, a, b => a = b
  | m + 1, a, b => ∃ c, c < w * g ∧ ent w g a d = nI c ∧ bt ho c = false ∧ wx w g ho d m c b
theorem bi_z (k : Nat) (hk : k < 32) : ¬ bi 0 (nI k) = 1 := by rw [bi_bt 0 hk, b_0]; decide
theorem ray_wx {w g d : Nat} (hb : bd w g) (hd : d < 16) (T : Nat → Int32) (hT : ∀ q, q < 12 → T (d * 12 + q) = if q < w * g then ent w g q d else -1) (ho : Int32) {b : Nat} (hb32 : b < 32) : ∀ (n a : Nat), a < w * g → (bt (ray (Sd T d) ho 0 n (T (d * 12 + a))) b = true ↔ ∃ m, 1 ≤ m ∧ m ≤ n ∧ wx w g ho d m a b) := by
  have h12 := hb.2.2.2.2
  intro n
  induction n with
  | zero =>
    intro a ha
    rw [show ray (Sd T d) ho 0 0 (T (d * 12 + a)) = 0 from rfl, b_0]
    constructor
    · intro h; cases h
    · rintro ⟨m, h1, h2, -⟩; omega
  | succ n ih =>
    intro a ha
    rw [hT a (by omega), if_pos ha]
    show bt (if ent w g a d < 0 then 0 else if bi ho (ent w g a d) = 0 then sg (ent w g a d) ||| ray (Sd T d) ho 0 n (if bi 0 (ent w g a d) = 1 then -1 else Sd T d (ent w g a d)) else 0) b = true ↔ _
    rcases ent_case hb ha hd with ⟨e, -⟩ | ⟨c, c1, c2, -⟩
    · rw [e, if_pos p_m1, b_0]
      constructor
      · intro h; cases h
      · rintro ⟨m, h1, h2, h3⟩
        obtain ⟨m, rfl⟩ : ∃ r, m = r + 1 := ⟨m - 1, by omega⟩
        obtain ⟨c, d1, d2, -⟩ := h3
        rw [e] at d2
        exact absurd d2.symm (p_nI_ne_m1 (by omega))
    · rw [c2, if_neg (nI_pos (n := c) (by omega))]
      by_cases hh : bi ho (nI c) = 0
      · have hh' := (bi_0 (by omega)).mp hh
        rw [if_pos hh, if_neg (bi_z c (by omega)), Sd_at T hd (by omega), b_or, Bool.or_eq_true, ih c c1, sg_bt (by omega) hb32]
        constructor
        · rintro (h | ⟨m, h1, h2, h3⟩)
          · exact ⟨1, by omega, by omega, c, c1, c2, hh', (of_decide_eq_true h).symm⟩
          · exact ⟨m + 1, by omega, by omega, c, c1, c2, hh', h3⟩
        · rintro ⟨m, h1, h2, h3⟩
          obtain ⟨m, rfl⟩ : ∃ r, m = r + 1 := ⟨m - 1, by omega⟩
          obtain ⟨c', d1, d2, d3, d4⟩ := h3
          have e : c' = c := ((nI_eq (by omega) (by omega)).mp (c2.symm.trans d2)).symm
          subst e
          by_cases hm : m = 0
          · subst hm
            left
            have : c' = b := d4
            simp [this]
          · exact Or.inr ⟨m, by omega, by omega, d4⟩
      · rw [if_neg hh, b_0]
        constructor
        · intro h; cases h
        · rintro ⟨m, h1, h2, h3⟩
          obtain ⟨m, rfl⟩ : ∃ r, m = r + 1 := ⟨m - 1, by omega⟩
          obtain ⟨c', d1, d2, d3, d4⟩ := h3
          have e : c' = c := ((nI_eq (by omega) (by omega)).mp (c2.symm.trans d2)).symm
          subst e
          exact absurd ((bi_0 (by omega)).mpr d3) hh
theorem wx_snoc {w g : Nat} {ho : Int32} {d : Nat} : ∀ {m a b c : Nat}, wx w g ho d m a b → ent w g b d = nI c → c < w * g → bt ho c = false → wx w g ho d (m + 1) a c
  | 0, a, b, c, h, h1, h2, h3 => by
    have e : a = b := h
    subst e
    exact ⟨c, h2, h1, h3, rfl⟩
  | m + 1, a, b, c, ⟨x, x1, x2, x3, x4⟩, h1, h2, h3 => ⟨x, x1, x2, x3, wx_snoc x4 h1 h2 h3⟩
/-- the direction back -/
def rv (d : Nat) : Nat := if d < 8 then (d + 4) % 8 else if d < 12 then 8 + (d - 8 + 2) % 4 else 12 + (d - 12 + 2) % 4
theorem rv_fin : ∀ b ∈ bdL, ∀ d, d < 16 → ∀ q, q < 12 → q < b.1 * b.2 → ent b.1 b.2 q d = -1 ∨ ent b.1 b.2 (ent b.1 b.2 q d).toNatClampNeg (rv d) = nI q := by decide +kernel
theorem rv_in : ∀ k, k < 4 → ∀ d, d < 16 → fdn k ≤ d → d < bdn k → fdn k ≤ rv d ∧ rv d < bdn k := by decide +kernel
theorem wx_end {w g : Nat} {ho : Int32} {d : Nat} : ∀ {m a b : Nat}, wx w g ho d (m + 1) a b → b < w * g ∧ bt ho b = false
  | 0, a, b, ⟨c, c1, c2, c3, c4⟩ => by
    have e : c = b := c4
    subst e
    exact ⟨c1, c3⟩
  | m + 1, a, b, ⟨c, c1, c2, c3, c4⟩ => wx_end c4
theorem wx_rev {w g : Nat} (hb : bd w g) {ho : Int32} {d : Nat} (hd : d < 16) : ∀ {m a b : Nat}, a < w * g → bt ho a = false → wx w g ho d m a b → wx w g ho (rv d) m b a
  | 0, a, b, _, _, h => Eq.symm h
  | m + 1, a, b, ha, hh, ⟨c, c1, c2, c3, c4⟩ => by
    have h12 := hb.2.2.2.2
    refine wx_snoc (wx_rev hb hd c1 c3 c4) ?_ ha hh
    rcases rv_fin (w, g) (bd_in hb) d hd a (by omega) ha with e | e
    · rw [c2] at e; exact absurd e (p_nI_ne_m1 (by omega))
    · rw [c2, nI_clamp (by omega)] at e; exact e
/-- a row of at most r steps in one direction doesn't come back to a -/
def nob (w g d a : Nat) : Nat → Nat → Bool
  | 0, _ => true
  | r + 1, c => (ent w g c d == -1) || (((ent w g c d).toNatClampNeg != a) && nob w g d a r (ent w g c d).toNatClampNeg)
theorem nob_fin : ∀ b ∈ bdL, ∀ d, d < 16 → ∀ a, a < 12 → a < b.1 * b.2 → nob b.1 b.2 d a 3 a = true := by decide +kernel
theorem nob_wx {w g : Nat} (hs : w * g ≤ 12) {ho : Int32} {d a : Nat} : ∀ {r m c : Nat}, nob w g d a r c = true → m + 1 ≤ r → ¬ wx w g ho d (m + 1) c a
  | 0, m, c, _, h, _ => by omega
  | r + 1, m, c, h, hm, ⟨x, x1, x2, x3, x4⟩ => by
    have h' : ((ent w g c d == -1) || (((ent w g c d).toNatClampNeg != a) && nob w g d a r (ent w g c d).toNatClampNeg)) = true := h
    rw [x2, nI_clamp (by omega), Bool.or_eq_true, Bool.and_eq_true] at h'
    rcases h' with h' | ⟨h1, h2⟩
    · exact p_nI_ne_m1 (n := x) (by omega) (eq_of_beq h')
    · by_cases hm0 : m = 0
      · subst hm0
        have e : x = a := x4
        rw [e] at h1
        simp at h1
      · obtain ⟨m, rfl⟩ : ∃ y, m = y + 1 := ⟨m - 1, by omega⟩
        exact nob_wx hs h2 (by omega) x4
/-- what is true of a net -/
def NJ (J : Nat → Int32) : Prop := (∀ a, B12 (J a)) ∧ (∀ a b, bt (J a) b = true → bt (J b) a = true) ∧ (∀ a, bt (J a) a = false)
theorem NJ.b12 {J : Nat → Int32} (q_ : NJ J) : ∀ a, B12 (J a) := q_.1
theorem NJ.sym {J : Nat → Int32} (q_ : NJ J) : ∀ a b, bt (J a) b = true → bt (J b) a = true := q_.2.1
theorem NJ.irr {J : Nat → Int32} (q_ : NJ J) : ∀ a, bt (J a) a = false := q_.2.2
theorem nj_iff {w g k : Nat} (hb : bd w g) (hk : k < 4) (f : Nat → Int32) (ho : Int32) {a b : Nat} (ha : a < w * g) (hh : bt ho a = false) (hb32 : b < 32) : bt (nj (stt w g f) k ho a) b = true ↔ ∃ d m, fdn k ≤ d ∧ d < bdn k ∧ 1 ≤ m ∧ m ≤ msn k ∧ wx w g ho d m a b := by
  have hbd : bdn k ≤ 16 := by unfold bdn; split; omega; split <;> omega
  have hfd := fdn_le k hk
  unfold nj
  rw [if_neg (by rw [hh]; decide)]
  unfold rch
  rw [gat_bt]
  constructor
  · rintro ⟨d, h1, h2, h3⟩
    have hd : d < 16 := by omega
    obtain ⟨m, m1, m2, m3⟩ := (ray_wx hb hd (stt w g f) (fun q hq => stt_at f hd hq) ho hb32 _ a ha).mp h3
    exact ⟨d, m, h1, by omega, m1, m2, m3⟩
  · rintro ⟨d, m, h1, h2, h3, h4, h5⟩
    have hd : d < 16 := by omega
    exact ⟨d, h1, by omega, (ray_wx hb hd (stt w g f) (fun q hq => stt_at f hd hq) ho hb32 _ a ha).mpr ⟨m, h3, h4, h5⟩⟩
theorem nj_out {w g k : Nat} (hb : bd w g) (hk : k < 4) (f : Nat → Int32) (ho : Int32) {a : Nat} (ha : w * g ≤ a) (ha2 : a < 12) : nj (stt w g f) k ho a = 0 := by
  have hbd : bdn k ≤ 16 := by unfold bdn; split; omega; split <;> omega
  have hfd := fdn_le k hk
  unfold nj
  split
  · rfl
  · apply bt_iff
    intro b _
    rw [b_0]
    constructor
    · intro h
      obtain ⟨d, h1, h2, h3⟩ := (gat_bt _ _ _ _).mp h
      unfold ryd at h3
      rw [stt_at f (by omega) ha2, if_neg (by omega), ray_m1, b_0] at h3
      cases h3
    · intro h; cases h
theorem msn_3 (k : Nat) : msn k ≤ 3 := by unfold msn; split <;> omega
/-- the net, cut at square 12 (nothing lies behind) -/
def njc (T : Nat → Int32) (k : Nat) (ho : Int32) (q : Nat) : Int32 := if q < 12 then nj T k ho q else 0
theorem njc_lt {T : Nat → Int32} {k : Nat} {ho : Int32} {q : Nat} (hq : q < 12) : njc T k ho q = nj T k ho q := by unfold njc; rw [if_pos hq]
theorem njc_in {w g k : Nat} (hb : bd w g) (hk : k < 4) (f : Nat → Int32) (ho : Int32) {a b : Nat} (h : bt (njc (stt w g f) k ho a) b = true) : a < w * g ∧ bt ho a = false ∧ b < w * g ∧ bt ho b = false ∧ ∃ d m, fdn k ≤ d ∧ d < bdn k ∧ 1 ≤ m ∧ m ≤ msn k ∧ wx w g ho d m a b := by
  have hb32 := bt_32 h
  unfold njc at h
  split at h
  · rename_i ha
    rcases Nat.lt_or_ge a (w * g) with h1 | h1
    · have hh : bt ho a = false := by
        cases hx : bt ho a with
        | false => rfl
        | true => unfold nj at h; rw [if_pos hx, b_0] at h; cases h
      obtain ⟨d, m, q1, q2, q3, q4, q5⟩ := (nj_iff hb hk f ho h1 hh hb32).mp h
      obtain ⟨m, rfl⟩ : ∃ r, m = r + 1 := ⟨m - 1, by omega⟩
      have := wx_end q5
      exact ⟨h1, hh, this.1, this.2, d, m + 1, q1, q2, q3, q4, q5⟩
    · rw [nj_out hb hk f ho h1 ha, b_0] at h; cases h
  · rw [b_0] at h; cases h
theorem NJ_nj {w g k : Nat} (hb : bd w g) (hk : k < 4) (f : Nat → Int32) (ho : Int32) : NJ (njc (stt w g f) k ho) := by
  have h12 := hb.2.2.2.2
  have hbd : bdn k ≤ 16 := by unfold bdn; split; omega; split <;> omega
  refine ⟨fun a b _ h => ?_, fun a b h => ?_, fun a => ?_⟩
  · have := (njc_in hb hk f ho h).2.2.1; omega
  · obtain ⟨h1, h2, h3, h4, d, m, q1, q2, q3, q4, q5⟩ := njc_in hb hk f ho h
    have hr := rv_in k hk d (by omega) q1 q2
    rw [njc_lt (by omega)]
    exact (nj_iff hb hk f ho h3 h4 (by omega)).mpr ⟨rv d, m, hr.1, hr.2, q3, q4, wx_rev hb (by omega) h1 h2 q5⟩
  · cases hx : bt (njc (stt w g f) k ho a) a with
    | false => rfl
    | true =>
      obtain ⟨h1, h2, h3, h4, d, m, q1, q2, q3, q4, q5⟩ := njc_in hb hk f ho hx
      have := msn_3 k
      obtain ⟨m, rfl⟩ : ∃ r, m = r + 1 := ⟨m - 1, by omega⟩
      exact absurd q5 (nob_wx h12 (nob_fin (w, g) (bd_in hb) d (by omega) a (by omega) h1) (by omega))
/-! parts -/
def Cl (J : Nat → Int32) (x : Int32) : Prop := ∀ a, bt x a = true → ∀ b, bt (J a) b = true → bt x b = true
def sub (x y : Int32) : Prop := ∀ b, bt x b = true → bt y b = true
/-- a round of the class -/
def jac (J : Nat → Int32) (x : Int32) : Int32 := x ||| orf (fun a => if bt x a = true then J a else 0) 12
/-- a round of the model, squares below q -/
def gs (J : Nat → Int32) (x : Int32) : Nat → Int32
  | 0 => x
  | q + 1 => gs J x q ||| (if bt (gs J x q) q = true then J q else 0)
def itr (F : Int32 → Int32) : Nat → Int32 → Int32
  | 0, x => x
  | r + 1, x => itr F r (F x)
theorem itr_s (F : Int32 → Int32) : ∀ (r : Nat) (x : Int32), itr F (r + 1) x = F (itr F r x)
  | 0, _ => rfl
  | r + 1, x => itr_s F r (F x)
theorem sub_eq {x y : Int32} (h1 : sub x y) (h2 : sub y x) : x = y := bt_iff fun b _ => ⟨h1 b, h2 b⟩
theorem cnt_grow {x y : Int32} (hs : sub x y) (hy : B12 y) (hne : ¬ x = y) : cnt (bt x) 12 < cnt (bt y) 12 := by
  apply sumf_lt
  · intro i _
    by_cases c : bt x i = true
    · rw [if_pos c, if_pos (hs i c)]; exact Nat.le_refl _
    · rw [if_neg c]; exact Nat.zero_le _
  · apply Classical.byContradiction
    intro hn
    apply hne
    refine sub_eq hs (fun b hb => ?_)
    have hb32 := bt_32 hb
    have hb12 := hy b hb32 hb
    apply Classical.byContradiction
    intro hx
    refine hn ⟨b, hb12, ?_⟩
    rw [if_neg hx, if_pos hb]
    omega
theorem grow {F : Int32 → Int32} (h1 : ∀ x, sub x (F x)) (h2 : ∀ x, B12 x → B12 (F x)) {x : Int32} (hx : B12 x) (hne : ∃ b, bt x b = true) : ∀ r, B12 (itr F r x) ∧ (r + 1 ≤ cnt (bt (itr F r x)) 12 ∨ F (itr F r x) = itr F r x) := by
  intro r
  induction r with
  | zero =>
    refine ⟨hx, Or.inl ?_⟩
    obtain ⟨b, hb⟩ := hne
    have hb12 := hx b (bt_32 hb) hb
    show 1 ≤ cnt (bt x) 12
    rcases Nat.eq_zero_or_pos (cnt (bt x) 12) with h | h
    · have := cnt_0 h b hb12
      rw [this] at hb; cases hb
    · exact h
  | succ r ih =>
    rw [itr_s]
    refine ⟨h2 _ ih.1, ?_⟩
    by_cases e : F (itr F r x) = itr F r x
    · right; rw [e, e]
    · left
      rcases ih.2 with q | q
      · have := cnt_grow (h1 (itr F r x)) (h2 _ ih.1) (Ne.symm e)
        omega
      · exact absurd q e
theorem all_Cl {J : Nat → Int32} (hJ : NJ J) {x : Int32} (h : cnt (bt x) 12 = 12) : Cl J x := by
  intro a _ b hb
  exact cnt_full h b (hJ.b12 a b (bt_32 hb) hb)
theorem jac_sub (J : Nat → Int32) (x : Int32) : sub x (jac J x) := fun b h => by unfold jac; rw [b_or, h]; rfl
theorem jac_bt (J : Nat → Int32) (x : Int32) (b : Nat) : bt (jac J x) b = true ↔ bt x b = true ∨ ∃ a, a < 12 ∧ bt x a = true ∧ bt (J a) b = true := by
  unfold jac
  rw [b_or, Bool.or_eq_true, orf_bt]
  constructor
  · rintro (h | ⟨a, h1, h2⟩)
    · exact Or.inl h
    · split at h2
      · rename_i c; exact Or.inr ⟨a, h1, c, h2⟩
      · rw [b_0] at h2; cases h2
  · rintro (h | ⟨a, h1, h2, h3⟩)
    · exact Or.inl h
    · exact Or.inr ⟨a, h1, by rw [if_pos h2]; exact h3⟩
theorem jac_fix {J : Nat → Int32} {x : Int32} (hx : B12 x) (h : jac J x = x) : Cl J x := by
  intro a ha b hb
  rw [← h, jac_bt]
  exact Or.inr ⟨a, hx a (bt_32 ha) ha, ha, hb⟩
theorem jac_min {J : Nat → Int32} {x C : Int32} (hC : Cl J C) (h : sub x C) : sub (jac J x) C := fun b hb => by
  rcases (jac_bt J x b).mp hb with q | ⟨a, _, q2, q3⟩
  · exact h b q
  · exact hC a (h a q2) b q3
theorem itr_min {F : Int32 → Int32} {C : Int32} (hF : ∀ x, sub x C → sub (F x) C) : ∀ (r : Nat) {x : Int32}, sub x C → sub (itr F r x) C
  | 0, _, h => h
  | r + 1, _, h => itr_min hF r (hF _ h)
theorem itr_sup {F : Int32 → Int32} (hF : ∀ x, sub x (F x)) : ∀ (r : Nat) (x : Int32), sub x (itr F r x)
  | 0, _ => fun _ h => h
  | r + 1, x => fun b h => itr_sup hF r (F x) b (hF x b h)
/-- the part of a square -/
def prt (J : Nat → Int32) (p : Nat) : Int32 := itr (jac J) 11 (sg (nI p))
theorem sg_self {p : Nat} (hp : p < 32) : bt (sg (nI p)) p = true := by rw [sg_bt hp hp]; simp
theorem jac_B {J : Nat → Int32} (hJ : NJ J) {x : Int32} (hx : B12 x) : B12 (jac J x) := B12_or hx (B12_orf (fun i _ => by split; exact hJ.b12 i; exact B12_0))
theorem prt_cl {J : Nat → Int32} (hJ : NJ J) {p : Nat} (hp : p < 12) : B12 (prt J p) ∧ Cl J (prt J p) ∧ bt (prt J p) p = true := by
  obtain ⟨h1, h2⟩ := grow (jac_sub J) (fun x => jac_B hJ) (B12_sg hp) ⟨p, sg_self (by omega)⟩ 11
  refine ⟨h1, ?_, itr_sup (jac_sub J) 11 _ p (sg_self (by omega))⟩
  rcases h2 with h2 | h2
  · have := cnt_le (bt (itr (jac J) 11 (sg (nI p)))) 12
    exact all_Cl hJ (show cnt (bt (prt J p)) 12 = 12 by unfold prt; omega)
  · exact jac_fix h1 h2
theorem sub_sg {p : Nat} (hp : p < 32) {C : Int32} (h : bt C p = true) : sub (sg (nI p)) C := fun b hb => by
  rw [sg_bt hp (bt_32 hb)] at hb
  rw [of_decide_eq_true hb]; exact h
theorem prt_min {J : Nat → Int32} {p : Nat} (hp : p < 12) {C : Int32} (hC : Cl J C) (h : bt C p = true) : sub (prt J p) C :=
  itr_min (fun x hx => jac_min hC hx) 11 (sub_sg (by omega) h)
theorem gs_sub (J : Nat → Int32) (x : Int32) : ∀ q, sub x (gs J x q)
  | 0 => fun _ h => h
  | q + 1 => fun b h => by show bt (gs J x q ||| _) b = true; rw [b_or, gs_sub J x q b h]; rfl
theorem gs_mono (J : Nat → Int32) (x : Int32) : ∀ {q r : Nat}, q ≤ r → sub (gs J x q) (gs J x r) := by
  intro q r h
  obtain ⟨c, rfl⟩ : ∃ c, r = q + c := ⟨r - q, by omega⟩
  clear h
  induction c with
  | zero => exact fun _ h => h
  | succ c ih => exact fun b h => by show bt (gs J x (q + c) ||| _) b = true; rw [b_or, ih b h]; rfl
theorem gs_B {J : Nat → Int32} (hJ : NJ J) {x : Int32} (hx : B12 x) : ∀ q, B12 (gs J x q)
  | 0 => hx
  | q + 1 => B12_or (gs_B hJ hx q) (by split; exact hJ.b12 q; exact B12_0)
theorem gs_fix {J : Nat → Int32} {s : Nat} (hs : ∀ a b, bt (J a) b = true → a < s) {x : Int32} (h : gs J x s = x) : Cl J x := by
  intro a ha b hb
  have has := hs a b hb
  have h1 : bt (gs J x a) a = true := gs_sub J x a a ha
  have h2 : bt (gs J x (a + 1)) b = true := by
    show bt (gs J x a ||| _) b = true
    rw [b_or, if_pos h1, hb, Bool.or_true]
  have := gs_mono J x (show a + 1 ≤ s by omega) b h2
  rw [h] at this
  exact this
theorem gs_min {J : Nat → Int32} {x C : Int32} (hC : Cl J C) (h : sub x C) : ∀ q, sub (gs J x q) C
  | 0 => h
  | q + 1 => fun b hb => by
    have hb' : bt (gs J x q ||| (if bt (gs J x q) q = true then J q else 0)) b = true := hb
    rw [b_or, Bool.or_eq_true] at hb'
    rcases hb' with h1 | h1
    · exact gs_min hC h q b h1
    · split at h1
      · rename_i c; exact hC q (gs_min hC h q q c) b h1
      · rw [b_0] at h1; cases h1
theorem gs_prt {J : Nat → Int32} (hJ : NJ J) {s : Nat} (hs : ∀ a b, bt (J a) b = true → a < s) {p : Nat} (hp : p < 12) : itr (fun x => gs J x s) 12 (sg (nI p)) = prt J p := by
  obtain ⟨q1, q2, q3⟩ := prt_cl hJ hp
  obtain ⟨h1, h2⟩ := grow (F := fun x => gs J x s) (fun x => gs_sub J x s) (fun x hx => gs_B hJ hx s) (B12_sg hp) ⟨p, sg_self (by omega)⟩ 12
  have hcl : Cl J (itr (fun x => gs J x s) 12 (sg (nI p))) := by
    rcases h2 with h2 | h2
    · have := cnt_le (bt (itr (fun x => gs J x s) 12 (sg (nI p)))) 12
      omega
    · exact gs_fix hs h2
  refine sub_eq (itr_min (fun x hx => gs_min q2 hx s) 12 (sub_sg (by omega) q3)) (prt_min hp hcl ?_)
  exact itr_sup (fun x => gs_sub J x s) 12 _ p (sg_self (by omega))
theorem gs_0 (J : Nat → Int32) : ∀ q, gs J 0 q = 0
  | 0 => rfl
  | q + 1 => by
    show gs J 0 q ||| (if bt (gs J 0 q) q = true then J q else 0) = 0
    rw [gs_0 J q, b_0, if_neg (by decide), or_0]
theorem itr_0 {F : Int32 → Int32} (h : F 0 = 0) : ∀ r, itr F r 0 = 0
  | 0 => rfl
  | r + 1 => by show itr F r (F 0) = 0; rw [h]; exact itr_0 h r
