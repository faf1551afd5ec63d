/-! works(): the state in the midst of a group. -/
def vN (A : AB) (z : Nat) : Prop := vis A (z / 2048) (z / 1024 % 2) (z / 32 % 32) (z % 32)
def gN (A : AB) (g z : Nat) : Prop := z / 2048 = A.2.1 g ∧ A.2.2.2 g (z / 1024 % 2) (z / 32 % 32) (z % 32)
def wN (c : Cd) (y z : Nat) : Prop := y / 2048 < c.1 ∧ Wm c (y / 2048) (y / 1024 % 2) (y / 32 % 32) (y % 32) z
theorem vN_g {A : AB} {z : Nat} : vN A z ↔ ∃ g, g < A.1 ∧ gN A g z := by
  unfold vN gN vis
  constructor
  · rintro ⟨g, h1, h2, h3⟩; exact ⟨g, h1, h2.symm, h3⟩
  · rintro ⟨g, h1, h2, h3⟩; exact ⟨g, h1, h2.symm, h3⟩
theorem mg_row {A : AB} {rb : Nat → Nat} {mn : Nat} {rw' : Nat → Nat} (h : Mg A rb mn rw') {j : Nat} (hj : j < mn) : ∃ g, g < A.1 ∧ rb g ≤ j ∧ j < rb (g + 1) ∧ gN A g (rw' j) := by
  obtain ⟨i0, i1, i2, i3, i4⟩ := h
  obtain ⟨g, g1, g2, g3⟩ := blk_find i0 A.1 j (by rw [i1]; exact hj)
  exact ⟨g, g1, g2, g3, i3 g j g1 g2 g3⟩
theorem gN_j {A : AB} {rb : Nat → Nat} {mn : Nat} {rw' : Nat → Nat} (h : Mg A rb mn rw') {g z : Nat} (hg : g < A.1) (hz : gN A g z) : ∃ j, rb g ≤ j ∧ j < rb (g + 1) ∧ rw' j = z := by
  obtain ⟨i0, i1, i2, i3, i4⟩ := h
  obtain ⟨j, j1, j2, j3⟩ := i4 g _ _ _ hg hz.2
  refine ⟨j, j1, j2, ?_⟩
  rw [j3, ← hz.1, ← sn_dec]
theorem rb_le {A : AB} {rb : Nat → Nat} {mn : Nat} {rw' : Nat → Nat} (h : Mg A rb mn rw') {g : Nat} (hg : g ≤ A.1) : rb g ≤ mn := by
  obtain ⟨i0, i1, i2, i3, i4⟩ := h
  have mm := blk_mono (n := A.1) (blk := rb) (fun g hg => Nat.le_of_lt (i2 g hg)) (A.1 - g) g (by omega)
  rw [show g + (A.1 - g) = A.1 by omega, i1] at mm
  exact mm
theorem wN_frm {c : Cd} (hc : cdOk c) {A : AB} {i q q' : Nat} (hI : abI c A q q') (hi : i < A.1) {rb : Nat → Nat} {mn : Nat} {rw' : Nat → Nat} (h : Mg A rb mn rw') (z : Nat) : (∃ j, rb i ≤ j ∧ j < rb (i + 1) ∧ wN c (rw' j) z) ↔ frm c A i (z / 2048) (z / 1024 % 2) (z / 32 % 32) (z % 32) := by
  constructor
  · rintro ⟨j, j1, j2, h1, t0, ph', a', b', st, rfl⟩
    obtain ⟨e1, e2⟩ := h.2.2.2.1 i j hi j1 j2
    have r := stp_rng hc h1 ⟨by omega, by omega, by omega⟩ st
    obtain ⟨s1, s2, s3, s4⟩ := sn_t (t := ee c t0) r.1 r.2.1 r.2.2
    rw [s1, s2, s3, s4]
    rw [e1] at h1 st
    exact ⟨h1, t0, _, _, _, e2, st, rfl⟩
  · rintro ⟨h1, t0, ph, a, b, s, st, e⟩
    obtain ⟨r1, r2, r3⟩ := hI.2.2.1 i ph a b hi s
    obtain ⟨j, j1, j2, j3⟩ := h.2.2.2.2 i ph a b hi s
    obtain ⟨s1, s2, s3, s4⟩ := sn_t (t := A.2.1 i) r1 r2 r3
    refine ⟨j, j1, j2, ?_⟩
    unfold wN
    rw [j3, s1, s2, s3, s4]
    refine ⟨h1, t0, _, _, _, st, ?_⟩
    rw [e, ← sn_dec]
def WS (c : Cd) (A : AB) (i k : Nat) (rb rw' : Nat → Nat) (V : Nat → Prop) (dp : Nat → Nat) (pr : Nat → Int32) (m : Nat) (an : Nat → Nat) : Prop :=
  (∀ z, V z ↔ vN A z ∨ ∃ j, rb i ≤ j ∧ j < k ∧ wN c (rw' j) z) ∧
  (∀ q, q < m → ¬ vN A (an q) ∧ dp (an q) = dep A i + 1 ∧ ∃ y, pr (an q) = nI y ∧ gN A i y) ∧
  (∀ z, V z → ¬ vN A z → ∃ q, q < m ∧ an q = z) ∧
  (∀ g z, g < A.1 → gN A g z → dp z = dep A g ∧ (0 < g → ∃ y, pr z = nI y ∧ gN A (A.2.2.1 g) y))
def WB (p : Nat) (c : Cd) (M : Mem) (k : Nat) (rw' : Nat → Nat) : Prop :=
  (∀ ph a b, ph < 2 → a < 32 → b < 32 → (bt (M 77 (64 * p + 32 * ph + a)) b = true ↔ ∃ j, j < k ∧ rw' j / 2048 < c.1 ∧ c.2.1 (rw' j / 2048) = 7 ∧ rw' j = sn (rw' j / 2048) ph a b)) ∧
  (∀ t, t < c.1 → (bt (M 79 p) t = true ↔ ∃ j, j < k ∧ rw' j / 2048 = t))
def Wk (p : Nat) (c : Cd) (M : Mem) (A : AB) (i k : Nat) (rb : Nat → Nat) (mn : Nat) (rw' : Nat → Nat) : Prop :=
  ∃ V dp pr m an, mQ p c M V dp pr m an ∧ mRow M mn rw' ∧ Mg A rb mn rw' ∧ rkO M A rb rw' ∧ abS c i = A ∧ WS c A i k rb rw' V dp pr m an ∧ WB p c M k rw'
def mW (p : Nat) (M M' : Mem) : Prop := (∀ k, k ≠ 70 → k ≠ 77 → k ≠ 79 → k ≠ 86 → k ≠ 87 → k ≠ 88 → k ≠ 89 → k ≠ 90 → M' k = M k) ∧ (∀ f, f ≠ 23 → f ≠ 24 → f ≠ 26 → M' 70 f = M 70 f) ∧ (∀ x, ¬ (64 * p ≤ x ∧ x < 64 * p + 64) → M' 77 x = M 77 x) ∧ ∀ x, x ≠ p → M' 79 x = M 79 x
theorem mW.rf (p : Nat) (M : Mem) : mW p M M := ⟨fun _ _ _ _ _ _ _ _ _ => rfl, fun _ _ _ _ => rfl, fun _ _ => rfl, fun _ _ => rfl⟩
theorem mW.tr {p : Nat} {M M' M'' : Mem} (h : mW p M M') (h' : mW p M' M'') : mW p M M'' := ⟨fun k a b c d e f g i => (h'.1 k a b c d e f g i).trans (h.1 k a b c d e f g i), fun f a b c => (h'.2.1 f a b c).trans (h.2.1 f a b c), fun x a => (h'.2.2.1 x a).trans (h.2.2.1 x a), fun x a => (h'.2.2.2 x a).trans (h.2.2.2 x a)⟩
theorem mN.w {p : Nat} {M M' : Mem} (h : mN M M') : mW p M M' := ⟨fun k a _ _ d _ _ g _ => h.1 k a d g, fun f a b _ => h.2 f a b, fun x _ => by rw [h.1 77 (by omega) (by omega) (by omega)], fun x _ => by rw [h.1 79 (by omega) (by omega) (by omega)]⟩
theorem mK.w {p : Nat} {M M' : Mem} (h : mK M M') : mW p M M' := ⟨fun k a _ _ _ e f _ i => h.1 k a e f i, fun f _ _ c => h.2 f c, fun x _ => by rw [h.1 77 (by omega) (by omega) (by omega) (by omega)], fun x _ => by rw [h.1 79 (by omega) (by omega) (by omega) (by omega)]⟩
theorem adds_par {c : Cd} {A : AB} {i : Nat} : ∀ t, A.1 ≤ (adds c A i t).1 ∧ (∀ g, g < A.1 → (adds c A i t).2.1 g = A.2.1 g ∧ (adds c A i t).2.2.1 g = A.2.2.1 g ∧ (adds c A i t).2.2.2 g = A.2.2.2 g) ∧ ∀ g, A.1 ≤ g → g < (adds c A i t).1 → (adds c A i t).2.2.1 g = i
  | 0 => ⟨Nat.le_refl _, fun _ _ => ⟨rfl, rfl, rfl⟩, fun g a b => absurd a (Nat.not_le_of_lt b)⟩
  | t + 1 => by
    obtain ⟨a1, a2, a3⟩ := adds_par (c := c) (A := A) (i := i) t
    show A.1 ≤ (addG c (adds c A i t) i t).1 ∧ (∀ g, g < A.1 → (addG c (adds c A i t) i t).2.1 g = A.2.1 g ∧ (addG c (adds c A i t) i t).2.2.1 g = A.2.2.1 g ∧ (addG c (adds c A i t) i t).2.2.2 g = A.2.2.2 g) ∧ ∀ g, A.1 ≤ g → g < (addG c (adds c A i t) i t).1 → (addG c (adds c A i t) i t).2.2.1 g = i
    by_cases h : ∃ ph a b, nwP c (adds c A i t) i t ph a b
    · rw [addG_yes h]
      generalize nwP c (adds c A i t) i t = Pq
      generalize adds c A i t = B at a1 a2 a3
      refine ⟨by show A.1 ≤ B.1 + 1; omega, fun g hg => ?_, fun g g1 g2 => ?_⟩
      · obtain ⟨x1, x2, x3⟩ := psh_old (A := B) (i := i) (t' := t) (P := Pq) (g := g) (by omega)
        obtain ⟨y1, y2, y3⟩ := a2 g hg
        exact ⟨x1.trans y1, x2.trans y2, x3.trans y3⟩
      · have g2' : g < B.1 + 1 := g2
        rcases (show g < B.1 ∨ g = B.1 by omega) with e | e
        · rw [(psh_old e).2.1]; exact a3 g g1 e
        · subst e; exact psh_new.2.1
    · rw [addG_no h]; exact ⟨a1, a2, a3⟩
set_option maxHeartbeats 2000000 in
/-- at a group's border -/
theorem wk_rank {p fu : Nat} (hfu : 51200 < fu) {c : Cd} (hc : cdOk c) {M : Mem} {A : AB} {i : Nat} {rb : Nat → Nat} {mn : Nat} {rw' : Nat → Nat} (hi : i < A.1) (h : Wk p c M A i (rb (i + 1)) rb mn rw') :
    ∃ M' rb' mn' rw2, f_X9_ranksAnew fu M = some (0, M') ∧ mW p M M' ∧ Wk p c M' (abS c (i + 1)) (i + 1) (rb (i + 1)) rb' mn' rw2 ∧ rb' (i + 1) = rb (i + 1) ∧ A.1 ≤ (abS c (i + 1)).1 := by
  obtain ⟨V, dp, pr, m, an, hQ, hr, hg, hk, hA, ⟨s1, s2, s3, s4⟩, hB1, hB2⟩ := h
  have hI : abI c A i i := by rw [← hA]; exact abS_inv hc i (by rw [hA]; omega)
  obtain ⟨q1, q2, q3, q4, q5, q6⟩ := id hQ
  have hfr := wN_frm hc hI hi hg
  have nw : ∀ z, nwP c A i (z / 2048) (z / 1024 % 2) (z / 32 % 32) (z % 32) ↔ V z ∧ ¬ vN A z := fun z => by
    rw [s1, hfr]
    unfold nwP vN
    constructor
    · rintro ⟨a1, a2⟩; exact ⟨Or.inr a1, a2⟩
    · rintro ⟨a1, a2⟩; exact ⟨a1.resolve_left a2, a2⟩
  have h3 : ∀ t ph a b, nwP c A i t ph a b → ph < 2 ∧ a < 32 ∧ b < 32 := fun t ph a b z => stp_rng_frm hc hI hi z.1
  obtain ⟨M1, rb1, mn1, rw1, e1, a1, a2, a3, a4, a5, a6, a7⟩ := rk_out (i := i) (P := nwP c A i) (an := an) hfu q3 (fun j hj => (q4 j hj).2.1) q5 (fun k hk => (nw _).mpr ⟨(q4 k hk).2.2, (s2 k hk).1⟩) (fun t ph a b z => by
      obtain ⟨r1, r2, r3⟩ := h3 t ph a b z
      obtain ⟨x1, x2, x3, x4⟩ := sn_t (t := t) r1 r2 r3
      have := nw (sn t ph a b)
      rw [x1, x2, x3, x4] at this
      obtain ⟨v1, v2⟩ := this.mp z
      exact s3 _ v1 v2) h3 (fun M9 y10 => wr M9 (70) 26 0 (fun M11 => some (0, M11))) 25 0 fu M A rb mn rw' (by omega) (by omega) q2 (fun j hj => (q4 j hj).1) hr hg hk (fun k j g1 _ g3 w => by
      obtain ⟨g, z1, -, -, z2⟩ := mg_row hg g3
      apply (s2 k g1).1
      rw [← w, vN_g]
      exact ⟨g, z1, z2⟩)
  have e1' : f_X9_ranksAnew fu M = _ := e1
  rw [e1']
  have hst : adF i (nwP c A i) 25 0 A = abS c (i + 1) := by
    have e2 : abS c (i + 1) = stpG c A i := by
      show (if i < (abS c i).1 then stpG c (abS c i) i else abS c i) = _
      rw [hA, if_pos hi]
    rw [e2, ← adds_all hc hi]
    have := adF_adds (c := c) hi 25 0
    rw [Nat.zero_add] at this
    exact this
  have hB : abS c (i + 1) = adds c A i 25 := by
    have := adF_adds (c := c) hi 25 0
    rw [Nat.zero_add] at this
    rw [← hst]; exact this
  rw [hst] at a3 a4
  obtain ⟨p1, p2, p3⟩ := adds_par (c := c) (A := A) (i := i) 25
  have hv := adds_vis (c := c) hi 25
  rw [← hB] at p1 p2 p3 hv
  have hI' : abI c (abS c (i + 1)) (i + 1) (i + 1) := abS_inv hc (i + 1) (by omega)
  generalize hBe : abS c (i + 1) = B at a3 a4 p1 p2 p3 hv hI' ⊢
  unfold wr
  generalize hX : upM M1 70 26 0 = X
  have b1 : ∀ k, k ≠ 70 → X k = M1 k := fun k hk => by rw [← hX, upM_k hk]
  have b2 : ∀ f, f ≠ 26 → X 70 f = M1 70 f := fun f hf => by rw [← hX, upM_ap, if_neg (by omega)]
  have b3 : X 70 26 = 0 := by rw [← hX, upM_ap, if_pos ⟨rfl, rfl⟩]
  have hXM : ∀ k, k ≠ 70 → k ≠ 86 → k ≠ 89 → X k = M k := fun k g1 g2 g3 => by rw [b1 k g1, a1.1 k g1 g2 g3]
  have hrb := rb_le hg (show i + 1 ≤ A.1 by omega)
  have hvB : ∀ z, vN B z ↔ V z := fun z => by
    unfold vN
    rw [hv, s1, hfr]
    constructor
    · rintro (w | ⟨-, w⟩)
      · exact Or.inl w
      · exact Or.inr w
    · rintro (w | w)
      · exact Or.inl w
      · exact Or.inr ⟨by have := (frm_e hc w).1; omega, w⟩
  refine ⟨X, rb1, mn1, rw1, rfl, a1.w.tr ⟨fun k g _ _ _ _ _ _ _ => b1 k g, fun f _ _ g => b2 f g, fun x _ => by rw [b1 77 (by omega)], fun x _ => by rw [b1 79 (by omega)]⟩, ?_, a7 (i + 1) (by omega), p1⟩
  refine ⟨V, dp, pr, 0, an, ?_, ?_, a3, ?_, hBe, ⟨?_, ?_, ?_, ?_⟩, ?_, ?_⟩
  · refine ⟨⟨?_, fun j hj => ?_⟩, b3, by omega, fun j hj => by omega, fun j j' hj => by omega, fun x hx => ?_⟩
    · rw [hXM _ (by omega) (by omega) (by omega)]; exact q1.1
    · rw [hXM _ (by omega) (by omega) (by omega), hXM _ (by omega) (by omega) (by omega), hXM _ (by omega) (by omega) (by omega), hXM _ (by omega) (by omega) (by omega)]; exact q1.2 j hj
    · rw [hXM _ (by omega) (by omega) (by omega), hXM _ (by omega) (by omega) (by omega)]; exact q6 x hx
  · exact ⟨by rw [b2 _ (by omega)]; exact a2.1, a2.2.1, fun j hj => by rw [b1 _ (by omega)]; exact a2.2.2.1 j hj, a2.2.2.2⟩
  · exact ⟨by rw [b2 _ (by omega)]; exact a4.1, fun g j g0 g1 g2 => by rw [b1 _ (by omega)]; exact a4.2 g j g0 g1 g2⟩
  · intro z
    rw [hvB]
    constructor
    · exact Or.inl
    · rintro (w | ⟨j, j1, j2, -⟩)
      · exact w
      · rw [a7 (i + 1) (by omega)] at j1; omega
  · intro q hq; omega
  · intro z v w; exact absurd ((hvB z).mpr v) w
  · have hpr : ∀ g, 0 < g → g < A.1 → A.2.2.1 g < g := fun g g1 g2 => (hI.2.2.2.2.1 g g1 g2).1
    have hprB : ∀ g, 0 < g → g < B.1 → B.2.2.1 g < g := fun g g1 g2 => (hI'.2.2.2.2.1 g g1 g2).1
    have hds := dep_same hpr p1 (fun g hg => (p2 g hg).2.1)
    have gE : ∀ g z, g < A.1 → (gN B g z ↔ gN A g z) := fun g z hg => by
      unfold gN
      rw [(p2 g hg).1, (p2 g hg).2.2]
    intro g z g0 hz
    rcases Nat.lt_or_ge g A.1 with w | w
    · rw [gE g z w] at hz
      obtain ⟨y1, y2⟩ := s4 g z w hz
      refine ⟨by rw [hds g w]; exact y1, fun g1 => ?_⟩
      obtain ⟨y, y3, y4⟩ := y2 g1
      rw [(p2 g w).2.1]
      exact ⟨y, y3, (gE _ _ (by have := hpr g g1 w; omega)).mpr y4⟩
    · have hV : V z := (hvB z).mp (vN_g.mpr ⟨g, g0, hz⟩)
      have hnv : ¬ vN A z := fun v => by
        obtain ⟨g', g1, g2⟩ := vN_g.mp v
        have g3 := (gE g' z g1).mpr g2
        have := hI'.2.2.2.1 g' g _ _ _ (by omega) g0 (g3.1.symm.trans hz.1) g3.2 hz.2
        omega
      obtain ⟨q, q1, q2⟩ := s3 z hV hnv
      obtain ⟨-, x2, y, x3, x4⟩ := s2 q q1
      rw [q2] at x2 x3
      refine ⟨?_, fun _ => ⟨y, x3, ?_⟩⟩
      · rw [x2, dep_s hprB (by omega) g0, p3 g w g0, hds i hi]
      · rw [p3 g w g0]; exact (gE i y hi).mpr x4
  · intro ph a b r1 r2 r3
    rw [hXM 77 (by omega) (by omega) (by omega), hB1 ph a b r1 r2 r3]
    constructor
    · rintro ⟨j, j1, j2⟩; exact ⟨j, j1, by rw [a6 j (by omega)]; exact j2⟩
    · rintro ⟨j, j1, j2⟩; exact ⟨j, j1, by rw [a6 j (by omega)] at j2; exact j2⟩
  · intro t ht
    rw [hXM 79 (by omega) (by omega) (by omega), hB2 t ht]
    constructor
    · rintro ⟨j, j1, j2⟩; exact ⟨j, j1, by rw [a6 j (by omega)]; exact j2⟩
    · rintro ⟨j, j1, j2⟩; exact ⟨j, j1, by rw [a6 j (by omega)] at j2; exact j2⟩
