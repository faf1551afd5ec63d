/-! Items by groups. -/
def CI (c : Cd) (A : AB) (blk : Nat → Nat) (s : Nat) (L : Nat → Nat) (Q : Nat → Int32) : Prop :=
  blk 0 = 0 ∧ blk A.1 = s ∧ (∀ g, g < A.1 → blk g ≤ blk (g + 1) ∧ (A.2.1 g < c.1 → blk g < blk (g + 1)) ∧ (¬ A.2.1 g < c.1 → blk (g + 1) = blk g)) ∧
  (∀ g j, g < A.1 → blk g ≤ j → j < blk (g + 1) → L j / 32 % 32 = A.2.1 g ∧ (L j / 2048 % 2 = 1 ↔ j = blk g) ∧ (0 < g → blk (A.2.2.1 g) ≤ L j / 4096 ∧ L j / 4096 < blk (A.2.2.1 g + 1)) ∧ (g = 0 → L j / 4096 = 0)) ∧
  (∀ g ph a b, g < A.1 → A.2.1 g < c.1 → ph < 2 → a < 32 → b < 32 → (A.2.2.2 g ph a b ↔ ∃ j, blk g ≤ j ∧ j < blk (g + 1) ∧ L j / 1024 % 2 = ph ∧ L j % 32 = a ∧ bt (Q j) b = true))
theorem blk_mono {n : Nat} {blk : Nat → Nat} (h : ∀ g, g < n → blk g ≤ blk (g + 1)) : ∀ d g, g + d ≤ n → blk g ≤ blk (g + d) := by
  intro d
  induction d with
  | zero => intro g _; exact Nat.le_refl _
  | succ d ih =>
    intro g hg
    have h1 := ih g (by omega)
    have h2 := h (g + d) (by omega)
    rw [show g + (d + 1) = g + d + 1 by omega]
    omega
theorem blk_find {blk : Nat → Nat} (h0 : blk 0 = 0) : ∀ n, ∀ j, j < blk n → ∃ g, g < n ∧ blk g ≤ j ∧ j < blk (g + 1) := by
  intro n
  induction n with
  | zero => intro j hj; rw [h0] at hj; omega
  | succ n ih =>
    intro j hj
    by_cases e : j < blk n
    · obtain ⟨g, g1, g2⟩ := ih j e
      exact ⟨g, by omega, g2⟩
    · exact ⟨n, by omega, by omega, hj⟩
theorem ci_vis {c : Cd} {A : AB} {blk : Nat → Nat} {s : Nat} {L : Nat → Nat} {Q : Nat → Int32} (h : CI c A blk s L Q) {t ph a b : Nat} (ht : t < c.1) (h1 : ph < 2) (h2 : a < 32) (h3 : b < 32) : Vi s L Q t ph a b ↔ vis A t ph a b := by
  obtain ⟨i0, i1, i2, i3, i4⟩ := h
  constructor
  · rintro ⟨j, hj, z1, z2, z3, z4⟩
    rw [← i1] at hj
    obtain ⟨g, g1, g2, g3⟩ := blk_find i0 A.1 j hj
    have q := (i3 g j g1 g2 g3).1
    refine ⟨g, g1, by omega, (i4 g ph a b g1 (by omega) h1 h2 h3).mpr ⟨j, g2, g3, z2, z3, z4⟩⟩
  · rintro ⟨g, g1, g2, g3⟩
    obtain ⟨j, z1, z2, z3, z4, z5⟩ := (i4 g ph a b g1 (by omega) h1 h2 h3).mp g3
    have m := blk_mono (fun g hg => (i2 g hg).1) (A.1 - (g + 1)) (g + 1) (by omega)
    rw [show g + 1 + (A.1 - (g + 1)) = A.1 by omega, i1] at m
    exact ⟨j, by omega, by rw [(i3 g j g1 z1 z2).1]; exact g2, z3, z4, z5⟩
/-- what the items of group i offer is what comes from it -/
theorem ci_frm {c : Cd} (h24 : c.1 ≤ 24) {A : AB} {blk : Nat → Nat} {s : Nat} {L : Nat → Nat} {Q : Nat → Int32} (h : CI c A blk s L Q) {i q q' : Nat} (hI : abI c A q q') (hi : i < A.1) (hn : A.2.1 i < c.1) {nx ph a b : Nat} (hnx : nx < c.1) :
    (∃ j, blk i ≤ j ∧ j < blk (i + 1) ∧ Wi c L Q (A.2.1 i) nx j ph a b) ↔ frm c A i nx ph a b := by
  obtain ⟨i0, i1, i2, i3, i4⟩ := h
  constructor
  · rintro ⟨j, z1, z2, b0, hb0, z3, z4⟩
    refine ⟨hn, nx, L j / 1024 % 2, L j % 32, b0, ?_, z4, ?_⟩
    · exact (i4 i _ _ b0 hi hn (Nat.mod_lt _ (by decide)) (Nat.mod_lt _ (by decide)) hb0).mpr ⟨j, z1, z2, rfl, rfl, z3⟩
    · unfold ee; rw [if_pos hnx]
  · rintro ⟨-, t0, p0, a0, b0, s0, st, e⟩
    have et : t0 = nx := by
      unfold ee at e
      split at e <;> omega
    subst et
    obtain ⟨r1, r2, r3⟩ := hI.2.2.1 i p0 a0 b0 hi s0
    obtain ⟨j, z1, z2, z3, z4, z5⟩ := (i4 i p0 a0 b0 hi hn r1 r2 r3).mp s0
    exact ⟨j, z1, z2, b0, r3, z5, by rw [z3, z4]; exact st⟩
theorem stp_rng_frm {c : Cd} (hc : cdOk c) {A : AB} {i q q' nx ph a b : Nat} (hI : abI c A q q') (hi : i < A.1) (h : frm c A i nx ph a b) : ph < 2 ∧ a < 32 ∧ b < 32 := by
  obtain ⟨hn, t0, p0, a0, b0, s0, st, -⟩ := h
  exact stp_rng hc hn (hI.2.2.1 i p0 a0 b0 hi s0) st
set_option maxHeartbeats 1000000 in
theorem ci_add {c : Cd} (hc : cdOk c) {A : AB} {blk : Nat → Nat} {s : Nat} {L : Nat → Nat} {Q : Nat → Int32} (h : CI c A blk s L Q) {i q q' : Nat} (hI : abI c A q q') (hi : i < A.1) {nx s' : Nat} {L' : Nat → Nat} {Q' : Nat → Int32} {o' : Nat} {W : Nat → Nat → Nat → Prop}
    (hS : Seg c nx (blk i) (blk (i + 1)) s L Q 1 s' L' Q' o' W) (hW : nx < c.1 → ∀ ph a b, ph < 2 → a < 32 → b < 32 → (W ph a b ↔ frm c A i nx ph a b)) (hq : ∀ j, j < s' → ¬ Q' j = 0)
    (hd : ∀ j j' b, j < s' → j' < s' → b < 32 → L' j / 32 % 32 = L' j' / 32 % 32 → L' j / 1024 % 2 = L' j' / 1024 % 2 → L' j % 32 = L' j' % 32 → bt (Q' j) b = true → bt (Q' j') b = true → j = j') :
    ∃ blk', CI c (addG c A i (ee c nx)) blk' s' L' Q' ∧ ∀ g, g ≤ A.1 → blk' g = blk g := by
  obtain ⟨a1, a2, a3, a4, a5, a6⟩ := hS
  obtain ⟨i0, i1, i2, i3, i4⟩ := id h
  have hnew : nx < c.1 → ∀ ph a b, ph < 2 → a < 32 → b < 32 → (nwP c A i nx ph a b ↔ ∃ j, s ≤ j ∧ j < s' ∧ L' j / 1024 % 2 = ph ∧ L' j % 32 = a ∧ bt (Q' j) b = true) := by
    intro hn ph a b g1 g2 g3
    have v1 := a6 hn ph a b g1 g2 g3
    have v0 := ci_vis h hn g1 g2 g3
    constructor
    · rintro ⟨z1, z2⟩
      obtain ⟨j, hj, y1, y2, y3, y4⟩ := v1.mpr (Or.inr ((hW hn ph a b g1 g2 g3).mpr z1))
      refine ⟨j, ?_, hj, y2, y3, y4⟩
      rcases Nat.lt_or_ge j s with e | e
      · exfalso; apply z2; rw [← v0]
        rw [(a2 j e).1] at y1 y2 y3
        rw [(a2 j e).2] at y4
        exact ⟨j, e, y1, y2, y3, y4⟩
      · exact e
    · rintro ⟨j, z1, z2, z3, z4, z5⟩
      have nv : ¬ Vi s L Q nx ph a b := by
        rintro ⟨j', hj', y1, y2, y3, y4⟩
        rw [← (a2 j' hj').1] at y1 y2 y3
        rw [← (a2 j' hj').2] at y4
        have x1 := (a3 j z1 z2).1
        have := hd j j' b z2 (by omega) g3 (by omega) (by omega) (by omega) z5 y4
        omega
      refine ⟨?_, fun z => nv (v0.mpr z)⟩
      rw [← hW hn ph a b g1 g2 g3]
      rcases v1.mp ⟨j, z2, (a3 j z1 z2).1, z3, z4, z5⟩ with y | y
      · exact absurd y nv
      · exact y
  by_cases hp : ∃ ph a b, nwP c A i (ee c nx) ph a b
  · rw [addG_yes hp]
    have hl : (psh A i (ee c nx) (nwP c A i (ee c nx))).1 = A.1 + 1 := rfl
    have ho := fun g (hg : g < A.1) => psh_old (i := i) (t' := ee c nx) (P := nwP c A i (ee c nx)) hg
    have hw := psh_new (A := A) (i := i) (t' := ee c nx) (P := nwP c A i (ee c nx))
    generalize hB : psh A i (ee c nx) (nwP c A i (ee c nx)) = B at hl ho hw ⊢
    have bo : ∀ g, g ≤ A.1 → va_up blk (A.1 + 1) s' g = blk g := fun g hg => va_up_ne _ _ (by omega)
    have bn : va_up blk (A.1 + 1) s' (A.1 + 1) = s' := va_up_self _ _ _
    refine ⟨va_up blk (A.1 + 1) s', ⟨by rw [bo 0 (by omega)]; exact i0, by rw [hl]; exact bn, ?_, ?_, ?_⟩, bo⟩
    · intro g hg
      rcases (show g < A.1 ∨ g = A.1 by omega) with e | e
      · rw [bo g (by omega), bo (g + 1) (by omega), (ho g e).1]
        exact i2 g e
      · subst e
        rw [bo _ (Nat.le_refl _), bn, hw.1, i1]
        refine ⟨a1, fun z => ?_, fun z => ?_⟩
        · have hn : nx < c.1 := by unfold ee at z; have := hc.1; split at z <;> omega
          have en : ee c nx = nx := by unfold ee; rw [if_pos hn]
          rw [en] at hp
          obtain ⟨ph, a, b, y⟩ := hp
          have r := stp_rng_frm hc hI hi y.1
          obtain ⟨j, y1, y2, -⟩ := (hnew hn ph a b r.1 r.2.1 r.2.2).mp y
          omega
        · rcases (show s = s' ∨ s < s' by omega) with y | y
          · exact y.symm
          · have hn := (a5 y).2
            exfalso; apply z
            unfold ee; rw [if_pos hn]; exact hn
    · intro g j hg g1 g2
      rcases (show g < A.1 ∨ g = A.1 by omega) with e | e
      · rw [bo g (by omega)] at g1 ⊢
        rw [bo (g + 1) (by omega)] at g2
        have m := blk_mono (fun g hg => (i2 g hg).1) (A.1 - (g + 1)) (g + 1) (by omega)
        rw [show g + 1 + (A.1 - (g + 1)) = A.1 by omega, i1] at m
        rw [(ho g e).1, (ho g e).2.1, (a2 j (by omega)).1]
        obtain ⟨x1, x2, x3, x4⟩ := i3 g j e g1 g2
        refine ⟨x1, x2, fun z => ?_, x4⟩
        have := (hI.2.2.2.2.1 g z e).1
        rw [bo _ (by omega), bo _ (by omega)]
        exact x3 z
      · subst e
        rw [bo _ (Nat.le_refl _), i1] at g1 ⊢
        rw [bn] at g2
        obtain ⟨x1, x2, x3, x4⟩ := a3 j g1 g2
        have hn := (a5 (by omega)).2
        rw [hw.1, hw.2.1, bo i (by omega), bo (i + 1) (by omega)]
        refine ⟨by unfold ee; rw [if_pos hn]; exact x1, x4.trans ⟨fun z => z.2, fun z => ⟨rfl, z⟩⟩, fun _ => ⟨x2, x3⟩, fun z => by omega⟩
    · intro g ph a b hg hn h1 h2 h3
      rcases (show g < A.1 ∨ g = A.1 by omega) with e | e
      · rw [(ho g e).1] at hn
        rw [(ho g e).2.2, bo g (by omega), bo (g + 1) (by omega), i4 g ph a b e hn h1 h2 h3]
        have m := blk_mono (fun g hg => (i2 g hg).1) (A.1 - (g + 1)) (g + 1) (by omega)
        rw [show g + 1 + (A.1 - (g + 1)) = A.1 by omega, i1] at m
        constructor
        · rintro ⟨j, z1, z2, z3⟩
          exact ⟨j, z1, z2, by rw [(a2 j (by omega)).1, (a2 j (by omega)).2]; exact z3⟩
        · rintro ⟨j, z1, z2, z3⟩
          rw [(a2 j (by omega)).1, (a2 j (by omega)).2] at z3
          exact ⟨j, z1, z2, z3⟩
      · subst e
        rw [hw.1] at hn
        have hn' : nx < c.1 := by unfold ee at hn; have := hc.1; split at hn <;> omega
        have en : ee c nx = nx := by unfold ee; rw [if_pos hn']
        rw [hw.2.2, bo _ (Nat.le_refl _), bn, i1, en]
        exact hnew hn' ph a b h1 h2 h3
  · rw [addG_no hp]
    have es : s' = s := by
      rcases (show s = s' ∨ s < s' by omega) with y | y
      · exact y.symm
      · exfalso
        have hn := (a5 y).2
        have en : ee c nx = nx := by unfold ee; rw [if_pos hn]
        obtain ⟨b, hb, hqb⟩ := nz_bt (hq s y)
        apply hp
        rw [en]
        exact ⟨L' s / 1024 % 2, L' s % 32, b, (hnew hn _ _ b (Nat.mod_lt _ (by decide)) (Nat.mod_lt _ (by decide)) hb).mpr ⟨s, Nat.le_refl _, y, rfl, rfl, hqb⟩⟩
    subst es
    refine ⟨blk, ⟨i0, i1, i2, fun g j hg g1 g2 => ?_, fun g ph a b hg hn h1 h2 h3 => ?_⟩, fun g _ => rfl⟩
    · have m := blk_mono (fun g hg => (i2 g hg).1) (A.1 - (g + 1)) (g + 1) (by omega)
      rw [show g + 1 + (A.1 - (g + 1)) = A.1 by omega, i1] at m
      rw [(a2 j (by omega)).1]
      exact i3 g j hg g1 g2
    · have m := blk_mono (fun g hg => (i2 g hg).1) (A.1 - (g + 1)) (g + 1) (by omega)
      rw [show g + 1 + (A.1 - (g + 1)) = A.1 by omega, i1] at m
      rw [i4 g ph a b hg hn h1 h2 h3]
      constructor
      · rintro ⟨j, z1, z2, z3⟩
        exact ⟨j, z1, z2, by rw [(a2 j (by omega)).1, (a2 j (by omega)).2]; exact z3⟩
      · rintro ⟨j, z1, z2, z3⟩
        rw [(a2 j (by omega)).1, (a2 j (by omega)).2] at z3
        exact ⟨j, z1, z2, z3⟩
