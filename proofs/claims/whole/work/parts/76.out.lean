/-! ranksAnew(), the outer loop. -/
/-- the row, by groups -/
def Mg (A : AB) (rb : Nat → Nat) (mn : Nat) (rw' : Nat → Nat) : Prop :=
  rb 0 = 0 ∧ rb A.1 = mn ∧ (∀ g, g < A.1 → rb g < rb (g + 1)) ∧
  (∀ g j, g < A.1 → rb g ≤ j → j < rb (g + 1) → rw' j / 2048 = A.2.1 g ∧ A.2.2.2 g (rw' j / 1024 % 2) (rw' j / 32 % 32) (rw' j % 32)) ∧
  (∀ g ph a b, g < A.1 → A.2.2.2 g ph a b → ∃ j, rb g ≤ j ∧ j < rb (g + 1) ∧ rw' j = sn (A.2.1 g) ph a b)
theorem adds_vis {c : Cd} {A : AB} {i : Nat} (hi : i < A.1) : ∀ t t' ph a b, vis (adds c A i t) t' ph a b ↔ vis A t' ph a b ∨ (t' < t ∧ frm c A i t' ph a b) := by
  intro t
  induction t with
  | zero => intro t' ph a b; exact ⟨Or.inl, fun z => z.elim id (fun w => by omega)⟩
  | succ t ih =>
    intro t' ph a b
    show vis (addG c (adds c A i t) i t) t' ph a b ↔ _
    have fs : ∀ x ph a b, frm c (adds c A i t) i x ph a b ↔ frm c A i x ph a b := fun x ph a b => frm_same (adds_at hi t).1 (adds_at hi t).2.1
    by_cases h : ∃ ph a b, nwP c (adds c A i t) i t ph a b
    · rw [addG_yes h, vis_psh, ih]
      constructor
      · rintro ((z | ⟨z1, z2⟩) | ⟨rfl, z, -⟩)
        · exact Or.inl z
        · exact Or.inr ⟨by omega, z2⟩
        · exact Or.inr ⟨by omega, (fs _ _ _ _).mp z⟩
      · rintro (z | ⟨z1, z2⟩)
        · exact Or.inl (Or.inl z)
        · rcases (show t' < t ∨ t' = t by omega) with q | q
          · exact Or.inl (Or.inr ⟨q, z2⟩)
          · subst q
            by_cases w : vis (adds c A i t') t' ph a b
            · exact Or.inl ((ih _ _ _ _).mp w)
            · exact Or.inr ⟨rfl, (fs _ _ _ _).mpr z2, w⟩
    · rw [addG_no h, ih]
      constructor
      · rintro (z | ⟨z1, z2⟩)
        · exact Or.inl z
        · exact Or.inr ⟨by omega, z2⟩
      · rintro (z | ⟨z1, z2⟩)
        · exact Or.inl z
        · rcases (show t' < t ∨ t' = t by omega) with q | q
          · exact Or.inr ⟨q, z2⟩
          · subst q
            by_cases w : vis (adds c A i t') t' ph a b
            · exact (ih _ _ _ _).mp w
            · exact absurd ⟨ph, a, b, (fs _ _ _ _).mpr z2, w⟩ h
theorem adds_nw {c : Cd} {A : AB} {i : Nat} (hi : i < A.1) (t ph a b : Nat) : nwP c (adds c A i t) i t ph a b ↔ nwP c A i t ph a b := by
  unfold nwP
  rw [frm_same (adds_at hi t).1 (adds_at hi t).2.1, adds_vis hi]
  constructor
  · rintro ⟨z1, z2⟩; exact ⟨z1, fun w => z2 (Or.inl w)⟩
  · rintro ⟨z1, z2⟩
    refine ⟨z1, ?_⟩
    rintro (w | ⟨w, -⟩)
    · exact z2 w
    · omega
/-- a group more in the row -/
theorem Mg.add {A : AB} {rb : Nat → Nat} {mn mn' : Nat} {rw' rw2 : Nat → Nat} (h : Mg A rb mn rw') {i t : Nat} {P : Nat → Nat → Nat → Prop} (hlt : mn < mn') (hold : ∀ j, j < mn → rw2 j = rw' j)
    (h1 : ∀ j, mn ≤ j → j < mn' → rw2 j / 2048 = t ∧ P (rw2 j / 1024 % 2) (rw2 j / 32 % 32) (rw2 j % 32)) (h2 : ∀ ph a b, P ph a b → ∃ j, mn ≤ j ∧ j < mn' ∧ rw2 j = sn t ph a b) : Mg (psh A i t P) (va_up rb (A.1 + 1) mn') mn' rw2 := by
  obtain ⟨i0, i1, i2, i3, i4⟩ := h
  have ho := fun g (hg : g < A.1) => psh_old (i := i) (t' := t) (P := P) hg
  have hw := psh_new (A := A) (i := i) (t' := t) (P := P)
  have hl : (psh A i t P).1 = A.1 + 1 := rfl
  generalize psh A i t P = B at ho hw hl ⊢
  have bo : ∀ g, g ≤ A.1 → va_up rb (A.1 + 1) mn' g = rb g := fun g hg => va_up_ne _ _ (by omega)
  have bn : va_up rb (A.1 + 1) mn' (A.1 + 1) = mn' := va_up_self _ _ _
  have mon := blk_mono (n := A.1) (blk := rb) (fun g hg => Nat.le_of_lt (i2 g hg))
  refine ⟨by rw [bo 0 (by omega)]; exact i0, by rw [hl]; exact bn, fun g hg => ?_, fun g j hg g1 g2 => ?_, fun g ph a b hg hs => ?_⟩
  · rcases (show g < A.1 ∨ g = A.1 by omega) with e | e
    · rw [bo g (by omega), bo (g + 1) (by omega)]; exact i2 g e
    · rw [e, bo _ (Nat.le_refl _), bn, i1]; exact hlt
  · rcases (show g < A.1 ∨ g = A.1 by omega) with e | e
    · rw [bo g (by omega)] at g1
      rw [bo (g + 1) (by omega)] at g2
      have m := mon (A.1 - (g + 1)) (g + 1) (by omega)
      rw [show g + 1 + (A.1 - (g + 1)) = A.1 by omega, i1] at m
      rw [hold j (by omega), (ho g e).1, (ho g e).2.2]
      exact i3 g j e g1 g2
    · subst e
      rw [bo _ (Nat.le_refl _), i1] at g1
      rw [bn] at g2
      rw [hw.1, hw.2.2]
      exact h1 j g1 g2
  · rcases (show g < A.1 ∨ g = A.1 by omega) with e | e
    · rw [(ho g e).2.2] at hs
      obtain ⟨j, z1, z2, z3⟩ := i4 g ph a b e hs
      have m := mon (A.1 - (g + 1)) (g + 1) (by omega)
      rw [show g + 1 + (A.1 - (g + 1)) = A.1 by omega, i1] at m
      exact ⟨j, by rw [bo g (by omega)]; exact z1, by rw [bo (g + 1) (by omega)]; exact z2, by rw [hold j (by omega), (ho g e).1]; exact z3⟩
    · subst e
      rw [hw.2.2] at hs
      obtain ⟨j, z1, z2, z3⟩ := h2 ph a b hs
      exact ⟨j, by rw [bo _ (Nat.le_refl _), i1]; exact z1, by rw [bn]; exact z2, by rw [hw.1]; exact z3⟩
