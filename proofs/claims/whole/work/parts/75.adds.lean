/-! A step of the groups, as the reference takes it: one instruction after another. -/
noncomputable def adds (c : Cd) (A : AB) (i : Nat) : Nat → AB
  | 0 => A
  | t + 1 => addG c (adds c A i t) i t
theorem ee_mono {c : Cd} (h24 : c.1 ≤ 24) {x y : Nat} (h : x ≤ y) : ee c x ≤ ee c y := by
  unfold ee
  by_cases h1 : x < c.1
  · rw [if_pos h1]
    by_cases h2 : y < c.1
    · rw [if_pos h2]; exact h
    · rw [if_neg h2]; omega
  · rw [if_neg h1, if_neg (by omega)]; exact Nat.le_refl _
theorem lo_hi (c : Cd) (t : Nat) : loR c t ≤ hiR c t := by
  unfold loR hiR
  split
  · omega
  · split <;> omega
theorem frm_lh {c : Cd} {A : AB} {i t ph a b : Nat} (h : frm c A i t ph a b) : t = ee c (loR c (A.2.1 i)) ∨ t = ee c (hiR c (A.2.1 i)) := by
  obtain ⟨-, t0, p0, a0, b0, -, st, e⟩ := h
  rcases stp_at st with q | q
  · left; rw [← e, q]
  · right; rw [← e, q]
/-- groups that agree on group i have the same coming from it -/
theorem addG_at {c : Cd} {A : AB} {i t : Nat} (hi : i < A.1) : (addG c A i t).2.1 i = A.2.1 i ∧ (addG c A i t).2.2.2 i = A.2.2.2 i ∧ i < (addG c A i t).1 := by
  by_cases h : ∃ ph a b, nwP c A i t ph a b
  · rw [addG_yes h]
    exact ⟨(psh_old hi).1, (psh_old hi).2.2, by show i < A.1 + 1; omega⟩
  · rw [addG_no h]
    exact ⟨rfl, rfl, hi⟩
theorem adds_at {c : Cd} {A : AB} {i : Nat} (hi : i < A.1) : ∀ t, (adds c A i t).2.1 i = A.2.1 i ∧ (adds c A i t).2.2.2 i = A.2.2.2 i ∧ i < (adds c A i t).1
  | 0 => ⟨rfl, rfl, hi⟩
  | t + 1 => by
    obtain ⟨a1, a2, a3⟩ := adds_at hi t
    obtain ⟨b1, b2, b3⟩ := addG_at (c := c) (t := t) a3
    exact ⟨b1.trans a1, b2.trans a2, b3⟩
theorem addG_skip {c : Cd} {A B : AB} {i t : Nat} (h1 : B.2.1 i = A.2.1 i) (h2 : B.2.2.2 i = A.2.2.2 i) (hn : t ≠ ee c (loR c (A.2.1 i)) ∧ t ≠ ee c (hiR c (A.2.1 i))) : addG c B i t = B := by
  apply addG_no
  rintro ⟨ph, a, b, z, -⟩
  rcases frm_lh z with q | q
  · rw [h1] at q; exact hn.1 q
  · rw [h1] at q; exact hn.2 q
theorem addG_twice {c : Cd} {A : AB} {i t : Nat} (hi : i < A.1) : addG c (addG c A i t) i t = addG c A i t := by
  apply addG_no
  rintro ⟨ph, a, b, z, v⟩
  apply v
  have z' : frm c A i t ph a b := (frm_same (addG_at hi).1 (addG_at hi).2.1).mp z
  by_cases h : ∃ ph a b, nwP c A i t ph a b
  · rw [addG_yes h]
    refine vis_psh.mpr ?_
    by_cases w : vis A t ph a b
    · exact Or.inl w
    · exact Or.inr ⟨rfl, z', w⟩
  · rw [addG_no h]
    by_cases w : vis A t ph a b
    · exact w
    · exact absurd ⟨ph, a, b, z', w⟩ h
theorem adds_all {c : Cd} (hc : cdOk c) {A : AB} {i : Nat} (hi : i < A.1) : adds c A i 25 = stpG c A i := by
  have hlh := ee_mono hc.1 (lo_hi c (A.2.1 i))
  have hh := ee_le hc (hiR c (A.2.1 i))
  generalize hlo : ee c (loR c (A.2.1 i)) = lo at hlh
  generalize hhi : ee c (hiR c (A.2.1 i)) = hi' at hlh hh
  have sk : ∀ t, t ≠ lo → t ≠ hi' → adds c A i (t + 1) = adds c A i t := fun t h1 h2 => addG_skip (adds_at hi t).1 (adds_at hi t).2.1 ⟨by rw [hlo]; exact h1, by rw [hhi]; exact h2⟩
  have run : ∀ d s, (∀ t, s ≤ t → t < s + d → t ≠ lo ∧ t ≠ hi') → adds c A i (s + d) = adds c A i s := by
    intro d
    induction d with
    | zero => intro s _; rfl
    | succ d ih =>
      intro s h
      rw [show s + (d + 1) = s + d + 1 by omega, sk _ (h (s + d) (by omega) (by omega)).1 (h (s + d) (by omega) (by omega)).2]
      exact ih s (fun t g1 g2 => h t g1 (by omega))
  have e0 : adds c A i lo = A := by
    have := run lo 0 (fun t _ g => by omega)
    rw [Nat.zero_add] at this
    exact this
  have e1 : adds c A i (lo + 1) = addG c A i lo := by
    show addG c (adds c A i lo) i lo = _
    rw [e0]
  unfold stpG
  rw [hlo, hhi]
  by_cases q : lo = hi'
  · rw [← q, addG_twice hi]
    have := run (25 - (lo + 1)) (lo + 1) (fun t g1 g2 => by omega)
    rw [show lo + 1 + (25 - (lo + 1)) = 25 by omega] at this
    rw [this, e1]
  · have e2 := run (hi' - (lo + 1)) (lo + 1) (fun t g1 g2 => by omega)
    rw [show lo + 1 + (hi' - (lo + 1)) = hi' by omega, e1] at e2
    have e3 : adds c A i (hi' + 1) = addG c (addG c A i lo) i hi' := by
      show addG c (adds c A i hi') i hi' = _
      rw [e2]
    have e4 := run (25 - (hi' + 1)) (hi' + 1) (fun t g1 g2 => by omega)
    rw [show hi' + 1 + (25 - (hi' + 1)) = 25 by omega] at e4
    rw [e4, e3]
