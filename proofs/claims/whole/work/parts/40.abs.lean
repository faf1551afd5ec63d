/-! The search, as mathematics: a code, one step of it, groups of states that one row of instructions leads to. -/
abbrev Cd : Type := Nat × (Nat → Nat) × (Nat → Nat) × (Nat → Nat) × (Nat → Nat)
def cdOk (c : Cd) : Prop := c.1 ≤ 24 ∧ ∀ i, i < 24 → c.2.1 i ≤ 9 ∧ c.2.2.1 i ≤ 1 ∧ c.2.2.2.1 i ≤ 31 ∧ c.2.2.2.2 i ≤ 24
def Stx (c : Cd) (t ph a b t' ph' a' b' : Nat) : Prop :=
  (c.2.1 t = 0 ∧ t' = t + 1 ∧ ph' = ph ∧ ((c.2.2.1 t = 0 ∧ a' = c.2.2.2.1 t ∧ b' = b) ∨ (c.2.2.1 t = 1 ∧ a' = a ∧ b' = c.2.2.2.1 t))) ∨
  (c.2.1 t = 1 ∧ t' = t + 1 ∧ ph' = ph ∧ ((c.2.2.1 t = 0 ∧ a' = (a + c.2.2.2.1 t) % 32 ∧ b' = b) ∨ (c.2.2.1 t = 1 ∧ a' = a ∧ b' = (b + c.2.2.2.1 t) % 32))) ∨
  (c.2.1 t = 2 ∧ t' = t + 1 ∧ ph' = ph ∧ ((c.2.2.1 t = 0 ∧ a' = b ∧ b' = b) ∨ (c.2.2.1 t = 1 ∧ a' = a ∧ b' = a))) ∨
  (c.2.1 t = 3 ∧ t' = t + 1 ∧ ph' = ph ∧ ((c.2.2.1 t = 0 ∧ a' < 32 ∧ b' = b) ∨ (c.2.2.1 t = 1 ∧ a' = a ∧ b' < 32))) ∨
  (c.2.1 t = 4 ∧ t' = t + 1 ∧ ph' = ph ∧ ((c.2.2.1 t = 0 ∧ a' = (a &&& c.2.2.2.1 t) ∧ b' = b) ∨ (c.2.2.1 t = 1 ∧ a' = a ∧ b' = (b &&& c.2.2.2.1 t)))) ∨
  (c.2.1 t = 5 ∧ ph' = ph ∧ a' = a ∧ b' = b ∧ (((c.2.2.1 t = 0 ∧ a < c.2.2.2.1 t ∨ c.2.2.1 t = 1 ∧ b < c.2.2.2.1 t) ∧ t' = c.2.2.2.2 t) ∨ ((c.2.2.1 t = 0 ∧ ¬ a < c.2.2.2.1 t ∨ c.2.2.1 t = 1 ∧ ¬ b < c.2.2.2.1 t) ∧ t' = t + 1))) ∨
  (c.2.1 t = 6 ∧ t' = c.2.2.2.2 t ∧ ph' = ph ∧ a' = a ∧ b' = b) ∨
  (c.2.1 t = 7 ∧ t' = t + 1 ∧ ph' = ph ∧ a' = a ∧ b' = b) ∨
  (c.2.1 t = 8 ∧ t' = t + 1 ∧ ph' = 1 ∧ a' = a ∧ b' = b)
def ee (c : Cd) (t : Nat) : Nat := if t < c.1 then t else 24
abbrev AB : Type := Nat × (Nat → Nat) × (Nat → Nat) × (Nat → Nat → Nat → Nat → Prop)
def vis (A : AB) (t ph a b : Nat) : Prop := ∃ g, g < A.1 ∧ A.2.1 g = t ∧ A.2.2.2 g ph a b
def frm (c : Cd) (A : AB) (i t' ph' a' b' : Nat) : Prop := A.2.1 i < c.1 ∧ ∃ t0 ph a b, A.2.2.2 i ph a b ∧ Stx c (A.2.1 i) ph a b t0 ph' a' b' ∧ ee c t0 = t'
def nwP (c : Cd) (A : AB) (i t' ph' a' b' : Nat) : Prop := frm c A i t' ph' a' b' ∧ ¬ vis A t' ph' a' b'
def psh (A : AB) (i t' : Nat) (P : Nat → Nat → Nat → Prop) : AB := (A.1 + 1, va_up A.2.1 A.1 t', va_up A.2.2.1 A.1 i, va_up A.2.2.2 A.1 P)
noncomputable def addG (c : Cd) (A : AB) (i t' : Nat) : AB := @ite AB (∃ ph a b, nwP c A i t' ph a b) (Classical.propDecidable _) (psh A i t' (nwP c A i t')) A
def loR (c : Cd) (t : Nat) : Nat := if c.2.1 t = 6 then c.2.2.2.2 t else if c.2.1 t = 5 then min (t + 1) (c.2.2.2.2 t) else t + 1
def hiR (c : Cd) (t : Nat) : Nat := if c.2.1 t = 6 then c.2.2.2.2 t else if c.2.1 t = 5 then max (t + 1) (c.2.2.2.2 t) else t + 1
noncomputable def stpG (c : Cd) (A : AB) (i : Nat) : AB := addG c (addG c A i (ee c (loR c (A.2.1 i)))) i (ee c (hiR c (A.2.1 i)))
noncomputable def abS (c : Cd) : Nat → AB
  | 0 => (1, fun _ => ee c 0, fun _ => 0, fun _ ph a b => ph = 0 ∧ a = 0 ∧ b = 0)
  | i + 1 => if i < (abS c i).1 then stpG c (abS c i) i else abS c i
theorem addG_yes {c : Cd} {A : AB} {i t' : Nat} (h : ∃ ph a b, nwP c A i t' ph a b) : addG c A i t' = psh A i t' (nwP c A i t') := by
  unfold addG; exact if_pos h
theorem addG_no {c : Cd} {A : AB} {i t' : Nat} (h : ¬ ∃ ph a b, nwP c A i t' ph a b) : addG c A i t' = A := by
  unfold addG; exact if_neg h
theorem stp_at {c : Cd} {t ph a b t' ph' a' b' : Nat} (h : Stx c t ph a b t' ph' a' b') : t' = loR c t ∨ t' = hiR c t := by
  unfold Stx at h
  unfold loR hiR
  rcases h with h | h | h | h | h | h | h | h | h
  · left; rw [if_neg (by omega), if_neg (by omega)]; exact h.2.1
  · left; rw [if_neg (by omega), if_neg (by omega)]; exact h.2.1
  · left; rw [if_neg (by omega), if_neg (by omega)]; exact h.2.1
  · left; rw [if_neg (by omega), if_neg (by omega)]; exact h.2.1
  · left; rw [if_neg (by omega), if_neg (by omega)]; exact h.2.1
  · obtain ⟨h5, -, -, -, h⟩ := h
    rw [if_neg (by omega), if_pos h5, if_neg (by omega), if_pos h5]
    rcases h with ⟨-, h⟩ | ⟨-, h⟩ <;> omega
  · left; rw [if_pos h.1]; exact h.2.1
  · left; rw [if_neg (by omega), if_neg (by omega)]; exact h.2.1
  · left; rw [if_neg (by omega), if_neg (by omega)]; exact h.2.1
theorem stp_rng {c : Cd} (hc : cdOk c) {t ph a b t' ph' a' b' : Nat} (ht : t < c.1) (h0 : ph < 2 ∧ a < 32 ∧ b < 32) (h : Stx c t ph a b t' ph' a' b') : ph' < 2 ∧ a' < 32 ∧ b' < 32 := by
  obtain ⟨-, hN⟩ : _ ∧ c.2.2.2.1 t ≤ 31 := ⟨trivial, (hc.2 t (by have := hc.1; omega)).2.2.1⟩
  have hA : (a &&& c.2.2.2.1 t) ≤ a := Nat.and_le_left
  have hB : (b &&& c.2.2.2.1 t) ≤ b := Nat.and_le_left
  unfold Stx at h
  rcases h with h | h | h | h | h | h | h | h | h
  · obtain ⟨-, -, hph, h | h⟩ := h <;> omega
  · obtain ⟨-, -, hph, h | h⟩ := h <;> omega
  · obtain ⟨-, -, hph, h | h⟩ := h <;> omega
  · obtain ⟨-, -, hph, h | h⟩ := h <;> omega
  · obtain ⟨-, -, hph, h | h⟩ := h <;> omega
  · omega
  · omega
  · omega
  · omega
theorem ee_le {c : Cd} (hc : cdOk c) (t : Nat) : ee c t ≤ 24 := by
  unfold ee; have := hc.1; split <;> omega
/-- what holds of the groups, when i of them have gone on, and what came from those below q -/
def abI (c : Cd) (A : AB) (i q : Nat) : Prop :=
  0 < A.1 ∧ (∀ g, g < A.1 → A.2.1 g ≤ 24 ∧ (A.2.1 g < c.1 ∨ A.2.1 g = 24)) ∧ (∀ g ph a b, g < A.1 → A.2.2.2 g ph a b → ph < 2 ∧ a < 32 ∧ b < 32) ∧
  (∀ g g' ph a b, g < A.1 → g' < A.1 → A.2.1 g = A.2.1 g' → A.2.2.2 g ph a b → A.2.2.2 g' ph a b → g = g') ∧
  (∀ g, 0 < g → g < A.1 → A.2.2.1 g < g ∧ A.2.2.1 g < q) ∧ (∀ g g', 0 < g → g ≤ g' → g' < A.1 → A.2.2.1 g ≤ A.2.2.1 g') ∧
  (∀ g, g < A.1 → ∃ ph a b, A.2.2.2 g ph a b) ∧ (∀ j t ph a b, j < i → j < A.1 → frm c A j t ph a b → vis A t ph a b) ∧
  A.2.1 0 = ee c 0 ∧ (∀ ph a b, A.2.2.2 0 ph a b ↔ ph = 0 ∧ a = 0 ∧ b = 0)
theorem vis_psh {A : AB} {i t' : Nat} {P : Nat → Nat → Nat → Prop} {t ph a b : Nat} : vis (psh A i t' P) t ph a b ↔ vis A t ph a b ∨ (t = t' ∧ P ph a b) := by
  unfold vis psh
  constructor
  · rintro ⟨g, hg, h1, h2⟩
    dsimp only at hg h1 h2
    by_cases e : g = A.1
    · subst e
      rw [va_up_self] at h1 h2
      exact Or.inr ⟨h1.symm, h2⟩
    · rw [va_up_ne _ _ e] at h1 h2
      exact Or.inl ⟨g, by omega, h1, h2⟩
  · rintro (⟨g, hg, h1, h2⟩ | ⟨rfl, h⟩)
    · have e : g ≠ A.1 := by omega
      refine ⟨g, by show g < A.1 + 1; omega, ?_, ?_⟩
      · show va_up A.2.1 A.1 t' g = t; rw [va_up_ne _ _ e]; exact h1
      · show va_up A.2.2.2 A.1 P g ph a b; rw [va_up_ne _ _ e]; exact h2
    · refine ⟨A.1, by show A.1 < A.1 + 1; omega, ?_, ?_⟩
      · show va_up A.2.1 A.1 t A.1 = t; rw [va_up_self]
      · show va_up A.2.2.2 A.1 P A.1 ph a b; rw [va_up_self]; exact h
theorem psh_old {A : AB} {i t' : Nat} {P : Nat → Nat → Nat → Prop} {g : Nat} (h : g < A.1) : (psh A i t' P).2.1 g = A.2.1 g ∧ (psh A i t' P).2.2.1 g = A.2.2.1 g ∧ (psh A i t' P).2.2.2 g = A.2.2.2 g := by
  have e : g ≠ A.1 := by omega
  exact ⟨va_up_ne _ _ e, va_up_ne _ _ e, va_up_ne _ _ e⟩
theorem psh_new {A : AB} {i t' : Nat} {P : Nat → Nat → Nat → Prop} : (psh A i t' P).2.1 A.1 = t' ∧ (psh A i t' P).2.2.1 A.1 = i ∧ (psh A i t' P).2.2.2 A.1 = P := ⟨va_up_self _ _ _, va_up_self _ _ _, va_up_self _ _ _⟩
theorem frm_psh {c : Cd} {A : AB} {i t' : Nat} {P : Nat → Nat → Nat → Prop} {j t ph a b : Nat} (h : j < A.1) : frm c (psh A i t' P) j t ph a b ↔ frm c A j t ph a b := by
  unfold frm
  rw [(psh_old h).1, (psh_old h).2.2]
theorem frm_e {c : Cd} {A : AB} {j t ph a b : Nat} (hc : cdOk c) (h : frm c A j t ph a b) : t ≤ 24 ∧ (t < c.1 ∨ t = 24) := by
  obtain ⟨-, t0, _, _, _, -, -, rfl⟩ := h
  unfold ee; have := hc.1; split <;> omega
/-- adding a group -/
theorem addG_inv {c : Cd} {A : AB} {i t' : Nat} (hc : cdOk c) (hi : i < A.1) (h : abI c A i (i + 1)) :
    abI c (addG c A i t') i (i + 1) ∧ A.1 ≤ (addG c A i t').1 ∧ (∀ g, g < A.1 → (addG c A i t').2.1 g = A.2.1 g ∧ (addG c A i t').2.2.1 g = A.2.2.1 g ∧ (addG c A i t').2.2.2 g = A.2.2.2 g) ∧
    (∀ ph a b, frm c A i t' ph a b → vis (addG c A i t') t' ph a b) ∧ (∀ t ph a b, vis A t ph a b → vis (addG c A i t') t ph a b) := by
  by_cases hn : ∃ ph a b, nwP c A i t' ph a b
  · rw [addG_yes hn]
    obtain ⟨h0, h1, h2, h3, h4, h5, h6, h7, h8, h9⟩ := h
    have hl : (psh A i t' (nwP c A i t')).1 = A.1 + 1 := rfl
    have ho := fun g (hg : g < A.1) => psh_old (i := i) (t' := t') (P := nwP c A i t') hg
    have hw := psh_new (A := A) (i := i) (t' := t') (P := nwP c A i t')
    generalize hB : psh A i t' (nwP c A i t') = B at hl ho hw ⊢
    have cs : ∀ g, g < B.1 → g < A.1 ∨ g = A.1 := fun g hg => by omega
    refine ⟨⟨by omega, ?_, ?_, ?_, ?_, ?_, ?_, ?_, ?_, ?_⟩, by omega, ho, ?_, ?_⟩
    · intro g hg
      rcases cs g hg with q | rfl
      · rw [(ho g q).1]; exact h1 g q
      · rw [hw.1]
        obtain ⟨_, _, _, hx, -⟩ := hn
        exact frm_e hc hx
    · intro g ph a b hg hs
      rcases cs g hg with q | rfl
      · rw [(ho g q).2.2] at hs; exact h2 g ph a b q hs
      · rw [hw.2.2] at hs
        obtain ⟨⟨ht, t0, p0, a0, b0, s0, st, -⟩, -⟩ := hs
        exact stp_rng hc ht (h2 i p0 a0 b0 hi s0) st
    · intro g g' ph a b hg hg' he hs hs'
      rcases cs g hg with q | rfl <;> rcases cs g' hg' with q' | rfl
      · rw [(ho g q).1, (ho g' q').1] at he
        rw [(ho g q).2.2] at hs; rw [(ho g' q').2.2] at hs'
        exact h3 g g' ph a b q q' he hs hs'
      · rw [(ho g q).1, hw.1] at he
        rw [(ho g q).2.2] at hs; rw [hw.2.2] at hs'
        exact absurd ⟨g, q, he, hs⟩ hs'.2
      · rw [(ho g' q').1, hw.1] at he
        rw [(ho g' q').2.2] at hs'; rw [hw.2.2] at hs
        exact absurd ⟨g', q', he.symm, hs'⟩ hs.2
      · rfl
    · intro g hg0 hg
      rcases cs g hg with q | rfl
      · rw [(ho g q).2.1]; exact h4 g hg0 q
      · rw [hw.2.1]; omega
    · intro g g' hg0 hgg hg'
      rcases cs g' hg' with q' | rfl
      · rw [(ho g (by omega)).2.1, (ho g' q').2.1]; exact h5 g g' hg0 hgg q'
      · rcases cs g (by omega) with q | rfl
        · rw [(ho g q).2.1, hw.2.1]; have := (h4 g hg0 q).2; omega
        · exact Nat.le_refl _
    · intro g hg
      rcases cs g hg with q | rfl
      · rw [(ho g q).2.2]; exact h6 g q
      · rw [hw.2.2]; exact hn
    · intro j t ph a b hj hj2 hf
      have hjA : j < A.1 := by omega
      rw [← hB] at hf ⊢
      rw [frm_psh hjA] at hf
      exact vis_psh.mpr (Or.inl (h7 j t ph a b hj hjA hf))
    · rw [(ho 0 h0).1]; exact h8
    · intro ph a b; rw [(ho 0 h0).2.2]; exact h9 ph a b
    · intro ph a b hf
      rw [← hB]
      refine vis_psh.mpr ?_
      by_cases hv : vis A t' ph a b
      · exact Or.inl hv
      · exact Or.inr ⟨rfl, hf, hv⟩
    · intro t ph a b hv
      rw [← hB]
      exact vis_psh.mpr (Or.inl hv)
  · rw [addG_no hn]
    refine ⟨h, Nat.le_refl _, fun g _ => ⟨rfl, rfl, rfl⟩, fun ph a b hf => ?_, fun _ _ _ _ hv => hv⟩
    by_cases hv : vis A t' ph a b
    · exact hv
    · exact absurd ⟨ph, a, b, hf, hv⟩ hn
theorem abI_mid {c : Cd} {A : AB} {i q q' : Nat} (hq : q ≤ q') (h : abI c A i q) : abI c A i q' := by
  obtain ⟨h0, h1, h2, h3, h4, h5, h6, h7, h8, h9⟩ := h
  exact ⟨h0, h1, h2, h3, fun g a b => ⟨(h4 g a b).1, Nat.lt_of_lt_of_le (h4 g a b).2 hq⟩, h5, h6, h7, h8, h9⟩
theorem frm_same {c : Cd} {A B : AB} {i t ph a b : Nat} (h1 : B.2.1 i = A.2.1 i) (h2 : B.2.2.2 i = A.2.2.2 i) : frm c B i t ph a b ↔ frm c A i t ph a b := by
  unfold frm
  rw [h1, h2]
theorem stpG_inv {c : Cd} {A : AB} {i : Nat} (hc : cdOk c) (hi : i < A.1) (h : abI c A i i) :
    abI c (stpG c A i) (i + 1) (i + 1) ∧ A.1 ≤ (stpG c A i).1 ∧ (∀ g, g < A.1 → (stpG c A i).2.1 g = A.2.1 g ∧ (stpG c A i).2.2.1 g = A.2.2.1 g ∧ (stpG c A i).2.2.2 g = A.2.2.2 g) := by
  unfold stpG
  obtain ⟨b1, b2, b3, b4, b5⟩ := addG_inv (t' := ee c (loR c (A.2.1 i))) hc hi (abI_mid (by omega) h)
  generalize hB : addG c A i (ee c (loR c (A.2.1 i))) = B at b1 b2 b3 b4 b5 ⊢
  obtain ⟨d1, d2, d3, d4, d5⟩ := addG_inv (t' := ee c (hiR c (A.2.1 i))) hc (by omega : i < B.1) b1
  generalize hE : addG c B i (ee c (hiR c (A.2.1 i))) = E at d1 d2 d3 d4 d5 ⊢
  have old : ∀ g, g < A.1 → E.2.1 g = A.2.1 g ∧ E.2.2.1 g = A.2.2.1 g ∧ E.2.2.2 g = A.2.2.2 g := fun g hg => by
    obtain ⟨x1, x2, x3⟩ := b3 g hg
    obtain ⟨y1, y2, y3⟩ := d3 g (by omega)
    exact ⟨y1.trans x1, y2.trans x2, y3.trans x3⟩
  refine ⟨?_, by omega, old⟩
  obtain ⟨h0, h1, h2, h3, h4, h5, h6, h7, h8, h9⟩ := d1
  refine ⟨h0, h1, h2, h3, h4, h5, h6, ?_, h8, h9⟩
  intro j t ph a b hj hj2 hf
  by_cases e : j = i
  · subst e
    have hf0 : frm c A j t ph a b := (frm_same (old j hi).1 (old j hi).2.2).mp hf
    obtain ⟨hn, t0, p0, a0, b0, s0, st, rfl⟩ := hf0
    rcases stp_at st with e | e
    · subst e
      exact d5 _ _ _ _ (b4 ph a b ⟨hn, _, p0, a0, b0, s0, st, rfl⟩)
    · subst e
      refine d4 ph a b ?_
      exact (frm_same (b3 j hi).1 (b3 j hi).2.2).mpr ⟨hn, _, p0, a0, b0, s0, st, rfl⟩
  · exact h7 j t ph a b (by omega) hj2 hf
theorem abS_0 {c : Cd} (hc : cdOk c) : abI c (abS c 0) 0 0 := by
  show abI c (1, fun _ => ee c 0, fun _ => 0, fun _ ph a b => ph = 0 ∧ a = 0 ∧ b = 0) 0 0
  refine ⟨Nat.one_pos, ?_, ?_, ?_, ?_, ?_, ?_, ?_, rfl, fun _ _ _ => Iff.rfl⟩
  · intro g _
    show ee c 0 ≤ 24 ∧ (ee c 0 < c.1 ∨ ee c 0 = 24)
    unfold ee; have := hc.1; split <;> omega
  · intro g ph a b _ h; have := h.1; have := h.2.1; have := h.2.2; omega
  · intro g g' ph a b hg hg' _ _ _
    have h1 : g < 1 := hg
    have h2 : g' < 1 := hg'
    omega
  · intro g h0 hg; have h1 : g < 1 := hg; omega
  · intro g g' h0 h hg; have h1 : g' < 1 := hg; omega
  · intro g _; exact ⟨0, 0, 0, rfl, rfl, rfl⟩
  · intro j t ph a b hj; exact absurd hj (Nat.not_lt_zero j)
theorem abS_inv {c : Cd} (hc : cdOk c) : ∀ i, i ≤ (abS c i).1 → abI c (abS c i) i i
  | 0, _ => abS_0 hc
  | i + 1, hi => by
    by_cases h : i < (abS c i).1
    · have e : abS c (i + 1) = stpG c (abS c i) i := if_pos h
      rw [e]
      exact (stpG_inv hc h (abS_inv hc i (by omega))).1
    · have e : abS c (i + 1) = abS c i := if_neg h
      rw [e] at hi
      omega
/-- depth of a group -/
def dpA (A : AB) : Nat → Nat → Nat
  | 0, _ => 0
  | f + 1, g => if g = 0 then 0 else dpA A f (A.2.2.1 g) + 1
def dep (A : AB) (g : Nat) : Nat := dpA A g g
theorem dpA_eq {A : AB} (hp : ∀ g, 0 < g → g < A.1 → A.2.2.1 g < g) : ∀ f f' g, g < A.1 → g ≤ f → g ≤ f' → dpA A f g = dpA A f' g := by
  have z : ∀ f, dpA A f 0 = 0 := fun f => by cases f <;> rfl
  intro f
  induction f with
  | zero => intro f' g _ h _; rw [show g = 0 by omega, z, z]
  | succ f ih =>
    intro f' g hg h h'
    by_cases h0 : g = 0
    · rw [h0, z, z]
    · have h1 := hp g (by omega) hg
      obtain ⟨f2, rfl⟩ : ∃ f2, f' = f2 + 1 := ⟨f' - 1, by omega⟩
      show (if g = 0 then 0 else dpA A f (A.2.2.1 g) + 1) = (if g = 0 then 0 else dpA A f2 (A.2.2.1 g) + 1)
      rw [if_neg h0, if_neg h0, ih f2 (A.2.2.1 g) (by omega) (by omega) (by omega)]
theorem dep_0 (A : AB) : dep A 0 = 0 := rfl
theorem dep_s {A : AB} (hp : ∀ g, 0 < g → g < A.1 → A.2.2.1 g < g) {g : Nat} (h0 : 0 < g) (hg : g < A.1) : dep A g = dep A (A.2.2.1 g) + 1 := by
  unfold dep
  have h1 := hp g h0 hg
  obtain ⟨g', rfl⟩ : ∃ g', g = g' + 1 := ⟨g - 1, by omega⟩
  show (if g' + 1 = 0 then 0 else dpA A g' (A.2.2.1 (g' + 1)) + 1) = _
  rw [if_neg (by omega), dpA_eq hp g' (A.2.2.1 (g' + 1)) (A.2.2.1 (g' + 1)) (by omega) (by omega) (by omega)]
theorem dep_le {A : AB} (hp : ∀ g, 0 < g → g < A.1 → A.2.2.1 g < g) : ∀ g, g < A.1 → dep A g ≤ g := by
  intro g
  induction g using Nat.strongRecOn with
  | _ g ih =>
    intro hg
    by_cases h0 : g = 0
    · rw [h0, dep_0]; exact Nat.le_refl _
    · have h1 := hp g (by omega) hg
      rw [dep_s hp (by omega) hg]
      have := ih _ h1 (by omega)
      omega
theorem dep_mono {A : AB} (hp : ∀ g, 0 < g → g < A.1 → A.2.2.1 g < g) (hm : ∀ g g', 0 < g → g ≤ g' → g' < A.1 → A.2.2.1 g ≤ A.2.2.1 g') : ∀ g' g, g ≤ g' → g' < A.1 → dep A g ≤ dep A g' := by
  intro g'
  induction g' using Nat.strongRecOn with
  | _ g' ih =>
    intro g h hg'
    by_cases h0 : g = 0
    · rw [h0, dep_0]; exact Nat.zero_le _
    · rw [dep_s hp (by omega) (by omega : g < A.1), dep_s hp (by omega) hg']
      have h1 := hp g' (by omega) hg'
      have h2 := hm g g' (by omega) h hg'
      have := ih _ h1 _ h2 (by omega)
      omega
/-- the way back -/
def upG (A : AB) : Nat → Nat → Nat
  | 0, g => g
  | k + 1, g => upG A k (A.2.2.1 g)
/-- agreeing groups have the same depth -/
theorem dep_same {A B : AB} (hp : ∀ g, 0 < g → g < A.1 → A.2.2.1 g < g) (hl : A.1 ≤ B.1) (hs : ∀ g, g < A.1 → B.2.2.1 g = A.2.2.1 g) : ∀ g, g < A.1 → dep B g = dep A g := by
  have e : ∀ f g, g < A.1 → dpA B f g = dpA A f g := by
    intro f
    induction f with
    | zero => intro g _; rfl
    | succ f ih =>
      intro g hg
      show (if g = 0 then 0 else dpA B f (B.2.2.1 g) + 1) = (if g = 0 then 0 else dpA A f (A.2.2.1 g) + 1)
      by_cases h0 : g = 0
      · rw [if_pos h0, if_pos h0]
      · rw [if_neg h0, if_neg h0, hs g hg, ih _ (by have := hp g (by omega) hg; omega)]
  exact fun g hg => e g g hg
