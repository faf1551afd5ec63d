/-! works(): its loop over the row. -/
set_option maxHeartbeats 2000000 in
theorem wk_next {p fu : Nat} (hfu : 51200 < fu) {c : Cd} (hc : cdOk c) {M : Mem} {A : AB} {i k : Nat} {rb : Nat → Nat} {mn : Nat} {rw' : Nat → Nat} (h : Wk p c M A i (k + 1) rb mn rw') (hi : i < A.1) (k1 : rb i ≤ k) (k2 : k < rb (i + 1)) (G : Mem → Option (Int32 × Mem)) :
    ∃ M2 A2 i2 rb2 mn2 rw2, (if (nI k + (1 : Int32)) = (M (70) 23) then bnd (f_X9_ranksAnew fu M) (fun _ M27 => G M27) else nm (nI k + (1 : Int32)) (fun v28 => if ix v28 51200 then nm (M (86) v28.toNatClampNeg) (fun v29 => if ix v29 51200 then if ix (nI (rw' k)) 51200 then if (M (89) v29.toNatClampNeg) = (M (89) (nI (rw' k)).toNatClampNeg) then G M else bnd (f_X9_ranksAnew fu M) (fun _ M31 => G M31) else none else none) else none)) = G M2 ∧ mW p M M2 ∧ Wk p c M2 A2 i2 (k + 1) rb2 mn2 rw2 ∧ ((i2 < A2.1 ∧ rb2 i2 ≤ k + 1 ∧ k + 1 < rb2 (i2 + 1)) ∨ (i2 = A2.1 ∧ k + 1 = mn2)) := by
  have hh := h
  obtain ⟨V, dp, pr, m, an, hQ, hr, hg, hk, hA, -, -⟩ := hh
  have hrb := rb_le hg (show i + 1 ≤ A.1 by omega)
  have hmn := hr.2.1
  have hAm := mg_i hg A.1 (Nat.le_refl _)
  rw [hg.2.1] at hAm
  have rank : k + 1 = rb (i + 1) → ∃ M2 A2 i2 rb2 mn2 rw2, bnd (f_X9_ranksAnew fu M) (fun _ M27 => G M27) = G M2 ∧ mW p M M2 ∧ Wk p c M2 A2 i2 (k + 1) rb2 mn2 rw2 ∧ ((i2 < A2.1 ∧ rb2 i2 ≤ k + 1 ∧ k + 1 < rb2 (i2 + 1)) ∨ (i2 = A2.1 ∧ k + 1 = mn2)) := fun ek => by
    rw [ek] at h
    obtain ⟨M2, rb2, mn2, rw2, e, b1, b2, b3, b4⟩ := wk_rank hfu hc hi h
    rw [e, bnd_some]
    refine ⟨M2, abS c (i + 1), i + 1, rb2, mn2, rw2, rfl, b1, by rw [ek]; exact b2, ?_⟩
    obtain ⟨_, _, _, _, _, _, _, hg2, -⟩ := b2
    rcases (show i + 1 < (abS c (i + 1)).1 ∨ i + 1 = (abS c (i + 1)).1 by omega) with z | z
    · have := hg2.2.2.1 (i + 1) z
      exact Or.inl ⟨z, by omega, by omega⟩
    · have := hg2.2.1
      rw [← z] at this
      exact Or.inr ⟨z, by omega⟩
  have rk := hr.2.2.1 k (by omega)
  rw [hr.1, nI_1]
  by_cases e : k + 1 = mn
  · rw [if_pos (by rw [e])]
    exact rank (by omega)
  · rw [if_neg (fun w => e ((nI_eq (by omega) (by omega)).mp w))]
    unfold nm
    dsimp only
    have rk1 := hr.2.2.1 (k + 1) (by omega)
    rw [ixT (by omega : k + 1 < 51200) (by omega), if_pos rfl, nI_clamp (by omega), rk1.1, ixT rk1.2 (by omega), if_pos rfl, ixT rk.2 (by omega), if_pos rfl, nI_clamp (by omega), nI_clamp (by omega), hk.2 i k hi k1 k2]
    by_cases z : k + 1 < rb (i + 1)
    · rw [hk.2 i (k + 1) hi (by omega) z, if_pos rfl]
      exact ⟨M, A, i, rb, mn, rw', rfl, mW.rf p M, h, Or.inl ⟨hi, by omega, z⟩⟩
    · have z' : k + 1 = rb (i + 1) := by omega
      have hi2 : i + 1 < A.1 := by
        rcases (show i + 1 < A.1 ∨ i + 1 = A.1 by omega) with q | q
        · exact q
        · have := hg.2.1
          rw [← q] at this
          omega
      have hs := hg.2.2.1 (i + 1) hi2
      rw [hk.2 (i + 1) (k + 1) hi2 (by omega) (by omega), if_neg (fun w => by have := (nI_eq (by omega) (by omega)).mp w; omega)]
      exact rank z'
set_option maxHeartbeats 2000000 in
theorem wk_L {p fu : Nat} (hp : p < 4) (hfu : 51200 < fu) {c : Cd} (hc : cdOk c) (kk : Mem → Int32 → Option (Int32 × Mem)) :
    ∀ (d k f : Nat) (M : Mem) (A : AB) (i : Nat) (rb : Nat → Nat) (mn : Nat) (rw' : Nat → Nat), k + d = 51200 → d < f → Wk p c M A i k rb mn rw' → ((i < A.1 ∧ rb i ≤ k ∧ k < rb (i + 1)) ∨ (i = A.1 ∧ k = mn)) →
      ∃ M' A' rb' mn' rw2 y, f_X9_works_L135 fu (nI p) kk f M (nI k) = kk M' y ∧ mW p M M' ∧ FA c A' ∧ Wk p c M' A' A'.1 mn' rb' mn' rw2 := by
  intro d
  induction d with
  | zero =>
    intro k f M A i rb mn rw' hd hf h hcs
    obtain ⟨f', rfl⟩ : ∃ f', f = f' + 1 := ⟨f - 1, by omega⟩
    have hh := h
    obtain ⟨V, dp, pr, m, an, hQ, hr, hg, hk, hA, -, -⟩ := hh
    have hmn := hr.2.1
    rcases hcs with ⟨c1, c2, c3⟩ | ⟨c1, c2⟩
    · have := rb_le hg (show i + 1 ≤ A.1 by omega)
      omega
    · subst c1 c2
      rw [f_X9_works_L135, hr.1, if_pos (nI_le (Nat.le_refl _) (by omega))]
      exact ⟨M, A, rb, k, rw', _, rfl, mW.rf p M, ⟨A.1, hA, rfl⟩, h⟩
  | succ d ih =>
    intro k f M A i rb mn rw' hd hf h hcs
    obtain ⟨f', rfl⟩ : ∃ f', f = f' + 1 := ⟨f - 1, by omega⟩
    have hh := h
    obtain ⟨V, dp, pr, m, an, hQ, hr, hg, hk, hA, -, -⟩ := hh
    have hmn := hr.2.1
    rcases hcs with ⟨c1, c2, c3⟩ | ⟨c1, c2⟩
    · have hrb := rb_le hg (show i + 1 ≤ A.1 by omega)
      have rk := hr.2.2.1 k (by omega)
      have t24 := hc.1
      rw [f_X9_works_L135, hr.1, if_neg (nI_ge (by omega) (by omega)), ixT (by omega : k < 51200) (by omega), if_pos rfl]
      unfold nm
      dsimp only
      rw [nI_clamp (by omega : k < 2 ^ 31), rk.1, ixT hp (by omega), if_pos rfl, nI_clamp (by omega : p < 2 ^ 31), hQ.1.1, c2048, pk_div (by omega) (by omega) (by omega)]
      obtain ⟨st1, st2⟩ := wk_step hp hfu hc h c1 c2 c3
      have fin : ∀ X, mW p M X → Wk p c X A i (k + 1) rb mn rw' → ∃ M' A' rb' mn' rw2 y, (if (nI k + (1 : Int32)) = (X (70) 23) then bnd (f_X9_ranksAnew fu X) (fun _ M27 => f_X9_works_L135 fu (nI p) kk f' M27 (nI k + 1)) else nm (nI k + (1 : Int32)) (fun v28 => if ix v28 51200 then nm (X (86) v28.toNatClampNeg) (fun v29 => if ix v29 51200 then if ix (nI (rw' k)) 51200 then if (X (89) v29.toNatClampNeg) = (X (89) (nI (rw' k)).toNatClampNeg) then f_X9_works_L135 fu (nI p) kk f' X (nI k + 1) else bnd (f_X9_ranksAnew fu X) (fun _ M31 => f_X9_works_L135 fu (nI p) kk f' M31 (nI k + 1)) else none else none) else none)) = kk M' y ∧ mW p M M' ∧ FA c A' ∧ Wk p c M' A' A'.1 mn' rb' mn' rw2 := fun X hX hW => by
        obtain ⟨M2, A2, i2, rb2, mn2, rw2, e, b1, b2, b3⟩ := wk_next hfu hc hW c1 c2 c3 (fun M27 => f_X9_works_L135 fu (nI p) kk f' M27 (nI k + 1))
        obtain ⟨M', A', rb', mn', rw3, y, e', d1, d2, d3⟩ := ih (k + 1) f' M2 A2 i2 rb2 mn2 rw2 (by omega) (by omega) b2 b3
        refine ⟨M', A', rb', mn', rw3, y, e.trans ?_, (hX.tr b1).tr d1, d2, d3⟩
        rw [nI_1]; exact e'
      by_cases ht : c.1 ≤ rw' k / 2048
      · rw [if_pos (nI_le ht (by omega))]
        have eg : f_X9_goesOn fu (nI p) (nI (rw' k)) M = some (0, M) := by
          unfold f_X9_goesOn nm
          dsimp only
          rw [c2048, pk_div (by omega) (by omega) (by omega), ixT hp (by omega), if_pos rfl, nI_clamp (by omega), hQ.1.1, if_neg (nI_nlt ht (by omega))]
        rw [eg, bnd_some]
        exact fin M (mW.rf p M) (st1 ht)
      · rw [if_neg (nI_ge (by omega) (by omega)), if_pos rfl, if_pos rfl]
        obtain ⟨X, e, w1, w2⟩ := st2 (by omega)
        unfold wr
        dsimp only
        rw [e, bnd_some]
        exact fin X w1 w2
    · subst c1 c2
      rw [f_X9_works_L135, hr.1, if_pos (nI_le (Nat.le_refl _) (by omega))]
      exact ⟨M, A, rb, k, rw', _, rfl, mW.rf p M, ⟨A.1, hA, rfl⟩, h⟩
/-- what works() leaves -/
def Nd (p : Nat) (c : Cd) (A : AB) (M : Mem) : Prop := (∀ ph a b, ph < 2 → a < 32 → b < 32 → (bt (M 77 (64 * p + 32 * ph + a)) b = true ↔ ∃ g, CG c A ph a b g)) ∧ ∀ t, t < c.1 → (bt (M 79 p) t = true ↔ ∃ g, g < A.1 ∧ A.2.1 g = t)
def Hd (A : AB) (M : Mem) : Prop := A.1 ≤ 51200 ∧ (∀ z g, z < 51200 → g < A.1 → gN A g z → M 88 z = nI (dep A g) ∧ M 89 z = nI g ∧ (0 < g → ∃ y, M 87 z = nI y ∧ gN A (A.2.2.1 g) y)) ∧ ∀ z, z < 51200 → ¬ vN A z → M 88 z = -1
theorem wk_end {p : Nat} {c : Cd} (hc : cdOk c) {M : Mem} {A : AB} {rb : Nat → Nat} {mn : Nat} {rw' : Nat → Nat} (h : Wk p c M A A.1 mn rb mn rw') (hA : FA c A) : Nd p c A M ∧ Hd A M := by
  obtain ⟨V, dp, pr, m, an, hQ, hr, hg, hk, -, ⟨s1, s2, s3, s4⟩, hB1, hB2⟩ := h
  have hI := hA.inv hc
  have hAm := mg_i hg A.1 (Nat.le_refl _)
  rw [hg.2.1] at hAm
  have hmn := hr.2.1
  have hV : ∀ z, V z ↔ vN A z := fun z => by
    rw [s1]
    constructor
    · rintro (w | ⟨j, j1, j2, -⟩)
      · exact w
      · rw [hg.2.1] at j1; omega
    · exact Or.inl
  refine ⟨⟨fun ph a b r1 r2 r3 => ?_, fun t ht => ?_⟩, by omega, fun z g z1 g1 g2 => ?_, fun z z1 z2 => ?_⟩
  · rw [hB1 ph a b r1 r2 r3]
    constructor
    · rintro ⟨j, j1, j2, j3, j4⟩
      obtain ⟨g, g1, g2, g3, g4⟩ := mg_row hg j1
      obtain ⟨-, y2, y3, y4⟩ := sn_t (t := rw' j / 2048) r1 r2 r3
      rw [← j4] at y2 y3 y4
      have g5 := g4.2
      rw [y2, y3, y4] at g5
      rw [g4.1] at j2 j3
      exact ⟨g, g1, j2, j3, g5⟩
    · rintro ⟨g, g1, g2, g3, g4⟩
      obtain ⟨j, j1, j2, j3⟩ := hg.2.2.2.2 g ph a b g1 g4
      have := rb_le hg (show g + 1 ≤ A.1 by omega)
      obtain ⟨y1, -, -, -⟩ := sn_t (t := A.2.1 g) r1 r2 r3
      refine ⟨j, by omega, ?_⟩
      rw [j3, y1]
      exact ⟨g2, g3, rfl⟩
  · rw [hB2 t ht]
    constructor
    · rintro ⟨j, j1, j2⟩
      obtain ⟨g, g1, g2, g3, g4⟩ := mg_row hg j1
      exact ⟨g, g1, g4.1.symm.trans j2⟩
    · rintro ⟨g, g1, g2⟩
      have := hg.2.2.1 g g1
      have h2 := rb_le hg (show g + 1 ≤ A.1 by omega)
      exact ⟨rb g, by omega, (hg.2.2.2.1 g (rb g) g1 (Nat.le_refl _) this).1.trans g2⟩
  · obtain ⟨y1, y2⟩ := s4 g z g1 g2
    obtain ⟨y3, y4, -⟩ := (hQ.2.2.2.2.2 z z1).1 ((hV z).mpr (vN_g.mpr ⟨g, g1, g2⟩))
    obtain ⟨j, j1, j2, j3⟩ := gN_j hg g1 g2
    refine ⟨by rw [y3, y1], by rw [← j3]; exact hk.2 g j g1 j1 j2, fun g3 => ?_⟩
    rw [y4]
    exact y2 g3
  · exact (hQ.2.2.2.2.2 z z1).2 (fun v => z2 ((hV z).mp v))
