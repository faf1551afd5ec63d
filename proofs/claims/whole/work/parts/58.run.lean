/-! The search runs to its end. -/
theorem stpG_nil {c : Cd} {A : AB} {i : Nat} (h : ∀ t ph a b, ¬ frm c A i t ph a b) : stpG c A i = A := by
  have n : ∀ t, ¬ ∃ ph a b, nwP c A i t ph a b := fun t ⟨ph, a, b, z⟩ => h t ph a b z.1
  unfold stpG
  rw [addG_no (n _), addG_no (n _)]
theorem no9 {c : Cd} {t ph a b t' ph' a' b' : Nat} (k : c.2.1 t = 9) : ¬ Stx c t ph a b t' ph' a' b' := by
  unfold Stx
  rintro (h | h | h | h | h | h | h | h | h) <;> exact absurd (k.symm.trans h.1) (by decide)
theorem grp_step {pp : Nat} {c : Cd} (hc : cdOk c) {A : AB} {blk : Nat → Nat} {s : Nat} {L : Nat → Nat} {Q : Nat → Int32} (h : CI c A blk s L Q) {i : Nat} (hI : abI c A i i) (hi : i < A.1) (hn : A.2.1 i < c.1) {M M' : Mem} (hL : Lvd pp c (A.2.1 i) (blk i) (blk (i + 1)) M s L Q M') :
    ∃ blk' s2 L2 Q2 o2, CI c (stpG c A i) blk' s2 L2 Q2 ∧ (∀ g, g ≤ A.1 → blk' g = blk g) ∧ mR pp c M' s2 L2 Q2 o2 ∧ gV c M' s2 L2 Q2 ∧ rV pp c M' (blk (i + 1)) L2 Q2 ∧ s ≤ s2 := by
  obtain ⟨-, s1, L1, Q1, o1, s2, L2, Q2, o2, hS1, hS2, hR, hg, hr⟩ := hL
  have q2 : ∀ j, j < s2 → ¬ Q2 j = 0 := fun j hj => (hR.2.2.2.1 j hj).2.2.2.1
  have d2 := hR.2.2.2.2.2.2.2.2
  have ag := hS2.2.1
  have l12 := hS2.1
  obtain ⟨blk1, hC1, hb1⟩ := ci_add hc h hI hi hS1 (fun hx ph a b _ _ _ => ci_frm hc.1 h hI hi hn hx) (fun j hj => by rw [← (ag j hj).2]; exact q2 j (by omega)) (fun j j' b g1 g2 g3 e1 e2 e3 b1 b2 => by
    rw [← (ag j g1).1, ← (ag j' g2).1] at e1 e2 e3
    rw [← (ag j g1).2] at b1
    rw [← (ag j' g2).2] at b2
    exact d2 j j' b (by omega) (by omega) g3 e1 e2 e3 b1 b2)
  obtain ⟨hI1, hA1, hold, -, -⟩ := addG_inv (t' := ee c (loR c (A.2.1 i))) hc hi (abI_mid (by omega) hI)
  have hw : ∀ nx, nx < c.1 → ∀ ph a b, ph < 2 → a < 32 → b < 32 → ((∃ j, blk i ≤ j ∧ j < blk (i + 1) ∧ Wi c L Q (A.2.1 i) nx j ph a b) ↔ frm c (addG c A i (ee c (loR c (A.2.1 i)))) i nx ph a b) := fun nx hx ph a b _ _ _ => by
    rw [frm_same (hold i hi).1 (hold i hi).2.2]
    exact ci_frm hc.1 h hI hi hn hx
  rw [← hb1 i (by omega), ← hb1 (i + 1) (by omega)] at hS2 hw
  obtain ⟨blk2, hC2, hb2⟩ := ci_add hc hC1 hI1 (by omega) hS2 (fun hx => hw _ hx) q2 d2
  exact ⟨blk2, s2, L2, Q2, o2, hC2, fun g hg => (hb2 g (by omega)).trans (hb1 g hg), hR, hg, hr, by have := hS1.1; omega⟩
theorem ge_L {pp : Nat} {M : Mem} {s e : Nat} {L : Nat → Nat} (hs : s ≤ 49152) (h5 : M (13 * pp + 8) 5 = nI s) (hl : ∀ j, j < s → M (13 * pp + 9) j = nI (L j) ∧ L j < 201326592) (hes : e ≤ s) (he : e < s → L e / 2048 % 2 = 1) (kk : Mem → Int32 → Option (Int32 × Mem)) :
    ∀ (d x f : Nat), x + d = e → d < f → (∀ j, x ≤ j → j < e → L j / 2048 % 2 = 0) → f_X4_groupEnd_L4 pp kk f M (nI x) = kk M (nI e) := by
  intro d
  induction d with
  | zero =>
    intro x f hx hf _
    obtain ⟨f', rfl⟩ : ∃ f', f = f' + 1 := ⟨f - 1, by omega⟩
    obtain rfl : x = e := by omega
    rw [f_X4_groupEnd_L4, h5]
    by_cases z : s ≤ x
    · rw [if_pos (nI_le z (by omega))]
    · rw [if_neg (nI_ge (by omega) (by omega)), ixT (by omega) (by omega), if_pos rfl, nI_clamp (by omega), (hl x (by omega)).1, lk_open (by have := (hl x (by omega)).2; omega), bnd_some, he (by omega), if_neg (by decide)]
  | succ d ih =>
    intro x f hx hf h0
    obtain ⟨f', rfl⟩ : ∃ f', f = f' + 1 := ⟨f - 1, by omega⟩
    rw [f_X4_groupEnd_L4, h5, if_neg (nI_ge (by omega) (by omega)), ixT (by omega) (by omega), if_pos rfl, nI_clamp (by omega), (hl x (by omega)).1, lk_open (by have := (hl x (by omega)).2; omega), bnd_some, h0 x (by omega) (by omega), if_pos (by decide), nI_1]
    exact ih (x + 1) f' (by omega) (by omega) (fun j g1 g2 => h0 j (by omega) g2)
theorem ge_spec {pp fu : Nat} (hfu : 49152 < fu) {c : Cd} {A : AB} {blk : Nat → Nat} {M : Mem} {s : Nat} {L : Nat → Nat} {Q : Nat → Int32} {o : Nat} (hR : mR pp c M s L Q o) (h : CI c A blk s L Q) {i : Nat} (hi : i < A.1) (hlt : blk i < blk (i + 1)) : f_X4_groupEnd fu pp (nI (blk i)) M = some (nI (blk (i + 1)), M) := by
  obtain ⟨i0, i1, i2, i3, i4⟩ := h
  have hs2 := hR.2.2.1
  have mon := fun g (hg : g + 1 ≤ A.1) => blk_mono (fun g hg => (i2 g hg).1) (A.1 - (g + 1)) (g + 1) (by omega)
  have m := mon i (by omega)
  rw [show i + 1 + (A.1 - (i + 1)) = A.1 by omega, i1] at m
  unfold f_X4_groupEnd nm
  dsimp only
  rw [nI_1]
  exact ge_L hs2 hR.2.1 (fun j hj => ⟨(hR.2.2.2.1 j hj).1, (hR.2.2.2.1 j hj).2.1⟩) m (fun hlt2 => by
    rw [← i1] at hlt2
    obtain ⟨g, g1, g2, g3⟩ := blk_find i0 A.1 _ hlt2
    have q := (i3 g _ g1 g2 g3).2.1
    rw [q]
    rcases Nat.lt_or_ge i g with z | z
    · have := blk_mono (fun g hg => (i2 g hg).1) (g - (i + 1)) (i + 1) (by omega)
      rw [show i + 1 + (g - (i + 1)) = g by omega] at this
      omega
    · have := blk_mono (fun g hg => (i2 g hg).1) (i - g) (g + 1) (by omega)
      rw [show g + 1 + (i - g) = i + 1 by omega] at this
      omega) (fun M4 y5 => some (y5, M4)) (blk (i + 1) - (blk i + 1)) (blk i + 1) fu (by omega) (by omega) (fun j g1 g2 => by
    have q := (i3 i j hi (by omega) g2).2.1
    have : ¬ L j / 2048 % 2 = 1 := fun z => by have := q.mp z; omega
    omega)
/-- the search stands between two groups -/
def Bd (pp : Nat) (c : Cd) (hd : Nat) (M : Mem) : Prop := ∃ i blk s L Q o, i ≤ (abS c i).1 ∧ CI c (abS c i) blk s L Q ∧ blk i = hd ∧ mR pp c M s L Q o ∧ gV c M s L Q ∧ rV pp c M hd L Q
/-- the search is through -/
def Fin (pp : Nat) (c : Cd) (M : Mem) : Prop := ∃ i blk s L Q o, (abS c i).1 = i ∧ CI c (abS c i) blk s L Q ∧ mR pp c M s L Q o ∧ rV pp c M s L Q
theorem adv {c : Cd} {blk : Nat → Nat} {s : Nat} {L : Nat → Nat} {Q : Nat → Int32} : ∀ d i, i + d = (abS c i).1 → CI c (abS c i) blk s L Q → ∃ i', i ≤ i' ∧ abS c i' = abS c i ∧ i' ≤ (abS c i).1 ∧ blk i' = blk i ∧ (i' = (abS c i).1 ∨ (i' < (abS c i).1 ∧ (abS c i).2.1 i' < c.1)) := by
  intro d
  induction d with
  | zero => intro i hi _; exact ⟨i, Nat.le_refl _, rfl, by omega, rfl, Or.inl (by omega)⟩
  | succ d ih =>
    intro i hi h
    by_cases hn : (abS c i).2.1 i < c.1
    · exact ⟨i, Nat.le_refl _, rfl, by omega, rfl, Or.inr ⟨by omega, hn⟩⟩
    · have e : abS c (i + 1) = abS c i := by
        have e1 : abS c (i + 1) = stpG c (abS c i) i := if_pos (by omega)
        rw [e1]
        exact stpG_nil (fun t ph a b z => hn z.1)
      obtain ⟨i', h1, h2, h3, h4, h5⟩ := ih (i + 1) (by rw [e]; omega) (by rw [e]; exact h)
      rw [e] at h2 h3 h5
      exact ⟨i', by omega, h2, h3, h4.trans ((h.2.2.1 i (by omega)).2.2 hn), h5⟩
