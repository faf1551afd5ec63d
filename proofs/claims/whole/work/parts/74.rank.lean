/-! ranksAnew(), the inner loop: those at one instruction come into the row. -/
def mRow (M : Mem) (mn : Nat) (rw' : Nat → Nat) : Prop := M 70 23 = nI mn ∧ mn ≤ 51200 ∧ (∀ j, j < mn → M 86 j = nI (rw' j) ∧ rw' j < 51200) ∧ ∀ j j', j < mn → j' < mn → rw' j = rw' j' → j = j'
def mL (M M' : Mem) : Prop := (∀ k, k ≠ 70 → k ≠ 86 → k ≠ 89 → M' k = M k) ∧ ∀ f, f ≠ 23 → M' 70 f = M 70 f
theorem mL.rf (M : Mem) : mL M M := ⟨fun _ _ _ _ => rfl, fun _ _ => rfl⟩
theorem mL.tr {M M' M'' : Mem} (h : mL M M') (h' : mL M' M'') : mL M M'' := ⟨fun k a b c => (h'.1 k a b c).trans (h.1 k a b c), fun f a => (h'.2 f a).trans (h.2 f a)⟩
set_option maxHeartbeats 2000000 in
theorem rk_in {at' R m : Nat} {an : Nat → Nat} (hat : at' ≤ 24) (hm : m ≤ 51200) (han : ∀ j, j < m → an j < 51200) (hinj : ∀ j j', j < m → j' < m → an j = an j' → j = j') (kk : Mem → Int32 → Int32 → Option (Int32 × Mem)) :
    ∀ (d x f : Nat) (M : Mem) (mn : Nat) (rw' : Nat → Nat) (y : Int32), x + d = m → d < f → M 70 26 = nI m → M 70 24 = nI R → (∀ j, j < m → M 90 j = nI (an j)) → mRow M mn rw' → (∀ k j, x ≤ k → k < m → an k / 2048 = at' → j < mn → rw' j ≠ an k) →
      ∃ M' mn' rw2 y', f_X9_ranksAnew_L12 (nI at') kk f M y (nI x) = kk M' y' (nI m) ∧ mL M M' ∧ mRow M' mn' rw2 ∧ mn ≤ mn' ∧ (∀ j, j < mn → rw2 j = rw' j) ∧ (∀ j, mn ≤ j → j < mn' → ∃ k, x ≤ k ∧ k < m ∧ an k / 2048 = at' ∧ rw2 j = an k) ∧ (∀ k, x ≤ k → k < m → an k / 2048 = at' → ∃ j, mn ≤ j ∧ j < mn' ∧ rw2 j = an k) ∧
        (∀ j, mn ≤ j → j < mn' → M' 89 (rw2 j) = nI R) ∧ (∀ z, (∀ k, x ≤ k → k < m → an k / 2048 = at' → z ≠ an k) → M' 89 z = M 89 z) ∧ (mn = mn' → y' = y) ∧ (mn < mn' → y' = 1) := by
  intro d
  induction d with
  | zero =>
    intro x f M mn rw' y hx hf h26 h24 h90 hr hno
    obtain ⟨f', rfl⟩ : ∃ f', f = f' + 1 := ⟨f - 1, by omega⟩
    rw [f_X9_ranksAnew_L12, h26, if_pos (nI_le (by omega) (by omega)), show x = m by omega]
    exact ⟨M, mn, rw', y, rfl, mL.rf M, hr, Nat.le_refl _, fun _ _ => rfl, fun j a b => by omega, fun k a b => by omega, fun j a b => by omega, fun _ _ => rfl, fun _ => rfl, fun z => by omega⟩
  | succ d ih =>
    intro x f M mn rw' y hx hf h26 h24 h90 hr hno
    obtain ⟨f', rfl⟩ : ∃ f', f = f' + 1 := ⟨f - 1, by omega⟩
    have hax := han x (by omega)
    rw [f_X9_ranksAnew_L12, h26, if_neg (nI_ge (by omega) (by omega)), ixT (by omega) (by omega), if_pos rfl, nI_clamp (by omega), h90 x (by omega), c2048, pk_div (by omega) (by omega) (by omega)]
    by_cases e : an x / 2048 = at'
    · rw [e, if_pos rfl, if_pos rfl, ixT hax (by omega), if_pos rfl, nI_clamp (by omega), h24]
      obtain ⟨r1, r2, r3, r4⟩ := id hr
      have hmn : mn < 51200 := by
        have := fb_holes 51200 (mn + 1) (fun j => if j < mn then rw' j else an x) (by
          intro j hj
          split
          · rename_i z; exact (r3 j z).2
          · exact hax) (by
          intro j j' hjj hj' z
          rw [if_pos (by omega)] at z
          by_cases w : j' < mn
          · rw [if_pos w] at z
            have := r4 j j' (by omega) w z
            omega
          · rw [if_neg w] at z
            exact hno x j (Nat.le_refl _) (by omega) e (by omega) z)
        omega
      unfold wr
      dsimp only
      rw [if_pos rfl]
      generalize hX1 : upM M 89 (an x) (nI R) = X1
      have a1 : ∀ k, k ≠ 89 → X1 k = M k := fun k hk => by rw [← hX1, upM_k hk]
      rw [a1 _ (by omega), r1, ixT hmn (by omega), if_pos rfl, nI_clamp (by omega), a1 90 (by omega), h90 x (by omega)]
      generalize hX2 : upM X1 86 mn (nI (an x)) = X2
      have a2 : X2 70 23 = nI mn := by rw [← hX2, upM_k (by omega), a1 _ (by omega)]; exact r1
      rw [a2, nI_1, nI_1]
      generalize hX3 : upM X2 70 23 (nI (mn + 1)) = X3
      have a3 : ∀ k, k ≠ 70 → k ≠ 86 → k ≠ 89 → X3 k = M k := fun k g1 g2 g3 => by rw [← hX3, upM_k g1, ← hX2, upM_k g2, a1 k g3]
      have a4 : ∀ f, f ≠ 23 → X3 70 f = M 70 f := fun f hf => by rw [← hX3, upM_ap, if_neg (by omega), ← hX2, upM_k (by omega), a1 _ (by omega)]
      have a86 : ∀ j, X3 86 j = if j = mn then nI (an x) else M 86 j := fun j => by
        rw [← hX3, upM_k (by omega), ← hX2, upM_ap, a1 _ (by omega)]
        by_cases z : j = mn
        · rw [if_pos ⟨rfl, z⟩, if_pos z]
        · rw [if_neg (fun w => z w.2), if_neg z]
      have a89 : ∀ z, X3 89 z = if z = an x then nI R else M 89 z := fun z => by
        rw [← hX3, upM_k (by omega), ← hX2, upM_k (by omega), ← hX1, upM_ap]
        by_cases w : z = an x
        · rw [if_pos ⟨rfl, w⟩, if_pos w]
        · rw [if_neg (fun v => w v.2), if_neg w]
      have hr3 : mRow X3 (mn + 1) (va_up rw' mn (an x)) := by
        refine ⟨by rw [← hX3, upM_ap, if_pos ⟨rfl, rfl⟩], by omega, fun j hj => ?_, fun j j' g1 g2 z => ?_⟩
        · rw [a86]
          by_cases w : j = mn
          · rw [if_pos w, w, va_up_self]; exact ⟨rfl, hax⟩
          · rw [if_neg w, va_up_ne _ _ w]; exact r3 j (by omega)
        · by_cases w1 : j = mn <;> by_cases w2 : j' = mn
          · omega
          · subst w1
            rw [va_up_self, va_up_ne _ _ w2] at z
            exact absurd z.symm (hno x j' (Nat.le_refl _) (by omega) e (by omega))
          · subst w2
            rw [va_up_self, va_up_ne _ _ w1] at z
            exact absurd z (hno x j (Nat.le_refl _) (by omega) e (by omega))
          · rw [va_up_ne _ _ w1, va_up_ne _ _ w2] at z
            exact r4 j j' (by omega) (by omega) z
      obtain ⟨M', mn', rw2, y', e2, hL, q1, q2, q3, q4, q5, q6, q7, q8, q9⟩ := ih (x + 1) f' X3 (mn + 1) (va_up rw' mn (an x)) 1 (by omega) (by omega) (by rw [a4 _ (by omega)]; exact h26) (by rw [a4 _ (by omega)]; exact h24) (fun j hj => by rw [a3 _ (by omega) (by omega) (by omega)]; exact h90 j hj) hr3 (fun k j g1 g2 g3 g4 => by
        by_cases w : j = mn
        · rw [w, va_up_self]
          intro z
          have := hinj x k (by omega) g2 z
          omega
        · rw [va_up_ne _ _ w]
          exact hno k j (by omega) g2 g3 (by omega))
      have rwn : rw2 mn = an x := by rw [q3 mn (by omega), va_up_self]
      refine ⟨M', mn', rw2, y', e2, mL.tr (M' := X3) ⟨a3, a4⟩ hL, q1, by omega, fun j hj => by rw [q3 j (by omega), va_up_ne _ _ (by omega)], fun j g1 g2 => ?_, fun k g1 g2 g3 => ?_, fun j g1 g2 => ?_, fun z hz => ?_, fun z => by omega, fun _ => ?_⟩
      · by_cases w : j = mn
        · exact ⟨x, Nat.le_refl _, by omega, e, by rw [w]; exact rwn⟩
        · obtain ⟨k, k1, k2, k3⟩ := q4 j (by omega) g2
          exact ⟨k, by omega, k2, k3⟩
      · by_cases w : k = x
        · exact ⟨mn, Nat.le_refl _, by omega, by rw [w]; exact rwn⟩
        · obtain ⟨j, j1, j2, j3⟩ := q5 k (by omega) g2 g3
          exact ⟨j, by omega, j2, j3⟩
      · by_cases w : j = mn
        · rw [w, rwn, q7 _ (fun k k1 k2 _ z => by have := hinj x k (by omega) k2 z; omega), a89, if_pos rfl]
        · exact q6 j (by omega) g2
      · rw [q7 z (fun k k1 k2 k3 => hz k (by omega) k2 k3), a89, if_neg (hz x (Nat.le_refl _) (by omega) e)]
      · rcases (show mn + 1 = mn' ∨ mn + 1 < mn' by omega) with w | w
        · exact q8 w
        · exact q9 w
    · rw [if_neg (fun z => e ((nI_eq (by omega) (by omega)).mp z)), nI_1]
      obtain ⟨M', mn', rw2, y', e2, hL, q1, q2, q3, q4, q5, q6, q7, q8, q9⟩ := ih (x + 1) f' M mn rw' y (by omega) (by omega) h26 h24 h90 hr (fun k j g1 => hno k j (by omega))
      refine ⟨M', mn', rw2, y', e2, hL, q1, q2, q3, fun j g1 g2 => ?_, fun k g1 g2 g3 => ?_, q6, fun z hz => q7 z (fun k k1 k2 k3 => hz k (by omega) k2 k3), q8, q9⟩
      · obtain ⟨k, k1, k2, k3⟩ := q4 j g1 g2
        exact ⟨k, by omega, k2, k3⟩
      · by_cases w : k = x
        · rw [w] at g3; exact absurd g3 e
        · exact q5 k (by omega) g2 g3
