/-! The first memory. -/
def M0 : Mem := fun k => if k = 8 ∨ k = 21 ∨ k = 34 ∨ k = 47 then (fun j => if j = 8 then 1 else 0) else if k = 60 then (fun j => if j = 5 then -1 else 0) else if k = 70 then (fun j => if j = 2 ∨ j = 18 then -1 else 0) else fun _ => 0
theorem M0_z {k : Nat} (h1 : ¬ (k = 8 ∨ k = 21 ∨ k = 34 ∨ k = 47)) (h2 : k ≠ 60) (h3 : k ≠ 70) (j : Nat) : M0 k j = 0 := by
  unfold M0
  rw [if_neg h1, if_neg h2, if_neg h3]
theorem M0_8 {p : Nat} (hp : p < 4) : M0 (13 * p + 8) 8 = 1 := by
  unfold M0
  rw [if_pos (by omega), if_pos rfl]
theorem M0_70 (j : Nat) : M0 70 j = if j = 2 ∨ j = 18 then -1 else 0 := by
  unfold M0
  rw [if_neg (by omega), if_neg (by omega), if_pos rfl]
theorem inv_0 : Inv (fun _ => (0, fun _ => 0, fun _ => 0, fun _ => 0, fun _ => 0)) M0 := by
  refine ⟨fun p hp => ⟨⟨⟨by dsimp only; omega, fun i _ => ?_⟩, ⟨?_, fun i _ => ?_⟩, ⟨?_, fun i _ => ?_⟩, fun j _ => ?_⟩, fun z => ?_, fun z => ?_, fun z => ?_⟩, ⟨0, by omega, ?_, ?_, fun j hj => absurd hj (Nat.not_lt_zero j)⟩, ?_, ⟨0, by omega, ?_, ?_, fun j hj => absurd hj (Nat.not_lt_zero j)⟩⟩
  · dsimp only; omega
  · rw [M0_z (by omega) (by omega) (by omega)]; rfl
  · rw [M0_z (by omega) (by omega) (by omega), M0_z (by omega) (by omega) (by omega), M0_z (by omega) (by omega) (by omega), M0_z (by omega) (by omega) (by omega)]; exact ⟨rfl, rfl, rfl, rfl⟩
  · rw [M0_z (by omega) (by omega) (by omega)]; rfl
  · rw [M0_z (by omega) (by omega) (by omega), M0_z (by omega) (by omega) (by omega), M0_z (by omega) (by omega) (by omega), M0_z (by omega) (by omega) (by omega)]; exact ⟨rfl, rfl, rfl, rfl⟩
  · rw [M0_z (by omega) (by omega) (by omega), M0_z (by omega) (by omega) (by omega)]
  · rw [M0_8 hp] at z; exact absurd z (by decide)
  · rw [M0_z (by omega) (by omega) (by omega)] at z; exact absurd rfl z
  · rw [M0_70, if_pos (by omega)] at z; exact absurd z.symm (nI_m1 (by omega))
  · rw [M0_z (by omega) (by omega) (by omega)]; rfl
  · rw [M0_70, if_neg (by omega)]; rfl
  · rw [M0_70, if_pos (by omega)]; rfl
  · rw [M0_z (by omega) (by omega) (by omega)]; rfl
  · rw [M0_70, if_neg (by omega)]; rfl
/-- the law's loop from the first memory -/
theorem law_0 {L : Nat} (hL : L ≤ 3584) (xs : Nat → Int32) : ∃ M', f_L_law_L18 60000 L xs (fun M _ => some (1, M)) 60000 M0 0 = some (1, M') :=
  law_L (fu := 60000) (by omega) hL xs 512 0 60000 M0 _ (by omega) (by omega) (by omega) inv_0
