/-! A stretch of findings from states of Y, all of depth D. -/
def Sg (D : Nat) (Y : Nat → Prop) (V : Nat → Prop) (dp : Nat → Nat) (pr : Nat → Int32) (m : Nat) (an : Nat → Nat) (V' : Nat → Prop) (dp' : Nat → Nat) (pr' : Nat → Int32) (m' : Nat) (an' : Nat → Nat) (W : Nat → Prop) : Prop :=
  m ≤ m' ∧ (∀ j, j < m → an' j = an j) ∧ (∀ z, V' z ↔ V z ∨ W z) ∧ (∀ z, V z → dp' z = dp z ∧ pr' z = pr z) ∧
  (∀ j, m ≤ j → j < m' → ¬ V (an' j) ∧ W (an' j) ∧ dp' (an' j) = D + 1 ∧ ∃ y, pr' (an' j) = nI y ∧ Y y) ∧ (∀ z, W z → ¬ V z → ∃ j, m ≤ j ∧ j < m' ∧ an' j = z)
theorem Sg.rf {D : Nat} {Y V : Nat → Prop} {dp : Nat → Nat} {pr : Nat → Int32} {m : Nat} {an : Nat → Nat} {W : Nat → Prop} (h : ∀ z, W z → V z) : Sg D Y V dp pr m an V dp pr m an W :=
  ⟨Nat.le_refl _, fun _ _ => rfl, fun z => ⟨Or.inl, fun w => w.elim id (h z)⟩, fun _ _ => ⟨rfl, rfl⟩, fun j a b => by omega, fun z w v => absurd (h z w) v⟩
theorem Sg.tr {D : Nat} {Y V V1 V2 : Nat → Prop} {dp dp1 dp2 : Nat → Nat} {pr pr1 pr2 : Nat → Int32} {m m1 m2 : Nat} {an an1 an2 : Nat → Nat} {W1 W2 : Nat → Prop} (h : Sg D Y V dp pr m an V1 dp1 pr1 m1 an1 W1) (h' : Sg D Y V1 dp1 pr1 m1 an1 V2 dp2 pr2 m2 an2 W2) : Sg D Y V dp pr m an V2 dp2 pr2 m2 an2 (fun z => W1 z ∨ W2 z) := by
  obtain ⟨a1, a2, a3, a4, a5, a6⟩ := h
  obtain ⟨b1, b2, b3, b4, b5, b6⟩ := h'
  have up : ∀ z, V z → V1 z := fun z v => (a3 z).mpr (Or.inl v)
  refine ⟨by omega, fun j hj => (b2 j (by omega)).trans (a2 j hj), fun z => ?_, fun z v => ?_, fun j g1 g2 => ?_, fun z w v => ?_⟩
  · rw [b3, a3, or_assoc]
  · exact ⟨(b4 z (up z v)).1.trans (a4 z v).1, (b4 z (up z v)).2.trans (a4 z v).2⟩
  · rcases Nat.lt_or_ge j m1 with e | e
    · rw [b2 j e]
      obtain ⟨x1, x2, x3, y, x4, x5⟩ := a5 j g1 e
      have v1 : V1 (an1 j) := (a3 _).mpr (Or.inr x2)
      exact ⟨x1, Or.inl x2, (b4 _ v1).1.trans x3, y, (b4 _ v1).2.trans x4, x5⟩
    · obtain ⟨x1, x2, x3, x4⟩ := b5 j e g2
      exact ⟨fun v => x1 (up _ v), Or.inr x2, x3, x4⟩
  · rcases Classical.em (V1 z) with v1 | v1
    · rcases w with w | w
      · obtain ⟨j, x1, x2, x3⟩ := a6 z w v
        exact ⟨j, x1, by omega, (b2 j x2).trans x3⟩
      · obtain ⟨j, x1, x2, x3⟩ := a6 z (((a3 z).mp v1).resolve_left v) v
        exact ⟨j, x1, by omega, (b2 j x2).trans x3⟩
    · rcases w with w | w
      · exact absurd ((a3 z).mpr (Or.inr w)) v1
      · obtain ⟨j, x1, x2, x3⟩ := b6 z w v1
        exact ⟨j, by omega, x2, x3⟩
theorem Sg.eq {D : Nat} {Y V V1 : Nat → Prop} {dp dp1 : Nat → Nat} {pr pr1 : Nat → Int32} {m m1 : Nat} {an an1 : Nat → Nat} {W W' : Nat → Prop} (h : Sg D Y V dp pr m an V1 dp1 pr1 m1 an1 W) (hw : ∀ z, W z ↔ W' z) : Sg D Y V dp pr m an V1 dp1 pr1 m1 an1 W' := by
  rw [show W' = W from funext fun z => propext (hw z).symm]
  exact h
/-- what stands behind a stretch of findings -/
def Fnd (p : Nat) (c : Cd) (D : Nat) (Y : Nat → Prop) (M : Mem) (V : Nat → Prop) (dp : Nat → Nat) (pr : Nat → Int32) (m : Nat) (an : Nat → Nat) (W : Nat → Prop) (M' : Mem) : Prop :=
  mK M M' ∧ ∃ V' dp' pr' m' an', mQ p c M' V' dp' pr' m' an' ∧ Sg D Y V dp pr m an V' dp' pr' m' an' W
theorem finds_sg {p : Nat} {c : Cd} {M : Mem} {V : Nat → Prop} {dp : Nat → Nat} {pr : Nat → Int32} {m : Nat} {an : Nat → Nat} (h : mQ p c M V dp pr m an) {x y D : Nat} {Y : Nat → Prop} (hx : x < 51200) (hy : y < 51200) (hv : V y) (hD : dp y = D) (hd : D + 1 < 2 ^ 30) (hY : Y y) :
    ∃ M', f_X9_finds (nI x) (nI y) M = some (0, M') ∧ Fnd p c D Y M V dp pr m an (fun z => z = x) M' := by
  obtain ⟨M', e, hK, hcs⟩ := finds_spec h hx hy hv (by omega)
  refine ⟨M', e, hK, ?_⟩
  rcases hcs with ⟨vx, rfl⟩ | ⟨vx, hQ⟩
  · exact ⟨V, dp, pr, m, an, h, Sg.rf fun z w => by rw [w]; exact vx⟩
  · refine ⟨_, _, _, _, _, hQ, by omega, fun j hj => va_up_ne _ _ (by omega), fun z => Iff.rfl, fun z v => ?_, fun j g1 g2 => ?_, fun z w v => ⟨m, Nat.le_refl _, by omega, by rw [va_up_self]; exact w.symm⟩⟩
    · have ne : z ≠ x := fun q => vx (q ▸ v)
      exact ⟨va_up_ne _ _ ne, va_up_ne _ _ ne⟩
    · obtain rfl : j = m := by omega
      rw [va_up_self, va_up_self, va_up_self]
      exact ⟨vx, rfl, by omega, y, rfl, hY⟩
theorem Fnd.tr {p : Nat} {c : Cd} {D : Nat} {Y : Nat → Prop} {M M1 M2 : Mem} {V : Nat → Prop} {dp : Nat → Nat} {pr : Nat → Int32} {m : Nat} {an : Nat → Nat} {W1 W2 : Nat → Prop} (h : Fnd p c D Y M V dp pr m an W1 M1) (h2 : ∀ V' dp' pr' m' an', mQ p c M1 V' dp' pr' m' an' → (∀ z, V z → V' z ∧ dp' z = dp z) → Fnd p c D Y M1 V' dp' pr' m' an' W2 M2) : Fnd p c D Y M V dp pr m an (fun z => W1 z ∨ W2 z) M2 := by
  obtain ⟨hK, V', dp', pr', m', an', hQ, hS⟩ := h
  obtain ⟨hK2, V2, dp2, pr2, m2, an2, hQ2, hS2⟩ := h2 V' dp' pr' m' an' hQ (fun z v => ⟨(hS.2.2.1 z).mpr (Or.inl v), (hS.2.2.2.1 z v).1⟩)
  exact ⟨hK.tr hK2, V2, dp2, pr2, m2, an2, hQ2, hS.tr hS2⟩
/-! numbers of states -/
def sn (t ph a b : Nat) : Nat := 2048 * t + 1024 * ph + 32 * a + b
theorem e_stateOf {t ph a b : Nat} (M : Mem) : f_X9_stateOf (nI t) (nI ph) (nI a) (nI b) M = some (nI (sn t ph a b), M) := by
  unfold f_X9_stateOf sn
  rw [c2048, c1024, c32, pk_mul, pk_mul, pk_mul, nI_add, nI_add, nI_add]
theorem e_endOf {p : Nat} (hp : p < 4) {c : Cd} (hc : c.1 ≤ 24) {M : Mem} (h : cdM p c M) {t : Nat} (ht : t < 2 ^ 30) : f_X9_endOf (nI p) (nI t) M = some (nI (ee c t), M) := by
  unfold f_X9_endOf ee
  rw [ixT hp (by omega), if_pos rfl, nI_clamp (by omega), h.1]
  by_cases z : t < c.1
  · rw [if_neg (nI_ge z (by omega)), if_pos z]
  · rw [if_pos (nI_le (by omega) (by omega)), if_neg z]
    rfl
theorem e_with0 {ph a b t v : Nat} (M : Mem) : f_X9_with (nI ph) (nI a) (nI b) (nI t) (nI 0) (nI v) M = some (nI (sn t ph v b), M) := by
  unfold f_X9_with
  rw [if_pos (by decide), e_stateOf, bnd_some]
theorem e_with1 {ph a b t v : Nat} (M : Mem) : f_X9_with (nI ph) (nI a) (nI b) (nI t) (nI 1) (nI v) M = some (nI (sn t ph a v), M) := by
  unfold f_X9_with
  rw [if_neg (by decide), e_stateOf, bnd_some]
