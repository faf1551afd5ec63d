/-! A group goes on. -/
theorem rV.cg {pp : Nat} {c : Cd} {M : Mem} {jc : Nat} {L L' : Nat → Nat} {Q Q' : Nat → Int32} (h : rV pp c M jc L Q) (he : ∀ j, j < jc → L' j = L j ∧ Q' j = Q j) : rV pp c M jc L' Q' := by
  have en : ∀ j ph d b, j < jc → (nt c L' Q' j ph d b ↔ nt c L Q j ph d b) := fun j ph d b hj => by
    unfold nt
    rw [(he j hj).1, (he j hj).2]
  refine ⟨fun ph d b g1 g2 g3 => ?_, fun ph d b g1 g2 g3 hb => ?_⟩
  · rw [h.1 ph d b g1 g2 g3]
    constructor
    · rintro ⟨j, hj, z⟩; exact ⟨j, hj, (en j ph d b hj).mpr z⟩
    · rintro ⟨j, hj, z⟩; exact ⟨j, hj, (en j ph d b hj).mp z⟩
  · obtain ⟨j, hj, z1, z2, z3⟩ := h.2 ph d b g1 g2 g3 hb
    exact ⟨j, hj, (en j ph d b hj).mpr z1, fun j' hj' y => z2 j' hj' ((en j' ph d b (by omega)).mp y), z3⟩
theorem fld.go {pp : Nat} {c : Cd} {t : Nat} {M M' : Mem} (h : fld pp c t M) (hG : mG pp M M') : fld pp c t M' := by
  obtain ⟨a1, a2, a3, a4, a5⟩ := h
  refine ⟨?_, ?_, ?_, ?_, ?_⟩
  · rw [hG.2 9 (by omega) (by omega) (by omega)]; exact a1
  · rw [hG.2 10 (by omega) (by omega) (by omega)]; exact a2
  · rw [hG.2 11 (by omega) (by omega) (by omega)]; exact a3
  · rw [hG.2 12 (by omega) (by omega) (by omega)]; exact a4
  · rw [hG.2 13 (by omega) (by omega) (by omega)]; exact a5
theorem Wi.cg {c : Cd} {L L' : Nat → Nat} {Q Q' : Nat → Int32} {t nx j : Nat} (h1 : L' j = L j) (h2 : Q' j = Q j) (ph a b : Nat) : Wi c L' Q' t nx j ph a b ↔ Wi c L Q t nx j ph a b := by
  unfold Wi
  rw [h1, h2]
theorem lv_1 {pp fu : Nat} (hp : pp < 4) (hfu : 32 < fu) {c : Cd} (hc : cdOk c) {t nx lo hi e : Nat} (hk9 : c.2.1 t ≠ 9) (hnx : c.2.1 t = 5 ∧ (nx = t + 1 ∨ nx = c.2.2.2.2 t) ∨ c.2.1 t = 6 ∧ nx = c.2.2.2.2 t ∨ c.2.1 t ≠ 5 ∧ c.2.1 t ≠ 6 ∧ nx = t + 1) (he : e ≤ hi) (x1 x4 : Int32) (kk : Mem → Int32 → Option (Int32 × Mem)) :
    ∀ (d x f : Nat) (M : Mem) (s : Nat) (L : Nat → Nat) (Q : Nat → Int32) (o : Nat), x + d = e → d < f → lo ≤ x → e ≤ s → mR pp c M s L Q o → (∀ j, x ≤ j → j < e → L j / 32 % 32 = t) → fld pp c t M → gV c M s L Q → rV pp c M x L Q →
      ∃ M', f_X4_leave_L107 fu pp x1 (nI e) (nI nx) x4 kk f M (nI x) = kk M' (nI e) ∧ mG pp M M' ∧ ∃ s' L' Q' o', mR pp c M' s' L' Q' o' ∧ Seg c nx lo hi s L Q o s' L' Q' o' (fun ph a b => ∃ j, x ≤ j ∧ j < e ∧ Wi c L Q t nx j ph a b) ∧ gV c M' s' L' Q' ∧ rV pp c M' e L' Q' := by
  intro d
  induction d with
  | zero =>
    intro x f M s L Q o hx hf hlo hes hR ht hfl hg hr
    obtain ⟨f', rfl⟩ : ∃ f', f = f' + 1 := ⟨f - 1, by omega⟩
    have hs2 := hR.2.2.1
    rw [f_X4_leave_L107, if_pos (nI_le (by omega) (by omega))]
    obtain rfl : x = e := by omega
    exact ⟨M, rfl, mG.rf pp M, s, L, Q, o, hR, Seg.rf (fun _ ph a b _ _ _ z => by obtain ⟨j, z1, z2, -⟩ := z; omega), hg, hr⟩
  | succ d ih =>
    intro x f M s L Q o hx hf hlo hes hR ht hfl hg hr
    obtain ⟨f', rfl⟩ : ∃ f', f = f' + 1 := ⟨f - 1, by omega⟩
    have hs2 := hR.2.2.1
    rw [f_X4_leave_L107, if_neg (nI_ge (by omega) (by omega))]
    obtain ⟨M1, e1, hG, ⟨s1, L1, Q1, o1, hR1, hS1, hg1⟩, hr1, -⟩ := step_spec (lo := lo) (hi := hi) hp hfu hc hR (by omega : x < s) (ht x (by omega) (by omega)) hfl hk9 hnx hlo (by omega) hg (fun _ => hr)
    rw [e1, bnd_some, nI_1]
    have ag : ∀ j, j < s → L1 j = L j ∧ Q1 j = Q j := hS1.2.1
    obtain ⟨M2, e2, hG2, s2, L2, Q2, o2, hR2, hS2, hg2, hr2⟩ := ih (x + 1) f' M1 s1 L1 Q1 o1 (by omega) (by omega) (by omega) (by have := hS1.1; omega) hR1 (fun j g1 g2 => by rw [(ag j (by omega)).1]; exact ht j (by omega) g2) (hfl.go hG) hg1 ((hr1 hr).cg fun j hj => ag j (by omega))
    refine ⟨M2, e2, hG.tr hG2, s2, L2, Q2, o2, hR2, (hS1.tr hS2).eq fun _ ph a b _ _ _ => ?_, hg2, hr2⟩
    constructor
    · rintro (z | ⟨j, z1, z2, z3⟩)
      · exact ⟨x, by omega, by omega, z⟩
      · exact ⟨j, by omega, z2, (Wi.cg (ag j (by omega)).1 (ag j (by omega)).2 ph a b).mp z3⟩
    · rintro ⟨j, z1, z2, z3⟩
      rcases (show j = x ∨ x + 1 ≤ j by omega) with q | q
      · rw [q] at z3; exact Or.inl z3
      · exact Or.inr ⟨j, q, z2, (Wi.cg (ag j (by omega)).1 (ag j (by omega)).2 ph a b).mpr z3⟩
theorem lv_2 {pp fu : Nat} (hp : pp < 4) (hfu : 32 < fu) {c : Cd} (hc : cdOk c) {t nx n0 lo hi e : Nat} (h5 : c.2.1 t = 5) (hnx : nx = t + 1 ∨ nx = c.2.2.2.2 t) (hn0 : n0 < 2 ^ 31) (hne : n0 ≠ nx) (he : e ≤ hi) (kk : Mem → Int32 → Option (Int32 × Mem)) :
    ∀ (d x f : Nat) (M : Mem) (s : Nat) (L : Nat → Nat) (Q : Nat → Int32) (o : Nat), x + d = e → d < f → lo ≤ x → e ≤ s → mR pp c M s L Q o → (∀ j, x ≤ j → j < e → L j / 32 % 32 = t) → fld pp c t M → gV c M s L Q → rV pp c M e L Q →
      ∃ M', f_X4_leave_L134 fu pp (nI e) (nI n0) (nI nx) kk f M (nI x) = kk M' (nI e) ∧ mG pp M M' ∧ ∃ s' L' Q' o', mR pp c M' s' L' Q' o' ∧ Seg c nx lo hi s L Q o s' L' Q' o' (fun ph a b => ∃ j, x ≤ j ∧ j < e ∧ Wi c L Q t nx j ph a b) ∧ gV c M' s' L' Q' ∧ rV pp c M' e L' Q' := by
  intro d
  induction d with
  | zero =>
    intro x f M s L Q o hx hf hlo hes hR ht hfl hg hr
    obtain ⟨f', rfl⟩ : ∃ f', f = f' + 1 := ⟨f - 1, by omega⟩
    have hs2 := hR.2.2.1
    rw [f_X4_leave_L134, if_pos (nI_le (by omega) (by omega))]
    obtain rfl : x = e := by omega
    exact ⟨M, rfl, mG.rf pp M, s, L, Q, o, hR, Seg.rf (fun _ ph a b _ _ _ z => by obtain ⟨j, z1, z2, -⟩ := z; omega), hg, hr⟩
  | succ d ih =>
    intro x f M s L Q o hx hf hlo hes hR ht hfl hg hr
    obtain ⟨f', rfl⟩ : ∃ f', f = f' + 1 := ⟨f - 1, by omega⟩
    have hs2 := hR.2.2.1
    have htx := ht x (by omega) (by omega)
    have l5 := (hR.2.2.2.1 x (by omega)).2.2.2.2
    have c4 := (hc.2 t (by have := hc.1; omega)).2.2.2
    have h24 := hc.1
    rw [f_X4_leave_L134, if_neg (nI_ge (by omega) (by omega)), if_neg (fun z => hne ((nI_eq hn0 (by omega)).mp z))]
    obtain ⟨M1, e1, hG, ⟨s1, L1, Q1, o1, hR1, hS1, hg1⟩, -, h12⟩ := step_spec (lo := lo) (hi := hi) hp hfu hc hR (by omega : x < s) htx hfl (by omega) (Or.inl ⟨h5, hnx⟩) hlo (by omega) hg (fun z => by omega)
    rw [e1, bnd_some, nI_1]
    have ag : ∀ j, j < s → L1 j = L j ∧ Q1 j = Q j := hS1.2.1
    obtain ⟨q12, q10⟩ := h12 (by omega)
    have hr1 : rV pp c M1 e L1 Q1 := by
      have h0 : rV pp c M1 e L Q := ⟨fun ph d b g1 g2 g3 => by rw [q12]; exact hr.1 ph d b g1 g2 g3, fun ph d b g1 g2 g3 hb => by rw [q12] at hb; rw [q10]; exact hr.2 ph d b g1 g2 g3 hb⟩
      exact h0.cg fun j hj => ag j (by omega)
    obtain ⟨M2, e2, hG2, s2, L2, Q2, o2, hR2, hS2, hg2, hr2⟩ := ih (x + 1) f' M1 s1 L1 Q1 o1 (by omega) (by omega) (by omega) (by have := hS1.1; omega) hR1 (fun j g1 g2 => by rw [(ag j (by omega)).1]; exact ht j (by omega) g2) (hfl.go hG) hg1 hr1
    refine ⟨M2, e2, hG.tr hG2, s2, L2, Q2, o2, hR2, (hS1.tr hS2).eq fun _ ph a b _ _ _ => ?_, hg2, hr2⟩
    constructor
    · rintro (z | ⟨j, z1, z2, z3⟩)
      · exact ⟨x, by omega, by omega, z⟩
      · exact ⟨j, by omega, z2, (Wi.cg (ag j (by omega)).1 (ag j (by omega)).2 ph a b).mp z3⟩
    · rintro ⟨j, z1, z2, z3⟩
      rcases (show j = x ∨ x + 1 ≤ j by omega) with q | q
      · rw [q] at z3; exact Or.inl z3
      · exact Or.inr ⟨j, q, z2, (Wi.cg (ag j (by omega)).1 (ag j (by omega)).2 ph a b).mpr z3⟩
