/-! The list of a program as a number; what class and reference hold in common. -/
noncomputable def nv (c : Cd) (ph d : Nat) : Int32 := Classical.epsilon (fun v : Int32 => ∀ b, b < 32 → (bt v b = true ↔ ∃ A, FA c A ∧ ∃ g, CG c A ph d b g))
theorem nv_eq {c : Cd} {ph d : Nat} {v : Int32} (h : ∀ b, b < 32 → (bt v b = true ↔ ∃ A, FA c A ∧ ∃ g, CG c A ph d b g)) : nv c ph d = v := by
  have h2 : ∀ b, b < 32 → (bt (nv c ph d) b = true ↔ ∃ A, FA c A ∧ ∃ g, CG c A ph d b g) := Classical.epsilon_spec (p := fun v : Int32 => ∀ b, b < 32 → (bt v b = true ↔ ∃ A, FA c A ∧ ∃ g, CG c A ph d b g)) ⟨v, h⟩
  apply b_ext
  intro b hb
  have e1 := h b hb
  have e2 := h2 b hb
  cases x : bt (nv c ph d) b <;> cases y : bt v b
  · rfl
  · rw [x] at e2; exact absurd (e2.mpr (e1.mp y)) (by decide)
  · rw [y] at e1; exact absurd (e1.mpr (e2.mp x)) (by decide)
  · rfl
theorem FA.ex {c : Cd} {A : AB} (hA : FA c A) {P : AB → Prop} : (∃ B, FA c B ∧ P B) ↔ P A :=
  ⟨fun ⟨B, hB, h⟩ => by rw [hA.one hB]; exact h, fun h => ⟨A, hA, h⟩⟩
theorem sx_nv {pp : Nat} {c : Cd} {A : AB} {M : Mem} (hA : FA c A) (h : Sx pp c A M) {ph d : Nat} (h1 : ph < 2) (h2 : d < 32) : M (13 * pp + 12) (32 * ph + d) = nv c ph d :=
  (nv_eq (fun b hb => by rw [sx_rows h h1 h2 hb]; exact (hA.ex (P := fun A => ∃ g, CG c A ph d b g)).symm)).symm
theorem nd_nv {p : Nat} {c : Cd} {A : AB} {M : Mem} (hA : FA c A) (h : Nd p c A M) {ph d : Nat} (h1 : ph < 2) (h2 : d < 32) : M 77 (64 * p + 32 * ph + d) = nv c ph d :=
  (nv_eq (fun b hb => by rw [h.1 ph d b h1 h2 hb]; exact (hA.ex (P := fun A => ∃ g, CG c A ph d b g)).symm)).symm
def IvC (p : Nat) (c : Cd) (M : Mem) : Prop := cdOk c ∧ cdAt p c M ∧ cdM p c M ∧ ∀ j, j < 64 → M (13 * p + 14) j = M 78 (64 * p + j)
def IvS (p : Nat) (c : Cd) (M : Mem) : Prop := M (13 * p + 8) 8 = 0 → ∃ A, FA c A ∧ Sx p c A M
def IvF (p : Nat) (c : Cd) (M : Mem) : Prop := ¬ M 80 p = 0 → ∃ A, FA c A ∧ Nd p c A M
def IvH (p : Nat) (c : Cd) (M : Mem) : Prop := M 70 18 = nI p → ¬ M 80 p = 0 ∧ ∃ A, FA c A ∧ Hd A M
def IvT (M : Mem) : Prop := ∃ n, n ≤ 80 ∧ M 58 1 = nI n ∧ M 70 1 = nI n ∧ ∀ j, j < n → M 59 j &&& 31 = M 71 j &&& 31
def IvE (M : Mem) : Prop := ∃ e, e ≤ 10 ∧ M 62 5 = nI e ∧ M 70 12 = nI e ∧ ∀ j, j < e → (∃ d, d < 32 ∧ M 63 j = nI d ∧ M 81 j = nI d) ∧ M 65 j = M 84 j ∧ M 66 j = M 85 j ∧ ∃ f l, f ≤ l ∧ l < 32 ∧ M 82 j = nI f ∧ M 83 j = nI l ∧ ∀ b, b < 32 → bt (M 64 j) b = decide (f ≤ b ∧ b ≤ l)
def Inv (cc : Nat → Cd) (M : Mem) : Prop := (∀ p, p < 4 → IvC p (cc p) M ∧ IvS p (cc p) M ∧ IvF p (cc p) M ∧ IvH p (cc p) M) ∧ IvT M ∧ M 60 5 = M 70 2 ∧ IvE M
theorem cdAt.fr {p : Nat} {c : Cd} {M M' : Mem} (h : cdAt p c M) (hk : ∀ k, 13 * p + 3 ≤ k → k ≤ 13 * p + 7 → M' k = M k) : cdAt p c M' :=
  ⟨by rw [hk _ (by omega) (by omega)]; exact h.1, fun i hi => by
    rw [hk _ (by omega) (by omega), hk _ (by omega) (by omega), hk _ (by omega) (by omega), hk _ (by omega) (by omega)]; exact h.2 i hi⟩
theorem cdM.fr {p : Nat} {c : Cd} {M M' : Mem} (h : cdM p c M) (hk : ∀ k, 72 ≤ k → k ≤ 76 → M' k = M k) : cdM p c M' :=
  ⟨by rw [hk _ (by omega) (by omega)]; exact h.1, fun i hi => by
    rw [hk _ (by omega) (by omega), hk _ (by omega) (by omega), hk _ (by omega) (by omega), hk _ (by omega) (by omega)]; exact h.2 i hi⟩
theorem IvC.fr {p : Nat} {c : Cd} {M M' : Mem} (h : IvC p c M) (hk : ∀ k, (13 * p + 3 ≤ k ∧ k ≤ 13 * p + 7) ∨ k = 13 * p + 14 ∨ (72 ≤ k ∧ k ≤ 76) ∨ k = 78 → M' k = M k) : IvC p c M' :=
  ⟨h.1, h.2.1.fr (fun k a b => hk k (Or.inl ⟨a, b⟩)), h.2.2.1.fr (fun k a b => hk k (Or.inr (Or.inr (Or.inl ⟨a, b⟩)))), fun j hj => by
    rw [hk _ (Or.inr (Or.inl rfl)), hk 78 (by omega)]; exact h.2.2.2 j hj⟩
theorem IvS.fr {p : Nat} {c : Cd} {M M' : Mem} (h : IvS p c M) (hk : ∀ k, k = 13 * p + 8 ∨ k = 13 * p + 9 ∨ k = 13 * p + 10 ∨ k = 13 * p + 12 → M' k = M k) : IvS p c M' := fun z => by
  have e := hk (13 * p + 8) (by omega)
  rw [e] at z
  obtain ⟨A, a, b⟩ := h z
  exact ⟨A, a, b.fr (by rw [e]) (by rw [e]) (hk _ (by omega)) (hk _ (by omega)) (hk _ (by omega))⟩
theorem Nd.fr {p : Nat} {c : Cd} {A : AB} {M M' : Mem} (h : Nd p c A M) (h7 : ∀ j, 64 * p ≤ j → j < 64 * p + 64 → M' 77 j = M 77 j) (h9 : M' 79 p = M 79 p) : Nd p c A M' :=
  ⟨fun ph a b h1 h2 h3 => by rw [h7 _ (by omega) (by omega)]; exact h.1 ph a b h1 h2 h3, fun t ht => by rw [h9]; exact h.2 t ht⟩
theorem IvF.fr {p : Nat} {c : Cd} {M M' : Mem} (h : IvF p c M) (h0 : M' 80 p = M 80 p) (h7 : ∀ j, 64 * p ≤ j → j < 64 * p + 64 → M' 77 j = M 77 j) (h9 : M' 79 p = M 79 p) : IvF p c M' := fun z => by
  rw [h0] at z
  obtain ⟨A, a, b⟩ := h z
  exact ⟨A, a, b.fr h7 h9⟩
theorem IvH.fr {p : Nat} {c : Cd} {M M' : Mem} (h : IvH p c M) (h0 : M' 70 18 = nI p → M 70 18 = nI p ∧ M' 80 p = M 80 p ∧ M' 87 = M 87 ∧ M' 88 = M 88 ∧ M' 89 = M 89) : IvH p c M' := fun z => by
  obtain ⟨a, b, c1, d, e⟩ := h0 z
  obtain ⟨x, A, y, w⟩ := h a
  refine ⟨by rw [b]; exact x, A, y, ?_⟩
  unfold Hd
  rw [c1, d, e]
  exact w
theorem IvT.fr {M M' : Mem} (h : IvT M) (h1 : M' 58 1 = M 58 1) (h2 : M' 70 1 = M 70 1) (h3 : M' 59 = M 59) (h4 : M' 71 = M 71) : IvT M' := by
  unfold IvT
  rw [h1, h2, h3, h4]
  exact h
theorem IvE.fr {M M' : Mem} (h : IvE M) (h1 : M' 62 5 = M 62 5) (h2 : M' 70 12 = M 70 12) (hk : ∀ k, (63 ≤ k ∧ k ≤ 66) ∨ (81 ≤ k ∧ k ≤ 85) → M' k = M k) : IvE M' := by
  unfold IvE
  rw [h1, h2, hk 63 (by omega), hk 64 (by omega), hk 65 (by omega), hk 66 (by omega), hk 81 (by omega), hk 82 (by omega), hk 83 (by omega), hk 84 (by omega), hk 85 (by omega)]
  exact h
/-- cells that hold nothing over a call -/
def Scr (k : Nat) : Prop := k = 55 ∨ k = 56 ∨ k = 57 ∨ k = 60 ∨ k = 61 ∨ k = 67 ∨ k = 68 ∨ k = 69 ∨ k = 70 ∨ k = 86 ∨ k = 90 ∨ k = 91 ∨ k = 92
theorem Inv.fr {cc : Nat → Cd} {M M' : Mem} (h : Inv cc M) (hk : ∀ k, ¬ Scr k → M' k = M k) (h60 : M' 60 5 = M 60 5) (h70 : ∀ f, f = 1 ∨ f = 2 ∨ f = 12 ∨ f = 18 → M' 70 f = M 70 f) : Inv cc M' := by
  unfold Scr at hk
  obtain ⟨hP, hT, hN, hE⟩ := h
  refine ⟨fun p hp => ?_, hT.fr (by rw [hk 58 (by omega)]) (h70 1 (by omega)) (hk 59 (by omega)) (hk 71 (by omega)), by rw [h60, h70 2 (by omega)]; exact hN, hE.fr (by rw [hk 62 (by omega)]) (h70 12 (by omega)) (fun k q => hk k (by omega))⟩
  obtain ⟨a, b, c, d⟩ := hP p hp
  refine ⟨a.fr (fun k q => hk k (by omega)), b.fr (fun k q => hk k (by omega)), c.fr (by rw [hk 80 (by omega)]) (fun j _ _ => by rw [hk 77 (by omega)]) (by rw [hk 79 (by omega)]), d.fr (fun z => ?_)⟩
  rw [h70 18 (by omega)] at z
  exact ⟨z, by rw [hk 80 (by omega)], hk 87 (by omega), hk 88 (by omega), hk 89 (by omega)⟩
/-- what a search of the class leaves -/
def mZ (p : Nat) (M M' : Mem) : Prop := ∀ k, k ≠ 13 * p + 8 → k ≠ 13 * p + 9 → k ≠ 13 * p + 10 → k ≠ 13 * p + 12 → k ≠ 55 → k ≠ 56 → k ≠ 57 → M' k = M k
theorem iv_search {fu : Nat} (hfu : 51200 < fu) {cc : Nat → Cd} {M : Mem} (h : Inv cc M) {p : Nat} (hp : p < 4) :
    ∃ M', f_X4_searched fu p M = some (0, M') ∧ Inv cc M' ∧ mZ p M M' ∧ ∃ A, FA (cc p) A ∧ Sx p (cc p) A M' := by
  obtain ⟨hP, hT, hN, hE⟩ := id h
  obtain ⟨a, b, -, -⟩ := hP p hp
  by_cases z : M (13 * p + 8) 8 = 0
  · exact ⟨M, by unfold f_X4_searched; rw [if_pos z], h, fun _ _ _ _ _ _ _ _ => rfl, b z⟩
  · obtain ⟨M', e, hk, h8, hF⟩ := srch_spec (fu := fu) hp (by omega) a.1 a.2.1 z
    obtain ⟨A, hA, hS⟩ := hF.Sx
    refine ⟨M', e, ⟨fun q hq => ?_, hT.fr (by rw [hk 58 (by omega) (by omega) (by omega) (by omega) (by omega) (by omega) (by omega)]) (by rw [hk 70 (by omega) (by omega) (by omega) (by omega) (by omega) (by omega) (by omega)]) (hk 59 (by omega) (by omega) (by omega) (by omega) (by omega) (by omega) (by omega)) (hk 71 (by omega) (by omega) (by omega) (by omega) (by omega) (by omega) (by omega)), ?_, hE.fr (by rw [hk 62 (by omega) (by omega) (by omega) (by omega) (by omega) (by omega) (by omega)]) (by rw [hk 70 (by omega) (by omega) (by omega) (by omega) (by omega) (by omega) (by omega)]) (fun k w => hk k (by omega) (by omega) (by omega) (by omega) (by omega) (by omega) (by omega))⟩, hk, A, hA, hS⟩
    · obtain ⟨a', b', c', d'⟩ := hP q hq
      refine ⟨a'.fr (fun k w => hk k (by omega) (by omega) (by omega) (by omega) (by omega) (by omega) (by omega)), ?_, c'.fr (by rw [hk 80 (by omega) (by omega) (by omega) (by omega) (by omega) (by omega) (by omega)]) (fun j _ _ => by rw [hk 77 (by omega) (by omega) (by omega) (by omega) (by omega) (by omega) (by omega)]) (by rw [hk 79 (by omega) (by omega) (by omega) (by omega) (by omega) (by omega) (by omega)]), d'.fr (fun w => ⟨?_, ?_, hk 87 (by omega) (by omega) (by omega) (by omega) (by omega) (by omega) (by omega), hk 88 (by omega) (by omega) (by omega) (by omega) (by omega) (by omega) (by omega), hk 89 (by omega) (by omega) (by omega) (by omega) (by omega) (by omega) (by omega)⟩)⟩
      · by_cases e2 : q = p
        · subst e2; exact fun _ => ⟨A, hA, hS⟩
        · exact b'.fr (fun k w => hk k (by omega) (by omega) (by omega) (by omega) (by omega) (by omega) (by omega))
      · rw [hk 70 (by omega) (by omega) (by omega) (by omega) (by omega) (by omega) (by omega)] at w; exact w
      · rw [hk 80 (by omega) (by omega) (by omega) (by omega) (by omega) (by omega) (by omega)]
    · rw [hk 60 (by omega) (by omega) (by omega) (by omega) (by omega) (by omega) (by omega), hk 70 (by omega) (by omega) (by omega) (by omega) (by omega) (by omega) (by omega)]; exact hN
/-- what a question to the reference's search leaves -/
def mY (M M' : Mem) : Prop := (∀ k, k ≠ 70 → k ≠ 77 → k ≠ 79 → k ≠ 80 → k ≠ 86 → k ≠ 87 → k ≠ 88 → k ≠ 89 → k ≠ 90 → M' k = M k) ∧ ∀ f, f ≠ 18 → f ≠ 23 → f ≠ 24 → f ≠ 26 → M' 70 f = M 70 f
theorem mY.rf (M : Mem) : mY M M := ⟨fun _ _ _ _ _ _ _ _ _ _ => rfl, fun _ _ _ _ _ => rfl⟩
theorem mY.tr {M M' M'' : Mem} (h : mY M M') (h' : mY M' M'') : mY M M'' := ⟨fun k a b c d e f g i j => (h'.1 k a b c d e f g i j).trans (h.1 k a b c d e f g i j), fun f a b c d => (h'.2 f a b c d).trans (h.2 f a b c d)⟩
theorem mX.y {p : Nat} {M M' : Mem} (h : mX p M M') : mY M M' := ⟨h.1, h.2.1⟩
theorem iv_works {fu : Nat} (hfu : 51200 < fu) {cc : Nat → Cd} {M : Mem} (h : Inv cc M) {p : Nat} (hp : p < 4) :
    ∃ M', f_X9_works fu (nI p) M = some (0, M') ∧ Inv cc M' ∧ mY M M' ∧ ∃ A, FA (cc p) A ∧ Nd p (cc p) A M' ∧ Hd A M' := by
  obtain ⟨hP, hT, hN, hE⟩ := id h
  obtain ⟨a, b, c, d⟩ := hP p hp
  by_cases z : M 70 18 = nI p
  · obtain ⟨w, A, hA, hH⟩ := d z
    obtain ⟨B, hB, hD⟩ := c w
    rw [← hA.one hB] at hD
    exact ⟨M, by unfold f_X9_works; rw [if_pos z], h, mY.rf M, A, hA, hD, hH⟩
  · obtain ⟨M', A, e, hA, hD, hH, hX, e1, e2⟩ := works_spec hp hfu a.1 a.2.2.1 z
    obtain ⟨x1, x2, x3, x4, x5⟩ := id hX
    have g : ∀ k, (k < 70 ∨ (71 ≤ k ∧ k ≤ 76) ∨ k = 78 ∨ (81 ≤ k ∧ k ≤ 85)) → M' k = M k := fun k w => x1 k (by omega) (by omega) (by omega) (by omega) (by omega) (by omega) (by omega) (by omega) (by omega)
    refine ⟨M', e, ⟨fun q hq => ?_, hT.fr (by rw [g 58 (by omega)]) (x2 1 (by omega) (by omega) (by omega) (by omega)) (g 59 (by omega)) (g 71 (by omega)), by rw [g 60 (by omega), x2 2 (by omega) (by omega) (by omega) (by omega)]; exact hN, hE.fr (by rw [g 62 (by omega)]) (x2 12 (by omega) (by omega) (by omega) (by omega)) (fun k w => g k (by omega))⟩, hX.y, A, hA, hD, hH⟩
    obtain ⟨a', b', c', d'⟩ := hP q hq
    refine ⟨a'.fr (fun k w => g k (by omega)), b'.fr (fun k w => g k (by omega)), ?_, ?_⟩
    · by_cases e3 : q = p
      · subst e3; exact fun _ => ⟨A, hA, hD⟩
      · exact c'.fr (x5 q e3) (fun j j1 j2 => x3 j (by omega)) (x4 q e3)
    · by_cases e3 : q = p
      · subst e3
        exact fun _ => ⟨by rw [e2]; decide, A, hA, hH⟩
      · intro w
        rw [e1, nI_eq (by omega) (by omega)] at w
        exact absurd w.symm e3
theorem iv_knows {fu : Nat} (hfu : 51200 < fu) {cc : Nat → Cd} {M : Mem} (h : Inv cc M) {p : Nat} (hp : p < 4) :
    ∃ M', f_X9_knows fu (nI p) M = some (0, M') ∧ Inv cc M' ∧ mY M M' ∧ ∃ A, FA (cc p) A ∧ Nd p (cc p) A M' := by
  unfold f_X9_knows
  rw [ixT hp (by omega), if_pos rfl, nI_clamp (by omega)]
  by_cases z : M 80 p = 0
  · obtain ⟨M', e, i, y, A, hA, hD, -⟩ := iv_works hfu h hp
    rw [if_pos z, e, bnd_some]
    exact ⟨M', rfl, i, y, A, hA, hD⟩
  · rw [if_neg z]
    exact ⟨M, rfl, h, mY.rf M, (h.1 p hp).2.2.1 z⟩
theorem iv_need {fu : Nat} (hfu : 51200 < fu) {cc : Nat → Cd} {M : Mem} (h : Inv cc M) {p ph d : Nat} (hp : p < 4) (h1 : ph < 2) (h2 : d < 32) :
    ∃ M', f_X9_needOf fu (nI p) (nI ph) (nI d) M = some (nv (cc p) ph d, M') ∧ Inv cc M' ∧ mY M M' := by
  obtain ⟨M', e, i, y, A, hA, hD⟩ := iv_knows hfu h hp
  refine ⟨M', ?_, i, y⟩
  unfold f_X9_needOf nm
  dsimp only
  rw [e, bnd_some, c64, c32, pk_mul, pk_mul, nI_add, nI_add, ixT (by omega) (by omega), if_pos rfl, nI_clamp (by omega), nd_nv hA hD h1 h2]
theorem iv_args {cc : Nat → Cd} {M : Mem} {p ph d : Nat} {A : AB} (hA : FA (cc p) A) (hS : Sx p (cc p) A M) (h1 : ph < 2) (h2 : d < 32) :
    f_X0_arguments (13 * p + 11) (nI ph) (nI d) M = some (nv (cc p) ph d, M) := by
  rw [e_args h1 h2, show 13 * p + 11 + 1 = 13 * p + 12 by omega, sx_nv hA hS h1 h2]
/-! arguments in their bounds -/
theorem sh_no {x : Int32} {n : Nat} {α : Type} {a b : α} (h : x < 0 ∨ nI n ≤ x) : (if x < 0 then a else if nI n ≤ x then a else b) = a := by
  by_cases z : x < 0
  · rw [if_pos z]
  · rw [if_neg z, if_pos (h.resolve_left z)]
theorem sh_yes {p n : Nat} {α : Type} {a b : α} (hp : p < n) (hn : n < 2 ^ 31) : (if nI p < 0 then a else if nI n ≤ nI p then a else b) = b := by
  rw [if_neg (nI_pos (by omega)), if_neg (nI_ge hp hn)]
theorem li_no {x : Int32} {n : Nat} (hn : n + 1 < 2 ^ 31) (h : x < 0 ∨ nI (n + 1) ≤ x) (M : Mem) : f_X9_lies x 0 (nI n) M = some (0, M) := by
  unfold f_X9_lies
  by_cases z : x < 0
  · rw [if_pos z]
  · have h' := h.resolve_left z
    rw [if_neg z, if_pos (by rw [Int32.lt_iff_toInt_lt, nI_toInt (by omega)]; rw [Int32.le_iff_toInt_le, nI_toInt (by omega)] at h'; omega)]
theorem li_yes {p n : Nat} (hp : p ≤ n) (hn : n < 2 ^ 31) (M : Mem) : f_X9_lies (nI p) 0 (nI n) M = some (1, M) := by
  unfold f_X9_lies
  rw [if_neg (nI_pos (by omega)), if_neg (nI_nlt hp hn)]
theorem p8_no {x : Int32} (h : x < 0 ∨ nI 4 ≤ x) (M : Mem) : f_X8_isProgram x M = some (0, M) := sh_no (n := 4) h
theorem p8_yes {p : Nat} (h : p < 4) (M : Mem) : f_X8_isProgram (nI p) M = some (1, M) := sh_yes (n := 4) h (by omega)
theorem ph8_no {x : Int32} (h : x < 0 ∨ nI 2 ≤ x) (M : Mem) : f_X8_isPhase x M = some (0, M) := sh_no (n := 2) h
theorem ph8_yes {p : Nat} (h : p < 2) (M : Mem) : f_X8_isPhase (nI p) M = some (1, M) := sh_yes (n := 2) h (by omega)
theorem v8_no {x : Int32} (h : x < 0 ∨ nI 32 ≤ x) (M : Mem) : f_X8_isValue x M = some (0, M) := sh_no (n := 32) h
theorem v8_yes {p : Nat} (h : p < 32) (M : Mem) : f_X8_isValue (nI p) M = some (1, M) := sh_yes (n := 32) h (by omega)
theorem s8_no {x : Int32} (h : x < 0 ∨ nI 16 ≤ x) (M : Mem) : f_X8_isSet x M = some (0, M) := sh_no (n := 16) h
theorem s8_yes {p : Nat} (h : p < 16) (M : Mem) : f_X8_isSet (nI p) M = some (1, M) := sh_yes (n := 16) h (by omega)
theorem w8_no {x : Int32} (h : x < 0 ∨ nI 8 ≤ x) (M : Mem) : f_X8_isPower x M = some (0, M) := sh_no (n := 8) h
theorem w8_yes {p : Nat} (h : p < 8) (M : Mem) : f_X8_isPower (nI p) M = some (1, M) := sh_yes (n := 8) h (by omega)
theorem q8_no {x : Int32} (h : x < 0 ∨ nI 256 ≤ x) (M : Mem) : f_X8_isPowers x M = some (0, M) := sh_no (n := 256) h
theorem q8_yes {p : Nat} (h : p < 256) (M : Mem) : f_X8_isPowers (nI p) M = some (1, M) := sh_yes (n := 256) h (by omega)
theorem p9_no {x : Int32} (h : x < 0 ∨ nI 4 ≤ x) (M : Mem) : f_X9_isProgram x M = some (0, M) := by
  unfold f_X9_isProgram
  rw [c3, li_no (n := 3) (by omega) h, bnd_some]
  exact if_pos rfl
theorem p9_yes {p : Nat} (h : p < 4) (M : Mem) : f_X9_isProgram (nI p) M = some (1, M) := by
  unfold f_X9_isProgram
  rw [c3, li_yes (by omega) (by omega), bnd_some]
  exact if_pos rfl
theorem s9_no {x : Int32} (h : x < 0 ∨ nI 16 ≤ x) (M : Mem) : f_X9_isSet x M = some (0, M) := by
  unfold f_X9_isSet
  rw [c15, li_no (n := 15) (by omega) h, bnd_some]
  exact if_pos rfl
theorem s9_yes {p : Nat} (h : p < 16) (M : Mem) : f_X9_isSet (nI p) M = some (1, M) := by
  unfold f_X9_isSet
  rw [c15, li_yes (by omega) (by omega), bnd_some]
  exact if_pos rfl
theorem c10n : (1 : Int32) = 0 ↔ False := by decide
theorem pl9_no1 {x y : Int32} (h : x < 0 ∨ nI 2 ≤ x) (M : Mem) : f_X9_isPlace x y M = some (0, M) := by
  unfold f_X9_isPlace
  rw [c1, li_no (n := 1) (by omega) h, bnd_some]
  exact if_pos rfl
theorem pl9_no2 {p : Nat} (hp : p < 2) {y : Int32} (h : y < 0 ∨ nI 32 ≤ y) (M : Mem) : f_X9_isPlace (nI p) y M = some (0, M) := by
  unfold f_X9_isPlace
  have e1 : f_X9_lies (nI p) 0 1 M = some (1, M) := li_yes (n := 1) (by omega) (by omega) M
  have e2 : f_X9_lies y 0 31 M = some (0, M) := li_no (n := 31) (by omega) h M
  rw [e1, bnd_some, if_neg (by decide), e2, bnd_some, if_pos rfl]
theorem pl9_yes {p d : Nat} (hp : p < 2) (hd : d < 32) (M : Mem) : f_X9_isPlace (nI p) (nI d) M = some (1, M) := by
  unfold f_X9_isPlace
  have e1 : f_X9_lies (nI p) 0 1 M = some (1, M) := li_yes (n := 1) (by omega) (by omega) M
  have e2 : f_X9_lies (nI d) 0 31 M = some (1, M) := li_yes (n := 31) (by omega) (by omega) M
  rw [e1, bnd_some, if_neg (by decide), e2, bnd_some, if_neg (by decide)]
/-- two calls that answer alike, and keep what is held in common -/
def Sm (f8 f9 : Mem → Option (Int32 × Mem)) : Prop := ∀ cc M, Inv cc M → ∃ r M1 M2 cc', f8 M = some (r, M1) ∧ f9 M1 = some (r, M2) ∧ Inv cc' M2
theorem Sm.same {f8 f9 : Mem → Option (Int32 × Mem)} {cc : Nat → Cd} {M : Mem} (h : Inv cc M) (r : Int32) (h8 : f8 M = some (r, M)) (h9 : f9 M = some (r, M)) : ∃ r M1 M2 cc', f8 M = some (r, M1) ∧ f9 M1 = some (r, M2) ∧ Inv cc' M2 := ⟨r, M, M, cc, h8, h9, h⟩
