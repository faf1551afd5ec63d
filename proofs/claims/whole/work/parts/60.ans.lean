/-! What the class answers out of a search that is through. -/
theorem abS_stay {c : Cd} {i : Nat} (h : (abS c i).1 ≤ i) : ∀ d, abS c (i + d) = abS c i := by
  intro d
  induction d with
  | zero => rfl
  | succ d ih =>
    have e : abS c (i + (d + 1)) = abS c (i + d) := by
      show (if i + d < (abS c (i + d)).1 then stpG c (abS c (i + d)) (i + d) else abS c (i + d)) = _
      rw [if_neg (by rw [ih]; omega)]
    rw [e, ih]
/-- the groups of a search that is through -/
def FA (c : Cd) (A : AB) : Prop := ∃ i, abS c i = A ∧ A.1 = i
theorem FA.one {c : Cd} {A B : AB} (hA : FA c A) (hB : FA c B) : A = B := by
  obtain ⟨i, rfl, hi⟩ := hA
  obtain ⟨j, rfl, hj⟩ := hB
  rcases Nat.le_total i j with h | h
  · have := abS_stay (c := c) (i := i) (by omega) (j - i)
    rw [show i + (j - i) = j by omega] at this
    exact this.symm
  · have := abS_stay (c := c) (i := j) (by omega) (i - j)
    rw [show j + (i - j) = i by omega] at this
    exact this
theorem FA.inv {c : Cd} (hc : cdOk c) {A : AB} (h : FA c A) : abI c A A.1 A.1 := by
  obtain ⟨i, rfl, hi⟩ := h
  rw [hi]
  exact abS_inv hc i (by omega)
/-- a group that makes a call -/
def CG (c : Cd) (A : AB) (ph d b g : Nat) : Prop := g < A.1 ∧ A.2.1 g < c.1 ∧ c.2.1 (A.2.1 g) = 7 ∧ A.2.2.2 g ph d b
def CG1 (c : Cd) (A : AB) (ph d b g : Nat) : Prop := CG c A ph d b g ∧ ∀ g', g' < g → ¬ CG c A ph d b g'
/-- what the answers need of a search: nothing of the scratch rows -/
def mS (pp : Nat) (c : Cd) (M : Mem) (s : Nat) (L : Nat → Nat) (Q : Nat → Int32) (_o : Nat) : Prop :=
  True ∧ M (13 * pp + 8) 5 = nI s ∧ s ≤ 49152 ∧ (∀ j, j < s → M (13 * pp + 9) j = nI (L j) ∧ L j < 201326592 ∧ True ∧ ¬ Q j = 0 ∧ L j / 32 % 32 < c.1) ∧ True ∧ True ∧ True ∧
  (∀ t, t < 32 → (bt (M (13 * pp + 8) 6) t = true ↔ ∃ j, j < s ∧ L j / 32 % 32 = t)) ∧
  (∀ j j' b, j < s → j' < s → b < 32 → L j / 32 % 32 = L j' / 32 % 32 → L j / 1024 % 2 = L j' / 1024 % 2 → L j % 32 = L j' % 32 → bt (Q j) b = true → bt (Q j') b = true → j = j')
theorem mR.s {pp : Nat} {c : Cd} {M : Mem} {s : Nat} {L : Nat → Nat} {Q : Nat → Int32} {o : Nat} (h : mR pp c M s L Q o) : mS pp c M s L Q o := by
  obtain ⟨h0, h1, h2, h3, h4, h5, h6, h7, h8⟩ := h
  exact ⟨trivial, h1, h2, fun j hj => ⟨(h3 j hj).1, (h3 j hj).2.1, trivial, (h3 j hj).2.2.2⟩, trivial, trivial, trivial, h7, h8⟩
/-- a searched program, as the class holds it -/
def Sx (pp : Nat) (c : Cd) (A : AB) (M : Mem) : Prop := ∃ blk s L Q o, CI c A blk s L Q ∧ mS pp c M s L Q o ∧ rV pp c M s L Q
theorem Fin.Sx {pp : Nat} {c : Cd} {M : Mem} (h : Fin pp c M) : ∃ A, FA c A ∧ Sx pp c A M := by
  obtain ⟨i, blk, s, L, Q, o, hi, hC, hR, hr⟩ := h
  exact ⟨abS c i, ⟨i, rfl, hi⟩, blk, s, L, Q, o, hC, hR.s, hr⟩
theorem Sx.fr {pp : Nat} {c : Cd} {A : AB} {M M' : Mem} (h : Sx pp c A M) (h5 : M' (13 * pp + 8) 5 = M (13 * pp + 8) 5) (h6 : M' (13 * pp + 8) 6 = M (13 * pp + 8) 6) (h9 : M' (13 * pp + 9) = M (13 * pp + 9)) (h10 : M' (13 * pp + 10) = M (13 * pp + 10)) (h12 : M' (13 * pp + 12) = M (13 * pp + 12)) : Sx pp c A M' := by
  obtain ⟨blk, s, L, Q, o, hC, hR, hr⟩ := h
  refine ⟨blk, s, L, Q, o, hC, ?_, ?_⟩
  · unfold mS
    rw [h5, h6, h9]
    exact hR
  · unfold rV
    rw [h10, h12]
    exact hr
theorem sx_rows {pp : Nat} {c : Cd} {A : AB} {M : Mem} (h : Sx pp c A M) {ph d b : Nat} (h1 : ph < 2) (h2 : d < 32) (h3 : b < 32) : bt (M (13 * pp + 12) (32 * ph + d)) b = true ↔ ∃ g, CG c A ph d b g := by
  obtain ⟨blk, s, L, Q, o, ⟨i0, i1, i2, i3, i4⟩, hR, hr⟩ := h
  rw [hr.1 ph d b h1 h2 h3]
  constructor
  · rintro ⟨j, hj, z1, z2, z3, z4⟩
    have l5 := (hR.2.2.2.1 j hj).2.2.2.2
    rw [← i1] at hj
    obtain ⟨g, g1, g2, g3⟩ := blk_find i0 A.1 j hj
    have q := (i3 g j g1 g2 g3).1
    rw [q] at z1 l5
    exact ⟨g, g1, l5, z1, (i4 g ph d b g1 l5 h1 h2 h3).mpr ⟨j, g2, g3, z2, z3, z4⟩⟩
  · rintro ⟨g, g1, g2, g3, g4⟩
    obtain ⟨j, z1, z2, z3, z4, z5⟩ := (i4 g ph d b g1 g2 h1 h2 h3).mp g4
    have m := blk_mono (fun g hg => (i2 g hg).1) (A.1 - (g + 1)) (g + 1) (by omega)
    rw [show g + 1 + (A.1 - (g + 1)) = A.1 by omega, i1] at m
    exact ⟨j, by omega, by rw [(i3 g j g1 z1 z2).1]; exact g3, z3, z4, z5⟩
theorem sx_come {pp : Nat} {c : Cd} {A : AB} {M : Mem} (h : Sx pp c A M) {t : Nat} (ht : t < c.1) (h24 : c.1 ≤ 24) : bt (M (13 * pp + 8) 6) t = true ↔ ∃ g, g < A.1 ∧ A.2.1 g = t := by
  obtain ⟨blk, s, L, Q, o, ⟨i0, i1, i2, i3, i4⟩, hR, hr⟩ := h
  rw [hR.2.2.2.2.2.2.2.1 t (by omega)]
  constructor
  · rintro ⟨j, hj, z⟩
    rw [← i1] at hj
    obtain ⟨g, g1, g2, g3⟩ := blk_find i0 A.1 j hj
    exact ⟨g, g1, by rw [← (i3 g j g1 g2 g3).1]; exact z⟩
  · rintro ⟨g, g1, g2⟩
    have hlt := (i2 g g1).2.1 (by omega)
    have m := blk_mono (fun g hg => (i2 g hg).1) (A.1 - (g + 1)) (g + 1) (by omega)
    rw [show g + 1 + (A.1 - (g + 1)) = A.1 by omega, i1] at m
    exact ⟨blk g, by omega, by rw [(i3 g _ g1 (Nat.le_refl _) hlt).1]; exact g2⟩
/-- the first item of a call lies in the first group that makes it -/
theorem sx_first {pp : Nat} {c : Cd} {A : AB} {M : Mem} {blk : Nat → Nat} {s : Nat} {L : Nat → Nat} {Q : Nat → Int32} {o : Nat} (hC : CI c A blk s L Q) (hR : mS pp c M s L Q o) (hr : rV pp c M s L Q) {ph d b : Nat} (h1 : ph < 2) (h2 : d < 32) (h3 : b < 32) (hb : bt (M (13 * pp + 12) (32 * ph + d)) b = true) :
    ∃ j g, M (13 * pp + 10) ((ph * 32 + d) * 32 + b) = nI j ∧ j < s ∧ CG1 c A ph d b g ∧ blk g ≤ j ∧ j < blk (g + 1) := by
  obtain ⟨i0, i1, i2, i3, i4⟩ := hC
  obtain ⟨j, hj, ⟨z1, z2, z3, z4⟩, hmin, hM⟩ := hr.2 ph d b h1 h2 h3 hb
  have l5 := (hR.2.2.2.1 j hj).2.2.2.2
  have hj' := hj
  rw [← i1] at hj'
  obtain ⟨g, g1, g2, g3⟩ := blk_find i0 A.1 j hj'
  have q := (i3 g j g1 g2 g3).1
  rw [q] at z1 l5
  refine ⟨j, g, hM, hj, ⟨⟨g1, l5, z1, (i4 g ph d b g1 l5 h1 h2 h3).mpr ⟨j, g2, g3, z2, z3, z4⟩⟩, fun g' hg' y => ?_⟩, g2, g3⟩
  obtain ⟨y1, y2, y3, y4⟩ := y
  obtain ⟨j', w1, w2, w3, w4, w5⟩ := (i4 g' ph d b y1 y2 h1 h2 h3).mp y4
  have m := blk_mono (fun g hg => (i2 g hg).1) (g - (g' + 1)) (g' + 1) (by omega)
  rw [show g' + 1 + (g - (g' + 1)) = g by omega] at m
  exact hmin j' (by omega) ⟨by rw [(i3 g' j' y1 w1 w2).1]; exact y3, w3, w4, w5⟩
/-- group 0 has one item -/
theorem sx_zero {pp : Nat} {c : Cd} (hc : cdOk c) {A : AB} (hI : abI c A A.1 A.1) {M : Mem} {blk : Nat → Nat} {s : Nat} {L : Nat → Nat} {Q : Nat → Int32} {o : Nat} (hC : CI c A blk s L Q) (hR : mS pp c M s L Q o) {j : Nat} (hj : j < blk 1) : j = 0 := by
  obtain ⟨i0, i1, i2, i3, i4⟩ := hC
  have hA := hI.1
  have m := blk_mono (fun g hg => (i2 g hg).1) (A.1 - 1) 1 (by omega)
  rw [show 1 + (A.1 - 1) = A.1 by omega, i1] at m
  have st : ∀ k, k < blk 1 → L k / 1024 % 2 = 0 ∧ L k % 32 = 0 ∧ bt (Q k) 0 = true := by
    intro k hk
    obtain ⟨b, hb, hq⟩ := nz_bt (hR.2.2.2.1 k (by omega)).2.2.2.1
    have l5 := (hR.2.2.2.1 k (by omega)).2.2.2.2
    rw [(i3 0 k hA (by omega) hk).1] at l5
    have := (i4 0 (L k / 1024 % 2) (L k % 32) b hA l5 (Nat.mod_lt _ (by decide)) (Nat.mod_lt _ (by decide)) hb).mpr ⟨k, by omega, hk, rfl, rfl, hq⟩
    obtain ⟨x1, x2, x3⟩ := (hI.2.2.2.2.2.2.2.2.2 _ _ _).mp this
    rw [x3] at hq
    exact ⟨x1, x2, hq⟩
  obtain ⟨x1, x2, x3⟩ := st j hj
  obtain ⟨y1, y2, y3⟩ := st 0 (by omega)
  have e1 := (i3 0 j hA (by omega) hj).1
  have e2 := (i3 0 0 hA (by omega) (show 0 < blk 1 by omega)).1
  exact hR.2.2.2.2.2.2.2.2 j 0 0 (by omega) (by omega) (by omega) (by omega) (by omega) (by omega) x3 y3
theorem e_par {pp : Nat} {M : Mem} {j x : Nat} (hj : j < 49152) (hM : M (13 * pp + 9) j = nI x) (hx : x < 201326592) : f_X4_parent pp (nI j) M = some (nI (x / 4096), M) := by
  unfold f_X4_parent
  rw [ixT hj (by omega), if_pos rfl, nI_clamp (by omega), hM, lk_par (by omega)]
theorem len_L {pp : Nat} {c : Cd} (hc : cdOk c) {A : AB} (hI : abI c A A.1 A.1) {M : Mem} {blk : Nat → Nat} {s : Nat} {L : Nat → Nat} {Q : Nat → Int32} {o : Nat} (hC : CI c A blk s L Q) (hR : mS pp c M s L Q o) (kk : Mem → Int32 → Int32 → Option (Int32 × Mem)) :
    ∀ j g len f, g < A.1 → blk g ≤ j → j < blk (g + 1) → j < f → dep A g ≤ j ∧ (len + j ≤ 49152 → ∃ y, f_X4_lengthTo_L34 pp kk f M (nI len) (nI j) = kk M (nI (len + dep A g)) y) := by
  obtain ⟨i0, i1, i2, i3, i4⟩ := id hC
  have hs2 := hR.2.2.1
  have hpr : ∀ g, 0 < g → g < A.1 → A.2.2.1 g < g := fun g a b => (hI.2.2.2.2.1 g a b).1
  intro j
  induction j using Nat.strongRecOn with
  | _ j ih =>
    intro g len f hg g1 g2 hf
    obtain ⟨f', rfl⟩ : ∃ f', f = f' + 1 := ⟨f - 1, by omega⟩
    have m := blk_mono (fun g hg => (i2 g hg).1) (A.1 - (g + 1)) (g + 1) (by omega)
    rw [show g + 1 + (A.1 - (g + 1)) = A.1 by omega, i1] at m
    by_cases hg0 : g = 0
    · subst hg0
      obtain rfl : j = 0 := sx_zero hc hI hC hR g2
      refine ⟨by rw [dep_0]; exact Nat.le_refl _, fun hl => ⟨nI 0, ?_⟩⟩
      rw [f_X4_lengthTo_L34, if_pos (by decide), dep_0]
      rfl
    · obtain ⟨x1, x2, x3, -⟩ := i3 g j hg g1 g2
      obtain ⟨x4, x5⟩ := x3 (by omega)
      have hp1 := hpr g (by omega) hg
      have mm := blk_mono (fun g hg => (i2 g hg).1) (g - (A.2.2.1 g + 1)) (A.2.2.1 g + 1) (by omega)
      rw [show A.2.2.1 g + 1 + (g - (A.2.2.1 g + 1)) = g by omega] at mm
      obtain ⟨l1, l2, -⟩ := hR.2.2.2.1 j (by omega)
      obtain ⟨y1, y2⟩ := ih (L j / 4096) (by omega) (A.2.2.1 g) (len + 1) f' (by omega) x4 x5 (by omega)
      rw [dep_s hpr (by omega) hg]
      refine ⟨by omega, fun hl => ?_⟩
      obtain ⟨y, e⟩ := y2 (by omega)
      refine ⟨y, ?_⟩
      rw [f_X4_lengthTo_L34, if_neg (nI_nle (by omega) (by omega)), if_neg (by rw [c49152]; exact nI_ge (by omega) (by omega)), e_par (by omega) l1 l2, bnd_some, nI_1, e]
      rw [show len + 1 + dep A (A.2.2.1 g) = len + (dep A (A.2.2.1 g) + 1) by omega]
theorem upG_lt {A : AB} (hpr : ∀ g, 0 < g → g < A.1 → A.2.2.1 g < g) : ∀ k g, g < A.1 → k ≤ dep A g → upG A k g < A.1 ∧ dep A (upG A k g) = dep A g - k := by
  intro k
  induction k with
  | zero => intro g hg _; exact ⟨hg, rfl⟩
  | succ k ih =>
    intro g hg hk
    have h0 : 0 < g := by
      rcases Nat.eq_zero_or_pos g with z | z
      · rw [z, dep_0] at hk; omega
      · exact z
    have h1 := hpr g h0 hg
    have h2 := dep_s hpr h0 hg
    obtain ⟨a, b⟩ := ih (A.2.2.1 g) (by omega) (by omega)
    exact ⟨a, by show dep A (upG A k (A.2.2.1 g)) = _; omega⟩
theorem ins_L {pp : Nat} {c : Cd} {A : AB} (hI : abI c A A.1 A.1) {M : Mem} {blk : Nat → Nat} {s : Nat} {L : Nat → Nat} {Q : Nat → Int32} {o : Nat} (hC : CI c A blk s L Q) (hR : mS pp c M s L Q o) (i : Nat) (kk : Mem → Int32 → Int32 → Option (Int32 × Mem)) :
    ∀ d j g f, g < A.1 → blk g ≤ j → j < blk (g + 1) → d < f → d ≤ dep A g → i + d < 2 ^ 31 → ∃ j' y, f_X4_instructionTo_L42 pp (nI i) kk f M (nI j) (nI (i + d)) = kk M (nI j') y ∧ blk (upG A d g) ≤ j' ∧ j' < blk (upG A d g + 1) := by
  obtain ⟨i0, i1, i2, i3, i4⟩ := id hC
  have hs2 := hR.2.2.1
  have hpr : ∀ g, 0 < g → g < A.1 → A.2.2.1 g < g := fun g a b => (hI.2.2.2.2.1 g a b).1
  intro d
  induction d with
  | zero =>
    intro j g f hg g1 g2 hf _ _
    obtain ⟨f', rfl⟩ : ∃ f', f = f' + 1 := ⟨f - 1, by omega⟩
    rw [f_X4_instructionTo_L42, if_pos (nI_le (by omega) (by omega))]
    exact ⟨j, _, rfl, g1, g2⟩
  | succ d ih =>
    intro j g f hg g1 g2 hf hd hb
    obtain ⟨f', rfl⟩ : ∃ f', f = f' + 1 := ⟨f - 1, by omega⟩
    have h0 : 0 < g := by
      rcases Nat.eq_zero_or_pos g with z | z
      · rw [z, dep_0] at hd; omega
      · exact z
    have m := blk_mono (fun g hg => (i2 g hg).1) (A.1 - (g + 1)) (g + 1) (by omega)
    rw [show g + 1 + (A.1 - (g + 1)) = A.1 by omega, i1] at m
    obtain ⟨l1, l2, -⟩ := hR.2.2.2.1 j (by omega)
    obtain ⟨x4, x5⟩ := (i3 g j hg g1 g2).2.2.1 h0
    have h1 := hpr g h0 hg
    have h2 := dep_s hpr h0 hg
    rw [f_X4_instructionTo_L42, if_neg (nI_ge (by omega) (by omega)), e_par (by omega) l1 l2, bnd_some, show i + (d + 1) = i + d + 1 by omega, pk_m1]
    exact ih (L j / 4096) (A.2.2.1 g) f' (by omega) x4 x5 (by omega) (by omega) (by omega)
/-- steps(): how long the way is -/
theorem sx_len {pp fu : Nat} (hfu : 49152 < fu) {c : Cd} (hc : cdOk c) {A : AB} (hI : abI c A A.1 A.1) {M : Mem} (h : Sx pp c A M) {ph d b : Nat} (h1 : ph < 2) (h2 : d < 32) (h3 : b < 32) :
    (∀ g, CG1 c A ph d b g → f_X4_lengthTo fu pp (nI ph) (nI d) (nI b) M = some (nI (dep A g + 1), M) ∧ dep A g < 49152) ∧ ((¬ ∃ g, CG c A ph d b g) → f_X4_lengthTo fu pp (nI ph) (nI d) (nI b) M = some (-1, M)) := by
  have hrow := sx_rows h h1 h2 h3
  obtain ⟨blk, s, L, Q, o, hC, hR, hr⟩ := h
  have hs2 := hR.2.2.1
  unfold f_X4_lengthTo
  rw [e_args h1 h2, bnd_some, show 13 * pp + 11 + 1 = 13 * pp + 12 by omega, e_holds _ h3, bnd_some]
  constructor
  · intro g hg
    have hb : bt (M (13 * pp + 12) (32 * ph + d)) b = true := hrow.mpr ⟨g, hg.1⟩
    obtain ⟨j, g', hM, hj, hg', w1, w2⟩ := sx_first hC hR hr h1 h2 h3 hb
    have eg : g' = g := by
      rcases Nat.lt_trichotomy g' g with z | z | z
      · exact absurd hg'.1 (hg.2 g' z)
      · exact z
      · exact absurd hg.1 (hg'.2 g z)
    subst eg
    obtain ⟨k1, k2⟩ := len_L hc hI hC hR (fun M10 y11 y12 => some (y11, M10)) j g' 1 fu hg.1.1 w1 w2 (by omega)
    obtain ⟨y, e⟩ := k2 (by omega)
    refine ⟨?_, by omega⟩
    rw [hb, if_neg (by decide)]
    unfold f_X4_callNumber
    rw [bnd_some, c32, pk_mul, nI_add, pk_mul, nI_add, ixT (by omega) (by omega), if_pos rfl, nI_clamp (by omega), hM]
    unfold nm
    dsimp only
    have e' : f_X4_lengthTo_L34 pp (fun M10 y11 y12 => some (y11, M10)) fu M 1 (nI j) = _ := e
    rw [e', show 1 + dep A g' = dep A g' + 1 by omega]
  · intro hn
    have hb : bt (M (13 * pp + 12) (32 * ph + d)) b = false := by
      cases z : bt (M (13 * pp + 12) (32 * ph + d)) b with
      | false => rfl
      | true => exact absurd (hrow.mp z) hn
    rw [hb, if_pos (by decide)]
