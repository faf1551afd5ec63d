/-! way() of the class. -/
theorem sx_ins {pp fu : Nat} (hfu : 49152 < fu) {c : Cd} (hc : cdOk c) {A : AB} (hI : abI c A A.1 A.1) {M : Mem} (h : Sx pp c A M) {ph d b : Nat} (h1 : ph < 2) (h2 : d < 32) (h3 : b < 32) (x : Int32) :
    (∀ g, CG1 c A ph d b g → (x < 0 ∨ nI (dep A g + 1) ≤ x → f_X4_instructionTo fu pp (nI ph) (nI d) (nI b) x M = some (-1, M)) ∧ ∀ i, i ≤ dep A g → x = nI i → f_X4_instructionTo fu pp (nI ph) (nI d) (nI b) x M = some (nI (A.2.1 (upG A (dep A g - i) g)), M)) ∧
    ((¬ ∃ g, CG c A ph d b g) → f_X4_instructionTo fu pp (nI ph) (nI d) (nI b) x M = some (-1, M)) := by
  obtain ⟨k1, k2⟩ := sx_len hfu hc hI h h1 h2 h3
  have hrow := sx_rows h h1 h2 h3
  obtain ⟨blk, s, L, Q, o, hC, hR, hr⟩ := h
  have hs2 := hR.2.2.1
  unfold f_X4_instructionTo
  constructor
  · intro g hg
    obtain ⟨e, hd⟩ := k1 g hg
    rw [e, bnd_some]
    constructor
    · intro hx
      by_cases z : x < 0
      · rw [if_pos z]
      · rw [if_neg z, if_neg (fun y => by
          have hx2 := hx.resolve_left z
          have a1 := Int32.le_iff_toInt_le.mp hx2
          have a2 := Int32.lt_iff_toInt_lt.mp y
          omega)]
    · intro i hi hx
      subst hx
      rw [if_neg (nI_pos (by omega)), if_pos (nI_lt (by omega) (by omega))]
      have hb : bt (M (13 * pp + 12) (32 * ph + d)) b = true := hrow.mpr ⟨g, hg.1⟩
      obtain ⟨j, g', hM, hj, hg', w1, w2⟩ := sx_first hC hR hr h1 h2 h3 hb
      have eg : g' = g := by
        rcases Nat.lt_trichotomy g' g with z | z | z
        · exact absurd hg'.1 (hg.2 g' z)
        · exact z
        · exact absurd hg.1 (hg'.2 g z)
      subst eg
      unfold f_X4_callNumber
      rw [bnd_some, c32, pk_mul, nI_add, pk_mul, nI_add, ixT (by omega) (by omega), if_pos rfl, nI_clamp (by omega), hM]
      unfold nm
      dsimp only
      rw [nI_pred]
      obtain ⟨j', y, e2, u1, u2⟩ := ins_L hI hC hR i (fun M9 y10 y11 => if ix y10 49152 then some ((usr (M9 (13 * pp + 9) y10.toNatClampNeg) 5) &&& 31, M9) else none) (dep A g' - i) j g' fu hg.1.1 w1 w2 (by omega) (by omega) (by omega)
      rw [show i + (dep A g' - i) = dep A g' by omega] at e2
      have e3 : f_X4_instructionTo_L42 pp (nI i) (fun M9 y10 y11 => if ix y10 49152 then some ((usr (M9 (13 * pp + 9) y10.toNatClampNeg) (5 : Int32)) &&& (31 : Int32), M9) else none) fu M (nI j) (nI (dep A g')) = _ := e2
      rw [e3]
      have hpr : ∀ g, 0 < g → g < A.1 → A.2.2.1 g < g := fun g a b => (hI.2.2.2.2.1 g a b).1
      have hu := (upG_lt hpr (dep A g' - i) g' hg.1.1 (by omega)).1
      have m := blk_mono (fun g hg => (hC.2.2.1 g hg).1) (A.1 - (upG A (dep A g' - i) g' + 1)) (upG A (dep A g' - i) g' + 1) (by omega)
      rw [show upG A (dep A g' - i) g' + 1 + (A.1 - (upG A (dep A g' - i) g' + 1)) = A.1 by omega, hC.2.1] at m
      obtain ⟨l1, l2, -⟩ := hR.2.2.2.1 j' (by omega)
      rw [ixT (by omega) (by omega), if_pos rfl, nI_clamp (by omega), l1, lk_at (by omega), (hC.2.2.2.1 _ j' hu u1 u2).1]
  · intro hn
    rw [k2 hn, bnd_some]
    by_cases z : x < 0
    · rw [if_pos z]
    · rw [if_neg z, if_neg (fun y => by
        have a2 := Int32.lt_iff_toInt_lt.mp y
        have a3 : ¬ x.toInt < 0 := fun q => z (Int32.lt_iff_toInt_lt.mpr q)
        have a4 : ((-1 : Int32)).toInt = -1 := by decide
        omega)]
