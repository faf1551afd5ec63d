/-! works(), whole. -/
theorem wk_30 {p : Nat} (hp : p < 4) (kk : Mem → Int32 → Option (Int32 × Mem)) : ∀ (d x f : Nat) (M : Mem), x + d = 64 → d < f → ∃ M' y, f_X9_works_L30 (nI p) kk f M (nI x) = kk M' y ∧ (∀ k, k ≠ 77 → M' k = M k) ∧ ∀ j, M' 77 j = if 64 * p + x ≤ j ∧ j < 64 * p + 64 then 0 else M 77 j := by
  intro d
  induction d with
  | zero =>
    intro x f M hx hf
    obtain ⟨f', rfl⟩ : ∃ f', f = f' + 1 := ⟨f - 1, by omega⟩
    rw [f_X9_works_L30, if_pos (by rw [c64]; exact nI_le (by omega) (by omega))]
    exact ⟨M, _, rfl, fun _ _ => rfl, fun j => by rw [if_neg (by omega)]⟩
  | succ d ih =>
    intro x f M hx hf
    obtain ⟨f', rfl⟩ : ∃ f', f = f' + 1 := ⟨f - 1, by omega⟩
    rw [f_X9_works_L30, if_neg (by rw [c64]; exact nI_ge (by omega) (by omega)), c64, pk_mul, nI_add, ixT (by omega) (by omega), if_pos rfl, nI_clamp (by omega)]
    unfold wr
    dsimp only
    rw [nI_1]
    obtain ⟨M', y, e, h1, h2⟩ := ih (x + 1) f' (upM M 77 (64 * p + x) 0) (by omega) (by omega)
    refine ⟨M', y, e, fun k hk => by rw [h1 k hk, upM_k hk], fun j => ?_⟩
    rw [h2, upM_ap]
    by_cases z : j = 64 * p + x
    · rw [if_neg (by omega), if_pos ⟨rfl, z⟩, if_pos (by omega)]
    · rw [if_neg (fun w : 77 = 77 ∧ j = 64 * p + x => z w.2)]
      by_cases w : 64 * p + (x + 1) ≤ j ∧ j < 64 * p + 64
      · rw [if_pos w, if_pos (by omega)]
      · rw [if_neg w, if_neg (by omega)]
theorem wk_56 {x1 : Int32} (kk : Mem → Int32 → Option (Int32 × Mem)) : ∀ (d x f : Nat) (M : Mem), x + d = 51200 → d < f → ∃ M' y, f_X9_works_L56 x1 kk f M (nI x) = kk M' y ∧ (∀ k, k ≠ 88 → M' k = M k) ∧ ∀ j, M' 88 j = if x ≤ j ∧ j < 51200 then -1 else M 88 j := by
  intro d
  induction d with
  | zero =>
    intro x f M hx hf
    obtain ⟨f', rfl⟩ : ∃ f', f = f' + 1 := ⟨f - 1, by omega⟩
    rw [f_X9_works_L56, if_pos (by rw [c51200]; exact nI_le (by omega) (by omega))]
    exact ⟨M, _, rfl, fun _ _ => rfl, fun j => by rw [if_neg (by omega)]⟩
  | succ d ih =>
    intro x f M hx hf
    obtain ⟨f', rfl⟩ : ∃ f', f = f' + 1 := ⟨f - 1, by omega⟩
    rw [f_X9_works_L56, if_neg (by rw [c51200]; exact nI_ge (by omega) (by omega)), ixT (by omega) (by omega), if_pos rfl, nI_clamp (by omega)]
    unfold wr
    dsimp only
    rw [nI_1]
    obtain ⟨M', y, e, h1, h2⟩ := ih (x + 1) f' (upM M 88 x (-1)) (by omega) (by omega)
    refine ⟨M', y, e, fun k hk => by rw [h1 k hk, upM_k hk], fun j => ?_⟩
    rw [h2, upM_ap]
    by_cases z : j = x
    · rw [if_neg (by omega), if_pos ⟨rfl, z⟩, if_pos (by omega)]
    · rw [if_neg (fun w : 88 = 88 ∧ j = x => z w.2)]
      by_cases w : x + 1 ≤ j ∧ j < 51200
      · rw [if_pos w, if_pos (by omega)]
      · rw [if_neg w, if_neg (by omega)]
def mX (p : Nat) (M M' : Mem) : Prop := (∀ k, k ≠ 70 → k ≠ 77 → k ≠ 79 → k ≠ 80 → k ≠ 86 → k ≠ 87 → k ≠ 88 → k ≠ 89 → k ≠ 90 → M' k = M k) ∧ (∀ f, f ≠ 18 → f ≠ 23 → f ≠ 24 → f ≠ 26 → M' 70 f = M 70 f) ∧ (∀ x, ¬ (64 * p ≤ x ∧ x < 64 * p + 64) → M' 77 x = M 77 x) ∧ (∀ x, x ≠ p → M' 79 x = M 79 x) ∧ ∀ x, x ≠ p → M' 80 x = M 80 x
set_option maxHeartbeats 4000000 in
/-- the beginning of works(), up to its loop over the row -/
theorem wk_begin {p fu : Nat} (hfu : 51200 < fu) {c : Cd} (hc : cdOk c) {M : Mem} (hcd : cdM p c M) (h24 : M 70 24 = 0) (h23 : M 70 23 = 0) (h26 : M 70 26 = 1) (h90 : M 90 0 = nI (sn (ee c 0) 0 0 0))
    (h88 : ∀ j, j < 51200 → M 88 j = if j = sn (ee c 0) 0 0 0 then 0 else -1) (h87 : M 87 (sn (ee c 0) 0 0 0) = -1) (h77 : ∀ j, 64 * p ≤ j → j < 64 * p + 64 → M 77 j = 0) (h79 : M 79 p = 0) :
    ∃ M' rb mn rw', f_X9_ranksAnew fu M = some (0, M') ∧ mW p M M' ∧ Wk p c M' (abS c 0) 0 0 rb mn rw' ∧ rb 0 ≤ 0 ∧ 0 < rb 1 := by
  have he := ee_le hc 0
  generalize hS : sn (ee c 0) 0 0 0 = S at *
  have hSl : S < 51200 := by rw [← hS]; exact sn_lt he (by omega) (by omega) (by omega)
  have hSd : S / 2048 = ee c 0 ∧ S / 1024 % 2 = 0 ∧ S / 32 % 32 = 0 ∧ S % 32 = 0 := by rw [← hS]; exact sn_t (by omega) (by omega) (by omega)
  have hPs : psh (0, fun _ => ee c 0, fun _ => 0, fun _ ph a b => ph = 0 ∧ a = 0 ∧ b = 0) 0 (ee c 0) (fun ph a b => ee c 0 = ee c 0 ∧ ph = 0 ∧ a = 0 ∧ b = 0) = abS c 0 := by
    show ((1 : Nat), va_up (fun _ => ee c 0) 0 (ee c 0), va_up (fun _ => (0 : Nat)) 0 0, va_up (fun (_ : Nat) (ph a b : Nat) => ph = 0 ∧ a = 0 ∧ b = 0) 0 (fun ph a b => ee c 0 = ee c 0 ∧ ph = 0 ∧ a = 0 ∧ b = 0)) = ((1 : Nat), (fun _ => ee c 0), (fun _ => (0 : Nat)), fun (_ : Nat) (ph a b : Nat) => ph = 0 ∧ a = 0 ∧ b = 0)
    have uc : ∀ {α : Type} (v : α), va_up (fun _ : Nat => v) 0 v = fun _ => v := fun v => funext fun x => by
      by_cases z : x = 0
      · rw [z, va_up_self]
      · rw [va_up_ne _ _ z]
    have q : (fun ph a b : Nat => ee c 0 = ee c 0 ∧ ph = 0 ∧ a = 0 ∧ b = 0) = fun ph a b => ph = 0 ∧ a = 0 ∧ b = 0 := funext fun ph => funext fun a => funext fun b => propext ⟨fun w => w.2, fun w => ⟨rfl, w⟩⟩
    rw [q, uc, uc, uc]
  obtain ⟨M1, rb1, mn1, rw1, e1, a1, a2, a3, a4, a5, a6, a7⟩ := rk_out (m := 1) (i := 0) (an := fun _ => S) (P := fun t ph a b => t = ee c 0 ∧ ph = 0 ∧ a = 0 ∧ b = 0) hfu (by omega) (fun _ _ => hSl) (fun j j' _ _ _ => by omega) (fun k _ => hSd) (fun t ph a b z => ⟨0, by omega, by rw [z.1, z.2.1, z.2.2.1, z.2.2.2]; exact hS.symm⟩) (fun t ph a b z => by omega) (fun M9 y10 => wr M9 (70) 26 0 (fun M11 => some (0, M11))) 25 0 fu M (0, fun _ => ee c 0, fun _ => 0, fun _ ph a b => ph = 0 ∧ a = 0 ∧ b = 0) (fun _ => 0) 0 (fun _ => 0) (by omega) (by omega) h26 (fun j hj => by rw [show j = 0 by omega]; exact h90) ⟨h23, by omega, fun j hj => by omega, fun j j' hj => by omega⟩ ⟨rfl, rfl, fun g hg => absurd hg (Nat.not_lt_zero g), fun g j hg => absurd hg (Nat.not_lt_zero g), fun g ph a b hg => absurd hg (Nat.not_lt_zero g)⟩ ⟨h24, fun g j hg => absurd hg (Nat.not_lt_zero g)⟩ (fun k j _ _ hj => by omega)
  have e1' : f_X9_ranksAnew fu M = _ := e1
  rw [e1']
  rw [adF_one (e := ee c 0) ⟨0, 0, 0, rfl, rfl, rfl, rfl⟩ (fun t ph a b w z => w z.1) 25 0 (by omega) (by omega), hPs] at a3 a4
  unfold wr
  generalize hX : upM M1 70 26 0 = X
  have b1 : ∀ k, k ≠ 70 → X k = M1 k := fun k hk => by rw [← hX, upM_k hk]
  have b2 : ∀ f, f ≠ 26 → X 70 f = M1 70 f := fun f hf => by rw [← hX, upM_ap, if_neg (by omega)]
  have b3 : X 70 26 = 0 := by rw [← hX, upM_ap, if_pos ⟨rfl, rfl⟩]
  have hXM : ∀ k, k ≠ 70 → k ≠ 86 → k ≠ 89 → X k = M k := fun k g1 g2 g3 => by rw [b1 k g1, a1.1 k g1 g2 g3]
  have hvz : ∀ z, vN (abS c 0) z ↔ z = S := fun z => by
    constructor
    · rintro ⟨g, g1, g2, g3⟩
      have g2' : ee c 0 = z / 2048 := g2
      have g3' : z / 1024 % 2 = 0 ∧ z / 32 % 32 = 0 ∧ z % 32 = 0 := g3
      rw [sn_dec z, ← g2', g3'.1, g3'.2.1, g3'.2.2]
      exact hS
    · rintro rfl
      refine ⟨0, Nat.one_pos, ?_, ?_⟩
      · show ee c 0 = z / 2048; omega
      · show z / 1024 % 2 = 0 ∧ z / 32 % 32 = 0 ∧ z % 32 = 0; omega
  refine ⟨X, rb1, mn1, rw1, rfl, a1.w.tr ⟨fun k g _ _ _ _ _ _ _ => b1 k g, fun f _ _ g => b2 f g, fun x _ => by rw [b1 77 (by omega)], fun x _ => by rw [b1 79 (by omega)]⟩, ?_, by rw [a3.1]; exact Nat.le_refl _, ?_⟩
  · refine ⟨fun z => z = S, fun _ => 0, fun _ => -1, 0, fun _ => 0, ?_, ?_, a3, ?_, rfl, ⟨?_, ?_, ?_, ?_⟩, ?_, ?_⟩
    · refine ⟨⟨?_, fun j hj => ?_⟩, b3, by omega, fun j hj => by omega, fun j j' hj => by omega, fun x hx => ?_⟩
      · rw [hXM _ (by omega) (by omega) (by omega)]; exact hcd.1
      · rw [hXM _ (by omega) (by omega) (by omega), hXM _ (by omega) (by omega) (by omega), hXM _ (by omega) (by omega) (by omega), hXM _ (by omega) (by omega) (by omega)]; exact hcd.2 j hj
      · rw [hXM _ (by omega) (by omega) (by omega), hXM _ (by omega) (by omega) (by omega), h88 x hx]
        refine ⟨fun w => ?_, fun w => if_neg w⟩
        rw [if_pos w, w]
        exact ⟨rfl, h87, by show (0 : Nat) < 2 ^ 30; omega⟩
    · exact ⟨by rw [b2 _ (by omega)]; exact a2.1, a2.2.1, fun j hj => by rw [b1 _ (by omega)]; exact a2.2.2.1 j hj, a2.2.2.2⟩
    · exact ⟨by rw [b2 _ (by omega)]; exact a4.1, fun g j g0 g1 g2 => by rw [b1 _ (by omega)]; exact a4.2 g j g0 g1 g2⟩
    · intro z
      rw [hvz]
      exact ⟨Or.inl, fun w => w.elim id (fun ⟨j, _, j2, _⟩ => by omega)⟩
    · intro q hq; omega
    · intro z v w; exact absurd ((hvz z).mpr v) w
    · intro g z g0 _
      have g0' : g < 1 := g0
      rw [show g = 0 by omega]
      exact ⟨rfl, fun w => absurd w (Nat.lt_irrefl 0)⟩
    · intro ph a b r1 r2 r3
      rw [hXM 77 (by omega) (by omega) (by omega), h77 _ (by omega) (by omega), b_0]
      exact ⟨fun w => absurd w (by decide), fun ⟨j, j1, _⟩ => by omega⟩
    · intro t ht
      rw [hXM 79 (by omega) (by omega) (by omega), h79, b_0]
      exact ⟨fun w => absurd w (by decide), fun ⟨j, j1, _⟩ => by omega⟩
  · have := a3.2.2.1 0 Nat.one_pos
    rw [Nat.zero_add] at this
    omega
set_option maxHeartbeats 4000000 in
theorem works_spec {p fu : Nat} (hp : p < 4) (hfu : 51200 < fu) {c : Cd} (hc : cdOk c) {M : Mem} (hcd : cdM p c M) (hh : ¬ M 70 18 = nI p) :
    ∃ M' A, f_X9_works fu (nI p) M = some (0, M') ∧ FA c A ∧ Nd p c A M' ∧ Hd A M' ∧ mX p M M' ∧ M' 70 18 = nI p ∧ M' 80 p = 1 := by
  unfold f_X9_works
  rw [if_neg hh]
  unfold wr
  dsimp only
  rw [ixT hp (by omega), if_pos rfl, if_pos rfl, nI_clamp (by omega), show vp_nar .boolean 1 = 1 from rfl]
  generalize hX0 : upM (upM (upM M 70 18 (nI p)) 80 p 1) 79 p 0 = X0
  have x01 : ∀ k, k ≠ 70 → k ≠ 79 → k ≠ 80 → X0 k = M k := fun k g1 g2 g3 => by rw [← hX0, upM_k g2, upM_k g3, upM_k g1]
  have x02 : ∀ f, X0 70 f = if f = 18 then nI p else M 70 f := fun f => by
    rw [← hX0, upM_k (by omega), upM_k (by omega), upM_ap]
    by_cases z : f = 18
    · rw [if_pos ⟨rfl, z⟩, if_pos z]
    · rw [if_neg (fun w => z w.2), if_neg z]
  have x03 : ∀ f, X0 80 f = if f = p then 1 else M 80 f := fun f => by
    rw [← hX0, upM_k (by omega), upM_ap, upM_k (by omega)]
    by_cases z : f = p
    · rw [if_pos ⟨rfl, z⟩, if_pos z]
    · rw [if_neg (fun w => z w.2), if_neg z]
  have x04 : ∀ f, X0 79 f = if f = p then 0 else M 79 f := fun f => by
    rw [← hX0, upM_ap, upM_k (by omega), upM_k (by omega)]
    by_cases z : f = p
    · rw [if_pos ⟨rfl, z⟩, if_pos z]
    · rw [if_neg (fun w => z w.2), if_neg z]
  generalize hK1 : (fun M5 (y6 : Int32) => f_X9_works_L56 (nI p) (fun M8 y9 => bnd (f_X9_endOf (nI p) 0 (upM (upM (upM M8 70 23 0) 70 24 0) 70 26 0)) (fun r13 M14 => bnd (f_X9_stateOf r13 0 0 0 M14) (fun r15 M16 => if ix r15 51200 then if ix r15 51200 then if ix 0 51200 then bnd (f_X9_ranksAnew fu (upM (upM (upM (upM M16 88 r15.toNatClampNeg 0) 87 r15.toNatClampNeg (-1)) 90 (0 : Int32).toNatClampNeg r15) 70 26 1)) (fun r21 M22 => f_X9_works_L135 fu (nI p) (fun M41 y42 => some ((0 : Int32), M41)) fu M22 0) else none else none else none))) fu M5 0) = K1
  obtain ⟨X1, y1, e1, x11, x12⟩ := wk_30 hp K1 64 0 fu X0 (by omega) (by omega)
  have e1' : f_X9_works_L30 (nI p) K1 fu X0 0 = K1 X1 y1 := e1
  rw [e1', ← hK1]
  dsimp only
  generalize hK2 : (fun M8 (y9 : Int32) => bnd (f_X9_endOf (nI p) 0 (upM (upM (upM M8 70 23 0) 70 24 0) 70 26 0)) (fun r13 M14 => bnd (f_X9_stateOf r13 0 0 0 M14) (fun r15 M16 => if ix r15 51200 then if ix r15 51200 then if ix 0 51200 then bnd (f_X9_ranksAnew fu (upM (upM (upM (upM M16 88 r15.toNatClampNeg 0) 87 r15.toNatClampNeg (-1)) 90 (0 : Int32).toNatClampNeg r15) 70 26 1)) (fun r21 M22 => f_X9_works_L135 fu (nI p) (fun M41 y42 => some ((0 : Int32), M41)) fu M22 0) else none else none else none))) = K2
  obtain ⟨X2, y2, e2, x21, x22⟩ := wk_56 (x1 := nI p) K2 51200 0 fu X1 (by omega) (by omega)
  have e2' : f_X9_works_L56 (nI p) K2 fu X1 0 = K2 X2 y2 := e2
  rw [e2', ← hK2]
  dsimp only
  generalize hX3 : upM (upM (upM X2 70 23 0) 70 24 0) 70 26 0 = X3
  have x31 : ∀ k, k ≠ 70 → X3 k = X2 k := fun k g => by rw [← hX3, upM_k g, upM_k g, upM_k g]
  have x32 : ∀ f, X3 70 f = if f = 23 ∨ f = 24 ∨ f = 26 then 0 else X2 70 f := fun f => by
    rw [← hX3, upM_ap, upM_ap, upM_ap]
    by_cases z1 : f = 26
    · rw [if_pos ⟨rfl, z1⟩, if_pos (by omega)]
    · rw [if_neg (fun w => z1 w.2)]
      by_cases z2 : f = 24
      · rw [if_pos ⟨rfl, z2⟩, if_pos (by omega)]
      · rw [if_neg (fun w => z2 w.2)]
        by_cases z3 : f = 23
        · rw [if_pos ⟨rfl, z3⟩, if_pos (by omega)]
        · rw [if_neg (fun w => z3 w.2), if_neg (by omega)]
  have hX3M : ∀ k, k ≠ 70 → k ≠ 77 → k ≠ 79 → k ≠ 80 → k ≠ 88 → X3 k = M k := fun k g1 g2 g3 g4 g5 => by rw [x31 k g1, x21 k g5, x11 k g2, x01 k g1 g3 g4]
  have hcd3 : cdM p c X3 := by
    refine ⟨?_, fun j hj => ?_⟩
    · rw [hX3M _ (by omega) (by omega) (by omega) (by omega) (by omega)]; exact hcd.1
    · rw [hX3M _ (by omega) (by omega) (by omega) (by omega) (by omega), hX3M _ (by omega) (by omega) (by omega) (by omega) (by omega), hX3M _ (by omega) (by omega) (by omega) (by omega) (by omega), hX3M _ (by omega) (by omega) (by omega) (by omega) (by omega)]; exact hcd.2 j hj
  have ee1 : f_X9_endOf (nI p) 0 X3 = some (nI (ee c 0), X3) := e_endOf hp hc.1 hcd3 (by omega : 0 < 2 ^ 30)
  have ee2 : f_X9_stateOf (nI (ee c 0)) 0 0 0 X3 = some (nI (sn (ee c 0) 0 0 0), X3) := e_stateOf X3
  rw [ee1, bnd_some, ee2, bnd_some]
  have he := ee_le hc 0
  have hSl : sn (ee c 0) 0 0 0 < 51200 := sn_lt he (by omega) (by omega) (by omega)
  rw [ixT hSl (by omega), if_pos rfl, if_pos rfl, if_pos (by decide), nI_clamp (by omega), show (0 : Int32).toNatClampNeg = 0 from rfl]
  generalize hX4 : upM (upM (upM (upM X3 88 (sn (ee c 0) 0 0 0) 0) 87 (sn (ee c 0) 0 0 0) (-1)) 90 0 (nI (sn (ee c 0) 0 0 0))) 70 26 1 = X4
  have x41 : ∀ k, k ≠ 70 → k ≠ 87 → k ≠ 88 → k ≠ 90 → X4 k = X3 k := fun k g1 g2 g3 g4 => by rw [← hX4, upM_k g1, upM_k g4, upM_k g2, upM_k g3]
  have x42 : ∀ f, X4 70 f = if f = 26 then 1 else X3 70 f := fun f => by
    rw [← hX4, upM_ap, upM_k (by omega), upM_k (by omega), upM_k (by omega)]
    by_cases z : f = 26
    · rw [if_pos ⟨rfl, z⟩, if_pos z]
    · rw [if_neg (fun w => z w.2), if_neg z]
  have hX4M : ∀ k, k ≠ 70 → k ≠ 77 → k ≠ 79 → k ≠ 80 → k ≠ 87 → k ≠ 88 → k ≠ 90 → X4 k = M k := fun k g1 g2 g3 g4 g5 g6 g7 => by rw [x41 k g1 g5 g6 g7, hX3M k g1 g2 g3 g4 g6]
  have h79' : ∀ x, X4 79 x = if x = p then 0 else M 79 x := fun x => by rw [x41 _ (by omega) (by omega) (by omega) (by omega), x31 _ (by omega), x21 _ (by omega), x11 _ (by omega), x04]
  have h80' : ∀ x, X4 80 x = if x = p then 1 else M 80 x := fun x => by rw [x41 _ (by omega) (by omega) (by omega) (by omega), x31 _ (by omega), x21 _ (by omega), x11 _ (by omega), x03]
  have h77' : ∀ x, X4 77 x = if 64 * p + 0 ≤ x ∧ x < 64 * p + 64 then 0 else M 77 x := fun x => by rw [x41 _ (by omega) (by omega) (by omega) (by omega), x31 _ (by omega), x21 _ (by omega), x12, x01 _ (by omega) (by omega) (by omega)]
  have h70' : ∀ f, f ≠ 23 → f ≠ 24 → f ≠ 26 → X4 70 f = if f = 18 then nI p else M 70 f := fun f g1 g2 g3 => by rw [x42, if_neg g3, x32, if_neg (by omega), x21 _ (by omega), x11 _ (by omega), x02]
  obtain ⟨M1, rb, mn, rw', e3, w1, w2, w3, w4⟩ := wk_begin (p := p) hfu hc (M := X4) (by
      refine ⟨?_, fun j hj => ?_⟩
      · rw [hX4M _ (by omega) (by omega) (by omega) (by omega) (by omega) (by omega) (by omega)]; exact hcd.1
      · rw [hX4M _ (by omega) (by omega) (by omega) (by omega) (by omega) (by omega) (by omega), hX4M _ (by omega) (by omega) (by omega) (by omega) (by omega) (by omega) (by omega), hX4M _ (by omega) (by omega) (by omega) (by omega) (by omega) (by omega) (by omega), hX4M _ (by omega) (by omega) (by omega) (by omega) (by omega) (by omega) (by omega)]; exact hcd.2 j hj)
    (by rw [x42, if_neg (by omega), x32, if_pos (by omega)]) (by rw [x42, if_neg (by omega), x32, if_pos (by omega)]) (by rw [x42, if_pos rfl]) (by rw [← hX4, upM_k (by omega), upM_ap, if_pos ⟨rfl, rfl⟩])
    (fun j hj => by
      rw [← hX4, upM_k (by omega), upM_k (by omega), upM_k (by omega), upM_ap]
      by_cases z : j = sn (ee c 0) 0 0 0
      · rw [if_pos ⟨rfl, z⟩, if_pos z]
      · rw [if_neg (fun w => z w.2), if_neg z, x31 _ (by omega), x22, if_pos ⟨Nat.zero_le _, hj⟩])
    (by rw [← hX4, upM_k (by omega), upM_k (by omega), upM_ap, if_pos ⟨rfl, rfl⟩])
    (fun j g1 g2 => by rw [h77', if_pos (by omega)]) (by rw [h79', if_pos rfl])
  rw [e3, bnd_some]
  obtain ⟨M', A', rb', mn', rw2, y, e4, v1, v2, v3⟩ := wk_L hp hfu hc (fun M41 y42 => some ((0 : Int32), M41)) 51200 0 fu M1 (abS c 0) 0 rb mn rw' (by omega) (by omega) w2 (Or.inl ⟨Nat.one_pos, w3, w4⟩)
  have e4' : f_X9_works_L135 fu (nI p) (fun M41 y42 => some ((0 : Int32), M41)) fu M1 0 = some (0, M') := e4
  obtain ⟨n1, n2⟩ := wk_end hc v3 v2
  have vw := w1.tr v1
  refine ⟨M', A', e4', v2, n1, n2, ⟨fun k g1 g2 g3 g4 g5 g6 g7 g8 g9 => ?_, fun f g1 g2 g3 g4 => ?_, fun x hx => ?_, fun x hx => ?_, fun x hx => ?_⟩, ?_, ?_⟩
  · rw [vw.1 k g1 g2 g3 g5 g6 g7 g8 g9, hX4M k g1 g2 g3 g4 g6 g7 g9]
  · rw [vw.2.1 f g2 g3 g4, h70' f g2 g3 g4, if_neg g1]
  · rw [vw.2.2.1 x hx, h77', if_neg (by omega)]
  · rw [vw.2.2.2 x hx, h79', if_neg hx]
  · rw [vw.1 80 (by omega) (by omega) (by omega) (by omega) (by omega) (by omega) (by omega) (by omega), h80', if_neg hx]
  · rw [vw.2.1 18 (by omega) (by omega) (by omega), h70' 18 (by omega) (by omega) (by omega), if_pos rfl]
  · rw [vw.1 80 (by omega) (by omega) (by omega) (by omega) (by omega) (by omega) (by omega) (by omega), h80', if_pos rfl]
