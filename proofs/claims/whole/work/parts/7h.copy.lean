/-! copy. -/
theorem bec_L {p q s : Nat} (hpq : p ≠ q) (hp : p < 4) (hq : q < 4) (hs : s ≤ 24) (kk : Mem → Int32 → Option (Int32 × Mem)) :
    ∀ (n x f : Nat) (M : Mem), x + n = s → n < f → M (13 * p + 3) 4 = nI s → ∃ M', f_X1_become_L10 p q kk f M (nI x) = kk M' (nI s) ∧ (∀ k, ¬ (13 * p + 4 ≤ k ∧ k ≤ 13 * p + 7) → M' k = M k) ∧ ∀ r j, r < 4 → M' (13 * p + 4 + r) j = if x ≤ j ∧ j < s then M (13 * q + 4 + r) j else M (13 * p + 4 + r) j := by
  intro n
  induction n with
  | zero =>
    intro x f M hx hf hM
    obtain ⟨f', rfl⟩ : ∃ f', f = f' + 1 := ⟨f - 1, by omega⟩
    rw [f_X1_become_L10, hM, if_pos (nI_le (by omega) (by omega)), show x = s by omega]
    exact ⟨M, rfl, fun _ _ => rfl, fun r j _ => by rw [if_neg (by omega)]⟩
  | succ n ih =>
    intro x f M hx hf hM
    obtain ⟨f', rfl⟩ : ∃ f', f = f' + 1 := ⟨f - 1, by omega⟩
    obtain ⟨M1, e1, f1, r1⟩ := put_spec (p := p) (show x < 24 by omega) (M (13 * q + 4) x) (M (13 * q + 5) x) (M (13 * q + 6) x) (M (13 * q + 7) x) M
    rw [f_X1_become_L10, hM, if_neg (nI_ge (by omega) (by omega)), ixT (show x < 24 by omega) (by omega), if_pos rfl, if_pos rfl, if_pos rfl, if_pos rfl, nI_clamp (by omega), e1, bnd_some, nI_1]
    obtain ⟨M2, e2, f2, r2⟩ := ih (x + 1) f' M1 (by omega) (by omega) (by rw [f1 _ (by omega)]; exact hM)
    refine ⟨M2, e2, fun k hk => by rw [f2 k hk, f1 k hk], fun r j hr => ?_⟩
    rw [r2 r j hr, r1 r j hr, f1 (13 * q + 4 + r) (by omega)]
    by_cases z : j = x
    · rw [if_neg (by omega), if_pos z, if_pos (by omega), z]
      rcases r4 hr with rfl | rfl | rfl | rfl <;> rfl
    · rw [if_neg z]
      by_cases w : x + 1 ≤ j ∧ j < s
      · rw [if_pos w, if_pos (by omega)]
      · rw [if_neg w, if_neg (by omega)]
theorem cpy_L {p q s : Nat} (hpq : p ≠ q) (hp : p < 4) (hq : q < 4) (hs : s ≤ 24) (kk : Mem → Int32 → Option (Int32 × Mem)) :
    ∀ (n x f : Nat) (M : Mem), x + n = s → n < f → M 72 q = nI s → ∃ M', f_X9_copy_L23 (nI p) (nI q) kk f M (nI x) = kk M' (nI s) ∧ (∀ k, ¬ (73 ≤ k ∧ k ≤ 76) → M' k = M k) ∧ ∀ r j, r < 4 → M' (73 + r) j = if 24 * p + x ≤ j ∧ j < 24 * p + s then M (73 + r) (24 * q + (j - 24 * p)) else M (73 + r) j := by
  intro n
  induction n with
  | zero =>
    intro x f M hx hf hM
    obtain ⟨f', rfl⟩ : ∃ f', f = f' + 1 := ⟨f - 1, by omega⟩
    rw [f_X9_copy_L23, ixT hq (by omega), if_pos rfl, nI_clamp (by omega), hM, if_pos (nI_le (by omega) (by omega)), show x = s by omega]
    exact ⟨M, rfl, fun _ _ => rfl, fun r j _ => by rw [if_neg (by omega)]⟩
  | succ n ih =>
    intro x f M hx hf hM
    obtain ⟨f', rfl⟩ : ∃ f', f = f' + 1 := ⟨f - 1, by omega⟩
    obtain ⟨M1, e1, f1, r1⟩ := puts_spec (v := 24 * p + x) (by omega) (M 73 (24 * q + x)) (M 74 (24 * q + x)) (M 75 (24 * q + x)) (M 76 (24 * q + x)) M
    rw [f_X9_copy_L23, ixT hq (by omega), if_pos rfl, nI_clamp (n := q) (by omega), hM, if_neg (nI_ge (by omega) (by omega))]
    unfold nm
    dsimp only
    rw [c24, pk_mul, pk_mul, nI_add, nI_add, ixT (i := 24 * q + x) (by omega) (by omega), if_pos rfl, if_pos rfl, if_pos rfl, if_pos rfl, nI_clamp (n := 24 * q + x) (by omega), e1, bnd_some, nI_1]
    obtain ⟨M2, e2, f2, r2⟩ := ih (x + 1) f' M1 (by omega) (by omega) (by rw [f1 _ (by omega)]; exact hM)
    refine ⟨M2, e2, fun k hk => by rw [f2 k hk, f1 k hk], fun r j hr => ?_⟩
    rw [r2 r j hr, r1 r j hr]
    by_cases z : j = 24 * p + x
    · rw [if_neg (by omega), if_pos z, if_pos (by omega), z, show 24 * p + x - 24 * p = x by omega]
      rcases r4 hr with rfl | rfl | rfl | rfl <;> rfl
    · rw [if_neg z]
      by_cases w : 24 * p + (x + 1) ≤ j ∧ j < 24 * p + s
      · rw [if_pos w, if_pos (by omega), r1 r _ hr, if_neg (by omega)]
      · rw [if_neg w, if_neg (by omega)]
def cMix (c e : Cd) : Cd := (e.1, fun j => if j < e.1 then e.2.1 j else c.2.1 j, fun j => if j < e.1 then e.2.2.1 j else c.2.2.1 j, fun j => if j < e.1 then e.2.2.2.1 j else c.2.2.2.1 j, fun j => if j < e.1 then e.2.2.2.2 j else c.2.2.2.2 j)
theorem cMix_R {c e : Cd} {r j : Nat} (hr : r < 4) : cR (cMix c e) r j = if j < e.1 then cR e r j else cR c r j := by
  rcases r4 hr with rfl | rfl | rfl | rfl <;> rfl
theorem cMix_ok {c e : Cd} (hc : cdOk c) (he : cdOk e) : cdOk (cMix c e) := by
  refine ⟨he.1, fun j hj => ?_⟩
  unfold cMix
  dsimp only
  by_cases z : j < e.1
  · rw [if_pos z, if_pos z, if_pos z, if_pos z]; exact he.2 j hj
  · rw [if_neg z, if_neg z, if_neg z, if_neg z]; exact hc.2 j hj
theorem sm_copy {fu : Nat} (hfu : 51200 < fu) (a b : Int32) : Sm (f_X8_copy fu a b) (f_X9_copy fu a b) := by
  intro cc M h
  rcases pk2 a (n := 4) (by omega) with z | ⟨p, hp, rfl⟩
  · exact Sm.same h 0 (by unfold f_X8_copy; rw [p8_no z, bnd_some, if_pos rfl]) (by unfold f_X9_copy; rw [p9_no z, bnd_some, if_pos rfl])
  rcases pk2 b (n := 4) (by omega) with z | ⟨q, hq, rfl⟩
  · exact Sm.same h 0 (by unfold f_X8_copy; rw [p8_yes hp, bnd_some, if_neg (by decide), p8_no z, bnd_some, if_pos rfl]) (by unfold f_X9_copy; rw [p9_yes hp, bnd_some, if_neg (by decide), p9_no z, bnd_some, if_pos rfl])
  by_cases hpq : p = q
  · have hz : nI p = nI q := by rw [hpq]
    exact Sm.same h 0 (by unfold f_X8_copy; rw [p8_yes hp, bnd_some, if_neg (by decide), p8_yes hq, bnd_some, if_neg (by decide), if_pos hz]) (by unfold f_X9_copy; rw [p9_yes hp, bnd_some, if_neg (by decide), p9_yes hq, bnd_some, if_neg (by decide), if_pos hz])
  have hz : ¬ nI p = nI q := fun w => hpq ((nI_eq (by omega) (by omega)).mp w)
  obtain ⟨hC, -⟩ := h.1 p hp
  obtain ⟨hD, -⟩ := h.1 q hq
  have h24 := hD.1.1
  obtain ⟨B, e1, f1, r1⟩ := bec_L hpq hp hq h24 (fun M4 _ => some ((0 : Int32), M4)) (cc q).1 0 fu (upM M (13 * p + 3) 4 (nI (cc q).1)) (by omega) (by omega) (by rw [upM_r, if_pos rfl])
  generalize hM1 : upM B (13 * p + 8) 8 1 = M1
  have g1 : ∀ k, ¬ (13 * p + 3 ≤ k ∧ k ≤ 13 * p + 8) → M1 k = M k := fun k hk => by rw [← hM1, upM_k (by omega), f1 k (by omega), upM_k (by omega)]
  have m72 : M1 72 q = nI (cc q).1 := by rw [g1 72 (by omega)]; exact hD.2.2.1.1
  generalize hK : (fun M11 (y12 : Int32) => if ix (nI q) 4 then if ix (nI p) 4 then wr M11 (72) (nI p).toNatClampNeg (M11 (72) (nI q).toNatClampNeg) (fun M13 => bnd (f_X9_changes (nI p) M13) (fun r14 M15 => some ((1 : Int32), M15))) else none else none) = K
  obtain ⟨X1, x1, x2, x3⟩ := cpy_L hpq hp hq h24 K (cc q).1 0 fu M1 (by omega) (by omega) m72
  have x1' : f_X9_copy_L23 (nI p) (nI q) K fu M1 0 = K X1 (nI (cc q).1) := x1
  obtain ⟨X3, y1, y2, y3, y4, y5⟩ := chgs_spec hp (upM X1 72 p (nI (cc q).1))
  have kX : ∀ k, k ≠ 70 → ¬ (72 ≤ k ∧ k ≤ 76) → k ≠ 80 → X3 k = M1 k := fun k q1 q2 q3 => by rw [y2 k q1 q3, upM_k (by omega), x2 k (by omega)]
  have ha' := cdAt_r.mp hC.2.1
  have hm' := cdM_r.mp hC.2.2.1
  have hb' := cdAt_r.mp hD.2.1
  have hn' := cdM_r.mp hD.2.2.1
  refine ⟨1, M1, X3, va_up cc p (cMix (cc p) (cc q)), ?_, ?_, iv_chg h hp (cMix_ok hC.1 hD.1) (cdAt_r.mpr ⟨?_, fun r j hr hj => ?_⟩) (cdM_r.mpr ⟨?_, fun r j hr hj => ?_⟩) (fun k q1 q2 q3 q4 => by rw [kX k q2 q3 q4, g1 k q1]) (fun j hj => ?_) (fun r j hr hj => ?_) ?_ (fun j => ?_) (fun f hf => ?_) ?_⟩
  · unfold f_X8_copy f_X5_takeCodeOf f_X1_become f_X4_forget wr
    dsimp only
    have e1' : f_X1_become_L10 p q (fun M4 _ => some ((0 : Int32), M4)) fu (upM M (13 * p + 3) 4 (nI (cc q).1)) 0 = some (0, B) := e1
    rw [p8_yes hp, bnd_some, if_neg (by decide), p8_yes hq, bnd_some, if_neg (by decide), if_neg hz, ixT hp (by omega), if_pos rfl, ixT hq (by omega), if_pos rfl, nI_clamp (n := p) (by omega), nI_clamp (n := q) (by omega), hb'.1, e1', bnd_some, bnd_some, bnd_some, hM1]
  · unfold f_X9_copy
    rw [p9_yes hp, bnd_some, if_neg (by decide), p9_yes hq, bnd_some, if_neg (by decide), if_neg hz, hK, x1', ← hK]
    unfold wr
    dsimp only
    rw [ixT hp (by omega), ixT hq (by omega), if_pos rfl, if_pos rfl, nI_clamp (n := p) (by omega), nI_clamp (n := q) (by omega), x2 72 (by omega), m72, y1, bnd_some]
  · rw [kX _ (by omega) (by omega) (by omega), ← hM1, upM_k (by omega), f1 _ (by omega), upM_r, if_pos rfl]; rfl
  · rw [kX _ (by omega) (by omega) (by omega), ← hM1, upM_k (by omega), r1 r j hr, upM_k (by omega), upM_k (by omega), cMix_R hr]
    by_cases z : j < (cc q).1
    · rw [if_pos ⟨Nat.zero_le _, z⟩, if_pos z]; exact hb'.2 r j hr hj
    · rw [if_neg (by omega), if_neg z]; exact ha'.2 r j hr hj
  · rw [y2 72 (by omega) (by omega), upM_r, if_pos rfl]; rfl
  · rw [y2 _ (by omega) (by omega), upM_k (by omega), x3 r _ hr, g1 _ (by omega), cMix_R hr]
    by_cases z : j < (cc q).1
    · rw [if_pos (by omega), if_pos z, show 24 * p + j - 24 * p = j by omega]; exact hn'.2 r j hr hj
    · rw [if_neg (by omega), if_neg z]; exact hm'.2 r j hr hj
  · rw [y2 72 (by omega) (by omega), upM_r, if_neg hj, x2 72 (by omega), g1 72 (by omega)]
  · rw [y2 _ (by omega) (by omega), upM_k (by omega), x3 r j hr, if_neg (by omega), g1 _ (by omega)]
  · rw [kX _ (by omega) (by omega) (by omega), ← hM1, upM_r, if_pos rfl]; decide
  · rw [y3, upM_k (by omega), x2 80 (by omega), g1 80 (by omega)]
  · rw [y4 f hf, upM_k (by omega), x2 70 (by omega), g1 70 (by omega)]
  · rw [y5, upM_k (by omega), x2 70 (by omega), g1 70 (by omega)]
