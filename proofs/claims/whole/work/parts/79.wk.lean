/-! works(): a state of the row goes on. -/
theorem mg_i {A : AB} {rb : Nat → Nat} {mn : Nat} {rw' : Nat → Nat} (h : Mg A rb mn rw') : ∀ g, g ≤ A.1 → g ≤ rb g
  | 0, _ => Nat.zero_le _
  | g + 1, hg => by have := mg_i h g (by omega); have := h.2.2.1 g (by omega); omega
set_option maxHeartbeats 4000000 in
theorem wk_step {p fu : Nat} (hp : p < 4) (hfu : 51200 < fu) {c : Cd} (hc : cdOk c) {M : Mem} {A : AB} {i k : Nat} {rb : Nat → Nat} {mn : Nat} {rw' : Nat → Nat} (h : Wk p c M A i k rb mn rw') (hi : i < A.1) (k1 : rb i ≤ k) (k2 : k < rb (i + 1)) :
    (c.1 ≤ rw' k / 2048 → Wk p c M A i (k + 1) rb mn rw') ∧ (rw' k / 2048 < c.1 → ∃ M', f_X9_goesOn fu (nI p) (nI (rw' k)) (upM M 79 p (M 79 p ||| ((1 : Int32) <<< (nI (rw' k / 2048) &&& 31)))) = some (0, M') ∧ mW p M M' ∧ Wk p c M' A i (k + 1) rb mn rw') := by
  obtain ⟨V, dp, pr, m, an, hQ, hr, hg, hk, hA, ⟨s1, s2, s3, s4⟩, hB1, hB2⟩ := h
  have hI : abI c A i i := by rw [← hA]; exact abS_inv hc i (by rw [hA]; omega)
  have hrb := rb_le hg (show i + 1 ≤ A.1 by omega)
  have hgk : gN A i (rw' k) := hg.2.2.2.1 i k hi k1 k2
  have ex : ∀ P : Nat → Prop, (∃ j, j < k + 1 ∧ P j) ↔ (∃ j, j < k ∧ P j) ∨ P k := fun P => by
    constructor
    · rintro ⟨j, j1, j2⟩
      rcases (show j < k ∨ j = k by omega) with e | e
      · exact Or.inl ⟨j, e, j2⟩
      · rw [e] at j2; exact Or.inr j2
    · rintro (⟨j, j1, j2⟩ | j2)
      · exact ⟨j, by omega, j2⟩
      · exact ⟨k, by omega, j2⟩
  have ex2 : ∀ P : Nat → Prop, (∃ j, rb i ≤ j ∧ j < k + 1 ∧ P j) ↔ (∃ j, rb i ≤ j ∧ j < k ∧ P j) ∨ P k := fun P => by
    constructor
    · rintro ⟨j, j0, j1, j2⟩
      rcases (show j < k ∨ j = k by omega) with e | e
      · exact Or.inl ⟨j, j0, e, j2⟩
      · rw [e] at j2; exact Or.inr j2
    · rintro (⟨j, j0, j1, j2⟩ | j2)
      · exact ⟨j, j0, by omega, j2⟩
      · exact ⟨k, k1, by omega, j2⟩
  refine ⟨fun ht => ?_, fun ht => ?_⟩
  · refine ⟨V, dp, pr, m, an, hQ, hr, hg, hk, hA, ⟨fun z => ?_, s2, s3, s4⟩, fun ph a b r1 r2 r3 => ?_, fun t ht2 => ?_⟩
    · rw [s1, ex2]
      constructor
      · rintro (w | w)
        · exact Or.inl w
        · exact Or.inr (Or.inl w)
      · rintro (w | w | w)
        · exact Or.inl w
        · exact Or.inr w
        · exact absurd w.1 (by omega)
    · rw [hB1 ph a b r1 r2 r3, ex]
      exact ⟨Or.inl, fun w => w.elim id (fun v => absurd v.1 (by omega))⟩
    · rw [hB2 t ht2, ex]
      exact ⟨Or.inl, fun w => w.elim id (fun v => by omega)⟩
  · have hrk : rw' k < 51200 := (hr.2.2.1 k (by omega)).2
    have hdec := sn_dec (rw' k)
    have hVk : V (rw' k) := (s1 _).mpr (Or.inl (vN_g.mpr ⟨i, hi, hgk⟩))
    have hdk := (s4 i _ hi hgk).1
    have hpr : ∀ g, 0 < g → g < A.1 → A.2.2.1 g < g := fun g g1 g2 => (hI.2.2.2.2.1 g g1 g2).1
    have hdi := dep_le hpr i hi
    have hAi := mg_i hg i (by omega)
    have hmn := hr.2.1
    have r1 : rw' k / 1024 % 2 < 2 := by omega
    have r2 : rw' k / 32 % 32 < 32 := by omega
    have r3 : rw' k % 32 < 32 := by omega
    generalize ht' : rw' k / 2048 = t at *
    generalize hp' : rw' k / 1024 % 2 = ph at *
    generalize ha' : rw' k / 32 % 32 = a at *
    generalize hb' : rw' k % 32 = b at *
    have t24 := hc.1
    generalize hX : upM M 79 p (M 79 p ||| ((1 : Int32) <<< (nI t &&& 31))) = X
    have x1 : ∀ q, q ≠ 79 → X q = M q := fun q hq => by rw [← hX, upM_k hq]
    have x2 : ∀ q, X 79 q = if q = p then M 79 p ||| ((1 : Int32) <<< (nI t &&& 31)) else M 79 q := fun q => by
      rw [← hX, upM_ap]
      by_cases e : q = p
      · rw [if_pos ⟨rfl, e⟩, if_pos e]
      · rw [if_neg (fun w => e w.2), if_neg e]
    obtain ⟨M', e, hK, V', dp', pr', m', an', hQ', w1, w2, w3, w4, w5, w6⟩ := goes_spec (fu := fu) (Y := gN A i) (D := dep A i) hp (by omega) hc (hQ.nd (fun q _ g => x1 q g)) ht r1 r2 r3 (by rw [← hdec]; exact hVk) (by rw [← hdec]; exact hdk) (by omega) (by rw [← hdec]; exact hgk)
    rw [← hdec] at e
    have n77 : ∀ q, q ≠ 77 → nd7 p c t ph a b X q = X q := fun q hq => by
      unfold nd7
      split
      · rw [upM_k hq]
      · rfl
    have m1 : ∀ q, q ≠ 70 → q ≠ 77 → q ≠ 79 → q ≠ 87 → q ≠ 88 → q ≠ 90 → M' q = M q := fun q g1 g2 g3 g4 g5 g6 => by rw [hK.1 q g1 g4 g5 g6, n77 q g2, x1 q g3]
    have m2 : ∀ f, f ≠ 26 → M' 70 f = M 70 f := fun f hf => by rw [hK.2 f hf, n77 _ (by omega), x1 _ (by omega)]
    have m77 : ∀ q, M' 77 q = if c.2.1 t = 7 ∧ q = 64 * p + 32 * ph + a then M 77 q ||| ((1 : Int32) <<< (nI b &&& 31)) else M 77 q := fun q => by
      rw [hK.1 77 (by omega) (by omega) (by omega) (by omega)]
      unfold nd7
      by_cases e7 : c.2.1 t = 7
      · rw [if_pos e7, upM_ap, x1 _ (by omega)]
        by_cases eq : q = 64 * p + 32 * ph + a
        · rw [if_pos ⟨rfl, eq⟩, if_pos ⟨e7, eq⟩, eq]
        · rw [if_neg (fun w => eq w.2), if_neg (fun w => eq w.2)]
      · rw [if_neg e7, if_neg (fun w => e7 w.1), x1 _ (by omega)]
    have m79 : ∀ q, M' 79 q = X 79 q := fun q => by rw [hK.1 79 (by omega) (by omega) (by omega) (by omega), n77 _ (by omega)]
    refine ⟨M', e, ⟨fun q g1 g2 g3 _ g5 g6 _ g8 => m1 q g1 g2 g3 g5 g6 g8, fun f _ _ g => m2 f g, fun x hx => ?_, fun x hx => ?_⟩, V', dp', pr', m', an', hQ', ?_, hg, ?_, hA, ⟨fun z => ?_, fun q hq => ?_, fun z v nv => ?_, fun g z g0 gz => ?_⟩, fun ph0 a0 b0 u1 u2 u3 => ?_, fun t0 ht0 => ?_⟩
    · rw [m77, if_neg (by omega)]
    · rw [m79, x2, if_neg hx]
    · exact ⟨by rw [m2 _ (by omega)]; exact hr.1, hr.2.1, fun j hj => by rw [m1 _ (by omega) (by omega) (by omega) (by omega) (by omega) (by omega)]; exact hr.2.2.1 j hj, hr.2.2.2⟩
    · exact ⟨by rw [m2 _ (by omega)]; exact hk.1, fun g j g0 g1 g2 => by rw [m1 _ (by omega) (by omega) (by omega) (by omega) (by omega) (by omega)]; exact hk.2 g j g0 g1 g2⟩
    · rw [w3, s1, ex2, or_assoc]
      have : wN c (rw' k) z ↔ Wm c t ph a b z := by
        unfold wN
        rw [ht', hp', ha', hb']
        exact ⟨fun w => w.2, fun w => ⟨ht, w⟩⟩
      rw [this]
    · rcases Nat.lt_or_ge q m with y | y
      · rw [w2 q y]
        obtain ⟨y1, y2, y3, y4, y5⟩ := s2 q y
        have vq := (hQ.2.2.2.1 q y).2.2
        refine ⟨y1, (w4 _ vq).1.trans y2, y3, (w4 _ vq).2.trans y4, y5⟩
      · obtain ⟨y1, y2, y3, y4⟩ := w5 q y hq
        exact ⟨fun v => y1 ((s1 _).mpr (Or.inl v)), y3, y4⟩
    · rcases Classical.em (V z) with vz | vz
      · obtain ⟨q, q1, q2⟩ := s3 z vz nv
        exact ⟨q, by omega, by rw [w2 q q1]; exact q2⟩
      · obtain ⟨q, q1, q2, q3⟩ := w6 z (((w3 z).mp v).resolve_left vz) vz
        exact ⟨q, q2, q3⟩
    · have vz : V z := (s1 z).mpr (Or.inl (vN_g.mpr ⟨g, g0, gz⟩))
      obtain ⟨y1, y2⟩ := s4 g z g0 gz
      refine ⟨(w4 z vz).1.trans y1, fun g1 => ?_⟩
      obtain ⟨y, y3, y4⟩ := y2 g1
      exact ⟨y, (w4 z vz).2.trans y3, y4⟩
    · rw [ex, m77]
      have key : (rw' k / 2048 < c.1 ∧ c.2.1 (rw' k / 2048) = 7 ∧ rw' k = sn (rw' k / 2048) ph0 a0 b0) ↔ (c.2.1 t = 7 ∧ ph0 = ph ∧ a0 = a ∧ b0 = b) := by
        rw [ht']
        constructor
        · rintro ⟨-, z1, z2⟩
          obtain ⟨-, z3, z4, z5⟩ := sn_t (t := t) u1 u2 u3
          rw [← z2] at z3 z4 z5
          exact ⟨z1, by omega, by omega, by omega⟩
        · rintro ⟨z1, rfl, rfl, rfl⟩
          exact ⟨ht, z1, hdec⟩
      rw [key]
      by_cases e7 : c.2.1 t = 7 ∧ 64 * p + 32 * ph0 + a0 = 64 * p + 32 * ph + a
      · rw [if_pos e7, b_or, hot b r3 b0 u3]
        have eph : ph0 = ph := by omega
        have ea : a0 = a := by omega
        rw [Bool.or_eq_true, decide_eq_true_iff, hB1 ph0 a0 b0 u1 u2 u3]
        constructor
        · rintro (w | w)
          · exact Or.inl w
          · exact Or.inr ⟨e7.1, eph, ea, w⟩
        · rintro (w | w)
          · exact Or.inl w
          · exact Or.inr w.2.2.2
      · rw [if_neg e7, hB1 ph0 a0 b0 u1 u2 u3]
        exact ⟨Or.inl, fun w => w.elim id (fun v => absurd ⟨v.1, by rw [v.2.1, v.2.2.1]⟩ e7)⟩
    · rw [ex, m79, x2, if_pos rfl, b_or, hot t (by omega) t0 (by omega), Bool.or_eq_true, decide_eq_true_iff, hB2 t0 ht0, ht']
      constructor
      · rintro (w | w)
        · exact Or.inl w
        · exact Or.inr w.symm
      · rintro (w | w)
        · exact Or.inl w
        · exact Or.inr w.symm
