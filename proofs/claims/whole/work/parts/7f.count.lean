/-! count. -/
def csum (T : Nat → Int32) : Nat → Nat
  | 0 => 0
  | n + 1 => csum T n + pc (T n)
theorem pc_le (x : Int32) : pc x ≤ 32 := fb_ct_le _ _
theorem csum_le (T : Nat → Int32) : ∀ n, csum T n ≤ 32 * n
  | 0 => Nat.le_refl _
  | n + 1 => by have := csum_le T n; have := pc_le (T n); show csum T n + pc (T n) ≤ _; omega
theorem nI_p0 (a : Nat) : nI a + 0 = nI a := by
  rw [show (0 : Int32) = nI 0 from rfl, nI_add]; rfl
theorem ci_L {q ph : Nat} (h1 : ph < 2) {T : Nat → Int32} {M : Mem} (hT : ∀ d, d < 32 → M (q + 1) (32 * ph + d) = T d) (kk : Mem → Int32 → Int32 → Option (Int32 × Mem)) :
    ∀ (n x f : Nat), x + n = 32 → n < f → f_X0_callsIn_L4 q (nI ph) kk f M (nI (csum T x)) (nI x) = kk M (nI (csum T 32)) (nI 32) := by
  intro n
  induction n with
  | zero =>
    intro x f hx hf
    obtain ⟨f', rfl⟩ : ∃ f', f = f' + 1 := ⟨f - 1, by omega⟩
    rw [f_X0_callsIn_L4, if_pos (by rw [c32]; exact nI_le (by omega) (by omega)), show x = 32 by omega]
  | succ n ih =>
    intro x f hx hf
    obtain ⟨f', rfl⟩ : ∃ f', f = f' + 1 := ⟨f - 1, by omega⟩
    rw [f_X0_callsIn_L4, if_neg (by rw [c32]; exact nI_ge (by omega) (by omega)), e_args h1 (by omega), bnd_some, hT x (by omega), e_bitCount, bnd_some]
    unfold nm
    dsimp only
    rw [nI_add, nI_1]
    exact ih (x + 1) f' (by omega) (by omega)
theorem e_callsIn {fu q ph : Nat} (hfu : 32 < fu) (h1 : ph < 2) {T : Nat → Int32} {M : Mem} (hT : ∀ d, d < 32 → M (q + 1) (32 * ph + d) = T d) : f_X0_callsIn fu q (nI ph) M = some (nI (csum T 32), M) :=
  ci_L h1 hT (fun M6 y7 _ => some (y7, M6)) 32 0 fu (by omega) hfu
theorem co_in {fu : Nat} (hfu : 51200 < fu) {cc : Nat → Cd} {p ph d : Nat} (hp : p < 4) (h1 : ph < 2) (h2 : d < 32) (kk : Mem → Int32 → Int32 → Option (Int32 × Mem)) :
    ∀ (n x f s : Nat) (M : Mem), x + n = 32 → n < f → Inv cc M → ∃ M', f_X9_callsOf_L16 fu (nI p) (nI ph) 0 (nI d) kk f M (nI (s + fb_ct (bt (nv (cc p) ph d)) x)) (nI x) = kk M' (nI (s + pc (nv (cc p) ph d))) (nI 32) ∧ Inv cc M' := by
  intro n
  induction n with
  | zero =>
    intro x f s M hx hf h
    obtain ⟨f', rfl⟩ : ∃ f', f = f' + 1 := ⟨f - 1, by omega⟩
    rw [f_X9_callsOf_L16, if_pos (by rw [c32]; exact nI_le (by omega) (by omega)), show x = 32 by omega]
    exact ⟨M, rfl, h⟩
  | succ n ih =>
    intro x f s M hx hf h
    obtain ⟨f', rfl⟩ : ∃ f', f = f' + 1 := ⟨f - 1, by omega⟩
    obtain ⟨M1, e1, i1, -⟩ := iv_need hfu h hp h1 h2
    rw [f_X9_callsOf_L16, if_neg (by rw [c32]; exact nI_ge (by omega) (by omega)), if_pos rfl, e1, bnd_some, e_has9 _ (by omega), bnd_some]
    unfold nm
    dsimp only
    have q := ih (x + 1) f' s M1 (by omega) (by omega) i1
    rw [fb_ct_succ] at q
    cases hb : bt (nv (cc p) ph d) x
    · rw [hb, if_neg (by decide), Nat.add_zero] at q
      rw [if_pos ((t01 _).mpr rfl), nI_p0, nI_1]
      exact q
    · rw [hb, if_pos rfl, ← Nat.add_assoc] at q
      rw [if_neg (fun w => absurd ((t01 _).mp w) (by decide)), nI_1, nI_1]
      exact q
theorem co_inS {fu p ph d : Nat} (hp : p < 4) (h1 : ph < 2) (h2 : d < 32) {M : Mem} {v : Int32} (hv : M 78 (64 * p + (32 * ph + d)) = v) (kk : Mem → Int32 → Int32 → Option (Int32 × Mem)) :
    ∀ (n x f s : Nat), x + n = 32 → n < f → f_X9_callsOf_L16 fu (nI p) (nI ph) 1 (nI d) kk f M (nI (s + fb_ct (bt v) x)) (nI x) = kk M (nI (s + pc v)) (nI 32) := by
  intro n
  induction n with
  | zero =>
    intro x f s hx hf
    obtain ⟨f', rfl⟩ : ∃ f', f = f' + 1 := ⟨f - 1, by omega⟩
    rw [f_X9_callsOf_L16, if_pos (by rw [c32]; exact nI_le (by omega) (by omega)), show x = 32 by omega]
    rfl
  | succ n ih =>
    intro x f s hx hf
    obtain ⟨f', rfl⟩ : ∃ f', f = f' + 1 := ⟨f - 1, by omega⟩
    rw [f_X9_callsOf_L16, if_neg (by rw [c32]; exact nI_ge (by omega) (by omega)), if_neg (by decide)]
    unfold nm
    dsimp only
    have q := ih (x + 1) f' s (by omega) (by omega)
    rw [fb_ct_succ] at q
    have ea : (64 : Int32) * nI p + (32 : Int32) * nI ph + nI d = nI (64 * p + (32 * ph + d)) := by
      rw [c64, c32, pk_mul, pk_mul, nI_add, nI_add, Nat.add_assoc]
    rw [ea, ixT (by omega) (by omega), if_pos rfl, nI_clamp (by omega), hv, e_has9 _ (by omega), bnd_some]
    cases hb : bt v x
    · rw [hb, if_neg (by decide), Nat.add_zero] at q
      rw [if_pos ((t01 _).mpr rfl), nI_p0, nI_1]
      exact q
    · rw [hb, if_pos rfl, ← Nat.add_assoc] at q
      rw [if_neg (fun w => absurd ((t01 _).mp w) (by decide)), nI_1, nI_1]
      exact q
theorem co_out {fu : Nat} (hfu : 51200 < fu) {cc : Nat → Cd} {p ph : Nat} (hp : p < 4) (h1 : ph < 2) (kk : Mem → Int32 → Int32 → Option (Int32 × Mem)) :
    ∀ (n x f : Nat) (M : Mem), x + n = 32 → n < f → Inv cc M → ∃ M', f_X9_callsOf_L6 fu (nI p) (nI ph) 0 kk f M (nI (csum (nv (cc p) ph) x)) (nI x) = kk M' (nI (csum (nv (cc p) ph) 32)) (nI 32) ∧ Inv cc M' := by
  intro n
  induction n with
  | zero =>
    intro x f M hx hf h
    obtain ⟨f', rfl⟩ : ∃ f', f = f' + 1 := ⟨f - 1, by omega⟩
    rw [f_X9_callsOf_L6, if_pos (by rw [c32]; exact nI_le (by omega) (by omega)), show x = 32 by omega]
    exact ⟨M, rfl, h⟩
  | succ n ih =>
    intro x f M hx hf h
    obtain ⟨f', rfl⟩ : ∃ f', f = f' + 1 := ⟨f - 1, by omega⟩
    rw [f_X9_callsOf_L6, if_neg (by rw [c32]; exact nI_ge (by omega) (by omega)), nI_1]
    generalize hK : (fun M12 y13 (y14 : Int32) => f_X9_callsOf_L6 fu (nI p) (nI ph) 0 kk f' M12 y13 (nI (x + 1))) = K
    obtain ⟨M1, e1, i1⟩ := co_in hfu hp h1 (by omega : x < 32) K 32 0 fu (csum (nv (cc p) ph) x) M (by omega) (by omega) h
    have e1' : f_X9_callsOf_L16 fu (nI p) (nI ph) 0 (nI x) K fu M (nI (csum (nv (cc p) ph) x)) 0 = K M1 (nI (csum (nv (cc p) ph) x + pc (nv (cc p) ph x))) (nI 32) := e1
    rw [e1', ← hK]
    exact ih (x + 1) f' M1 (by omega) (by omega) i1
theorem co_outS {fu : Nat} (hfu : 51200 < fu) {p ph : Nat} (hp : p < 4) (h1 : ph < 2) {M : Mem} {T : Nat → Int32} (hT : ∀ d, d < 32 → M 78 (64 * p + (32 * ph + d)) = T d) (kk : Mem → Int32 → Int32 → Option (Int32 × Mem)) :
    ∀ (n x f : Nat), x + n = 32 → n < f → f_X9_callsOf_L6 fu (nI p) (nI ph) 1 kk f M (nI (csum T x)) (nI x) = kk M (nI (csum T 32)) (nI 32) := by
  intro n
  induction n with
  | zero =>
    intro x f hx hf
    obtain ⟨f', rfl⟩ : ∃ f', f = f' + 1 := ⟨f - 1, by omega⟩
    rw [f_X9_callsOf_L6, if_pos (by rw [c32]; exact nI_le (by omega) (by omega)), show x = 32 by omega]
  | succ n ih =>
    intro x f hx hf
    obtain ⟨f', rfl⟩ : ∃ f', f = f' + 1 := ⟨f - 1, by omega⟩
    rw [f_X9_callsOf_L6, if_neg (by rw [c32]; exact nI_ge (by omega) (by omega)), nI_1]
    generalize hK : (fun M12 y13 (y14 : Int32) => f_X9_callsOf_L6 fu (nI p) (nI ph) 1 kk f' M12 y13 (nI (x + 1))) = K
    have e1 := co_inS (fu := fu) hp h1 (by omega : x < 32) (hT x (by omega)) K 32 0 fu (csum T x) (by omega) (by omega)
    have e1' : f_X9_callsOf_L16 fu (nI p) (nI ph) 1 (nI x) K fu M (nI (csum T x)) 0 = K M (nI (csum T x + pc (T x))) (nI 32) := e1
    rw [e1', ← hK]
    exact ih (x + 1) f' (by omega) (by omega)
theorem sm_count {fu : Nat} (hfu : 51200 < fu) (a w : Int32) : Sm (f_X8_count fu a w) (f_X9_count fu a w) := by
  intro cc M h
  by_cases ha : a = -1
  · subst ha
    obtain ⟨e, -, z1, z2, -⟩ := h.2.2.2
    obtain ⟨n, -, y1, y2, -⟩ := h.2.1
    by_cases w0 : w = 0
    · exact Sm.same h (nI e) (by unfold f_X8_count f_X2_size; rw [if_pos rfl, if_pos w0, bnd_some, z1]) (by unfold f_X9_count; rw [if_pos rfl, if_pos w0, z2])
    by_cases w1 : w = 1
    · exact Sm.same h (nI n) (by unfold f_X8_count f_X7_size; rw [if_pos rfl, if_neg w0, if_pos w1, bnd_some, y1]) (by unfold f_X9_count; rw [if_pos rfl, if_neg w0, if_pos w1, y2])
    · exact Sm.same h (-1) (by unfold f_X8_count; rw [if_pos rfl, if_neg w0, if_neg w1]) (by unfold f_X9_count; rw [if_pos rfl, if_neg w0, if_neg w1])
  rcases pk2 a (n := 4) (by omega) with z | ⟨p, hp, rfl⟩
  · exact Sm.same h (-1) (by unfold f_X8_count; rw [if_neg ha, p8_no z, bnd_some, if_pos rfl]) (by unfold f_X9_count; rw [if_neg ha, p9_no z, bnd_some, if_pos rfl])
  obtain ⟨hC, -⟩ := h.1 p hp
  have need : ∀ (ph : Nat), ph < 2 → ∀ (X8 : Mem → Option (Int32 × Mem)) (X9 : Mem → Option (Int32 × Mem)), (∀ M1, f_X4_searched fu p M = some (0, M1) → X8 M = bnd (f_X0_callsIn fu (13 * p + 11) (nI ph) M1) (fun r17 M18 => some (r17, M18))) → (∀ M1, X9 M1 = bnd (f_X9_callsOf fu (nI p) (nI ph) 0 M1) (fun r5 M6 => some (r5, M6))) → ∃ r M1 M2 cc', X8 M = some (r, M1) ∧ X9 M1 = some (r, M2) ∧ Inv cc' M2 := by
    intro ph hph X8 X9 x8 x9
    obtain ⟨M1, e1, i1, -, A, hA, hS⟩ := iv_search hfu h hp
    obtain ⟨M2, e2, i2⟩ := co_out hfu hp hph (fun M15 y16 _ => some (y16, M15)) 32 0 fu M1 (by omega) (by omega) i1
    have e2' : f_X9_callsOf fu (nI p) (nI ph) 0 M1 = some (nI (csum (nv (cc p) ph) 32), M2) := e2
    refine ⟨nI (csum (nv (cc p) ph) 32), M1, M2, cc, ?_, ?_, i2⟩
    · rw [x8 M1 e1, e_callsIn (by omega) hph (T := nv (cc p) ph) (fun d hd => by rw [show 13 * p + 11 + 1 = 13 * p + 12 by omega]; exact sx_nv hA hS hph hd), bnd_some]
    · rw [x9, e2', bnd_some]
  have seen : ∀ (ph : Nat), ph < 2 → ∀ (X8 : Mem → Option (Int32 × Mem)) (X9 : Mem → Option (Int32 × Mem)), (X8 M = bnd (f_X0_callsIn fu (13 * p + 13) (nI ph) M) (fun r17 M18 => some (r17, M18))) → (∀ M1, X9 M1 = bnd (f_X9_callsOf fu (nI p) (nI ph) 1 M1) (fun r5 M6 => some (r5, M6))) → ∃ r M1 M2 cc', X8 M = some (r, M1) ∧ X9 M1 = some (r, M2) ∧ Inv cc' M2 := by
    intro ph hph X8 X9 x8 x9
    have e2 := co_outS hfu hp hph (M := M) (T := fun d => M (13 * p + 14) (32 * ph + d)) (fun d hd => (hC.2.2.2 _ (by omega)).symm) (fun M15 y16 _ => some (y16, M15)) 32 0 fu (by omega) (by omega)
    have e2' : f_X9_callsOf fu (nI p) (nI ph) 1 M = some (nI (csum (fun d => M (13 * p + 14) (32 * ph + d)) 32), M) := e2
    refine ⟨nI (csum (fun d => M (13 * p + 14) (32 * ph + d)) 32), M, M, cc, ?_, ?_, h⟩
    · rw [x8, e_callsIn (by omega) hph (T := fun d => M (13 * p + 14) (32 * ph + d)) (fun d hd => rfl), bnd_some]
    · rw [x9, e2', bnd_some]
  have li : ∀ (k : Nat) (X : Mem), k ≤ 4 → f_X9_lies (nI k) 0 4 X = some (1, X) := fun k X hk => li_yes (n := 4) hk (by omega) X
  by_cases w0 : w = 0
  · subst w0
    refine Sm.same h (nI (cc p).1) ?_ ?_
    · unfold f_X8_count f_X5_instructions f_X1_length
      rw [if_neg ha, p8_yes hp, bnd_some, if_neg (by decide), if_pos rfl, ixT hp (by omega), if_pos rfl, nI_clamp (by omega), bnd_some, bnd_some, hC.2.1.1]
    · unfold f_X9_count
      have l0 : f_X9_lies 0 0 4 M = some (1, M) := li 0 M (by omega)
      rw [if_neg ha, p9_yes hp, bnd_some, if_neg (by decide), l0, bnd_some, if_neg (by decide), if_pos rfl, ixT hp (by omega), if_pos rfl, nI_clamp (by omega), hC.2.2.1.1]
  by_cases w1 : w = 1
  · subst w1
    refine need 0 (by omega) _ _ (fun M1 e1 => ?_) (fun M1 => ?_)
    · unfold f_X8_count f_X5_paths f_X4_calls
      rw [if_neg ha, p8_yes hp, bnd_some, if_neg (by decide), if_neg (by decide), if_pos rfl, ixT hp (by omega), if_pos rfl, nI_clamp (by omega), bnd_some, e1, bnd_some, bnd_some]
      rfl
    · unfold f_X9_count
      have l0 : f_X9_lies 1 0 4 M1 = some (1, M1) := li 1 M1 (by omega)
      rw [if_neg ha, p9_yes hp, bnd_some, if_neg (by decide), l0, bnd_some, if_neg (by decide), if_neg (by decide), if_pos (by decide)]
      rfl
  by_cases w2 : w = 2
  · subst w2
    refine need 1 (by omega) _ _ (fun M1 e1 => ?_) (fun M1 => ?_)
    · unfold f_X8_count f_X5_paths f_X4_calls
      rw [if_neg ha, p8_yes hp, bnd_some, if_neg (by decide), if_neg (by decide), if_neg (by decide), if_pos rfl, ixT hp (by omega), if_pos rfl, nI_clamp (by omega), bnd_some, e1, bnd_some, bnd_some]
      rfl
    · unfold f_X9_count
      have l0 : f_X9_lies 2 0 4 M1 = some (1, M1) := li 2 M1 (by omega)
      rw [if_neg ha, p9_yes hp, bnd_some, if_neg (by decide), l0, bnd_some, if_neg (by decide), if_neg (by decide), if_pos (by decide)]
      rfl
  by_cases w3 : w = 3
  · subst w3
    refine seen 0 (by omega) _ _ ?_ (fun M1 => ?_)
    · unfold f_X8_count f_X5_called
      rw [if_neg ha, p8_yes hp, bnd_some, if_neg (by decide), if_neg (by decide), if_neg (by decide), if_neg (by decide), if_pos rfl, ixT hp (by omega), if_pos rfl, nI_clamp (by omega), bnd_some]
      rfl
    · unfold f_X9_count
      have l0 : f_X9_lies 3 0 4 M1 = some (1, M1) := li 3 M1 (by omega)
      rw [if_neg ha, p9_yes hp, bnd_some, if_neg (by decide), l0, bnd_some, if_neg (by decide), if_neg (by decide), if_neg (by decide)]
      rfl
  by_cases w4 : w = 4
  · subst w4
    refine seen 1 (by omega) _ _ ?_ (fun M1 => ?_)
    · unfold f_X8_count f_X5_called
      rw [if_neg ha, p8_yes hp, bnd_some, if_neg (by decide), if_neg (by decide), if_neg (by decide), if_neg (by decide), if_neg (by decide), if_pos rfl, ixT hp (by omega), if_pos rfl, nI_clamp (by omega), bnd_some]
      rfl
    · unfold f_X9_count
      have l0 : f_X9_lies 4 0 4 M1 = some (1, M1) := li 4 M1 (by omega)
      rw [if_neg ha, p9_yes hp, bnd_some, if_neg (by decide), l0, bnd_some, if_neg (by decide), if_neg (by decide), if_neg (by decide)]
      rfl
  rcases pk2 w (n := 5) (by omega) with z | ⟨j, hj, rfl⟩
  · refine Sm.same h (-1) ?_ ?_
    · unfold f_X8_count
      rw [if_neg ha, p8_yes hp, bnd_some, if_neg (by decide), if_neg w0, if_neg w1, if_neg w2, if_neg w3, if_neg w4]
    · unfold f_X9_count
      have l0 : f_X9_lies w 0 4 M = some (0, M) := li_no (n := 4) (by omega) z M
      rw [if_neg ha, p9_yes hp, bnd_some, if_neg (by decide), l0, bnd_some, if_pos rfl]
  · exfalso
    have : j = 0 ∨ j = 1 ∨ j = 2 ∨ j = 3 ∨ j = 4 := by omega
    rcases this with rfl | rfl | rfl | rfl | rfl
    · exact w0 rfl
    · exact w1 rfl
    · exact w2 rfl
    · exact w3 rfl
    · exact w4 rfl
