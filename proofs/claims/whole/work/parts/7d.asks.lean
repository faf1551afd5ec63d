/-! needed, seen, ended, melted, fresh. -/
theorem pk2 (x : Int32) {n : Nat} (hn : n < 2 ^ 31) : (x < 0 ∨ nI n ≤ x) ∨ ∃ j : Nat, j < n ∧ x = nI j := by
  rcases pk_ix x hn with h | h | h
  · exact Or.inl (Or.inl h)
  · exact Or.inl (Or.inr h)
  · exact Or.inr h
theorem and1' (y : Int32) : y &&& 1 = 1 ↔ bt y 0 = true := by
  constructor
  · intro h
    have h1 : bt (y &&& 1) 0 = bt 1 0 := by rw [h]
    rw [b_and, b_1 0 (by omega)] at h1
    simpa using h1
  · intro h
    apply b_ext
    intro i hi
    rw [b_and, b_1 i hi]
    by_cases e : i = 0
    · subst e; rw [h]; rfl
    · simp [e]
theorem e_has9 (x : Int32) {b : Nat} (hb : b < 32) (M : Mem) : f_X9_has x (nI b) M = some (if bt x b then 1 else 0, M) := by
  unfold f_X9_has
  rw [if_neg (nI_pos (by omega))]
  have e := b_sshr b hb x (i := 0) (by omega)
  rw [Nat.add_zero, if_pos hb] at e
  by_cases h : bt x b = true
  · rw [if_pos ((and1' _).mpr (by rw [e]; exact h)), h]; rfl
  · rw [if_neg (fun w => h (by rw [← e]; exact (and1' _).mp w)), if_neg h]
theorem sm_needed {fu : Nat} (hfu : 51200 < fu) (a b c : Int32) : Sm (f_X8_needed fu a b c) (f_X9_needed fu a b c) := by
  intro cc M h
  rcases pk2 a (n := 4) (by omega) with z | ⟨p, hp, rfl⟩
  · exact Sm.same h 0 (by unfold f_X8_needed; rw [p8_no z, bnd_some, if_pos rfl]) (by unfold f_X9_needed; rw [p9_no z, bnd_some, if_pos rfl])
  rcases pk2 b (n := 2) (by omega) with z | ⟨ph, hph, rfl⟩
  · exact Sm.same h 0 (by unfold f_X8_needed; rw [p8_yes hp, bnd_some, if_neg (by decide), ph8_no z, bnd_some, if_pos rfl]) (by unfold f_X9_needed; rw [p9_yes hp, bnd_some, if_neg (by decide), pl9_no1 z, bnd_some, if_pos rfl])
  rcases pk2 c (n := 32) (by omega) with z | ⟨d, hd, rfl⟩
  · exact Sm.same h 0 (by unfold f_X8_needed; rw [p8_yes hp, bnd_some, if_neg (by decide), ph8_yes hph, bnd_some, if_neg (by decide), v8_no z, bnd_some, if_pos rfl]) (by unfold f_X9_needed; rw [p9_yes hp, bnd_some, if_neg (by decide), pl9_no2 hph z, bnd_some, if_pos rfl])
  obtain ⟨M1, e1, i1, -, A, hA, hS⟩ := iv_search hfu h hp
  obtain ⟨M2, e2, i2, -⟩ := iv_need hfu i1 hp hph hd
  refine ⟨nv (cc p) ph d, M1, M2, cc, ?_, ?_, i2⟩
  · unfold f_X8_needed f_X5_paths f_X4_calls
    rw [p8_yes hp, bnd_some, if_neg (by decide), ph8_yes hph, bnd_some, if_neg (by decide), v8_yes hd, bnd_some, if_neg (by decide), ixT hp (by omega), if_pos rfl, nI_clamp (by omega), bnd_some, e1, bnd_some, bnd_some, iv_args hA hS hph hd, bnd_some]
  · unfold f_X9_needed
    rw [p9_yes hp, bnd_some, if_neg (by decide), pl9_yes hph hd, bnd_some, if_neg (by decide), e2, bnd_some]
theorem sm_seen (a b c : Int32) : Sm (f_X8_seen a b c) (f_X9_seen a b c) := by
  intro cc M h
  rcases pk2 a (n := 4) (by omega) with z | ⟨p, hp, rfl⟩
  · exact Sm.same h 0 (by unfold f_X8_seen; rw [p8_no z, bnd_some, if_pos rfl]) (by unfold f_X9_seen; rw [p9_no z, bnd_some, if_pos rfl])
  rcases pk2 b (n := 2) (by omega) with z | ⟨ph, hph, rfl⟩
  · exact Sm.same h 0 (by unfold f_X8_seen; rw [p8_yes hp, bnd_some, if_neg (by decide), ph8_no z, bnd_some, if_pos rfl]) (by unfold f_X9_seen; rw [p9_yes hp, bnd_some, if_neg (by decide), pl9_no1 z, bnd_some, if_pos rfl])
  rcases pk2 c (n := 32) (by omega) with z | ⟨d, hd, rfl⟩
  · exact Sm.same h 0 (by unfold f_X8_seen; rw [p8_yes hp, bnd_some, if_neg (by decide), ph8_yes hph, bnd_some, if_neg (by decide), v8_no z, bnd_some, if_pos rfl]) (by unfold f_X9_seen; rw [p9_yes hp, bnd_some, if_neg (by decide), pl9_no2 hph z, bnd_some, if_pos rfl])
  refine Sm.same h (M (13 * p + 14) (32 * ph + d)) ?_ ?_
  · unfold f_X8_seen f_X5_called
    rw [p8_yes hp, bnd_some, if_neg (by decide), ph8_yes hph, bnd_some, if_neg (by decide), v8_yes hd, bnd_some, if_neg (by decide), ixT hp (by omega), if_pos rfl, nI_clamp (by omega), bnd_some, e_args hph hd, bnd_some]
  · unfold f_X9_seen nm
    dsimp only
    rw [p9_yes hp, bnd_some, if_neg (by decide), pl9_yes hph hd, bnd_some, if_neg (by decide), c64, c32, pk_mul, pk_mul, nI_add, nI_add, ixT (by omega) (by omega), if_pos rfl, nI_clamp (by omega), (h.1 p hp).1.2.2.2 _ (by omega), show 64 * p + 32 * ph + d = 64 * p + (32 * ph + d) by omega]
theorem sm_ended : Sm f_X8_ended f_X9_ended := by
  intro cc M h
  exact Sm.same h (M 60 5) rfl (by unfold f_X9_ended; rw [h.2.2.1])
/-- the lists of a set, melted -/
noncomputable def ml (cc : Nat → Cd) (s : Int32) (ph d : Nat) : Nat → Int32
  | 0 => 0
  | p + 1 => if bt s p then ml cc s ph d p ||| nv (cc p) ph d else ml cc s ph d p
theorem t01 (b : Bool) : ((if b = true then (1 : Int32) else 0) = 0) ↔ b = false := by cases b <;> decide
theorem ml_8 {fu : Nat} (hfu : 51200 < fu) {cc : Nat → Cd} {s : Int32} {ph d : Nat} (h1 : ph < 2) (h2 : d < 32) (kk : Mem → Int32 → Int32 → Option (Int32 × Mem)) :
    ∀ (n x f : Nat) (M : Mem), x + n = 4 → n < f → Inv cc M → ∃ M', f_X8_melted_L29 fu s (nI ph) (nI d) kk f M (ml cc s ph d x) (nI x) = kk M' (ml cc s ph d 4) (nI 4) ∧ Inv cc M' := by
  intro n
  induction n with
  | zero =>
    intro x f M hx hf h
    obtain ⟨f', rfl⟩ : ∃ f', f = f' + 1 := ⟨f - 1, by omega⟩
    rw [f_X8_melted_L29, if_pos (by rw [c4]; exact nI_le (by omega) (by omega)), show x = 4 by omega]
    exact ⟨M, rfl, h⟩
  | succ n ih =>
    intro x f M hx hf h
    obtain ⟨f', rfl⟩ : ∃ f', f = f' + 1 := ⟨f - 1, by omega⟩
    have hp : x < 4 := by omega
    rw [f_X8_melted_L29, if_neg (by rw [c4]; exact nI_ge (by omega) (by omega)), e_holds _ (by omega), bnd_some]
    cases hb : bt s x
    · rw [if_pos ((t01 _).mpr rfl), nI_1]
      have e : ml cc s ph d x = ml cc s ph d (x + 1) := by
        show _ = (if bt s x then ml cc s ph d x ||| nv (cc x) ph d else ml cc s ph d x)
        rw [hb]; rfl
      rw [e]
      exact ih (x + 1) f' M (by omega) (by omega) h
    · obtain ⟨M1, e1, i1, -, A, hA, hS⟩ := iv_search hfu h hp
      rw [if_neg (fun w => absurd ((t01 _).mp w) (by decide)), ixT hp (by omega), if_pos rfl, nI_clamp (by omega)]
      unfold f_X5_paths f_X4_calls nm
      dsimp only
      rw [bnd_some, e1, bnd_some, bnd_some, iv_args hA hS h1 h2, bnd_some, nI_1]
      have e : ml cc s ph d x ||| nv (cc x) ph d = ml cc s ph d (x + 1) := by
        show _ = (if bt s x then ml cc s ph d x ||| nv (cc x) ph d else ml cc s ph d x)
        rw [hb]; rfl
      rw [e]
      exact ih (x + 1) f' M1 (by omega) (by omega) i1
theorem ml_9 {fu : Nat} (hfu : 51200 < fu) {cc : Nat → Cd} {s : Int32} {ph d : Nat} (h1 : ph < 2) (h2 : d < 32) (kk : Mem → Int32 → Int32 → Option (Int32 × Mem)) :
    ∀ (n x f : Nat) (M : Mem), x + n = 4 → n < f → Inv cc M → ∃ M', f_X9_meltedOf_L6 fu s (nI ph) (nI d) kk f M (ml cc s ph d x) (nI x) = kk M' (ml cc s ph d 4) (nI 4) ∧ Inv cc M' ∧ mY M M' := by
  intro n
  induction n with
  | zero =>
    intro x f M hx hf h
    obtain ⟨f', rfl⟩ : ∃ f', f = f' + 1 := ⟨f - 1, by omega⟩
    rw [f_X9_meltedOf_L6, if_pos (by rw [c4]; exact nI_le (by omega) (by omega)), show x = 4 by omega]
    exact ⟨M, rfl, h, mY.rf M⟩
  | succ n ih =>
    intro x f M hx hf h
    obtain ⟨f', rfl⟩ : ∃ f', f = f' + 1 := ⟨f - 1, by omega⟩
    have hp : x < 4 := by omega
    rw [f_X9_meltedOf_L6, if_neg (by rw [c4]; exact nI_ge (by omega) (by omega)), e_has9 _ (by omega), bnd_some]
    cases hb : bt s x
    · rw [if_pos ((t01 _).mpr rfl), nI_1]
      have e : ml cc s ph d x = ml cc s ph d (x + 1) := by
        show _ = (if bt s x then ml cc s ph d x ||| nv (cc x) ph d else ml cc s ph d x)
        rw [hb]; rfl
      rw [e]
      exact ih (x + 1) f' M (by omega) (by omega) h
    · obtain ⟨M1, e1, i1, y1⟩ := iv_need hfu h hp h1 h2
      rw [if_neg (fun w => absurd ((t01 _).mp w) (by decide)), e1, bnd_some]
      unfold nm
      rw [nI_1]
      have e : ml cc s ph d x ||| nv (cc x) ph d = ml cc s ph d (x + 1) := by
        show _ = (if bt s x then ml cc s ph d x ||| nv (cc x) ph d else ml cc s ph d x)
        rw [hb]; rfl
      dsimp only
      rw [e]
      obtain ⟨M2, e2, i2, y2⟩ := ih (x + 1) f' M1 (by omega) (by omega) i1
      exact ⟨M2, e2, i2, y1.tr y2⟩
theorem e_meltedOf {fu : Nat} (hfu : 51200 < fu) {cc : Nat → Cd} (s : Int32) {ph d : Nat} (h1 : ph < 2) (h2 : d < 32) {M : Mem} (h : Inv cc M) :
    ∃ M', f_X9_meltedOf fu s (nI ph) (nI d) M = some (ml cc s ph d 4, M') ∧ Inv cc M' ∧ mY M M' :=
  ml_9 hfu h1 h2 (fun M6 y7 _ => some (y7, M6)) 4 0 fu M (by omega) (by omega) h
theorem sm_melted {fu : Nat} (hfu : 51200 < fu) (a b c : Int32) : Sm (f_X8_melted fu a b c) (f_X9_melted fu a b c) := by
  intro cc M h
  rcases pk2 a (n := 16) (by omega) with z | ⟨p, hp, rfl⟩
  · exact Sm.same h 0 (by unfold f_X8_melted; rw [s8_no z, bnd_some, if_pos rfl]) (by unfold f_X9_melted; rw [s9_no z, bnd_some, if_pos rfl])
  rcases pk2 b (n := 2) (by omega) with z | ⟨ph, hph, rfl⟩
  · exact Sm.same h 0 (by unfold f_X8_melted; rw [s8_yes hp, bnd_some, if_neg (by decide), ph8_no z, bnd_some, if_pos rfl]) (by unfold f_X9_melted; rw [s9_yes hp, bnd_some, if_neg (by decide), pl9_no1 z, bnd_some, if_pos rfl])
  rcases pk2 c (n := 32) (by omega) with z | ⟨d, hd, rfl⟩
  · exact Sm.same h 0 (by unfold f_X8_melted; rw [s8_yes hp, bnd_some, if_neg (by decide), ph8_yes hph, bnd_some, if_neg (by decide), v8_no z, bnd_some, if_pos rfl]) (by unfold f_X9_melted; rw [s9_yes hp, bnd_some, if_neg (by decide), pl9_no2 hph z, bnd_some, if_pos rfl])
  obtain ⟨M1, e1, i1⟩ := ml_8 (cc := cc) hfu (s := nI p) hph hd (fun M19 y20 _ => some (y20, M19)) 4 0 fu M (by omega) (by omega) h
  obtain ⟨M2, e2, i2, -⟩ := e_meltedOf hfu (nI p) hph hd i1
  refine ⟨ml cc (nI p) ph d 4, M1, M2, cc, ?_, ?_, i2⟩
  · unfold f_X8_melted
    rw [s8_yes hp, bnd_some, if_neg (by decide), ph8_yes hph, bnd_some, if_neg (by decide), v8_yes hd, bnd_some, if_neg (by decide)]
    exact e1
  · unfold f_X9_melted
    rw [s9_yes hp, bnd_some, if_neg (by decide), pl9_yes hph hd, bnd_some, if_neg (by decide), e2, bnd_some]
theorem sm_fresh {fu : Nat} (hfu : 51200 < fu) (a a' b c : Int32) : Sm (f_X8_fresh fu a a' b c) (f_X9_fresh fu a a' b c) := by
  intro cc M h
  rcases pk2 a (n := 4) (by omega) with z | ⟨p, hp, rfl⟩
  · exact Sm.same h 0 (by unfold f_X8_fresh; rw [p8_no z, bnd_some, if_pos rfl]) (by unfold f_X9_fresh; rw [p9_no z, bnd_some, if_pos rfl])
  rcases pk2 a' (n := 4) (by omega) with z | ⟨q, hq, rfl⟩
  · exact Sm.same h 0 (by unfold f_X8_fresh; rw [p8_yes hp, bnd_some, if_neg (by decide), p8_no z, bnd_some, if_pos rfl]) (by unfold f_X9_fresh; rw [p9_yes hp, bnd_some, if_neg (by decide), p9_no z, bnd_some, if_pos rfl])
  rcases pk2 b (n := 2) (by omega) with z | ⟨ph, hph, rfl⟩
  · exact Sm.same h 0 (by unfold f_X8_fresh; rw [p8_yes hp, bnd_some, if_neg (by decide), p8_yes hq, bnd_some, if_neg (by decide), ph8_no z, bnd_some, if_pos rfl]) (by unfold f_X9_fresh; rw [p9_yes hp, bnd_some, if_neg (by decide), p9_yes hq, bnd_some, if_neg (by decide), pl9_no1 z, bnd_some, if_pos rfl])
  rcases pk2 c (n := 32) (by omega) with z | ⟨d, hd, rfl⟩
  · exact Sm.same h 0 (by unfold f_X8_fresh; rw [p8_yes hp, bnd_some, if_neg (by decide), p8_yes hq, bnd_some, if_neg (by decide), ph8_yes hph, bnd_some, if_neg (by decide), v8_no z, bnd_some, if_pos rfl]) (by unfold f_X9_fresh; rw [p9_yes hp, bnd_some, if_neg (by decide), p9_yes hq, bnd_some, if_neg (by decide), pl9_no2 hph z, bnd_some, if_pos rfl])
  obtain ⟨M1, e1, i1, -, A, hA, hS⟩ := iv_search hfu h hq
  obtain ⟨M2, e2, i2, -, B, hB, hT⟩ := iv_search hfu i1 hp
  obtain ⟨M3, e3, i3, -⟩ := iv_need hfu i2 hp hph hd
  obtain ⟨M4, e4, i4, -⟩ := iv_need hfu i3 hq hph hd
  refine ⟨nv (cc p) ph d &&& (nv (cc q) ph d ^^^ (-1)), M2, M4, cc, ?_, ?_, i4⟩
  · unfold f_X8_fresh f_X5_paths f_X4_calls
    rw [p8_yes hp, bnd_some, if_neg (by decide), p8_yes hq, bnd_some, if_neg (by decide), ph8_yes hph, bnd_some, if_neg (by decide), v8_yes hd, bnd_some, if_neg (by decide), ixT hq (by omega), if_pos rfl, nI_clamp (n := q) (by omega), bnd_some, e1, bnd_some, bnd_some, iv_args hA hS hph hd, bnd_some, ixT hp (by omega), if_pos rfl, nI_clamp (n := p) (by omega), bnd_some, e2, bnd_some, bnd_some, iv_args hB hT hph hd, bnd_some]
  · unfold f_X9_fresh
    rw [p9_yes hp, bnd_some, if_neg (by decide), p9_yes hq, bnd_some, if_neg (by decide), pl9_yes hph hd, bnd_some, if_neg (by decide), e3, bnd_some, e4, bnd_some]
