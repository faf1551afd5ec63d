/-! spans, span: class and reference. -/
theorem sp9_out {fu : Nat} (hfu : 51200 < fu) {cc : Nat → Cd} {p ph : Nat} (hp : p < 4) (h1 : ph < 2) {X : Int32} (hX : X = -1 ∨ ∃ i, i < 2 ^ 31 ∧ X = nI i) (kk : Mem → Int32 → Int32 → Option (Int32 × Mem)) :
    ∀ (n x f : Nat) (M : Mem), x + n = 32 → n < f → Inv cc M → ∃ M', f_X9_spansTo_L6 fu (nI p) (nI ph) X kk f M (nI (spS (nv (cc p) ph) x)) (nI x) = kk M' (nI (spS (nv (cc p) ph) 32)) (nI 32) ∧ Inv cc M' ∧
      ((∀ d a, x ≤ d → d < 32 → a < 32 → bt (fs (nv (cc p) ph d)) a = true → ¬ nI (spS (nv (cc p) ph) d + fb_ct (bt (fs (nv (cc p) ph d))) a) = X) → M' 70 27 = M 70 27 ∧ M' 70 28 = M 70 28 ∧ M' 70 29 = M 70 29) ∧
      ∀ d a, x ≤ d → d < 32 → a < 32 → bt (fs (nv (cc p) ph d)) a = true → nI (spS (nv (cc p) ph) d + fb_ct (bt (fs (nv (cc p) ph d))) a) = X → (∀ d' a', d < d' → d' < 32 → a' < 32 → bt (fs (nv (cc p) ph d')) a' = true → ¬ nI (spS (nv (cc p) ph) d' + fb_ct (bt (fs (nv (cc p) ph d'))) a') = X) → Hit (nv (cc p) ph d) d a M' := by
  intro n
  induction n with
  | zero =>
    intro x f M hx hf h
    obtain ⟨f', rfl⟩ : ∃ f', f = f' + 1 := ⟨f - 1, by omega⟩
    rw [f_X9_spansTo_L6, if_pos (by rw [c32]; exact nI_le (by omega) (by omega)), show x = 32 by omega]
    exact ⟨M, rfl, h, fun _ => ⟨rfl, rfl, rfl⟩, fun d a d1 d2 => by omega⟩
  | succ n ih =>
    intro x f M hx hf h
    obtain ⟨f', rfl⟩ : ∃ f', f = f' + 1 := ⟨f - 1, by omega⟩
    obtain ⟨M1, e1, i1, y1⟩ := iv_need hfu h hp h1 (show x < 32 by omega)
    rw [f_X9_spansTo_L6, if_neg (by rw [c32]; exact nI_ge (by omega) (by omega)), e1, bnd_some, nI_1]
    generalize hK : (fun M14 y15 (y16 : Int32) => f_X9_spansTo_L6 fu (nI p) (nI ph) X kk f' M14 y15 (nI (x + 1))) = K
    obtain ⟨M2, e2, u2, g1, g2⟩ := sp9_in hfu (x1 := nI p) (x2 := nI ph) (d := x) (s := spS (nv (cc p) ph) x) (nv (cc p) ph x) (by have := spS_le (nv (cc p) ph) x; omega) hX K 32 0 fu M1 (by omega) (by omega)
    have e2' : f_X9_spansTo_L26 fu (nI p) (nI ph) X (nI x) (nv (cc p) ph x) K fu M1 (nI (spS (nv (cc p) ph) x)) 0 = K M2 (nI (spS (nv (cc p) ph) x + pc (fs (nv (cc p) ph x)))) (nI 32) := e2
    rw [e2', ← hK, ← spS_s]
    dsimp only
    obtain ⟨M3, e3, i3, k1, k2⟩ := ih (x + 1) f' M2 (by omega) (by omega) (u2.inv i1)
    have f70 : ∀ f, f = 27 ∨ f = 28 ∨ f = 29 → M1 70 f = M 70 f := fun f hf => y1.2 f (by omega) (by omega) (by omega) (by omega)
    refine ⟨M3, e3, i3, fun q => ?_, fun d a d1 d2 a1 a2 a3 nn => ?_⟩
    · have q1 := k1 (fun d a d1 => q d a (by omega))
      have q2 := g1 (fun a _ a2 => q x a (Nat.le_refl _) (by omega) a2)
      rw [q2] at q1
      rw [q1.1, q1.2.1, q1.2.2]
      exact ⟨f70 27 (by omega), f70 28 (by omega), f70 29 (by omega)⟩
    · by_cases e : d = x
      · subst e
        have q1 := k1 (fun d' a' d1 d2 => nn d' a' (by omega) d2)
        have q2 := g2 a (Nat.zero_le _) a1 a2 a3
        unfold Hit
        rw [q1.1, q1.2.1, q1.2.2]
        exact q2
      · exact k2 d a (by omega) d2 a1 a2 a3 nn
theorem sm_spans {fu : Nat} (hfu : 51200 < fu) (a b : Int32) : Sm (f_X8_spans fu a b) (f_X9_spans fu a b) := by
  intro cc M h
  rcases pk2 a (n := 4) (by omega) with z | ⟨p, hp, rfl⟩
  · exact Sm.same h (-1) (by unfold f_X8_spans; rw [p8_no z, bnd_some, if_pos rfl]) (by unfold f_X9_spans; rw [p9_no z, bnd_some, if_pos rfl])
  rcases pk2 b (n := 2) (by omega) with z | ⟨ph, hph, rfl⟩
  · have l0 : f_X9_lies b 0 1 M = some (0, M) := li_no (n := 1) (by omega) z M
    exact Sm.same h (-1) (by unfold f_X8_spans; rw [p8_yes hp, bnd_some, if_neg (by decide), ph8_no z, bnd_some, if_pos rfl]) (by unfold f_X9_spans; rw [p9_yes hp, bnd_some, if_neg (by decide), l0, bnd_some, if_pos rfl])
  obtain ⟨M1, e1, i1, -, A, hA, hS⟩ := iv_search hfu h hp
  obtain ⟨M2, e2, i2, -⟩ := sp9_out hfu (cc := cc) hp hph (X := -1) (Or.inl rfl) (fun M17 y18 _ => some (y18, M17)) 32 0 fu M1 (by omega) (by omega) i1
  have e2' : f_X9_spansTo fu (nI p) (nI ph) (-1) M1 = some (nI (spS (nv (cc p) ph) 32), M2) := e2
  have e3 := sp8_L (q := 13 * p + 11) hph (T := nv (cc p) ph) (M := M1) (fun d hd => by rw [show 13 * p + 11 + 1 = 13 * p + 12 by omega]; exact sx_nv hA hS hph hd) (fun M8 y9 _ => some (y9, M8)) 32 0 fu (by omega) (by omega)
  have e3' : f_X0_spansIn fu (13 * p + 11) (nI ph) M1 = some (nI (spS (nv (cc p) ph) 32), M1) := e3
  have l0 : f_X9_lies (nI ph) 0 1 M1 = some (1, M1) := li_yes (n := 1) (by omega) (by omega) M1
  refine ⟨nI (spS (nv (cc p) ph) 32), M1, M2, cc, ?_, ?_, i2⟩
  · unfold f_X8_spans f_X5_paths f_X4_calls
    rw [p8_yes hp, bnd_some, if_neg (by decide), ph8_yes hph, bnd_some, if_neg (by decide), ixT hp (by omega), if_pos rfl, nI_clamp (by omega), bnd_some, e1, bnd_some, bnd_some, e3', bnd_some]
  · unfold f_X9_spans
    rw [p9_yes hp, bnd_some, if_neg (by decide), l0, bnd_some, if_neg (by decide), e2', bnd_some]
theorem sm_span {fu : Nat} (hfu : 51200 < fu) (a b x w : Int32) : Sm (f_X8_span fu a b x w) (f_X9_span fu a b x w) := by
  intro cc M h
  rcases pk2 a (n := 4) (by omega) with z | ⟨p, hp, rfl⟩
  · exact Sm.same h (-1) (by unfold f_X8_span; rw [p8_no z, bnd_some, if_pos rfl]) (by unfold f_X9_span; rw [p9_no z, bnd_some, if_pos rfl])
  rcases pk2 b (n := 2) (by omega) with z | ⟨ph, hph, rfl⟩
  · have l0 : f_X9_lies b 0 1 M = some (0, M) := li_no (n := 1) (by omega) z M
    exact Sm.same h (-1) (by unfold f_X8_span; rw [p8_yes hp, bnd_some, if_neg (by decide), ph8_no z, bnd_some, if_pos rfl]) (by unfold f_X9_span; rw [p9_yes hp, bnd_some, if_neg (by decide), l0, bnd_some, if_pos rfl])
  have lX : ∀ X : Mem, f_X9_lies (nI ph) 0 1 X = some (1, X) := fun X => li_yes (n := 1) (by omega) (by omega) X
  by_cases x0 : x < 0
  · have x0' : ¬ (0 : Int32) ≤ x := fun q => by
      rw [Int32.lt_iff_toInt_lt] at x0
      rw [Int32.le_iff_toInt_le] at q
      omega
    exact Sm.same h (-1) (by unfold f_X8_span; rw [p8_yes hp, bnd_some, if_neg (by decide), ph8_yes hph, bnd_some, if_neg (by decide), if_neg x0']) (by unfold f_X9_span; rw [p9_yes hp, bnd_some, if_neg (by decide), lX, bnd_some, if_neg (by decide), if_pos x0])
  obtain ⟨i, hi, rfl⟩ := nI_of x0
  obtain ⟨M1, e1, i1, -, A, hA, hS⟩ := iv_search hfu h hp
  obtain ⟨M2, e2, i2, -, k2⟩ := sp9_out hfu (cc := cc) hp hph (X := nI i) (Or.inr ⟨i, hi, rfl⟩) (fun M17 y18 _ => some (y18, M17)) 32 0 fu M1 (by omega) (by omega) i1
  have e2' : f_X9_spansTo fu (nI p) (nI ph) (nI i) M1 = some (nI (spS (nv (cc p) ph) 32), M2) := e2
  obtain ⟨u1, u2⟩ := pt8_L (fu := fu) (q := 13 * p + 11) hph (T := nv (cc p) ph) (M := M1) (fun d hd => by rw [show 13 * p + 11 + 1 = 13 * p + 12 by omega]; exact sx_nv hA hS hph hd) hi w (fun M10 _ _ => some ((-1 : Int32), M10)) 32 0 fu (by omega) (by omega) (Nat.zero_le _)
  have e8 : ∀ r, f_X0_spanPart fu (13 * p + 11) (nI ph) (nI i) w M1 = some (r, M1) → f_X8_span fu (nI p) (nI ph) (nI i) w M = some (r, M1) := fun r q => by
    unfold f_X8_span f_X5_paths f_X4_calls
    rw [p8_yes hp, bnd_some, if_neg (by decide), ph8_yes hph, bnd_some, if_neg (by decide), if_pos (nI_pos' hi), ixT hp (by omega), if_pos rfl, nI_clamp (by omega), bnd_some, e1, bnd_some, bnd_some, q, bnd_some]
  have e9 : f_X9_span fu (nI p) (nI ph) (nI i) w M1 = (if nI i < nI (spS (nv (cc p) ph) 32) then if w = 0 then some (M2 70 27, M2) else if w = 1 then some (M2 70 28, M2) else if w = 2 then some (M2 70 29, M2) else some ((-1), M2) else some ((-1), M2)) := by
    unfold f_X9_span
    rw [p9_yes hp, bnd_some, if_neg (by decide), lX, bnd_some, if_neg (by decide), if_neg x0, e2', bnd_some]
  have hS32 := spS_le (nv (cc p) ph) 32
  by_cases big : spS (nv (cc p) ph) 32 ≤ i
  · exact ⟨-1, M1, M2, cc, e8 _ (u1 big), by rw [e9, if_neg (nI_nlt big hi)], i2⟩
  · obtain ⟨d, d1, d2, d3⟩ := blk_find (blk := spS (nv (cc p) ph)) rfl 32 i (by omega)
    have e10 := u2 d (Nat.zero_le _) d1 d2 d3
    have e10' : f_X0_spanPart fu (13 * p + 11) (nI ph) (nI i) w M1 = bnd (f_X0_partOf fu (nI d) (nv (cc p) ph d) (nI (i - spS (nv (cc p) ph) d)) w M1) (fun r8 M9 => some (r8, M9)) := e10
    rw [spS_s] at d3
    obtain ⟨aa, a1, a2, a3⟩ := fb_ct_kth (p := bt (fs (nv (cc p) ph d))) (n := 32) (k := i - spS (nv (cc p) ph) d) (by unfold pc at d3; omega)
    have mono : ∀ d' x, x ≤ d' → spS (nv (cc p) ph) x ≤ spS (nv (cc p) ph) d' := by
      intro d'
      induction d' with
      | zero => intro x hx; rw [show x = 0 by omega]; exact Nat.le_refl _
      | succ d' ih =>
        intro x hx
        by_cases e : x = d' + 1
        · rw [e]; exact Nat.le_refl _
        · have := ih x (by omega); rw [spS_s]; omega
    obtain ⟨f27, f28, l, f29, l1, l2, l3, l4⟩ := k2 d aa (Nat.zero_le _) d1 a1 a2 (by rw [a3]; congr 1; omega) (fun d' a' q1 q2 q3 q4 q5 => by
      have m := mono d' (d + 1) q1
      rw [spS_s] at m
      have := spS_le (nv (cc p) ph) d'
      have := fb_ct_le (bt (fs (nv (cc p) ph d'))) a'
      have := (nI_eq (by omega) (by omega)).mp q5
      omega)
    obtain ⟨z1, z2⟩ := span_last _ a2 l1 l2 l3 l4
    rw [a3] at z2
    have hlt : nI i < nI (spS (nv (cc p) ph) 32) := nI_lt (by omega) (by omega)
    rw [if_pos hlt] at e9
    by_cases w0 : w = 0
    · rw [if_pos w0] at e9
      refine ⟨nI d, M1, M2, cc, e8 _ ?_, by rw [e9, f27], i2⟩
      rw [e10']; unfold f_X0_partOf; rw [if_pos w0, bnd_some]
    by_cases w1 : w = 1
    · rw [if_neg w0, if_pos w1] at e9
      refine ⟨nI aa, M1, M2, cc, e8 _ ?_, by rw [e9, f28], i2⟩
      have ef : f_X0_firstsOf (nv (cc p) ph d) M1 = some (fs (nv (cc p) ph d), M1) := rfl
      rw [e10']; unfold f_X0_partOf; rw [if_neg w0, if_pos w1, ef, bnd_some, e_bitNumber (by omega) _ a1 a2 a3, bnd_some, bnd_some]
    by_cases w2 : w = 2
    · rw [if_neg w0, if_neg w1, if_pos w2] at e9
      refine ⟨nI l, M1, M2, cc, e8 _ ?_, by rw [e9, f29], i2⟩
      have ef : f_X0_bitNumber fu (nv (cc p) ph d &&& ((usr (nv (cc p) ph d) (1 : Int32)) ^^^ (-1 : Int32))) (nI (i - spS (nv (cc p) ph) d)) M1 = some (nI l, M1) := e_bitNumber (by omega) (lsx (nv (cc p) ph d)) l2 z1 z2 M1
      rw [e10']; unfold f_X0_partOf; rw [if_neg w0, if_neg w1, if_pos w2, ef, bnd_some, bnd_some]
    · rw [if_neg w0, if_neg w1, if_neg w2] at e9
      refine ⟨-1, M1, M2, cc, e8 _ ?_, e9, i2⟩
      rw [e10']; unfold f_X0_partOf; rw [if_neg w0, if_neg w1, if_neg w2, bnd_some]
