/-! steps, way, look, count. -/
theorem vN_sn {A : AB} {t ph a b : Nat} (h1 : ph < 2) (h2 : a < 32) (h3 : b < 32) : vN A (sn t ph a b) ↔ vis A t ph a b := by
  obtain ⟨e1, e2, e3, e4⟩ := sn_t (t := t) h1 h2 h3
  unfold vN
  rw [e1, e2, e3, e4]
theorem gN_sn {A : AB} {g t ph a b : Nat} (h1 : ph < 2) (h2 : a < 32) (h3 : b < 32) : gN A g (sn t ph a b) ↔ t = A.2.1 g ∧ A.2.2.2 g ph a b := by
  obtain ⟨e1, e2, e3, e4⟩ := sn_t (t := t) h1 h2 h3
  unfold gN
  rw [e1, e2, e3, e4]
def Bst (c : Cd) (A : AB) (ph d b x : Nat) (v : Int32) : Prop := (v = -1 ∧ ∀ g, CG c A ph d b g → x ≤ A.2.1 g) ∨ ∃ g, v = nI (sn (A.2.1 g) ph d b) ∧ CG c A ph d b g ∧ A.2.1 g < x ∧ ∀ g', CG c A ph d b g' → A.2.1 g' < x → g ≤ g'
theorem Bst.skip {c : Cd} {A : AB} {ph d b x : Nat} {v : Int32} (h : Bst c A ph d b x v) (hn : ∀ g, CG c A ph d b g → A.2.1 g ≠ x) : Bst c A ph d b (x + 1) v := by
  rcases h with ⟨h, k⟩ | ⟨g, h, k1, k2, k3⟩
  · exact Or.inl ⟨h, fun g hg => by have := k g hg; have := hn g hg; omega⟩
  · exact Or.inr ⟨g, h, k1, by omega, fun g' hg' w => k3 g' hg' (by have := hn g' hg'; omega)⟩
theorem cg_one {c : Cd} {A : AB} (hI : abI c A A.1 A.1) {ph d b g g' : Nat} (h : CG c A ph d b g) (h' : CG c A ph d b g') (e : A.2.1 g = A.2.1 g') : g = g' :=
  hI.2.2.2.1 g g' ph d b h.1 h'.1 e h.2.2.2 h'.2.2.2
theorem call_L {p : Nat} (hp : p < 4) {c : Cd} (hc : cdOk c) {A : AB} (hI : abI c A A.1 A.1) {ph d b : Nat} (h1 : ph < 2) (h2 : d < 32) (h3 : b < 32) {M : Mem} (hcd : cdM p c M) (hH : Hd A M) (kk : Mem → Int32 → Int32 → Option (Int32 × Mem)) :
    ∀ (n x f : Nat) (v : Int32), x + n = c.1 → n < f → Bst c A ph d b x v → ∃ v', f_X9_callOf_L39 (nI p) (nI ph) (nI d) (nI b) kk f M v (nI x) = kk M v' (nI c.1) ∧ Bst c A ph d b c.1 v' := by
  have h24 := hc.1
  have hpr : ∀ g, 0 < g → g < A.1 → A.2.2.1 g < g := fun g a q => (hI.2.2.2.2.1 g a q).1
  have hmo := hI.2.2.2.2.2.1
  obtain ⟨hA, hH1, hH2⟩ := hH
  intro n
  induction n with
  | zero =>
    intro x f v hx hf hB
    obtain ⟨f', rfl⟩ : ∃ f', f = f' + 1 := ⟨f - 1, by omega⟩
    rw [f_X9_callOf_L39, ixT hp (by omega), if_pos rfl, nI_clamp (by omega), hcd.1, if_pos (nI_le (by omega) (by omega)), show x = c.1 by omega]
    rw [show x = c.1 by omega] at hB
    exact ⟨v, rfl, hB⟩
  | succ n ih =>
    intro x f v hx hf hB
    obtain ⟨f', rfl⟩ : ∃ f', f = f' + 1 := ⟨f - 1, by omega⟩
    have hsl : sn x ph d b < 51200 := sn_lt (by omega) h1 h2 h3
    have go : ∀ v', Bst c A ph d b (x + 1) v' → ∃ v2, f_X9_callOf_L39 (nI p) (nI ph) (nI d) (nI b) kk f' M v' (nI (x + 1)) = kk M v2 (nI c.1) ∧ Bst c A ph d b c.1 v2 := fun v' hv => ih (x + 1) f' v' (by omega) (by omega) hv
    rw [f_X9_callOf_L39, ixT hp (by omega), if_pos rfl, nI_clamp (n := p) (by omega), hcd.1, if_neg (nI_ge (by omega) (by omega)), e_stateOf, bnd_some]
    unfold nm
    dsimp only
    rw [c24, pk_mul, nI_add, ixT (i := 24 * p + x) (by omega) (by omega), if_pos rfl, nI_clamp (n := 24 * p + x) (by omega), (hcd.2 x (by omega)).1, nI_1, ixT hsl (by omega), if_pos rfl, nI_clamp (n := sn x ph d b) (by omega)]
    by_cases hk : c.2.1 x = 7
    · rw [if_pos (by rw [hk]; rfl)]
      by_cases hv : vis A x ph d b
      · obtain ⟨g, g1, g2, g3⟩ := hv
        have hg : CG c A ph d b g := ⟨g1, by omega, by rw [g2]; exact hk, g3⟩
        obtain ⟨r1, r2, -⟩ := hH1 (sn x ph d b) g hsl g1 ((gN_sn h1 h2 h3).mpr ⟨g2.symm, g3⟩)
        have hdg := dep_le hpr g g1
        rw [r1, if_neg (nI_m1 (by omega))]
        have nb : ∀ g', CG c A ph d b g' → A.2.1 g' = x → g' = g := fun g' hg' w => cg_one hI hg' hg (by omega)
        rcases hB with ⟨rfl, k⟩ | ⟨g0, rfl, k1, k2, k3⟩
        · rw [if_pos rfl]
          refine go _ (Or.inr ⟨g, by rw [g2], hg, by omega, fun g' hg' w => ?_⟩)
          have := k g' hg'
          rw [nb g' hg' (by omega)]
          exact Nat.le_refl _
        · have hs0 : sn (A.2.1 g0) ph d b < 51200 := sn_lt (by omega) h1 h2 h3
          obtain ⟨q1, q2, -⟩ := hH1 (sn (A.2.1 g0) ph d b) g0 hs0 k1.1 ((gN_sn h1 h2 h3).mpr ⟨rfl, k1.2.2.2⟩)
          have hd0 := dep_le hpr g0 k1.1
          have hgA := k1.1
          have new : g < g0 → Bst c A ph d b (x + 1) (nI (sn x ph d b)) := fun w => Or.inr ⟨g, by rw [g2], hg, by omega, fun g' hg' w' => by
            by_cases e : A.2.1 g' = x
            · rw [nb g' hg' e]; exact Nat.le_refl _
            · have := k3 g' hg' (by omega); omega⟩
          have old : g0 ≤ g → Bst c A ph d b (x + 1) (nI (sn (A.2.1 g0) ph d b)) := fun w => Or.inr ⟨g0, rfl, k1, by omega, fun g' hg' w' => by
            by_cases e : A.2.1 g' = x
            · rw [nb g' hg' e]; exact w
            · exact k3 g' hg' (by omega)⟩
          rw [if_neg (nI_m1 (by omega)), ixT hs0 (by omega), if_pos rfl, if_pos rfl, nI_clamp (n := sn (A.2.1 g0) ph d b) (by omega), q1]
          by_cases w1 : dep A g < dep A g0
          · rw [if_pos (nI_lt w1 (by omega))]
            refine go _ (new ?_)
            rcases Nat.lt_or_ge g g0 with w | w
            · exact w
            · have := dep_mono hpr hmo g g0 w g1; omega
          · rw [if_neg (nI_nlt (by omega) (by omega)), if_pos rfl, if_pos rfl]
            by_cases w2 : dep A g = dep A g0
            · rw [if_pos (by rw [w2]), if_pos rfl, if_pos rfl, q2, r2]
              by_cases w3 : g0 ≤ g
              · rw [if_pos (nI_le w3 (by omega))]
                exact go _ (old w3)
              · rw [if_neg (nI_ge (by omega) (by omega))]
                exact go _ (new (by omega))
            · rw [if_neg (fun w => w2 ((nI_eq (by omega) (by omega)).mp w))]
              refine go _ (old ?_)
              rcases Nat.lt_or_ge g g0 with w | w
              · have := dep_mono hpr hmo g0 g (by omega) k1.1; omega
              · exact w
      · rw [hH2 _ hsl (fun w => hv ((vN_sn h1 h2 h3).mp w)), if_pos rfl]
        exact go _ (hB.skip (fun g hg e => hv ⟨g, hg.1, e, hg.2.2.2⟩))
    · rw [if_neg (show ¬ nI (c.2.1 x) = 7 from fun w => hk ((nI_eq (b := 7) (by have := (hc.2 x (by omega)).1; omega) (by omega)).mp w))]
      exact go _ (hB.skip (fun g hg e => hk (by rw [← e]; exact hg.2.2.1)))
/-- callOf: the state of the first group that makes the call -/
theorem call_spec {fu : Nat} (hfu : 51200 < fu) {cc : Nat → Cd} {M : Mem} (h : Inv cc M) {p ph d b : Nat} (hp : p < 4) (h1 : ph < 2) (h2 : d < 32) (h3 : b < 32) :
    ∃ M' A v, f_X9_callOf fu (nI p) (nI ph) (nI d) (nI b) M = some (v, M') ∧ Inv cc M' ∧ FA (cc p) A ∧ Hd A M' ∧ ((v = -1 ∧ ¬ ∃ g, CG (cc p) A ph d b g) ∨ ∃ g, v = nI (sn (A.2.1 g) ph d b) ∧ CG1 (cc p) A ph d b g) := by
  obtain ⟨M', e, i, -, A, hA, -, hH⟩ := iv_works hfu h hp
  have hC := (i.1 p hp).1
  obtain ⟨v, e2, hB⟩ := call_L hp hC.1 (hA.inv hC.1) h1 h2 h3 hC.2.2.1 hH (fun M12 y13 _ => some (y13, M12)) (cc p).1 0 fu (-1) (by omega) (by have := hC.1.1; omega) (Or.inl ⟨rfl, fun _ _ => Nat.zero_le _⟩)
  refine ⟨M', A, v, ?_, i, hA, hH, ?_⟩
  · unfold f_X9_callOf
    have e3 : f_X9_lies (nI b) 0 31 M = some (1, M) := li_yes (n := 31) (by omega) (by omega) M
    rw [p9_yes hp, bnd_some, if_neg (by decide), pl9_yes h1 h2, bnd_some, if_neg (by decide), e3, bnd_some, if_neg (by decide), e, bnd_some]
    exact e2
  · rcases hB with ⟨z, k⟩ | ⟨g, z, k1, k2, k3⟩
    · exact Or.inl ⟨z, fun ⟨g, hg⟩ => by have := k g hg; have := hg.2.1; omega⟩
    · exact Or.inr ⟨g, z, k1, fun g' hg' w => by have := k3 g' w w.2.1; omega⟩
theorem call_no {fu : Nat} {a b c d : Int32} {M : Mem} (h : (a < 0 ∨ nI 4 ≤ a) ∨ (∃ p, p < 4 ∧ a = nI p) ∧ ((b < 0 ∨ nI 2 ≤ b) ∨ (∃ q, q < 2 ∧ b = nI q) ∧ ((c < 0 ∨ nI 32 ≤ c) ∨ (∃ q, q < 32 ∧ c = nI q) ∧ (d < 0 ∨ nI 32 ≤ d)))) : f_X9_callOf fu a b c d M = some (-1, M) := by
  unfold f_X9_callOf
  rcases h with z | ⟨⟨p, hp, rfl⟩, z | ⟨⟨q, hq, rfl⟩, z | ⟨⟨r, hr, rfl⟩, z⟩⟩⟩
  · rw [p9_no z, bnd_some, if_pos rfl]
  · rw [p9_yes hp, bnd_some, if_neg (by decide), pl9_no1 z, bnd_some, if_pos rfl]
  · rw [p9_yes hp, bnd_some, if_neg (by decide), pl9_no2 hq z, bnd_some, if_pos rfl]
  · have e3 : f_X9_lies d 0 31 M = some (0, M) := li_no (n := 31) (by omega) z M
    rw [p9_yes hp, bnd_some, if_neg (by decide), pl9_yes hq hr, bnd_some, if_neg (by decide), e3, bnd_some, if_pos rfl]
theorem sm_steps {fu : Nat} (hfu : 51200 < fu) (a b c d : Int32) : Sm (f_X8_steps fu a b c d) (f_X9_steps fu a b c d) := by
  intro cc M h
  have no : f_X8_steps fu a b c d M = some (-1, M) → f_X9_callOf fu a b c d M = some (-1, M) → ∃ r M1 M2 cc', f_X8_steps fu a b c d M = some (r, M1) ∧ f_X9_steps fu a b c d M1 = some (r, M2) ∧ Inv cc' M2 := fun x y => Sm.same h (-1) x (by unfold f_X9_steps; rw [y, bnd_some, if_pos rfl])
  rcases pk2 a (n := 4) (by omega) with z | ⟨p, hp, rfl⟩
  · exact no (by unfold f_X8_steps; rw [p8_no z, bnd_some, if_pos rfl]) (call_no (Or.inl z))
  rcases pk2 b (n := 2) (by omega) with z | ⟨ph, hph, rfl⟩
  · exact no (by unfold f_X8_steps; rw [p8_yes hp, bnd_some, if_neg (by decide), ph8_no z, bnd_some, if_pos rfl]) (call_no (Or.inr ⟨⟨p, hp, rfl⟩, Or.inl z⟩))
  rcases pk2 c (n := 32) (by omega) with z | ⟨dd, hd, rfl⟩
  · exact no (by unfold f_X8_steps; rw [p8_yes hp, bnd_some, if_neg (by decide), ph8_yes hph, bnd_some, if_neg (by decide), v8_no z, bnd_some, if_pos rfl]) (call_no (Or.inr ⟨⟨p, hp, rfl⟩, Or.inr ⟨⟨ph, hph, rfl⟩, Or.inl z⟩⟩))
  rcases pk2 d (n := 32) (by omega) with z | ⟨bb, hb, rfl⟩
  · exact no (by unfold f_X8_steps; rw [p8_yes hp, bnd_some, if_neg (by decide), ph8_yes hph, bnd_some, if_neg (by decide), v8_yes hd, bnd_some, if_neg (by decide), v8_no z, bnd_some, if_pos rfl]) (call_no (Or.inr ⟨⟨p, hp, rfl⟩, Or.inr ⟨⟨ph, hph, rfl⟩, Or.inr ⟨⟨dd, hd, rfl⟩, z⟩⟩⟩))
  obtain ⟨M1, e1, i1, -, A, hA, hS⟩ := iv_search hfu h hp
  obtain ⟨M2, B, v, e2, i2, hB, hH, hv⟩ := call_spec hfu i1 hp hph hd hb
  have hAB : A = B := hA.one hB
  subst hAB
  have hC := (i1.1 p hp).1
  have hI := hA.inv hC.1
  obtain ⟨l1, l2⟩ := sx_len (fu := fu) (by omega) hC.1 hI hS hph hd hb
  have e8 : ∀ r, f_X4_lengthTo fu p (nI ph) (nI dd) (nI bb) M1 = some (r, M1) → f_X8_steps fu (nI p) (nI ph) (nI dd) (nI bb) M = some (r, M1) := fun r er => by
    unfold f_X8_steps f_X5_paths
    rw [p8_yes hp, bnd_some, if_neg (by decide), ph8_yes hph, bnd_some, if_neg (by decide), v8_yes hd, bnd_some, if_neg (by decide), v8_yes hb, bnd_some, if_neg (by decide), ixT hp (by omega), if_pos rfl, nI_clamp (by omega), bnd_some, e1, bnd_some, er, bnd_some]
  rcases hv with ⟨rfl, hn⟩ | ⟨g, rfl, hg⟩
  · exact ⟨-1, M1, M2, cc, e8 _ (l2 hn), by unfold f_X9_steps; rw [e2, bnd_some, if_pos rfl], i2⟩
  · have hsl : sn (A.2.1 g) ph dd bb < 51200 := sn_lt (by have := hg.1.2.1; have := hC.1.1; omega) hph hd hb
    refine ⟨nI (dep A g + 1), M1, M2, cc, e8 _ (l1 g hg).1, ?_, i2⟩
    unfold f_X9_steps
    rw [e2, bnd_some, if_neg (nI_m1 (by omega)), ixT hsl (by omega), if_pos rfl, nI_clamp (by omega), (hH.2.1 _ g hsl hg.1.1 ((gN_sn hph hd hb).mpr ⟨rfl, hg.1.2.2.2⟩)).1, nI_1]
theorem way_L {c : Cd} {A : AB} (hI : abI c A A.1 A.1) {M : Mem} (hH : Hd A M) (i : Nat) (kk : Mem → Int32 → Option (Int32 × Mem)) :
    ∀ (n z g f : Nat), dep A g = i + n → n < f → z < 51200 → g < A.1 → gN A g z → ∃ z', f_X9_way_L35 (nI i) kk f M (nI z) = kk M (nI z') ∧ z' < 51200 ∧ z' / 2048 = A.2.1 (upG A n g) := by
  have hpr : ∀ g, 0 < g → g < A.1 → A.2.2.1 g < g := fun g a q => (hI.2.2.2.2.1 g a q).1
  obtain ⟨hA, hH1, hH2⟩ := hH
  intro n
  induction n with
  | zero =>
    intro z g f hd hf hz hg hN
    obtain ⟨f', rfl⟩ : ∃ f', f = f' + 1 := ⟨f - 1, by omega⟩
    have hdl := dep_le hpr g hg
    rw [f_X9_way_L35, ixT hz (by omega), if_pos rfl, nI_clamp (by omega), (hH1 z g hz hg hN).1, if_pos (nI_le (by omega) (by omega))]
    exact ⟨z, rfl, hz, hN.1⟩
  | succ n ih =>
    intro z g f hd hf hz hg hN
    obtain ⟨f', rfl⟩ : ∃ f', f = f' + 1 := ⟨f - 1, by omega⟩
    have hdl := dep_le hpr g hg
    have h0 : 0 < g := by
      rcases Nat.eq_zero_or_pos g with w | w
      · rw [w, dep_0] at hd; omega
      · exact w
    obtain ⟨r1, -, r3⟩ := hH1 z g hz hg hN
    obtain ⟨y, y1, y2⟩ := r3 h0
    have hg' := hpr g h0 hg
    have hy : y < 51200 := by
      have := (hI.2.1 (A.2.2.1 g) (by omega)).1
      have := y2.1
      omega
    rw [f_X9_way_L35, ixT hz (by omega), if_pos rfl, nI_clamp (by omega), r1, if_neg (nI_ge (by omega) (by omega)), if_pos rfl, y1]
    have hds := dep_s hpr h0 hg
    exact ih y (A.2.2.1 g) f' (by omega) (by omega) hy (by omega) y2
theorem sm_way {fu : Nat} (hfu : 51200 < fu) (a b c d x : Int32) : Sm (f_X8_way fu a b c d x) (f_X9_way fu a b c d x) := by
  intro cc M h
  have no : f_X8_way fu a b c d x M = some (-1, M) → f_X9_callOf fu a b c d M = some (-1, M) → ∃ r M1 M2 cc', f_X8_way fu a b c d x M = some (r, M1) ∧ f_X9_way fu a b c d x M1 = some (r, M2) ∧ Inv cc' M2 := fun x y => Sm.same h (-1) x (by unfold f_X9_way; rw [y, bnd_some, if_pos rfl])
  rcases pk2 a (n := 4) (by omega) with z | ⟨p, hp, rfl⟩
  · exact no (by unfold f_X8_way; rw [p8_no z, bnd_some, if_pos rfl]) (call_no (Or.inl z))
  rcases pk2 b (n := 2) (by omega) with z | ⟨ph, hph, rfl⟩
  · exact no (by unfold f_X8_way; rw [p8_yes hp, bnd_some, if_neg (by decide), ph8_no z, bnd_some, if_pos rfl]) (call_no (Or.inr ⟨⟨p, hp, rfl⟩, Or.inl z⟩))
  rcases pk2 c (n := 32) (by omega) with z | ⟨dd, hd, rfl⟩
  · exact no (by unfold f_X8_way; rw [p8_yes hp, bnd_some, if_neg (by decide), ph8_yes hph, bnd_some, if_neg (by decide), v8_no z, bnd_some, if_pos rfl]) (call_no (Or.inr ⟨⟨p, hp, rfl⟩, Or.inr ⟨⟨ph, hph, rfl⟩, Or.inl z⟩⟩))
  rcases pk2 d (n := 32) (by omega) with z | ⟨bb, hb, rfl⟩
  · exact no (by unfold f_X8_way; rw [p8_yes hp, bnd_some, if_neg (by decide), ph8_yes hph, bnd_some, if_neg (by decide), v8_yes hd, bnd_some, if_neg (by decide), v8_no z, bnd_some, if_pos rfl]) (call_no (Or.inr ⟨⟨p, hp, rfl⟩, Or.inr ⟨⟨ph, hph, rfl⟩, Or.inr ⟨⟨dd, hd, rfl⟩, z⟩⟩⟩))
  obtain ⟨M1, e1, i1, -, A, hA, hS⟩ := iv_search hfu h hp
  obtain ⟨M2, B, v, e2, i2, hB, hH, hv⟩ := call_spec hfu i1 hp hph hd hb
  have hAB : A = B := hA.one hB
  subst hAB
  have hC := (i1.1 p hp).1
  have hI := hA.inv hC.1
  have hpr : ∀ g, 0 < g → g < A.1 → A.2.2.1 g < g := fun g a q => (hI.2.2.2.2.1 g a q).1
  obtain ⟨l1, l2⟩ := sx_ins (fu := fu) (by omega) hC.1 hI hS hph hd hb x
  have e8 : ∀ r, f_X4_instructionTo fu p (nI ph) (nI dd) (nI bb) x M1 = some (r, M1) → f_X8_way fu (nI p) (nI ph) (nI dd) (nI bb) x M = some (r, M1) := fun r er => by
    unfold f_X8_way f_X5_paths
    rw [p8_yes hp, bnd_some, if_neg (by decide), ph8_yes hph, bnd_some, if_neg (by decide), v8_yes hd, bnd_some, if_neg (by decide), v8_yes hb, bnd_some, if_neg (by decide), ixT hp (by omega), if_pos rfl, nI_clamp (by omega), bnd_some, e1, bnd_some, er, bnd_some]
  rcases hv with ⟨rfl, hn⟩ | ⟨g, rfl, hg⟩
  · exact ⟨-1, M1, M2, cc, e8 _ (l2 hn), by unfold f_X9_way; rw [e2, bnd_some, if_pos rfl], i2⟩
  · have hsl : sn (A.2.1 g) ph dd bb < 51200 := sn_lt (by have := hg.1.2.1; have := hC.1.1; omega) hph hd hb
    have hgN : gN A g (sn (A.2.1 g) ph dd bb) := (gN_sn hph hd hb).mpr ⟨rfl, hg.1.2.2.2⟩
    have hdl := dep_le hpr g hg.1.1
    have hA1 := hH.1
    have hgA := hg.1.1
    have e9 : ∀ r M3, (bnd (f_X9_lies x 0 (nI (dep A g)) M2) (fun r3 M4 => if r3 = 0 then some ((-1), M4) else f_X9_way_L35 x (fun M6 y7 => some (y7 / 2048, M6)) fu M4 (nI (sn (A.2.1 g) ph dd bb)))) = some (r, M3) → f_X9_way fu (nI p) (nI ph) (nI dd) (nI bb) x M1 = some (r, M3) := fun r M3 er => by
      unfold f_X9_way
      rw [e2, bnd_some, if_neg (nI_m1 (by omega)), ixT hsl (by omega), if_pos rfl, nI_clamp (by omega), (hH.2.1 _ g hsl hgA hgN).1]
      exact er
    rcases pk2 x (n := dep A g + 1) (by omega) with z | ⟨i, hi, rfl⟩
    · exact ⟨-1, M1, M2, cc, e8 _ ((l1 g hg).1 z), e9 _ _ (by rw [li_no (by omega) z, bnd_some, if_pos rfl]), i2⟩
    · obtain ⟨z', w1, w2, w3⟩ := way_L hI hH i (fun M6 y7 => some (y7 / 2048, M6)) (dep A g - i) (sn (A.2.1 g) ph dd bb) g fu (by omega) (by omega) hsl hgA hgN
      refine ⟨_, M1, M2, cc, e8 _ ((l1 g hg).2 i (by omega) rfl), e9 _ _ ?_, i2⟩
      rw [li_yes (by omega) (by omega), bnd_some, if_neg (by decide), w1, c2048, pk_div (by omega) (by omega) (by omega), w3]
theorem hs_no {pp s : Nat} {x : Int32} {M : Mem} (hM : M (13 * pp + 3) 4 = nI s) (h : x < 0 ∨ nI s ≤ x) : f_X1_has pp x M = some (0, M) := by
  unfold f_X1_has; rw [hM]; exact sh_no h
theorem hs_yes {pp s i : Nat} {M : Mem} (hM : M (13 * pp + 3) 4 = nI s) (hi : i < s) (hs : s < 2 ^ 31) : f_X1_has pp (nI i) M = some (1, M) := by
  unfold f_X1_has; rw [hM]; exact sh_yes hi hs
theorem ls_no {s : Nat} {x : Int32} (hs : s ≤ 24) (h : x < 0 ∨ nI s ≤ x) (M : Mem) : f_X9_lies x 0 (nI s - 1) M = some (0, M) := by
  unfold f_X9_lies
  by_cases z : x < 0
  · rw [if_pos z]
  · have h' := h.resolve_left z
    rw [Int32.le_iff_toInt_le, nI_toInt (by omega)] at h'
    rw [if_neg z, if_pos]
    rw [Int32.lt_iff_toInt_lt]
    rcases Nat.eq_zero_or_pos s with w | w
    · subst w
      have : (nI 0 - 1).toInt = -1 := by decide
      omega
    · obtain ⟨s', rfl⟩ : ∃ s', s = s' + 1 := ⟨s - 1, by omega⟩
      rw [nI_pred, nI_toInt (by omega)]
      omega
theorem ls_yes {s i : Nat} (hs : s ≤ 24) (hi : i < s) (M : Mem) : f_X9_lies (nI i) 0 (nI s - 1) M = some (1, M) := by
  obtain ⟨s', rfl⟩ : ∃ s', s = s' + 1 := ⟨s - 1, by omega⟩
  rw [nI_pred]
  exact li_yes (by omega) (by omega) M
theorem sm_look {fu : Nat} (hfu : 51200 < fu) (a x w : Int32) : Sm (f_X8_look fu a x w) (f_X9_look fu a x w) := by
  intro cc M h
  rcases pk2 a (n := 4) (by omega) with z | ⟨p, hp, rfl⟩
  · exact Sm.same h (-1) (by unfold f_X8_look; rw [p8_no z, bnd_some, if_pos rfl]) (by unfold f_X9_look; rw [p9_no z, bnd_some, if_pos rfl])
  obtain ⟨hC, -⟩ := h.1 p hp
  have h24 := hC.1.1
  rcases pk2 x (n := (cc p).1) (by omega) with z | ⟨i, hi, rfl⟩
  · refine Sm.same h (-1) ?_ ?_
    · unfold f_X8_look f_X5_instructions
      rw [p8_yes hp, bnd_some, if_neg (by decide), ixT hp (by omega), if_pos rfl, nI_clamp (by omega), bnd_some, hs_no hC.2.1.1 z, bnd_some, if_pos rfl]
    · unfold f_X9_look
      rw [p9_yes hp, bnd_some, if_neg (by decide), ixT hp (by omega), if_pos rfl, nI_clamp (by omega), hC.2.2.1.1, ls_no h24 z, bnd_some, if_pos rfl]
  obtain ⟨k1, k2, k3, k4⟩ := hC.2.1.2 i (by omega)
  obtain ⟨m1, m2, m3, m4⟩ := hC.2.2.1.2 i (by omega)
  have e8 : f_X8_look fu (nI p) (nI i) w M = (if w = 0 then bnd (f_X1_kind p (nI i) M) (fun r9 M10 => some (r9, M10)) else if w = 1 then bnd (f_X1_x p (nI i) M) (fun r12 M13 => some (r12, M13)) else if w = 2 then bnd (f_X1_n p (nI i) M) (fun r15 M16 => some (r15, M16)) else if w = 3 then bnd (f_X1_to p (nI i) M) (fun r18 M19 => some (r18, M19)) else if w = 4 then bnd (f_X4_searched fu p M) (fun r24 M25 => bnd (f_X4_comesTo p (nI i) M25) (fun r26 M27 => if r26 = 0 then some (0, M27) else some (1, M27))) else some ((-1), M)) := by
    unfold f_X8_look f_X5_instructions f_X5_paths
    rw [p8_yes hp, bnd_some, if_neg (by decide), ixT hp (by omega), if_pos rfl, nI_clamp (by omega), bnd_some, hs_yes hC.2.1.1 hi (by omega), bnd_some, if_neg (by decide), if_pos rfl, bnd_some]
  have e9 : ∀ X : Mem, X 72 p = nI (cc p).1 → f_X9_look fu (nI p) (nI i) w X = (if w = 0 then some (X 73 (24 * p + i), X) else if w = 1 then some (X 74 (24 * p + i), X) else if w = 2 then some (X 75 (24 * p + i), X) else if w = 3 then some (X 76 (24 * p + i), X) else if w = 4 then bnd (f_X9_knows fu (nI p) X) (fun r11 M12 => bnd (f_X9_has (M12 79 p) (nI i) M12) (fun r13 M14 => if r13 = 0 then some (0, M14) else some (1, M14))) else some ((-1), X)) := fun X hX => by
    unfold f_X9_look nm
    dsimp only
    rw [p9_yes hp, bnd_some, if_neg (by decide), ixT hp (by omega), if_pos rfl, nI_clamp (n := p) (by omega), hX, ls_yes h24 hi, bnd_some, if_neg (by decide), c24, pk_mul, nI_add]
    rw [ixT (i := 24 * p + i) (by omega) (by omega), if_pos rfl, if_pos rfl, if_pos rfl, if_pos rfl, nI_clamp (n := 24 * p + i) (by omega)]
    rfl
  by_cases w0 : w = 0
  · exact Sm.same h (nI ((cc p).2.1 i)) (by rw [e8, if_pos w0, e_kind (by omega), bnd_some, k1]) (by rw [e9 M hC.2.2.1.1, if_pos w0, m1])
  by_cases w1 : w = 1
  · exact Sm.same h (nI ((cc p).2.2.1 i)) (by rw [e8, if_neg w0, if_pos w1, e_x (by omega), bnd_some, k2]) (by rw [e9 M hC.2.2.1.1, if_neg w0, if_pos w1, m2])
  by_cases w2 : w = 2
  · exact Sm.same h (nI ((cc p).2.2.2.1 i)) (by rw [e8, if_neg w0, if_neg w1, if_pos w2, e_n (by omega), bnd_some, k3]) (by rw [e9 M hC.2.2.1.1, if_neg w0, if_neg w1, if_pos w2, m3])
  by_cases w3 : w = 3
  · exact Sm.same h (nI ((cc p).2.2.2.2 i)) (by rw [e8, if_neg w0, if_neg w1, if_neg w2, if_pos w3, e_to (by omega), bnd_some, k4]) (by rw [e9 M hC.2.2.1.1, if_neg w0, if_neg w1, if_neg w2, if_pos w3, m4])
  by_cases w4 : w = 4
  · obtain ⟨M1, e1, i1, -, A, hA, hS⟩ := iv_search hfu h hp
    obtain ⟨M2, e2, i2, -, B, hB, hD⟩ := iv_knows hfu i1 hp
    have hAB : A = B := hA.one hB
    subst hAB
    have q1 := sx_come hS hi h24
    have q2 := hD.2 i hi
    have q3 : bt (M1 (13 * p + 8) 6) i = bt (M2 79 p) i := by
      cases u : bt (M1 (13 * p + 8) 6) i <;> cases v : bt (M2 79 p) i
      · rfl
      · rw [u] at q1; exact absurd (q1.mpr (q2.mp v)) (by decide)
      · rw [v] at q2; exact absurd (q2.mpr (q1.mp u)) (by decide)
      · rfl
    refine ⟨if bt (M2 79 p) i then 1 else 0, M1, M2, cc, ?_, ?_, i2⟩
    · rw [e8, if_neg w0, if_neg w1, if_neg w2, if_neg w3, if_pos w4, e1, bnd_some]
      unfold f_X4_comesTo
      rw [e_holds _ (by omega), bnd_some, q3]
      cases bt (M2 79 p) i <;> rfl
    · rw [e9 M1 (i1.1 p hp).1.2.2.1.1, if_neg w0, if_neg w1, if_neg w2, if_neg w3, if_pos w4, e2, bnd_some, e_has9 _ (by omega), bnd_some]
      cases bt (M2 79 p) i <;> rfl
  · exact Sm.same h (-1) (by rw [e8, if_neg w0, if_neg w1, if_neg w2, if_neg w3, if_neg w4]) (by rw [e9 M hC.2.2.1.1, if_neg w0, if_neg w1, if_neg w2, if_neg w3, if_neg w4])
