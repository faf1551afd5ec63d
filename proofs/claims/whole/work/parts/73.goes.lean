/-! goesOn(), whole. -/
noncomputable def nd7 (p : Nat) (c : Cd) (t ph a b : Nat) (M : Mem) : Mem := if c.2.1 t = 7 then upM M 77 (64 * p + 32 * ph + a) (M 77 (64 * p + 32 * ph + a) ||| ((1 : Int32) <<< (nI b &&& 31))) else M
theorem mQ.nd {p : Nat} {c : Cd} {M M' : Mem} {V : Nat → Prop} {dp : Nat → Nat} {pr : Nat → Int32} {m : Nat} {an : Nat → Nat} (h : mQ p c M V dp pr m an) (hk : ∀ k, k ≠ 77 → k ≠ 79 → M' k = M k) : mQ p c M' V dp pr m an := by
  obtain ⟨hc, h26, hm, hj, hi, hV⟩ := h
  refine ⟨⟨?_, fun i hi2 => ?_⟩, ?_, hm, fun j hj2 => ?_, hi, fun x hx => ?_⟩
  · rw [hk _ (by omega) (by omega)]; exact hc.1
  · rw [hk _ (by omega) (by omega), hk _ (by omega) (by omega), hk _ (by omega) (by omega), hk _ (by omega) (by omega)]; exact hc.2 i hi2
  · rw [hk _ (by omega) (by omega)]; exact h26
  · rw [hk _ (by omega) (by omega)]; exact hj j hj2
  · rw [hk _ (by omega) (by omega), hk _ (by omega) (by omega)]; exact hV x hx
theorem Wm_one {c : Cd} {t ph a b u p' a' b' : Nat} (h : ∀ t0 x y z, Stx c t ph a b t0 x y z ↔ t0 = u ∧ x = p' ∧ y = a' ∧ z = b') : ∀ z, z = sn (ee c u) p' a' b' ↔ Wm c t ph a b z := by
  intro z
  constructor
  · intro e; exact ⟨u, p', a', b', (h _ _ _ _).mpr ⟨rfl, rfl, rfl, rfl⟩, e⟩
  · rintro ⟨t0, x, y, w, s, e⟩
    obtain ⟨rfl, rfl, rfl, rfl⟩ := (h _ _ _ _).mp s
    exact e
set_option maxHeartbeats 4000000 in
theorem goes_spec {p fu : Nat} (hp : p < 4) (hfu : 32 < fu) {c : Cd} (hc : cdOk c) {M : Mem} {V : Nat → Prop} {dp : Nat → Nat} {pr : Nat → Int32} {m : Nat} {an : Nat → Nat} (h : mQ p c M V dp pr m an) {t ph a b D : Nat} {Y : Nat → Prop} (ht : t < c.1) (h1 : ph < 2) (h2 : a < 32) (h3 : b < 32) (hv : V (sn t ph a b)) (hD : dp (sn t ph a b) = D) (hd : D + 1 < 2 ^ 30) (hY : Y (sn t ph a b)) :
    ∃ M', f_X9_goesOn fu (nI p) (nI (sn t ph a b)) M = some (0, M') ∧ Fnd p c D Y (nd7 p c t ph a b M) V dp pr m an (Wm c t ph a b) M' := by
  have h24 := hc.1
  obtain ⟨cK, cX, cN, cT⟩ := hc.2 t (by omega)
  obtain ⟨k1, k2, k3, k4⟩ := h.1.2 t (by omega)
  have hst : sn t ph a b < 51200 := sn_lt (by omega) h1 h2 h3
  have hsn : sn t ph a b = 2048 * t + 1024 * ph + 32 * a + b := rfl
  have g1 : nI (sn t ph a b) / 2048 = nI t := by rw [c2048, pk_div (by omega) (by omega) (by omega)]; congr 1; omega
  have g2 : nI (sn t ph a b) / 1024 - nI (sn t ph a b) / 1024 / 2 * 2 = nI ph := by rw [c1024, pk_div (by omega) (by omega) (by omega), c2, dv (by omega) (by omega) (by omega)]; congr 1; omega
  have g3 : nI (sn t ph a b) / 32 - nI (sn t ph a b) / 32 / 32 * 32 = nI a := by rw [c32, pk_div (by omega) (by omega) (by omega), dv (by omega) (by omega) (by omega)]; congr 1; omega
  have g4 : nI (sn t ph a b) - nI (sn t ph a b) / 32 * 32 = nI b := by rw [c32, dv (by omega) (by omega) (by omega)]; congr 1; omega
  have one : ∀ x, x < 51200 → (∀ z, z = x ↔ Wm c t ph a b z) → ∀ X : Mem, mQ p c X V dp pr m an → ∃ M', bnd (f_X9_finds (nI x) (nI (sn t ph a b)) X) (fun _ M' => some ((0 : Int32), M')) = some (0, M') ∧ Fnd p c D Y X V dp pr m an (Wm c t ph a b) M' := fun x hx hw X hX => by
    obtain ⟨M', e, hF⟩ := finds_sg (Y := Y) hX hx hst hv hD hd hY
    rw [e, bnd_some]
    exact ⟨M', rfl, hF.eq hw⟩
  have hee : ee c (t + 1) ≤ 24 := ee_le hc _
  have heT : ee c (c.2.2.2.2 t) ≤ 24 := ee_le hc _
  have n7 : c.2.1 t ≠ 7 → nd7 p c t ph a b M = M := fun q => if_neg q
  unfold f_X9_goesOn nm
  dsimp only
  rw [g1, g2, g3, g4, ixT hp (by omega), if_pos rfl, nI_clamp (by omega), h.1.1, if_pos (nI_lt ht (by omega)), nI_1, e_endOf hp h24 h.1 (by omega), bnd_some, c24, pk_mul, nI_add, ixT (by omega) (by omega), if_pos rfl, nI_clamp (by omega), k1, k2, k3, k4]
  simp only [if_pos]
  have hNa : (a &&& c.2.2.2.1 t) ≤ a := Nat.and_le_left
  have hNb : (b &&& c.2.2.2.1 t) ≤ b := Nat.and_le_left
  rcases (show c.2.1 t = 0 ∨ c.2.1 t = 1 ∨ c.2.1 t = 2 ∨ c.2.1 t = 3 ∨ c.2.1 t = 4 ∨ c.2.1 t = 5 ∨ c.2.1 t = 6 ∨ c.2.1 t = 7 ∨ c.2.1 t = 8 ∨ c.2.1 t = 9 by omega) with k | k | k | k | k | k | k | k | k | k <;> rcases (show c.2.2.1 t = 0 ∨ c.2.2.1 t = 1 by omega) with x | x
  · rw [n7 (by omega), k, x, if_pos (by decide), if_pos (by decide), e_with0, bnd_some]
    exact one _ (sn_lt hee h1 (by omega) h3) (Wm_one fun t0 w y z => by rw [stx_0 k]; omega) M h
  · rw [n7 (by omega), k, x, if_neg (by decide), if_pos (by decide), e_with1, bnd_some]
    exact one _ (sn_lt hee h1 h2 (by omega)) (Wm_one fun t0 w y z => by rw [stx_0 k]; omega) M h
  · rw [n7 (by omega), k, x, if_pos (by decide), if_neg (by decide), if_pos (by decide), nI_add, c32, dv (by omega) (by omega) (by omega), e_with0, bnd_some]
    exact one _ (sn_lt hee h1 (by omega) h3) (Wm_one fun t0 w y z => by rw [stx_1 k]; omega) M h
  · rw [n7 (by omega), k, x, if_neg (by decide), if_neg (by decide), if_pos (by decide), nI_add, c32, dv (by omega) (by omega) (by omega), e_with1, bnd_some]
    exact one _ (sn_lt hee h1 h2 (by omega)) (Wm_one fun t0 w y z => by rw [stx_1 k]; omega) M h
  · rw [n7 (by omega), k, x, if_pos (by decide), if_neg (by decide), if_neg (by decide), if_pos (by decide), if_pos (by decide), e_with0, bnd_some]
    exact one _ (sn_lt hee h1 (by omega) h3) (Wm_one fun t0 w y z => by rw [stx_2 k]; omega) M h
  · rw [n7 (by omega), k, x, if_neg (by decide), if_neg (by decide), if_neg (by decide), if_pos (by decide), if_neg (by decide), e_with1, bnd_some]
    exact one _ (sn_lt hee h1 h2 (by omega)) (Wm_one fun t0 w y z => by rw [stx_2 k]; omega) M h
  · rw [n7 (by omega), k, x, if_pos (by decide), if_neg (by decide), if_neg (by decide), if_neg (by decide), if_pos (by decide)]
    obtain ⟨M', y, e, hF⟩ := read_L (u := ee c (t + 1)) hp (by omega : t < 24) hee h1 h2 h3 (by omega) hst hd hY (fun M91 y92 => some (0, M91)) 32 0 fu M V dp pr m an (by omega) hfu h hv hD
    have e' : f_X9_goesOn_L254 (nI (sn t ph a b)) (nI ph) (nI a) (nI b) (nI (24 * p + t)) (nI (ee c (t + 1))) (fun M91 y92 => some (0, M91)) fu M 0 = some (0, M') := e
    refine ⟨M', e', hF.eq fun z => ?_⟩
    constructor
    · rintro ⟨w, -, w2, q⟩
      rcases q with ⟨q1, q2⟩ | ⟨q1, q2⟩
      · exact ⟨t + 1, ph, w, b, (stx_3 k).mpr (by omega), q2⟩
      · exact ⟨t + 1, ph, a, w, (stx_3 k).mpr (by omega), q2⟩
    · rintro ⟨t0, w, y, v, q, rfl⟩
      rw [stx_3 k] at q
      obtain ⟨rfl, rfl, q⟩ := q
      rcases q with ⟨q1, q2, rfl⟩ | ⟨q1, rfl, q2⟩
      · exact ⟨y, Nat.zero_le _, q2, Or.inl ⟨q1, rfl⟩⟩
      · exact ⟨v, Nat.zero_le _, q2, Or.inr ⟨q1, rfl⟩⟩
  · rw [n7 (by omega), k, x, if_neg (by decide), if_neg (by decide), if_neg (by decide), if_neg (by decide), if_pos (by decide)]
    obtain ⟨M', y, e, hF⟩ := read_L (u := ee c (t + 1)) hp (by omega : t < 24) hee h1 h2 h3 (by omega) hst hd hY (fun M91 y92 => some (0, M91)) 32 0 fu M V dp pr m an (by omega) hfu h hv hD
    have e' : f_X9_goesOn_L254 (nI (sn t ph a b)) (nI ph) (nI a) (nI b) (nI (24 * p + t)) (nI (ee c (t + 1))) (fun M91 y92 => some (0, M91)) fu M 0 = some (0, M') := e
    refine ⟨M', e', hF.eq fun z => ?_⟩
    constructor
    · rintro ⟨w, -, w2, q⟩
      rcases q with ⟨q1, q2⟩ | ⟨q1, q2⟩
      · exact ⟨t + 1, ph, w, b, (stx_3 k).mpr (by omega), q2⟩
      · exact ⟨t + 1, ph, a, w, (stx_3 k).mpr (by omega), q2⟩
    · rintro ⟨t0, w, y, v, q, rfl⟩
      rw [stx_3 k] at q
      obtain ⟨rfl, rfl, q⟩ := q
      rcases q with ⟨q1, q2, rfl⟩ | ⟨q1, rfl, q2⟩
      · exact ⟨y, Nat.zero_le _, q2, Or.inl ⟨q1, rfl⟩⟩
      · exact ⟨v, Nat.zero_le _, q2, Or.inr ⟨q1, rfl⟩⟩
  · rw [n7 (by omega), k, x, if_pos (by decide), if_neg (by decide), if_neg (by decide), if_neg (by decide), if_neg (by decide), if_pos (by decide), nx_and, e_with0, bnd_some]
    exact one _ (sn_lt hee h1 (by omega) h3) (Wm_one fun t0 w y z => by rw [stx_4 k]; omega) M h
  · rw [n7 (by omega), k, x, if_neg (by decide), if_neg (by decide), if_neg (by decide), if_neg (by decide), if_neg (by decide), if_pos (by decide), nx_and, e_with1, bnd_some]
    exact one _ (sn_lt hee h1 h2 (by omega)) (Wm_one fun t0 w y z => by rw [stx_4 k]; omega) M h
  · rw [n7 (by omega), k, x, if_pos (by decide), if_neg (by decide), if_neg (by decide), if_neg (by decide), if_neg (by decide), if_neg (by decide), if_pos (by decide)]
    by_cases q : c.2.2.2.1 t ≤ a
    · rw [if_pos (nI_le q (by omega)), e_stateOf, bnd_some]
      exact one _ (sn_lt hee h1 h2 h3) (Wm_one fun t0 w y z => by rw [stx_5 k]; omega) M h
    · rw [if_neg (nI_ge (by omega) (by omega)), e_endOf hp h24 h.1 (by omega), bnd_some, e_stateOf, bnd_some]
      exact one _ (sn_lt heT h1 h2 h3) (Wm_one fun t0 w y z => by rw [stx_5 k]; omega) M h
  · rw [n7 (by omega), k, x, if_neg (by decide), if_neg (by decide), if_neg (by decide), if_neg (by decide), if_neg (by decide), if_neg (by decide), if_pos (by decide)]
    by_cases q : c.2.2.2.1 t ≤ b
    · rw [if_pos (nI_le q (by omega)), e_stateOf, bnd_some]
      exact one _ (sn_lt hee h1 h2 h3) (Wm_one fun t0 w y z => by rw [stx_5 k]; omega) M h
    · rw [if_neg (nI_ge (by omega) (by omega)), e_endOf hp h24 h.1 (by omega), bnd_some, e_stateOf, bnd_some]
      exact one _ (sn_lt heT h1 h2 h3) (Wm_one fun t0 w y z => by rw [stx_5 k]; omega) M h
  · rw [n7 (by omega), k, x, if_pos (by decide), if_neg (by decide), if_neg (by decide), if_neg (by decide), if_neg (by decide), if_neg (by decide), if_neg (by decide), if_pos (by decide), e_endOf hp h24 h.1 (by omega), bnd_some, e_stateOf, bnd_some]
    exact one _ (sn_lt heT h1 h2 h3) (Wm_one fun t0 w y z => by rw [stx_6 k]) M h
  · rw [n7 (by omega), k, x, if_neg (by decide), if_neg (by decide), if_neg (by decide), if_neg (by decide), if_neg (by decide), if_neg (by decide), if_neg (by decide), if_pos (by decide), e_endOf hp h24 h.1 (by omega), bnd_some, e_stateOf, bnd_some]
    exact one _ (sn_lt heT h1 h2 h3) (Wm_one fun t0 w y z => by rw [stx_6 k]) M h
  · rw [show nd7 p c t ph a b M = upM M 77 (64 * p + 32 * ph + a) (M 77 (64 * p + 32 * ph + a) ||| ((1 : Int32) <<< (nI b &&& 31))) from if_pos k]
    rw [k, x, if_pos (by decide), if_neg (by decide), if_neg (by decide), if_neg (by decide), if_neg (by decide), if_neg (by decide), if_neg (by decide), if_neg (by decide), if_pos (by decide), c64, pk_mul, c32, pk_mul, nI_add, nI_add, ixT (by omega) (by omega), if_pos rfl, if_pos rfl, nI_clamp (by omega)]
    unfold wr
    dsimp only
    rw [e_stateOf, bnd_some]
    exact one _ (sn_lt hee h1 h2 h3) (Wm_one fun t0 w y z => by rw [stx_7 k]) _ (h.nd fun k g _ => upM_k g)
  · rw [show nd7 p c t ph a b M = upM M 77 (64 * p + 32 * ph + a) (M 77 (64 * p + 32 * ph + a) ||| ((1 : Int32) <<< (nI b &&& 31))) from if_pos k]
    rw [k, x, if_neg (by decide), if_neg (by decide), if_neg (by decide), if_neg (by decide), if_neg (by decide), if_neg (by decide), if_neg (by decide), if_neg (by decide), if_pos (by decide), c64, pk_mul, c32, pk_mul, nI_add, nI_add, ixT (by omega) (by omega), if_pos rfl, if_pos rfl, nI_clamp (by omega)]
    unfold wr
    dsimp only
    rw [e_stateOf, bnd_some]
    exact one _ (sn_lt hee h1 h2 h3) (Wm_one fun t0 w y z => by rw [stx_7 k]) _ (h.nd fun k g _ => upM_k g)
  · rw [n7 (by omega), k, x, if_pos (by decide), if_neg (by decide), if_neg (by decide), if_neg (by decide), if_neg (by decide), if_neg (by decide), if_neg (by decide), if_neg (by decide), if_neg (by decide), if_pos (by decide), c1, e_stateOf, bnd_some]
    exact one _ (sn_lt hee (by omega) h2 h3) (Wm_one fun t0 w y z => by rw [stx_8 k]) M h
  · rw [n7 (by omega), k, x, if_neg (by decide), if_neg (by decide), if_neg (by decide), if_neg (by decide), if_neg (by decide), if_neg (by decide), if_neg (by decide), if_neg (by decide), if_neg (by decide), if_pos (by decide), c1, e_stateOf, bnd_some]
    exact one _ (sn_lt hee (by omega) h2 h3) (Wm_one fun t0 w y z => by rw [stx_8 k]) M h
  · rw [n7 (by omega), k, x, if_pos (by decide), if_neg (by decide), if_neg (by decide), if_neg (by decide), if_neg (by decide), if_neg (by decide), if_neg (by decide), if_neg (by decide), if_neg (by decide), if_neg (by decide)]
    exact ⟨M, rfl, Fnd.rf h fun z ⟨_, _, _, _, q, _⟩ => absurd q (no9 k)⟩
  · rw [n7 (by omega), k, x, if_neg (by decide), if_neg (by decide), if_neg (by decide), if_neg (by decide), if_neg (by decide), if_neg (by decide), if_neg (by decide), if_neg (by decide), if_neg (by decide), if_neg (by decide)]
    exact ⟨M, rfl, Fnd.rf h fun z ⟨_, _, _, _, q, _⟩ => absurd q (no9 k)⟩
