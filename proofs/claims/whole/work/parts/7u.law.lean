/-! The law over its whole script. -/
theorem law_ex {L x : Nat} (hL : L ≤ 3584) (hx : x ≤ 4000) : (Int32.ofNat L - (7 : Int32)) < nI x ↔ L < x + 7 := by
  show nI L - nI 7 < nI x ↔ L < x + 7
  rw [Int32.lt_iff_toInt_lt, pk_sub_toInt (by omega) (by omega), nI_toInt (by omega)]
  omega
set_option maxHeartbeats 4000000 in
set_option maxRecDepth 100000 in
theorem law_L {fu L : Nat} (hfu : 51200 < fu) (hL : L ≤ 3584) (xs : Nat → Int32) : ∀ (d x n : Nat) (M : Mem) (cc : Nat → Cd), L ≤ x + 7 * d → x ≤ 3600 → d < n → Inv cc M → ∃ M', f_L_law_L18 fu L xs (fun M _ => some (1, M)) n M (nI x) = some (1, M') := by
  intro d
  induction d with
  | zero =>
    intro x n M cc hx hx2 hn h
    obtain ⟨n', rfl⟩ : ∃ n', n = n' + 1 := ⟨n - 1, by omega⟩
    rw [f_L_law_L18, if_pos ((law_ex hL (by omega)).mpr (by omega))]
    exact ⟨M, rfl⟩
  | succ d ih =>
    intro x n M cc hx hx2 hn h
    obtain ⟨n', rfl⟩ : ∃ n', n = n' + 1 := ⟨n - 1, by omega⟩
    by_cases ex : L < x + 7
    · rw [f_L_law_L18, if_pos ((law_ex hL (by omega)).mpr ex)]
      exact ⟨M, rfl⟩
    have go : ∀ M2 cc', Inv cc' M2 → ∃ M', f_L_law_L18 fu L xs (fun M _ => some (1, M)) n' M2 (nI (x + 7)) = some (1, M') := fun M2 cc' hi => ih (x + 7) n' M2 cc' (by omega) (by omega) (by omega) hi
    have a1 : nI x + (1 : Int32) = nI (x + 1) := nI_add x 1
    have a2 : nI x + (2 : Int32) = nI (x + 2) := nI_add x 2
    have a3 : nI x + (3 : Int32) = nI (x + 3) := nI_add x 3
    have a4 : nI x + (4 : Int32) = nI (x + 4) := nI_add x 4
    have a5 : nI x + (5 : Int32) = nI (x + 5) := nI_add x 5
    have a6 : nI x + (6 : Int32) = nI (x + 6) := nI_add x 6
    have a7 : nI x + (7 : Int32) = nI (x + 7) := nI_add x 7
    have i1 : ix (nI (x + 1)) L = true := ixT (by omega) (by omega)
    have t1 : (nI (x + 1)).toNatClampNeg = x + 1 := nI_clamp (by omega)
    have i2 : ix (nI (x + 2)) L = true := ixT (by omega) (by omega)
    have t2 : (nI (x + 2)).toNatClampNeg = x + 2 := nI_clamp (by omega)
    have i3 : ix (nI (x + 3)) L = true := ixT (by omega) (by omega)
    have t3 : (nI (x + 3)).toNatClampNeg = x + 3 := nI_clamp (by omega)
    have i4 : ix (nI (x + 4)) L = true := ixT (by omega) (by omega)
    have t4 : (nI (x + 4)).toNatClampNeg = x + 4 := nI_clamp (by omega)
    have i5 : ix (nI (x + 5)) L = true := ixT (by omega) (by omega)
    have t5 : (nI (x + 5)).toNatClampNeg = x + 5 := nI_clamp (by omega)
    have i6 : ix (nI (x + 6)) L = true := ixT (by omega) (by omega)
    have t6 : (nI (x + 6)).toNatClampNeg = x + 6 := nI_clamp (by omega)
    rw [f_L_law_L18, if_neg (fun w => ex ((law_ex hL (by omega)).mp w)), ixT (show x < L by omega) (by omega), if_pos rfl, nI_clamp (n := x) (by omega)]
    unfold nm
    dsimp only
    generalize xs x &&& 31 = v
    by_cases v0 : v = 0
    · rw [if_pos v0]
      simp only [a1, a2, a3, a4, a5, a7, i1, i2, i3, i4, i5, t1, t2, t3, t4, t5, if_true]
      obtain ⟨r, M1, M2, cc', e8, e9, i2⟩ := sm_code (xs (x + 1)) (xs (x + 2)) (xs (x + 3)) (xs (x + 4)) (xs (x + 5)) cc M h
      rw [e8, bnd_some, e9, bnd_some, if_pos rfl]
      exact go M2 cc' i2
    rw [if_neg v0]
    by_cases v1 : v = 1
    · rw [if_pos v1]
      simp only [a1, a2, a3, a4, a5, a6, a7, i1, i2, i3, i4, i5, i6, t1, t2, t3, t4, t5, t6, if_true]
      obtain ⟨r, M1, M2, cc', e8, e9, i2⟩ := sm_change (xs (x + 1)) (xs (x + 2)) (xs (x + 3)) (xs (x + 4)) (xs (x + 5)) (xs (x + 6)) cc M h
      rw [e8, bnd_some, e9, bnd_some, if_pos rfl]
      exact go M2 cc' i2
    rw [if_neg v1]
    by_cases v2 : v = 2
    · rw [if_pos v2]
      simp only [a1, a2, a7, i1, i2, t1, t2, if_true]
      obtain ⟨r, M1, M2, cc', e8, e9, i2⟩ := sm_copy hfu (xs (x + 1)) (xs (x + 2)) cc M h
      rw [e8, bnd_some, e9, bnd_some, if_pos rfl]
      exact go M2 cc' i2
    rw [if_neg v2]
    by_cases v3 : v = 3
    · rw [if_pos v3]
      simp only [a1, a2, a3, a7, i1, i2, i3, t1, t2, t3, if_true]
      obtain ⟨r, M1, M2, cc', e8, e9, i2⟩ := sm_needed hfu (xs (x + 1)) (xs (x + 2)) (xs (x + 3)) cc M h
      rw [e8, bnd_some, e9, bnd_some, if_pos rfl]
      exact go M2 cc' i2
    rw [if_neg v3]
    by_cases v4 : v = 4
    · rw [if_pos v4]
      simp only [a1, a2, a7, i1, i2, t1, t2, if_true]
      obtain ⟨r, M1, M2, cc', e8, e9, i2⟩ := sm_spans hfu (xs (x + 1)) (xs (x + 2)) cc M h
      rw [e8, bnd_some, e9, bnd_some, if_pos rfl]
      exact go M2 cc' i2
    rw [if_neg v4]
    by_cases v5 : v = 5
    · rw [if_pos v5]
      simp only [a1, a2, a3, a4, a7, i1, i2, i3, i4, t1, t2, t3, t4, if_true]
      obtain ⟨r, M1, M2, cc', e8, e9, i2⟩ := sm_span hfu (xs (x + 1)) (xs (x + 2)) (xs (x + 3)) (xs (x + 4)) cc M h
      rw [e8, bnd_some, e9, bnd_some, if_pos rfl]
      exact go M2 cc' i2
    rw [if_neg v5]
    by_cases v6 : v = 6
    · rw [if_pos v6]
      simp only [a1, a2, a3, a4, a7, i1, i2, i3, i4, t1, t2, t3, t4, if_true]
      obtain ⟨r, M1, M2, cc', e8, e9, i2⟩ := sm_steps hfu (xs (x + 1)) (xs (x + 2)) (xs (x + 3)) (xs (x + 4)) cc M h
      rw [e8, bnd_some, e9, bnd_some, if_pos rfl]
      exact go M2 cc' i2
    rw [if_neg v6]
    by_cases v7 : v = 7
    · rw [if_pos v7]
      simp only [a1, a2, a3, a4, a5, a7, i1, i2, i3, i4, i5, t1, t2, t3, t4, t5, if_true]
      obtain ⟨r, M1, M2, cc', e8, e9, i2⟩ := sm_way hfu (xs (x + 1)) (xs (x + 2)) (xs (x + 3)) (xs (x + 4)) (xs (x + 5)) cc M h
      rw [e8, bnd_some, e9, bnd_some, if_pos rfl]
      exact go M2 cc' i2
    rw [if_neg v7]
    by_cases v8 : v = 8
    · rw [if_pos v8]
      simp only [a1, a2, a3, a4, a5, a7, i1, i2, i3, i4, i5, t1, t2, t3, t4, t5, if_true]
      obtain ⟨r, M1, M2, cc', e8, e9, i2⟩ := sm_feed hfu (xs (x + 1)) (xs (x + 2)) (xs (x + 3)) (xs (x + 4)) (xs (x + 5)) cc M h
      rw [e8, bnd_some, e9, bnd_some, if_pos rfl]
      exact go M2 cc' i2
    rw [if_neg v8]
    by_cases v9 : v = 9
    · rw [if_pos v9]
      simp only [a1, a2, a7, i1, i2, t1, t2, if_true]
      obtain ⟨r, M1, M2, cc', e8, e9, i2⟩ := sm_run hfu (xs (x + 1)) (xs (x + 2)) cc M h
      rw [e8, bnd_some, e9, bnd_some, if_pos rfl]
      exact go M2 cc' i2
    rw [if_neg v9]
    by_cases v10 : v = 10
    · rw [if_pos v10]
      simp only [a7, if_true]
      obtain ⟨r, M1, M2, cc', e8, e9, i2⟩ := sm_ended  cc M h
      rw [e8, bnd_some, e9, bnd_some, if_pos rfl]
      exact go M2 cc' i2
    rw [if_neg v10]
    by_cases v11 : v = 11
    · rw [if_pos v11]
      simp only [a1, a2, a3, a7, i1, i2, i3, t1, t2, t3, if_true]
      obtain ⟨r, M1, M2, cc', e8, e9, i2⟩ := sm_seen (xs (x + 1)) (xs (x + 2)) (xs (x + 3)) cc M h
      rw [e8, bnd_some, e9, bnd_some, if_pos rfl]
      exact go M2 cc' i2
    rw [if_neg v11]
    by_cases v12 : v = 12
    · rw [if_pos v12]
      simp only [a1, a2, a3, a7, i1, i2, i3, t1, t2, t3, if_true]
      obtain ⟨r, M1, M2, cc', e8, e9, i2⟩ := sm_melted hfu (xs (x + 1)) (xs (x + 2)) (xs (x + 3)) cc M h
      rw [e8, bnd_some, e9, bnd_some, if_pos rfl]
      exact go M2 cc' i2
    rw [if_neg v12]
    by_cases v13 : v = 13
    · rw [if_pos v13]
      simp only [a1, a2, a3, a4, a7, i1, i2, i3, i4, t1, t2, t3, t4, if_true]
      obtain ⟨r, M1, M2, cc', e8, e9, i2⟩ := sm_fresh hfu (xs (x + 1)) (xs (x + 2)) (xs (x + 3)) (xs (x + 4)) cc M h
      rw [e8, bnd_some, e9, bnd_some, if_pos rfl]
      exact go M2 cc' i2
    rw [if_neg v13]
    by_cases v14 : v = 14
    · rw [if_pos v14]
      simp only [a1, a2, a3, a4, a5, a7, i1, i2, i3, i4, i5, t1, t2, t3, t4, t5, if_true]
      obtain ⟨r, M1, M2, cc', e8, e9, i2⟩ := sm_effect (xs (x + 1)) (xs (x + 2)) (xs (x + 3)) (xs (x + 4)) (xs (x + 5)) cc M h
      rw [e8, bnd_some, e9, bnd_some, if_pos rfl]
      exact go M2 cc' i2
    rw [if_neg v14]
    by_cases v15 : v = 15
    · rw [if_pos v15]
      simp only [a1, a2, a7, i1, i2, t1, t2, if_true]
      by_cases hz : xs (x + 2) = 0
      · obtain ⟨r, M1, M2, cc', e8, e9, i2⟩ := sm_reach hfu (xs (x + 1)) 0 cc M h
        rw [if_pos hz, e8, bnd_some, if_pos hz, e9, bnd_some, if_pos rfl]
        exact go M2 cc' i2
      · obtain ⟨r, M1, M2, cc', e8, e9, i2⟩ := sm_reach hfu (xs (x + 1)) 1 cc M h
        rw [if_neg hz, e8, bnd_some, if_neg hz, e9, bnd_some, if_pos rfl]
        exact go M2 cc' i2
    rw [if_neg v15]
    by_cases v16 : v = 16
    · rw [if_pos v16]
      simp only [a1, a2, a7, i1, i2, t1, t2, if_true]
      obtain ⟨r, M1, M2, cc', e8, e9, i2⟩ := sm_shut hfu (xs (x + 1)) (xs (x + 2)) cc M h
      rw [e8, bnd_some, e9, bnd_some, if_pos rfl]
      exact go M2 cc' i2
    rw [if_neg v16]
    by_cases v17 : v = 17
    · rw [if_pos v17]
      simp only [a1, a2, a7, i1, i2, t1, t2, if_true]
      obtain ⟨r, M1, M2, cc', e8, e9, i2⟩ := sm_cuts hfu (xs (x + 1)) (xs (x + 2)) cc M h
      rw [e8, bnd_some, e9, bnd_some, if_pos rfl]
      exact go M2 cc' i2
    rw [if_neg v17]
    by_cases v18 : v = 18
    · rw [if_pos v18]
      simp only [a1, a2, a3, a7, i1, i2, i3, t1, t2, t3, if_true]
      obtain ⟨r, M1, M2, cc', e8, e9, i2⟩ := sm_look hfu (xs (x + 1)) (xs (x + 2)) (xs (x + 3)) cc M h
      rw [e8, bnd_some, e9, bnd_some, if_pos rfl]
      exact go M2 cc' i2
    rw [if_neg v18]
    by_cases v19 : v = 19
    · rw [if_pos v19]
      simp only [a1, a2, a7, i1, i2, t1, t2, if_true]
      obtain ⟨r, M1, M2, cc', e8, e9, i2⟩ := sm_count hfu (xs (x + 1)) (xs (x + 2)) cc M h
      rw [e8, bnd_some, e9, bnd_some, if_pos rfl]
      exact go M2 cc' i2
    rw [if_neg v19]
    rw [a7]
    exact go M cc h
