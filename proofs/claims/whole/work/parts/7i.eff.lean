/-! effect, feed. -/
theorem app_spec {e : Nat} (he : e < 10) {M : Mem} (hM : M 62 5 = nI e) (a b c d : Int32) :
    ∃ M', f_X2_append a b c d M = some (nI e, M') ∧ (∀ k, ¬ (62 ≤ k ∧ k ≤ 66) → M' k = M k) ∧ M' 62 5 = nI (e + 1) ∧ ∀ r j, r < 4 → M' (63 + r) j = if j = e then pk4 a b c d r else M (63 + r) j := by
  have hi := ixT (i := e) he (by omega)
  have hc := nI_clamp (n := e) (by omega)
  have q1 : upM M 63 e a 62 5 = nI e := by rw [upM_k (by omega)]; exact hM
  have q2 : upM (upM M 63 e a) 64 e b 62 5 = nI e := by rw [upM_k (by omega)]; exact q1
  have q3 : upM (upM (upM M 63 e a) 64 e b) 65 e c 62 5 = nI e := by rw [upM_k (by omega)]; exact q2
  have q4 : upM (upM (upM (upM M 63 e a) 64 e b) 65 e c) 66 e d 62 5 = nI e := by rw [upM_k (by omega)]; exact q3
  refine ⟨upM (upM (upM (upM (upM M 63 e a) 64 e b) 65 e c) 66 e d) 62 5 (nI (e + 1)), ?_, fun k hk => ?_, ?_, fun r j hr => ?_⟩
  · unfold f_X2_append wr
    dsimp only
    rw [hM, if_pos (show nI e < 10 from nI_lt (b := 10) he (by omega)), hi, if_pos rfl, hc, q1, hi, if_pos rfl, hc, q2, hi, if_pos rfl, hc, q3, hi, if_pos rfl, hc, q4, nI_1, upM_r, if_pos rfl, nI_pred]
  · rw [upM_k (by omega), upM_k (by omega), upM_k (by omega), upM_k (by omega), upM_k (by omega)]
  · rw [upM_r, if_pos rfl]
  · rw [upM_k (by omega)]
    rcases r4 hr with rfl | rfl | rfl | rfl
    · rw [upM_k (by omega), upM_k (by omega), upM_k (by omega)]; exact upM_r _ _ _ _ _
    · rw [upM_k (by omega), upM_k (by omega)]
      refine (upM_r _ _ _ _ _).trans ?_
      rw [upM_k (by omega)]; rfl
    · rw [upM_k (by omega)]
      refine (upM_r _ _ _ _ _).trans ?_
      rw [upM_k (by omega), upM_k (by omega)]; rfl
    · refine (upM_r _ _ _ _ _).trans ?_
      rw [upM_k (by omega), upM_k (by omega), upM_k (by omega)]; rfl
theorem side_bt {f l b : Nat} (h1 : f ≤ l) (h2 : l < 32) (hb : b < 32) : bt ((usr (-1) ((31 : Int32) - (nI l - nI f))) <<< (nI f &&& 31)) b = decide (f ≤ b ∧ b ≤ l) := by
  have e : (31 : Int32) - (nI l - nI f) = nI (31 - (l - f)) := by rw [pk_sub h1, c31, pk_sub (by omega)]
  rw [e, b_shl f (by omega) _ hb, usr_bt _ (by omega)]
  by_cases z : f ≤ b
  · by_cases w : b ≤ l
    · rw [decide_eq_true z, b_m1 _ (by omega), decide_eq_true (show f ≤ b ∧ b ≤ l from ⟨z, w⟩)]; rfl
    · rw [b_big (by omega), decide_eq_false (show ¬ (f ≤ b ∧ b ≤ l) from fun q => w q.2), Bool.and_false]
  · rw [decide_eq_false z, decide_eq_false (show ¬ (f ≤ b ∧ b ≤ l) from fun q => z q.1)]; rfl
theorem eff9_spec {e : Nat} (he : e < 10) {M : Mem} (hM : M 70 12 = nI e) {d f l t g : Nat} (hd : d < 32) (h1 : f ≤ l) (h2 : l < 32) (ht : t < 256) (hg : g < 256) :
    ∃ M', f_X9_effect (nI d) (nI f) (nI l) (nI t) (nI g) M = some (nI e, M') ∧ (∀ k, k ≠ 70 → ¬ (81 ≤ k ∧ k ≤ 85) → M' k = M k) ∧ (∀ f, f ≠ 12 → M' 70 f = M 70 f) ∧ M' 70 12 = nI (e + 1) ∧ (∀ j, M' 81 j = if j = e then nI d else M 81 j) ∧ (∀ j, M' 82 j = if j = e then nI f else M 82 j) ∧ (∀ j, M' 83 j = if j = e then nI l else M 83 j) ∧ (∀ j, M' 84 j = if j = e then nI t else M 84 j) ∧ ∀ j, M' 85 j = if j = e then nI g else M 85 j := by
  have hi := ixT (i := e) he (by omega)
  have hc := nI_clamp (n := e) (by omega)
  have q1 : upM M 81 e (nI d) 70 12 = nI e := by rw [upM_k (by omega)]; exact hM
  have q2 : upM (upM M 81 e (nI d)) 82 e (nI f) 70 12 = nI e := by rw [upM_k (by omega)]; exact q1
  have q3 : upM (upM (upM M 81 e (nI d)) 82 e (nI f)) 83 e (nI l) 70 12 = nI e := by rw [upM_k (by omega)]; exact q2
  have q4 : upM (upM (upM (upM M 81 e (nI d)) 82 e (nI f)) 83 e (nI l)) 84 e (nI t) 70 12 = nI e := by rw [upM_k (by omega)]; exact q3
  have q5 : upM (upM (upM (upM (upM M 81 e (nI d)) 82 e (nI f)) 83 e (nI l)) 84 e (nI t)) 85 e (nI g) 70 12 = nI e := by rw [upM_k (by omega)]; exact q4
  have l1 : f_X9_lies (nI d) 0 31 M = some (1, M) := li_yes (n := 31) (by omega) (by omega) M
  have l2 : f_X9_lies (nI f) 0 31 M = some (1, M) := li_yes (n := 31) (by omega) (by omega) M
  have l3 : f_X9_lies (nI l) (nI f) 31 M = some (1, M) := by
    unfold f_X9_lies
    rw [if_neg (nI_nlt h1 (by omega)), if_neg (show ¬ (31 : Int32) < nI l from nI_nlt (a := 31) (by omega) (by omega))]
  have l4 : f_X9_lies (nI t) 0 255 M = some (1, M) := li_yes (n := 255) (by omega) (by omega) M
  have l5 : f_X9_lies (nI g) 0 255 M = some (1, M) := li_yes (n := 255) (by omega) (by omega) M
  refine ⟨upM (upM (upM (upM (upM (upM M 81 e (nI d)) 82 e (nI f)) 83 e (nI l)) 84 e (nI t)) 85 e (nI g)) 70 12 (nI (e + 1)), ?_, fun k hk hk2 => ?_, fun f hf => ?_, ?_, fun j => ?_, fun j => ?_, fun j => ?_, fun j => ?_, fun j => ?_⟩
  · unfold f_X9_effect wr
    dsimp only
    rw [if_neg (fun q => by rw [hM] at q; exact absurd ((nI_eq (b := 10) (by omega) (by omega)).mp q) (by omega)), l1, bnd_some, if_neg (by decide), l2, bnd_some, if_neg (by decide), l3, bnd_some, if_neg (by decide), l4, bnd_some, if_neg (by decide), l5, bnd_some, if_neg (by decide), hM, hi, if_pos rfl, hc, q1, hi, if_pos rfl, hc, q2, hi, if_pos rfl, hc, q3, hi, if_pos rfl, hc, q4, hi, if_pos rfl, hc, q5, nI_1, upM_r, if_pos rfl, nI_pred]
  · rw [upM_k hk, upM_k (by omega), upM_k (by omega), upM_k (by omega), upM_k (by omega), upM_k (by omega)]
  · rw [upM_r, if_neg hf, upM_k (by omega), upM_k (by omega), upM_k (by omega), upM_k (by omega), upM_k (by omega)]
  · rw [upM_r, if_pos rfl]
  · rw [upM_k (by omega), upM_k (by omega), upM_k (by omega), upM_k (by omega), upM_k (by omega)]; exact upM_r _ _ _ _ _
  · rw [upM_k (by omega), upM_k (by omega), upM_k (by omega), upM_k (by omega), upM_r, upM_k (by omega)]
  · rw [upM_k (by omega), upM_k (by omega), upM_k (by omega), upM_r, upM_k (by omega), upM_k (by omega)]
  · rw [upM_k (by omega), upM_k (by omega), upM_r, upM_k (by omega), upM_k (by omega), upM_k (by omega)]
  · rw [upM_k (by omega), upM_r, upM_k (by omega), upM_k (by omega), upM_k (by omega), upM_k (by omega)]
theorem eff_no (x y z t g : Int32) : ((∀ M, f_X8_effect x y z t g M = some (-1, M)) ∧ ∀ M, f_X9_effect x y z t g M = some (-1, M)) ∨ ∃ d f l t' g', d < 32 ∧ f ≤ l ∧ l < 32 ∧ t' < 256 ∧ g' < 256 ∧ x = nI d ∧ y = nI f ∧ z = nI l ∧ t = nI t' ∧ g = nI g' := by
  have i9 : (∀ M, (bnd (f_X9_lies x 0 31 M) (fun r1 M2 => if r1 = 0 then some ((-1 : Int32), M2) else bnd (f_X9_lies y 0 31 M2) (fun r3 M4 => if r3 = 0 then some ((-1), M4) else bnd (f_X9_lies z y 31 M4) (fun r5 M6 => if r5 = 0 then some ((-1), M6) else bnd (f_X9_lies t 0 255 M6) (fun r7 M8 => if r7 = 0 then some ((-1), M8) else bnd (f_X9_lies g 0 255 M8) (fun r9 M10 => if r9 = 0 then some ((-1), M10) else none)))))) = some (-1, M)) → ∀ M, f_X9_effect x y z t g M = some (-1, M) := fun hh M => by
    have q := hh M
    unfold f_X9_effect
    by_cases w : M 70 12 = 10
    · rw [if_pos w]
    · rw [if_neg w]
      revert q
      cases f_X9_lies x 0 31 M with
      | none => intro q; exact q
      | some v =>
        show (if v.1 = 0 then some ((-1 : Int32), v.2) else _) = _ → (if v.1 = 0 then some ((-1 : Int32), v.2) else _) = _
        by_cases w1 : v.1 = 0
        · rw [if_pos w1, if_pos w1]; exact id
        · rw [if_neg w1, if_neg w1]
          cases f_X9_lies y 0 31 v.2 with
          | none => intro q; exact q
          | some v =>
            show (if v.1 = 0 then some ((-1 : Int32), v.2) else _) = _ → (if v.1 = 0 then some ((-1 : Int32), v.2) else _) = _
            by_cases w1 : v.1 = 0
            · rw [if_pos w1, if_pos w1]; exact id
            · rw [if_neg w1, if_neg w1]
              cases f_X9_lies z y 31 v.2 with
              | none => intro q; exact q
              | some v =>
                show (if v.1 = 0 then some ((-1 : Int32), v.2) else _) = _ → (if v.1 = 0 then some ((-1 : Int32), v.2) else _) = _
                by_cases w1 : v.1 = 0
                · rw [if_pos w1, if_pos w1]; exact id
                · rw [if_neg w1, if_neg w1]
                  cases f_X9_lies t 0 255 v.2 with
                  | none => intro q; exact q
                  | some v =>
                    show (if v.1 = 0 then some ((-1 : Int32), v.2) else _) = _ → (if v.1 = 0 then some ((-1 : Int32), v.2) else _) = _
                    by_cases w1 : v.1 = 0
                    · rw [if_pos w1, if_pos w1]; exact id
                    · rw [if_neg w1, if_neg w1]
                      cases f_X9_lies g 0 255 v.2 with
                      | none => intro q; exact q
                      | some v =>
                        show (if v.1 = 0 then some ((-1 : Int32), v.2) else none) = _ → (if v.1 = 0 then some ((-1 : Int32), v.2) else _) = _
                        by_cases w1 : v.1 = 0
                        · rw [if_pos w1, if_pos w1]; exact id
                        · rw [if_neg w1]; exact fun q => absurd q (by simp)
  have L1 : ∀ {u : Int32} {n : Nat}, n + 1 < 2 ^ 31 → (u < 0 ∨ nI (n + 1) ≤ u) → ∀ M, f_X9_lies u 0 (nI n) M = some (0, M) := fun hn hu M => li_no hn hu M
  rcases pk2 x (n := 32) (by omega) with w | ⟨d, hd, rfl⟩
  · refine Or.inl ⟨fun M => by unfold f_X8_effect; rw [v8_no w, bnd_some, if_pos rfl], i9 fun M => ?_⟩
    have l1 : f_X9_lies x 0 31 M = some (0, M) := li_no (n := 31) (by omega) w M
    rw [l1, bnd_some, if_pos rfl]
  have l1 : ∀ M, f_X9_lies (nI d) 0 31 M = some (1, M) := fun M => li_yes (n := 31) (by omega) (by omega) M
  rcases pk2 y (n := 32) (by omega) with w | ⟨f, hf, rfl⟩
  · refine Or.inl ⟨fun M => by unfold f_X8_effect; rw [v8_yes hd, bnd_some, if_neg (by decide), v8_no w, bnd_some, if_pos rfl], i9 fun M => ?_⟩
    have l2 : f_X9_lies y 0 31 M = some (0, M) := li_no (n := 31) (by omega) w M
    rw [l1, bnd_some, if_neg (by decide), l2, bnd_some, if_pos rfl]
  have l2 : ∀ M, f_X9_lies (nI f) 0 31 M = some (1, M) := fun M => li_yes (n := 31) (by omega) (by omega) M
  rcases pk2 z (n := 32) (by omega) with w | ⟨l, hl, rfl⟩
  · refine Or.inl ⟨fun M => by unfold f_X8_effect; rw [v8_yes hd, bnd_some, if_neg (by decide), v8_yes hf, bnd_some, if_neg (by decide), v8_no w, bnd_some, if_pos rfl], i9 fun M => ?_⟩
    have l3 : f_X9_lies z (nI f) 31 M = some (0, M) := by
      unfold f_X9_lies
      by_cases w1 : z < nI f
      · rw [if_pos w1]
      · rw [if_neg w1]
        rcases w with w | w
        · exfalso
          apply w1
          rw [Int32.lt_iff_toInt_lt, nI_toInt (by omega)]
          rw [Int32.lt_iff_toInt_lt] at w
          have : (0 : Int32).toInt = 0 := by decide
          omega
        · rw [if_pos]
          show nI 31 < z
          rw [Int32.lt_iff_toInt_lt, nI_toInt (by omega)]
          rw [Int32.le_iff_toInt_le, nI_toInt (by omega)] at w
          omega
    rw [l1, bnd_some, if_neg (by decide), l2, bnd_some, if_neg (by decide), l3, bnd_some, if_pos rfl]
  by_cases hfl : f ≤ l
  · have l3 : ∀ M, f_X9_lies (nI l) (nI f) 31 M = some (1, M) := fun M => by
      unfold f_X9_lies
      rw [if_neg (nI_nlt hfl (by omega)), if_neg (show ¬ (31 : Int32) < nI l from nI_nlt (a := 31) (by omega) (by omega))]
    rcases pk2 t (n := 256) (by omega) with w | ⟨t', ht, rfl⟩
    · refine Or.inl ⟨fun M => by unfold f_X8_effect; rw [v8_yes hd, bnd_some, if_neg (by decide), v8_yes hf, bnd_some, if_neg (by decide), v8_yes hl, bnd_some, if_neg (by decide), if_pos (nI_le hfl (by omega)), q8_no w, bnd_some, if_pos rfl], i9 fun M => ?_⟩
      have l4 : f_X9_lies t 0 255 M = some (0, M) := li_no (n := 255) (by omega) w M
      rw [l1, bnd_some, if_neg (by decide), l2, bnd_some, if_neg (by decide), l3, bnd_some, if_neg (by decide), l4, bnd_some, if_pos rfl]
    have l4 : ∀ M, f_X9_lies (nI t') 0 255 M = some (1, M) := fun M => li_yes (n := 255) (by omega) (by omega) M
    rcases pk2 g (n := 256) (by omega) with w | ⟨g', hg, rfl⟩
    · refine Or.inl ⟨fun M => by unfold f_X8_effect; rw [v8_yes hd, bnd_some, if_neg (by decide), v8_yes hf, bnd_some, if_neg (by decide), v8_yes hl, bnd_some, if_neg (by decide), if_pos (nI_le hfl (by omega)), q8_yes ht, bnd_some, if_neg (by decide), q8_no w, bnd_some, if_pos rfl], i9 fun M => ?_⟩
      have l5 : f_X9_lies g 0 255 M = some (0, M) := li_no (n := 255) (by omega) w M
      rw [l1, bnd_some, if_neg (by decide), l2, bnd_some, if_neg (by decide), l3, bnd_some, if_neg (by decide), l4, bnd_some, if_neg (by decide), l5, bnd_some, if_pos rfl]
    · exact Or.inr ⟨d, f, l, t', g', hd, hfl, hl, ht, hg, rfl, rfl, rfl, rfl, rfl⟩
  · refine Or.inl ⟨fun M => by unfold f_X8_effect; rw [v8_yes hd, bnd_some, if_neg (by decide), v8_yes hf, bnd_some, if_neg (by decide), v8_yes hl, bnd_some, if_neg (by decide), if_neg (nI_ge (by omega) (by omega))], i9 fun M => ?_⟩
    have l3 : f_X9_lies (nI l) (nI f) 31 M = some (0, M) := by
      unfold f_X9_lies
      rw [if_pos (nI_lt (by omega) (by omega))]
    rw [l1, bnd_some, if_neg (by decide), l2, bnd_some, if_neg (by decide), l3, bnd_some, if_pos rfl]
theorem Inv.frE {cc : Nat → Cd} {M M' : Mem} (h : Inv cc M) (hk : ∀ k, ¬ (62 ≤ k ∧ k ≤ 66) → ¬ (81 ≤ k ∧ k ≤ 85) → k ≠ 70 → M' k = M k) (h70 : ∀ f, f ≠ 12 → M' 70 f = M 70 f) (hE : IvE M') : Inv cc M' := by
  obtain ⟨hP, hT, hN, -⟩ := h
  have g : ∀ k, ¬ (62 ≤ k ∧ k ≤ 66) ∧ ¬ (81 ≤ k ∧ k ≤ 85) ∧ k ≠ 70 → M' k = M k := fun k q => hk k q.1 q.2.1 q.2.2
  refine ⟨fun p hp => ?_, hT.fr (by rw [g 58 (by omega)]) (h70 1 (by omega)) (g 59 (by omega)) (g 71 (by omega)), by rw [g 60 (by omega), h70 2 (by omega)]; exact hN, hE⟩
  obtain ⟨a, b, c, d⟩ := hP p hp
  refine ⟨a.fr (fun k q => g k (by omega)), b.fr (fun k q => g k (by omega)), c.fr (by rw [g 80 (by omega)]) (fun j _ _ => by rw [g 77 (by omega)]) (by rw [g 79 (by omega)]), d.fr (fun z => ?_)⟩
  rw [h70 18 (by omega)] at z
  exact ⟨z, by rw [g 80 (by omega)], g 87 (by omega), g 88 (by omega), g 89 (by omega)⟩
theorem sm_effect (x y z t g : Int32) : Sm (f_X8_effect x y z t g) (f_X9_effect x y z t g) := by
  intro cc M h
  rcases eff_no x y z t g with ⟨z8, z9⟩ | ⟨d, f, l, t', g', hd, hfl, hl, ht, hg, rfl, rfl, rfl, rfl, rfl⟩
  · exact Sm.same h (-1) (z8 M) (z9 M)
  obtain ⟨e, he, m1, m2, m3⟩ := id h.2.2.2
  have e8 : ∀ r M', f_X2_append (nI d) ((usr (-1) ((31 : Int32) - (nI l - nI f))) <<< (nI f &&& 31)) (nI t') (nI g') M = some (r, M') → f_X8_effect (nI d) (nI f) (nI l) (nI t') (nI g') M = some (r, M') := fun r M' q => by
    unfold f_X8_effect f_X8_side
    rw [v8_yes hd, bnd_some, if_neg (by decide), v8_yes (by omega : f < 32), bnd_some, if_neg (by decide), v8_yes hl, bnd_some, if_neg (by decide), if_pos (nI_le hfl (by omega)), q8_yes ht, bnd_some, if_neg (by decide), q8_yes hg, bnd_some, if_neg (by decide), bnd_some, q, bnd_some]
  by_cases w : e = 10
  · subst w
    refine Sm.same h (-1) (e8 _ _ ?_) ?_
    · unfold f_X2_append
      rw [m1, if_neg (by decide)]
    · unfold f_X9_effect
      rw [m2, if_pos (by decide)]
  · obtain ⟨M1, e1, f1, s1, r1⟩ := app_spec (e := e) (by omega) m1 (nI d) ((usr (-1) ((31 : Int32) - (nI l - nI f))) <<< (nI f &&& 31)) (nI t') (nI g')
    obtain ⟨M2, e2, f2, f3, s2, r81, r82, r83, r84, r85⟩ := eff9_spec (e := e) (M := M1) (by omega) (by rw [f1 70 (by omega)]; exact m2) hd hfl hl ht hg
    refine ⟨nI e, M1, M2, cc, e8 _ _ e1, e2, h.frE (fun k k1 k2 k3 => by rw [f2 k k3 k2, f1 k k1]) (fun f hf => by rw [f3 f hf, f1 70 (by omega)]) ⟨e + 1, by omega, by rw [f2 62 (by omega) (by omega)]; exact s1, s2, fun j hj => ?_⟩⟩
    have a0 := r1 0 j (by omega)
    have a1 := r1 1 j (by omega)
    have a2 := r1 2 j (by omega)
    have a3 := r1 3 j (by omega)
    rw [f2 63 (by omega) (by omega), f2 64 (by omega) (by omega), f2 65 (by omega) (by omega), f2 66 (by omega) (by omega), r81, r82, r83, r84, r85, f1 81 (by omega), f1 82 (by omega), f1 83 (by omega), f1 84 (by omega), f1 85 (by omega)]
    have a0' : M1 63 j = if j = e then nI d else M 63 j := a0
    have a1' : M1 64 j = if j = e then ((usr (-1) ((31 : Int32) - (nI l - nI f))) <<< (nI f &&& 31)) else M 64 j := a1
    have a2' : M1 65 j = if j = e then nI t' else M 65 j := a2
    have a3' : M1 66 j = if j = e then nI g' else M 66 j := a3
    rw [a0', a1', a2', a3']
    by_cases q : j = e
    · rw [if_pos q, if_pos q, if_pos q, if_pos q, if_pos q, if_pos q, if_pos q, if_pos q, if_pos q]
      exact ⟨⟨d, hd, rfl, rfl⟩, rfl, rfl, f, l, hfl, hl, rfl, rfl, fun b hb => side_bt hfl hl hb⟩
    · rw [if_neg q, if_neg q, if_neg q, if_neg q, if_neg q, if_neg q, if_neg q, if_neg q, if_neg q]
      exact m3 j (by omega)
