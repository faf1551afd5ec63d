/-! leave, whole. -/
theorem e_kind {pp t : Nat} (ht : t < 24) (M : Mem) : f_X1_kind pp (nI t) M = some (M (13 * pp + 4) t, M) := by
  unfold f_X1_kind
  rw [ixT ht (by omega), if_pos rfl, nI_clamp (by omega)]
theorem e_x {pp t : Nat} (ht : t < 24) (M : Mem) : f_X1_x pp (nI t) M = some (M (13 * pp + 5) t, M) := by
  unfold f_X1_x
  rw [ixT ht (by omega), if_pos rfl, nI_clamp (by omega)]
theorem e_n {pp t : Nat} (ht : t < 24) (M : Mem) : f_X1_n pp (nI t) M = some (M (13 * pp + 6) t, M) := by
  unfold f_X1_n
  rw [ixT ht (by omega), if_pos rfl, nI_clamp (by omega)]
theorem e_to {pp t : Nat} (ht : t < 24) (M : Mem) : f_X1_to pp (nI t) M = some (M (13 * pp + 7) t, M) := by
  unfold f_X1_to
  rw [ixT ht (by omega), if_pos rfl, nI_clamp (by omega)]
theorem e_fetch {pp : Nat} {c : Cd} {M : Mem} (hcd : cdAt pp c M) {t : Nat} (ht : t < 24) : ∃ M', f_X4_fetch pp (nI t) M = some (0, M') ∧ fld pp c t M' ∧ (∀ k, k ≠ 13 * pp + 8 → M' k = M k) ∧ (∀ f, f < 9 → M' (13 * pp + 8) f = M (13 * pp + 8) f) := by
  obtain ⟨k1, k2, k3, k4⟩ := hcd.2 t ht
  unfold f_X4_fetch wr
  dsimp only
  generalize h1 : upM M (13 * pp + 8) 9 (nI t) = X1
  have a1 : X1 (13 * pp + 8) 9 = nI t := by rw [← h1, upM_ap, if_pos ⟨rfl, rfl⟩]
  have b1 : ∀ k, k ≠ 13 * pp + 8 → X1 k = M k := fun k hk => by rw [← h1, upM_k hk]
  rw [a1, e_kind ht, bnd_some, b1 _ (by omega), k1]
  generalize h2 : upM X1 (13 * pp + 8) 10 (nI (c.2.1 t)) = X2
  have a2 : X2 (13 * pp + 8) 9 = nI t := by rw [← h2, upM_ap, if_neg (by omega), a1]
  have b2 : ∀ k, k ≠ 13 * pp + 8 → X2 k = M k := fun k hk => by rw [← h2, upM_k hk, b1 k hk]
  rw [a2, e_x ht, bnd_some, b2 _ (by omega), k2]
  generalize h3 : upM X2 (13 * pp + 8) 11 (nI (c.2.2.1 t)) = X3
  have a3 : X3 (13 * pp + 8) 9 = nI t := by rw [← h3, upM_ap, if_neg (by omega), a2]
  have b3 : ∀ k, k ≠ 13 * pp + 8 → X3 k = M k := fun k hk => by rw [← h3, upM_k hk, b2 k hk]
  rw [a3, e_n ht, bnd_some, b3 _ (by omega), k3]
  generalize h4 : upM X3 (13 * pp + 8) 12 (nI (c.2.2.2.1 t)) = X4
  have a4 : X4 (13 * pp + 8) 9 = nI t := by rw [← h4, upM_ap, if_neg (by omega), a3]
  have b4 : ∀ k, k ≠ 13 * pp + 8 → X4 k = M k := fun k hk => by rw [← h4, upM_k hk, b3 k hk]
  rw [a4, e_to ht, bnd_some, b4 _ (by omega), k4]
  refine ⟨_, rfl, ⟨?_, ?_, ?_, ?_, ?_⟩, fun k hk => by rw [upM_k hk, b4 k hk], fun f hf => ?_⟩
  · rw [upM_ap, if_neg (by omega), a4]
  · rw [upM_ap, if_neg (by omega), ← h4, upM_ap, if_neg (by omega), ← h3, upM_ap, if_neg (by omega), ← h2, upM_ap, if_pos ⟨rfl, rfl⟩]
  · rw [upM_ap, if_neg (by omega), ← h4, upM_ap, if_neg (by omega), ← h3, upM_ap, if_pos ⟨rfl, rfl⟩]
  · rw [upM_ap, if_neg (by omega), ← h4, upM_ap, if_pos ⟨rfl, rfl⟩]
  · rw [upM_ap, if_pos ⟨rfl, rfl⟩]
  · rw [upM_ap, if_neg (by omega), ← h4, upM_ap, if_neg (by omega), ← h3, upM_ap, if_neg (by omega), ← h2, upM_ap, if_neg (by omega), ← h1, upM_ap, if_neg (by omega)]
/-- what the search leaves as it was -/
def mH (pp : Nat) (M M' : Mem) : Prop := (∀ k, k ≠ 13 * pp + 8 → k ≠ 13 * pp + 9 → k ≠ 13 * pp + 10 → k ≠ 13 * pp + 12 → k ≠ 55 → k ≠ 56 → k ≠ 57 → M' k = M k) ∧ M' (13 * pp + 8) 8 = M (13 * pp + 8) 8
theorem mH.rf (pp : Nat) (M : Mem) : mH pp M M := ⟨fun _ _ _ _ _ _ _ _ => rfl, rfl⟩
theorem mH.tr {pp : Nat} {M M' M'' : Mem} (h : mH pp M M') (h' : mH pp M' M'') : mH pp M M'' := ⟨fun k a b c d e f g => (h'.1 k a b c d e f g).trans (h.1 k a b c d e f g), h'.2.trans h.2⟩
theorem mG.H {pp : Nat} {M M' : Mem} (h : mG pp M M') : mH pp M M' := ⟨h.1, h.2 8 (by omega) (by omega) (by omega)⟩
/-- the mark 'opens' is set -/
theorem mR.op {pp : Nat} (hp : pp < 4) {c : Cd} {M : Mem} {s : Nat} {L : Nat → Nat} {Q : Nat → Int32} {o : Nat} (h : mR pp c M s L Q o) : mR pp c (upM M (13 * pp + 8) 7 1) s L Q 1 := by
  obtain ⟨hc, hs, hs2, hi, ho, ho2, hg, hco, hd⟩ := h
  have b : ∀ k, k ≠ 13 * pp + 8 → upM M (13 * pp + 8) 7 1 k = M k := fun k hk => upM_k hk
  refine ⟨⟨?_, fun i hi2 => ?_⟩, ?_, hs2, fun j hj => ?_, ?_, by omega, fun t ph a b' g1 g2 g3 g4 => ?_, fun t ht => ?_, hd⟩
  · rw [b _ (by omega)]; exact hc.1
  · rw [b _ (by omega), b _ (by omega), b _ (by omega), b _ (by omega)]; exact hc.2 i hi2
  · rw [upM_ap, if_neg (by omega)]; exact hs
  · rw [b _ (by omega), b _ (by omega)]; exact hi j hj
  · rw [upM_ap, if_pos ⟨rfl, rfl⟩]; rfl
  · rw [b _ (by omega)]; exact hg t ph a b' g1 g2 g3 g4
  · rw [upM_ap, if_neg (by omega)]; exact hco t ht
theorem mR.p8 {pp : Nat} (hp : pp < 4) {c : Cd} {M M' : Mem} {s : Nat} {L : Nat → Nat} {Q : Nat → Int32} {o : Nat} (h : mR pp c M s L Q o) (hk : ∀ k, k ≠ 13 * pp + 8 → M' k = M k) (hf : ∀ f, f < 9 → M' (13 * pp + 8) f = M (13 * pp + 8) f) : mR pp c M' s L Q o := by
  obtain ⟨hc, hs, hs2, hi, ho, ho2, hg, hco, hd⟩ := h
  refine ⟨⟨?_, fun i hi2 => ?_⟩, ?_, hs2, fun j hj => ?_, ?_, ho2, fun t ph a b' g1 g2 g3 g4 => ?_, fun t ht => ?_, hd⟩
  · rw [hk _ (by omega)]; exact hc.1
  · rw [hk _ (by omega), hk _ (by omega), hk _ (by omega), hk _ (by omega)]; exact hc.2 i hi2
  · rw [hf 5 (by omega)]; exact hs
  · rw [hk _ (by omega), hk _ (by omega)]; exact hi j hj
  · rw [hf 7 (by omega)]; exact ho
  · rw [hk _ (by omega)]; exact hg t ph a b' g1 g2 g3 g4
  · rw [hf 6 (by omega)]; exact hco t ht
theorem rV.fr {pp : Nat} {c : Cd} {M M' : Mem} {j : Nat} {L : Nat → Nat} {Q : Nat → Int32} (h : rV pp c M j L Q) (h1 : M' (13 * pp + 12) = M (13 * pp + 12)) (h2 : M' (13 * pp + 10) = M (13 * pp + 10)) : rV pp c M' j L Q :=
  ⟨fun ph d b g1 g2 g3 => by rw [h1]; exact h.1 ph d b g1 g2 g3, fun ph d b g1 g2 g3 hb => by rw [h1] at hb; rw [h2]; exact h.2 ph d b g1 g2 g3 hb⟩
theorem gV.fr {c : Cd} {M M' : Mem} {s : Nat} {L : Nat → Nat} {Q : Nat → Int32} (h : gV c M s L Q) (h1 : M' 57 = M 57) : gV c M' s L Q := h.go (Nat.le_refl _) (fun _ _ => ⟨rfl, rfl⟩) h1
/-- two stretches: to the lesser instruction, then to the greater -/
def Lvd (pp : Nat) (c : Cd) (t hd e : Nat) (M : Mem) (s : Nat) (L : Nat → Nat) (Q : Nat → Int32) (M' : Mem) : Prop :=
  mH pp M M' ∧ ∃ s1 L1 Q1 o1 s2 L2 Q2 o2, Seg c (loR c t) hd e s L Q 1 s1 L1 Q1 o1 (fun ph a b => ∃ j, hd ≤ j ∧ j < e ∧ Wi c L Q t (loR c t) j ph a b) ∧
    Seg c (hiR c t) hd e s1 L1 Q1 1 s2 L2 Q2 o2 (fun ph a b => ∃ j, hd ≤ j ∧ j < e ∧ Wi c L Q t (hiR c t) j ph a b) ∧ mR pp c M' s2 L2 Q2 o2 ∧ gV c M' s2 L2 Q2 ∧ rV pp c M' e L2 Q2
theorem lv_go {pp fu : Nat} (hp : pp < 4) (hfu : 49152 < fu) {c : Cd} (hc : cdOk c) {t hd e : Nat} (hk9 : c.2.1 t ≠ 9) (hhe : hd < e) (x1 : Int32) {M : Mem} {s : Nat} {L : Nat → Nat} {Q : Nat → Int32} {o : Nat} (hes : e ≤ s) (hR : mR pp c M s L Q o) (ht : ∀ j, hd ≤ j → j < e → L j / 32 % 32 = t) (hfl : fld pp c t M) (hg : gV c M s L Q) (hr : rV pp c M hd L Q) :
    ∃ M', wr M (13 * pp + 8) 7 1 (fun M4 => f_X4_leave_L107 fu pp x1 (nI e) (nI (loR c t)) (nI (hiR c t)) (fun M7 y8 => wr M7 (13 * pp + 8) 7 1 (fun M9 => f_X4_leave_L134 fu pp (nI e) (nI (loR c t)) (nI (hiR c t)) (fun M12 y13 => some (0, M12)) fu M9 (nI hd))) fu M4 (nI hd)) = some (0, M') ∧ Lvd pp c t hd e M s L Q M' := by
  have hs2 := hR.2.2.1
  have h24 := hc.1
  have l5 := (hR.2.2.2.1 hd (by omega)).2.2.2.2
  rw [ht hd (by omega) hhe] at l5
  have cT := (hc.2 t (by omega)).2.2.2
  have hlo : loR c t ≤ 24 ∧ (c.2.1 t = 5 ∧ (loR c t = t + 1 ∨ loR c t = c.2.2.2.2 t) ∨ c.2.1 t = 6 ∧ loR c t = c.2.2.2.2 t ∨ c.2.1 t ≠ 5 ∧ c.2.1 t ≠ 6 ∧ loR c t = t + 1) := by
    unfold loR
    split
    · omega
    · split <;> omega
  have hhi : hiR c t ≤ 24 ∧ (c.2.1 t = 5 ∧ (hiR c t = t + 1 ∨ hiR c t = c.2.2.2.2 t) ∨ c.2.1 t ≠ 5 ∧ hiR c t = loR c t) := by
    unfold hiR loR
    split
    · omega
    · split <;> omega
  unfold wr
  dsimp only
  have hR1 := hR.op hp
  generalize h1 : upM M (13 * pp + 8) 7 1 = M1 at hR1 ⊢
  have b1 : ∀ k, k ≠ 13 * pp + 8 → M1 k = M k := fun k hk => by rw [← h1]; exact upM_k hk
  have f1 : ∀ f, f ≠ 7 → M1 (13 * pp + 8) f = M (13 * pp + 8) f := fun f hf => by rw [← h1, upM_ap, if_neg (by omega)]
  have hH1 : mH pp M M1 := ⟨fun k a _ _ _ _ _ _ => b1 k a, f1 8 (by omega)⟩
  have hfl1 : fld pp c t M1 := ⟨by rw [f1 _ (by omega)]; exact hfl.1, by rw [f1 _ (by omega)]; exact hfl.2.1, by rw [f1 _ (by omega)]; exact hfl.2.2.1, by rw [f1 _ (by omega)]; exact hfl.2.2.2.1, by rw [f1 _ (by omega)]; exact hfl.2.2.2.2⟩
  obtain ⟨M2, e2, hG2, s1, L1, Q1, o1, hR2, hS2, hg2, hr2⟩ := lv_1 (lo := hd) (hi := e) hp (by omega : 32 < fu) hc hk9 hlo.2 (Nat.le_refl e) x1 (nI (hiR c t)) (fun M7 y8 => f_X4_leave_L134 fu pp (nI e) (nI (loR c t)) (nI (hiR c t)) (fun M12 y13 => some (0, M12)) fu (upM M7 (13 * pp + 8) 7 1) (nI hd)) (e - hd) hd fu M1 s L Q 1 (by omega) (by omega) (Nat.le_refl _) hes hR1 ht hfl1 (hg.fr (b1 _ (by omega))) (hr.fr (b1 _ (by omega)) (b1 _ (by omega)))
  rw [e2]
  have hR3 := hR2.op hp
  have hag := hS2.2.1
  have hs1 := hS2.1
  generalize h3 : upM M2 (13 * pp + 8) 7 1 = M3 at hR3 ⊢
  have b3 : ∀ k, k ≠ 13 * pp + 8 → M3 k = M2 k := fun k hk => by rw [← h3]; exact upM_k hk
  have f3 : ∀ f, f ≠ 7 → M3 (13 * pp + 8) f = M2 (13 * pp + 8) f := fun f hf => by rw [← h3, upM_ap, if_neg (by omega)]
  have hH3 : mH pp M2 M3 := ⟨fun k a _ _ _ _ _ _ => b3 k a, f3 8 (by omega)⟩
  have hfl3 : fld pp c t M3 := by
    have q := hfl1.go hG2
    exact ⟨by rw [f3 _ (by omega)]; exact q.1, by rw [f3 _ (by omega)]; exact q.2.1, by rw [f3 _ (by omega)]; exact q.2.2.1, by rw [f3 _ (by omega)]; exact q.2.2.2.1, by rw [f3 _ (by omega)]; exact q.2.2.2.2⟩
  have wcg : ∀ nx ph a b, (∃ j, hd ≤ j ∧ j < e ∧ Wi c L1 Q1 t nx j ph a b) ↔ ∃ j, hd ≤ j ∧ j < e ∧ Wi c L Q t nx j ph a b := fun nx ph a b => by
    constructor
    · rintro ⟨j, z1, z2, z3⟩; exact ⟨j, z1, z2, (Wi.cg (hag j (by omega)).1 (hag j (by omega)).2 ph a b).mp z3⟩
    · rintro ⟨j, z1, z2, z3⟩; exact ⟨j, z1, z2, (Wi.cg (hag j (by omega)).1 (hag j (by omega)).2 ph a b).mpr z3⟩
  by_cases hne : loR c t = hiR c t
  · obtain ⟨fu', rfl⟩ : ∃ fu', fu = fu' + 1 := ⟨fu - 1, by omega⟩
    rw [f_X4_leave_L134, if_neg (nI_ge (by omega) (by omega)), if_pos (by rw [hne])]
    refine ⟨M3, rfl, (hH1.tr hG2.H).tr hH3, s1, L1, Q1, o1, s1, L1, Q1, 1, hS2, Seg.rf fun hn ph a b g1 g2 g3 z => ?_, hR3, hg2.fr (b3 _ (by omega)), hr2.fr (b3 _ (by omega)) (b3 _ (by omega))⟩
    rw [← hne] at hn z ⊢
    exact (hS2.2.2.2.2.2 hn ph a b g1 g2 g3).mpr (Or.inr z)
  · have k5 : c.2.1 t = 5 := by omega
    obtain ⟨M4, e4, hG4, s2, L2, Q2, o2, hR4, hS4, hg4, hr4⟩ := lv_2 (lo := hd) (hi := e) hp (by omega : 32 < fu) hc k5 (by omega) (by omega) hne (Nat.le_refl e) (fun M12 y13 => some (0, M12)) (e - hd) hd fu M3 s1 L1 Q1 1 (by omega) (by omega) (Nat.le_refl _) (by omega) hR3 (fun j g1 g2 => by rw [(hag j (by omega)).1]; exact ht j g1 g2) hfl3 (hg2.fr (b3 _ (by omega))) (hr2.fr (b3 _ (by omega)) (b3 _ (by omega)))
    rw [e4]
    exact ⟨M4, rfl, ((hH1.tr hG2.H).tr hH3).tr hG4.H, s1, L1, Q1, o1, s2, L2, Q2, o2, hS2, hS4.eq fun _ ph a b _ _ _ => wcg _ ph a b, hR4, hg4, hr4⟩
set_option maxHeartbeats 1000000 in
theorem leave_spec {pp fu : Nat} (hp : pp < 4) (hfu : 49152 < fu) {c : Cd} (hc : cdOk c) {t hd e : Nat} (hhe : hd < e) {M : Mem} {s : Nat} {L : Nat → Nat} {Q : Nat → Int32} {o : Nat} (hes : e ≤ s) (hR : mR pp c M s L Q o) (ht : ∀ j, hd ≤ j → j < e → L j / 32 % 32 = t) (hg : gV c M s L Q) (hr : rV pp c M hd L Q) :
    ∃ M', f_X4_leave fu pp (nI hd) (nI e) M = some (0, M') ∧ ((c.2.1 t ≠ 9 ∧ Lvd pp c t hd e M s L Q M') ∨ (c.2.1 t = 9 ∧ mH pp M M' ∧ mR pp c M' s L Q o ∧ gV c M' s L Q ∧ rV pp c M' e L Q)) := by
  have hs2 := hR.2.2.1
  have h24 := hc.1
  obtain ⟨l1, l2, -, -, l5⟩ := hR.2.2.2.1 hd (by omega)
  have hth := ht hd (by omega) hhe
  rw [hth] at l5
  have cT := (hc.2 t (by omega)).2.2.2
  have cK := (hc.2 t (by omega)).1
  unfold f_X4_leave
  rw [ixT (by omega) (by omega), if_pos rfl, nI_clamp (by omega), l1, lk_at (by omega), hth]
  obtain ⟨M1, e1, hfl, b1, f1⟩ := e_fetch hR.1 (t := t) (by omega)
  rw [e1, bnd_some]
  have hR1 := hR.p8 hp b1 f1
  have hH1 : mH pp M M1 := ⟨fun k a _ _ _ _ _ _ => b1 k a, f1 8 (by omega)⟩
  have hg1 := hg.fr (M' := M1) (b1 _ (by omega))
  have hr1 := hr.fr (M' := M1) (b1 _ (by omega)) (b1 _ (by omega))
  rw [hfl.1, hfl.2.1, hfl.2.2.2.2, nI_1]
  by_cases k9 : c.2.1 t = 9
  · rw [k9, if_pos (by decide)]
    refine ⟨M1, rfl, Or.inr ⟨rfl, hH1, hR1, hg1, ?_⟩⟩
    have : ∀ d x, x + d = e → hd ≤ x → rV pp c M1 x L Q → rV pp c M1 e L Q := by
      intro d
      induction d with
      | zero => intro x hx _ h; rw [show e = x by omega]; exact h
      | succ d ih => intro x hx hx2 h; exact ih (x + 1) (by omega) (by omega) (h.skip (by rw [ht x hx2 (by omega), k9]; decide) rfl rfl)
    exact this (e - hd) hd (by omega) (Nat.le_refl _) hr1
  rw [if_neg (fun z => k9 ((nI_eq (by omega) (by omega)).mp (z.trans c9)))]
  obtain ⟨M', e2, hL⟩ := lv_go hp hfu hc k9 hhe (nI hd) hes hR1 ht hfl hg1 hr1
  have fin : Lvd pp c t hd e M s L Q M' := ⟨hH1.tr hL.1, hL.2⟩
  refine ⟨M', ?_, Or.inl ⟨k9, fin⟩⟩
  rw [← e2]
  by_cases k6 : c.2.1 t = 6
  · rw [k6, if_pos (by decide)]
    unfold nm
    dsimp only
    rw [if_neg (by decide)]
    have q1 : loR c t = c.2.2.2.2 t := by unfold loR; rw [if_pos k6]
    have q2 : hiR c t = c.2.2.2.2 t := by unfold hiR; rw [if_pos k6]
    rw [q1, q2]
  rw [if_neg (fun z => k6 ((nI_eq (by omega) (by omega)).mp (z.trans c6)))]
  by_cases k5 : c.2.1 t = 5
  · rw [k5, if_pos (by decide)]
    unfold nm
    dsimp only
    rw [if_pos (by decide)]
    have q1 : loR c t = min (t + 1) (c.2.2.2.2 t) := by unfold loR; rw [if_neg k6, if_pos k5]
    have q2 : hiR c t = max (t + 1) (c.2.2.2.2 t) := by unfold hiR; rw [if_neg k6, if_pos k5]
    have r1 : (if nI (c.2.2.2.2 t) < nI (t + 1) then nI (c.2.2.2.2 t) else nI (t + 1)) = nI (loR c t) := by
      rw [q1]
      by_cases z : c.2.2.2.2 t < t + 1
      · rw [if_pos (nI_lt z (by omega))]; congr 1; omega
      · rw [if_neg (nI_nlt (by omega) (by omega))]; congr 1; omega
    have r2 : (if nI (t + 1) < nI (c.2.2.2.2 t) then nI (c.2.2.2.2 t) else nI (t + 1)) = nI (hiR c t) := by
      rw [q2]
      by_cases z : t + 1 < c.2.2.2.2 t
      · rw [if_pos (nI_lt z (by omega))]; congr 1; omega
      · rw [if_neg (nI_nlt (by omega) (by omega))]; congr 1; omega
    rw [r1, r2]
  rw [if_neg (fun z => k5 ((nI_eq (by omega) (by omega)).mp (z.trans c5)))]
  unfold nm
  dsimp only
  rw [if_neg (fun z => k5 ((nI_eq (by omega) (by omega)).mp (z.trans c5)))]
  have q1 : loR c t = t + 1 := by unfold loR; rw [if_neg k6, if_neg k5]
  have q2 : hiR c t = t + 1 := by unfold hiR; rw [if_neg k6, if_neg k5]
  rw [q1, q2]
