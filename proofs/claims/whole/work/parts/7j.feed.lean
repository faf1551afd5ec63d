/-! feed. -/
def b8 (w : Int32) (s : Nat) : Int32 := usr w (nI s) &&& 255
def b9 (w : Int32) (s : Nat) : Int32 := vp_nar .byte ((w >>> (nI s &&& 31)).toInt8.toInt32)
def wU (B : Nat → Int32) (n t : Nat) (r : Nat → Int32) : Nat → Int32 := fun j => if n ≤ j ∧ j < n + t then B (8 * (n + t - 1 - j)) else r j
theorem b8_9 (w : Int32) {s : Nat} (hs : s ≤ 24) : b8 w s &&& 31 = b9 w s &&& 31 := by
  have e : b9 w s = (w >>> (nI s &&& 31)).toInt8.toInt32 := by
    unfold b9 vp_nar
    rw [pk_nb]
  rw [e]
  apply b_ext
  intro i hi
  rw [b_and, b_and]
  by_cases h5 : i < 5
  · have e1 : bt (b8 w s) i = bt w (s + i) := by
      unfold b8
      rw [b_and, usr_bt _ (by omega), b_255, decide_eq_true (by omega), Bool.and_true]
    have e2 : bt ((w >>> (nI s &&& 31)).toInt8.toInt32) i = bt (w >>> (nI s &&& 31)) i := by
      show (((w >>> (nI s &&& 31)).toBitVec.signExtend 8).signExtend 32).getLsbD i = _
      rw [BitVec.getLsbD_signExtend, BitVec.getLsbD_signExtend]
      simp [show i < 32 by omega, show i < 8 by omega]
      rfl
    rw [e1, e2, b_sshr s (by omega) w hi, if_pos (by omega)]
  · have e3 : bt 31 i = false := by
      have := (by decide +kernel : ∀ i, i < 32 → bt 31 i = decide (i < 5)) i hi
      rw [this, decide_eq_false h5]
    rw [e3, Bool.and_false, Bool.and_false]
theorem wU_ok {w : Int32} {n : Nat} {r s : Nat → Int32} (h : ∀ j, j < n → r j &&& 31 = s j &&& 31) : ∀ j, j < n + 4 → wU (b8 w) n 4 r j &&& 31 = wU (b9 w) n 4 s j &&& 31 := by
  intro j hj
  unfold wU
  by_cases z : n ≤ j ∧ j < n + 4
  · rw [if_pos z, if_pos z]; exact b8_9 w (by omega)
  · rw [if_neg z, if_neg z]; exact h j (by omega)
theorem m8 (n : Nat) : nI (8 * (n + 1)) + (-8) = nI (8 * n) := by
  rw [show 8 * (n + 1) = 8 * n + 8 by omega, ← nI_add, Int32.add_assoc]
  rw [show nI 8 + (-8) = 0 from by decide, nI_p0]
theorem aw_L {w : Int32} (kk : Mem → Int32 → Option (Int32 × Mem)) : ∀ (t n f : Nat) (M : Mem), t < f → n + t ≤ 80 → t ≤ 4 → M 58 1 = nI n →
    ∃ M' y, f_X7_addWord_L3 w kk f M (nI (8 * t) + (-8)) = kk M' y ∧ (∀ k, k ≠ 58 → k ≠ 59 → M' k = M k) ∧ M' 58 1 = nI (n + t) ∧ M' 59 = wU (b8 w) n t (M 59) := by
  intro t
  induction t with
  | zero =>
    intro n f M hf hn ht hM
    obtain ⟨f', rfl⟩ : ∃ f', f = f' + 1 := ⟨f - 1, by omega⟩
    rw [f_X7_addWord_L3, if_pos (by decide)]
    exact ⟨M, _, rfl, fun _ _ _ => rfl, hM, funext fun j => by unfold wU; rw [if_neg (by omega)]⟩
  | succ t ih =>
    intro n f M hf hn ht hM
    obtain ⟨f', rfl⟩ : ∃ f', f = f' + 1 := ⟨f - 1, by omega⟩
    rw [m8, f_X7_addWord_L3, if_neg (nI_pos (by omega)), hM, if_neg (show ¬ (80 : Int32) ≤ nI n from nI_ge (b := 80) (by omega) (by omega)), ixT (show n < 80 by omega) (by omega), if_pos rfl, nI_clamp (by omega)]
    unfold wr
    dsimp only
    rw [upM_k (show (58 : Nat) ≠ 59 by omega), hM, nI_1]
    obtain ⟨M', y, e, h1, h2, h3⟩ := ih (n + 1) f' (upM (upM M 59 n (b8 w (8 * t))) 58 1 (nI (n + 1))) (by omega) (by omega) (by omega) (by rw [upM_r, if_pos rfl])
    refine ⟨M', y, e, fun k a b => by rw [h1 k a b, upM_k a, upM_k b], by rw [h2]; congr 1; omega, ?_⟩
    rw [h3, upM_k (by omega)]
    funext j
    unfold wU
    by_cases z : j = n
    · rw [if_neg (by omega), upM_r, if_pos z, if_pos (by omega), show n + (t + 1) - 1 - j = t by omega]
    · by_cases z2 : n + 1 ≤ j ∧ j < n + 1 + t
      · rw [if_pos z2, if_pos (by omega), show n + 1 + t - 1 - j = n + (t + 1) - 1 - j by omega]
      · rw [if_neg z2, upM_r, if_neg z, if_neg (by omega)]
theorem aw_spec {fu n : Nat} (hfu : 4 < fu) (hn : n + 4 ≤ 80) (w : Int32) {M : Mem} (hM : M 58 1 = nI n) :
    ∃ M', f_X7_addWord fu w M = some (0, M') ∧ (∀ k, k ≠ 58 → k ≠ 59 → M' k = M k) ∧ M' 58 1 = nI (n + 4) ∧ M' 59 = wU (b8 w) n 4 (M 59) := by
  obtain ⟨M', y, e, h⟩ := aw_L (w := w) (fun M3 _ => some ((0 : Int32), M3)) 4 n fu M hfu hn (by omega) hM
  exact ⟨M', e, h⟩
theorem ps_L {w : Int32} (kk : Mem → Int32 → Option (Int32 × Mem)) : ∀ (t n f : Nat) (M : Mem), t < f → n + t ≤ 80 → t ≤ 4 → M 70 1 = nI n →
    ∃ M' y, f_X9_push_L3 w kk f M (nI (8 * t) + (-8)) = kk M' y ∧ (∀ k, k ≠ 70 → k ≠ 71 → M' k = M k) ∧ (∀ f, f ≠ 1 → M' 70 f = M 70 f) ∧ M' 70 1 = nI (n + t) ∧ M' 71 = wU (b9 w) n t (M 71) := by
  intro t
  induction t with
  | zero =>
    intro n f M hf hn ht hM
    obtain ⟨f', rfl⟩ : ∃ f', f = f' + 1 := ⟨f - 1, by omega⟩
    rw [f_X9_push_L3, if_pos (by decide)]
    exact ⟨M, _, rfl, fun _ _ _ => rfl, fun _ _ => rfl, hM, funext fun j => by unfold wU; rw [if_neg (by omega)]⟩
  | succ t ih =>
    intro n f M hf hn ht hM
    obtain ⟨f', rfl⟩ : ∃ f', f = f' + 1 := ⟨f - 1, by omega⟩
    rw [m8, f_X9_push_L3, if_neg (nI_pos (by omega)), hM, ixT (show n < 80 by omega) (by omega), if_pos rfl, nI_clamp (by omega)]
    unfold wr
    dsimp only
    rw [upM_k (show (70 : Nat) ≠ 71 by omega), hM, nI_1]
    obtain ⟨M', y, e, h1, h4, h2, h3⟩ := ih (n + 1) f' (upM (upM M 71 n (b9 w (8 * t))) 70 1 (nI (n + 1))) (by omega) (by omega) (by omega) (by rw [upM_r, if_pos rfl])
    refine ⟨M', y, e, fun k a b => by rw [h1 k a b, upM_k a, upM_k b], fun f hf => by rw [h4 f hf, upM_r, if_neg hf, upM_k (by omega)], by rw [h2]; congr 1; omega, ?_⟩
    rw [h3, upM_k (by omega)]
    funext j
    unfold wU
    by_cases z : j = n
    · rw [if_neg (by omega), upM_r, if_pos z, if_pos (by omega), show n + (t + 1) - 1 - j = t by omega]
    · by_cases z2 : n + 1 ≤ j ∧ j < n + 1 + t
      · rw [if_pos z2, if_pos (by omega), show n + 1 + t - 1 - j = n + (t + 1) - 1 - j by omega]
      · rw [if_neg z2, upM_r, if_neg z, if_neg (by omega)]
theorem ps_spec {fu n : Nat} (hfu : 4 < fu) (hn : n + 4 ≤ 80) (w : Int32) {M : Mem} (hM : M 70 1 = nI n) :
    ∃ M', f_X9_push fu w M = some (0, M') ∧ (∀ k, k ≠ 70 → k ≠ 71 → M' k = M k) ∧ (∀ f, f ≠ 1 → M' 70 f = M 70 f) ∧ M' 70 1 = nI (n + 4) ∧ M' 71 = wU (b9 w) n 4 (M 71) := by
  obtain ⟨M', y, e, h⟩ := ps_L (w := w) (fun M3 _ => some ((0 : Int32), M3)) 4 n fu M hfu hn (by omega) hM
  exact ⟨M', e, h⟩
theorem Inv.frT {cc : Nat → Cd} {M M' : Mem} (h : Inv cc M) (hk : ∀ k, k ≠ 58 → k ≠ 59 → k ≠ 70 → k ≠ 71 → M' k = M k) (h70 : ∀ f, f ≠ 1 → M' 70 f = M 70 f) (hT : IvT M') : Inv cc M' := by
  obtain ⟨hP, -, hN, hE⟩ := h
  have g : ∀ k, k ≠ 58 ∧ k ≠ 59 ∧ k ≠ 70 ∧ k ≠ 71 → M' k = M k := fun k q => hk k q.1 q.2.1 q.2.2.1 q.2.2.2
  refine ⟨fun p hp => ?_, hT, by rw [g 60 (by omega), h70 2 (by omega)]; exact hN, hE.fr (by rw [g 62 (by omega)]) (h70 12 (by omega)) (fun k q => g k (by omega))⟩
  obtain ⟨a, b, c, d⟩ := hP p hp
  refine ⟨a.fr (fun k q => g k (by omega)), b.fr (fun k q => g k (by omega)), c.fr (by rw [g 80 (by omega)]) (fun j _ _ => by rw [g 77 (by omega)]) (by rw [g 79 (by omega)]), d.fr (fun z => ?_)⟩
  rw [h70 18 (by omega)] at z
  exact ⟨z, by rw [g 80 (by omega)], g 87 (by omega), g 88 (by omega), g 89 (by omega)⟩
theorem sm_feed {fu : Nat} (hfu : 51200 < fu) (a b c d e : Int32) : Sm (f_X8_feed fu a b c d e) (f_X9_feed fu a b c d e) := by
  intro cc M h
  obtain ⟨n, hn, m1, m2, m3⟩ := id h.2.1
  by_cases w : n + 20 ≤ 80
  · obtain ⟨A1, a1, a2, a3, a4⟩ := aw_spec (fu := fu) (n := n) (by omega) (by omega) a m1
    obtain ⟨A2, b1, b2, b3, b4⟩ := aw_spec (fu := fu) (n := n + 4) (by omega) (by omega) b a3
    obtain ⟨A3, c1, c2', c3', c4'⟩ := aw_spec (fu := fu) (n := n + 4 + 4) (by omega) (by omega) c b3
    obtain ⟨A4, d1, d2, d3, d4⟩ := aw_spec (fu := fu) (n := n + 4 + 4 + 4) (by omega) (by omega) d c3'
    obtain ⟨A5, e1, e2, e3, e4⟩ := aw_spec (fu := fu) (n := n + 4 + 4 + 4 + 4) (by omega) (by omega) e d3
    have kA : ∀ k, k ≠ 58 → k ≠ 59 → A5 k = M k := fun k q1 q2 => by rw [e2 k q1 q2, d2 k q1 q2, c2' k q1 q2, b2 k q1 q2, a2 k q1 q2]
    obtain ⟨B1, f1, f2, f3, f4, f5⟩ := ps_spec (fu := fu) (n := n) (M := A5) (by omega) (by omega) a (by rw [kA 70 (by omega) (by omega)]; exact m2)
    obtain ⟨B2, g1, g2, g3, g4, g5⟩ := ps_spec (fu := fu) (n := n + 4) (by omega) (by omega) b f4
    obtain ⟨B3, h1, h2, h3, h4, h5⟩ := ps_spec (fu := fu) (n := n + 4 + 4) (by omega) (by omega) c g4
    obtain ⟨B4, i1, i2, i3, i4, i5⟩ := ps_spec (fu := fu) (n := n + 4 + 4 + 4) (by omega) (by omega) d h4
    obtain ⟨B5, j1, j2, j3, j4, j5⟩ := ps_spec (fu := fu) (n := n + 4 + 4 + 4 + 4) (by omega) (by omega) e i4
    have kB : ∀ k, k ≠ 70 → k ≠ 71 → B5 k = A5 k := fun k q1 q2 => by rw [j2 k q1 q2, i2 k q1 q2, h2 k q1 q2, g2 k q1 q2, f2 k q1 q2]
    refine ⟨nI (n + 20), A5, B5, cc, ?_, ?_, h.frT (fun k q1 q2 q3 q4 => by rw [kB k q3 q4, kA k q1 q2]) (fun f hf => by rw [j3 f hf, i3 f hf, h3 f hf, g3 f hf, f3 f hf, kA 70 (by omega) (by omega)]) ⟨n + 20, by omega, by rw [kB 58 (by omega) (by omega)]; exact e3, j4, ?_⟩⟩
    · unfold f_X8_feed f_X7_hasRoom f_X7_size
      rw [m1, c20, nI_add, if_neg (show ¬ (80 : Int32) < nI (n + 20) from nI_nlt (a := 80) (by omega) (by omega)), bnd_some, if_neg (by decide), a1, bnd_some, b1, bnd_some, c1, bnd_some, d1, bnd_some, e1, bnd_some, bnd_some, e3]
    · unfold f_X9_feed
      rw [kA 70 (by omega) (by omega), m2, c20, nI_add, if_pos (show nI (n + 20) ≤ 80 from nI_le (b := 80) (by omega) (by omega)), f1, bnd_some, g1, bnd_some, h1, bnd_some, i1, bnd_some, j1, bnd_some, j4]
    · rw [kB 59 (by omega) (by omega), e4, d4, c4', b4, a4, j5, i5, h5, g5, f5, kA 71 (by omega) (by omega)]
      exact wU_ok (wU_ok (wU_ok (wU_ok (wU_ok m3))))
  · refine Sm.same h (-1) ?_ ?_
    · unfold f_X8_feed f_X7_hasRoom
      rw [m1, c20, nI_add, if_pos (show (80 : Int32) < nI (n + 20) from nI_lt (a := 80) (by omega) (by omega)), bnd_some, if_pos rfl]
    · unfold f_X9_feed
      rw [m2, c20, nI_add, if_neg (show ¬ nI (n + 20) ≤ 80 from nI_ge (a := 80) (by omega) (by omega))]
