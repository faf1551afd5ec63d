/-! run: class and reference. -/
theorem Inv.frR {cc : Nat → Cd} {M M' : Mem} (h : Inv cc M) {p : Nat} (hp : p < 4) (hk : ∀ k, k ≠ 58 → k ≠ 60 → k ≠ 61 → k ≠ 13 * p + 14 → k ≠ 70 → k ≠ 78 → k ≠ 91 → M' k = M k) (h70 : ∀ f, f ≠ 1 → f ≠ 2 → M' 70 f = M 70 f) (hT : IvT M') (hN : M' 60 5 = M' 70 2) (hS : ∀ j, j < 64 → M' (13 * p + 14) j = M' 78 (64 * p + j)) (h78 : ∀ j, ¬ (64 * p ≤ j ∧ j < 64 * p + 64) → M' 78 j = M 78 j) : Inv cc M' := by
  obtain ⟨hP, -, -, hE⟩ := h
  have g : ∀ k, k ≠ 58 ∧ k ≠ 60 ∧ k ≠ 61 ∧ k ≠ 13 * p + 14 ∧ k ≠ 70 ∧ k ≠ 78 ∧ k ≠ 91 → M' k = M k := fun k q => hk k q.1 q.2.1 q.2.2.1 q.2.2.2.1 q.2.2.2.2.1 q.2.2.2.2.2.1 q.2.2.2.2.2.2
  refine ⟨fun q hq => ?_, hT, hN, hE.fr (by rw [g 62 (by omega)]) (h70 12 (by omega) (by omega)) (fun k w => g k (by omega))⟩
  obtain ⟨a, b, c, d⟩ := hP q hq
  refine ⟨⟨a.1, a.2.1.fr (fun k k1 k2 => g k (by omega)), a.2.2.1.fr (fun k k1 k2 => g k (by omega)), ?_⟩, b.fr (fun k w => g k (by omega)), c.fr (by rw [g 80 (by omega)]) (fun j _ _ => by rw [g 77 (by omega)]) (by rw [g 79 (by omega)]), d.fr (fun z => ?_)⟩
  · by_cases e : q = p
    · rw [e]; exact hS
    · intro j hj
      rw [g _ (by omega), h78 _ (by omega)]
      exact a.2.2.2 j hj
  · rw [h70 18 (by omega) (by omega)] at z
    exact ⟨z, by rw [g 80 (by omega)], g 87 (by omega), g 88 (by omega), g 89 (by omega)⟩
theorem and31 (x : Int32) : x &&& 31 = nI (x.toBitVec.toNat % 32) := pk_and x (m := 31) 5 (by decide)
theorem sm_run {fu : Nat} (hfu : 51200 < fu) (a w : Int32) : Sm (f_X8_run fu a w) (f_X9_run fu a w) := by
  intro cc M h
  rcases pk2 a (n := 4) (by omega) with z | ⟨p, hp, rfl⟩
  · exact Sm.same h (-1) (by unfold f_X8_run; rw [p8_no z, bnd_some, if_pos rfl]) (by unfold f_X9_run; rw [p9_no z, bnd_some, if_pos rfl])
  obtain ⟨n0, hn0, m1, m2, m3⟩ := id h.2.1
  by_cases w0 : w < 0
  · exact Sm.same h (-1) (by unfold f_X8_run; rw [p8_yes hp, bnd_some, if_neg (by decide), if_pos w0]) (by unfold f_X9_run; rw [p9_yes hp, bnd_some, if_neg (by decide), if_pos w0])
  by_cases w1 : w ≤ nI n0
  · obtain ⟨nb, hnb, rfl⟩ := nI_of2 (M := nI n0) (n := n0) (nI_toInt (by omega)) w0 w1
    obtain ⟨hC, -⟩ := h.1 p hp
    have htp : ∀ j, (M 59 j).toBitVec.toNat % 32 < 32 := fun j => Nat.mod_lt _ (by decide)
    generalize hX : upM (upM (upM (upM (setM M 61 (fun j => if j < 2 then 0 else M 61 j)) 60 1 0) 60 2 0) 60 3 0) 60 4 0 = X
    have kX : ∀ k, k ≠ 60 → k ≠ 61 → X k = M k := fun k q1 q2 => by rw [← hX, upM_k q1, upM_k q1, upM_k q1, upM_k q1, setM_k q2]
    have hRC : RC p X (0, 0, 0, 0, 0, 0, fun j => M (13 * p + 14) j) := by
      rw [← hX]
      refine ⟨?_, ?_, ?_, ?_, ?_, ?_, fun j hj => ?_⟩
      · rw [upM_r, if_neg (by omega), upM_r, if_neg (by omega), upM_r, if_neg (by omega), upM_r, if_pos rfl]; rfl
      · rw [upM_r, if_neg (by omega), upM_r, if_neg (by omega), upM_r, if_pos rfl]; rfl
      · rw [upM_r, if_neg (by omega), upM_r, if_pos rfl]; rfl
      · rw [upM_k (by omega), upM_k (by omega), upM_k (by omega), upM_k (by omega), setM_s, if_pos (by omega)]; rfl
      · rw [upM_k (by omega), upM_k (by omega), upM_k (by omega), upM_k (by omega), setM_s, if_pos (by omega)]; rfl
      · rw [upM_r, if_pos rfl]; rfl
      · rw [upM_k (by omega), upM_k (by omega), upM_k (by omega), upM_k (by omega), setM_k (by omega)]
    have hRB : RB nb (0, 0, 0, 0, 0, 0, fun j => M (13 * p + 14) j) := ⟨by dsimp only; omega, by dsimp only; omega, by dsimp only; omega, by dsimp only; omega, by dsimp only; omega⟩
    generalize hK : (fun M11 (y12 y13 : Int32) => wr M11 (60) 5 y12 (fun M14 => some (M14 (60) 4, M14))) = K
    obtain ⟨Y, y, e1, t1, c1', f1⟩ := run8 hp hC.1 htp hnb hn0 K 500 0 fu X 0 0 0 0 0 0 _ (by omega) (by omega) hRC hRB (hC.2.1.fr (fun k k1 k2 => kX k (by omega) (by omega))) (by rw [kX 58 (by omega) (by omega)]; exact m1) (fun j hj => by rw [kX 59 (by omega) (by omega)]; exact and31 _)
    generalize hr : rrun (cc p) (fun j => (M 59 j).toBitVec.toNat % 32) nb 500 (0, 0, 0, 0, 0, 0, fun j => M (13 * p + 14) j) = R at e1 t1 c1'
    have e1' : f_X3_perform_L34 p (nI nb) (13 * p + 13) K fu X (-1) 0 = K Y (nI R.1) y := e1
    generalize hM1 : upM (upM Y 60 5 (nI R.1)) 58 1 0 = M1
    have k1 : ∀ k, k ≠ 58 → k ≠ 60 → k ≠ 61 → k ≠ 13 * p + 14 → M1 k = M k := fun k q1 q2 q3 q4 => by rw [← hM1, upM_k q1, upM_k q2, f1.1 k q2 q3 q4, kX k q2 q3]
    generalize hZ : upM (upM (upM (upM M1 70 1 0) 91 0 0) 91 1 0) 70 2 2 = Z
    have kZ : ∀ k, k ≠ 70 → k ≠ 91 → Z k = M1 k := fun k q1 q2 => by rw [← hZ, upM_k q1, upM_k q2, upM_k q2, upM_k q1]
    have hRR : RR p Z 0 0 (fun j => M (13 * p + 14) j) := by
      refine ⟨?_, ?_, fun j hj => ?_⟩
      · rw [← hZ, upM_k (by omega), upM_r, if_neg (by omega), upM_r, if_pos rfl]; rfl
      · rw [← hZ, upM_k (by omega), upM_r, if_pos rfl]; rfl
      · rw [kZ 78 (by omega) (by omega), k1 78 (by omega) (by omega) (by omega) (by omega)]
        exact (hC.2.2.2 j hj).symm
    generalize hK9 : (fun M34 (y35 y36 y37 y38 y39 : Int32) => some (y38, M34)) = K9
    obtain ⟨W, e2, t2, s2, f2⟩ := run9 hp hC.1 htp (nb := nb) (by omega) K9 500 0 fu Z 0 0 0 0 0 0 _ (by omega) (by omega) hRR hRB (hC.2.2.1.fr (fun k q1 q2 => by rw [kZ k (by omega) (by omega), k1 k (by omega) (by omega) (by omega) (by omega)])) (by rw [← hZ, upM_r, if_pos rfl]) (fun j hj => by
      rw [kZ 71 (by omega) (by omega), k1 71 (by omega) (by omega) (by omega) (by omega), ← m3 j (by omega)]
      exact and31 _)
    rw [hr] at e2 t2 s2
    have e2' : f_X9_run_L59 (nI p) (nI nb) K9 fu Z 0 0 0 0 0 = some (nI R.2.1, W) := e2
    have wk : ∀ k, k ≠ 58 → k ≠ 60 → k ≠ 61 → k ≠ 13 * p + 14 → k ≠ 70 → k ≠ 78 → k ≠ 91 → W k = M k := fun k q1 q2 q3 q4 q5 q6 q7 => by rw [f2.1 k q7 q6 q5, kZ k q5 q7, k1 k q1 q2 q3 q4]
    have w60 : W 60 = M1 60 := by rw [f2.1 60 (by omega) (by omega) (by omega), kZ 60 (by omega) (by omega)]
    refine ⟨nI R.2.1, M1, W, cc, ?_, ?_, h.frR hp wk (fun f q1 q2 => ?_) ⟨0, by omega, ?_, ?_, fun j hj => by omega⟩ ?_ (fun j hj => ?_) (fun j hj => ?_)⟩
    · unfold f_X8_run f_X7_size f_X5_instructions f_X5_called f_X3_perform f_X7_empty
      rw [p8_yes hp, bnd_some, if_neg (by decide), if_neg w0, bnd_some, m1, if_pos w1, ixT hp (by omega), if_pos rfl, bnd_some, if_pos rfl, bnd_some, nI_clamp (n := p) (by omega), e_fill (by omega) (by omega), bnd_some]
      have hw : ∀ (A : Mem) (k j : Nat) (v : Int32) (ka : Mem → Option (Int32 × Mem)), wr A k j v ka = ka (upM A k j v) := fun _ _ _ _ _ => rfl
      rw [hK, hw, hw, hw, hw, hX, e1', ← hK]
      dsimp only
      rw [hw, bnd_some, hw, bnd_some, hM1, upM_r, if_neg (by omega), c1']
    · unfold f_X9_run
      have hw : ∀ (A : Mem) (k j : Nat) (v : Int32) (ka : Mem → Option (Int32 × Mem)), wr A k j v ka = ka (upM A k j v) := fun _ _ _ _ _ => rfl
      rw [p9_yes hp, bnd_some, if_neg (by decide), if_neg w0, k1 70 (by omega) (by omega) (by omega) (by omega), m2, if_pos w1, hw, if_pos (by decide), hw, if_pos (by decide), hw, hw]
      have c00 : (0 : Int32).toNatClampNeg = 0 := rfl
      have c11 : (1 : Int32).toNatClampNeg = 1 := rfl
      rw [c00, c11, hZ, hK9]
      exact e2'
    · rw [f2.2.1 f q2, ← hZ, upM_r, if_neg q2, upM_k (by omega), upM_k (by omega), upM_r, if_neg q1, k1 70 (by omega) (by omega) (by omega) (by omega)]
    · rw [f2.1 58 (by omega) (by omega) (by omega), kZ 58 (by omega) (by omega), ← hM1, upM_r, if_pos rfl]; rfl
    · rw [f2.2.1 1 (by omega), ← hZ, upM_r, if_neg (by omega), upM_k (by omega), upM_k (by omega), upM_r, if_pos rfl]; rfl
    · rw [s2, w60, ← hM1, upM_k (by omega), upM_r, if_pos rfl]
    · rw [t2 j hj, f2.1 (13 * p + 14) (by omega) (by omega) (by omega), kZ _ (by omega) (by omega), ← hM1, upM_k (by omega), upM_k (by omega), t1 j hj]
    · rw [f2.2.2 j hj, kZ 78 (by omega) (by omega), k1 78 (by omega) (by omega) (by omega) (by omega)]
  · refine Sm.same h (-1) ?_ ?_
    · unfold f_X8_run f_X7_size
      rw [p8_yes hp, bnd_some, if_neg (by decide), if_neg w0, bnd_some, m1, if_neg w1]
    · unfold f_X9_run
      rw [p9_yes hp, bnd_some, if_neg (by decide), if_neg w0, m2, if_neg w1]
