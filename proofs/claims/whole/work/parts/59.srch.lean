/-! searched() -/
theorem sk_L {pp fu : Nat} {M : Mem} {s e : Nat} (hs : s ≤ 49152) (h5 : M (13 * pp + 8) 5 = nI s) (hes : e ≤ s) (kk : Mem → Int32 → Int32 → Option (Int32 × Mem)) : ∀ d x n, x + d = e → f_X4_searched_L56 fu pp kk (n + d) M (nI e) (nI x) = f_X4_searched_L56 fu pp kk n M (nI e) (nI e) := by
  intro d
  induction d with
  | zero => intro x n hx; rw [show x = e by omega]; rfl
  | succ d ih =>
    intro x n hx
    rw [show n + (d + 1) = (n + d) + 1 by omega, f_X4_searched_L56, h5, if_neg (nI_ge (by omega) (by omega)), if_neg (by rw [c49152]; exact nI_ge (by omega) (by omega)), if_neg (fun z => by have := (nI_eq (by omega) (by omega)).mp z; omega), nI_1]
    exact ih (x + 1) n (by omega)
set_option maxHeartbeats 1000000 in
theorem run_L {pp fu : Nat} (hp : pp < 4) (hfu : 49152 < fu) {c : Cd} (hc : cdOk c) (kk : Mem → Int32 → Int32 → Option (Int32 × Mem)) :
    ∀ n hd M, hd ≤ 49152 → 49152 - hd < n → Bd pp c hd M → ∃ M' y1 y2, f_X4_searched_L56 fu pp kk n M (nI hd) (nI hd) = kk M' y1 y2 ∧ mH pp M M' ∧ Fin pp c M' := by
  intro n
  induction n using Nat.strongRecOn with
  | _ n ih =>
    intro hd M hh hn hB
    obtain ⟨i0, blk, s, L, Q, o, hi0, hC, hb, hR, hg, hr⟩ := hB
    obtain ⟨i, hii, eA, hiA, hbi, hcase⟩ := adv ((abS c i0).1 - i0) i0 (by omega) hC
    rw [← eA] at hC hiA hcase
    rw [hb] at hbi
    obtain ⟨n', rfl⟩ : ∃ n', n = n' + 1 := ⟨n - 1, by omega⟩
    have hs2 := hR.2.2.1
    rw [f_X4_searched_L56, hR.2.1]
    rcases hcase with hE | ⟨hlt, hn0⟩
    · have hsz : s = hd := by
        have := hC.2.1
        rw [← hE] at this
        omega
      rw [if_pos (nI_le (by omega) (by omega))]
      exact ⟨M, _, _, rfl, mH.rf pp M, i, blk, s, L, Q, o, hE.symm, hC, hR, by rw [hsz]; exact hr⟩
    · have hI := abS_inv hc i (by omega)
      have hblt : blk i < blk (i + 1) := (hC.2.2.1 i hlt).2.1 hn0
      have m := blk_mono (fun g hg => (hC.2.2.1 g hg).1) ((abS c i).1 - (i + 1)) (i + 1) (by omega)
      rw [show i + 1 + ((abS c i).1 - (i + 1)) = (abS c i).1 by omega, hC.2.1] at m
      rw [if_neg (nI_ge (by omega) (by omega)), if_neg (by rw [c49152]; exact nI_ge (by omega) (by omega)), if_pos rfl]
      rw [← hbi, ge_spec hfu hR hC hlt hblt, bnd_some]
      obtain ⟨M1, e1, hcs⟩ := leave_spec hp hfu hc hblt m hR (fun j g1 g2 => (hC.2.2.2.1 i j hlt g1 g2).1) hg (by rw [hbi]; exact hr)
      rw [e1, bnd_some, nI_1]
      have es : abS c (i + 1) = stpG c (abS c i) i := if_pos hlt
      have nxt : ∃ blk' s2 L2 Q2 o2, CI c (abS c (i + 1)) blk' s2 L2 Q2 ∧ blk' (i + 1) = blk (i + 1) ∧ i + 1 ≤ (abS c (i + 1)).1 ∧ mH pp M M1 ∧ mR pp c M1 s2 L2 Q2 o2 ∧ gV c M1 s2 L2 Q2 ∧ rV pp c M1 (blk (i + 1)) L2 Q2 ∧ s ≤ s2 := by
        rcases hcs with ⟨k9, hL⟩ | ⟨k9, hH, hR1, hg1, hr1⟩
        · obtain ⟨blk', s2, L2, Q2, o2, x1, x2, x3, x4, x5, x6⟩ := grp_step hc hC hI hlt hn0 hL
          have hA := (stpG_inv hc hlt hI).2.1
          exact ⟨blk', s2, L2, Q2, o2, by rw [es]; exact x1, x2 _ (by omega), by rw [es]; omega, hL.1, x3, x4, x5, x6⟩
        · have en : stpG c (abS c i) i = abS c i := stpG_nil (fun t ph a b z => by
            obtain ⟨-, _, _, _, _, -, st, -⟩ := z
            exact no9 k9 st)
          exact ⟨blk, s, L, Q, o, by rw [es, en]; exact hC, rfl, by rw [es, en]; omega, hH, hR1, hg1, hr1, Nat.le_refl _⟩
      obtain ⟨blk', s2, L2, Q2, o2, x1, x2, x3, xH, x4, x5, x6, x7⟩ := nxt
      have hs3 := x4.2.2.1
      have sk := sk_L (fu := fu) hs3 x4.2.1 (by omega : blk (i + 1) ≤ s2) kk (blk (i + 1) - (blk i + 1)) (blk i + 1) (n' - (blk (i + 1) - (blk i + 1))) (by omega)
      rw [show n' - (blk (i + 1) - (blk i + 1)) + (blk (i + 1) - (blk i + 1)) = n' by omega] at sk
      rw [sk]
      obtain ⟨M2, y1, y2, e2, hH2, hF⟩ := ih (n' - (blk (i + 1) - (blk i + 1))) (by omega) (blk (i + 1)) M1 (by omega) (by omega) ⟨i + 1, blk', s2, L2, Q2, o2, x3, x1, x2, x4, x5, x6⟩
      exact ⟨M2, y1, y2, e2, xH.tr hH2, hF⟩
theorem bd_0 {pp : Nat} (hp : pp < 4) {c : Cd} (hc : cdOk c) {M : Mem} (hcd : cdAt pp c M) (h5 : M (13 * pp + 8) 5 = 0) (h6 : M (13 * pp + 8) 6 = 0) (h7 : M (13 * pp + 8) 7 = 1) (h56 : ∀ j, j < 1536 → M 56 j = 0) (h57 : ∀ j, j < 48 → M 57 j = 0) (h12 : ∀ j, j < 64 → M (13 * pp + 12) j = 0) :
    ∃ M', f_X4_push pp 0 0 0 0 1 M = some (0, M') ∧ mH pp M M' ∧ Bd pp c 0 M' := by
  have hR : mR pp c M 0 (fun _ => 0) (fun _ => 0) 1 := by
    refine ⟨hcd, h5, by omega, fun j hj => by omega, h7, by omega, fun t ph a b g1 g2 g3 g4 => ?_, fun t ht => ?_, fun j j' b hj => by omega⟩
    · rw [h56 _ (by omega), b_0]
      constructor
      · intro z; cases z
      · rintro ⟨j, hj, -⟩; omega
    · rw [h6, b_0]
      constructor
      · intro z; cases z
      · rintro ⟨j, hj, -⟩; omega
  obtain ⟨M', e, hF, hcs⟩ := push_spec hp hc.1 hR (par := 0) (ph := 0) (nx := 0) (a := 0) 1 (by omega) (by omega) (by omega) (by omega)
  have e' : f_X4_push pp 0 0 0 0 1 M = some (0, M') := e
  have g57 : M' 57 = M 57 := hF.1 _ (by omega) (by omega) (by omega) (by omega)
  have g12 : M' (13 * pp + 12) = M (13 * pp + 12) := hF.1 _ (by omega) (by omega) (by omega) (by omega)
  have gg : ∀ s L Q, gV c M' s L Q := fun s L Q t ph b g1 g2 g3 hb => by
    rw [g57, h57 _ (by omega), b_0] at hb
    cases hb
  have rr : ∀ L Q, rV pp c M' 0 L Q := fun L Q => ⟨fun ph d b g1 g2 g3 => by
      rw [g12, h12 _ (by omega), b_0]
      constructor
      · intro z; cases z
      · rintro ⟨j, hj, -⟩; omega, fun ph d b g1 g2 g3 hb => by
      rw [g12, h12 _ (by omega), b_0] at hb
      cases hb⟩
  refine ⟨M', e', hF.G.H, ?_⟩
  have a0 : (abS c 0).1 = 1 := rfl
  have a1 : ∀ g, (abS c 0).2.1 g = ee c 0 := fun _ => rfl
  have a2 : ∀ g ph a b, (abS c 0).2.2.2 g ph a b ↔ ph = 0 ∧ a = 0 ∧ b = 0 := fun _ _ _ _ => Iff.rfl
  rcases hcs with ⟨hR', hv⟩ | ⟨hn, -, q, hq, hR'⟩
  · have hz : ¬ 0 < c.1 := fun z => by
      obtain ⟨j, hj, -⟩ := hv z 0 (by omega) (by rw [b_1 0 (by omega)]; rfl)
      omega
    have hno : ∀ g, ¬ (abS c 0).2.1 g < c.1 := fun g z => by rw [a1] at z; unfold ee at z; rw [if_neg hz] at z; omega
    exact ⟨0, fun _ => 0, 0, _, _, _, by omega, ⟨rfl, rfl, fun g hg => ⟨Nat.le_refl _, fun z => absurd z (hno g), fun _ => rfl⟩, fun g j _ _ z => absurd (show j < 0 from z) (Nat.not_lt_zero j), fun g ph a b _ z => absurd z (hno g)⟩, rfl, hR', gg _ _ _, rr _ _⟩
  · have he : ee c 0 = 0 := by unfold ee; rw [if_pos hn]
    refine ⟨0, fun g => if g = 0 then 0 else 1, 1, _, _, _, by omega, ⟨rfl, by rw [a0]; rfl, fun g hg => ?_, fun g j hg g1 g2 => ?_, fun g ph a b hg hn2 g1 g2 g3 => ?_⟩, rfl, hR', gg _ _ _, rr _ _⟩
    · obtain rfl : g = 0 := by omega
      exact ⟨by decide, fun _ => by decide, fun z => absurd (by rw [a1, he]; exact hn) z⟩
    · obtain rfl : g = 0 := by omega
      have hj : j = 0 := by
        have : j < (if (0 : Nat) + 1 = 0 then 0 else 1) := g2
        rw [if_neg (by omega)] at this
        omega
      subst hj
      rw [va_up_self, a1, he]
      exact ⟨by decide, ⟨fun _ => rfl, fun _ => by decide⟩, fun z => by omega, fun _ => by decide⟩
    · obtain rfl : g = 0 := by omega
      rw [a2]
      constructor
      · rintro ⟨rfl, rfl, rfl⟩
        refine ⟨0, Nat.zero_le _, by decide, ?_⟩
        rw [va_up_self, va_up_self]
        refine ⟨by decide, by decide, (hq 0 (by omega)).mpr ⟨by rw [b_1 0 (by omega)]; rfl, ?_⟩⟩
        rintro ⟨j, hj, -⟩; omega
      · rintro ⟨j, -, hj, z1, z2, z3⟩
        have hj0 : j = 0 := by
          have : j < (if (0 : Nat) + 1 = 0 then 0 else 1) := hj
          rw [if_neg (by omega)] at this
          omega
        subst hj0
        rw [va_up_self] at z1 z2 z3
        have z4 := ((hq b g3).mp z3).1
        rw [b_1 b g3] at z4
        have := of_decide_eq_true z4
        exact ⟨by omega, by omega, this⟩
set_option maxHeartbeats 1000000 in
/-- searched(): a stale search is made anew -/
theorem srch_spec {pp fu : Nat} (hp : pp < 4) (hfu : 49152 < fu) {c : Cd} (hc : cdOk c) {M : Mem} (hcd : cdAt pp c M) (hst : ¬ M (13 * pp + 8) 8 = 0) :
    ∃ M', f_X4_searched fu pp M = some (0, M') ∧ (∀ k, k ≠ 13 * pp + 8 → k ≠ 13 * pp + 9 → k ≠ 13 * pp + 10 → k ≠ 13 * pp + 12 → k ≠ 55 → k ≠ 56 → k ≠ 57 → M' k = M k) ∧ M' (13 * pp + 8) 8 = 0 ∧ Fin pp c M' := by
  unfold f_X4_searched
  rw [if_neg hst]
  unfold wr
  dsimp only
  have ec : ∀ X : Mem, f_X6_clear fu X = some (0, setM (setM X 56 (fun j => if j < 1536 then 0 else X 56 j)) 57 (fun j => if j < 48 then 0 else setM X 56 (fun j => if j < 1536 then 0 else X 56 j) 57 j)) := fun X => by
    unfold f_X6_clear
    rw [e_fill (by omega) (by omega), bnd_some, e_fill (by omega) (by omega), bnd_some]
  rw [ec, bnd_some, e_clear (by omega), bnd_some, show 13 * pp + 11 + 1 = 13 * pp + 12 by omega]
  generalize hX1 : upM M (13 * pp + 8) 8 0 = X1
  generalize hX2 : setM X1 56 (fun j => if j < 1536 then 0 else X1 56 j) = X2
  generalize hX3 : setM X2 57 (fun j => if j < 48 then 0 else X2 57 j) = X3
  generalize hX4 : setM X3 (13 * pp + 12) (fun j => if j < 64 then 0 else X3 (13 * pp + 12) j) = X4
  generalize hX5 : upM (upM (upM X4 (13 * pp + 8) 5 0) (13 * pp + 8) 6 0) (13 * pp + 8) 7 1 = X5
  have k5 : ∀ k, k ≠ 13 * pp + 8 → X5 k = X4 k := fun k hk => by rw [← hX5, upM_k hk, upM_k hk, upM_k hk]
  have k4 : ∀ k, k ≠ 13 * pp + 8 → k ≠ 13 * pp + 12 → k ≠ 56 → k ≠ 57 → X5 k = M k := fun k g1 g2 g3 g4 => by
    rw [k5 k g1, ← hX4, setM_k g2, ← hX3, setM_k g4, ← hX2, setM_k g3, ← hX1, upM_k g1]
  have h8 : X5 (13 * pp + 8) 8 = 0 := by
    rw [← hX5, upM_ap, if_neg (by omega), upM_ap, if_neg (by omega), upM_ap, if_neg (by omega), ← hX4, setM_k (by omega), ← hX3, setM_k (by omega), ← hX2, setM_k (by omega), ← hX1, upM_ap, if_pos ⟨rfl, rfl⟩]
  obtain ⟨M1, e1, hH1, hB⟩ := bd_0 hp hc (M := X5) ⟨by rw [k4 _ (by omega) (by omega) (by omega) (by omega)]; exact hcd.1, fun i hi => by
      rw [k4 _ (by omega) (by omega) (by omega) (by omega), k4 _ (by omega) (by omega) (by omega) (by omega), k4 _ (by omega) (by omega) (by omega) (by omega), k4 _ (by omega) (by omega) (by omega) (by omega)]
      exact hcd.2 i hi⟩ (by rw [← hX5, upM_ap, if_neg (by omega), upM_ap, if_neg (by omega), upM_ap, if_pos ⟨rfl, rfl⟩]) (by rw [← hX5, upM_ap, if_neg (by omega), upM_ap, if_pos ⟨rfl, rfl⟩]) (by rw [← hX5, upM_ap, if_pos ⟨rfl, rfl⟩])
    (fun j hj => by rw [k5 _ (by omega), ← hX4, setM_k (by omega), ← hX3, setM_k (by omega), ← hX2, setM_s, if_pos hj])
    (fun j hj => by rw [k5 _ (by omega), ← hX4, setM_k (by omega), ← hX3, setM_s, if_pos hj])
    (fun j hj => by rw [k5 _ (by omega), ← hX4, setM_s, if_pos hj])
  rw [e1, bnd_some]
  obtain ⟨M2, y1, y2, e2, hH2, hF⟩ := run_L hp hfu hc (fun M15 _ _ => some (0, M15)) fu 0 M1 (by omega) (by omega) hB
  have e2' : f_X4_searched_L56 fu pp (fun M15 _ _ => some (0, M15)) fu M1 0 0 = some (0, M2) := e2
  refine ⟨M2, e2', fun k g1 g2 g3 g4 g5 g6 g7 => ?_, ?_, hF⟩
  · rw [hH2.1 k g1 g2 g3 g4 g5 g6 g7, hH1.1 k g1 g2 g3 g4 g5 g6 g7, k4 k g1 g4 g6 g7]
  · rw [hH2.2, hH1.2, h8]
