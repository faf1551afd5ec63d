/-! An item goes on at an instruction. -/
theorem Vi_mono {s s' : Nat} {L L' : Nat → Nat} {Q Q' : Nat → Int32} (hs : s ≤ s') (h : ∀ j, j < s → L' j = L j ∧ Q' j = Q j) {t ph a b : Nat} (hv : Vi s L Q t ph a b) : Vi s' L' Q' t ph a b := by
  obtain ⟨j, hj, z⟩ := hv
  refine ⟨j, by omega, ?_⟩
  rw [(h j hj).1, (h j hj).2]
  exact z
theorem gV.go {c : Cd} {M M' : Mem} {s s' : Nat} {L L' : Nat → Nat} {Q Q' : Nat → Int32} (hg : gV c M s L Q) (hs : s ≤ s') (h : ∀ j, j < s → L' j = L j ∧ Q' j = Q j) (hM : M' 57 = M 57) : gV c M' s' L' Q' := by
  intro t ph b h1 h2 h3 hb e a ha hk
  rw [hM] at hb
  exact Vi_mono hs h (hg t ph b h1 h2 h3 hb e a ha hk)
/-- what a step of item j to nx offers -/
def Wi (c : Cd) (L : Nat → Nat) (Q : Nat → Int32) (t nx j : Nat) : Nat → Nat → Nat → Prop := fun ph' a' b' => ∃ b, b < 32 ∧ bt (Q j) b = true ∧ Stx c t (L j / 1024 % 2) (L j % 32) b nx ph' a' b'
def Stw (pp : Nat) (c : Cd) (nx lo hi t j : Nat) (M : Mem) (s : Nat) (L : Nat → Nat) (Q : Nat → Int32) (o : Nat) (M' : Mem) : Prop :=
  mG pp M M' ∧ (∃ s' L' Q' o', mR pp c M' s' L' Q' o' ∧ Seg c nx lo hi s L Q o s' L' Q' o' (Wi c L Q t nx j) ∧ gV c M' s' L' Q') ∧ (rV pp c M j L Q → rV pp c M' (j + 1) L Q) ∧ (c.2.1 t ≠ 7 → M' (13 * pp + 12) = M (13 * pp + 12) ∧ M' (13 * pp + 10) = M (13 * pp + 10))
theorem rV.skip {pp : Nat} {c : Cd} {M M' : Mem} {j : Nat} {L : Nat → Nat} {Q : Nat → Int32} (hk : c.2.1 (L j / 32 % 32) ≠ 7) (h1 : M' (13 * pp + 12) = M (13 * pp + 12)) (h2 : M' (13 * pp + 10) = M (13 * pp + 10)) (h : rV pp c M j L Q) : rV pp c M' (j + 1) L Q := by
  refine ⟨fun ph d b g1 g2 g3 => ?_, fun ph d b g1 g2 g3 hb => ?_⟩
  · rw [h1, h.1 ph d b g1 g2 g3]
    constructor
    · rintro ⟨i, hi, z⟩; exact ⟨i, by omega, z⟩
    · rintro ⟨i, hi, z⟩
      refine ⟨i, ?_, z⟩
      rcases (show i < j ∨ i = j by omega) with e | e
      · exact e
      · rw [e] at z; exact absurd z.1 hk
  · rw [h1] at hb
    obtain ⟨i, hi, z⟩ := h.2 ph d b g1 g2 g3 hb
    refine ⟨i, by omega, ?_⟩
    rw [h2]
    exact z
theorem Aft.W {pp : Nat} {c : Cd} {nx lo hi t j : Nat} {M M' : Mem} {s : Nat} {L : Nat → Nat} {Q : Nat → Int32} {o : Nat} {W : Nat → Nat → Nat → Prop} (hp : pp < 4) (hA : Aft pp c nx lo hi M s L Q o W M') (hg : gV c M s L Q) (ht : L j / 32 % 32 = t) (hk : c.2.1 t ≠ 7) (hw : ∀ ph a b, ph < 2 → a < 32 → b < 32 → (W ph a b ↔ Wi c L Q t nx j ph a b)) : Stw pp c nx lo hi t j M s L Q o M' := by
  obtain ⟨hF, s', L', Q', o', hR, hS⟩ := hA
  have e12 : M' (13 * pp + 12) = M (13 * pp + 12) := hF.1 _ (by omega) (by omega) (by omega) (by omega)
  have e10 : M' (13 * pp + 10) = M (13 * pp + 10) := hF.1 _ (by omega) (by omega) (by omega) (by omega)
  exact ⟨hF.G, ⟨s', L', Q', o', hR, hS.eq fun _ ph a b g1 g2 g3 => hw ph a b g1 g2 g3, hg.go hS.1 hS.2.1 (hF.1 _ (by omega) (by omega) (by omega) (by omega))⟩, fun h => h.skip (by rw [ht]; exact hk) e12 e10, fun _ => ⟨e12, e10⟩⟩
set_option maxHeartbeats 2000000 in
theorem step_spec {pp fu : Nat} (hp : pp < 4) (hfu : 32 < fu) {c : Cd} (hc : cdOk c) {M : Mem} {s : Nat} {L : Nat → Nat} {Q : Nat → Int32} {o : Nat} (hR : mR pp c M s L Q o) {j nx lo hi t : Nat} (hj : j < s) (ht : L j / 32 % 32 = t) (hf : fld pp c t M) (hk9 : c.2.1 t ≠ 9)
    (hnx : c.2.1 t = 5 ∧ (nx = t + 1 ∨ nx = c.2.2.2.2 t) ∨ c.2.1 t = 6 ∧ nx = c.2.2.2.2 t ∨ c.2.1 t ≠ 5 ∧ c.2.1 t ≠ 6 ∧ nx = t + 1) (hlo : lo ≤ j) (hhi : j < hi) (hg : gV c M s L Q) (hr : c.2.1 t = 7 → rV pp c M j L Q) :
    ∃ M', f_X4_step fu pp (nI j) (nI nx) M = some (0, M') ∧ Stw pp c nx lo hi t j M s L Q o M' := by
  obtain ⟨hcd, hs, hs2, hi2, ho, ho2, hgo, hco, hd⟩ := id hR
  obtain ⟨l1, l2, l3, l4, l5⟩ := hi2 j hj
  rw [ht] at l5
  have h24 := hc.1
  obtain ⟨c1', c2', c3', c4'⟩ := hc.2 t (by omega)
  have hnx24 : nx ≤ 24 := by omega
  have hph : L j / 1024 % 2 < 2 := Nat.mod_lt _ (by decide)
  have ha : L j % 32 < 32 := Nat.mod_lt _ (by decide)
  obtain ⟨f9, f10, f11, f12, f13⟩ := id hf
  unfold f_X4_step nm
  dsimp only
  rw [ixT (by omega) (by omega), if_pos rfl, nI_clamp (by omega), l1, lk_phase (by omega), lk_first]
  have em : f_X6_mask (nI j) M = some (Q j, M) := by
    unfold f_X6_mask
    rw [ixT (by omega) (by omega), if_pos rfl, nI_clamp (by omega), l3]
  rw [em, bnd_some]
  rw [f10]
  generalize hPh : L j / 1024 % 2 = ph at hph ⊢
  generalize hAa : L j % 32 = a at ha ⊢
  have wi : ∀ ph' a' b', Wi c L Q t nx j ph' a' b' ↔ ∃ b, b < 32 ∧ bt (Q j) b = true ∧ Stx c t ph a b nx ph' a' b' := fun ph' a' b' => by
    unfold Wi
    rw [hPh, hAa]
  by_cases k5 : c.2.1 t = 5
  · rw [k5, if_pos (by decide)]
    obtain ⟨r, e, hrb⟩ := goi_spec (nx := nx) hc l5 ha hnx24 (Q j) hf k5
    rw [e, bnd_some]
    obtain ⟨M', e2, hA⟩ := push_seg hp h24 hR r (by omega) hph hnx24 ha hlo hhi
    rw [e2, bnd_some]
    refine ⟨M', rfl, hA.W hp hg ht (by omega) fun ph' a' b' g1 g2 g3 => ?_⟩
    rw [wi]
    constructor
    · rintro ⟨rfl, rfl, z⟩
      exact ⟨b', g3, ((hrb ph' b' g3).mp z).1, ((hrb ph' b' g3).mp z).2⟩
    · rintro ⟨b, hb, hq, z⟩
      have y : ph' = ph ∧ a' = a ∧ b' = b := by rw [stx_5 k5] at z; omega
      obtain ⟨rfl, rfl, rfl⟩ := y
      exact ⟨rfl, rfl, (hrb ph' b' hb).mpr ⟨hq, z⟩⟩
  rw [if_neg (fun e => k5 ((nI_eq (by omega) (by omega)).mp (e.trans c5)))]
  by_cases k6 : c.2.1 t = 6
  · rw [k6, if_pos (by decide)]
    obtain ⟨M', e2, hA⟩ := push_seg hp h24 hR (Q j) (by omega) hph hnx24 ha hlo hhi
    rw [e2, bnd_some]
    refine ⟨M', rfl, hA.W hp hg ht (by omega) fun ph' a' b' g1 g2 g3 => ?_⟩
    rw [wi]
    constructor
    · rintro ⟨z1, z2, z3⟩
      exact ⟨b', g3, z3, (stx_6 k6).mpr (by omega)⟩
    · rintro ⟨b, hb, hq, z⟩
      have y : ph' = ph ∧ a' = a ∧ b' = b := by rw [stx_6 k6] at z; omega
      exact ⟨y.1, y.2.1, by rw [y.2.2]; exact hq⟩
  rw [if_neg (fun e => k6 ((nI_eq (by omega) (by omega)).mp (e.trans c6)))]
  have hn1 : nx = t + 1 := by omega
  subst hn1
  by_cases k7 : c.2.1 t = 7
  · rw [k7, if_pos (by decide)]
    obtain ⟨M1, e1, q1, q2⟩ := note_spec hp hfu (by omega) hph ha (Q j) (hr k7) (by rw [ht]; exact k7) hPh hAa rfl
    rw [e1, bnd_some]
    have hR1 : mR pp c M1 s L Q o := hR.fr hp fun k g1 g2 _ => q1 k g1 g2
    obtain ⟨M', e2, hF, s', L', Q', o', hR', hS⟩ := push_seg hp h24 hR1 (Q j) (by omega : j < 49152) hph hnx24 ha hlo hhi
    rw [e2, bnd_some]
    have g57 : M1 57 = M 57 := q1 _ (by omega) (by omega)
    have g12 : M' (13 * pp + 12) = M1 (13 * pp + 12) := hF.1 _ (by omega) (by omega) (by omega) (by omega)
    have g10 : M' (13 * pp + 10) = M1 (13 * pp + 10) := hF.1 _ (by omega) (by omega) (by omega) (by omega)
    refine ⟨M', rfl, mG.tr ⟨fun k _ _ z1 z2 _ _ _ => q1 k z1 z2, fun f _ _ _ => by rw [q1 _ (by omega) (by omega)]⟩ hF.G, ⟨s', L', Q', o', hR', hS.eq fun _ ph' a' b' g1 g2 g3 => ?_, ?_⟩, fun _ => ?_, fun z => absurd k7 z⟩
    · rw [wi]
      constructor
      · rintro ⟨z1, z2, z3⟩
        exact ⟨b', g3, z3, (stx_7 k7).mpr (by omega)⟩
      · rintro ⟨b, hb, hq, z⟩
        have y : ph' = ph ∧ a' = a ∧ b' = b := by rw [stx_7 k7] at z; omega
        exact ⟨y.1, y.2.1, by rw [y.2.2]; exact hq⟩
    · exact hg.go hS.1 hS.2.1 ((hF.1 _ (by omega) (by omega) (by omega) (by omega)).trans g57)
    · refine ⟨fun ph' d b g1 g2 g3 => ?_, fun ph' d b g1 g2 g3 hb => ?_⟩
      · rw [g12]; exact q2.1 ph' d b g1 g2 g3
      · rw [g12] at hb; rw [g10]; exact q2.2 ph' d b g1 g2 g3 hb
  rw [if_neg (fun e => k7 ((nI_eq (by omega) (by omega)).mp (e.trans c7)))]
  by_cases k8 : c.2.1 t = 8
  · rw [k8, if_pos (by decide)]
    obtain ⟨M', e2, hA⟩ := push_seg hp h24 hR (ph := 1) (Q j) (by omega) (by omega) hnx24 ha hlo hhi
    have e2' : f_X4_push pp (nI j) 1 (nI (t + 1)) (nI a) (Q j) M = some (0, M') := e2
    rw [e2', bnd_some]
    refine ⟨M', rfl, hA.W hp hg ht (by omega) fun ph' a' b' g1 g2 g3 => ?_⟩
    rw [wi]
    constructor
    · rintro ⟨z1, z2, z3⟩
      exact ⟨b', g3, z3, (stx_8 k8).mpr (by omega)⟩
    · rintro ⟨b, hb, hq, z⟩
      have y : ph' = 1 ∧ a' = a ∧ b' = b := by rw [stx_8 k8] at z; omega
      exact ⟨y.1, y.2.1, by rw [y.2.2]; exact hq⟩
  rw [if_neg (fun e => k8 ((nI_eq (by omega) (by omega)).mp (e.trans c8))), f11]
  have hk4 : c.2.1 t ≤ 4 := by omega
  by_cases x1 : c.2.2.1 t = 1
  · rw [x1, if_pos c1.symm]
    obtain ⟨r, e, hrb⟩ := sec_spec (ph := ph) hfu hc l5 ha l4 hf hk4 x1
    rw [e, bnd_some]
    obtain ⟨M', e2, hA⟩ := push_seg hp h24 hR r (by omega) hph hnx24 ha hlo hhi
    rw [e2, bnd_some]
    refine ⟨M', rfl, hA.W hp hg ht (by omega) fun ph' a' b' g1 g2 g3 => ?_⟩
    rw [wi]
    constructor
    · rintro ⟨rfl, rfl, z⟩
      exact (hrb b' g3).mp z
    · rintro ⟨b, hb, hq, z⟩
      have y : ph' = ph ∧ a' = a := stx_x1 hk4 x1 z
      obtain ⟨rfl, rfl⟩ := y
      exact ⟨rfl, rfl, (hrb b' g3).mpr ⟨b, hb, hq, z⟩⟩
  have x0 : c.2.2.1 t = 0 := by omega
  rw [x0, if_neg (by decide)]
  by_cases k32 : c.2.1 t = 3 ∨ c.2.1 t = 2
  · have e0 : ∀ A B : Option (Int32 × Mem), (if nI (c.2.1 t) = 3 then A else if nI (c.2.1 t) = 2 then A else B) = A := fun A B => by
      rcases k32 with k | k
      · rw [k, if_pos (by decide)]
      · rw [k, if_neg (by decide), if_pos (by decide)]
    rw [e0, f9]
    have eg : f_X6_give (nI ph) (nI t) (Q j) M = some (Q j &&& (M 57 (ph * 24 + t) ^^^ (-1)), upM M 57 (ph * 24 + t) (M 57 (ph * 24 + t) ||| (Q j &&& (M 57 (ph * 24 + t) ^^^ (-1))))) := by
      unfold f_X6_give nm wr
      dsimp only
      rw [c24, pk_mul, nI_add, ixT (by omega) (by omega), if_pos rfl, if_pos rfl, if_pos rfl, nI_clamp (by omega)]
    rw [eg, bnd_some]
    generalize hq : Q j &&& (M 57 (ph * 24 + t) ^^^ (-1)) = q
    have hqb : ∀ b, b < 32 → (bt q b = true ↔ bt (Q j) b = true ∧ ¬ bt (M 57 (ph * 24 + t)) b = true) := fun b hb => by
      rw [← hq, b_and, b_not _ hb]
      cases bt (Q j) b <;> cases bt (M 57 (ph * 24 + t)) b <;> simp
    generalize hM1 : upM M 57 (ph * 24 + t) (M 57 (ph * 24 + t) ||| q) = M1
    have q1 : ∀ k, k ≠ 57 → M1 k = M k := fun k hk => by rw [← hM1]; exact upM_k hk
    have hR1 : mR pp c M1 s L Q o := hR.fr hp fun k _ _ g3 => q1 k g3
    have h10 : M1 (13 * pp + 8) 10 = nI (c.2.1 t) := by rw [q1 _ (by omega)]; exact f10
    obtain ⟨M', e2, hF, s', L', Q', o', hR', hS⟩ := gv_spec hp h24 hfu q (by omega : j < 49152) hph hnx24 hlo hhi hR1 k32 h10
    rw [e2]
    have e12 : M' (13 * pp + 12) = M (13 * pp + 12) := (hF.1 _ (by omega) (by omega) (by omega) (by omega)).trans (q1 _ (by omega))
    have e10 : M' (13 * pp + 10) = M (13 * pp + 10) := (hF.1 _ (by omega) (by omega) (by omega) (by omega)).trans (q1 _ (by omega))
    have e57 : M' 57 = M1 57 := hF.1 _ (by omega) (by omega) (by omega) (by omega)
    have hold : ∀ b, b < 32 → bt (M 57 (ph * 24 + t)) b = true → t + 1 < c.1 → ∀ a', a' < 32 → (c.2.1 t = 3 ∨ a' = b) → Vi s L Q (t + 1) ph a' b := fun b hb z => hg t ph b (by omega) hph hb z
    have st : ∀ b ph' a' b', a' < 32 → (Stx c t ph a b (t + 1) ph' a' b' ↔ ph' = ph ∧ b' = b ∧ (c.2.1 t = 3 ∨ a' = b)) := fun b ph' a' b' ha' => by
      rcases k32 with k | k
      · rw [stx_3 k]; omega
      · rw [stx_2 k]; omega
    refine ⟨M', rfl, mG.tr ⟨fun k _ _ _ _ _ _ z => q1 k z, fun f _ _ _ => by rw [q1 _ (by omega)]⟩ hF.G, ⟨s', L', Q', o', hR', ⟨hS.1, hS.2.1, hS.2.2.1, hS.2.2.2.1, hS.2.2.2.2.1, fun hn ph' a' b' g1 g2 g3 => ?_⟩, ?_⟩, fun h => h.skip (by rw [ht]; omega) e12 e10, fun _ => ⟨e12, e10⟩⟩
    · rw [hS.2.2.2.2.2 hn ph' a' b' g1 g2 g3, wi]
      constructor
      · rintro (z | ⟨z1, z0, z⟩)
        · exact Or.inl z
        · exact Or.inr ⟨b', g3, ((hqb b' g3).mp z).1, (st b' ph' a' b' g2).mpr ⟨z1, rfl, z0⟩⟩
      · rintro (z | ⟨b, hb, hqj, z⟩)
        · exact Or.inl z
        · obtain ⟨y1, y2, y⟩ := (st b ph' a' b' g2).mp z
          rw [← y2] at hqj y
          by_cases old : bt (M 57 (ph * 24 + t)) b' = true
          · left
            rw [y1]
            exact hold b' g3 old hn a' g2 y
          · exact Or.inr ⟨y1, y, (hqb b' g3).mpr ⟨hqj, old⟩⟩
    · intro t' ph' b g1 g2 g3 hb hn a' ha' hk
      rw [e57, ← hM1, upM_ap] at hb
      by_cases e : ph' * 24 + t' = ph * 24 + t
      · obtain ⟨rfl, rfl⟩ : ph' = ph ∧ t' = t := by omega
        rw [if_pos ⟨rfl, rfl⟩, b_or, Bool.or_eq_true] at hb
        rcases hb with z | z
        · exact Vi_mono hS.1 hS.2.1 (hold b g3 z hn a' ha' hk)
        · exact (hS.2.2.2.2.2 hn ph' a' b g2 ha' g3).mpr (Or.inr ⟨rfl, hk, z⟩)
      · rw [if_neg (fun z => e z.2)] at hb
        exact Vi_mono hS.1 hS.2.1 (hg t' ph' b g1 g2 g3 hb hn a' ha' hk)
  have k3 : c.2.1 t ≠ 3 := fun e => k32 (Or.inl e)
  have k2 : c.2.1 t ≠ 2 := fun e => k32 (Or.inr e)
  rw [if_neg (fun e => k3 ((nI_eq (by omega) (by omega)).mp (e.trans c3))), if_neg (fun e => k2 ((nI_eq (by omega) (by omega)).mp (e.trans c2)))]
  obtain ⟨r, hr32, e, hrr⟩ := fst_spec hc l5 ha hf (by omega) x0
  rw [e, bnd_some]
  obtain ⟨M', e2, hA⟩ := push_seg hp h24 hR (Q j) (by omega : j < 49152) hph hnx24 hr32 hlo hhi
  rw [e2, bnd_some]
  refine ⟨M', rfl, hA.W hp hg ht (by omega) fun ph' a' b' g1 g2 g3 => ?_⟩
  rw [wi]
  constructor
  · rintro ⟨rfl, rfl, z3⟩
    exact ⟨b', g3, z3, (hrr ph' b' a' b').mpr ⟨rfl, rfl⟩⟩
  · rintro ⟨b, hb, hq, z⟩
    have y : ph' = ph := stx_ph hk4 z
    subst y
    obtain ⟨y1, y2⟩ := (hrr ph' b a' b').mp z
    exact ⟨rfl, y1, by rw [y2]; exact hq⟩
