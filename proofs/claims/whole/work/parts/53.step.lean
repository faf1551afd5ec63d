/-! One step of an item, whole: what is noted, what is given, what is pushed. -/
def mG (pp : Nat) (M M' : Mem) : Prop := (∀ k, k ≠ 13 * pp + 8 → k ≠ 13 * pp + 9 → k ≠ 13 * pp + 10 → k ≠ 13 * pp + 12 → k ≠ 55 → k ≠ 56 → k ≠ 57 → M' k = M k) ∧ ∀ f, f ≠ 5 → f ≠ 6 → f ≠ 7 → M' (13 * pp + 8) f = M (13 * pp + 8) f
theorem mG.rf (pp : Nat) (M : Mem) : mG pp M M := ⟨fun _ _ _ _ _ _ _ _ => rfl, fun _ _ _ _ => rfl⟩
theorem mG.tr {pp : Nat} {M M' M'' : Mem} (h : mG pp M M') (h' : mG pp M' M'') : mG pp M M'' := ⟨fun k a b c d e f g => (h'.1 k a b c d e f g).trans (h.1 k a b c d e f g), fun f a b c => (h'.2 f a b c).trans (h.2 f a b c)⟩
theorem mF.G {pp : Nat} {M M' : Mem} (h : mF pp M M') : mG pp M M' := ⟨fun k a b _ _ e f _ => h.1 k a b e f, h.2⟩
theorem mR.fr {pp : Nat} (hp : pp < 4) {c : Cd} {M M' : Mem} {s : Nat} {L : Nat → Nat} {Q : Nat → Int32} {o : Nat} (h : mR pp c M s L Q o) (hk : ∀ k, k ≠ 13 * pp + 10 → k ≠ 13 * pp + 12 → k ≠ 57 → M' k = M k) : mR pp c M' s L Q o := by
  obtain ⟨hc, hs, hs2, hi, ho, ho2, hg, hco, hd⟩ := h
  refine ⟨⟨?_, fun i hi2 => ?_⟩, ?_, hs2, fun j hj => ?_, ?_, ho2, fun t ph a b g1 g2 g3 g4 => ?_, fun t ht => ?_, hd⟩
  · rw [hk _ (by omega) (by omega) (by omega)]; exact hc.1
  · rw [hk _ (by omega) (by omega) (by omega), hk _ (by omega) (by omega) (by omega), hk _ (by omega) (by omega) (by omega), hk _ (by omega) (by omega) (by omega)]
    exact hc.2 i hi2
  · rw [hk _ (by omega) (by omega) (by omega)]; exact hs
  · rw [hk _ (by omega) (by omega) (by omega), hk _ (by omega) (by omega) (by omega)]; exact hi j hj
  · rw [hk _ (by omega) (by omega) (by omega)]; exact ho
  · rw [hk _ (by omega) (by omega) (by omega)]; exact hg t ph a b g1 g2 g3 g4
  · rw [hk _ (by omega) (by omega) (by omega)]; exact hco t ht
def gV (c : Cd) (M : Mem) (s : Nat) (L : Nat → Nat) (Q : Nat → Int32) : Prop := ∀ t ph b, t < 24 → ph < 2 → b < 32 → bt (M 57 (ph * 24 + t)) b = true → t + 1 < c.1 → ∀ a, a < 32 → (c.2.1 t = 3 ∨ a = b) → Vi s L Q (t + 1) ph a b
def nt (c : Cd) (L : Nat → Nat) (Q : Nat → Int32) (j ph d b : Nat) : Prop := c.2.1 (L j / 32 % 32) = 7 ∧ L j / 1024 % 2 = ph ∧ L j % 32 = d ∧ bt (Q j) b = true
def rV (pp : Nat) (c : Cd) (M : Mem) (jc : Nat) (L : Nat → Nat) (Q : Nat → Int32) : Prop :=
  (∀ ph d b, ph < 2 → d < 32 → b < 32 → (bt (M (13 * pp + 12) (32 * ph + d)) b = true ↔ ∃ j, j < jc ∧ nt c L Q j ph d b)) ∧
  ∀ ph d b, ph < 2 → d < 32 → b < 32 → bt (M (13 * pp + 12) (32 * ph + d)) b = true → ∃ j, j < jc ∧ nt c L Q j ph d b ∧ (∀ j', j' < j → ¬ nt c L Q j' ph d b) ∧ M (13 * pp + 10) ((ph * 32 + d) * 32 + b) = nI j
theorem note_L {pp : Nat} {j ph d : Nat} (hj : j < 49152) (h1 : ph < 2) (h2 : d < 32) (q : Int32) (kk : Mem → Int32 → Option (Int32 × Mem)) :
    ∀ (e v fu : Nat) (M : Mem), v + e = 32 → e < fu → ∃ M' y, f_X4_note_L19 pp (nI j) (nI ph) (nI d) q kk fu M (nI v) = kk M' y ∧ (∀ k, k ≠ 13 * pp + 10 → M' k = M k) ∧
      (∀ b, v ≤ b → b < 32 → bt q b = true → M' (13 * pp + 10) ((ph * 32 + d) * 32 + b) = nI j) ∧ (∀ x, (∀ b, v ≤ b → b < 32 → bt q b = true → x ≠ (ph * 32 + d) * 32 + b) → M' (13 * pp + 10) x = M (13 * pp + 10) x) := by
  intro e
  induction e with
  | zero =>
    intro v fu M hv hf
    obtain ⟨f, rfl⟩ : ∃ f, fu = f + 1 := ⟨fu - 1, by omega⟩
    rw [f_X4_note_L19, if_pos (by rw [c32]; exact nI_le (by omega) (by omega))]
    exact ⟨M, _, rfl, fun _ _ => rfl, fun b _ _ => by omega, fun _ _ => rfl⟩
  | succ e ih =>
    intro v fu M hv hf
    obtain ⟨f, rfl⟩ : ∃ f, fu = f + 1 := ⟨fu - 1, by omega⟩
    rw [f_X4_note_L19, if_neg (by rw [c32]; exact nI_ge (by omega) (by omega))]
    by_cases hq : q = 0
    · rw [if_pos hq]
      exact ⟨M, _, rfl, fun _ _ => rfl, fun b _ _ hb => (by rw [hq, b_0] at hb; cases hb), fun _ _ => rfl⟩
    · rw [if_neg hq, e_holds q (by omega), bnd_some]
      cases hb : bt q v with
      | false =>
        rw [if_pos (by decide), nI_1]
        obtain ⟨M', y, e1, k1, k2, k3⟩ := ih (v + 1) f M (by omega) (by omega)
        refine ⟨M', y, e1, k1, fun b g1 g2 g3 => ?_, fun x hx => k3 x (fun b g1 g2 g3 => hx b (by omega) g2 g3)⟩
        rcases (show b = v ∨ v + 1 ≤ b by omega) with z | z
        · rw [z, hb] at g3; cases g3
        · exact k2 b z g2 g3
      | true =>
        rw [if_neg (by decide)]
        have en : f_X4_callNumber (nI ph) (nI d) (nI v) M = some (nI ((ph * 32 + d) * 32 + v), M) := by
          unfold f_X4_callNumber
          rw [c32, pk_mul, nI_add, pk_mul, nI_add]
        rw [en, bnd_some, ixT (by omega) (by omega), if_pos rfl, nI_clamp (by omega), nI_1]
        unfold wr
        dsimp only
        obtain ⟨M', y, e1, k1, k2, k3⟩ := ih (v + 1) f (upM M (13 * pp + 10) ((ph * 32 + d) * 32 + v) (nI j)) (by omega) (by omega)
        refine ⟨M', y, e1, fun k hk => (k1 k hk).trans (upM_k hk), fun b g1 g2 g3 => ?_, fun x hx => ?_⟩
        · rcases (show b = v ∨ v + 1 ≤ b by omega) with z | z
          · rw [k3 _ (fun b' g4 g5 g6 => by omega), upM_ap, if_pos ⟨rfl, by omega⟩]
          · exact k2 b z g2 g3
        · rw [k3 x (fun b' g4 g5 g6 => hx b' (by omega) g5 g6), upM_ap, if_neg]
          rintro ⟨-, z⟩
          exact hx v (by omega) (by omega) hb z
theorem note_spec {pp fu : Nat} (hp : pp < 4) (hfu : 32 < fu) {c : Cd} {j ph d : Nat} (hj : j < 49152) (h1 : ph < 2) (h2 : d < 32) (m : Int32) {M : Mem} {L : Nat → Nat} {Q : Nat → Int32} (hr : rV pp c M j L Q)
    (hk : c.2.1 (L j / 32 % 32) = 7) (hph : L j / 1024 % 2 = ph) (hd : L j % 32 = d) (hm : Q j = m) :
    ∃ M', f_X4_note fu pp (nI j) (nI ph) (nI d) m M = some (0, M') ∧ (∀ k, k ≠ 13 * pp + 10 → k ≠ 13 * pp + 12 → M' k = M k) ∧ rV pp c M' (j + 1) L Q := by
  unfold f_X4_note nm
  dsimp only
  rw [e_args h1 h2, bnd_some]
  rw [show 13 * pp + 11 + 1 = 13 * pp + 12 by omega]
  generalize hq : m &&& (M (13 * pp + 12) (32 * ph + d) ^^^ (-1)) = q
  have hqb : ∀ b, b < 32 → (bt q b = true ↔ bt m b = true ∧ ¬ bt (M (13 * pp + 12) (32 * ph + d)) b = true) := fun b hb => by
    rw [← hq, b_and, b_not _ hb]
    cases bt m b <;> cases bt (M (13 * pp + 12) (32 * ph + d)) b <;> simp
  obtain ⟨M1, y, e1, k1, k2, k3⟩ := note_L (pp := pp) hj h1 h2 q (fun M9 y10 => bnd (f_X0_add (13 * pp + 11) (nI ph) (nI d) q M9) (fun r11 M12 => some (0, M12))) 32 0 fu M (by omega) hfu
  have e1' : f_X4_note_L19 pp (nI j) (nI ph) (nI d) q (fun M9 y10 => bnd (f_X0_add (13 * pp + 11) (nI ph) (nI d) q M9) (fun r11 M12 => some (0, M12))) fu M 0 = _ := e1
  rw [e1', e_add h1 h2, bnd_some, show 13 * pp + 11 + 1 = 13 * pp + 12 by omega]
  refine ⟨_, rfl, fun k g1 g2 => ?_, ?_, ?_⟩
  · rw [upM_k g2, k1 k g1]
  · intro ph' d' b g1 g2 g3
    rw [upM_ap, k1 _ (by omega)]
    by_cases e : 32 * ph' + d' = 32 * ph + d
    · obtain ⟨rfl, rfl⟩ : ph' = ph ∧ d' = d := by omega
      rw [if_pos ⟨rfl, rfl⟩, b_or, Bool.or_eq_true, hqb b g3, hr.1 ph' d' b g1 g2 g3]
      constructor
      · rintro (⟨i, hi, z⟩ | ⟨z, -⟩)
        · exact ⟨i, by omega, z⟩
        · exact ⟨j, by omega, hk, hph, hd, by rw [hm]; exact z⟩
      · rintro ⟨i, hi, z⟩
        by_cases ei : i = j
        · rcases Classical.em (∃ i, i < j ∧ nt c L Q i ph' d' b) with y | y
          · exact Or.inl y
          · refine Or.inr ⟨?_, y⟩
            rw [ei] at z
            rw [← hm]
            exact z.2.2.2
        · exact Or.inl ⟨i, by omega, z⟩
    · rw [if_neg (fun z => e z.2), hr.1 ph' d' b g1 g2 g3]
      constructor
      · rintro ⟨i, hi, z⟩; exact ⟨i, by omega, z⟩
      · rintro ⟨i, hi, z⟩
        by_cases ei : i = j
        · rw [ei] at z
          have z1 := z.2.1
          have z2 := z.2.2.1
          exfalso; apply e; omega
        · exact ⟨i, by omega, z⟩
  · intro ph' d' b g1 g2 g3 hb
    rw [upM_k (by omega)]
    rw [upM_ap, k1 _ (by omega)] at hb
    by_cases old : bt (M (13 * pp + 12) (32 * ph' + d')) b = true
    · obtain ⟨i, hi, z1, z2, z3⟩ := hr.2 ph' d' b g1 g2 g3 old
      refine ⟨i, by omega, z1, z2, ?_⟩
      rw [k3 _ (fun b' g4 g5 g6 => ?_)]
      · exact z3
      · intro e
        obtain ⟨rfl, rfl, rfl⟩ : ph' = ph ∧ d' = d ∧ b = b' := by omega
        exact ((hqb b g3).mp g6).2 old
    · by_cases e : 32 * ph' + d' = 32 * ph + d
      · obtain ⟨rfl, rfl⟩ : ph' = ph ∧ d' = d := by omega
        rw [if_pos ⟨rfl, rfl⟩, b_or, Bool.or_eq_true] at hb
        have hqt : bt q b = true := hb.resolve_left old
        refine ⟨j, by omega, ⟨hk, hph, hd, by rw [hm]; exact ((hqb b g3).mp hqt).1⟩, fun j' hj' z => old ((hr.1 ph' d' b g1 g2 g3).mpr ⟨j', hj', z⟩), ?_⟩
        exact k2 b (Nat.zero_le _) g3 hqt
      · rw [if_neg (fun z => e z.2)] at hb
        exact absurd hb old
