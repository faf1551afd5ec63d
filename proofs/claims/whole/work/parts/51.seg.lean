/-! A stretch of pushes to one instruction; what it adds. -/
def Seg (c : Cd) (nx lo hi s : Nat) (L : Nat → Nat) (Q : Nat → Int32) (o s' : Nat) (L' : Nat → Nat) (Q' : Nat → Int32) (o' : Nat) (W : Nat → Nat → Nat → Prop) : Prop :=
  s ≤ s' ∧ (∀ j, j < s → L' j = L j ∧ Q' j = Q j) ∧
  (∀ j, s ≤ j → j < s' → L' j / 32 % 32 = nx ∧ lo ≤ L' j / 4096 ∧ L' j / 4096 < hi ∧ (L' j / 2048 % 2 = 1 ↔ o = 1 ∧ j = s)) ∧
  (s = s' → o' = o) ∧ (s < s' → o' = 0 ∧ nx < c.1) ∧
  (nx < c.1 → ∀ ph a b, ph < 2 → a < 32 → b < 32 → (Vi s' L' Q' nx ph a b ↔ Vi s L Q nx ph a b ∨ W ph a b))
theorem Seg.rf {c : Cd} {nx lo hi s : Nat} {L : Nat → Nat} {Q : Nat → Int32} {o : Nat} {W : Nat → Nat → Nat → Prop} (h : nx < c.1 → ∀ ph a b, ph < 2 → a < 32 → b < 32 → W ph a b → Vi s L Q nx ph a b) : Seg c nx lo hi s L Q o s L Q o W :=
  ⟨Nat.le_refl _, fun _ _ => ⟨rfl, rfl⟩, fun j a b => by omega, fun _ => rfl, fun h => by omega, fun hn ph a b h1 h2 h3 => ⟨Or.inl, fun z => z.elim id (h hn ph a b h1 h2 h3)⟩⟩
theorem Seg.tr {c : Cd} {nx lo hi s s1 s2 : Nat} {L L1 L2 : Nat → Nat} {Q Q1 Q2 : Nat → Int32} {o o1 o2 : Nat} {W1 W2 : Nat → Nat → Nat → Prop} (h : Seg c nx lo hi s L Q o s1 L1 Q1 o1 W1) (h' : Seg c nx lo hi s1 L1 Q1 o1 s2 L2 Q2 o2 W2) : Seg c nx lo hi s L Q o s2 L2 Q2 o2 (fun ph a b => W1 ph a b ∨ W2 ph a b) := by
  obtain ⟨a1, a2, a3, a4, a5, a6⟩ := h
  obtain ⟨b1, b2, b3, b4, b5, b6⟩ := h'
  refine ⟨by omega, fun j hj => ?_, fun j hj hj2 => ?_, fun e => ?_, fun e => ?_, fun hn ph a b h1 h2 h3 => ?_⟩
  · exact ⟨(b2 j (by omega)).1.trans (a2 j hj).1, (b2 j (by omega)).2.trans (a2 j hj).2⟩
  · by_cases hs : j < s1
    · rw [(b2 j hs).1]
      exact a3 j hj hs
    · obtain ⟨x1, x2, x3, x4⟩ := b3 j (by omega) hj2
      refine ⟨x1, x2, x3, x4.trans ⟨fun e => ?_, fun e => ?_⟩⟩
      · by_cases es : s = s1
        · exact ⟨(a4 es).symm.trans e.1, by omega⟩
        · have := (a5 (by omega)).1; omega
      · by_cases es : s = s1
        · exact ⟨(a4 es).trans e.1, by omega⟩
        · omega
  · exact (b4 (by omega)).trans (a4 (by omega))
  · by_cases es : s1 = s2
    · obtain ⟨z1, z2⟩ := a5 (by omega)
      exact ⟨(b4 es).trans z1, z2⟩
    · exact b5 (by omega)
  · rw [b6 hn ph a b h1 h2 h3, a6 hn ph a b h1 h2 h3, or_assoc]
theorem Seg.eq {c : Cd} {nx lo hi s s1 : Nat} {L L1 : Nat → Nat} {Q Q1 : Nat → Int32} {o o1 : Nat} {W W' : Nat → Nat → Nat → Prop} (h : Seg c nx lo hi s L Q o s1 L1 Q1 o1 W) (hw : nx < c.1 → ∀ ph a b, ph < 2 → a < 32 → b < 32 → (W ph a b ↔ W' ph a b)) : Seg c nx lo hi s L Q o s1 L1 Q1 o1 W' := by
  obtain ⟨a1, a2, a3, a4, a5, a6⟩ := h
  exact ⟨a1, a2, a3, a4, a5, fun hn ph a b h1 h2 h3 => by rw [a6 hn ph a b h1 h2 h3, hw hn ph a b h1 h2 h3]⟩
/-- what stands behind a stretch of pushes -/
def Aft (pp : Nat) (c : Cd) (nx lo hi : Nat) (M : Mem) (s : Nat) (L : Nat → Nat) (Q : Nat → Int32) (o : Nat) (W : Nat → Nat → Nat → Prop) (M' : Mem) : Prop :=
  mF pp M M' ∧ ∃ s' L' Q' o', mR pp c M' s' L' Q' o' ∧ Seg c nx lo hi s L Q o s' L' Q' o' W
theorem push_seg {pp : Nat} (hp : pp < 4) {c : Cd} (h24 : c.1 ≤ 24) {M : Mem} {s : Nat} {L : Nat → Nat} {Q : Nat → Int32} {o : Nat} (h : mR pp c M s L Q o) {par ph nx a lo hi : Nat} (m : Int32) (h1 : par < 49152) (h2 : ph < 2) (h3 : nx ≤ 24) (h4 : a < 32) (hl : lo ≤ par) (hh : par < hi) :
    ∃ M', f_X4_push pp (nI par) (nI ph) (nI nx) (nI a) m M = some (0, M') ∧ Aft pp c nx lo hi M s L Q o (fun ph' a' b => ph' = ph ∧ a' = a ∧ bt m b = true) M' := by
  obtain ⟨M', e, hF, h5⟩ := push_spec hp h24 h m h1 h2 h3 h4
  refine ⟨M', e, hF, ?_⟩
  rcases h5 with ⟨hR, hv⟩ | ⟨hn, hs, q, hq, hR⟩
  · exact ⟨s, L, Q, o, hR, Seg.rf fun hn ph' a' b _ _ hb w => by rw [w.1, w.2.1]; exact hv hn b hb w.2.2⟩
  · refine ⟨_, _, _, _, hR, by omega, fun j hj => ⟨va_up_ne _ _ (by omega), va_up_ne _ _ (by omega)⟩, fun j hj hj2 => ?_, fun e => by omega, fun _ => ⟨rfl, hn⟩, fun _ ph' a' b g1 g2 g3 => ?_⟩
    · obtain rfl : j = s := by omega
      rw [va_up_self]
      have ho := h.2.2.2.2.2.1
      refine ⟨by omega, by omega, by omega, ?_⟩
      constructor
      · intro z; exact ⟨by omega, rfl⟩
      · intro z; omega
    · rw [Vi_up]
      constructor
      · rintro (z | ⟨z1, z2, z3, z4⟩)
        · exact Or.inl z
        · exact Or.inr ⟨by omega, by omega, ((hq b g3).mp z4).1⟩
      · rintro (z | ⟨rfl, rfl, z⟩)
        · exact Or.inl z
        · rcases Classical.em (Vi s L Q nx ph' a' b) with hv | hv
          · exact Or.inl hv
          · have ho := h.2.2.2.2.2.1
            exact Or.inr ⟨by omega, by omega, by omega, (hq b g3).mpr ⟨z, hv⟩⟩
theorem Aft.tr {pp : Nat} {c : Cd} {nx lo hi : Nat} {M M1 M2 : Mem} {s : Nat} {L : Nat → Nat} {Q : Nat → Int32} {o : Nat} {W1 W2 : Nat → Nat → Nat → Prop} (h : Aft pp c nx lo hi M s L Q o W1 M1) (h2 : ∀ s' L' Q' o', mR pp c M1 s' L' Q' o' → Aft pp c nx lo hi M1 s' L' Q' o' W2 M2) : Aft pp c nx lo hi M s L Q o (fun ph a b => W1 ph a b ∨ W2 ph a b) M2 := by
  obtain ⟨hF, s', L', Q', o', hR, hS⟩ := h
  obtain ⟨hF2, s2, L2, Q2, o2, hR2, hS2⟩ := h2 s' L' Q' o' hR
  exact ⟨hF.tr hF2, s2, L2, Q2, o2, hR2, hS.tr hS2⟩
theorem Aft.eq {pp : Nat} {c : Cd} {nx lo hi : Nat} {M M1 : Mem} {s : Nat} {L : Nat → Nat} {Q : Nat → Int32} {o : Nat} {W W' : Nat → Nat → Nat → Prop} (h : Aft pp c nx lo hi M s L Q o W M1) (hw : nx < c.1 → ∀ ph a b, ph < 2 → a < 32 → b < 32 → (W ph a b ↔ W' ph a b)) : Aft pp c nx lo hi M s L Q o W' M1 := by
  obtain ⟨hF, s', L', Q', o', hR, hS⟩ := h
  exact ⟨hF, s', L', Q', o', hR, hS.eq hw⟩
theorem Aft.rf {pp : Nat} {c : Cd} {nx lo hi : Nat} {M : Mem} {s : Nat} {L : Nat → Nat} {Q : Nat → Int32} {o : Nat} {W : Nat → Nat → Nat → Prop} (hR : mR pp c M s L Q o) (h : nx < c.1 → ∀ ph a b, ph < 2 → a < 32 → b < 32 → W ph a b → Vi s L Q nx ph a b) : Aft pp c nx lo hi M s L Q o W M := ⟨mF.rf pp M, s, L, Q, o, hR, Seg.rf h⟩
theorem all_L {pp : Nat} (hp : pp < 4) {c : Cd} (h24 : c.1 ≤ 24) {par ph nx lo hi : Nat} (m : Int32) (h1 : par < 49152) (h2 : ph < 2) (h3 : nx ≤ 24) (hl : lo ≤ par) (hh : par < hi) (kk : Mem → Int32 → Option (Int32 × Mem)) :
    ∀ (d v fu : Nat) (M : Mem) (s : Nat) (L : Nat → Nat) (Q : Nat → Int32) (o : Nat), v + d = 32 → d < fu → mR pp c M s L Q o → M (13 * pp + 8) 10 = 3 →
      ∃ M' y, f_X4_step_L198 pp (nI par) (nI nx) (nI ph) m kk fu M (nI v) = kk M' y ∧ Aft pp c nx lo hi M s L Q o (fun ph' a' b => ph' = ph ∧ v ≤ a' ∧ bt m b = true) M' := by
  intro d
  induction d with
  | zero =>
    intro v fu M s L Q o hv hf hR _
    obtain ⟨f, rfl⟩ : ∃ f, fu = f + 1 := ⟨fu - 1, by omega⟩
    rw [f_X4_step_L198, if_pos (by rw [c32]; exact nI_le (by omega) (by omega))]
    exact ⟨M, _, rfl, Aft.rf hR fun _ ph' a' b _ g2 _ w => by omega⟩
  | succ d ih =>
    intro v fu M s L Q o hv hf hR h10
    obtain ⟨f, rfl⟩ : ∃ f, fu = f + 1 := ⟨fu - 1, by omega⟩
    rw [f_X4_step_L198, if_neg (by rw [c32]; exact nI_ge (by omega) (by omega))]
    by_cases hm : m = 0
    · rw [if_pos hm]
      exact ⟨M, _, rfl, Aft.rf hR fun _ ph' a' b _ g2 _ w => by rw [hm, b_0] at w; exact absurd w.2.2 (by decide)⟩
    · rw [if_neg hm, if_pos h10]
      obtain ⟨M1, e1, hA⟩ := push_seg hp h24 hR (a := v) m h1 h2 h3 (by omega) hl hh
      rw [e1, bnd_some, nI_1]
      obtain ⟨hF, s1, L1, Q1, o1, hR1, hS1⟩ := id hA
      obtain ⟨M2, y, e2, hA2⟩ := ih (v + 1) f M1 s1 L1 Q1 o1 (by omega) (by omega) hR1 ((hF.2 10 (by decide) (by decide) (by decide)).trans h10)
      refine ⟨M2, y, e2, ?_⟩
      obtain ⟨hF2, s2, L2, Q2, o2, hR2, hS2⟩ := hA2
      refine ⟨hF.tr hF2, s2, L2, Q2, o2, hR2, (hS1.tr hS2).eq fun _ ph' a' b _ _ _ => ?_⟩
      constructor
      · rintro (⟨z1, z2, z3⟩ | ⟨z1, z2, z3⟩)
        · exact ⟨z1, by omega, z3⟩
        · exact ⟨z1, by omega, z3⟩
      · rintro ⟨z1, z2, z3⟩
        by_cases e : a' = v
        · exact Or.inl ⟨z1, e, z3⟩
        · exact Or.inr ⟨z1, by omega, z3⟩
theorem eq_L {pp : Nat} (hp : pp < 4) {c : Cd} (h24 : c.1 ≤ 24) {par ph nx lo hi : Nat} (m : Int32) (h1 : par < 49152) (h2 : ph < 2) (h3 : nx ≤ 24) (hl : lo ≤ par) (hh : par < hi) (kk : Mem → Int32 → Option (Int32 × Mem)) :
    ∀ (d v fu : Nat) (M : Mem) (s : Nat) (L : Nat → Nat) (Q : Nat → Int32) (o : Nat), v + d = 32 → d < fu → mR pp c M s L Q o → M (13 * pp + 8) 10 = 2 →
      ∃ M' y, f_X4_step_L198 pp (nI par) (nI nx) (nI ph) m kk fu M (nI v) = kk M' y ∧ Aft pp c nx lo hi M s L Q o (fun ph' a' b => ph' = ph ∧ v ≤ a' ∧ b = a' ∧ bt m b = true) M' := by
  intro d
  induction d with
  | zero =>
    intro v fu M s L Q o hv hf hR _
    obtain ⟨f, rfl⟩ : ∃ f, fu = f + 1 := ⟨fu - 1, by omega⟩
    rw [f_X4_step_L198, if_pos (by rw [c32]; exact nI_le (by omega) (by omega))]
    exact ⟨M, _, rfl, Aft.rf hR fun _ ph' a' b _ g2 _ w => by omega⟩
  | succ d ih =>
    intro v fu M s L Q o hv hf hR h10
    obtain ⟨f, rfl⟩ : ∃ f, fu = f + 1 := ⟨fu - 1, by omega⟩
    rw [f_X4_step_L198, if_neg (by rw [c32]; exact nI_ge (by omega) (by omega))]
    by_cases hm : m = 0
    · rw [if_pos hm]
      exact ⟨M, _, rfl, Aft.rf hR fun _ ph' a' b _ g2 _ w => by rw [hm, b_0] at w; exact absurd w.2.2.2 (by decide)⟩
    · rw [if_neg hm, if_neg (show ¬ M (13 * pp + 8) 10 = 3 from fun z => absurd (h10.symm.trans z) (by decide))]
      obtain ⟨M1, e1, hA⟩ := push_seg hp h24 hR (a := v) (m &&& ((1 : Int32) <<< (nI v &&& 31))) h1 h2 h3 (by omega) hl hh
      rw [e1, bnd_some, nI_1]
      obtain ⟨hF, s1, L1, Q1, o1, hR1, hS1⟩ := id hA
      obtain ⟨M2, y, e2, hA2⟩ := ih (v + 1) f M1 s1 L1 Q1 o1 (by omega) (by omega) hR1 ((hF.2 10 (by decide) (by decide) (by decide)).trans h10)
      refine ⟨M2, y, e2, ?_⟩
      obtain ⟨hF2, s2, L2, Q2, o2, hR2, hS2⟩ := hA2
      refine ⟨hF.tr hF2, s2, L2, Q2, o2, hR2, (hS1.tr hS2).eq fun _ ph' a' b _ _ hb => ?_⟩
      rw [b_and, hot v (by omega) b hb, Bool.and_eq_true, decide_eq_true_eq]
      constructor
      · rintro (⟨z1, z2, z3, z4⟩ | ⟨z1, z2, z3, z4⟩)
        · exact ⟨z1, by omega, by omega, z3⟩
        · exact ⟨z1, by omega, z3, z4⟩
      · rintro ⟨z1, z2, z3, z4⟩
        by_cases e : a' = v
        · exact Or.inl ⟨z1, e, z4, by omega⟩
        · exact Or.inr ⟨z1, by omega, z3, z4⟩
/-- READ (3) and COPY (2) into register 0: the loop of a step -/
theorem gv_spec {pp : Nat} (hp : pp < 4) {c : Cd} (h24 : c.1 ≤ 24) {fu par ph nx lo hi : Nat} (hfu : 32 < fu) (m : Int32) (h1 : par < 49152) (h2 : ph < 2) (h3 : nx ≤ 24) (hl : lo ≤ par) (hh : par < hi) {M : Mem} {s : Nat} {L : Nat → Nat} {Q : Nat → Int32} {o : Nat} (hR : mR pp c M s L Q o) {kd : Nat} (hkd : kd = 3 ∨ kd = 2) (h10 : M (13 * pp + 8) 10 = nI kd) :
    ∃ M', f_X4_step_L198 pp (nI par) (nI nx) (nI ph) m (fun M3 _ => some (0, M3)) fu M 0 = some (0, M') ∧ Aft pp c nx lo hi M s L Q o (fun ph' a' b => ph' = ph ∧ (kd = 3 ∨ a' = b) ∧ bt m b = true) M' := by
  rcases hkd with k | k
  · have h10' : M (13 * pp + 8) 10 = 3 := h10.trans (congrArg nI k)
    obtain ⟨M', y, e, hA⟩ := all_L hp h24 m h1 h2 h3 hl hh (fun M3 _ => some (0, M3)) 32 0 fu M s L Q o (by omega) hfu hR h10'
    exact ⟨M', e, hA.eq fun _ ph' a' b _ _ _ => ⟨fun z => ⟨z.1, Or.inl k, z.2.2⟩, fun z => ⟨z.1, Nat.zero_le _, z.2.2⟩⟩⟩
  · have h10' : M (13 * pp + 8) 10 = 2 := h10.trans (congrArg nI k)
    obtain ⟨M', y, e, hA⟩ := eq_L hp h24 m h1 h2 h3 hl hh (fun M3 _ => some (0, M3)) 32 0 fu M s L Q o (by omega) hfu hR h10'
    exact ⟨M', e, hA.eq fun _ ph' a' b _ _ _ => ⟨fun z => ⟨z.1, Or.inr z.2.2.1.symm, z.2.2.2⟩, fun z => ⟨z.1, Nat.zero_le _, (z.2.1.resolve_left (by omega)).symm, z.2.2⟩⟩⟩
/-! what becomes of a mask -/
theorem msk_L (m : Int32) {n : Nat} (hn : n < 32) (kk : Mem → Int32 → Int32 → Option (Int32 × Mem)) (M : Mem) :
    ∀ (d v fu : Nat) (acc : Int32), v + d = 32 → d < fu → ∃ r y, f_X4_masked_L4 m (nI n) kk fu M acc (nI v) = kk M r y ∧ ∀ b, b < 32 → (bt r b = true ↔ bt acc b = true ∨ ∃ w, v ≤ w ∧ w < 32 ∧ bt m w = true ∧ (w &&& n) = b) := by
  intro d
  induction d with
  | zero =>
    intro v fu acc hv hf
    obtain ⟨f, rfl⟩ : ∃ f, fu = f + 1 := ⟨fu - 1, by omega⟩
    rw [f_X4_masked_L4, if_pos (by rw [c32]; exact nI_le (by omega) (by omega))]
    refine ⟨acc, _, rfl, fun b _ => ⟨Or.inl, ?_⟩⟩
    rintro (h | ⟨w, h1, h2, -⟩)
    · exact h
    · omega
  | succ d ih =>
    intro v fu acc hv hf
    obtain ⟨f, rfl⟩ : ∃ f, fu = f + 1 := ⟨fu - 1, by omega⟩
    rw [f_X4_masked_L4, if_neg (by rw [c32]; exact nI_ge (by omega) (by omega))]
    have hz : (m &&& ((1 : Int32) <<< (nI v &&& 31))) = 0 ↔ bt m v = false := by
      rw [zero_bt]
      constructor
      · intro h
        have := h v (by omega)
        rw [b_and, hot v (by omega) v (by omega)] at this
        simpa using this
      · intro h b hb
        rw [b_and, hot v (by omega) b hb]
        by_cases e : b = v
        · subst e; rw [h]; rfl
        · simp [e]
    cases hb : bt m v with
    | false =>
      rw [if_pos (hz.mpr hb), nI_1]
      obtain ⟨r, y, e, hr⟩ := ih (v + 1) f acc (by omega) (by omega)
      refine ⟨r, y, e, fun b hb2 => (hr b hb2).trans ?_⟩
      constructor
      · rintro (h | ⟨w, h1, h2⟩)
        · exact Or.inl h
        · exact Or.inr ⟨w, by omega, h2⟩
      · rintro (h | ⟨w, h1, h2, h3, h4⟩)
        · exact Or.inl h
        · refine Or.inr ⟨w, ?_, h2, h3, h4⟩
          rcases (show w = v ∨ v + 1 ≤ w by omega) with e | e
          · rw [e, hb] at h3; cases h3
          · exact e
    | true =>
      rw [if_neg (fun z => by rw [hz, hb] at z; cases z)]
      unfold nm
      dsimp only
      have ha : (v &&& n) < 32 := Nat.lt_of_le_of_lt Nat.and_le_left (by omega)
      rw [nx_and, nI_1]
      obtain ⟨r, y, e, hr⟩ := ih (v + 1) f (acc ||| ((1 : Int32) <<< (nI (v &&& n) &&& 31))) (by omega) (by omega)
      refine ⟨r, y, e, fun b hb2 => (hr b hb2).trans ?_⟩
      rw [b_or, hot _ ha b hb2, Bool.or_eq_true, decide_eq_true_eq]
      constructor
      · rintro ((h | h) | ⟨w, h1, h2⟩)
        · exact Or.inl h
        · exact Or.inr ⟨v, Nat.le_refl _, by omega, hb, h.symm⟩
        · exact Or.inr ⟨w, by omega, h2⟩
      · rintro (h | ⟨w, h1, h2, h3, h4⟩)
        · exact Or.inl (Or.inl h)
        · rcases (show w = v ∨ v + 1 ≤ w by omega) with e | e
          · rw [e] at h4; exact Or.inl (Or.inr h4.symm)
          · exact Or.inr ⟨w, e, h2, h3, h4⟩
theorem msk_spec (m : Int32) {n fu : Nat} (hn : n < 32) (hfu : 32 < fu) (M : Mem) : ∃ r, f_X4_masked fu m (nI n) M = some (r, M) ∧ ∀ b, b < 32 → (bt r b = true ↔ ∃ w, w < 32 ∧ bt m w = true ∧ (w &&& n) = b) := by
  obtain ⟨r, y, e, hr⟩ := msk_L m hn (fun M2 y3 _ => some (y3, M2)) M 32 0 fu 0 (by omega) hfu
  refine ⟨r, e, fun b hb => (hr b hb).trans ?_⟩
  rw [b_0]
  constructor
  · rintro (h | ⟨w, -, h⟩)
    · cases h
    · exact ⟨w, h⟩
  · rintro ⟨w, h⟩
    exact Or.inr ⟨w, Nat.zero_le _, h⟩
