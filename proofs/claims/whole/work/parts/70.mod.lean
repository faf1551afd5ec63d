/-! The reference's search: what is found. V: the states that are found, dp, pr: their depth and parent, an: those that are found anew. -/
def cdM (p : Nat) (c : Cd) (M : Mem) : Prop := M 72 p = nI c.1 ∧ ∀ i, i < 24 → M 73 (24 * p + i) = nI (c.2.1 i) ∧ M 74 (24 * p + i) = nI (c.2.2.1 i) ∧ M 75 (24 * p + i) = nI (c.2.2.2.1 i) ∧ M 76 (24 * p + i) = nI (c.2.2.2.2 i)
def mQ (p : Nat) (c : Cd) (M : Mem) (V : Nat → Prop) (dp : Nat → Nat) (pr : Nat → Int32) (m : Nat) (an : Nat → Nat) : Prop :=
  cdM p c M ∧ M 70 26 = nI m ∧ m ≤ 51200 ∧ (∀ j, j < m → M 90 j = nI (an j) ∧ an j < 51200 ∧ V (an j)) ∧ (∀ j j', j < m → j' < m → an j = an j' → j = j') ∧
  (∀ x, x < 51200 → (V x → M 88 x = nI (dp x) ∧ M 87 x = pr x ∧ dp x < 2 ^ 30) ∧ (¬ V x → M 88 x = -1))
/-- what finding leaves as it was -/
def mK (M M' : Mem) : Prop := (∀ k, k ≠ 70 → k ≠ 87 → k ≠ 88 → k ≠ 90 → M' k = M k) ∧ ∀ f, f ≠ 26 → M' 70 f = M 70 f
theorem mK.rf (M : Mem) : mK M M := ⟨fun _ _ _ _ _ => rfl, fun _ _ => rfl⟩
theorem mK.tr {M M' M'' : Mem} (h : mK M M') (h' : mK M' M'') : mK M M'' := ⟨fun k a b c d => (h'.1 k a b c d).trans (h.1 k a b c d), fun f a => (h'.2 f a).trans (h.2 f a)⟩
set_option maxHeartbeats 1000000 in
theorem finds_spec {p : Nat} {c : Cd} {M : Mem} {V : Nat → Prop} {dp : Nat → Nat} {pr : Nat → Int32} {m : Nat} {an : Nat → Nat} (h : mQ p c M V dp pr m an) {x y : Nat} (hx : x < 51200) (hy : y < 51200) (hv : V y) (hd : dp y + 1 < 2 ^ 30) :
    ∃ M', f_X9_finds (nI x) (nI y) M = some (0, M') ∧ mK M M' ∧ ((V x ∧ M' = M) ∨ (¬ V x ∧ mQ p c M' (fun z => V z ∨ z = x) (va_up dp x (dp y + 1)) (va_up pr x (nI y)) (m + 1) (va_up an m x))) := by
  obtain ⟨hc, h26, hm, hj, hi, hV⟩ := id h
  unfold f_X9_finds
  rw [ixT hx (by omega), if_pos rfl, nI_clamp (by omega)]
  rcases Classical.em (V x) with vx | vx
  · obtain ⟨e1, -, e3⟩ := (hV x hx).1 vx
    rw [e1, if_neg (nI_m1 (by omega))]
    exact ⟨M, rfl, mK.rf M, Or.inl ⟨vx, rfl⟩⟩
  · rw [(hV x hx).2 vx, if_pos rfl, ixT hy (by omega), if_pos rfl, if_pos rfl, nI_clamp (by omega), ((hV y hy).1 hv).1, nI_1]
    have hm2 : m < 51200 := by
      have := fb_holes 51200 (m + 1) (fun j => if j < m then an j else x) (by
        intro j hj2
        split
        · rename_i z; exact (hj j z).2.1
        · exact hx) (by
        intro j j' hjj hj' e
        rw [if_pos (by omega)] at e
        by_cases z : j' < m
        · rw [if_pos z] at e
          have := hi j j' (by omega) z e
          omega
        · rw [if_neg z] at e
          apply vx
          rw [← e]
          exact (hj j (by omega)).2.2)
      omega
    unfold wr
    dsimp only
    rw [if_pos rfl]
    generalize hX1 : upM M 88 x (nI (dp y + 1)) = X1
    generalize hX2 : upM X1 87 x (nI y) = X2
    have q26 : X2 70 26 = nI m := by rw [← hX2, upM_k (by omega), ← hX1, upM_k (by omega)]; exact h26
    rw [q26, ixT hm2 (by omega), if_pos rfl, nI_clamp (by omega)]
    generalize hX3 : upM X2 90 m (nI x) = X3
    have q26' : X3 70 26 = nI m := by rw [← hX3, upM_k (by omega)]; exact q26
    rw [q26', nI_1]
    have f0 : ∀ k, k ≠ 70 → k ≠ 87 → k ≠ 88 → k ≠ 90 → upM X3 70 26 (nI (m + 1)) k = M k := fun k a b c d => by
      rw [upM_k a, ← hX3, upM_k d, ← hX2, upM_k b, ← hX1, upM_k c]
    refine ⟨_, rfl, ⟨f0, fun f hf => ?_⟩, Or.inr ⟨vx, ?_, ?_, by omega, fun j hj2 => ?_, fun j j' g1 g2 e => ?_, fun z hz => ?_⟩⟩
    · rw [upM_ap, if_neg (by omega), ← hX3, upM_k (by omega), ← hX2, upM_k (by omega), ← hX1, upM_k (by omega)]
    · refine ⟨by rw [f0 _ (by omega) (by omega) (by omega) (by omega)]; exact hc.1, fun i hi2 => ?_⟩
      rw [f0 _ (by omega) (by omega) (by omega) (by omega), f0 _ (by omega) (by omega) (by omega) (by omega), f0 _ (by omega) (by omega) (by omega) (by omega), f0 _ (by omega) (by omega) (by omega) (by omega)]
      exact hc.2 i hi2
    · rw [upM_ap, if_pos ⟨rfl, rfl⟩]
    · rw [upM_k (by omega), ← hX3, upM_ap, ← hX2, upM_k (by omega), ← hX1, upM_k (by omega)]
      by_cases e : j = m
      · subst e
        rw [if_pos ⟨rfl, rfl⟩, va_up_self]
        exact ⟨rfl, hx, Or.inr rfl⟩
      · rw [if_neg (fun z => e z.2), va_up_ne _ _ e]
        exact ⟨(hj j (by omega)).1, (hj j (by omega)).2.1, Or.inl (hj j (by omega)).2.2⟩
    · by_cases e1 : j = m <;> by_cases e2 : j' = m
      · omega
      · subst e1
        rw [va_up_self, va_up_ne _ _ e2] at e
        exact absurd (by rw [e]; exact (hj j' (by omega)).2.2) vx
      · subst e2
        rw [va_up_self, va_up_ne _ _ e1] at e
        exact absurd (by rw [← e]; exact (hj j (by omega)).2.2) vx
      · rw [va_up_ne _ _ e1, va_up_ne _ _ e2] at e
        exact hi j j' (by omega) (by omega) e
    · have e88 : upM X3 70 26 (nI (m + 1)) 88 z = if z = x then nI (dp y + 1) else M 88 z := by
        rw [upM_k (by omega), ← hX3, upM_k (by omega), ← hX2, upM_k (by omega), ← hX1, upM_ap]
        by_cases e : z = x
        · rw [if_pos ⟨rfl, e⟩, if_pos e]
        · rw [if_neg (fun w => e w.2), if_neg e]
      have e87 : upM X3 70 26 (nI (m + 1)) 87 z = if z = x then nI y else M 87 z := by
        rw [upM_k (by omega), ← hX3, upM_k (by omega), ← hX2, upM_ap, ← hX1, upM_k (by omega)]
        by_cases e : z = x
        · rw [if_pos ⟨rfl, e⟩, if_pos e]
        · rw [if_neg (fun w => e w.2), if_neg e]
      rw [e88, e87]
      by_cases e : z = x
      · subst e
        rw [if_pos rfl, if_pos rfl, va_up_self, va_up_self]
        exact ⟨fun _ => ⟨rfl, rfl, hd⟩, fun w => absurd (Or.inr rfl) w⟩
      · rw [if_neg e, if_neg e, va_up_ne _ _ e, va_up_ne _ _ e]
        exact ⟨fun w => (hV z hz).1 (w.resolve_right e), fun w => (hV z hz).2 (fun v => w (Or.inl v))⟩
