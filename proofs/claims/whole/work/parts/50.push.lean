/-! The class's search: items. L: an item's link as a number, Q: its mask. -/
def cdAt (pp : Nat) (c : Cd) (M : Mem) : Prop := M (13 * pp + 3) 4 = nI c.1 ∧ ∀ i, i < 24 → M (13 * pp + 4) i = nI (c.2.1 i) ∧ M (13 * pp + 5) i = nI (c.2.2.1 i) ∧ M (13 * pp + 6) i = nI (c.2.2.2.1 i) ∧ M (13 * pp + 7) i = nI (c.2.2.2.2 i)
/-- the states of the items below s -/
def Vi (s : Nat) (L : Nat → Nat) (Q : Nat → Int32) (t ph a b : Nat) : Prop := ∃ j, j < s ∧ L j / 32 % 32 = t ∧ L j / 1024 % 2 = ph ∧ L j % 32 = a ∧ bt (Q j) b = true
def mR (pp : Nat) (c : Cd) (M : Mem) (s : Nat) (L : Nat → Nat) (Q : Nat → Int32) (o : Nat) : Prop :=
  cdAt pp c M ∧ M (13 * pp + 8) 5 = nI s ∧ s ≤ 49152 ∧ (∀ j, j < s → M (13 * pp + 9) j = nI (L j) ∧ L j < 201326592 ∧ M 55 j = Q j ∧ ¬ Q j = 0 ∧ L j / 32 % 32 < c.1) ∧ M (13 * pp + 8) 7 = nI o ∧ o < 2 ∧
  (∀ t ph a b, t < 24 → ph < 2 → a < 32 → b < 32 → (bt (M 56 ((ph * 24 + t) * 32 + a)) b = true ↔ Vi s L Q t ph a b)) ∧
  (∀ t, t < 32 → (bt (M (13 * pp + 8) 6) t = true ↔ ∃ j, j < s ∧ L j / 32 % 32 = t)) ∧
  (∀ j j' b, j < s → j' < s → b < 32 → L j / 32 % 32 = L j' / 32 % 32 → L j / 1024 % 2 = L j' / 1024 % 2 → L j % 32 = L j' % 32 → bt (Q j) b = true → bt (Q j') b = true → j = j')
/-- what a push leaves as it was -/
def mF (pp : Nat) (M M' : Mem) : Prop := (∀ k, k ≠ 13 * pp + 8 → k ≠ 13 * pp + 9 → k ≠ 55 → k ≠ 56 → M' k = M k) ∧ ∀ f, f ≠ 5 → f ≠ 6 → f ≠ 7 → M' (13 * pp + 8) f = M (13 * pp + 8) f
theorem mF.rf (pp : Nat) (M : Mem) : mF pp M M := ⟨fun _ _ _ _ _ => rfl, fun _ _ _ _ => rfl⟩
theorem mF.tr {pp : Nat} {M M' M'' : Mem} (h : mF pp M M') (h' : mF pp M' M'') : mF pp M M'' := ⟨fun k a b c d => (h'.1 k a b c d).trans (h.1 k a b c d), fun f a b c => (h'.2 f a b c).trans (h.2 f a b c)⟩
theorem has_n {pp : Nat} {c : Cd} {M : Mem} (hc : cdAt pp c M) (h24 : c.1 ≤ 24) {t : Nat} (ht : t < 2 ^ 30) : f_X1_has pp (nI t) M = some (if t < c.1 then 1 else 0, M) := by
  unfold f_X1_has
  rw [if_neg (nI_pos (by omega)), hc.1]
  by_cases h : t < c.1
  · rw [if_neg (nI_ge h (by omega)), if_pos h]
  · rw [if_pos (nI_le (by omega) (by omega)), if_neg h]
/-- full: every state is an item's -/
theorem full {c : Cd} {s : Nat} {L : Nat → Nat} {Q : Nat → Int32} (h24 : c.1 ≤ 24) (hq : ∀ j, j < s → ¬ Q j = 0 ∧ L j / 32 % 32 < c.1)
    (hd : ∀ j j' b, j < s → j' < s → b < 32 → L j / 32 % 32 = L j' / 32 % 32 → L j / 1024 % 2 = L j' / 1024 % 2 → L j % 32 = L j' % 32 → bt (Q j) b = true → bt (Q j') b = true → j = j')
    {t ph a b : Nat} (ht : t < c.1) (h1 : ph < 2) (h2 : a < 32) (h3 : b < 32) (hn : ¬ Vi s L Q t ph a b) : s < 49152 := by
  have hx : ∀ j, ∃ b, j < s → b < 32 ∧ bt (Q j) b = true := fun j => by
    by_cases hj : j < s
    · obtain ⟨b, hb⟩ := nz_bt (hq j hj).1
      exact ⟨b, fun _ => hb⟩
    · exact ⟨0, fun h => absurd h hj⟩
  have hf : ∃ f : Nat → Nat, ∀ j, j < s → f j < 32 ∧ bt (Q j) (f j) = true := ⟨fun j => Classical.choose (hx j), fun j hj => Classical.choose_spec (hx j) hj⟩
  obtain ⟨f, hf⟩ := hf
  have key := fb_holes 49152 (s + 1) (fun j => if j < s then ((L j / 1024 % 2 * 24 + L j / 32 % 32) * 32 + L j % 32) * 32 + f j else ((ph * 24 + t) * 32 + a) * 32 + b) (by
    intro j hj
    split
    · rename_i h
      have := (hf j h).1
      have := (hq j h).2
      have : L j / 1024 % 2 < 2 := Nat.mod_lt _ (by decide)
      have : L j % 32 < 32 := Nat.mod_lt _ (by decide)
      omega
    · omega) (by
    intro j j' hjj hj' e
    rw [if_pos (by omega)] at e
    have a1 := (hf j (by omega)).1
    have a2 := (hq j (by omega)).2
    have a3 : L j / 1024 % 2 < 2 := Nat.mod_lt _ (by decide)
    have a4 : L j % 32 < 32 := Nat.mod_lt _ (by decide)
    by_cases h' : j' < s
    · rw [if_pos h'] at e
      have b1 := (hf j' h').1
      have b2 := (hq j' h').2
      have b3 : L j' / 1024 % 2 < 2 := Nat.mod_lt _ (by decide)
      have b4 : L j' % 32 < 32 := Nat.mod_lt _ (by decide)
      have e1 : f j = f j' := by omega
      have := hd j j' (f j) (by omega) h' a1 (by omega) (by omega) (by omega) (hf j (by omega)).2 (by rw [e1]; exact (hf j' h').2)
      omega
    · rw [if_neg h'] at e
      apply hn
      refine ⟨j, by omega, by omega, by omega, by omega, ?_⟩
      have e1 : f j = b := by omega
      rw [← e1]
      exact (hf j (by omega)).2)
  omega
theorem Vi_up {s : Nat} {L : Nat → Nat} {Q : Nat → Int32} {x : Nat} {q : Int32} {t ph a b : Nat} : Vi (s + 1) (va_up L s x) (va_up Q s q) t ph a b ↔ Vi s L Q t ph a b ∨ (x / 32 % 32 = t ∧ x / 1024 % 2 = ph ∧ x % 32 = a ∧ bt q b = true) := by
  unfold Vi
  constructor
  · rintro ⟨j, hj, h⟩
    by_cases e : j = s
    · subst e
      rw [va_up_self, va_up_self] at h
      exact Or.inr h
    · rw [va_up_ne _ _ e, va_up_ne _ _ e] at h
      exact Or.inl ⟨j, by omega, h⟩
  · rintro (⟨j, hj, h⟩ | h)
    · have e : j ≠ s := by omega
      refine ⟨j, by omega, ?_⟩
      rw [va_up_ne _ _ e, va_up_ne _ _ e]
      exact h
    · refine ⟨s, by omega, ?_⟩
      rw [va_up_self, va_up_self]
      exact h
theorem link_0 {par ph t a : Nat} (h1 : par < 49152) (h3 : ph < 2) (h4 : t < 32) (h5 : a < 32) : ((((nI par <<< ((12 : Int32) &&& (31 : Int32))) ||| (0 : Int32)) ||| (nI ph <<< ((10 : Int32) &&& (31 : Int32)))) ||| (nI t <<< ((5 : Int32) &&& (31 : Int32)))) ||| nI a = nI (4096 * par + 2048 * 0 + 1024 * ph + 32 * t + a) := by
  have e : (0 : Int32) = nI (2048 * 0) := rfl
  rw [e]
  exact link_n h1 (by omega) h3 h4 h5
theorem link_1 {par ph t a : Nat} (h1 : par < 49152) (h3 : ph < 2) (h4 : t < 32) (h5 : a < 32) : ((((nI par <<< ((12 : Int32) &&& (31 : Int32))) ||| (2048 : Int32)) ||| (nI ph <<< ((10 : Int32) &&& (31 : Int32)))) ||| (nI t <<< ((5 : Int32) &&& (31 : Int32)))) ||| nI a = nI (4096 * par + 2048 * 1 + 1024 * ph + 32 * t + a) := by
  have e : (2048 : Int32) = nI (2048 * 1) := rfl
  rw [e]
  exact link_n h1 (by omega) h3 h4 h5
set_option maxHeartbeats 1000000 in
theorem push_spec {pp : Nat} (hp : pp < 4) {c : Cd} (h24 : c.1 ≤ 24) {M : Mem} {s : Nat} {L : Nat → Nat} {Q : Nat → Int32} {o : Nat} (h : mR pp c M s L Q o) {par ph nx a : Nat} (m : Int32) (h1 : par < 49152) (h2 : ph < 2) (h3 : nx ≤ 24) (h4 : a < 32) :
    ∃ M', f_X4_push pp (nI par) (nI ph) (nI nx) (nI a) m M = some (0, M') ∧ mF pp M M' ∧
      ((mR pp c M' s L Q o ∧ (nx < c.1 → ∀ b, b < 32 → bt m b = true → Vi s L Q nx ph a b)) ∨
       (nx < c.1 ∧ s < 49152 ∧ ∃ q : Int32, (∀ b, b < 32 → (bt q b = true ↔ bt m b = true ∧ ¬ Vi s L Q nx ph a b)) ∧ mR pp c M' (s + 1) (va_up L s (4096 * par + 2048 * o + 1024 * ph + 32 * nx + a)) (va_up Q s q) 0)) := by
  obtain ⟨hc, hs, hs2, hi, ho, ho2, hg, hco, hd⟩ := id h
  unfold f_X4_push
  by_cases hm : m = 0
  · rw [if_pos hm]
    exact ⟨M, rfl, mF.rf pp M, Or.inl ⟨h, fun _ b _ hb => by rw [hm, b_0] at hb; cases hb⟩⟩
  rw [if_neg hm, hs]
  by_cases hfull : 49152 ≤ s
  · rw [if_pos (by rw [c49152]; exact nI_le (by omega) (by omega))]
    refine ⟨M, rfl, mF.rf pp M, Or.inl ⟨h, fun hn b hb _ => ?_⟩⟩
    rcases Classical.em (Vi s L Q nx ph a b) with hv | hv
    · exact hv
    · have := full h24 (fun j hj => ⟨(hi j hj).2.2.2.1, (hi j hj).2.2.2.2⟩) hd hn h2 h4 hb hv
      omega
  rw [if_neg (by rw [c49152]; exact nI_ge (by omega) (by omega)), has_n hc h24 (by omega), bnd_some]
  by_cases hn0 : ¬ nx < c.1
  · rw [if_neg hn0, if_pos rfl]
    exact ⟨M, rfl, mF.rf pp M, Or.inl ⟨h, fun e => absurd e hn0⟩⟩
  have hn : nx < c.1 := Classical.not_not.mp hn0
  rw [if_pos hn, if_neg (by decide)]
  -- enter
  have he : ∀ X : Mem, f_X6_enter (nI ph) (nI nx) (nI a) m X = some (m &&& (X 56 ((ph * 24 + nx) * 32 + a) ^^^ (-1)), upM X 56 ((ph * 24 + nx) * 32 + a) (X 56 ((ph * 24 + nx) * 32 + a) ||| (m &&& (X 56 ((ph * 24 + nx) * 32 + a) ^^^ (-1))))) := fun X => by
    unfold f_X6_enter nm wr
    dsimp only
    rw [c24, c32, pk_mul, nI_add, pk_mul, nI_add, ixT (by omega) (by omega), if_pos rfl, if_pos rfl, if_pos rfl, nI_clamp (by omega)]
  rw [he, bnd_some]
  generalize hpl : (ph * 24 + nx) * 32 + a = pl
  generalize hq : m &&& (M 56 pl ^^^ (-1)) = q
  have hqb : ∀ b, b < 32 → (bt q b = true ↔ bt m b = true ∧ ¬ Vi s L Q nx ph a b) := fun b hb => by
    rw [← hq, b_and, b_not _ hb]
    have := hg nx ph a b (by omega) h2 h4 hb
    rw [hpl] at this
    rw [← this]
    cases bt m b <;> cases bt (M 56 pl) b <;> simp
  by_cases hq0 : q = 0
  · rw [if_pos hq0]
    have e : upM M 56 pl (M 56 pl ||| q) = M := upM_id M 56 pl (by
      apply b_ext
      intro b hb
      rw [b_or, hq0, b_0]
      simp)
    rw [e]
    refine ⟨M, rfl, mF.rf pp M, Or.inl ⟨h, fun _ b hb hmb => ?_⟩⟩
    rcases Classical.em (Vi s L Q nx ph a b) with hv | hv
    · exact hv
    · have := (hqb b hb).mpr ⟨hmb, hv⟩
      rw [hq0, b_0] at this
      cases this
  rw [if_neg hq0]
  generalize hM4 : upM M 56 pl (M 56 pl ||| q) = M4
  have f4 : ∀ k, k ≠ 56 → M4 k = M k := fun k hk => by rw [← hM4]; exact upM_k hk
  have e5 : M4 (13 * pp + 8) 5 = nI s := by rw [f4 _ (by omega)]; exact hs
  have e7 : M4 (13 * pp + 8) 7 = nI o := by rw [f4 _ (by omega)]; exact ho
  have e6 : M4 (13 * pp + 8) 6 = M (13 * pp + 8) 6 := by rw [f4 _ (by omega)]
  -- both arms write the same link
  have keep : ∀ X : Mem, f_X6_keep (nI s) q X = some (0, upM X 55 s q) := fun X => by
    unfold f_X6_keep wr
    dsimp only
    rw [ixT (by omega) (by omega), if_pos rfl, nI_clamp (by omega)]
  generalize hx : 4096 * par + 2048 * o + 1024 * ph + 32 * nx + a = x
  have fin : ∀ lk : Int32, lk = nI x → (if ix (M4 (13 * pp + 8) 5) 49152 then wr M4 (13 * pp + 9) (M4 (13 * pp + 8) 5).toNatClampNeg lk (fun M5 => bnd (f_X6_keep (M5 (13 * pp + 8) 5) q M5) (fun r6 M7 => wr M7 (13 * pp + 8) 5 ((M7 (13 * pp + 8) 5) + 1) (fun M8 => wr M8 (13 * pp + 8) 6 ((M8 (13 * pp + 8) 6) ||| ((1 : Int32) <<< (nI nx &&& 31))) (fun M9 => wr M9 (13 * pp + 8) 7 0 (fun M10 => some (0, M10)))))) else none)
      = some (0, upM (upM (upM (upM (upM M4 (13 * pp + 9) s (nI x)) 55 s q) (13 * pp + 8) 5 (nI (s + 1))) (13 * pp + 8) 6 (M (13 * pp + 8) 6 ||| ((1 : Int32) <<< (nI nx &&& 31)))) (13 * pp + 8) 7 0) := by
    intro lk hlk
    rw [e5, ixT (by omega) (by omega), if_pos rfl, nI_clamp (by omega), hlk]
    unfold wr
    dsimp only
    rw [upM_k (by omega), e5, keep, bnd_some]
    rw [upM_k (M := upM M4 (13 * pp + 9) s (nI x)) (k := 55) (by omega), upM_k (M := M4) (by omega), e5, nI_1]
    have e8 : upM (upM (upM M4 (13 * pp + 9) s (nI x)) 55 s q) (13 * pp + 8) 5 (nI (s + 1)) (13 * pp + 8) 6 = M (13 * pp + 8) 6 := by
      rw [upM_ap, if_neg (by omega), upM_k (by omega), upM_k (by omega), e6]
    rw [e8]
  refine ⟨upM (upM (upM (upM (upM M4 (13 * pp + 9) s (nI x)) 55 s q) (13 * pp + 8) 5 (nI (s + 1))) (13 * pp + 8) 6 (M (13 * pp + 8) 6 ||| ((1 : Int32) <<< (nI nx &&& 31)))) (13 * pp + 8) 7 0, ?_, ?_, Or.inr ⟨hn, by omega, q, hqb, ?_⟩⟩
  · rw [e7]
    rcases (show o = 0 ∨ o = 1 by omega) with q0 | q1
    · subst q0
      rw [if_pos c0.symm]
      exact fin _ (by rw [← hx]; exact link_0 h1 h2 (by omega) h4)
    · subst q1
      rw [if_neg (by decide)]
      exact fin _ (by rw [← hx]; exact link_1 h1 h2 (by omega) h4)
  · refine ⟨fun k a1 a2 a3 a4 => ?_, fun f a1 a2 a3 => ?_⟩
    · rw [upM_k a1, upM_k a1, upM_k a1, upM_k a3, upM_k a2, f4 k a4]
    · rw [upM_ap, if_neg (by omega), upM_ap, if_neg (by omega), upM_ap, if_neg (by omega), upM_k (by omega), upM_k (by omega), f4 _ (by omega)]
  · generalize hMf : upM (upM (upM (upM (upM M4 (13 * pp + 9) s (nI x)) 55 s q) (13 * pp + 8) 5 (nI (s + 1))) (13 * pp + 8) 6 (M (13 * pp + 8) 6 ||| ((1 : Int32) <<< (nI nx &&& 31)))) (13 * pp + 8) 7 0 = Mf
    have g : ∀ k, k ≠ 13 * pp + 8 → k ≠ 13 * pp + 9 → k ≠ 55 → k ≠ 56 → Mf k = M k := fun k a1 a2 a3 a4 => by
      rw [← hMf, upM_k a1, upM_k a1, upM_k a1, upM_k a3, upM_k a2, f4 k a4]
    have gx : x / 32 % 32 = nx ∧ x / 1024 % 2 = ph ∧ x % 32 = a ∧ x / 2048 % 2 = o ∧ x / 4096 = par ∧ x < 201326592 := by omega
    have g9 : ∀ j, Mf (13 * pp + 9) j = if j = s then nI x else M (13 * pp + 9) j := fun j => by
      rw [← hMf, upM_k (by omega), upM_k (by omega), upM_k (by omega), upM_k (by omega), upM_ap, f4 _ (by omega)]
      by_cases e : j = s
      · rw [if_pos ⟨rfl, e⟩, if_pos e]
      · rw [if_neg (fun z => e z.2), if_neg e]
    have g55 : ∀ j, Mf 55 j = if j = s then q else M 55 j := fun j => by
      rw [← hMf, upM_k (by omega), upM_k (by omega), upM_k (by omega), upM_ap, upM_k (by omega), f4 _ (by omega)]
      by_cases e : j = s
      · rw [if_pos ⟨rfl, e⟩, if_pos e]
      · rw [if_neg (fun z => e z.2), if_neg e]
    have g56 : ∀ j, Mf 56 j = if j = pl then M 56 pl ||| q else M 56 j := fun j => by
      rw [← hMf, upM_k (by omega), upM_k (by omega), upM_k (by omega), upM_k (by omega), upM_k (by omega), ← hM4, upM_ap]
      by_cases e : j = pl
      · rw [if_pos ⟨rfl, e⟩, if_pos e]
      · rw [if_neg (fun z => e z.2), if_neg e]
    refine ⟨?_, ?_, by omega, ?_, ?_, by omega, ?_, ?_, ?_⟩
    · refine ⟨by rw [g _ (by omega) (by omega) (by omega) (by omega)]; exact hc.1, fun i hi => ?_⟩
      rw [g _ (by omega) (by omega) (by omega) (by omega), g _ (by omega) (by omega) (by omega) (by omega), g _ (by omega) (by omega) (by omega) (by omega), g _ (by omega) (by omega) (by omega) (by omega)]
      exact hc.2 i hi
    · rw [← hMf, upM_ap, if_neg (by omega), upM_ap, if_neg (by omega), upM_ap, if_pos ⟨rfl, rfl⟩]
    · intro j hj
      rw [g9, g55]
      by_cases e : j = s
      · subst e
        rw [if_pos rfl, if_pos rfl, va_up_self, va_up_self]
        exact ⟨rfl, gx.2.2.2.2.2, rfl, hq0, by omega⟩
      · rw [if_neg e, if_neg e, va_up_ne _ _ e, va_up_ne _ _ e]
        exact hi j (by omega)
    · rw [← hMf, upM_ap, if_pos ⟨rfl, rfl⟩]; rfl
    · intro t ph' a' b ht hph ha hb
      rw [g56, Vi_up]
      by_cases e : (ph' * 24 + t) * 32 + a' = pl
      · obtain ⟨rfl, rfl, rfl⟩ : t = nx ∧ ph' = ph ∧ a' = a := by omega
        rw [if_pos e, b_or, Bool.or_eq_true, hqb b hb]
        have := hg t ph' a' b ht hph ha hb
        rw [e] at this
        rw [this]
        constructor
        · rintro (h | ⟨h, h'⟩)
          · exact Or.inl h
          · exact Or.inr ⟨gx.1, gx.2.1, gx.2.2.1, h, h'⟩
        · rintro (h | ⟨-, -, -, h⟩)
          · exact Or.inl h
          · exact Or.inr h
      · rw [if_neg e, hg t ph' a' b ht hph ha hb]
        constructor
        · exact Or.inl
        · rintro (h | ⟨e1, e2, e3, -⟩)
          · exact h
          · exfalso; apply e; rw [← hpl]; omega
    · intro t ht
      have e6' : Mf (13 * pp + 8) 6 = M (13 * pp + 8) 6 ||| ((1 : Int32) <<< (nI nx &&& 31)) := by
        rw [← hMf, upM_ap, if_neg (by omega), upM_ap, if_pos ⟨rfl, rfl⟩]
      rw [e6', b_or, hot nx (by omega) t ht, Bool.or_eq_true, hco t ht]
      constructor
      · rintro (⟨j, hj, h⟩ | h)
        · exact ⟨j, by omega, by rw [va_up_ne _ _ (by omega)]; exact h⟩
        · exact ⟨s, by omega, by rw [va_up_self]; have := of_decide_eq_true h; omega⟩
      · rintro ⟨j, hj, h⟩
        by_cases e : j = s
        · subst e
          rw [va_up_self] at h
          exact Or.inr (decide_eq_true (by omega))
        · rw [va_up_ne _ _ e] at h
          exact Or.inl ⟨j, by omega, h⟩
    · intro j j' b hj hj' hb e1 e2 e3 b1 b2
      by_cases ej : j = s <;> by_cases ej' : j' = s
      · omega
      · subst ej
        rw [va_up_self, va_up_ne _ _ ej'] at e1 e2 e3
        rw [va_up_self] at b1
        rw [va_up_ne _ _ ej'] at b2
        exact absurd ⟨j', by omega, by omega, by omega, by omega, b2⟩ ((hqb b hb).mp b1).2
      · subst ej'
        rw [va_up_self, va_up_ne _ _ ej] at e1 e2 e3
        rw [va_up_self] at b2
        rw [va_up_ne _ _ ej] at b1
        exact absurd ⟨j, by omega, by omega, by omega, by omega, b1⟩ ((hqb b hb).mp b2).2
      · rw [va_up_ne _ _ ej, va_up_ne _ _ ej'] at e1 e2 e3
        rw [va_up_ne _ _ ej] at b1
        rw [va_up_ne _ _ ej'] at b2
        exact hd j j' b (by omega) (by omega) hb e1 e2 e3 b1 b2
