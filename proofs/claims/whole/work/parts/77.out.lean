/-! ranksAnew(), the outer loop: what is found anew comes into the row, one instruction after another. -/
noncomputable def ad1 (A : AB) (i : Nat) (P : Nat → Nat → Nat → Nat → Prop) (t : Nat) : AB := @ite AB (∃ ph a b, P t ph a b) (Classical.propDecidable _) (psh A i t (P t)) A
theorem ad1_yes {A : AB} {i : Nat} {P : Nat → Nat → Nat → Nat → Prop} {t : Nat} (h : ∃ ph a b, P t ph a b) : ad1 A i P t = psh A i t (P t) := by
  unfold ad1; exact if_pos h
theorem ad1_no {A : AB} {i : Nat} {P : Nat → Nat → Nat → Nat → Prop} {t : Nat} (h : ¬ ∃ ph a b, P t ph a b) : ad1 A i P t = A := by
  unfold ad1; exact if_neg h
noncomputable def adF (i : Nat) (P : Nat → Nat → Nat → Nat → Prop) : Nat → Nat → AB → AB
  | 0, _, A => A
  | d + 1, t, A => adF i P d (t + 1) (ad1 A i P t)
theorem adF_adds {c : Cd} {A : AB} {i : Nat} (hi : i < A.1) : ∀ d t, adF i (nwP c A i) d t (adds c A i t) = adds c A i (t + d) := by
  intro d
  induction d with
  | zero => intro t; rfl
  | succ d ih =>
    intro t
    have e : ad1 (adds c A i t) i (nwP c A i) t = adds c A i (t + 1) := by
      show _ = addG c (adds c A i t) i t
      have q : nwP c (adds c A i t) i t = nwP c A i t := funext fun ph => funext fun a => funext fun b => propext (adds_nw hi t ph a b)
      unfold ad1 addG
      rw [q]
    show adF i (nwP c A i) d (t + 1) (ad1 (adds c A i t) i (nwP c A i) t) = _
    rw [e, ih, show t + 1 + d = t + (d + 1) by omega]
theorem adF_none {A : AB} {i : Nat} {P : Nat → Nat → Nat → Nat → Prop} : ∀ d t, (∀ t' ph a b, t ≤ t' → t' < t + d → ¬ P t' ph a b) → adF i P d t A = A := by
  intro d
  induction d with
  | zero => intro t _; rfl
  | succ d ih =>
    intro t h
    show adF i P d (t + 1) (ad1 A i P t) = A
    rw [ad1_no (fun ⟨ph, a, b, z⟩ => h t ph a b (Nat.le_refl _) (by omega) z)]
    exact ih (t + 1) (fun t' ph a b g1 g2 => h t' ph a b (by omega) (by omega))
theorem adF_one {A : AB} {i : Nat} {P : Nat → Nat → Nat → Nat → Prop} {e : Nat} (hy : ∃ ph a b, P e ph a b) (hn : ∀ t ph a b, t ≠ e → ¬ P t ph a b) : ∀ d t, t ≤ e → e < t + d → adF i P d t A = psh A i e (P e) := by
  intro d
  induction d with
  | zero => intro t h1 h2; omega
  | succ d ih =>
    intro t h1 h2
    show adF i P d (t + 1) (ad1 A i P t) = _
    by_cases q : t = e
    · subst q
      rw [ad1_yes hy]
      exact adF_none d (t + 1) (fun t' ph a b g1 g2 => hn t' ph a b (by omega))
    · rw [ad1_no (fun ⟨ph, a, b, z⟩ => hn t ph a b q z)]
      exact ih (t + 1) (by omega) (by omega)
def rkO (M : Mem) (A : AB) (rb rw' : Nat → Nat) : Prop := M 70 24 = nI A.1 ∧ ∀ g j, g < A.1 → rb g ≤ j → j < rb (g + 1) → M 89 (rw' j) = nI g
def mN (M M' : Mem) : Prop := (∀ k, k ≠ 70 → k ≠ 86 → k ≠ 89 → M' k = M k) ∧ ∀ f, f ≠ 23 → f ≠ 24 → M' 70 f = M 70 f
theorem mN.rf (M : Mem) : mN M M := ⟨fun _ _ _ _ => rfl, fun _ _ _ => rfl⟩
theorem mN.tr {M M' M'' : Mem} (h : mN M M') (h' : mN M' M'') : mN M M'' := ⟨fun k a b c => (h'.1 k a b c).trans (h.1 k a b c), fun f a b => (h'.2 f a b).trans (h.2 f a b)⟩
theorem mL.n {M M' : Mem} (h : mL M M') : mN M M' := ⟨h.1, fun f a _ => h.2 f a⟩
theorem sn_dec (z : Nat) : z = sn (z / 2048) (z / 1024 % 2) (z / 32 % 32) (z % 32) := by unfold sn; omega
theorem sn_t {t ph a b : Nat} (h1 : ph < 2) (h2 : a < 32) (h3 : b < 32) : sn t ph a b / 2048 = t ∧ sn t ph a b / 1024 % 2 = ph ∧ sn t ph a b / 32 % 32 = a ∧ sn t ph a b % 32 = b := by unfold sn; omega
set_option maxHeartbeats 2000000 in
theorem rk_out {m fu i : Nat} {an : Nat → Nat} {P : Nat → Nat → Nat → Nat → Prop} (hfu : 51200 < fu) (hm : m ≤ 51200) (han : ∀ j, j < m → an j < 51200) (hinj : ∀ j j', j < m → j' < m → an j = an j' → j = j')
    (h1 : ∀ k, k < m → P (an k / 2048) (an k / 1024 % 2) (an k / 32 % 32) (an k % 32)) (h2 : ∀ t ph a b, P t ph a b → ∃ k, k < m ∧ an k = sn t ph a b) (h3 : ∀ t ph a b, P t ph a b → ph < 2 ∧ a < 32 ∧ b < 32) (kk : Mem → Int32 → Option (Int32 × Mem)) :
    ∀ (d t f : Nat) (M : Mem) (A : AB) (rb : Nat → Nat) (mn : Nat) (rw' : Nat → Nat), t + d = 25 → d < f → M 70 26 = nI m → (∀ j, j < m → M 90 j = nI (an j)) → mRow M mn rw' → Mg A rb mn rw' → rkO M A rb rw' → (∀ k j, k < m → t ≤ an k / 2048 → j < mn → rw' j ≠ an k) →
      ∃ M' rb' mn' rw2, f_X9_ranksAnew_L2 fu kk f M (nI t) = kk M' (nI 25) ∧ mN M M' ∧ mRow M' mn' rw2 ∧ Mg (adF i P d t A) rb' mn' rw2 ∧ rkO M' (adF i P d t A) rb' rw2 ∧ mn ≤ mn' ∧ (∀ j, j < mn → rw2 j = rw' j) ∧ ∀ g, g ≤ A.1 → rb' g = rb g := by
  intro d
  induction d with
  | zero =>
    intro t f M A rb mn rw' ht hf h26 h90 hr hg hk hno
    obtain ⟨f', rfl⟩ : ∃ f', f = f' + 1 := ⟨f - 1, by omega⟩
    rw [f_X9_ranksAnew_L2, if_pos (by rw [c24]; exact nI_lt (by omega) (by omega)), show t = 25 by omega]
    exact ⟨M, rb, mn, rw', rfl, mN.rf M, hr, hg, hk, Nat.le_refl _, fun _ _ => rfl, fun _ _ => rfl⟩
  | succ d ih =>
    intro t f M A rb mn rw' ht hf h26 h90 hr hg hk hno
    obtain ⟨f', rfl⟩ : ∃ f', f = f' + 1 := ⟨f - 1, by omega⟩
    rw [f_X9_ranksAnew_L2, if_neg (by rw [c24]; exact fun w => absurd w (nI_nlt (by omega) (by omega)))]
    obtain ⟨M1, mn1, rw1, y1, e1, hL, q1, q2, q3, q4, q5, q6, q7, q8, q9⟩ := rk_in (R := A.1) (by omega : t ≤ 24) hm han hinj (fun M4 y5 y6 => if y5 = 0 then wr M4 (70) 24 ((M4 (70) 24) + (0 : Int32)) (fun M7 => f_X9_ranksAnew_L2 fu kk f' M7 (nI t + 1)) else wr M4 (70) 24 ((M4 (70) 24) + (1 : Int32)) (fun M8 => f_X9_ranksAnew_L2 fu kk f' M8 (nI t + 1))) m 0 fu M mn rw' 0 (by omega) (by omega) h26 hk.1 h90 hr (fun k j _ g2 g3 g4 => hno k j g2 (by omega) g4)
    have e1' : f_X9_ranksAnew_L12 (nI t) (fun M4 y5 y6 => if y5 = 0 then wr M4 (70) 24 ((M4 (70) 24) + (0 : Int32)) (fun M7 => f_X9_ranksAnew_L2 fu kk f' M7 (nI t + 1)) else wr M4 (70) 24 ((M4 (70) 24) + (1 : Int32)) (fun M8 => f_X9_ranksAnew_L2 fu kk f' M8 (nI t + 1))) fu M 0 0 = _ := e1
    rw [e1']
    have h24 : M1 70 24 = nI A.1 := by rw [hL.2 _ (by omega)]; exact hk.1
    obtain ⟨i0, i1, i2, i3, i4⟩ := id hg
    have mon := blk_mono (n := A.1) (blk := rb) (fun g hg => Nat.le_of_lt (i2 g hg))
    have old89 : ∀ g j, g < A.1 → rb g ≤ j → j < rb (g + 1) → M1 89 (rw1 j) = nI g := fun g j g0 g1 g2 => by
      have mm := mon (A.1 - (g + 1)) (g + 1) (by omega)
      rw [show g + 1 + (A.1 - (g + 1)) = A.1 by omega, i1] at mm
      rw [q3 j (by omega), q7 _ (fun k _ k2 k3 => hno k j k2 (by omega) (by omega))]
      exact hk.2 g j g0 g1 g2
    rcases (show mn = mn1 ∨ mn < mn1 by omega) with z | z
    · have hnone : ¬ ∃ ph a b, P t ph a b := by
        rintro ⟨ph, a, b, hp⟩
        obtain ⟨k, k1, k2⟩ := h2 t ph a b hp
        obtain ⟨r1, r2, r3⟩ := h3 t ph a b hp
        obtain ⟨j, j1, j2, -⟩ := q5 k (Nat.zero_le _) k1 (by rw [k2]; exact (sn_t r1 r2 r3).1)
        omega
      rw [q8 z, if_pos rfl]
      unfold wr
      rw [h24, show nI A.1 + (0 : Int32) = nI A.1 from by rw [c0, nI_add, Nat.add_zero], nI_1, upM_id M1 70 24 h24]
      have hnone' := hnone
      rw [show adF i P (d + 1) t A = adF i P d (t + 1) A by show adF i P d (t + 1) (ad1 A i P t) = _; rw [ad1_no hnone]]
      subst z
      have hg1 : Mg A rb mn rw1 := by
        refine ⟨i0, i1, i2, fun g j g0 g1 g2 => ?_, fun g ph a b g0 hs => ?_⟩
        · have mm := mon (A.1 - (g + 1)) (g + 1) (by omega)
          rw [show g + 1 + (A.1 - (g + 1)) = A.1 by omega, i1] at mm
          rw [q3 j (by omega)]; exact i3 g j g0 g1 g2
        · obtain ⟨j, z1, z2, z3⟩ := i4 g ph a b g0 hs
          have mm := mon (A.1 - (g + 1)) (g + 1) (by omega)
          rw [show g + 1 + (A.1 - (g + 1)) = A.1 by omega, i1] at mm
          exact ⟨j, z1, z2, by rw [q3 j (by omega)]; exact z3⟩
      obtain ⟨M2, rb2, mn2, rw2, e2, b1, b2, b3, b4, b5, b6, b7⟩ := ih (t + 1) f' M1 A rb mn rw1 (by omega) (by omega) (by rw [hL.2 _ (by omega)]; exact h26) (fun j hj => by rw [hL.1 _ (by omega) (by omega) (by omega)]; exact h90 j hj) q1 hg1 ⟨h24, old89⟩ (fun k j g1 g2 g3 => by rw [q3 j g3]; exact hno k j g1 (by omega) g3)
      exact ⟨M2, rb2, mn2, rw2, e2, hL.n.tr b1, b2, b3, b4, b5, fun j hj => by rw [b6 j hj, q3 j hj], b7⟩
    · obtain ⟨k, -, k2, k3, k4⟩ := q4 mn (Nat.le_refl _) z
      have hsome : ∃ ph a b, P t ph a b := ⟨_, _, _, by have := h1 k k2; rw [k3] at this; exact this⟩
      rw [q9 z, if_neg (by decide)]
      unfold wr
      rw [h24, nI_1, nI_1]
      rw [show adF i P (d + 1) t A = adF i P d (t + 1) (psh A i t (P t)) by show adF i P d (t + 1) (ad1 A i P t) = _; rw [ad1_yes hsome]]
      generalize hX : upM M1 70 24 (nI (A.1 + 1)) = X
      have a1 : ∀ k, k ≠ 70 → X k = M1 k := fun k hk => by rw [← hX, upM_k hk]
      have a2 : ∀ f, f ≠ 24 → X 70 f = M1 70 f := fun f hf => by rw [← hX, upM_ap, if_neg (by omega)]
      have a3 : X 70 24 = nI (A.1 + 1) := by rw [← hX, upM_ap, if_pos ⟨rfl, rfl⟩]
      have hg1 : Mg (psh A i t (P t)) (va_up rb (A.1 + 1) mn1) mn1 rw1 := hg.add z q3 (fun j g1 g2 => by
        obtain ⟨k, -, k2, k3, k4⟩ := q4 j g1 g2
        rw [k4]
        refine ⟨k3, ?_⟩
        have := h1 k k2
        rw [k3] at this
        exact this) (fun ph a b hp => by
        obtain ⟨k, k1, k2⟩ := h2 t ph a b hp
        obtain ⟨r1, r2, r3⟩ := h3 t ph a b hp
        obtain ⟨j, j1, j2, j3⟩ := q5 k (Nat.zero_le _) k1 (by rw [k2]; exact (sn_t r1 r2 r3).1)
        exact ⟨j, j1, j2, j3.trans k2⟩)
      have hk1 : rkO X (psh A i t (P t)) (va_up rb (A.1 + 1) mn1) rw1 := by
        refine ⟨a3, fun g j g0 g1 g2 => ?_⟩
        have g0' : g < A.1 + 1 := g0
        rw [a1 _ (by omega)]
        rcases (show g < A.1 ∨ g = A.1 by omega) with e | e
        · rw [va_up_ne _ _ (by omega)] at g1 g2
          exact old89 g j e g1 g2
        · subst e
          rw [va_up_ne _ _ (by omega), i1] at g1
          rw [va_up_self] at g2
          exact q6 j g1 g2
      obtain ⟨M2, rb2, mn2, rw2, e2, b1, b2, b3, b4, b5, b6, b7⟩ := ih (t + 1) f' X (psh A i t (P t)) _ mn1 rw1 (by omega) (by omega) (by rw [a2 _ (by omega), hL.2 _ (by omega)]; exact h26) (fun j hj => by rw [a1 _ (by omega), hL.1 _ (by omega) (by omega) (by omega)]; exact h90 j hj) ⟨by rw [a2 _ (by omega)]; exact q1.1, q1.2.1, fun j hj => by rw [a1 _ (by omega)]; exact q1.2.2.1 j hj, q1.2.2.2⟩ hg1 hk1 (fun k j g1 g2 g3 => by
        rcases (show j < mn ∨ mn ≤ j by omega) with w | w
        · rw [q3 j w]; exact hno k j g1 (by omega) w
        · obtain ⟨k', -, k2', k3', k4'⟩ := q4 j w g3
          rw [k4']
          intro y
          rw [y] at k3'
          omega)
      refine ⟨M2, rb2, mn2, rw2, e2, hL.n.tr (mN.tr (M' := X) ⟨fun k g1 _ _ => a1 k g1, fun f _ g2 => a2 f g2⟩ b1), b2, b3, b4, by omega, fun j hj => by rw [b6 j (by omega), q3 j hj], fun g hg => ?_⟩
      rw [b7 g (show g ≤ A.1 + 1 by omega), va_up_ne _ _ (by omega)]
