/-! spans, span. -/
def fs (x : Int32) : Int32 := x &&& ((x <<< ((1 : Int32) &&& 31)) ^^^ (-1 : Int32))
def lsx (x : Int32) : Int32 := x &&& ((usr x (1 : Int32)) ^^^ (-1 : Int32))
theorem fs_bt (x : Int32) {a : Nat} (ha : a < 32) : bt (fs x) a = (bt x a && !(decide (1 ≤ a) && bt x (a - 1))) := by
  unfold fs
  rw [b_and, b_not _ ha]
  have e : bt (x <<< ((1 : Int32) &&& 31)) a = (decide (1 ≤ a) && bt x (a - 1)) := b_shl 1 (by omega) x ha
  rw [e]
theorem ls_bt (x : Int32) {a : Nat} (ha : a < 32) : bt (lsx x) a = (bt x a && !bt x (a + 1)) := by
  unfold lsx
  rw [b_and, b_not _ ha]
  have e : bt (usr x (1 : Int32)) a = bt x (1 + a) := usr_bt x (b := 1) (by omega) a
  rw [e, Nat.add_comm]
/-- firsts before a place, lasts before it -/
theorem fl_ct (x : Int32) : ∀ a, a ≤ 32 → fb_ct (bt (fs x)) a = fb_ct (bt (lsx x)) a + (if 1 ≤ a ∧ bt x (a - 1) = true ∧ bt x a = true then 1 else 0)
  | 0, _ => by rw [if_neg (by omega)]; rfl
  | a + 1, h => by
    have ih := fl_ct x a (by omega)
    rw [fb_ct_succ, fb_ct_succ, ih, fs_bt x (by omega), ls_bt x (by omega), show a + 1 - 1 = a by omega]
    by_cases h0 : 1 ≤ a
    · rw [decide_eq_true h0]
      cases bt x (a - 1) <;> cases bt x a <;> cases bt x (a + 1) <;> simp [h0] <;> omega
    · rw [decide_eq_false h0]
      cases bt x (a - 1) <;> cases bt x a <;> cases bt x (a + 1) <;> simp [h0] <;> omega
/-- the last of a span has the number of its first -/
theorem span_last (x : Int32) {a l : Nat} (ha : bt (fs x) a = true) (hal : a ≤ l) (hl : l < 32) (hb : ∀ j, a ≤ j → j ≤ l → bt x j = true) (he : bt x (l + 1) = false) : bt (lsx x) l = true ∧ fb_ct (bt (lsx x)) l = fb_ct (bt (fs x)) a := by
  refine ⟨by rw [ls_bt x hl, hb l hal (Nat.le_refl _), he]; rfl, ?_⟩
  have h1 := fl_ct x a (by omega)
  rw [fs_bt x (by omega)] at ha
  have h2 : ¬ (1 ≤ a ∧ bt x (a - 1) = true ∧ bt x a = true) := fun q => by
    rw [decide_eq_true q.1, q.2.1, q.2.2] at ha
    exact absurd ha (by decide)
  rw [if_neg h2, Nat.add_zero] at h1
  rw [h1]
  have : ∀ d, a + d ≤ l → fb_ct (bt (lsx x)) (a + d) = fb_ct (bt (lsx x)) a := by
    intro d
    induction d with
    | zero => intro _; rfl
    | succ d ih =>
      intro hd
      rw [← Nat.add_assoc, fb_ct_succ, ih (by omega), ls_bt x (by omega), hb (a + d) (by omega) (by omega), hb (a + d + 1) (by omega) (by omega)]
      simp
  have := this (l - a) (by omega)
  rwa [show a + (l - a) = l by omega] at this
theorem bn_L (v : Int32) {b k : Nat} (hb : b < 32) (hv : bt v b = true) (hk : fb_ct (bt v) b = k) (kk : Mem → Int32 → Int32 → Option (Int32 × Mem)) (M : Mem) :
    ∀ (n x f : Nat), x + n = b → n < f → f_X0_bitNumber_L4 v (nI k) kk f M (nI (fb_ct (bt v) x)) (nI x) = some (nI b, M) := by
  intro n
  induction n with
  | zero =>
    intro x f hx hf
    obtain ⟨f', rfl⟩ : ∃ f', f = f' + 1 := ⟨f - 1, by omega⟩
    rw [f_X0_bitNumber_L4, if_neg (show ¬ (32 : Int32) ≤ nI x from nI_ge (b := 32) (by omega) (by omega)), e_holds _ (by omega), bnd_some, show x = b by omega, hv, if_neg (by decide), hk, if_pos rfl]
  | succ n ih =>
    intro x f hx hf
    obtain ⟨f', rfl⟩ : ∃ f', f = f' + 1 := ⟨f - 1, by omega⟩
    have hm := fb_ct_mono (bt v) (show x + 1 ≤ b by omega)
    have hl := fb_ct_le (bt v) b
    have q := ih (x + 1) f' (by omega) (by omega)
    rw [fb_ct_succ] at q hm
    rw [f_X0_bitNumber_L4, if_neg (show ¬ (32 : Int32) ≤ nI x from nI_ge (b := 32) (by omega) (by omega)), e_holds _ (by omega), bnd_some, nI_1]
    cases hc : bt v x
    · rw [hc, if_neg (by decide), Nat.add_zero] at q
      rw [if_pos (by decide)]
      exact q
    · rw [hc, if_pos rfl] at q hm
      rw [if_neg (by decide), if_neg (fun w => by have := (nI_eq (by omega) (by omega)).mp w; omega), nI_1]
      exact q
theorem e_bitNumber {fu : Nat} (hfu : 32 < fu) (v : Int32) {b k : Nat} (hb : b < 32) (hv : bt v b = true) (hk : fb_ct (bt v) b = k) (M : Mem) : f_X0_bitNumber fu v (nI k) M = some (nI b, M) :=
  bn_L v hb hv hk (fun M3 _ _ => some ((-1 : Int32), M3)) M b 0 fu (by omega) (by omega)
def spS (T : Nat → Int32) : Nat → Nat := csum (fun d => fs (T d))
theorem spS_s (T : Nat → Int32) (n : Nat) : spS T (n + 1) = spS T n + pc (fs (T n)) := rfl
theorem spS_le (T : Nat → Int32) (n : Nat) : spS T n ≤ 32 * n := csum_le _ n
theorem sp8_L {q ph : Nat} (h1 : ph < 2) {T : Nat → Int32} {M : Mem} (hT : ∀ d, d < 32 → M (q + 1) (32 * ph + d) = T d) (kk : Mem → Int32 → Int32 → Option (Int32 × Mem)) :
    ∀ (n x f : Nat), x + n = 32 → n < f → f_X0_spansIn_L4 q (nI ph) kk f M (nI (spS T x)) (nI x) = kk M (nI (spS T 32)) (nI 32) := by
  intro n
  induction n with
  | zero =>
    intro x f hx hf
    obtain ⟨f', rfl⟩ : ∃ f', f = f' + 1 := ⟨f - 1, by omega⟩
    rw [f_X0_spansIn_L4, if_pos (by rw [c32]; exact nI_le (by omega) (by omega)), show x = 32 by omega]
  | succ n ih =>
    intro x f hx hf
    obtain ⟨f', rfl⟩ : ∃ f', f = f' + 1 := ⟨f - 1, by omega⟩
    have ef : f_X0_firstsOf (T x) M = some (fs (T x), M) := rfl
    rw [f_X0_spansIn_L4, if_neg (by rw [c32]; exact nI_ge (by omega) (by omega)), e_args h1 (by omega), bnd_some, hT x (by omega), ef, bnd_some, e_bitCount, bnd_some]
    unfold nm
    dsimp only
    rw [nI_add, nI_1]
    exact ih (x + 1) f' (by omega) (by omega)
theorem pt8_L {fu q ph : Nat} (h1 : ph < 2) {T : Nat → Int32} {M : Mem} (hT : ∀ d, d < 32 → M (q + 1) (32 * ph + d) = T d) {i : Nat} (hi : i < 2 ^ 31) (w : Int32) (kk : Mem → Int32 → Int32 → Option (Int32 × Mem)) :
    ∀ (n x f : Nat), x + n = 32 → n < f → spS T x ≤ i → (spS T 32 ≤ i → f_X0_spanPart_L6 fu q (nI ph) (nI i) w kk f M (nI (spS T x)) (nI x) = kk M (nI (spS T 32)) (nI 32)) ∧ ∀ d, x ≤ d → d < 32 → spS T d ≤ i → i < spS T (d + 1) → f_X0_spanPart_L6 fu q (nI ph) (nI i) w kk f M (nI (spS T x)) (nI x) = bnd (f_X0_partOf fu (nI d) (T d) (nI (i - spS T d)) w M) (fun r8 M9 => some (r8, M9)) := by
  have mono : ∀ d x, x ≤ d → spS T x ≤ spS T d := by
    intro d
    induction d with
    | zero => intro x hx; rw [show x = 0 by omega]; exact Nat.le_refl _
    | succ d ih =>
      intro x hx
      by_cases e : x = d + 1
      · rw [e]; exact Nat.le_refl _
      · have := ih x (by omega); rw [spS_s]; omega
  intro n
  induction n with
  | zero =>
    intro x f hx hf hs
    obtain ⟨f', rfl⟩ : ∃ f', f = f' + 1 := ⟨f - 1, by omega⟩
    rw [f_X0_spanPart_L6, if_pos (by rw [c32]; exact nI_le (by omega) (by omega)), show x = 32 by omega]
    exact ⟨fun _ => rfl, fun d d1 d2 => by omega⟩
  | succ n ih =>
    intro x f hx hf hs
    obtain ⟨f', rfl⟩ : ∃ f', f = f' + 1 := ⟨f - 1, by omega⟩
    have ef : f_X0_firstsOf (T x) M = some (fs (T x), M) := rfl
    have hb := spS_le T x
    have hp := pc_le (fs (T x))
    rw [f_X0_spanPart_L6, if_neg (by rw [c32]; exact nI_ge (by omega) (by omega)), e_args h1 (by omega), bnd_some, hT x (by omega), ef, bnd_some, e_bitCount, bnd_some, nI_add]
    unfold nm
    dsimp only
    rw [nI_1, ← spS_s]
    by_cases z : spS T (x + 1) ≤ i
    · rw [if_pos (nI_le z (by omega))]
      obtain ⟨i1, i2⟩ := ih (x + 1) f' (by omega) (by omega) z
      refine ⟨i1, fun d d1 d2 d3 d4 => i2 d ?_ d2 d3 d4⟩
      rcases Nat.lt_or_ge x d with q | q
      · exact q
      · have : d = x := by omega
        subst this
        omega
    · rw [if_neg (nI_ge (by omega) (by have := spS_le T (x + 1); omega)), pk_sub hs]
      refine ⟨fun q => ?_, fun d d1 d2 d3 d4 => ?_⟩
      · have := mono 32 (x + 1) (by omega); omega
      · have : d = x := by
          rcases Nat.lt_or_ge x d with q | q
          · have := mono d (x + 1) q; omega
          · omega
        rw [this]
/-! the reference -/
theorem e_hasm (v : Int32) {x : Nat} (hx : x < 32) (M : Mem) : f_X9_has v (nI x - 1) M = some (if (decide (1 ≤ x) && bt v (x - 1)) = true then 1 else 0, M) := by
  by_cases z : x = 0
  · subst z
    unfold f_X9_has
    rw [if_pos (by decide)]
    rfl
  · obtain ⟨y, rfl⟩ : ∃ y, x = y + 1 := ⟨x - 1, by omega⟩
    rw [nI_pred, e_has9 _ (by omega), show y + 1 - 1 = y by omega, decide_eq_true (show 1 ≤ y + 1 by omega), Bool.true_and]
theorem upM_2 (M : Mem) (k j : Nat) (v w : Int32) : upM (upM M k j v) k j w = upM M k j w := by
  funext q i
  rw [upM_ap, upM_ap, upM_ap]
  by_cases z : q = k ∧ i = j
  · rw [if_pos z, if_pos z]
  · rw [if_neg z, if_neg z, if_neg z]
theorem ws_L {x1 x2 x3 x4 x5 x7 : Int32} (v : Int32) (kk : Mem → Option (Int32 × Mem)) : ∀ (n l f : Nat) (M : Mem), l + n = 31 → n < f → M 70 29 = nI l → ∃ l', f_X9_spansTo_L82 x1 x2 x3 x4 x5 v x7 kk f M = kk (upM M 70 29 (nI l')) ∧ l ≤ l' ∧ l' < 32 ∧ (∀ j, l < j → j ≤ l' → bt v j = true) ∧ bt v (l' + 1) = false := by
  intro n
  induction n with
  | zero =>
    intro l f M hl hf hM
    obtain ⟨f', rfl⟩ : ∃ f', f = f' + 1 := ⟨f - 1, by omega⟩
    rw [f_X9_spansTo_L82, hM, if_pos (show (31 : Int32) ≤ nI l from nI_le (a := 31) (by omega) (by omega))]
    exact ⟨l, by rw [upM_id M 70 29 hM], Nat.le_refl _, by omega, fun j a b => by omega, b_big (by omega)⟩
  | succ n ih =>
    intro l f M hl hf hM
    obtain ⟨f', rfl⟩ : ∃ f', f = f' + 1 := ⟨f - 1, by omega⟩
    rw [f_X9_spansTo_L82, hM, if_neg (show ¬ (31 : Int32) ≤ nI l from nI_ge (b := 31) (by omega) (by omega)), nI_1, e_has9 _ (by omega), bnd_some]
    cases hb : bt v (l + 1)
    · rw [if_pos (by decide)]
      exact ⟨l, by rw [upM_id M 70 29 hM], Nat.le_refl _, by omega, fun j a b => by omega, hb⟩
    · rw [if_neg (by decide)]
      unfold wr
      dsimp only
      rw [hM, nI_1]
      obtain ⟨l', e, a1, a2, a3, a4⟩ := ih (l + 1) f' (upM M 70 29 (nI (l + 1))) (by omega) (by omega) (by rw [upM_r, if_pos rfl])
      rw [e, upM_2]
      refine ⟨l', rfl, by omega, a2, fun j j1 j2 => ?_, a4⟩
      by_cases q : j = l + 1
      · rw [q]; exact hb
      · exact a3 j (by omega) j2
/-- fields 27 to 29 alone -/
def mU (M M' : Mem) : Prop := (∀ k, k ≠ 70 → M' k = M k) ∧ ∀ f, f ≠ 27 → f ≠ 28 → f ≠ 29 → M' 70 f = M 70 f
theorem mU.rf (M : Mem) : mU M M := ⟨fun _ _ => rfl, fun _ _ _ _ => rfl⟩
theorem mU.tr {M M' M'' : Mem} (h : mU M M') (h' : mU M' M'') : mU M M'' := ⟨fun k a => (h'.1 k a).trans (h.1 k a), fun f a b c => (h'.2 f a b c).trans (h.2 f a b c)⟩
theorem mU.inv {cc : Nat → Cd} {M M' : Mem} (h : Inv cc M) (hu : mU M M') : Inv cc M' :=
  h.fr (fun k hk => hu.1 k (fun q => hk (by unfold Scr; omega))) (by rw [hu.1 60 (by omega)]) (fun f hf => hu.2 f (by omega) (by omega) (by omega))
def Hit (v : Int32) (d a : Nat) (M : Mem) : Prop := M 70 27 = nI d ∧ M 70 28 = nI a ∧ ∃ l, M 70 29 = nI l ∧ a ≤ l ∧ l < 32 ∧ (∀ j, a ≤ j → j ≤ l → bt v j = true) ∧ bt v (l + 1) = false
theorem sp9_in {fu : Nat} (hfu : 51200 < fu) {x1 x2 X : Int32} {d s : Nat} (v : Int32) (hs : s ≤ 1024) (hX : X = -1 ∨ ∃ i, i < 2 ^ 31 ∧ X = nI i) (kk : Mem → Int32 → Int32 → Option (Int32 × Mem)) :
    ∀ (n x f : Nat) (M : Mem), x + n = 32 → n < f → ∃ M', f_X9_spansTo_L26 fu x1 x2 X (nI d) v kk f M (nI (s + fb_ct (bt (fs v)) x)) (nI x) = kk M' (nI (s + pc (fs v))) (nI 32) ∧ mU M M' ∧
      ((∀ a, x ≤ a → a < 32 → bt (fs v) a = true → ¬ nI (s + fb_ct (bt (fs v)) a) = X) → M' = M) ∧ ∀ a, x ≤ a → a < 32 → bt (fs v) a = true → nI (s + fb_ct (bt (fs v)) a) = X → Hit v d a M' := by
  intro n
  induction n with
  | zero =>
    intro x f M hx hf
    obtain ⟨f', rfl⟩ : ∃ f', f = f' + 1 := ⟨f - 1, by omega⟩
    rw [f_X9_spansTo_L26, if_pos (by rw [c32]; exact nI_le (by omega) (by omega)), show x = 32 by omega]
    exact ⟨M, rfl, mU.rf M, fun _ => rfl, fun a a1 a2 => by omega⟩
  | succ n ih =>
    intro x f M hx hf
    obtain ⟨f', rfl⟩ : ∃ f', f = f' + 1 := ⟨f - 1, by omega⟩
    have hl : ∀ a, a ≤ 32 → fb_ct (bt (fs v)) a ≤ 32 := fun a ha => Nat.le_trans (fb_ct_le _ a) ha
    have hfx := fs_bt v (a := x) (by omega)
    have skip : bt (fs v) x = false → ∃ M', f_X9_spansTo_L26 fu x1 x2 X (nI d) v kk f' M (nI (s + fb_ct (bt (fs v)) x)) (nI (x + 1)) = kk M' (nI (s + pc (fs v))) (nI 32) ∧ mU M M' ∧
      ((∀ a, x ≤ a → a < 32 → bt (fs v) a = true → ¬ nI (s + fb_ct (bt (fs v)) a) = X) → M' = M) ∧ ∀ a, x ≤ a → a < 32 → bt (fs v) a = true → nI (s + fb_ct (bt (fs v)) a) = X → Hit v d a M' := fun hz => by
      obtain ⟨M', e, u, g1, g2⟩ := ih (x + 1) f' M (by omega) (by omega)
      rw [fb_ct_succ, hz, if_neg (by decide), Nat.add_zero] at e
      refine ⟨M', e, u, fun q => g1 (fun a a1 a2 a3 => q a (by omega) a2 a3), fun a a1 a2 a3 a4 => g2 a ?_ a2 a3 a4⟩
      rcases Nat.lt_or_ge x a with q | q
      · exact q
      · rw [show a = x by omega, hz] at a3; exact absurd a3 (by decide)
    rw [f_X9_spansTo_L26, if_neg (by rw [c32]; exact nI_ge (by omega) (by omega)), e_has9 _ (by omega), bnd_some, nI_1]
    cases hb : bt v x
    · rw [if_pos (by decide)]
      exact skip (by rw [hfx, hb]; rfl)
    · rw [if_neg (by decide), e_hasm _ (by omega), bnd_some]
      cases hp : (decide (1 ≤ x) && bt v (x - 1))
      · have hz : bt (fs v) x = true := by rw [hfx, hb, hp]; rfl
        rw [if_pos (by decide), nI_1]
        by_cases hit : nI (s + fb_ct (bt (fs v)) x) = X
        · rw [if_pos hit]
          unfold wr
          dsimp only
          generalize hK : (fun M13 => f_X9_spansTo_L26 fu x1 x2 X (nI d) v kk f' M13 (nI (s + fb_ct (bt (fs v)) x + 1)) (nI (x + 1))) = K
          obtain ⟨l', el, l1, l2, l3, l4⟩ := ws_L (x1 := x1) (x2 := x2) (x3 := X) (x4 := nI (s + fb_ct (bt (fs v)) x)) (x5 := nI d) (x7 := nI x) v K (31 - x) x fu (upM (upM (upM M 70 27 (nI d)) 70 28 (nI x)) 70 29 (nI x)) (by omega) (by omega) (by rw [upM_r, if_pos rfl])
          rw [el, ← hK, upM_2]
          obtain ⟨M', e, u, g1, g2⟩ := ih (x + 1) f' (upM (upM (upM M 70 27 (nI d)) 70 28 (nI x)) 70 29 (nI l')) (by omega) (by omega)
          rw [fb_ct_succ, hz, if_pos rfl, ← Nat.add_assoc] at e
          have none' : ∀ a, x + 1 ≤ a → a < 32 → bt (fs v) a = true → ¬ nI (s + fb_ct (bt (fs v)) a) = X := fun a a1 a2 a3 q => by
            have m := fb_ct_mono (bt (fs v)) a1
            rw [fb_ct_succ, hz, if_pos rfl] at m
            rw [← hit] at q
            have := hl a (by omega)
            have := hl x (by omega)
            have := (nI_eq (by omega) (by omega)).mp q
            omega
          have eM := g1 none'
          refine ⟨M', e, mU.tr ?_ u, fun q => absurd hit (q x (Nat.le_refl _) (by omega) hz), fun a a1 a2 a3 a4 => ?_⟩
          · exact ⟨fun k hk => by rw [upM_k hk, upM_k hk, upM_k hk], fun f q1 q2 q3 => by rw [upM_r, if_neg q3, upM_r, if_neg q2, upM_r, if_neg q1]⟩
          · have : a = x := by
              rcases Nat.lt_or_ge x a with q | q
              · exact absurd a4 (none' a q a2 a3)
              · omega
            subst this
            rw [eM]
            refine ⟨by rw [upM_r, if_neg (by omega), upM_r, if_neg (by omega), upM_r, if_pos rfl], by rw [upM_r, if_neg (by omega), upM_r, if_pos rfl], l', by rw [upM_r, if_pos rfl], l1, l2, fun j j1 j2 => ?_, l4⟩
            by_cases q : j = a
            · rw [q]; exact hb
            · exact l3 j (by omega) j2
        · rw [if_neg hit]
          obtain ⟨M', e, u, g1, g2⟩ := ih (x + 1) f' M (by omega) (by omega)
          rw [fb_ct_succ, hz, if_pos rfl, ← Nat.add_assoc] at e
          refine ⟨M', e, u, fun q => g1 (fun a a1 a2 a3 => q a (by omega) a2 a3), fun a a1 a2 a3 a4 => g2 a ?_ a2 a3 a4⟩
          rcases Nat.lt_or_ge x a with q | q
          · exact q
          · rw [show a = x by omega] at a4; exact absurd a4 hit
      · rw [if_neg (by decide)]
        exact skip (by rw [hfx, hb, hp]; rfl)
