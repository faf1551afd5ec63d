/-! What is left of a list when effects are cut, and how many calls that takes out. -/
def toF (D : Nat → Nat) (K : Nat → Int32) (L : Nat → Int32) (c : Int32) : Nat → (Nat → Int32) × Nat
  | 0 => (L, 0)
  | e + 1 => if bt c e then (va_up (toF D K L c e).1 (D e) ((toF D K L c e).1 (D e) &&& (((toF D K L c e).1 (D e) &&& K e) ^^^ (-1))), (toF D K L c e).2 + pc ((toF D K L c e).1 (D e) &&& K e)) else toF D K L c e
theorem toF_y {D : Nat → Nat} {K L : Nat → Int32} {c : Int32} {e : Nat} (h : bt c e = true) : toF D K L c (e + 1) = (va_up (toF D K L c e).1 (D e) ((toF D K L c e).1 (D e) &&& (((toF D K L c e).1 (D e) &&& K e) ^^^ (-1))), (toF D K L c e).2 + pc ((toF D K L c e).1 (D e) &&& K e)) := by
  show (if bt c e then _ else _) = _
  rw [h]; rfl
theorem toF_n {D : Nat → Nat} {K L : Nat → Int32} {c : Int32} {e : Nat} (h : bt c e = false) : toF D K L c (e + 1) = toF D K L c e := by
  show (if bt c e then _ else _) = _
  rw [h]; rfl
theorem toF_bt (D : Nat → Nat) (K L : Nat → Int32) (c : Int32) : ∀ n d b, b < 32 → (bt ((toF D K L c n).1 d) b = true ↔ bt (L d) b = true ∧ ∀ e, e < n → bt c e = true → D e = d → bt (K e) b = false) := by
  intro n
  induction n with
  | zero => intro d b hb; exact ⟨fun h => ⟨h, fun e he => absurd he (Nat.not_lt_zero e)⟩, fun h => h.1⟩
  | succ n ih =>
    intro d b hb
    cases hc : bt c n
    · rw [toF_n hc, ih d b hb]
      constructor
      · rintro ⟨h1, h2⟩
        refine ⟨h1, fun e he h3 h4 => ?_⟩
        by_cases q : e = n
        · rw [q, hc] at h3; exact absurd h3 (by decide)
        · exact h2 e (by omega) h3 h4
      · rintro ⟨h1, h2⟩
        exact ⟨h1, fun e he => h2 e (by omega)⟩
    · rw [toF_y hc]
      dsimp only
      by_cases z : d = D n
      · rw [z, va_up_self, b_and, b_not _ hb, b_and]
        have i := ih (D n) b hb
        constructor
        · intro h
          cases hx : bt ((toF D K L c n).1 (D n)) b
          · rw [hx] at h; exact absurd h (by simp)
          · obtain ⟨h1, h2⟩ := i.mp hx
            refine ⟨h1, fun e he h3 h4 => ?_⟩
            by_cases q : e = n
            · rw [q]
              cases hk : bt (K n) b
              · rfl
              · rw [hx, hk] at h; exact absurd h (by decide)
            · exact h2 e (by omega) h3 h4
        · rintro ⟨h1, h2⟩
          have hx := i.mpr ⟨h1, fun e he => h2 e (by omega)⟩
          have hk := h2 n (by omega) hc rfl
          rw [hx, hk]; rfl
      · rw [va_up_ne _ _ z, ih d b hb]
        constructor
        · rintro ⟨h1, h2⟩
          refine ⟨h1, fun e he h3 h4 => ?_⟩
          by_cases q : e = n
          · rw [q] at h4; exact absurd h4.symm z
          · exact h2 e (by omega) h3 h4
        · rintro ⟨h1, h2⟩
          exact ⟨h1, fun e he => h2 e (by omega)⟩
/-- an effect without a call in the list takes nothing out -/
theorem idle {D : Nat → Nat} {K L : Nat → Int32} {c : Int32} {n : Nat} (h : L (D n) &&& K n = 0) : (toF D K L c n).1 (D n) &&& K n = 0 := by
  rw [zero_bt] at h ⊢
  intro b hb
  have q := h b hb
  rw [b_and] at q ⊢
  cases hx : bt ((toF D K L c n).1 (D n)) b
  · rfl
  · rw [((toF_bt D K L c n (D n) b hb).mp hx).1] at q
    exact q
theorem pc_0 : pc 0 = 0 := by
  unfold pc
  rw [fb_ct_zero]
  intro k _
  exact b_0 k
theorem pc_z {x : Int32} (h : pc x = 0) : x = 0 := by
  unfold pc at h
  rw [fb_ct_zero] at h
  exact zero_bt.mpr h
theorem and_m1 (x : Int32) : x &&& (0 ^^^ (-1)) = x := by
  apply b_ext
  intro b hb
  rw [b_and, b_not _ hb, b_0, Bool.not_false, Bool.and_true]
theorem up_id {α : Type} (f : Nat → α) (k : Nat) : va_up f k (f k) = f := by
  funext j
  by_cases z : j = k
  · rw [z, va_up_self]
  · rw [va_up_ne _ _ z]
theorem toF_idle {D : Nat → Nat} {K L : Nat → Int32} {c : Int32} {n : Nat} (h : L (D n) &&& K n = 0) : toF D K L c (n + 1) = toF D K L c n := by
  cases hc : bt c n
  · exact toF_n hc
  · rw [toF_y hc, idle h, and_m1, up_id, pc_0]
    rfl
/-- cuts that differ only in such effects -/
theorem toF_same {D : Nat → Nat} {K L : Nat → Int32} {c c' : Int32} : ∀ n, (∀ e, e < n → bt c e = bt c' e ∨ L (D e) &&& K e = 0) → toF D K L c n = toF D K L c' n := by
  intro n
  induction n with
  | zero => intro _; rfl
  | succ n ih =>
    intro h
    have i := ih (fun e he => h e (by omega))
    rcases h n (by omega) with q | q
    · cases hc : bt c n
      · rw [toF_n hc, toF_n (by rw [← q]; exact hc), i]
      · rw [toF_y hc, toF_y (by rw [← q]; exact hc), i]
    · rw [toF_idle q, toF_idle q, i]
/-- nothing taken out: no effect with a call was cut -/
theorem toF_zero {D : Nat → Nat} {K L : Nat → Int32} {c : Int32} : ∀ n, (toF D K L c n).2 = 0 → (toF D K L c n).1 = L ∧ ∀ e, e < n → bt c e = true → L (D e) &&& K e = 0 := by
  intro n
  induction n with
  | zero => intro _; exact ⟨rfl, fun e he => absurd he (Nat.not_lt_zero e)⟩
  | succ n ih =>
    intro h
    cases hc : bt c n
    · rw [toF_n hc] at h ⊢
      obtain ⟨i1, i2⟩ := ih h
      refine ⟨i1, fun e he h3 => ?_⟩
      by_cases q : e = n
      · rw [q, hc] at h3; exact absurd h3 (by decide)
      · exact i2 e (by omega) h3
    · rw [toF_y hc] at h
      dsimp only at h
      obtain ⟨i1, i2⟩ := ih (by omega)
      have z : L (D n) &&& K n = 0 := by
        rw [i1] at h
        exact pc_z (by omega)
      refine ⟨by rw [toF_idle z]; exact i1, fun e he h3 => ?_⟩
      by_cases q : e = n
      · rw [q]; exact z
      · exact i2 e (by omega) h3
theorem toF_cg {D : Nat → Nat} {K L L' : Nat → Int32} {c : Int32} : ∀ n, (∀ e, e < n → D e < 32) → (∀ d, d < 32 → L d = L' d) → (toF D K L c n).2 = (toF D K L' c n).2 ∧ ∀ d, d < 32 → (toF D K L c n).1 d = (toF D K L' c n).1 d := by
  intro n
  induction n with
  | zero => intro _ h; exact ⟨rfl, h⟩
  | succ n ih =>
    intro hD h
    obtain ⟨i1, i2⟩ := ih (fun e he => hD e (by omega)) h
    have hd := i2 (D n) (hD n (by omega))
    cases hc : bt c n
    · rw [toF_n hc, toF_n hc]; exact ⟨i1, i2⟩
    · rw [toF_y hc, toF_y hc]
      dsimp only
      refine ⟨by rw [i1, hd], fun d hdx => ?_⟩
      by_cases z : d = D n
      · rw [z, va_up_self, va_up_self, hd]
      · rw [va_up_ne _ _ z, va_up_ne _ _ z]; exact i2 d hdx
theorem toF_le {D : Nat → Nat} {K L : Nat → Int32} {c : Int32} : ∀ n, (toF D K L c n).2 ≤ 32 * n := by
  intro n
  induction n with
  | zero => exact Nat.le_refl _
  | succ n ih =>
    cases hc : bt c n
    · rw [toF_n hc]; omega
    · rw [toF_y hc]
      have := pc_le ((toF D K L c n).1 (D n) &&& K n)
      dsimp only
      omega
/-! takeOut of the class -/
theorem to8_L {M0 : Mem} {n : Nat} {D : Nat → Nat} {K t g : Nat → Int32} (h0 : EF M0 n D K t g) (L : Nat → Int32) (c : Int32) (kk : Mem → Int32 → Int32 → Option (Int32 × Mem)) :
    ∀ (d x f : Nat) (M : Mem), x + d = n → d < f → (∀ k, k ≠ 67 → M k = M0 k) → M 67 = (toF D K L c x).1 → ∃ M', f_X2_takeOut_L17 c kk f M (nI (toF D K L c x).2) (nI x) = kk M' (nI (toF D K L c n).2) (nI n) ∧ (∀ k, k ≠ 67 → M' k = M0 k) ∧ M' 67 = (toF D K L c n).1 := by
  intro d
  induction d with
  | zero =>
    intro x f M hx hf hk h7
    obtain ⟨f', rfl⟩ : ∃ f', f = f' + 1 := ⟨f - 1, by omega⟩
    rw [f_X2_takeOut_L17, hk 62 (by omega), h0.2.1, if_pos (nI_le (by omega) (by have := h0.1; omega)), show x = n by omega]
    rw [show x = n by omega] at h7
    exact ⟨M, rfl, hk, h7⟩
  | succ d ih =>
    intro x f M hx hf hk h7
    obtain ⟨f', rfl⟩ : ∃ f', f = f' + 1 := ⟨f - 1, by omega⟩
    have hn := h0.1
    obtain ⟨d1, d2, -⟩ := h0.2.2.2 x (by omega)
    have hE : EF M n D K t g := h0.fr (by rw [hk 62 (by omega)]) (by rw [hk 70 (by omega)]) (fun k w => hk k (by omega))
    rw [f_X2_takeOut_L17, hk 62 (by omega), h0.2.1, if_neg (nI_ge (by omega) (by omega)), e_holds _ (by omega), bnd_some, nI_1]
    cases hc : bt c x
    · rw [if_pos (by decide)]
      have q := toF_n (D := D) (K := K) (L := L) hc
      obtain ⟨M', e, k', r'⟩ := ih (x + 1) f' M (by omega) (by omega) hk (by rw [q]; exact h7)
      rw [q] at e
      exact ⟨M', e, k', r'⟩
    · rw [if_neg (by decide), e_callsOf8 hE (by omega), bnd_some, e_bitCount, bnd_some]
      unfold nm wr
      dsimp only
      rw [nI_add, ixT (show x < 10 by omega) (by omega), if_pos rfl, nI_clamp (n := x) (by omega), hk 63 (by omega), d2, ixT d1 (by omega), if_pos rfl, if_pos rfl, nI_clamp (n := D x) (by omega), h7]
      have q := toF_y (D := D) (K := K) (L := L) hc
      obtain ⟨M', e, k', r'⟩ := ih (x + 1) f' (upM M 67 (D x) ((toF D K L c x).1 (D x) &&& (((toF D K L c x).1 (D x) &&& K x) ^^^ (-1)))) (by omega) (by omega) (fun k w => by rw [upM_k w]; exact hk k w) (by
        rw [q]
        funext j
        rw [upM_r, h7]
        rfl)
      rw [q] at e
      exact ⟨M', e, k', r'⟩
theorem e_takeOut {fu : Nat} (hfu : 51200 < fu) {M : Mem} {n : Nat} {D : Nat → Nat} {K t g : Nat → Int32} (h : EF M n D K t g) (q : Nat) (c : Int32) :
    ∃ M', f_X2_takeOut fu q c M = some (nI (toF D K (M q) c n).2, M') ∧ (∀ k, k ≠ 67 → M' k = M k) ∧ ∀ d, d < 32 → M' 67 d = (toF D K (M q) c n).1 d := by
  have hD : ∀ e, e < n → D e < 32 := fun e he => (h.2.2.2 e he).1
  obtain ⟨M', e, k, r⟩ := to8_L h (va_cpy (M q) (M 67) 0 0 32) c (fun M11 y12 _ => some (y12, M11)) n 0 fu (setM M 67 (va_cpy (M q) (M 67) 0 0 32)) (by omega) (by have := h.1; omega) (fun k w => setM_k w) setM_s
  have cg := toF_cg (K := K) (c := c) (L := va_cpy (M q) (M 67) 0 0 32) (L' := M q) n hD (fun d hd => by rw [pk_cpy_in (by omega) (by omega)]; congr 1; omega)
  rw [cg.1] at e
  exact ⟨M', e, k, fun d hd => by rw [r]; exact cg.2 d hd⟩
/-! takesOut of the reference -/
def okE (D : Nat → Nat) (K L Y : Nat → Int32) (e : Nat) : Prop := (L (D e) &&& K e) &&& Y (D e) = 0
theorem toF_keep {D : Nat → Nat} {K L Y : Nat → Int32} {c : Int32} {n : Nat} (h : ∀ e, e < n → bt c e = true → okE D K L Y e) : ((toF D K L c n).1 (D n) &&& K n) &&& Y (D n) = 0 ↔ okE D K L Y n := by
  unfold okE
  rw [zero_bt, zero_bt]
  constructor
  · intro q b hb
    have q1 := q b hb
    rw [b_and, b_and] at q1 ⊢
    cases hx : bt ((toF D K L c n).1 (D n)) b
    · cases hl : bt (L (D n)) b
      · rfl
      · cases hk : bt (K n) b
        · rfl
        · cases hy : bt (Y (D n)) b
          · rfl
          · exfalso
            have : ¬ (bt (L (D n)) b = true ∧ ∀ e, e < n → bt c e = true → D e = D n → bt (K e) b = false) := fun w => by
              rw [(toF_bt D K L c n (D n) b hb).mpr w] at hx; exact absurd hx (by decide)
            apply this
            refine ⟨hl, fun e he hce hde => ?_⟩
            have o := h e he hce
            unfold okE at o
            rw [zero_bt] at o
            have o1 := o b hb
            rw [b_and, b_and, hde, hl, hy] at o1
            cases hke : bt (K e) b
            · rfl
            · rw [hke] at o1; exact absurd o1 (by decide)
    · have hl := ((toF_bt D K L c n (D n) b hb).mp hx).1
      rw [hx] at q1
      rw [hl]
      exact q1
  · intro q b hb
    have q1 := q b hb
    rw [b_and, b_and] at q1 ⊢
    cases hx : bt ((toF D K L c n).1 (D n)) b
    · rfl
    · have hl := ((toF_bt D K L c n (D n) b hb).mp hx).1
      rw [hl] at q1
      exact q1
theorem ct_L {x1 x2 x4 : Int32} (v : Int32) (M : Mem) (kk : Mem → Int32 → Int32 → Option (Int32 × Mem)) : ∀ (n x f s : Nat), x + n = 32 → n < f → f_X9_takesOut_L76 x1 x2 x4 v kk f M (nI (s + fb_ct (bt v) x)) (nI x) = kk M (nI (s + pc v)) (nI 32) := by
  intro n
  induction n with
  | zero =>
    intro x f s hx hf
    obtain ⟨f', rfl⟩ : ∃ f', f = f' + 1 := ⟨f - 1, by omega⟩
    rw [f_X9_takesOut_L76, if_pos (by rw [c32]; exact nI_le (by omega) (by omega)), show x = 32 by omega]
    rfl
  | succ n ih =>
    intro x f s hx hf
    obtain ⟨f', rfl⟩ : ∃ f', f = f' + 1 := ⟨f - 1, by omega⟩
    have q := ih (x + 1) f' s (by omega) (by omega)
    rw [fb_ct_succ] at q
    rw [f_X9_takesOut_L76, if_neg (by rw [c32]; exact nI_ge (by omega) (by omega)), e_has9 _ (by omega), bnd_some]
    unfold nm
    dsimp only
    cases hb : bt v x
    · rw [hb, if_neg (by decide), Nat.add_zero] at q
      rw [if_pos (by decide), nI_p0, nI_1]
      exact q
    · rw [hb, if_pos rfl, ← Nat.add_assoc] at q
      rw [if_neg (by decide), nI_1, nI_1]
      exact q
theorem to9_L {fu : Nat} (hfu : 51200 < fu) {cc : Nat → Cd} {n : Nat} {D : Nat → Nat} {K t g : Nat → Int32} (L : Nat → Int32) (s c : Int32) (Y : Nat → Int32) (kk : Mem → Int32 → Int32 → Option (Int32 × Mem)) :
    ∀ (d x f : Nat) (M : Mem), x + d = n → d < f → Inv cc M → EF M n D K t g → (∀ j, j < 32 → sl M s j 4 = Y j) → (∀ j, j < 32 → M 92 j = (toF D K L c x).1 j) → (∀ e, e < x → bt c e = true → okE D K L Y e) →
    ∃ M', Inv cc M' ∧ mV M M' ∧ ((∀ e, e < n → bt c e = true → okE D K L Y e) → f_X9_takesOut_L11 fu s c kk f M (nI (toF D K L c x).2) (nI x) = kk M' (nI (toF D K L c n).2) (nI n) ∧ ∀ j, j < 32 → M' 92 j = (toF D K L c n).1 j) ∧ ((¬ ∀ e, e < n → bt c e = true → okE D K L Y e) → f_X9_takesOut_L11 fu s c kk f M (nI (toF D K L c x).2) (nI x) = some (-1, M')) := by
  intro d
  induction d with
  | zero =>
    intro x f M hx hf hI hE hY h92 hok
    obtain ⟨f', rfl⟩ : ∃ f', f = f' + 1 := ⟨f - 1, by omega⟩
    have e : x = n := by omega
    subst e
    refine ⟨M, hI, mV.rf M, fun _ => ⟨?_, h92⟩, fun w => absurd hok w⟩
    rw [f_X9_takesOut_L11, hE.2.2.1, if_pos (nI_le (by omega) (by have := hE.1; omega))]
  | succ d ih =>
    intro x f M hx hf hI hE hY h92 hok
    obtain ⟨f', rfl⟩ : ∃ f', f = f' + 1 := ⟨f - 1, by omega⟩
    have hn := hE.1
    obtain ⟨d1, -, d2, -⟩ := hE.2.2.2 x (by omega)
    have step : f_X9_takesOut_L11 fu s c kk (f' + 1) M (nI (toF D K L c x).2) (nI x) = bnd (f_X9_has c (nI x) M) (fun r3 M4 => if r3 = 0 then f_X9_takesOut_L11 fu s c kk f' M4 (nI (toF D K L c x).2) (nI x + 1) else if ix (nI x) 10 then nm (M4 (81) (nI x).toNatClampNeg) (fun v5 => if ix v5 32 then bnd (f_X9_spanOf fu (nI x) M4) (fun r6 M7 => nm ((M4 (92) v5.toNatClampNeg) &&& r6) (fun v8 => if ix (nI x) 10 then bnd (f_X9_seenOf fu s (M7 (81) (nI x).toNatClampNeg) M7) (fun r9 M10 => if (v8 &&& r9) = 0 then f_X9_takesOut_L76 s c (nI x) v8 (fun M15 y16 y17 => if ix (nI x) 10 then nm (M15 (81) (nI x).toNatClampNeg) (fun v18 => if ix v18 32 then if ix v18 32 then wr M15 (92) v18.toNatClampNeg ((M15 (92) v18.toNatClampNeg) &&& (v8 ^^^ (-1 : Int32))) (fun M19 => f_X9_takesOut_L11 fu s c kk f' M19 y16 (nI x + 1)) else none else none) else none) fu M10 (nI (toF D K L c x).2) 0 else some ((-1), M10)) else none)) else none) else none) := by
      rw [f_X9_takesOut_L11, hE.2.2.1, if_neg (nI_ge (by omega) (by omega))]
    rw [step, e_has9 _ (by omega), bnd_some, nI_1]
    cases hc : bt c x
    · rw [if_pos (by decide)]
      have q := toF_n (D := D) (K := K) (L := L) hc
      obtain ⟨M', i', v', g1, g2⟩ := ih (x + 1) f' M (by omega) (by omega) hI hE hY (by rw [q]; exact h92) (fun e he h3 => by
        by_cases w : e = x
        · rw [w, hc] at h3; exact absurd h3 (by decide)
        · exact hok e (by omega) h3)
      rw [q] at g1 g2
      exact ⟨M', i', v', g1, g2⟩
    · rw [if_neg (by decide), ixT (show x < 10 by omega) (by omega), if_pos rfl]
      unfold nm
      dsimp only
      rw [nI_clamp (n := x) (by omega), d2, ixT d1 (by omega), if_pos rfl, nI_clamp (n := D x) (by omega), e_spanOf hfu hE (by omega), bnd_some, if_pos rfl, d2, e_seenOf hfu s d1, bnd_some, hY _ d1, h92 _ d1]
      by_cases z : ((toF D K L c x).1 (D x) &&& K x) &&& Y (D x) = 0
      · rw [if_pos z]
        have okx := (toF_keep hok).mp z
        have q := toF_y (D := D) (K := K) (L := L) hc
        generalize hK : (fun M15 y16 (y17 : Int32) => if true = true then if ix (M15 81 x) 32 = true then if ix (M15 81 x) 32 = true then wr M15 92 (M15 81 x).toNatClampNeg (M15 92 (M15 81 x).toNatClampNeg &&& ((toF D K L c x).1 (D x) &&& K x ^^^ -1)) (fun M19 => f_X9_takesOut_L11 fu s c kk f' M19 y16 (nI (x + 1))) else none else none else none) = KK
        have e1 := ct_L (x1 := s) (x2 := c) (x4 := nI x) ((toF D K L c x).1 (D x) &&& K x) M KK 32 0 fu (toF D K L c x).2 (by omega) (by omega)
        have e1' : f_X9_takesOut_L76 s c (nI x) ((toF D K L c x).1 (D x) &&& K x) KK fu M (nI (toF D K L c x).2) 0 = KK M (nI ((toF D K L c x).2 + pc ((toF D K L c x).1 (D x) &&& K x))) (nI 32) := e1
        rw [e1', ← hK]
        dsimp only
        unfold wr
        rw [if_pos rfl, d2, ixT d1 (by omega), if_pos rfl, if_pos rfl, nI_clamp (n := D x) (by omega), h92 _ d1]
        have hv := mV.up (M := M) (D x) ((toF D K L c x).1 (D x) &&& ((toF D K L c x).1 (D x) &&& K x ^^^ -1))
        obtain ⟨M', i', v', g1, g2⟩ := ih (x + 1) f' (upM M 92 (D x) ((toF D K L c x).1 (D x) &&& ((toF D K L c x).1 (D x) &&& K x ^^^ -1))) (by omega) (by omega) (hI.u92 _ _) (hv.ef hE) (fun j hj => by rw [sl_cg hv.s78]; exact hY j hj) (fun j hj => by
          rw [q, upM_r]
          dsimp only
          by_cases w : j = D x
          · rw [if_pos w, w, va_up_self]
          · rw [if_neg w, va_up_ne _ _ w]; exact h92 j hj) (fun e he h3 => by
          by_cases w : e = x
          · rw [w]; exact okx
          · exact hok e (by omega) h3)
        rw [q] at g1 g2
        exact ⟨M', i', hv.tr v', g1, g2⟩
      · rw [if_neg z]
        exact ⟨M, hI, mV.rf M, fun w => absurd ((toF_keep hok).mpr (w x (by omega) hc)) z, fun _ => rfl⟩
theorem e_takesOut {fu : Nat} (hfu : 51200 < fu) {cc : Nat → Cd} {M : Mem} (hI : Inv cc M) {n : Nat} {D : Nat → Nat} {K t g : Nat → Int32} (hE : EF M n D K t g) (s c : Int32) :
    ∃ M', Inv cc M' ∧ mV M M' ∧ ((∀ e, e < n → bt c e = true → okE D K (fun d => ml cc s 1 d 4) (fun d => sl M s d 4) e) → f_X9_takesOut fu s c M = some (nI (toF D K (fun d => ml cc s 1 d 4) c n).2, M') ∧ ∀ j, j < 32 → M' 92 j = (toF D K (fun d => ml cc s 1 d 4) c n).1 j) ∧ ((¬ ∀ e, e < n → bt c e = true → okE D K (fun d => ml cc s 1 d 4) (fun d => sl M s d 4) e) → f_X9_takesOut fu s c M = some (-1, M')) := by
  obtain ⟨M1, e1, i1, v1, r1⟩ := e_lists0 hfu s hI
  obtain ⟨M2, i2, v2, g1, g2⟩ := to9_L hfu (cc := cc) (fun d => ml cc s 1 d 4) s c (fun d => sl M s d 4) (fun M20 y21 _ => some (y21, M20)) n 0 fu M1 (by omega) (by have := hE.1; omega) i1 (v1.ef hE) (fun j _ => sl_cg v1.s78 s j 4) r1 (fun e he => absurd he (Nat.not_lt_zero e))
  have hq : f_X9_takesOut fu s c M = f_X9_takesOut_L11 fu s c (fun M20 y21 _ => some (y21, M20)) fu M1 (nI (toF D K (fun d => ml cc s 1 d 4) c 0).2) (nI 0) := by
    unfold f_X9_takesOut
    rw [e1, bnd_some]
    rfl
  rw [hq]
  exact ⟨M2, i2, v1.tr v2, g1, g2⟩
