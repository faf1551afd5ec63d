/-! What a stranger comes to: rounds over the effects. -/
def sbs (x P : Int32) : Prop := x &&& (P ^^^ (-1)) = 0
theorem sbs_bt {x P : Int32} : sbs x P ↔ ∀ b, b < 32 → bt x b = true → bt P b = true := by
  unfold sbs
  rw [zero_bt]
  constructor
  · intro h b hb hx
    have q := h b hb
    rw [b_and, b_not _ hb, hx] at q
    cases hP : bt P b
    · rw [hP] at q; exact absurd q (by decide)
    · rfl
  · intro h b hb
    rw [b_and, b_not _ hb]
    cases hx : bt x b
    · rfl
    · rw [h b hb hx]; rfl
/-- one round over the effects -/
def psF (a : Nat → Bool) (t g : Nat → Int32) : Nat → Int32 → Int32
  | 0, P => P
  | e + 1, P => if a e = true ∧ (t e &&& (psF a t g e P ^^^ (-1))) = 0 then psF a t g e P ||| g e else psF a t g e P
def pit (F : Int32 → Int32) : Nat → Int32
  | 0 => 0
  | k + 1 => F (pit F k)
def pwF (a : Nat → Bool) (t g : Nat → Int32) (n : Nat) : Int32 := pit (psF a t g n) n
theorem psF_up (a : Nat → Bool) (t g : Nat → Int32) (P : Int32) : ∀ n m, n ≤ m → ∀ b, b < 32 → bt (psF a t g n P) b = true → bt (psF a t g m P) b = true := by
  intro n m
  induction m with
  | zero => intro h b hb hx; rw [show n = 0 by omega] at hx; exact hx
  | succ m ih =>
    intro h b hb hx
    by_cases e : n = m + 1
    · rw [e] at hx; exact hx
    · have q := ih (by omega) b hb hx
      show bt (if a m = true ∧ (t m &&& (psF a t g m P ^^^ (-1))) = 0 then psF a t g m P ||| g m else psF a t g m P) b = true
      split
      · rw [b_or, q]; rfl
      · exact q
/-- a round that changes something does an effect that was not done -/
theorem psF_new (a : Nat → Bool) (t g : Nat → Int32) (P : Int32) : ∀ n, ¬ psF a t g n P = P → ∃ e, e < n ∧ a e = true ∧ sbs (t e) P ∧ ¬ sbs (g e) P ∧ ∀ b, b < 32 → bt (g e) b = true → bt (psF a t g n P) b = true := by
  intro n
  induction n with
  | zero => intro h; exact absurd rfl h
  | succ n ih =>
    intro h
    by_cases e : psF a t g n P = P
    · have hq : psF a t g (n + 1) P = if a n = true ∧ (t n &&& (psF a t g n P ^^^ (-1))) = 0 then psF a t g n P ||| g n else psF a t g n P := rfl
      rw [e] at hq
      by_cases c : a n = true ∧ (t n &&& (P ^^^ (-1))) = 0
      · rw [if_pos c] at hq
        refine ⟨n, by omega, c.1, c.2, fun w => h ?_, fun b hb hx => by rw [hq, b_or, hx, Bool.or_true]⟩
        rw [hq]
        apply b_ext
        intro b hb
        rw [b_or]
        cases hg : bt (g n) b
        · rw [Bool.or_false]
        · rw [(sbs_bt.mp w) b hb hg]; rfl
      · rw [if_neg c] at hq
        exact absurd hq h
    · obtain ⟨i, i1, i2, i3, i4, i5⟩ := ih e
      exact ⟨i, by omega, i2, i3, i4, fun b hb hx => psF_up a t g P n (n + 1) (by omega) b hb (i5 b hb hx)⟩
noncomputable def dnC (a : Nat → Bool) (t g : Nat → Int32) (n : Nat) (P : Int32) : Nat := fb_ct (fun e => a e && @decide (sbs (t e) P) (Classical.propDecidable _) && @decide (sbs (g e) P) (Classical.propDecidable _)) n
theorem fb_ct_lt {p q : Nat → Bool} {i : Nat} : ∀ {n : Nat}, (∀ k, k < n → p k = true → q k = true) → i < n → p i = false → q i = true → fb_ct p n < fb_ct q n
  | 0, _, h, _, _ => absurd h (Nat.not_lt_zero i)
  | n + 1, h, hi, h1, h2 => by
    rw [fb_ct_succ, fb_ct_succ]
    by_cases e : i = n
    · subst e
      have := fb_ct_sub (n := i) (p := p) (q := q) (fun k hk => h k (by omega))
      rw [h1, h2]
      simp
      omega
    · have := fb_ct_lt (n := n) (p := p) (q := q) (i := i) (fun k hk => h k (by omega)) (by omega) h1 h2
      have h3 := h n (by omega)
      cases hp : p n <;> cases hq : q n <;> simp_all <;> omega
theorem dn_lt {a : Nat → Bool} {t g : Nat → Int32} {n : Nat} {P : Int32} (h : ¬ psF a t g n P = P) : dnC a t g n P < dnC a t g n (psF a t g n P) := by
  obtain ⟨e, e1, e2, e3, e4, e5⟩ := psF_new a t g P n h
  have up : ∀ x : Int32, sbs x P → sbs x (psF a t g n P) := fun x hx => sbs_bt.mpr (fun b hb q => psF_up a t g P 0 n (Nat.zero_le _) b hb ((sbs_bt.mp hx) b hb q))
  unfold dnC
  refine fb_ct_lt (i := e) (fun k hk hx => ?_) e1 ?_ ?_
  · rw [Bool.and_eq_true, Bool.and_eq_true] at hx
    obtain ⟨⟨x1, x2⟩, x3⟩ := hx
    rw [x1, @decide_eq_true _ (Classical.propDecidable _) (up _ (@of_decide_eq_true _ (Classical.propDecidable _) x2)), @decide_eq_true _ (Classical.propDecidable _) (up _ (@of_decide_eq_true _ (Classical.propDecidable _) x3))]
    rfl
  · rw [@decide_eq_false _ (Classical.propDecidable _) e4, Bool.and_false]
  · rw [e2, @decide_eq_true _ (Classical.propDecidable _) (up _ e3), @decide_eq_true _ (Classical.propDecidable _) (sbs_bt.mpr e5)]
    rfl
theorem pit_stay {F : Int32 → Int32} {k : Nat} (h : F (pit F k) = pit F k) : ∀ m, pit F (k + m) = pit F k
  | 0 => rfl
  | m + 1 => by
    show F (pit F (k + m)) = _
    rw [pit_stay h m, h]
theorem pit_grow (a : Nat → Bool) (t g : Nat → Int32) (n : Nat) : ∀ k, ¬ psF a t g n (pit (psF a t g n) k) = pit (psF a t g n) k → k ≤ dnC a t g n (pit (psF a t g n) k)
  | 0, _ => Nat.zero_le _
  | k + 1, h => by
    have h' : ¬ psF a t g n (pit (psF a t g n) k) = pit (psF a t g n) k := fun q => by
      have e : pit (psF a t g n) (k + 1) = pit (psF a t g n) k := q
      rw [e] at h
      exact h q
    have i := pit_grow a t g n k h'
    have j := dn_lt h'
    have e : pit (psF a t g n) (k + 1) = psF a t g n (pit (psF a t g n) k) := rfl
    rw [e]
    omega
theorem pit_fix (a : Nat → Bool) (t g : Nat → Int32) (n : Nat) : psF a t g n (pit (psF a t g n) n) = pit (psF a t g n) n := by
  refine Classical.byContradiction fun h => ?_
  have i := pit_grow a t g n n h
  have j := dn_lt h
  have k : dnC a t g n (psF a t g n (pit (psF a t g n) n)) ≤ n := fb_ct_le _ _
  omega
theorem pit_pw {a : Nat → Bool} {t g : Nat → Int32} {n k : Nat} (hk : k ≤ n + 1) (h : psF a t g n (pit (psF a t g n) k) = pit (psF a t g n) k) : pit (psF a t g n) k = pwF a t g n := by
  unfold pwF
  rcases Nat.lt_or_ge n k with q | q
  · rw [show k = n + 1 by omega]
    exact pit_fix a t g n
  · have := pit_stay h (n - k)
    rw [show k + (n - k) = n by omega] at this
    exact this.symm
theorem psF_mono {a a' : Nat → Bool} {t g : Nat → Int32} : ∀ {n : Nat} {P P' : Int32}, (∀ e, e < n → a e = true → a' e = true) → (∀ b, b < 32 → bt P b = true → bt P' b = true) → ∀ b, b < 32 → bt (psF a t g n P) b = true → bt (psF a' t g n P') b = true := by
  intro n
  induction n with
  | zero => intro P P' _ hP b hb hx; exact hP b hb hx
  | succ n ih =>
    intro P P' ha hP b hb hx
    have q := ih (P := P) (P' := P') (fun e he => ha e (by omega)) hP
    have e1 : psF a t g (n + 1) P = if a n = true ∧ (t n &&& (psF a t g n P ^^^ (-1))) = 0 then psF a t g n P ||| g n else psF a t g n P := rfl
    have e2 : psF a' t g (n + 1) P' = if a' n = true ∧ (t n &&& (psF a' t g n P' ^^^ (-1))) = 0 then psF a' t g n P' ||| g n else psF a' t g n P' := rfl
    rw [e1] at hx
    rw [e2]
    by_cases c : a n = true ∧ (t n &&& (psF a t g n P ^^^ (-1))) = 0
    · have c' : a' n = true ∧ (t n &&& (psF a' t g n P' ^^^ (-1))) = 0 := ⟨ha n (by omega) c.1, sbs_bt.mpr (fun b hb hy => q b hb ((sbs_bt (x := t n) (P := psF a t g n P)).mp c.2 b hb hy))⟩
      rw [if_pos c, b_or, Bool.or_eq_true] at hx
      rw [if_pos c', b_or, Bool.or_eq_true]
      exact hx.imp (q b hb) id
    · rw [if_neg c] at hx
      have z := q b hb hx
      split
      · rw [b_or, z]; rfl
      · exact z
theorem pwF_mono {a a' : Nat → Bool} {t g : Nat → Int32} {n : Nat} (ha : ∀ e, e < n → a e = true → a' e = true) : ∀ b, b < 32 → bt (pwF a t g n) b = true → bt (pwF a' t g n) b = true := by
  have : ∀ k b, b < 32 → bt (pit (psF a t g n) k) b = true → bt (pit (psF a' t g n) k) b = true := by
    intro k
    induction k with
    | zero => intro b hb hx; exact hx
    | succ k ih => intro b hb hx; exact psF_mono ha ih b hb hx
  exact this n
theorem psF_cg {a a' : Nat → Bool} {t g : Nat → Int32} : ∀ {n : Nat} (P : Int32), (∀ e, e < n → a e = a' e) → psF a t g n P = psF a' t g n P := by
  intro n
  induction n with
  | zero => intro P _; rfl
  | succ n ih =>
    intro P h
    show (if a n = true ∧ (t n &&& (psF a t g n P ^^^ (-1))) = 0 then psF a t g n P ||| g n else psF a t g n P) = (if a' n = true ∧ (t n &&& (psF a' t g n P ^^^ (-1))) = 0 then psF a' t g n P ||| g n else psF a' t g n P)
    rw [ih P (fun e he => h e (by omega)), h n (by omega)]
theorem pwF_cg {a a' : Nat → Bool} {t g : Nat → Int32} {n : Nat} (h : ∀ e, e < n → a e = a' e) : pwF a t g n = pwF a' t g n := by
  have : ∀ k, pit (psF a t g n) k = pit (psF a' t g n) k := by
    intro k
    induction k with
    | zero => rfl
    | succ k ih => show psF a t g n (pit (psF a t g n) k) = psF a' t g n (pit (psF a' t g n) k); rw [ih]; exact psF_cg _ h
  exact this n
/-- the effects, as both hold them -/
def EF (M : Mem) (n : Nat) (D : Nat → Nat) (K t g : Nat → Int32) : Prop := n ≤ 10 ∧ M 62 5 = nI n ∧ M 70 12 = nI n ∧ ∀ j, j < n → D j < 32 ∧ M 63 j = nI (D j) ∧ M 81 j = nI (D j) ∧ M 64 j = K j ∧ M 65 j = t j ∧ M 84 j = t j ∧ M 66 j = g j ∧ M 85 j = g j ∧ ∃ f l, f ≤ l ∧ l < 32 ∧ M 82 j = nI f ∧ M 83 j = nI l ∧ ∀ b, b < 32 → bt (K j) b = decide (f ≤ b ∧ b ≤ l)
theorem IvE.ef {M : Mem} (h : IvE M) : ∃ n D K t g, EF M n D K t g := by
  obtain ⟨n, h0, h1, h2, h3⟩ := h
  refine ⟨n, fun j => (M 63 j).toNatClampNeg, M 64, M 65, M 66, h0, h1, h2, fun j hj => ?_⟩
  obtain ⟨⟨d, d1, d2, d3⟩, a, b, c⟩ := h3 j hj
  dsimp only
  rw [d2, d3, nI_clamp (by omega)]
  exact ⟨d1, rfl, rfl, rfl, rfl, a.symm, rfl, b.symm, c⟩
theorem EF.fr {M M' : Mem} {n : Nat} {D : Nat → Nat} {K t g : Nat → Int32} (h : EF M n D K t g) (h1 : M' 62 5 = M 62 5) (h2 : M' 70 12 = M 70 12) (hk : ∀ k, (63 ≤ k ∧ k ≤ 66) ∨ (81 ≤ k ∧ k ≤ 85) → M' k = M k) : EF M' n D K t g := by
  unfold EF
  rw [h1, h2, hk 63 (by omega), hk 64 (by omega), hk 65 (by omega), hk 66 (by omega), hk 81 (by omega), hk 82 (by omega), hk 83 (by omega), hk 84 (by omega), hk 85 (by omega)]
  exact h
def acL (D : Nat → Nat) (K : Nat → Int32) (L : Nat → Int32) (e : Nat) : Bool := decide (¬ (L (D e) &&& K e) = 0)
theorem acL_t {D : Nat → Nat} {K L : Nat → Int32} {e : Nat} : acL D K L e = true ↔ ¬ (L (D e) &&& K e) = 0 := ⟨fun h => of_decide_eq_true h, fun h => decide_eq_true h⟩
theorem e_callsOf8 {M : Mem} {n : Nat} {D : Nat → Nat} {K t g : Nat → Int32} (h : EF M n D K t g) {e q : Nat} (he : e < n) : f_X2_callsOf (nI e) q M = some (M q (D e) &&& K e, M) := by
  obtain ⟨h0, -, -, h3⟩ := h
  obtain ⟨d1, d2, -, k1, -⟩ := h3 e he
  unfold f_X2_callsOf nm
  rw [ixT (show e < 10 by omega) (by omega), if_pos rfl, nI_clamp (n := e) (by omega), d2]
  dsimp only
  rw [ixT d1 (by omega), if_pos rfl, if_pos rfl, nI_clamp (n := D e) (by omega), k1]
theorem pw8_in {M : Mem} {n : Nat} {D : Nat → Nat} {K t g : Nat → Int32} (h : EF M n D K t g) {q : Nat} {x3 x4 P : Int32} (kk : Mem → Int32 → Int32 → Option (Int32 × Mem)) :
    ∀ (d x f : Nat), x + d = n → d < f → f_X2_powersBy_L18 q x3 x4 kk f M (psF (acL D K (M q)) t g x P) (nI x) = kk M (psF (acL D K (M q)) t g n P) (nI n) := by
  obtain ⟨h0, h1, -, h3⟩ := id h
  intro d
  induction d with
  | zero =>
    intro x f hx hf
    obtain ⟨f', rfl⟩ : ∃ f', f = f' + 1 := ⟨f - 1, by omega⟩
    rw [f_X2_powersBy_L18, h1, if_pos (nI_le (by omega) (by omega)), show x = n by omega]
  | succ d ih =>
    intro x f hx hf
    obtain ⟨f', rfl⟩ : ∃ f', f = f' + 1 := ⟨f - 1, by omega⟩
    have q1 := ih (x + 1) f' (by omega) (by omega)
    have e1 : psF (acL D K (M q)) t g (x + 1) P = if acL D K (M q) x = true ∧ (t x &&& (psF (acL D K (M q)) t g x P ^^^ (-1))) = 0 then psF (acL D K (M q)) t g x P ||| g x else psF (acL D K (M q)) t g x P := rfl
    obtain ⟨-, -, -, -, k2, -, k3, -⟩ := h3 x (by omega)
    rw [f_X2_powersBy_L18, h1, if_neg (nI_ge (by omega) (by omega)), e_callsOf8 h (by omega), bnd_some, nI_1]
    by_cases z : M q (D x) &&& K x = 0
    · rw [if_neg (fun w => (acL_t.mp w.1) z)] at e1
      rw [if_pos z, ← e1]
      exact q1
    · rw [if_neg z, ixT (show x < 10 by omega) (by omega), if_pos rfl, nI_clamp (by omega), k2, k3]
      by_cases w : (t x &&& (psF (acL D K (M q)) t g x P ^^^ (-1))) = 0
      · rw [if_pos ⟨acL_t.mpr z, w⟩] at e1
        rw [if_pos w, if_pos rfl]
        unfold nm
        dsimp only
        rw [← e1]
        exact q1
      · rw [if_neg (fun v => w v.2)] at e1
        rw [if_neg w, ← e1]
        exact q1
theorem pw8_out {fu : Nat} (hfu : 51200 < fu) {M : Mem} {n : Nat} {D : Nat → Nat} {K t g : Nat → Int32} (h : EF M n D K t g) {q : Nat} :
    ∀ (d x f : Nat), x + d = n → d < f → f_X2_powersBy_L4 fu q (fun M7 y8 _ => some (y8, M7)) f M (pit (psF (acL D K (M q)) t g n) x) (nI x) = some (pwF (acL D K (M q)) t g n, M) := by
  obtain ⟨h0, h1, -, h3⟩ := id h
  intro d
  induction d with
  | zero =>
    intro x f hx hf
    obtain ⟨f', rfl⟩ : ∃ f', f = f' + 1 := ⟨f - 1, by omega⟩
    rw [f_X2_powersBy_L4, h1, if_pos (nI_le (by omega) (by omega)), show x = n by omega]
    rfl
  | succ d ih =>
    intro x f hx hf
    obtain ⟨f', rfl⟩ : ∃ f', f = f' + 1 := ⟨f - 1, by omega⟩
    have q1 := ih (x + 1) f' (by omega) (by omega)
    rw [f_X2_powersBy_L4, h1, if_neg (nI_ge (by omega) (by omega)), nI_1]
    have e2 := pw8_in h (q := q) (x3 := nI x) (x4 := pit (psF (acL D K (M q)) t g n) x) (P := pit (psF (acL D K (M q)) t g n) x) (fun M4 y5 (y6 : Int32) => if y5 = pit (psF (acL D K (M q)) t g n) x then some (y5, M4) else f_X2_powersBy_L4 fu q (fun M7 y8 _ => some (y8, M7)) f' M4 y5 (nI (x + 1))) n 0 fu (by omega) (by omega)
    refine Eq.trans e2 ?_
    by_cases z : psF (acL D K (M q)) t g n (pit (psF (acL D K (M q)) t g n) x) = pit (psF (acL D K (M q)) t g n) x
    · rw [if_pos z, z, pit_pw (by omega) z]
    · rw [if_neg z]
      exact q1
theorem e_pow8 {fu : Nat} (hfu : 51200 < fu) {M : Mem} {n : Nat} {D : Nat → Nat} {K t g : Nat → Int32} (h : EF M n D K t g) (q : Nat) : f_X2_powersBy fu q M = some (pwF (acL D K (M q)) t g n, M) :=
  pw8_out hfu h n 0 fu (by omega) (by have := h.1; omega)
theorem so_L {M : Mem} {e f l : Nat} (he : e < 10) (hl : l < 32) (h83 : M 83 e = nI l) (kk : Mem → Int32 → Int32 → Option (Int32 × Mem)) :
    ∀ (d x k : Nat) (v : Int32), x + d = l + 1 → d < k → (∀ b, b < 32 → bt v b = decide (f ≤ b ∧ b < x)) → f ≤ x → ∃ r, f_X9_spanOf_L9 (nI e) kk k M v (nI x) = kk M r (nI (l + 1)) ∧ ∀ b, b < 32 → bt r b = decide (f ≤ b ∧ b < l + 1) := by
  intro d
  induction d with
  | zero =>
    intro x k v hx hk hv hf
    obtain ⟨k', rfl⟩ : ∃ k', k = k' + 1 := ⟨k - 1, by omega⟩
    rw [f_X9_spanOf_L9, ixT he (by omega), if_pos rfl, nI_clamp (by omega), h83, if_pos (nI_lt (by omega) (by omega)), show x = l + 1 by omega]
    rw [show x = l + 1 by omega] at hv
    exact ⟨v, rfl, hv⟩
  | succ d ih =>
    intro x k v hx hk hv hf
    obtain ⟨k', rfl⟩ : ∃ k', k = k' + 1 := ⟨k - 1, by omega⟩
    rw [f_X9_spanOf_L9, ixT he (by omega), if_pos rfl, nI_clamp (by omega), h83, if_neg (nI_nlt (by omega) (by omega))]
    unfold nm
    dsimp only
    rw [nI_1]
    refine ih (x + 1) k' _ (by omega) (by omega) (fun b hb => ?_) (by omega)
    rw [b_or, hv b hb, hot x (by omega) b hb]
    by_cases z : b = x
    · rw [decide_eq_true z, decide_eq_true (show f ≤ b ∧ b < x + 1 by omega), Bool.or_true]
    · rw [decide_eq_false z, Bool.or_false]
      by_cases w : f ≤ b ∧ b < x
      · rw [decide_eq_true w, decide_eq_true (show f ≤ b ∧ b < x + 1 by omega)]
      · rw [decide_eq_false w, decide_eq_false (show ¬ (f ≤ b ∧ b < x + 1) by omega)]
theorem e_spanOf {fu : Nat} (hfu : 51200 < fu) {M : Mem} {n : Nat} {D : Nat → Nat} {K t g : Nat → Int32} (h : EF M n D K t g) {e : Nat} (he : e < n) : f_X9_spanOf fu (nI e) M = some (K e, M) := by
  obtain ⟨h0, -, -, h3⟩ := h
  obtain ⟨-, -, -, -, -, -, -, -, f, l, f1, f2, f3, f4, f5⟩ := h3 e he
  unfold f_X9_spanOf nm
  rw [ixT (show e < 10 by omega) (by omega), if_pos rfl, nI_clamp (by omega), f3]
  dsimp only
  obtain ⟨r, e1, e2⟩ := so_L (M := M) (e := e) (f := f) (l := l) (by omega) f2 f4 (fun M3 y4 _ => some (y4, M3)) (l + 1 - f) f fu 0 (by omega) (by omega) (fun b hb => by rw [b_0, decide_eq_false (by omega)]) (Nat.le_refl _)
  rw [e1]
  congr 2
  apply b_ext
  intro b hb
  rw [e2 b hb, f5 b hb]
  by_cases w : f ≤ b ∧ b ≤ l
  · rw [decide_eq_true w, decide_eq_true (show f ≤ b ∧ b < l + 1 by omega)]
  · rw [decide_eq_false w, decide_eq_false (show ¬ (f ≤ b ∧ b < l + 1) by omega)]
theorem pw9_in {fu : Nat} (hfu : 51200 < fu) {M : Mem} {n : Nat} {D : Nat → Nat} {K t g : Nat → Int32} (h : EF M n D K t g) {x2 P : Int32} (kk : Mem → Int32 → Int32 → Option (Int32 × Mem)) :
    ∀ (d x f : Nat), x + d = n → d < f → f_X9_reachNow_L13 fu x2 kk f M (psF (acL D K (M 92)) t g x P) (nI x) = kk M (psF (acL D K (M 92)) t g n P) (nI n) := by
  obtain ⟨h0, -, h1, h3⟩ := id h
  intro d
  induction d with
  | zero =>
    intro x f hx hf
    obtain ⟨f', rfl⟩ : ∃ f', f = f' + 1 := ⟨f - 1, by omega⟩
    rw [f_X9_reachNow_L13, h1, if_pos (nI_le (by omega) (by omega)), show x = n by omega]
  | succ d ih =>
    intro x f hx hf
    obtain ⟨f', rfl⟩ : ∃ f', f = f' + 1 := ⟨f - 1, by omega⟩
    have q1 := ih (x + 1) f' (by omega) (by omega)
    have e1 : psF (acL D K (M 92)) t g (x + 1) P = if acL D K (M 92) x = true ∧ (t x &&& (psF (acL D K (M 92)) t g x P ^^^ (-1))) = 0 then psF (acL D K (M 92)) t g x P ||| g x else psF (acL D K (M 92)) t g x P := rfl
    obtain ⟨d1, -, d2, -, -, k2, -, k3, -⟩ := h3 x (by omega)
    rw [f_X9_reachNow_L13, h1, if_neg (nI_ge (by omega) (by omega)), ixT (show x < 10 by omega) (by omega), if_pos rfl, nI_clamp (n := x) (by omega), d2]
    unfold nm
    dsimp only
    rw [ixT d1 (by omega), if_pos rfl, nI_clamp (n := D x) (by omega), e_spanOf hfu h (by omega), bnd_some, nI_1]
    by_cases z : M 92 (D x) &&& K x = 0
    · rw [if_neg (fun w => (acL_t.mp w.1) z)] at e1
      rw [if_pos z, ← e1]
      exact q1
    · rw [if_neg z, if_pos rfl, k2, k3]
      by_cases w : (t x &&& (psF (acL D K (M 92)) t g x P ^^^ (-1))) = 0
      · rw [if_pos ⟨acL_t.mpr z, w⟩] at e1
        rw [if_pos w, if_pos rfl, ← e1]
        exact q1
      · rw [if_neg (fun v => w v.2)] at e1
        rw [if_neg w, ← e1]
        exact q1
theorem pw9_out {fu : Nat} (hfu : 51200 < fu) {M : Mem} {n : Nat} {D : Nat → Nat} {K t g : Nat → Int32} (h : EF M n D K t g) :
    ∀ (d x f : Nat), x + d = n → d + 1 < f → f_X9_reachNow_L4 fu (fun M8 y9 _ => some (y9, M8)) f M (pit (psF (acL D K (M 92)) t g n) (x + 1)) (pit (psF (acL D K (M 92)) t g n) x) = some (pwF (acL D K (M 92)) t g n, M) := by
  have h0 := h.1
  intro d
  induction d with
  | zero =>
    intro x f hx hf
    obtain ⟨f', rfl⟩ : ∃ f', f = f' + 1 := ⟨f - 1, by omega⟩
    have e : psF (acL D K (M 92)) t g n (pit (psF (acL D K (M 92)) t g n) x) = pit (psF (acL D K (M 92)) t g n) x := by rw [show x = n by omega]; exact pit_fix _ _ _ _
    have e' : pit (psF (acL D K (M 92)) t g n) (x + 1) = pit (psF (acL D K (M 92)) t g n) x := e
    rw [f_X9_reachNow_L4, if_pos e'.symm, e', pit_pw (by omega) e]
  | succ d ih =>
    intro x f hx hf
    obtain ⟨f', rfl⟩ : ∃ f', f = f' + 1 := ⟨f - 1, by omega⟩
    by_cases z : pit (psF (acL D K (M 92)) t g n) x = pit (psF (acL D K (M 92)) t g n) (x + 1)
    · rw [f_X9_reachNow_L4, if_pos z, ← z, pit_pw (by omega) z.symm]
    · rw [f_X9_reachNow_L4, if_neg z]
      refine Eq.trans (pw9_in hfu h (x2 := pit (psF (acL D K (M 92)) t g n) (x + 1)) (P := pit (psF (acL D K (M 92)) t g n) (x + 1)) (fun M5 y6 (y7 : Int32) => f_X9_reachNow_L4 fu (fun M8 y9 _ => some (y9, M8)) f' M5 y6 (pit (psF (acL D K (M 92)) t g n) (x + 1))) n 0 fu (by omega) (by omega)) ?_
      exact ih (x + 1) f' (by omega) (by omega)
theorem e_pow9 {fu : Nat} (hfu : 51200 < fu) {M : Mem} {n : Nat} {D : Nat → Nat} {K t g : Nat → Int32} (h : EF M n D K t g) : f_X9_reachNow fu M = some (pwF (acL D K (M 92)) t g n, M) := by
  have h0 := h.1
  unfold f_X9_reachNow
  obtain ⟨f', hf'⟩ : ∃ f', fu = f' + 1 := ⟨fu - 1, by omega⟩
  have q := pw9_out hfu h n 0 f' (by omega) (by omega)
  have e : f_X9_reachNow_L4 fu (fun M8 y9 _ => some (y9, M8)) (f' + 1) M 0 (-1) = some (pwF (acL D K (M 92)) t g n, M) := by
    rw [f_X9_reachNow_L4, if_neg (by decide)]
    exact Eq.trans (pw9_in hfu h (x2 := 0) (P := 0) (fun M5 y6 (y7 : Int32) => f_X9_reachNow_L4 fu (fun M8 y9 _ => some (y9, M8)) f' M5 y6 0) n 0 fu (by omega) (by omega)) q
  rw [← hf'] at e
  exact e
