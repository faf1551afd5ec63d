/-! The best cut: least by calls, then by effects, then by number. -/
def cnt (c : Nat) : Nat := fb_ct (bt (nI c)) 32
/-- keys of cuts -/
def kle (N : Nat → Nat) (c c' : Nat) : Prop := N c < N c' ∨ N c = N c' ∧ (cnt c < cnt c' ∨ cnt c = cnt c' ∧ c ≤ c')
def Mn (P : Nat → Prop) (N : Nat → Nat) (c : Nat) : Prop := P c ∧ ∀ c', P c' → kle N c c'
theorem Mn.one {P : Nat → Prop} {N : Nat → Nat} {c c' : Nat} (h : Mn P N c) (h' : Mn P N c') : c = c' := by
  have a := h.2 c' h'.1
  have b := h'.2 c h.1
  unfold kle at a b
  omega
/-- best so far -/
def Bf (P : Nat → Prop) (N : Nat → Nat) (x c : Nat) : Prop := c < x ∧ P c ∧ ∀ c', c' < x → P c' → kle N c c'
theorem Bf.new {P : Nat → Prop} {N : Nat → Nat} {x c : Nat} (h : Bf P N x c) (hx : P x) (hb : N x < N c ∨ N x = N c ∧ cnt x < cnt c) : Bf P N (x + 1) x := by
  obtain ⟨h1, h2, h3⟩ := h
  refine ⟨by omega, hx, fun c' hc' hP => ?_⟩
  by_cases e : c' = x
  · rw [e]; unfold kle; omega
  · have := h3 c' (by omega) hP
    unfold kle at this ⊢
    omega
theorem Bf.old {P : Nat → Prop} {N : Nat → Nat} {x c : Nat} (h : Bf P N x c) (hb : P x → ¬ (N x < N c ∨ N x = N c ∧ cnt x < cnt c)) : Bf P N (x + 1) c := by
  obtain ⟨h1, h2, h3⟩ := h
  refine ⟨by omega, h2, fun c' hc' hP => ?_⟩
  by_cases e : c' = x
  · subst e
    have := hb hP
    unfold kle; omega
  · exact h3 c' (by omega) hP
theorem Bf.first {P : Nat → Prop} {N : Nat → Nat} {x : Nat} (h : ∀ c, c < x → ¬ P c) (hx : P x) : Bf P N (x + 1) x := by
  refine ⟨by omega, hx, fun c' hc' hP => ?_⟩
  by_cases e : c' = x
  · rw [e]; unfold kle; omega
  · exact absurd hP (h c' (by omega))
theorem Bf.min {P : Nat → Prop} {N : Nat → Nat} {x c : Nat} (h : Bf P N x c) (hb : ∀ c', P c' → c' < x) : Mn P N c := ⟨h.2.1, fun c' hP => h.2.2 c' (hb c' hP) hP⟩
/-! the house's facts -/
def shutP (n : Nat) (D : Nat → Nat) (K t g L : Nat → Int32) (pw c : Nat) : Prop := bt (pwF (acL D K (toF D K L (nI c) n).1) t g n) pw = false
def PA (n : Nat) (D : Nat → Nat) (K t g L Y : Nat → Int32) (pw c : Nat) : Prop := c < 2 ^ n ∧ (∀ e, e < n → bt (nI c) e = true → okE D K L Y e) ∧ shutP n D K t g L pw c
def alE (D : Nat → Nat) (K L Y : Nat → Int32) (e : Nat) : Prop := ¬ (L (D e) &&& K e) = 0 ∧ okE D K L Y e
def PB (n : Nat) (D : Nat → Nat) (K t g L Y : Nat → Int32) (pw c : Nat) : Prop := c < 2 ^ n ∧ (∀ e, e < n → bt (nI c) e = true → alE D K L Y e) ∧ shutP n D K t g L pw c
noncomputable def alN (D : Nat → Nat) (K L Y : Nat → Int32) : Nat → Nat
  | 0 => 0
  | e + 1 => @ite Nat (alE D K L Y e) (Classical.propDecidable _) (2 ^ e + alN D K L Y e) (alN D K L Y e)
theorem alN_y {D : Nat → Nat} {K L Y : Nat → Int32} {e : Nat} (h : alE D K L Y e) : alN D K L Y (e + 1) = 2 ^ e + alN D K L Y e := by
  rw [alN]; exact if_pos h
theorem alN_n {D : Nat → Nat} {K L Y : Nat → Int32} {e : Nat} (h : ¬ alE D K L Y e) : alN D K L Y (e + 1) = alN D K L Y e := by
  rw [alN]; exact if_neg h
theorem alN_lt (D : Nat → Nat) (K L Y : Nat → Int32) : ∀ n, alN D K L Y n < 2 ^ n := by
  intro n
  induction n with
  | zero => exact Nat.one_pos
  | succ n ih =>
    rw [Nat.pow_succ]
    by_cases h : alE D K L Y n
    · rw [alN_y h]; omega
    · rw [alN_n h]; omega
theorem alN_bit (D : Nat → Nat) (K L Y : Nat → Int32) : ∀ n e, (alN D K L Y n).testBit e = true ↔ e < n ∧ alE D K L Y e := by
  intro n
  induction n with
  | zero => intro e; rw [alN, Nat.zero_testBit]; exact ⟨fun h => absurd h (by decide), fun h => absurd h.1 (Nat.not_lt_zero e)⟩
  | succ n ih =>
    intro e
    have hl := alN_lt D K L Y n
    by_cases h : alE D K L Y n
    · rw [alN_y h]
      rcases Nat.lt_trichotomy e n with q | q | q
      · rw [Nat.testBit_two_pow_add_gt q, ih e]
        exact ⟨fun w => ⟨by omega, w.2⟩, fun w => ⟨q, w.2⟩⟩
      · subst q
        rw [Nat.testBit_two_pow_add_eq, Nat.testBit_lt_two_pow hl]
        exact ⟨fun _ => ⟨by omega, h⟩, fun _ => rfl⟩
      · rw [Nat.testBit_lt_two_pow (show 2 ^ n + alN D K L Y n < 2 ^ e from Nat.lt_of_lt_of_le (by rw [Nat.pow_succ]; omega : _ < 2 ^ (n + 1)) (Nat.pow_le_pow_right (by omega) (by omega)))]
        exact ⟨fun w => absurd w (by decide), fun w => by omega⟩
    · rw [alN_n h, ih e]
      constructor
      · exact fun w => ⟨by omega, w.2⟩
      · intro w
        refine ⟨?_, w.2⟩
        rcases Nat.lt_or_ge e n with q | q
        · exact q
        · rw [show e = n by omega] at w; exact absurd w.2 h
theorem p10 {n c : Nat} (hn : n ≤ 10) (h : c < 2 ^ n) : c < 1024 := Nat.lt_of_lt_of_le h (Nat.pow_le_pow_right (by decide) hn : 2 ^ n ≤ 2 ^ 10)
theorem hi_bit {n c e : Nat} (h : c < 2 ^ n) (he : n ≤ e) : c.testBit e = false := Nat.testBit_lt_two_pow (Nat.lt_of_lt_of_le h (Nat.pow_le_pow_right (by omega) he))
/-- the part of a cut that takes calls out -/
theorem cut_part {n : Nat} (hn : n ≤ 10) {D : Nat → Nat} {K t g L Y : Nat → Int32} {pw c : Nat} (h : PA n D K t g L Y pw c) : PB n D K t g L Y pw (c &&& alN D K L Y n) ∧ kle (fun c => (toF D K L (nI c) n).2) (c &&& alN D K L Y n) c := by
  obtain ⟨h1, h2, h3⟩ := h
  have hle : c &&& alN D K L Y n ≤ c := Nat.and_le_left
  have hb : ∀ e, e < n → (bt (nI (c &&& alN D K L Y n)) e = true ↔ bt (nI c) e = true ∧ alE D K L Y e) := fun e he => by
    rw [bt_nI _ (by omega), bt_nI _ (by omega), Nat.testBit_and, Bool.and_eq_true, alN_bit]
    exact ⟨fun w => ⟨w.1, w.2.2⟩, fun w => ⟨w.1, he, w.2⟩⟩
  have same : toF D K L (nI (c &&& alN D K L Y n)) n = toF D K L (nI c) n := toF_same n (fun e he => by
    by_cases z : L (D e) &&& K e = 0
    · exact Or.inr z
    · refine Or.inl ?_
      have q := hb e he
      cases hc : bt (nI c) e
      · cases hd : bt (nI (c &&& alN D K L Y n)) e
        · rfl
        · rw [hd, hc] at q; exact absurd (q.mp rfl).1 (by decide)
      · exact q.mpr ⟨hc, z, h2 e he hc⟩)
  refine ⟨⟨by omega, fun e he w => ((hb e he).mp w).2, by unfold shutP; rw [same]; exact h3⟩, ?_⟩
  have hcn : cnt (c &&& alN D K L Y n) ≤ cnt c := by
    unfold cnt
    refine fb_ct_sub (fun k hk w => ?_)
    rw [bt_nI _ hk, Nat.testBit_and, Bool.and_eq_true] at w
    rw [bt_nI _ hk]; exact w.1
  unfold kle
  dsimp only
  rw [same]
  omega
/-- all that may be cut shuts, if anything does -/
theorem cut_all {n : Nat} (hn : n ≤ 10) {D : Nat → Nat} {K t g L Y : Nat → Int32} {pw c : Nat} (hp : pw < 32) (h : PA n D K t g L Y pw c) : shutP n D K t g L pw (alN D K L Y n) := by
  obtain ⟨⟨h1, h2, h3⟩, -⟩ := cut_part hn h
  generalize c &&& alN D K L Y n = c' at h1 h2 h3
  unfold shutP at h3 ⊢
  cases hx : bt (pwF (acL D K (toF D K L (nI (alN D K L Y n)) n).1) t g n) pw
  · rfl
  · rw [← h3]
    symm
    refine pwF_mono (fun e he w => ?_) pw hp hx
    rw [acL_t] at w ⊢
    intro z
    apply w
    rw [zero_bt] at z ⊢
    intro b hb
    have zb := z b hb
    rw [b_and] at zb ⊢
    cases hl : bt ((toF D K L (nI (alN D K L Y n)) n).1 (D e)) b
    · rfl
    · obtain ⟨a1, a2⟩ := (toF_bt D K L _ n (D e) b hb).mp hl
      have : bt ((toF D K L (nI c') n).1 (D e)) b = true := (toF_bt D K L _ n (D e) b hb).mpr ⟨a1, fun e' he' w' => a2 e' he' (by
        rw [bt_nI _ (by omega), alN_bit]
        exact ⟨he', h2 e' he' w'⟩)⟩
      rw [this] at zb
      exact zb
theorem PB.a {n : Nat} {D : Nat → Nat} {K t g L Y : Nat → Int32} {pw c : Nat} (h : PB n D K t g L Y pw c) : PA n D K t g L Y pw c := ⟨h.1, fun e he w => (h.2.1 e he w).2, h.2.2⟩
theorem mn_ab {n : Nat} (hn : n ≤ 10) {D : Nat → Nat} {K t g L Y : Nat → Int32} {pw c c' : Nat} (h : Mn (PA n D K t g L Y pw) (fun c => (toF D K L (nI c) n).2) c) (h' : Mn (PB n D K t g L Y pw) (fun c => (toF D K L (nI c) n).2) c') : c = c' := by
  obtain ⟨q1, q2⟩ := cut_part hn h.1
  have a := h.2 c' h'.1.a
  have b := h'.2 _ q1
  have d := h.2 _ q1.a
  unfold kle at a b d q2
  dsimp only at a b d q2
  omega
/-! leastCut of the class -/
theorem or_2p {a e : Nat} (he : e < 32) (h : a < 2 ^ e) : nI a ||| ((1 : Int32) <<< (nI e &&& 31)) = nI (2 ^ e + a) := by
  have h32 : (1 : Nat) * 2 ^ e < 2 ^ 32 := by rw [Nat.one_mul]; exact Nat.pow_lt_pow_right (by omega) he
  rw [c1, shl_n he h32, Nat.one_mul, fa_or, Nat.or_comm]
  congr 1
  have := Nat.two_pow_add_eq_or_of_lt h 1
  rw [Nat.mul_one] at this
  exact this.symm
theorem cu_L {M : Mem} {n : Nat} {D : Nat → Nat} {K t g : Nat → Int32} (h : EF M n D K t g) {q q2 : Nat} (kk : Mem → Int32 → Int32 → Option (Int32 × Mem)) :
    ∀ (d x f : Nat), x + d = n → d < f → f_X2_cuttable_L5 q q2 kk f M (nI (alN D K (M q) (M q2) x)) (nI x) = kk M (nI (alN D K (M q) (M q2) n)) (nI n) := by
  obtain ⟨h0, h1, -, h3⟩ := id h
  intro d
  induction d with
  | zero =>
    intro x f hx hf
    obtain ⟨f', rfl⟩ : ∃ f', f = f' + 1 := ⟨f - 1, by omega⟩
    rw [f_X2_cuttable_L5, h1, if_pos (nI_le (by omega) (by omega)), show x = n by omega]
  | succ d ih =>
    intro x f hx hf
    obtain ⟨f', rfl⟩ : ∃ f', f = f' + 1 := ⟨f - 1, by omega⟩
    have q1 := ih (x + 1) f' (by omega) (by omega)
    obtain ⟨d1, d2, -⟩ := h3 x (by omega)
    rw [f_X2_cuttable_L5, h1, if_neg (nI_ge (by omega) (by omega)), e_callsOf8 h (by omega), bnd_some, nI_1]
    by_cases z : M q (D x) &&& K x = 0
    · rw [alN_n (fun w => w.1 z)] at q1
      rw [if_pos z]
      exact q1
    · rw [if_neg z, ixT (show x < 10 by omega) (by omega), if_pos rfl, nI_clamp (n := x) (by omega), d2]
      unfold nm
      dsimp only
      rw [ixT d1 (by omega), if_pos rfl, nI_clamp (n := D x) (by omega)]
      by_cases w : (M q (D x) &&& K x) &&& M q2 (D x) = 0
      · rw [alN_y ⟨z, w⟩] at q1
        rw [if_pos w, or_2p (by omega) (alN_lt D K (M q) (M q2) x)]
        exact q1
      · rw [alN_n (fun v => w v.2)] at q1
        rw [if_neg w]
        exact q1
theorem e_cuttable {fu : Nat} (hfu : 51200 < fu) {M : Mem} {n : Nat} {D : Nat → Nat} {K t g : Nat → Int32} (h : EF M n D K t g) (q q2 : Nat) : f_X2_cuttable fu q q2 M = some (nI (alN D K (M q) (M q2) n), M) :=
  cu_L h (fun M5 y6 _ => some (y6, M5)) n 0 fu (by omega) (by have := h.1; omega)
theorem sub_al {n : Nat} (hn : n ≤ 10) {D : Nat → Nat} {K L Y : Nat → Int32} {x : Nat} (hx : x < 1024) : (nI x &&& (nI (alN D K L Y n) ^^^ (-1))) = 0 ↔ x < 2 ^ n ∧ ∀ e, e < n → bt (nI x) e = true → alE D K L Y e := by
  have q := sbs_bt (x := nI x) (P := nI (alN D K L Y n))
  unfold sbs at q
  rw [q]
  constructor
  · intro h
    have hb : ∀ e, e < 32 → x.testBit e = true → e < n ∧ alE D K L Y e := fun e he w => by
      have := h e he (by rw [bt_nI _ he]; exact w)
      rw [bt_nI _ he, alN_bit] at this
      exact this
    refine ⟨?_, fun e he w => (hb e (by omega) (by rw [← bt_nI _ (by omega)]; exact w)).2⟩
    refine Nat.lt_pow_two_of_testBit x (fun i hi => ?_)
    cases hxi : x.testBit i
    · rfl
    · rcases Nat.lt_or_ge i 32 with w | w
      · have := (hb i w hxi).1; omega
      · rw [Nat.testBit_lt_two_pow (Nat.lt_of_lt_of_le (show x < 2 ^ 10 by omega) (Nat.pow_le_pow_right (by omega) (by omega)))] at hxi
        exact absurd hxi (by decide)
  · rintro ⟨h1, h2⟩ e he w
    rw [bt_nI _ he] at w
    have hen : e < n := by
      rcases Nat.lt_or_ge e n with v | v
      · exact v
      · rw [hi_bit h1 v] at w; exact absurd w (by decide)
    rw [bt_nI _ he, alN_bit]
    exact ⟨hen, h2 e hen (by rw [bt_nI _ he]; exact w)⟩
theorem sub_le {n : Nat} (hn : n ≤ 10) {D : Nat → Nat} {K t g L Y : Nat → Int32} {pw c : Nat} (h : PB n D K t g L Y pw c) : c ≤ alN D K L Y n := by
  refine Nat.le_of_testBit (fun i => ?_)
  cases hc : c.testBit i
  · exact Bool.false_le _
  · have hin : i < n := by
      rcases Nat.lt_or_ge i n with v | v
      · exact v
      · rw [hi_bit h.1 v] at hc; exact absurd hc (by decide)
    have := (alN_bit D K L Y n i).mpr ⟨hin, h.2.1 i hin (by rw [bt_nI _ (by omega)]; exact hc)⟩
    rw [this]
    exact fun _ => rfl
