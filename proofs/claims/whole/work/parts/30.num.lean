/-! Numbers and bits. The first families are pasted from the laws that are given for pasting (bits; counts). -/
/-! ===== Int32 by its bits: bt x i ===== -/
def bt (x : Int32) (i : Nat) : Bool := x.toBitVec.getLsbD i
theorem b_ext {x y : Int32} (h : ∀ i, i < 32 → bt x i = bt y i) : x = y := Int32.toBitVec_inj.mp (BitVec.eq_of_getLsbD_eq (fun i hi => h i hi))
theorem b_or (x y : Int32) (i : Nat) : bt (x ||| y) i = (bt x i || bt y i) := by unfold bt; rw [Int32.toBitVec_or, BitVec.getLsbD_or]
theorem b_and (x y : Int32) (i : Nat) : bt (x &&& y) i = (bt x i && bt y i) := by unfold bt; rw [Int32.toBitVec_and, BitVec.getLsbD_and]
theorem b_xor (x y : Int32) (i : Nat) : bt (x ^^^ y) i = (bt x i ^^ bt y i) := by unfold bt; rw [Int32.toBitVec_xor, BitVec.getLsbD_xor]
theorem b_big {x : Int32} {i : Nat} (h : 32 ≤ i) : bt x i = false := BitVec.getLsbD_of_ge _ _ h
theorem b_255 (i : Nat) : bt 255 i = decide (i < 8) := by
  rcases Nat.lt_or_ge i 32 with h | h
  · exact (by decide +kernel : ∀ i, i < 32 → bt 255 i = decide (i < 8)) i h
  · rw [b_big h, decide_eq_false (by omega)]
theorem b_65535 (i : Nat) : bt 65535 i = decide (i < 16) := by
  rcases Nat.lt_or_ge i 32 with h | h
  · exact (by decide +kernel : ∀ i, i < 32 → bt 65535 i = decide (i < 16)) i h
  · rw [b_big h, decide_eq_false (by omega)]
theorem b_m1 : ∀ i, i < 32 → bt (-1) i = true := by decide +kernel
theorem b_0 (i : Nat) : bt 0 i = false := BitVec.getLsbD_zero
theorem s_l : ∀ n, n < 32 → ((nI n &&& 31).toBitVec.smod 32).toNat = n := by decide +kernel
theorem s_u : ∀ n, n < 32 → (((nI n).toUInt32 &&& Int32.toUInt32 31).toBitVec % 32).toNat = n := by decide +kernel
theorem b_shl (n : Nat) (hn : n < 32) (x : Int32) {i : Nat} (hi : i < 32) : bt (x <<< (nI n &&& 31)) i = (decide (n ≤ i) && bt x (i - n)) := by
  unfold bt
  rw [Int32.toBitVec_shiftLeft]
  show (x.toBitVec <<< ((nI n &&& 31).toBitVec.smod 32).toNat).getLsbD i = _
  rw [s_l n hn, BitVec.getLsbD_shiftLeft]
  rcases Nat.lt_or_ge i n with h | h
  · simp [h, Nat.not_le.mpr h]
  · simp [hi, h, Nat.not_lt.mpr h]
theorem b_ushr (n : Nat) (hn : n < 32) (x : Int32) (i : Nat) : bt ((x.toUInt32 >>> ((nI n).toUInt32 &&& Int32.toUInt32 31)).toInt32) i = bt x (n + i) := by
  show (x.toUInt32 >>> ((nI n).toUInt32 &&& Int32.toUInt32 31)).toBitVec.getLsbD i = x.toUInt32.toBitVec.getLsbD (n + i)
  rw [UInt32.toBitVec_shiftRight]
  show (x.toUInt32.toBitVec >>> (((nI n).toUInt32 &&& Int32.toUInt32 31).toBitVec % 32).toNat).getLsbD i = _
  rw [s_u n hn, BitVec.getLsbD_ushiftRight]
theorem b_sshr (n : Nat) (hn : n < 32) (x : Int32) {i : Nat} (hi : i < 32) : bt (x >>> (nI n &&& 31)) i = if n + i < 32 then bt x (n + i) else bt x 31 := by
  unfold bt
  rw [Int32.toBitVec_shiftRight]
  show (x.toBitVec.sshiftRight ((nI n &&& 31).toBitVec.smod 32).toNat).getLsbD i = _
  rw [s_l n hn, BitVec.getLsbD_sshiftRight, BitVec.msb_eq_getLsbD_last]
  simp [hi]
theorem b_shl8 (x : Int32) {i : Nat} (hi : i < 32) : bt (x <<< ((8 : Int32) &&& 31)) i = (decide (8 ≤ i) && bt x (i - 8)) := b_shl 8 (by omega) x hi
theorem b_shl16 (x : Int32) {i : Nat} (hi : i < 32) : bt (x <<< ((16 : Int32) &&& 31)) i = (decide (16 ≤ i) && bt x (i - 16)) := b_shl 16 (by omega) x hi
theorem b_shl24 (x : Int32) {i : Nat} (hi : i < 32) : bt (x <<< ((24 : Int32) &&& 31)) i = (decide (24 ≤ i) && bt x (i - 24)) := b_shl 24 (by omega) x hi
theorem b_sshr8 (x : Int32) {i : Nat} (hi : i < 32) : bt (x >>> ((8 : Int32) &&& 31)) i = if 8 + i < 32 then bt x (8 + i) else bt x 31 := b_sshr 8 (by omega) x hi
/-! ===== nI under and, xor, >>>, one bit, 65535 ===== -/
theorem nx_and (a b : Nat) : nI a &&& nI b = nI (a &&& b) := by
  apply Int32.toBitVec_inj.1
  show BitVec.ofNat 32 a &&& BitVec.ofNat 32 b = BitVec.ofNat 32 (a &&& b)
  apply BitVec.eq_of_getLsbD_eq
  intro i hi
  simp [hi]
theorem nx_xor (a b : Nat) : nI a ^^^ nI b = nI (a ^^^ b) := by
  apply Int32.toBitVec_inj.1
  show BitVec.ofNat 32 a ^^^ BitVec.ofNat 32 b = BitVec.ofNat 32 (a ^^^ b)
  apply BitVec.eq_of_getLsbD_eq
  intro i hi
  simp [hi]
/-! ===== drawers: more things than places ===== -/
theorem fb_holes : ∀ (m n : Nat) (f : Nat → Nat), (∀ i, i < n → f i < m) → (∀ i j, i < j → j < n → f i ≠ f j) → n ≤ m := by
  intro m
  induction m with
  | zero =>
    intro n f h1 _
    rcases Nat.eq_zero_or_pos n with h | h
    · omega
    · exact absurd (h1 0 h) (Nat.not_lt_zero _)
  | succ m ih =>
    intro n f h1 h2
    by_cases hx : ∃ i, i < n ∧ f i = m
    · obtain ⟨a, ha, hfa⟩ := hx
      have hg := ih (n - 1) (fun i => if i < a then f i else f (i + 1)) (by
        intro i hi
        by_cases q : i < a
        · simp only [if_pos q]
          have b1 := h1 i (by omega)
          have b2 := h2 i a q ha
          omega
        · simp only [if_neg q]
          have b1 := h1 (i + 1) (by omega)
          have b2 := h2 a (i + 1) (by omega) (by omega)
          omega) (by
        intro i j hij hj
        by_cases q : i < a
        · by_cases r : j < a
          · simp only [if_pos q, if_pos r]
            exact h2 i j hij (by omega)
          · simp only [if_pos q, if_neg r]
            exact h2 i (j + 1) (by omega) (by omega)
        · have r : ¬ j < a := by omega
          simp only [if_neg q, if_neg r]
          exact h2 (i + 1) (j + 1) (by omega) (by omega))
      omega
    · have hg := ih n f (fun i hi => by
        have b1 := h1 i hi
        have b2 : f i ≠ m := fun e => hx ⟨i, hi, e⟩
        omega) h2
      omega
/-- two of them in one place -/
theorem fb_twice {m n : Nat} {f : Nat → Nat} (h : ∀ i, i < n → f i < m) (hm : m < n) : ∃ i j, i < j ∧ j < n ∧ f i = f j := by
  refine Classical.byContradiction fun hx => ?_
  have := fb_holes m n f h (fun i j hij hj e => hx ⟨i, j, hij, hj, e⟩)
  omega
/-- as many as places, none twice: each place is taken -/
theorem fb_onto {n : Nat} {f : Nat → Nat} (h : ∀ i, i < n → f i < n) (h2 : ∀ i j, i < j → j < n → f i ≠ f j) {y : Nat} (hy : y < n) : ∃ i, i < n ∧ f i = y := by
  refine Classical.byContradiction fun hx => ?_
  have hne : ∀ i, i < n → f i ≠ y := fun i hi e => hx ⟨i, hi, e⟩
  have := fb_holes (n - 1) n (fun i => if f i < y then f i else f i - 1) (by
    intro i hi
    have b1 := h i hi
    have b2 := hne i hi
    by_cases q : f i < y
    · simp only [if_pos q]; omega
    · simp only [if_neg q]; omega) (by
    intro i j hij hj
    have b1 := hne i (by omega)
    have b2 := hne j hj
    have b3 := h2 i j hij hj
    by_cases q : f i < y
    · by_cases r : f j < y
      · simp only [if_pos q, if_pos r]; exact b3
      · simp only [if_pos q, if_neg r]; omega
    · by_cases r : f j < y
      · simp only [if_neg q, if_pos r]; omega
      · simp only [if_neg q, if_neg r]; omega)
  omega

/-! ===== how many places have a property ===== -/
def fb_ct (p : Nat → Bool) : Nat → Nat
  | 0 => 0
  | n + 1 => fb_ct p n + (if p n then 1 else 0)
theorem fb_ct_succ (p : Nat → Bool) (n : Nat) : fb_ct p (n + 1) = fb_ct p n + (if p n then 1 else 0) := rfl
theorem fb_ct_le (p : Nat → Bool) : ∀ n, fb_ct p n ≤ n
  | 0 => Nat.le_refl _
  | n + 1 => by
    have h := fb_ct_le p n
    rw [fb_ct_succ]
    split <;> omega
theorem fb_ct_step (p : Nat → Bool) (m : Nat) : ∀ n, fb_ct p m ≤ fb_ct p (m + n)
  | 0 => Nat.le_refl _
  | n + 1 => by
    have h := fb_ct_step p m n
    show fb_ct p m ≤ fb_ct p (m + n + 1)
    rw [fb_ct_succ]
    omega
theorem fb_ct_mono (p : Nat → Bool) {m n : Nat} (h : m ≤ n) : fb_ct p m ≤ fb_ct p n := by
  have := fb_ct_step p m (n - m)
  rwa [Nat.add_sub_cancel' h] at this
theorem fb_ct_cong {p q : Nat → Bool} : ∀ {n : Nat}, (∀ k, k < n → p k = q k) → fb_ct p n = fb_ct q n
  | 0, _ => rfl
  | n + 1, h => by
    rw [fb_ct_succ, fb_ct_succ, fb_ct_cong (fun k hk => h k (by omega)), h n (by omega)]
/-- one place changed -/
theorem fb_ct_out (p : Nat → Bool) (b : Bool) {i n : Nat} (h : n ≤ i) : fb_ct (fun k => if k = i then b else p k) n = fb_ct p n :=
  fb_ct_cong fun k hk => if_neg (by omega)
theorem fb_ct_upd (p : Nat → Bool) (b : Bool) {i : Nat} : ∀ {n : Nat}, i < n → fb_ct (fun k => if k = i then b else p k) n + (if p i then 1 else 0) = fb_ct p n + (if b then 1 else 0)
  | 0, h => absurd h (Nat.not_lt_zero i)
  | n + 1, h => by
    rw [fb_ct_succ, fb_ct_succ]
    rcases Nat.lt_or_ge i n with q | q
    · have := fb_ct_upd p b q
      have e : (if n = i then b else p n) = p n := if_neg (by omega)
      rw [e]
      omega
    · have e : i = n := by omega
      subst e
      rw [fb_ct_out p b (Nat.le_refl _)]
      simp only [if_true]
      omega
theorem fb_ct_sub {p q : Nat → Bool} : ∀ {n : Nat}, (∀ k, k < n → p k = true → q k = true) → fb_ct p n ≤ fb_ct q n
  | 0, _ => Nat.le_refl _
  | n + 1, h => by
    have h1 := fb_ct_sub (n := n) (p := p) (q := q) (fun k hk => h k (by omega))
    have h2 := h n (by omega)
    rw [fb_ct_succ, fb_ct_succ]
    cases hp : p n <;> cases hq : q n <;> simp_all <;> omega
theorem fb_ct_or {p q : Nat → Bool} : ∀ {n : Nat}, (∀ k, k < n → ¬ (p k = true ∧ q k = true)) → fb_ct (fun k => p k || q k) n = fb_ct p n + fb_ct q n
  | 0, _ => rfl
  | n + 1, h => by
    have h1 := fb_ct_or (n := n) (p := p) (q := q) (fun k hk => h k (by omega))
    have h2 := h n (by omega)
    rw [fb_ct_succ, fb_ct_succ, fb_ct_succ, h1]
    cases hp : p n <;> cases hq : q n <;> simp_all <;> omega
theorem fb_ct_not (p : Nat → Bool) : ∀ n, fb_ct p n + fb_ct (fun k => !p k) n = n
  | 0 => rfl
  | n + 1 => by
    have h := fb_ct_not p n
    rw [fb_ct_succ, fb_ct_succ]
    cases p n <;> simp <;> omega
theorem fb_ct_split (p : Nat → Bool) (m : Nat) : ∀ n, fb_ct p (m + n) = fb_ct p m + fb_ct (fun k => p (m + k)) n
  | 0 => rfl
  | n + 1 => by
    have h := fb_ct_split p m n
    show fb_ct p (m + n + 1) = _
    rw [fb_ct_succ, fb_ct_succ, h, Nat.add_assoc]
theorem fb_ct_zero {p : Nat → Bool} : ∀ {n : Nat}, fb_ct p n = 0 ↔ ∀ k, k < n → p k = false
  | 0 => ⟨fun _ k hk => absurd hk (Nat.not_lt_zero k), fun _ => rfl⟩
  | n + 1 => by
    have h := fb_ct_zero (p := p) (n := n)
    rw [fb_ct_succ]
    constructor
    · intro e k hk
      have e1 : fb_ct p n = 0 := by omega
      rcases Nat.lt_or_ge k n with q | q
      · exact h.mp e1 k q
      · have ek : k = n := by omega
        subst ek
        cases hp : p k
        · rfl
        · simp [hp] at e
    · intro a
      rw [h.mpr (fun k hk => a k (by omega)), a n (by omega)]
      rfl
theorem fb_ct_pos {p : Nat → Bool} {n : Nat} : 0 < fb_ct p n ↔ ∃ k, k < n ∧ p k = true := by
  constructor
  · intro h
    refine Classical.byContradiction fun hx => ?_
    have := fb_ct_zero.mpr (fun k hk => by
      cases hp : p k
      · rfl
      · exact absurd ⟨k, hk, hp⟩ hx : ∀ k, k < n → p k = false)
    omega
  · rintro ⟨k, hk, hp⟩
    rcases Nat.eq_zero_or_pos (fb_ct p n) with e | e
    · have := fb_ct_zero.mp e k hk
      rw [this] at hp
      cases hp
    · exact e
theorem fb_ct_all {p : Nat → Bool} {n : Nat} : fb_ct p n = n ↔ ∀ k, k < n → p k = true := by
  have h := fb_ct_not p n
  constructor
  · intro e k hk
    have z : fb_ct (fun k => !p k) n = 0 := by omega
    have := fb_ct_zero.mp z k hk
    cases hp : p k
    · simp [hp] at this
    · rfl
  · intro a
    have z : fb_ct (fun k => !p k) n = 0 := fb_ct_zero.mpr (fun k hk => by simp [a k hk])
    omega
/-- the k-th place with the property -/
theorem fb_ct_kth {p : Nat → Bool} {k : Nat} : ∀ {n : Nat}, k < fb_ct p n → ∃ i, i < n ∧ p i = true ∧ fb_ct p i = k
  | 0, h => absurd h (Nat.not_lt_zero k)
  | n + 1, h => by
    rcases Nat.lt_or_ge k (fb_ct p n) with q | q
    · obtain ⟨i, h1, h2⟩ := fb_ct_kth q
      exact ⟨i, by omega, h2⟩
    · rw [fb_ct_succ] at h
      cases hp : p n
      · simp [hp] at h; omega
      · simp [hp] at h
        exact ⟨n, by omega, hp, by omega⟩
theorem fb_ct_kth_one {p : Nat → Bool} {i j : Nat} (hi : p i = true) (hj : p j = true) (e : fb_ct p i = fb_ct p j) : i = j := by
  have key : ∀ a b : Nat, a < b → p a = true → fb_ct p a < fb_ct p b := by
    intro a b hab ha
    have h := fb_ct_mono p (show a + 1 ≤ b from hab)
    rw [fb_ct_succ, ha] at h
    simp at h
    omega
  rcases Nat.lt_trichotomy i j with q | q | q
  · have := key i j q hi; omega
  · exact q
  · have := key j i q hj; omega

/-! own rows on numbers -/
theorem bt_nI (x : Nat) {i : Nat} (hi : i < 32) : bt (nI x) i = x.testBit i := by
  unfold bt
  show (BitVec.ofNat 32 x).getLsbD i = _
  rw [BitVec.getLsbD_ofNat]
  simp [hi]
theorem of32 (x : Int32) : ∃ n, n < 2 ^ 32 ∧ x = nI n := by
  refine ⟨x.toBitVec.toNat, x.toBitVec.isLt, ?_⟩
  apply Int32.toBitVec_inj.1
  show x.toBitVec = BitVec.ofNat 32 _
  simp
theorem ixT {i n : Nat} (h : i < n) (hn : n < 2 ^ 31) : ix (nI i) n = true := decide_eq_true (vp_in_nI h hn)
theorem ixF {i n : Nat} (h : n ≤ i) (hi : i < 2 ^ 31) : ix (nI i) n = false := by
  apply decide_eq_false
  intro h2
  apply h2
  right
  rw [nI_clamp hi]
  exact h
theorem nI_m1 {a : Nat} (h : a < 2 ^ 31) : ¬ nI a = (-1 : Int32) := by
  intro e
  have h1 := congrArg Int32.toInt e
  rw [nI_toInt h] at h1
  have h2 : ((-1 : Int32)).toInt = -1 := by decide
  omega
theorem b_1 : ∀ i, i < 32 → bt 1 i = decide (i = 0) := by decide +kernel
theorem and1 (y : Int32) : y &&& 1 = 0 ↔ bt y 0 = false := by
  constructor
  · intro h
    have h1 : bt (y &&& 1) 0 = bt 0 0 := by rw [h]
    rw [b_and, b_1 0 (by omega), b_0] at h1
    simpa using h1
  · intro h
    apply b_ext
    intro i hi
    rw [b_and, b_1 i hi, b_0]
    by_cases e : i = 0
    · subst e; rw [h]; rfl
    · simp [e]
theorem usr_bt (x : Int32) {b : Nat} (hb : b < 32) (i : Nat) : bt (usr x (nI b)) i = bt x (b + i) := b_ushr b hb x i
theorem e_holds (x : Int32) {b : Nat} (hb : b < 32) (M : Mem) : f_X8_holds x (nI b) M = some (if bt x b then 1 else 0, M) := by
  unfold f_X8_holds
  by_cases h : bt x b = true
  · rw [if_neg (fun e => by rw [and1, usr_bt x hb, Nat.add_zero] at e; rw [h] at e; cases e), h]; rfl
  · have h2 : bt x b = false := by simpa using h
    rw [if_pos ((and1 _).mpr (by rw [usr_bt x hb, Nat.add_zero]; exact h2)), h2]; rfl
theorem hot : ∀ j, j < 32 → ∀ i, i < 32 → bt ((1 : Int32) <<< (nI j &&& 31)) i = decide (i = j) := by decide +kernel
theorem b_not (x : Int32) {i : Nat} (hi : i < 32) : bt (x ^^^ (-1)) i = !bt x i := by
  rw [b_xor, b_m1 i hi]
  cases bt x i <;> rfl
theorem zero_bt {x : Int32} : x = 0 ↔ ∀ i, i < 32 → bt x i = false := by
  constructor
  · intro h i _; rw [h]; exact b_0 i
  · intro h; apply b_ext; intro i hi; rw [h i hi, b_0]
theorem nz_bt {x : Int32} (h : ¬ x = 0) : ∃ i, i < 32 ∧ bt x i = true := by
  rcases Classical.em (∃ i, i < 32 ∧ bt x i = true) with h1 | h1
  · exact h1
  · exfalso
    apply h
    rw [zero_bt]
    intro i hi
    cases e : bt x i with
    | false => rfl
    | true => exact absurd ⟨i, hi, e⟩ h1
/-! how many bits: Integer.bitCount -/
theorem and_split (a b c d k : Nat) (ha : a < 2 ^ k) (hc : c < 2 ^ k) : (2 ^ k * b + a) &&& (2 ^ k * d + c) = 2 ^ k * (b &&& d) + (a &&& c) := by
  apply Nat.eq_of_testBit_eq
  intro i
  rw [Nat.testBit_and, Nat.testBit_two_pow_mul_add _ ha, Nat.testBit_two_pow_mul_add _ hc, Nat.testBit_two_pow_mul_add _ (Nat.and_lt_two_pow _ hc)]
  split <;> simp [Nat.testBit_and]
def pw (w : Nat) : Nat := fb_ct w.testBit 8
def ph1 (w : Nat) : Nat := w - ((w / 2) &&& 85)
def ph2 (w : Nat) : Nat := (ph1 w &&& 51) + ((ph1 w / 4) &&& 51)
theorem pq_1 : ∀ c, c < 2 → ∀ w, w < 256 → (c * 128 + w / 2) &&& 85 = (w / 2) &&& 85 := by decide +kernel
theorem pq_2 : ∀ c, c < 4 → ∀ w, w < 256 → (c * 64 + w / 4) &&& 51 = (w / 4) &&& 51 := by decide +kernel
theorem pq_3 : ∀ w, w < 256 → ph1 w < 256 ∧ ph2 w ≤ 68 ∧ ph2 w % 16 ≤ 4 ∧ pw w ≤ 8 := by decide +kernel
theorem pq_4 : ∀ c, c < 5 → ∀ w, w < 256 → (ph2 w + ph2 w / 16 + 16 * c) &&& 15 = pw w ∧ ph2 w + ph2 w / 16 + 16 * c < 256 := by decide +kernel
theorem st_1 (X w m : Nat) (hw : w < 256) : ((256 * X + w) / 2) &&& (256 * m + 85) = 256 * ((X / 2) &&& m) + ((w / 2) &&& 85) := by
  have e : (256 * X + w) / 2 = 2 ^ 8 * (X / 2) + (X % 2 * 128 + w / 2) := by omega
  rw [e, show 256 * m + 85 = 2 ^ 8 * m + 85 by omega, and_split _ _ _ _ 8 (by omega) (by omega), pq_1 _ (by omega) w hw]
theorem st_2 (X w m : Nat) (hw : w < 256) : (((256 * X + w) &&& (256 * m + 51)) = 256 * (X &&& m) + (w &&& 51)) ∧ (((256 * X + w) / 4) &&& (256 * m + 51)) = 256 * ((X / 4) &&& m) + ((w / 4) &&& 51) := by
  constructor
  · rw [show 256 * X + w = 2 ^ 8 * X + w by omega, show 256 * m + 51 = 2 ^ 8 * m + 51 by omega, and_split _ _ _ _ 8 (by omega) (by omega)]
  · have e : (256 * X + w) / 4 = 2 ^ 8 * (X / 4) + (X % 4 * 64 + w / 4) := by omega
    rw [e, show 256 * m + 51 = 2 ^ 8 * m + 51 by omega, and_split _ _ _ _ 8 (by omega) (by omega), pq_2 _ (by omega) w hw]
theorem pc_nat {w0 w1 w2 w3 : Nat} (h0 : w0 < 256) (h1 : w1 < 256) (h2 : w2 < 256) (h3 : w3 < 256) (x : Nat) (hx : x = 256 * (256 * (256 * w3 + w2) + w1) + w0) :
    ∃ v1 v2 v3, v1 = x - ((x / 2) &&& 1431655765) ∧ v1 ≤ x ∧ v2 = (v1 &&& 858993459) + ((v1 / 4) &&& 858993459) ∧ v3 = ((v2 + v2 / 16) &&& 252645135) ∧ v2 < 2 ^ 32 ∧ v3 = 256 * (256 * (256 * pw w3 + pw w2) + pw w1) + pw w0 := by
  obtain ⟨a0, b0, c0, d0⟩ := pq_3 w0 h0
  obtain ⟨a1, b1, c1, d1⟩ := pq_3 w1 h1
  obtain ⟨a2, b2, c2, d2⟩ := pq_3 w2 h2
  obtain ⟨a3, b3, c3, d3⟩ := pq_3 w3 h3
  have m0 : ∀ w : Nat, ((w / 2) &&& 85) ≤ w := fun w => Nat.le_trans Nat.and_le_left (Nat.div_le_self _ _)
  have e1 : (x / 2) &&& 1431655765 = 256 * (256 * (256 * ((w3 / 2) &&& 85) + ((w2 / 2) &&& 85)) + ((w1 / 2) &&& 85)) + ((w0 / 2) &&& 85) := by
    rw [hx, show 1431655765 = 256 * (256 * (256 * 85 + 85) + 85) + 85 by decide, st_1 _ _ _ h0, st_1 _ _ _ h1, st_1 _ _ _ h2]
  have e2 : x - ((x / 2) &&& 1431655765) = 256 * (256 * (256 * ph1 w3 + ph1 w2) + ph1 w1) + ph1 w0 := by
    rw [e1, hx]
    unfold ph1
    have := m0 w0; have := m0 w1; have := m0 w2; have := m0 w3
    omega
  refine ⟨_, _, _, rfl, by omega, rfl, rfl, ?_, ?_⟩
  · rw [e2, show 858993459 = 256 * (256 * (256 * 51 + 51) + 51) + 51 by decide, (st_2 _ _ _ a0).1, (st_2 _ _ _ a1).1, (st_2 _ _ _ a2).1, (st_2 _ _ _ a0).2, (st_2 _ _ _ a1).2, (st_2 _ _ _ a2).2]
    have k0 : (ph1 w0 &&& 51) + ((ph1 w0 / 4) &&& 51) = ph2 w0 := rfl
    have k1 : (ph1 w1 &&& 51) + ((ph1 w1 / 4) &&& 51) = ph2 w1 := rfl
    have k2 : (ph1 w2 &&& 51) + ((ph1 w2 / 4) &&& 51) = ph2 w2 := rfl
    have k3 : (ph1 w3 &&& 51) + ((ph1 w3 / 4) &&& 51) = ph2 w3 := rfl
    omega
  · rw [e2, show 858993459 = 256 * (256 * (256 * 51 + 51) + 51) + 51 by decide, (st_2 _ _ _ a0).1, (st_2 _ _ _ a1).1, (st_2 _ _ _ a2).1, (st_2 _ _ _ a0).2, (st_2 _ _ _ a1).2, (st_2 _ _ _ a2).2]
    have k0 : (ph1 w0 &&& 51) + ((ph1 w0 / 4) &&& 51) = ph2 w0 := rfl
    have k1 : (ph1 w1 &&& 51) + ((ph1 w1 / 4) &&& 51) = ph2 w1 := rfl
    have k2 : (ph1 w2 &&& 51) + ((ph1 w2 / 4) &&& 51) = ph2 w2 := rfl
    have k3 : (ph1 w3 &&& 51) + ((ph1 w3 / 4) &&& 51) = ph2 w3 := rfl
    have q0 := pq_4 (ph2 w1 % 16) (by omega) w0 h0
    have q1 := pq_4 (ph2 w2 % 16) (by omega) w1 h1
    have q2 := pq_4 (ph2 w3 % 16) (by omega) w2 h2
    have q3 := pq_4 0 (by omega) w3 h3
    generalize hv : 256 * (256 * (256 * (ph1 w3 &&& 51) + (ph1 w2 &&& 51)) + (ph1 w1 &&& 51)) + (ph1 w0 &&& 51) + (256 * (256 * (256 * ((ph1 w3 / 4) &&& 51) + ((ph1 w2 / 4) &&& 51)) + ((ph1 w1 / 4) &&& 51)) + ((ph1 w0 / 4) &&& 51)) = v
    have ev : v = 256 * (256 * (256 * ph2 w3 + ph2 w2) + ph2 w1) + ph2 w0 := by omega
    have e3 : v + v / 16 = 2 ^ 8 * (2 ^ 8 * (2 ^ 8 * (ph2 w3 + ph2 w3 / 16 + 16 * 0) + (ph2 w2 + ph2 w2 / 16 + 16 * (ph2 w3 % 16))) + (ph2 w1 + ph2 w1 / 16 + 16 * (ph2 w2 % 16))) + (ph2 w0 + ph2 w0 / 16 + 16 * (ph2 w1 % 16)) := by omega
    rw [e3, show 252645135 = 2 ^ 8 * (2 ^ 8 * (2 ^ 8 * 15 + 15) + 15) + 15 by decide, and_split _ _ _ _ 8 q0.2 (by omega), and_split _ _ _ _ 8 q1.2 (by omega), and_split _ _ _ _ 8 q2.2 (by omega), q0.1, q1.1, q2.1, q3.1]
def pc (x : Int32) : Nat := fb_ct (bt x) 32
theorem tb_split (X w : Nat) (hw : w < 256) (n : Nat) : fb_ct (256 * X + w).testBit (8 + n) = pw w + fb_ct X.testBit n := by
  rw [fb_ct_split]
  have e : ∀ j, (256 * X + w).testBit j = if j < 8 then w.testBit j else X.testBit (j - 8) := fun j => Nat.testBit_two_pow_mul_add (i := 8) X (by omega) j
  congr 1
  · exact fb_ct_cong (fun k hk => by rw [e, if_pos hk])
  · exact fb_ct_cong (fun k hk => by rw [e, if_neg (by omega), show 8 + k - 8 = k by omega])
theorem e_bitCount (x : Int32) (M : Mem) : f_J6_bitCount_0f7a4 x M = some (nI (pc x), M) := by
  obtain ⟨n, hn, rfl⟩ := of32 x
  have hw0 : n % 256 < 256 := by omega
  have hw1 : n / 256 % 256 < 256 := by omega
  have hw2 : n / 65536 % 256 < 256 := by omega
  have hw3 : n / 16777216 < 256 := by omega
  obtain ⟨v1, v2, v3, e1, l1, e2, e3, l2, e4⟩ := pc_nat hw0 hw1 hw2 hw3 n (by omega)
  have u : ∀ (v : Nat) (k : Nat), v < 2 ^ 32 → k < 32 → usr (nI v) (nI k) = nI (v / 2 ^ k) := fun v k hv hk => pk_ushrN hv (nI k) k (s_u k hk)
  have p0 := (pq_3 _ hw0).2.2.2
  have p1 := (pq_3 _ hw1).2.2.2
  have p2 := (pq_3 _ hw2).2.2.2
  have p3 := (pq_3 _ hw3).2.2.2
  have epc : pc (nI n) = pw (n % 256) + (pw (n / 256 % 256) + (pw (n / 65536 % 256) + pw (n / 16777216))) := by
    unfold pc
    rw [fb_ct_cong (fun k hk => bt_nI n hk), show n = 256 * (256 * (256 * (n / 16777216) + n / 65536 % 256) + n / 256 % 256) + n % 256 by omega]
    rw [show (32 : Nat) = 8 + 24 by rfl, tb_split _ _ (by omega), show (24 : Nat) = 8 + 16 by rfl, tb_split _ _ (by omega), show (16 : Nat) = 8 + 8 by rfl, tb_split _ _ (by omega)]
    have g0 : (256 * (256 * (256 * (n / 16777216) + n / 65536 % 256) + n / 256 % 256) + n % 256) = n := by omega
    rw [g0]
    rfl
  unfold f_J6_bitCount_0f7a4 nm
  dsimp only
  have c1 : (1 : Int32) = nI 1 := rfl
  have c2 : (2 : Int32) = nI 2 := rfl
  have c4 : (4 : Int32) = nI 4 := rfl
  have c8 : (8 : Int32) = nI 8 := rfl
  have c16 : (16 : Int32) = nI 16 := rfl
  have m1 : (1431655765 : Int32) = nI 1431655765 := rfl
  have m2 : (858993459 : Int32) = nI 858993459 := rfl
  have m3 : (252645135 : Int32) = nI 252645135 := rfl
  have m4 : (63 : Int32) = nI 63 := rfl
  have r1 : nI n - (usr (nI n) 1 &&& 1431655765) = nI v1 := by
    rw [c1, m1, u n 1 hn (by omega), nx_and, pk_sub (Nat.le_trans Nat.and_le_left (Nat.div_le_self _ _)), e1]
  have r2 : (nI v1 &&& 858993459) + (usr (nI v1) 2 &&& 858993459) = nI v2 := by
    rw [c2, m2, u v1 2 (by omega) (by omega), nx_and, nx_and, nI_add, e2]
  have r3 : (nI v2 + usr (nI v2) 4) &&& 252645135 = nI v3 := by
    rw [c4, m3, u v2 4 l2 (by omega), nI_add, nx_and, e3]
  have r4 : nI v3 + usr (nI v3) 8 = nI (v3 + v3 / 256) := by
    rw [c8, u v3 8 (by omega) (by omega), nI_add]
  have r5 : nI (v3 + v3 / 256) + usr (nI (v3 + v3 / 256)) 16 = nI (v3 + v3 / 256 + (v3 + v3 / 256) / 65536) := by
    rw [c16, u (v3 + v3 / 256) 16 (by omega) (by omega), nI_add]
  rw [r1, r2, r3, r4, r5, m4, nx_and, epc]
  have r6 : (v3 + v3 / 256 + (v3 + v3 / 256) / 65536) &&& 63 = (v3 + v3 / 256 + (v3 + v3 / 256) / 65536) % 64 := Nat.and_two_pow_sub_one_eq_mod _ 6
  rw [r6]
  congr 3
  clear r1 r2 r3 r4 r5 r6 epc e1 e2 e3
  generalize pw (n % 256) = x0 at *
  generalize pw (n / 256 % 256) = x1 at *
  generalize pw (n / 65536 % 256) = x2 at *
  generalize pw (n / 16777216) = x3 at *
  have d1 : v3 / 256 = 256 * (256 * x3 + x2) + x1 := by omega
  have d2 : (v3 + v3 / 256) / 65536 = 256 * x3 + x2 + x3 := by omega
  have d3 : v3 + v3 / 256 + (v3 + v3 / 256) / 65536 = 64 * (4 * (256 * (256 * x3 + x2 + x3) + x1 + x2 + x3)) + (x0 + (x1 + (x2 + x3))) := by omega
  rw [d3]
  omega
