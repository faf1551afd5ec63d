/-! Rows that reckon the pure functions. -/
theorem fa_or (a b : Nat) : nI a ||| nI b = nI (a ||| b) := by
  apply Int32.toBitVec_inj.1
  show BitVec.ofNat 32 a ||| BitVec.ofNat 32 b = BitVec.ofNat 32 (a ||| b)
  apply BitVec.eq_of_getLsbD_eq
  intro i hi
  simp [hi]
theorem fa_mask (n k : Nat) : nI n &&& nI (2 ^ k - 1) = nI (n % 2 ^ k) := by rw [nx_and, Nat.and_two_pow_sub_one_eq_mod]
theorem fa_or_sum {a k : Nat} (b : Nat) (h : a < 2 ^ k) : nI (2 ^ k * b) ||| nI a = nI (2 ^ k * b + a) := by rw [fa_or, Nat.two_pow_add_eq_or_of_lt h]
theorem upM_ap (M : Mem) (k j : Nat) (v : Int32) (q i : Nat) : upM M k j v q i = if q = k ∧ i = j then v else M q i := by
  unfold upM upd
  by_cases h : q = k
  · subst h
    by_cases h2 : i = j
    · simp [h2]
    · simp [h2]
  · simp [h]
theorem upM_k {M : Mem} {k j : Nat} {v : Int32} {q : Nat} (h : q ≠ k) : upM M k j v q = M q := by
  funext i
  rw [upM_ap, if_neg (fun e => h e.1)]
theorem upM_id (M : Mem) (k j : Nat) {v : Int32} (h : M k j = v) : upM M k j v = M := by
  funext q i
  rw [upM_ap]
  split
  · rename_i e; rw [e.1, e.2, h]
  · rfl
theorem setM_k {M : Mem} {k q : Nat} {f : Nat → Int32} (h : q ≠ k) : setM M k f q = M q := if_neg h
theorem setM_s {M : Mem} {k : Nat} {f : Nat → Int32} : setM M k f k = f := if_pos rfl
theorem setM_id (M : Mem) (k : Nat) {f : Nat → Int32} (h : M k = f) : setM M k f = M := by
  funext q
  by_cases e : q = k
  · rw [e, setM_s, h]
  · rw [setM_k e]
theorem c0 : (0 : Int32) = nI 0 := rfl
theorem c1 : (1 : Int32) = nI 1 := rfl
theorem c2 : (2 : Int32) = nI 2 := rfl
theorem c3 : (3 : Int32) = nI 3 := rfl
theorem c4 : (4 : Int32) = nI 4 := rfl
theorem c5 : (5 : Int32) = nI 5 := rfl
theorem c6 : (6 : Int32) = nI 6 := rfl
theorem c7 : (7 : Int32) = nI 7 := rfl
theorem c8 : (8 : Int32) = nI 8 := rfl
theorem c9 : (9 : Int32) = nI 9 := rfl
theorem c10 : (10 : Int32) = nI 10 := rfl
theorem c11 : (11 : Int32) = nI 11 := rfl
theorem c12 : (12 : Int32) = nI 12 := rfl
theorem c15 : (15 : Int32) = nI 15 := rfl
theorem c20 : (20 : Int32) = nI 20 := rfl
theorem c24 : (24 : Int32) = nI 24 := rfl
theorem c31 : (31 : Int32) = nI 31 := rfl
theorem c32 : (32 : Int32) = nI 32 := rfl
theorem c64 : (64 : Int32) = nI 64 := rfl
theorem c80 : (80 : Int32) = nI 80 := rfl
theorem c255 : (255 : Int32) = nI 255 := rfl
theorem c500 : (500 : Int32) = nI 500 := rfl
theorem c1024 : (1024 : Int32) = nI 1024 := rfl
theorem c2048 : (2048 : Int32) = nI 2048 := rfl
theorem c49152 : (49152 : Int32) = nI 49152 := rfl
theorem c51200 : (51200 : Int32) = nI 51200 := rfl
theorem fill_L (k n : Nat) (hn : n < 2 ^ 31) (v : Int32) (kk : Mem → Int32 → Option (Int32 × Mem)) : ∀ (d i fu : Nat) (M : Mem), i + d = n → d < fu → f_J7_fill_53178_L5 k n v (nI n) kk fu M (nI i) = kk (setM M k (fun j => if i ≤ j ∧ j < n then v else M k j)) (nI n) := by
  intro d
  induction d with
  | zero =>
    intro i fu M hi hf
    obtain ⟨f, rfl⟩ : ∃ f, fu = f + 1 := ⟨fu - 1, by omega⟩
    rw [f_J7_fill_53178_L5, if_pos (nI_le (by omega) (by omega)), setM_id, show i = n by omega]
    funext j
    rw [if_neg (by omega)]
  | succ d ih =>
    intro i fu M hi hf
    obtain ⟨f, rfl⟩ : ∃ f, fu = f + 1 := ⟨fu - 1, by omega⟩
    rw [f_J7_fill_53178_L5, if_neg (nI_ge (by omega) (by omega)), ixT (by omega) hn, if_pos rfl, nI_clamp (by omega)]
    unfold wr
    dsimp only
    rw [nI_1, ih (i + 1) f _ (by omega) (by omega)]
    congr 1
    funext q
    by_cases e : q = k
    · subst e
      rw [setM_s, setM_s]
      funext j
      rw [upM_ap]
      by_cases h1 : j = i
      · rw [if_neg (by omega), if_pos ⟨rfl, h1⟩, if_pos (by omega)]
      · by_cases h2 : i + 1 ≤ j ∧ j < n
        · rw [if_pos h2, if_pos (by omega)]
        · rw [if_neg h2, if_neg (fun e => h1 e.2), if_neg (by omega)]
    · rw [setM_k e, setM_k e, upM_k e]
theorem e_fill {fu k n : Nat} (hn : n < 2 ^ 31) (hf : n < fu) (v : Int32) (M : Mem) : f_J7_fill_53178 fu k n v M = some (0, setM M k (fun j => if j < n then v else M k j)) := by
  unfold f_J7_fill_53178 nm
  dsimp only
  show f_J7_fill_53178_L5 k n v (nI n) _ fu M (nI 0) = _
  rw [fill_L k n hn v _ n 0 fu M (by omega) hf]
  congr 3
  funext j
  by_cases h : j < n
  · rw [if_pos (by omega), if_pos h]
  · rw [if_neg (by omega), if_neg h]
theorem e_args {kt ph d : Nat} (h1 : ph < 2) (h2 : d < 32) (M : Mem) : f_X0_arguments kt (nI ph) (nI d) M = some (M (kt + 1) (32 * ph + d), M) := by
  unfold f_X0_arguments nm
  dsimp only
  rw [c32, pk_mul, nI_add, ixT (by omega) (by omega), if_pos rfl, nI_clamp (by omega), show ph * 32 + d = 32 * ph + d by omega]
theorem e_add {kt ph d : Nat} (h1 : ph < 2) (h2 : d < 32) (v : Int32) (M : Mem) : f_X0_add kt (nI ph) (nI d) v M = some (0, upM M (kt + 1) (32 * ph + d) (M (kt + 1) (32 * ph + d) ||| v)) := by
  unfold f_X0_add nm wr
  dsimp only
  rw [c32, pk_mul, nI_add, ixT (by omega) (by omega), if_pos rfl, if_pos rfl, nI_clamp (by omega), show ph * 32 + d = 32 * ph + d by omega]
theorem e_clear {fu kt : Nat} (hf : 64 < fu) (M : Mem) : f_X0_clear fu kt M = some (0, setM M (kt + 1) (fun j => if j < 64 then 0 else M (kt + 1) j)) := by
  unfold f_X0_clear
  rw [e_fill (by omega) hf]
  rfl
theorem sh_and (k : Nat) (hk : k < 32) : ((nI k &&& 31).toBitVec.smod 32).toNat = k := s_l k hk
theorem shl_n {x k : Nat} (hk : k < 32) (h : x * 2 ^ k < 2 ^ 32) : nI x <<< (nI k &&& 31) = nI (x * 2 ^ k) := pk_shlN _ k (s_l k hk) h
theorem usr_n {x k : Nat} (hk : k < 32) (h : x < 2 ^ 32) : usr (nI x) (nI k) = nI (x / 2 ^ k) := pk_ushrN h (nI k) k (s_u k hk)
/-- a link: parent, whether it opens a group, phase, instruction, register 0 -/
theorem link_n {par o ph t a : Nat} (h1 : par < 49152) (h2 : o < 2) (h3 : ph < 2) (h4 : t < 32) (h5 : a < 32) : ((((nI par <<< ((12 : Int32) &&& (31 : Int32))) ||| nI (2048 * o)) ||| (nI ph <<< ((10 : Int32) &&& (31 : Int32)))) ||| (nI t <<< ((5 : Int32) &&& (31 : Int32)))) ||| nI a = nI (4096 * par + 2048 * o + 1024 * ph + 32 * t + a) := by
  have e1 : nI par <<< ((12 : Int32) &&& (31 : Int32)) = nI (2 ^ 12 * par) := by
    rw [c12, shl_n (by omega) (by omega)]; congr 1; omega
  have e2 : nI ph <<< ((10 : Int32) &&& (31 : Int32)) = nI (1024 * ph) := by
    rw [c10, shl_n (by omega) (by omega)]; congr 1; omega
  have e3 : nI t <<< ((5 : Int32) &&& (31 : Int32)) = nI (32 * t) := by
    rw [c5, shl_n (by omega) (by omega)]; congr 1; omega
  rw [e1, e2, e3, fa_or_sum par (by omega), show 2 ^ 12 * par + 2048 * o = 2 ^ 11 * (2 * par + o) by omega, fa_or_sum _ (by omega), show 2 ^ 11 * (2 * par + o) + 1024 * ph = 2 ^ 10 * (4 * par + 2 * o + ph) by omega, fa_or_sum _ (by omega), show 2 ^ 10 * (4 * par + 2 * o + ph) + 32 * t = 2 ^ 5 * (128 * par + 64 * o + 32 * ph + t) by omega, fa_or_sum _ (by omega)]
  all_goals (congr 1; omega)
theorem lk_phase {x : Nat} (h : x < 2 ^ 31) : usr (nI x) 10 &&& 1 = nI (x / 1024 % 2) := by
  rw [c10, usr_n (by omega) (by omega)]
  exact fa_mask (x / 2 ^ 10) 1
theorem lk_at {x : Nat} (h : x < 2 ^ 31) : usr (nI x) 5 &&& 31 = nI (x / 32 % 32) := by
  rw [c5, usr_n (by omega) (by omega)]
  exact fa_mask (x / 2 ^ 5) 5
theorem lk_first (x : Nat) : nI x &&& 31 = nI (x % 32) := fa_mask x 5
theorem lk_par {x : Nat} (h : x < 2 ^ 31) : usr (nI x) 12 = nI (x / 4096) := by
  rw [c12, usr_n (by omega) (by omega)]
theorem lk_open {x : Nat} (h : x < 2 ^ 31) (M : Mem) : f_X8_holds (nI x) 11 M = some (if x / 2048 % 2 = 1 then 1 else 0, M) := by
  rw [c11, e_holds _ (by omega), bt_nI _ (by omega), Nat.testBit_eq_decide_div_mod_eq]
  by_cases e : x / 2048 % 2 = 1
  · rw [if_pos e]
    have : decide (x / 2 ^ 11 % 2 = 1) = true := decide_eq_true e
    rw [this]; rfl
  · rw [if_neg e]
    have : decide (x / 2 ^ 11 % 2 = 1) = false := decide_eq_false e
    rw [this]; rfl
