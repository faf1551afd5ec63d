/-! A run, as mathematics; the class's machine does it. -/
abbrev Rs : Type := Nat × Nat × Nat × Nat × Nat × Nat × (Nat → Int32)
def rg (x a b : Nat) : Nat := if x = 0 then a else b
def rvl (c : Cd) (tp : Nat → Nat) (i tk a b : Nat) : Nat := if c.2.1 i = 0 then c.2.2.2.1 i else if c.2.1 i = 1 then (rg (c.2.2.1 i) a b + c.2.2.2.1 i) % 32 else if c.2.1 i = 2 then rg (c.2.2.1 i) b a else if c.2.1 i = 3 then tp tk else rg (c.2.2.1 i) a b &&& c.2.2.2.1 i
def rs1 (c : Cd) (tp : Nat → Nat) (i ph tk a b n : Nat) (T : Nat → Int32) : Rs :=
  if c.2.1 i = 5 then (if rg (c.2.2.1 i) a b < c.2.2.2.1 i then c.2.2.2.2 i else i + 1, ph, tk, a, b, n, T)
  else if c.2.1 i = 6 then (c.2.2.2.2 i, ph, tk, a, b, n, T)
  else if c.2.1 i = 7 then (i + 1, ph, tk, a, b, n + 1, va_up T (32 * ph + a) (T (32 * ph + a) ||| ((1 : Int32) <<< (nI b &&& 31))))
  else if c.2.1 i = 8 then (i + 1, 1, tk, a, b, n, T)
  else (i + 1, ph, if c.2.1 i = 3 then tk + 1 else tk, if c.2.2.1 i = 0 then rvl c tp i tk a b else a, if c.2.2.1 i = 0 then b else rvl c tp i tk a b, n, T)
def rrun (c : Cd) (tp : Nat → Nat) (nb : Nat) : Nat → Rs → Nat × Nat × (Nat → Int32)
  | 0, s => (if c.1 ≤ s.1 ∨ c.2.1 s.1 = 9 then 0 else 2, s.2.2.2.2.2.1, s.2.2.2.2.2.2)
  | d + 1, s => if c.1 ≤ s.1 ∨ c.2.1 s.1 = 9 then (0, s.2.2.2.2.2.1, s.2.2.2.2.2.2) else if c.2.1 s.1 = 3 ∧ nb ≤ s.2.2.1 then (1, s.2.2.2.2.2.1, s.2.2.2.2.2.2) else rrun c tp nb d (rs1 c tp s.1 s.2.1 s.2.2.1 s.2.2.2.1 s.2.2.2.2.1 s.2.2.2.2.2.1 s.2.2.2.2.2.2)
def RB (nb : Nat) (s : Rs) : Prop := s.1 ≤ 24 ∧ s.2.1 < 2 ∧ s.2.2.1 ≤ nb ∧ s.2.2.2.1 < 32 ∧ s.2.2.2.2.1 < 32
theorem rg_lt {x a b : Nat} (ha : a < 32) (hb : b < 32) : rg x a b < 32 := by unfold rg; split <;> omega
theorem rvl_lt {c : Cd} (hc : cdOk c) {tp : Nat → Nat} (htp : ∀ j, tp j < 32) {i tk a b : Nat} (hi : i < 24) (ha : a < 32) (hb : b < 32) : rvl c tp i tk a b < 32 := by
  have h1 := (hc.2 i hi).2.2.1
  have h2 := htp tk
  have h3 : rg (c.2.2.1 i) a b < 32 := rg_lt ha hb
  have h4 : rg (c.2.2.1 i) b a < 32 := rg_lt hb ha
  have h5 : (rg (c.2.2.1 i) a b &&& c.2.2.2.1 i) ≤ rg (c.2.2.1 i) a b := Nat.and_le_left
  unfold rvl
  split
  · omega
  · split
    · omega
    · split
      · exact h4
      · split <;> omega
theorem RB.go {c : Cd} (hc : cdOk c) {tp : Nat → Nat} (htp : ∀ j, tp j < 32) {nb i ph tk a b n : Nat} {T : Nat → Int32} (h : RB nb (i, ph, tk, a, b, n, T)) (hi : i < c.1) (h3 : c.2.1 i = 3 → tk < nb) : RB nb (rs1 c tp i ph tk a b n T) := by
  obtain ⟨b1, b2, b3, b4, b5⟩ := h
  dsimp only at b1 b2 b3 b4 b5
  have h24 := hc.1
  have ht := (hc.2 i (by omega)).2.2.2
  have hv : rvl c tp i tk a b < 32 := rvl_lt hc htp (by omega) b4 b5
  unfold rs1
  split
  · refine ⟨?_, b2, b3, b4, b5⟩
    dsimp only
    split <;> omega
  · split
    · exact ⟨ht, b2, b3, b4, b5⟩
    · split
      · exact ⟨by dsimp only; omega, b2, b3, b4, b5⟩
      · split
        · exact ⟨by dsimp only; omega, by dsimp only; omega, b3, b4, b5⟩
        · refine ⟨by dsimp only; omega, b2, ?_, ?_, ?_⟩
          · dsimp only
            split
            · rename_i q; have := h3 q; omega
            · exact b3
          · dsimp only
            split
            · exact hv
            · exact b4
          · dsimp only
            split
            · exact b5
            · exact hv
def RC (p : Nat) (M : Mem) (s : Rs) : Prop := M 60 1 = nI s.1 ∧ M 60 2 = nI s.2.1 ∧ M 60 3 = nI s.2.2.1 ∧ M 61 0 = nI s.2.2.2.1 ∧ M 61 1 = nI s.2.2.2.2.1 ∧ M 60 4 = nI s.2.2.2.2.2.1 ∧ ∀ j, j < 64 → M (13 * p + 14) j = s.2.2.2.2.2.2 j
def mC (p : Nat) (M M' : Mem) : Prop := (∀ k, k ≠ 60 → k ≠ 61 → k ≠ 13 * p + 14 → M' k = M k) ∧ M' 60 5 = M 60 5
theorem mC.rf (p : Nat) (M : Mem) : mC p M M := ⟨fun _ _ _ _ => rfl, rfl⟩
theorem mC.tr {p : Nat} {M M' M'' : Mem} (h : mC p M M') (h' : mC p M' M'') : mC p M M'' := ⟨fun k a b c => (h'.1 k a b c).trans (h.1 k a b c), h'.2.trans h.2⟩
theorem mC.up {p : Nat} (hp : p < 4) {M X : Mem} (h : mC p M X) {k j : Nat} {v : Int32} (hk : k = 60 ∧ j ≠ 5 ∨ k = 61 ∨ k = 13 * p + 14) : mC p M (upM X k j v) := by
  refine ⟨fun q a b c => by rw [upM_k (by omega)]; exact h.1 q a b c, ?_⟩
  rw [upM_ap, if_neg (by omega)]
  exact h.2
theorem RC.at {p : Nat} (hp : p < 4) {M : Mem} {i ph tk a b n : Nat} {T : Nat → Int32} (h : RC p M (i, ph, tk, a, b, n, T)) (i' : Nat) : RC p (upM M 60 1 (nI i')) (i', ph, tk, a, b, n, T) := by
  obtain ⟨h1, h2, h3, h4, h5, h6, h7⟩ := h
  exact ⟨by rw [upM_r, if_pos rfl], by rw [upM_r, if_neg (by omega)]; exact h2, by rw [upM_r, if_neg (by omega)]; exact h3, by rw [upM_k (by omega)]; exact h4, by rw [upM_k (by omega)]; exact h5, by rw [upM_r, if_neg (by omega)]; exact h6, fun j hj => by rw [upM_k (by omega)]; exact h7 j hj⟩
theorem RC.ph {p : Nat} (hp : p < 4) {M : Mem} {i ph tk a b n : Nat} {T : Nat → Int32} (h : RC p M (i, ph, tk, a, b, n, T)) (i' : Nat) : RC p (upM M 60 2 (nI i')) (i, i', tk, a, b, n, T) := by
  obtain ⟨h1, h2, h3, h4, h5, h6, h7⟩ := h
  exact ⟨by rw [upM_r, if_neg (by omega)]; exact h1, by rw [upM_r, if_pos rfl], by rw [upM_r, if_neg (by omega)]; exact h3, by rw [upM_k (by omega)]; exact h4, by rw [upM_k (by omega)]; exact h5, by rw [upM_r, if_neg (by omega)]; exact h6, fun j hj => by rw [upM_k (by omega)]; exact h7 j hj⟩
theorem RC.tk {p : Nat} (hp : p < 4) {M : Mem} {i ph tk a b n : Nat} {T : Nat → Int32} (h : RC p M (i, ph, tk, a, b, n, T)) (i' : Nat) : RC p (upM M 60 3 (nI i')) (i, ph, i', a, b, n, T) := by
  obtain ⟨h1, h2, h3, h4, h5, h6, h7⟩ := h
  exact ⟨by rw [upM_r, if_neg (by omega)]; exact h1, by rw [upM_r, if_neg (by omega)]; exact h2, by rw [upM_r, if_pos rfl], by rw [upM_k (by omega)]; exact h4, by rw [upM_k (by omega)]; exact h5, by rw [upM_r, if_neg (by omega)]; exact h6, fun j hj => by rw [upM_k (by omega)]; exact h7 j hj⟩
theorem RC.ct {p : Nat} (hp : p < 4) {M : Mem} {i ph tk a b n : Nat} {T : Nat → Int32} (h : RC p M (i, ph, tk, a, b, n, T)) (i' : Nat) : RC p (upM M 60 4 (nI i')) (i, ph, tk, a, b, i', T) := by
  obtain ⟨h1, h2, h3, h4, h5, h6, h7⟩ := h
  exact ⟨by rw [upM_r, if_neg (by omega)]; exact h1, by rw [upM_r, if_neg (by omega)]; exact h2, by rw [upM_r, if_neg (by omega)]; exact h3, by rw [upM_k (by omega)]; exact h4, by rw [upM_k (by omega)]; exact h5, by rw [upM_r, if_pos rfl], fun j hj => by rw [upM_k (by omega)]; exact h7 j hj⟩
theorem RC.rgs {p : Nat} (hp : p < 4) {M : Mem} {i ph tk a b n : Nat} {T : Nat → Int32} (h : RC p M (i, ph, tk, a, b, n, T)) {x : Nat} (hx : x = 0 ∨ x = 1) (v : Nat) : RC p (upM M 61 x (nI v)) (i, ph, tk, if x = 0 then v else a, if x = 0 then b else v, n, T) := by
  obtain ⟨h1, h2, h3, h4, h5, h6, h7⟩ := h
  refine ⟨by rw [upM_k (by omega)]; exact h1, by rw [upM_k (by omega)]; exact h2, by rw [upM_k (by omega)]; exact h3, ?_, ?_, by rw [upM_k (by omega)]; exact h6, fun j hj => by rw [upM_k (by omega)]; exact h7 j hj⟩
  · rcases hx with rfl | rfl
    · rw [upM_r, if_pos rfl]; rfl
    · rw [upM_r, if_neg (by omega)]; exact h4
  · rcases hx with rfl | rfl
    · rw [upM_r, if_neg (by omega)]; exact h5
    · rw [upM_r, if_pos rfl]; rfl
theorem RC.tb {p : Nat} (hp : p < 4) {M : Mem} {i ph tk a b n : Nat} {T : Nat → Int32} (h : RC p M (i, ph, tk, a, b, n, T)) (q : Nat) (w : Int32) : RC p (upM M (13 * p + 14) q w) (i, ph, tk, a, b, n, va_up T q w) := by
  obtain ⟨h1, h2, h3, h4, h5, h6, h7⟩ := h
  refine ⟨by rw [upM_k (by omega)]; exact h1, by rw [upM_k (by omega)]; exact h2, by rw [upM_k (by omega)]; exact h3, by rw [upM_k (by omega)]; exact h4, by rw [upM_k (by omega)]; exact h5, by rw [upM_k (by omega)]; exact h6, fun j hj => ?_⟩
  rw [upM_r]
  by_cases z : j = q
  · rw [if_pos z, z]; exact (va_up_self _ _ _).symm
  · rw [if_neg z]; exact (h7 j hj).trans (va_up_ne _ _ z).symm
theorem RC.reg {p : Nat} {M : Mem} {i ph tk a b n : Nat} {T : Nat → Int32} (h : RC p M (i, ph, tk, a, b, n, T)) {x : Nat} (hx : x = 0 ∨ x = 1) : M 61 x = nI (rg x a b) := by
  rcases hx with rfl | rfl
  · exact h.2.2.2.1
  · exact h.2.2.2.2.1
theorem write8 {p : Nat} (hp : p < 4) {c : Cd} (hc : cdOk c) {tp : Nat → Nat} {M : Mem} {n0 i ph tk a b n : Nat} {T : Nat → Int32} (hcd : cdAt p c M) (h : RC p M (i, ph, tk, a, b, n, T)) (ha : a < 32) (hb : b < 32) (hi : i < 24) (hk : c.2.1 i ≤ 4) (h58 : M 58 1 = nI n0) (hn0 : n0 ≤ 80) (h59 : ∀ j, j < n0 → M 59 j &&& 31 = nI (tp j)) (h3 : c.2.1 i = 3 → tk < n0) :
    ∃ M', f_X3_write p M = some (0, M') ∧ RC p M' (i, ph, if c.2.1 i = 3 then tk + 1 else tk, if c.2.2.1 i = 0 then rvl c tp i tk a b else a, if c.2.2.1 i = 0 then b else rvl c tp i tk a b, n, T) ∧ mC p M M' := by
  have h1 : M 60 1 = nI i := h.1
  have h3' : M 60 3 = nI tk := h.2.2.1
  obtain ⟨k1, k2, k3, k4⟩ := hcd.2 i hi
  obtain ⟨o1, o2, o3, o4⟩ := hc.2 i hi
  have hx : c.2.2.1 i = 0 ∨ c.2.2.1 i = 1 := by omega
  have hrg := h.reg hx
  have hr32 : rg (c.2.2.1 i) a b < 32 := rg_lt ha hb
  unfold f_X3_write
  rw [h1, e_x hi, bnd_some, h1, e_n hi, bnd_some, h1, e_kind hi, bnd_some, k1, k2, k3]
  have hix := ixT (i := c.2.2.1 i) (n := 2) (by omega) (by omega)
  have hcl := nI_clamp (n := c.2.2.1 i) (by omega)
  unfold rvl
  have kk : c.2.1 i = 0 ∨ c.2.1 i = 1 ∨ c.2.1 i = 2 ∨ c.2.1 i = 3 ∨ c.2.1 i = 4 := by omega
  unfold wr nm
  dsimp only
  rcases kk with e | e | e | e | e
  · rw [e, if_pos (by decide), hix, if_pos rfl, hcl, if_pos rfl, if_neg (by omega)]
    exact ⟨_, rfl, h.rgs hp hx _, (mC.rf p M).up hp (by omega)⟩
  · rw [e, if_neg (by decide), if_pos (by decide), hix, if_pos rfl, if_pos rfl, hcl, hrg, nI_add, lk_first, if_neg (show ¬ (1 : Nat) = 0 by omega), if_pos rfl, if_neg (by omega)]
    exact ⟨_, rfl, h.rgs hp hx _, (mC.rf p M).up hp (by omega)⟩
  · have hx1 : (1 : Int32) - nI (c.2.2.1 i) = nI (1 - c.2.2.1 i) := by rw [c1, pk_sub (by omega)]
    have hro : M 61 (1 - c.2.2.1 i) = nI (rg (c.2.2.1 i) b a) := by
      rcases hx with q | q
      · rw [q]; exact h.2.2.2.2.1
      · rw [q]; exact h.2.2.2.1
    rw [e, if_neg (by decide), if_neg (by decide), if_pos (by decide), hx1, ixT (i := 1 - c.2.2.1 i) (n := 2) (by omega) (by omega), if_pos rfl, hix, if_pos rfl, hcl, nI_clamp (n := 1 - c.2.2.1 i) (by omega), hro, if_neg (show ¬ (2 : Nat) = 0 by omega), if_neg (show ¬ (2 : Nat) = 1 by omega), if_pos rfl, if_neg (by omega)]
    exact ⟨_, rfl, h.rgs hp hx _, (mC.rf p M).up hp (by omega)⟩
  · have ht := h3 e
    have hva : f_X7_valueAt (nI tk) M = some (nI (tp tk), M) := by
      unfold f_X7_valueAt
      rw [if_neg (nI_pos (by omega)), h58, if_neg (nI_ge ht (by omega)), ixT (show tk < 80 by omega) (by omega), if_pos rfl, nI_clamp (by omega), h59 tk ht]
    rw [e, if_neg (by decide), if_neg (by decide), if_neg (by decide), if_pos (by decide), h3', hva, bnd_some, hix, if_pos rfl, hcl, upM_k (show (60 : Nat) ≠ 61 by omega), h3', nI_1, if_neg (show ¬ (3 : Nat) = 0 by omega), if_neg (show ¬ (3 : Nat) = 1 by omega), if_neg (show ¬ (3 : Nat) = 2 by omega), if_pos rfl, if_pos rfl]
    exact ⟨_, rfl, (h.rgs hp hx _).tk hp _, ((mC.rf p M).up hp (by omega)).up hp (by omega)⟩
  · rw [e, if_neg (by decide), if_neg (by decide), if_neg (by decide), if_neg (by decide), if_pos (by decide), hix, if_pos rfl, if_pos rfl, hcl, hrg, nx_and, if_neg (show ¬ (4 : Nat) = 0 by omega), if_neg (show ¬ (4 : Nat) = 1 by omega), if_neg (show ¬ (4 : Nat) = 2 by omega), if_neg (show ¬ (4 : Nat) = 3 by omega), if_neg (show ¬ (4 : Nat) = 3 by omega)]
    exact ⟨_, rfl, h.rgs hp hx _, (mC.rf p M).up hp (by omega)⟩
theorem step8 {p : Nat} (hp : p < 4) {c : Cd} (hc : cdOk c) {tp : Nat → Nat} {M : Mem} {n0 i ph tk a b n : Nat} {T : Nat → Int32} (hcd : cdAt p c M) (h : RC p M (i, ph, tk, a, b, n, T)) (hph : ph < 2) (ha : a < 32) (hb : b < 32) (hi : i < 24) (hk : c.2.1 i ≠ 9) (h58 : M 58 1 = nI n0) (hn0 : n0 ≤ 80) (h59 : ∀ j, j < n0 → M 59 j &&& 31 = nI (tp j)) (h3 : c.2.1 i = 3 → tk < n0) :
    ∃ M', f_X3_step p (13 * p + 13) M = some (0, M') ∧ RC p M' (rs1 c tp i ph tk a b n T) ∧ mC p M M' := by
  have h1 : M 60 1 = nI i := h.1
  obtain ⟨k1, k2, k3, k4⟩ := hcd.2 i hi
  obtain ⟨o1, o2, o3, o4⟩ := hc.2 i hi
  have hx : c.2.2.1 i = 0 ∨ c.2.2.1 i = 1 := by omega
  have hrg := h.reg hx
  have hr32 : rg (c.2.2.1 i) a b < 32 := rg_lt ha hb
  unfold f_X3_step
  unfold nm
  dsimp only
  rw [h1, e_kind hi, bnd_some, k1, nI_1]
  unfold rs1
  have kk : c.2.1 i ≤ 4 ∨ c.2.1 i = 5 ∨ c.2.1 i = 6 ∨ c.2.1 i = 7 ∨ c.2.1 i = 8 := by omega
  unfold wr
  dsimp only
  rcases kk with e | e | e | e | e
  · have ne : ∀ m : Nat, 5 ≤ m → m < 10 → ¬ nI (c.2.1 i) = nI m := fun m m1 m2 q => by have := (nI_eq (by omega) (by omega)).mp q; omega
    obtain ⟨M1, e1, r1, f1⟩ := write8 hp hc (tp := tp) hcd h ha hb hi e h58 hn0 h59 h3
    rw [if_neg (show ¬ nI (c.2.1 i) = 5 from ne 5 (by omega) (by omega)), if_neg (show ¬ nI (c.2.1 i) = 6 from ne 6 (by omega) (by omega)), if_neg (show ¬ nI (c.2.1 i) = 7 from ne 7 (by omega) (by omega)), if_neg (show ¬ nI (c.2.1 i) = 8 from ne 8 (by omega) (by omega)), e1, bnd_some, if_neg (by omega), if_neg (by omega), if_neg (by omega), if_neg (by omega)]
    exact ⟨_, rfl, r1.at hp _, f1.up hp (by omega)⟩
  · rw [e, if_pos (by decide), h1, e_x hi, bnd_some, k2, ixT (i := c.2.2.1 i) (by omega) (by omega), if_pos rfl, h1, e_n hi, bnd_some, k3, nI_clamp (n := c.2.2.1 i) (by omega), hrg, if_pos rfl]
    by_cases w : rg (c.2.2.1 i) a b < c.2.2.2.1 i
    · rw [if_neg (nI_ge w (by omega)), if_pos w, h1, e_to hi, bnd_some, k4]
      exact ⟨_, rfl, h.at hp _, (mC.rf p M).up hp (by omega)⟩
    · rw [if_pos (nI_le (by omega) (by omega)), if_neg w]
      exact ⟨_, rfl, h.at hp _, (mC.rf p M).up hp (by omega)⟩
  · rw [e, if_neg (by decide), if_pos (by decide), h1, e_to hi, bnd_some, k4, if_neg (show ¬ (6 : Nat) = 5 by omega), if_pos rfl]
    exact ⟨_, rfl, h.at hp _, (mC.rf p M).up hp (by omega)⟩
  · have hA : M 61 (0 : Int32).toNatClampNeg = nI a := h.2.2.2.1
    have hB : M 61 (1 : Int32).toNatClampNeg = nI b := h.2.2.2.2.1
    have hP : M 60 2 = nI ph := h.2.1
    have hN : M 60 4 = nI n := h.2.2.2.2.2.1
    have hT : M (13 * p + 14) (32 * ph + a) = T (32 * ph + a) := h.2.2.2.2.2.2 _ (by omega)
    rw [e, if_neg (by decide), if_neg (by decide), if_pos (by decide), if_pos (by decide), if_pos (by decide), hP, hA, hB, e_add hph ha, bnd_some, show 13 * p + 13 + 1 = 13 * p + 14 by omega, hT, upM_k (show (60 : Nat) ≠ 13 * p + 14 by omega), hN, nI_1, if_neg (show ¬ (7 : Nat) = 5 by omega), if_neg (show ¬ (7 : Nat) = 6 by omega), if_pos rfl]
    exact ⟨_, rfl, ((h.tb hp _ _).ct hp _).at hp _, (((mC.rf p M).up hp (by omega)).up hp (by omega)).up hp (by omega)⟩
  · rw [e, if_neg (by decide), if_neg (by decide), if_neg (by decide), if_pos (by decide), if_neg (show ¬ (8 : Nat) = 5 by omega), if_neg (show ¬ (8 : Nat) = 6 by omega), if_neg (show ¬ (8 : Nat) = 7 by omega), if_pos rfl]
    exact ⟨_, rfl, (h.ph hp 1).at hp _, ((mC.rf p M).up hp (by omega)).up hp (by omega)⟩
