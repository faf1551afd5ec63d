/-! One step of an item. -/
theorem stx_0 {c : Cd} {t ph a b t' ph' a' b' : Nat} (k : c.2.1 t = 0) : Stx c t ph a b t' ph' a' b' ↔ (t' = t + 1 ∧ ph' = ph ∧ ((c.2.2.1 t = 0 ∧ a' = c.2.2.2.1 t ∧ b' = b) ∨ (c.2.2.1 t = 1 ∧ a' = a ∧ b' = c.2.2.2.1 t))) := by
  unfold Stx
  constructor
  · rintro (h | h | h | h | h | h | h | h | h)
    · exact h.2
    · exact absurd (k.symm.trans h.1) (by decide)
    · exact absurd (k.symm.trans h.1) (by decide)
    · exact absurd (k.symm.trans h.1) (by decide)
    · exact absurd (k.symm.trans h.1) (by decide)
    · exact absurd (k.symm.trans h.1) (by decide)
    · exact absurd (k.symm.trans h.1) (by decide)
    · exact absurd (k.symm.trans h.1) (by decide)
    · exact absurd (k.symm.trans h.1) (by decide)
  · intro h; exact Or.inl ⟨k, h⟩
theorem stx_1 {c : Cd} {t ph a b t' ph' a' b' : Nat} (k : c.2.1 t = 1) : Stx c t ph a b t' ph' a' b' ↔ (t' = t + 1 ∧ ph' = ph ∧ ((c.2.2.1 t = 0 ∧ a' = (a + c.2.2.2.1 t) % 32 ∧ b' = b) ∨ (c.2.2.1 t = 1 ∧ a' = a ∧ b' = (b + c.2.2.2.1 t) % 32))) := by
  unfold Stx
  constructor
  · rintro (h | h | h | h | h | h | h | h | h)
    · exact absurd (k.symm.trans h.1) (by decide)
    · exact h.2
    · exact absurd (k.symm.trans h.1) (by decide)
    · exact absurd (k.symm.trans h.1) (by decide)
    · exact absurd (k.symm.trans h.1) (by decide)
    · exact absurd (k.symm.trans h.1) (by decide)
    · exact absurd (k.symm.trans h.1) (by decide)
    · exact absurd (k.symm.trans h.1) (by decide)
    · exact absurd (k.symm.trans h.1) (by decide)
  · intro h; exact Or.inr (Or.inl ⟨k, h⟩)
theorem stx_2 {c : Cd} {t ph a b t' ph' a' b' : Nat} (k : c.2.1 t = 2) : Stx c t ph a b t' ph' a' b' ↔ (t' = t + 1 ∧ ph' = ph ∧ ((c.2.2.1 t = 0 ∧ a' = b ∧ b' = b) ∨ (c.2.2.1 t = 1 ∧ a' = a ∧ b' = a))) := by
  unfold Stx
  constructor
  · rintro (h | h | h | h | h | h | h | h | h)
    · exact absurd (k.symm.trans h.1) (by decide)
    · exact absurd (k.symm.trans h.1) (by decide)
    · exact h.2
    · exact absurd (k.symm.trans h.1) (by decide)
    · exact absurd (k.symm.trans h.1) (by decide)
    · exact absurd (k.symm.trans h.1) (by decide)
    · exact absurd (k.symm.trans h.1) (by decide)
    · exact absurd (k.symm.trans h.1) (by decide)
    · exact absurd (k.symm.trans h.1) (by decide)
  · intro h; exact Or.inr (Or.inr (Or.inl ⟨k, h⟩))
theorem stx_3 {c : Cd} {t ph a b t' ph' a' b' : Nat} (k : c.2.1 t = 3) : Stx c t ph a b t' ph' a' b' ↔ (t' = t + 1 ∧ ph' = ph ∧ ((c.2.2.1 t = 0 ∧ a' < 32 ∧ b' = b) ∨ (c.2.2.1 t = 1 ∧ a' = a ∧ b' < 32))) := by
  unfold Stx
  constructor
  · rintro (h | h | h | h | h | h | h | h | h)
    · exact absurd (k.symm.trans h.1) (by decide)
    · exact absurd (k.symm.trans h.1) (by decide)
    · exact absurd (k.symm.trans h.1) (by decide)
    · exact h.2
    · exact absurd (k.symm.trans h.1) (by decide)
    · exact absurd (k.symm.trans h.1) (by decide)
    · exact absurd (k.symm.trans h.1) (by decide)
    · exact absurd (k.symm.trans h.1) (by decide)
    · exact absurd (k.symm.trans h.1) (by decide)
  · intro h; exact Or.inr (Or.inr (Or.inr (Or.inl ⟨k, h⟩)))
theorem stx_4 {c : Cd} {t ph a b t' ph' a' b' : Nat} (k : c.2.1 t = 4) : Stx c t ph a b t' ph' a' b' ↔ (t' = t + 1 ∧ ph' = ph ∧ ((c.2.2.1 t = 0 ∧ a' = (a &&& c.2.2.2.1 t) ∧ b' = b) ∨ (c.2.2.1 t = 1 ∧ a' = a ∧ b' = (b &&& c.2.2.2.1 t)))) := by
  unfold Stx
  constructor
  · rintro (h | h | h | h | h | h | h | h | h)
    · exact absurd (k.symm.trans h.1) (by decide)
    · exact absurd (k.symm.trans h.1) (by decide)
    · exact absurd (k.symm.trans h.1) (by decide)
    · exact absurd (k.symm.trans h.1) (by decide)
    · exact h.2
    · exact absurd (k.symm.trans h.1) (by decide)
    · exact absurd (k.symm.trans h.1) (by decide)
    · exact absurd (k.symm.trans h.1) (by decide)
    · exact absurd (k.symm.trans h.1) (by decide)
  · intro h; exact Or.inr (Or.inr (Or.inr (Or.inr (Or.inl ⟨k, h⟩))))
theorem stx_5 {c : Cd} {t ph a b t' ph' a' b' : Nat} (k : c.2.1 t = 5) : Stx c t ph a b t' ph' a' b' ↔ (ph' = ph ∧ a' = a ∧ b' = b ∧ (((c.2.2.1 t = 0 ∧ a < c.2.2.2.1 t ∨ c.2.2.1 t = 1 ∧ b < c.2.2.2.1 t) ∧ t' = c.2.2.2.2 t) ∨ ((c.2.2.1 t = 0 ∧ ¬ a < c.2.2.2.1 t ∨ c.2.2.1 t = 1 ∧ ¬ b < c.2.2.2.1 t) ∧ t' = t + 1))) := by
  unfold Stx
  constructor
  · rintro (h | h | h | h | h | h | h | h | h)
    · exact absurd (k.symm.trans h.1) (by decide)
    · exact absurd (k.symm.trans h.1) (by decide)
    · exact absurd (k.symm.trans h.1) (by decide)
    · exact absurd (k.symm.trans h.1) (by decide)
    · exact absurd (k.symm.trans h.1) (by decide)
    · exact h.2
    · exact absurd (k.symm.trans h.1) (by decide)
    · exact absurd (k.symm.trans h.1) (by decide)
    · exact absurd (k.symm.trans h.1) (by decide)
  · intro h; exact Or.inr (Or.inr (Or.inr (Or.inr (Or.inr (Or.inl ⟨k, h⟩)))))
theorem stx_6 {c : Cd} {t ph a b t' ph' a' b' : Nat} (k : c.2.1 t = 6) : Stx c t ph a b t' ph' a' b' ↔ (t' = c.2.2.2.2 t ∧ ph' = ph ∧ a' = a ∧ b' = b) := by
  unfold Stx
  constructor
  · rintro (h | h | h | h | h | h | h | h | h)
    · exact absurd (k.symm.trans h.1) (by decide)
    · exact absurd (k.symm.trans h.1) (by decide)
    · exact absurd (k.symm.trans h.1) (by decide)
    · exact absurd (k.symm.trans h.1) (by decide)
    · exact absurd (k.symm.trans h.1) (by decide)
    · exact absurd (k.symm.trans h.1) (by decide)
    · exact h.2
    · exact absurd (k.symm.trans h.1) (by decide)
    · exact absurd (k.symm.trans h.1) (by decide)
  · intro h; exact Or.inr (Or.inr (Or.inr (Or.inr (Or.inr (Or.inr (Or.inl ⟨k, h⟩))))))
theorem stx_7 {c : Cd} {t ph a b t' ph' a' b' : Nat} (k : c.2.1 t = 7) : Stx c t ph a b t' ph' a' b' ↔ (t' = t + 1 ∧ ph' = ph ∧ a' = a ∧ b' = b) := by
  unfold Stx
  constructor
  · rintro (h | h | h | h | h | h | h | h | h)
    · exact absurd (k.symm.trans h.1) (by decide)
    · exact absurd (k.symm.trans h.1) (by decide)
    · exact absurd (k.symm.trans h.1) (by decide)
    · exact absurd (k.symm.trans h.1) (by decide)
    · exact absurd (k.symm.trans h.1) (by decide)
    · exact absurd (k.symm.trans h.1) (by decide)
    · exact absurd (k.symm.trans h.1) (by decide)
    · exact h.2
    · exact absurd (k.symm.trans h.1) (by decide)
  · intro h; exact Or.inr (Or.inr (Or.inr (Or.inr (Or.inr (Or.inr (Or.inr (Or.inl ⟨k, h⟩)))))))
theorem stx_8 {c : Cd} {t ph a b t' ph' a' b' : Nat} (k : c.2.1 t = 8) : Stx c t ph a b t' ph' a' b' ↔ (t' = t + 1 ∧ ph' = 1 ∧ a' = a ∧ b' = b) := by
  unfold Stx
  constructor
  · rintro (h | h | h | h | h | h | h | h | h)
    · exact absurd (k.symm.trans h.1) (by decide)
    · exact absurd (k.symm.trans h.1) (by decide)
    · exact absurd (k.symm.trans h.1) (by decide)
    · exact absurd (k.symm.trans h.1) (by decide)
    · exact absurd (k.symm.trans h.1) (by decide)
    · exact absurd (k.symm.trans h.1) (by decide)
    · exact absurd (k.symm.trans h.1) (by decide)
    · exact absurd (k.symm.trans h.1) (by decide)
    · exact h.2
  · intro h; exact Or.inr (Or.inr (Or.inr (Or.inr (Or.inr (Or.inr (Or.inr (Or.inr (⟨k, h⟩))))))))
theorem stx_x1 {c : Cd} {t ph a b t' ph' a' b' : Nat} (hk : c.2.1 t ≤ 4) (hx : c.2.2.1 t = 1) (h : Stx c t ph a b t' ph' a' b') : ph' = ph ∧ a' = a := by
  rcases (show c.2.1 t = 0 ∨ c.2.1 t = 1 ∨ c.2.1 t = 2 ∨ c.2.1 t = 3 ∨ c.2.1 t = 4 by omega) with k | k | k | k | k
  · rw [stx_0 k] at h; omega
  · rw [stx_1 k] at h; omega
  · rw [stx_2 k] at h; omega
  · rw [stx_3 k] at h; omega
  · rw [stx_4 k] at h; omega
theorem stx_ph {c : Cd} {t ph a b t' ph' a' b' : Nat} (hk : c.2.1 t ≤ 4) (h : Stx c t ph a b t' ph' a' b') : ph' = ph := by
  rcases (show c.2.1 t = 0 ∨ c.2.1 t = 1 ∨ c.2.1 t = 2 ∨ c.2.1 t = 3 ∨ c.2.1 t = 4 by omega) with k | k | k | k | k
  · rw [stx_0 k] at h; exact h.2.1
  · rw [stx_1 k] at h; exact h.2.1
  · rw [stx_2 k] at h; exact h.2.1
  · rw [stx_3 k] at h; exact h.2.1
  · rw [stx_4 k] at h; exact h.2.1
def fld (pp : Nat) (c : Cd) (t : Nat) (M : Mem) : Prop := M (13 * pp + 8) 9 = nI t ∧ M (13 * pp + 8) 10 = nI (c.2.1 t) ∧ M (13 * pp + 8) 11 = nI (c.2.2.1 t) ∧ M (13 * pp + 8) 12 = nI (c.2.2.2.1 t) ∧ M (13 * pp + 8) 13 = nI (c.2.2.2.2 t)
theorem low_b : ∀ n, n < 32 → ∀ b, b < 32 → bt (((1 : Int32) <<< (nI n &&& 31)) - 1) b = decide (b < n) := by decide +kernel
theorem sec_spec {pp fu : Nat} (hfu : 32 < fu) {c : Cd} (hc : cdOk c) {t a ph : Nat} (ht : t < c.1) (ha : a < 32) {m : Int32} (hm : ¬ m = 0) {M : Mem} (hf : fld pp c t M) (hk : c.2.1 t ≤ 4) (hx : c.2.2.1 t = 1) :
    ∃ r, f_X4_secondAfter fu pp (nI a) m M = some (r, M) ∧ ∀ b', b' < 32 → (bt r b' = true ↔ ∃ b, b < 32 ∧ bt m b = true ∧ Stx c t ph a b (t + 1) ph a b') := by
  obtain ⟨-, f10, -, f12, -⟩ := hf
  have hN : c.2.2.2.1 t ≤ 31 := (hc.2 t (by have := hc.1; omega)).2.2.1
  obtain ⟨b0, hb0, hmb0⟩ := nz_bt hm
  unfold f_X4_secondAfter nm
  dsimp only
  rw [f10, f12]
  generalize hn : c.2.2.2.1 t = n at hN ⊢
  rcases (show c.2.1 t = 0 ∨ c.2.1 t = 1 ∨ c.2.1 t = 2 ∨ c.2.1 t = 3 ∨ c.2.1 t = 4 by omega) with k | k | k | k | k
  · rw [k, if_pos (by decide)]
    refine ⟨_, rfl, fun b' hb' => ?_⟩
    rw [hot n (by omega) b' hb', decide_eq_true_eq]
    constructor
    · intro e; exact ⟨b0, hb0, hmb0, Or.inl ⟨k, rfl, rfl, Or.inr ⟨hx, rfl, by rw [hn]; exact e⟩⟩⟩
    · rintro ⟨b, -, -, h⟩
      rw [stx_0 k] at h
      omega
  · rw [k, if_neg (by decide), if_pos (by decide)]
    by_cases hz : n = 0
    · rw [if_pos (by rw [hz]; rfl)]
      refine ⟨_, rfl, fun b' hb' => ?_⟩
      constructor
      · intro e; exact ⟨b', hb', e, Or.inr (Or.inl ⟨k, rfl, rfl, Or.inr ⟨hx, rfl, by omega⟩⟩)⟩
      · rintro ⟨b, hb, hmb, h⟩
        rw [stx_1 k] at h
        have : b' = b := by omega
        rw [this]; exact hmb
    · rw [if_neg (fun e => hz ((nI_eq (by omega) (by omega)).mp (e.trans c0)))]
      refine ⟨_, rfl, fun b' hb' => ?_⟩
      rw [c32, pk_sub (by omega), b_or, b_shl n (by omega) m hb', usr_bt m (by omega), Bool.or_eq_true, Bool.and_eq_true, decide_eq_true_eq]
      constructor
      · rintro (⟨h1, h2⟩ | h)
        · exact ⟨b' - n, by omega, h2, Or.inr (Or.inl ⟨k, rfl, rfl, Or.inr ⟨hx, rfl, by omega⟩⟩)⟩
        · have hlt : 32 - n + b' < 32 := by
            rcases Nat.lt_or_ge (32 - n + b') 32 with q | q
            · exact q
            · rw [b_big q] at h; cases h
          exact ⟨32 - n + b', hlt, h, Or.inr (Or.inl ⟨k, rfl, rfl, Or.inr ⟨hx, rfl, by omega⟩⟩)⟩
      · rintro ⟨b, hb, hmb, h⟩
        rw [stx_1 k] at h
        have e : b' = (b + n) % 32 := by omega
        by_cases h1 : b + n < 32
        · left; refine ⟨by omega, ?_⟩
          rw [show b' - n = b by omega]; exact hmb
        · right
          rw [show 32 - n + b' = b by omega]; exact hmb
  · rw [k, if_neg (by decide), if_neg (by decide), if_pos (by decide)]
    refine ⟨_, rfl, fun b' hb' => ?_⟩
    rw [hot a (by omega) b' hb', decide_eq_true_eq]
    constructor
    · intro e; exact ⟨b0, hb0, hmb0, Or.inr (Or.inr (Or.inl ⟨k, rfl, rfl, Or.inr ⟨hx, rfl, e⟩⟩))⟩
    · rintro ⟨b, -, -, h⟩
      rw [stx_2 k] at h
      omega
  · rw [k, if_neg (by decide), if_neg (by decide), if_neg (by decide), if_pos (by decide)]
    refine ⟨_, rfl, fun b' hb' => ?_⟩
    rw [b_m1 b' hb']
    constructor
    · intro _; exact ⟨b0, hb0, hmb0, Or.inr (Or.inr (Or.inr (Or.inl ⟨k, rfl, rfl, Or.inr ⟨hx, rfl, hb'⟩⟩)))⟩
    · intro _; rfl
  · rw [k, if_neg (by decide), if_neg (by decide), if_neg (by decide), if_neg (by decide)]
    obtain ⟨r, e, hr⟩ := msk_spec m (n := n) (by omega) hfu M
    rw [e, bnd_some]
    refine ⟨r, rfl, fun b' hb' => (hr b' hb').trans ?_⟩
    constructor
    · rintro ⟨w, h1, h2, h3⟩
      exact ⟨w, h1, h2, Or.inr (Or.inr (Or.inr (Or.inr (Or.inl ⟨k, rfl, rfl, Or.inr ⟨hx, rfl, by rw [hn]; exact h3.symm⟩⟩))))⟩
    · rintro ⟨b, hb, hmb, h⟩
      rw [stx_4 k] at h
      refine ⟨b, hb, hmb, ?_⟩
      rw [hn] at h
      omega
theorem fst_spec {pp : Nat} {c : Cd} (hc : cdOk c) {t a : Nat} (ht : t < c.1) (ha : a < 32) {M : Mem} (hf : fld pp c t M) (hk : c.2.1 t = 0 ∨ c.2.1 t = 1 ∨ c.2.1 t = 4) (hx : c.2.2.1 t = 0) :
    ∃ r, r < 32 ∧ f_X4_firstAfter pp (nI a) M = some (nI r, M) ∧ ∀ ph b a' b', (Stx c t ph a b (t + 1) ph a' b' ↔ a' = r ∧ b' = b) := by
  obtain ⟨-, f10, -, f12, -⟩ := hf
  have hN : c.2.2.2.1 t ≤ 31 := (hc.2 t (by have := hc.1; omega)).2.2.1
  unfold f_X4_firstAfter nm
  dsimp only
  rw [f10, f12]
  rcases hk with k | k | k
  · rw [k, if_pos (by decide)]
    refine ⟨_, by omega, rfl, fun ph b a' b' => ?_⟩
    rw [stx_0 k]
    omega
  · rw [k, if_neg (by decide), if_pos (by decide), nI_add, lk_first]
    refine ⟨_, by omega, rfl, fun ph b a' b' => ?_⟩
    rw [stx_1 k]
    omega
  · rw [k, if_neg (by decide), if_neg (by decide), nx_and]
    have : (a &&& c.2.2.2.1 t) ≤ a := Nat.and_le_left
    refine ⟨_, by omega, rfl, fun ph b a' b' => ?_⟩
    rw [stx_4 k]
    omega
theorem goi_spec {pp : Nat} {c : Cd} (hc : cdOk c) {t a nx : Nat} (ht : t < c.1) (ha : a < 32) (hnx : nx ≤ 24) (m : Int32) {M : Mem} (hf : fld pp c t M) (hk : c.2.1 t = 5) :
    ∃ r, f_X4_goingTo pp (nI nx) (nI a) m M = some (r, M) ∧ ∀ ph b, b < 32 → (bt r b = true ↔ bt m b = true ∧ Stx c t ph a b nx ph a b) := by
  obtain ⟨f9, f10, f11, f12, f13⟩ := hf
  obtain ⟨-, hX, hN, hT⟩ := hc.2 t (by have := hc.1; omega)
  have h24 := hc.1
  unfold f_X4_goingTo nm
  dsimp only
  rw [f9, f11, f12, f13, nI_1]
  have e1 : (nI (c.2.2.2.2 t) = nI nx) ↔ c.2.2.2.2 t = nx := nI_eq (by omega) (by omega)
  have e2 : (nI (t + 1) = nI nx) ↔ t + 1 = nx := nI_eq (by omega) (by omega)
  have st : ∀ ph b, Stx c t ph a b nx ph a b ↔ (((c.2.2.1 t = 0 ∧ a < c.2.2.2.1 t ∨ c.2.2.1 t = 1 ∧ b < c.2.2.2.1 t) ∧ nx = c.2.2.2.2 t) ∨ ((c.2.2.1 t = 0 ∧ ¬ a < c.2.2.2.1 t ∨ c.2.2.1 t = 1 ∧ ¬ b < c.2.2.2.1 t) ∧ nx = t + 1)) := fun ph b => by
    rw [stx_5 hk]
    omega
  have fin : ∀ (w : Int32), (∀ b, b < 32 → (bt w b = true ↔ bt m b = true ∧ (c.2.2.1 t = 0 ∧ a < c.2.2.2.1 t ∨ c.2.2.1 t = 1 ∧ b < c.2.2.2.1 t))) →
      ∃ r, (if nI (c.2.2.2.2 t) = nI nx then if nI (t + 1) = nI nx then some (w ||| (m &&& (w ^^^ (-1))), M) else some (w, M) else if nI (t + 1) = nI nx then some ((0 : Int32) ||| (m &&& (w ^^^ (-1))), M) else some (0, M)) = some (r, M) ∧ ∀ ph b, b < 32 → (bt r b = true ↔ bt m b = true ∧ Stx c t ph a b nx ph a b) := by
    intro w hw
    have nb : ∀ b, b < 32 → (bt (m &&& (w ^^^ (-1))) b = true ↔ bt m b = true ∧ ¬ bt w b = true) := fun b hb => by
      rw [b_and, b_not w hb]
      cases bt m b <;> cases bt w b <;> simp
    by_cases g1 : c.2.2.2.2 t = nx
    · rw [if_pos (e1.mpr g1)]
      by_cases g2 : t + 1 = nx
      · rw [if_pos (e2.mpr g2)]
        refine ⟨_, rfl, fun ph b hb => ?_⟩
        rw [b_or, Bool.or_eq_true, nb b hb, st, hw b hb]
        constructor
        · rintro (⟨h1, h2⟩ | ⟨h1, h2⟩)
          · exact ⟨h1, by omega⟩
          · refine ⟨h1, ?_⟩
            have : ¬ (c.2.2.1 t = 0 ∧ a < c.2.2.2.1 t ∨ c.2.2.1 t = 1 ∧ b < c.2.2.2.1 t) := fun z => h2 ⟨h1, z⟩
            omega
        · rintro ⟨h1, h2⟩
          by_cases z : (c.2.2.1 t = 0 ∧ a < c.2.2.2.1 t ∨ c.2.2.1 t = 1 ∧ b < c.2.2.2.1 t)
          · exact Or.inl ⟨h1, z⟩
          · exact Or.inr ⟨h1, fun y => z y.2⟩
      · rw [if_neg (fun e => g2 (e2.mp e))]
        refine ⟨_, rfl, fun ph b hb => ?_⟩
        rw [st, hw b hb]
        constructor
        · rintro ⟨h1, h2⟩; exact ⟨h1, by omega⟩
        · rintro ⟨h1, h2⟩; exact ⟨h1, by omega⟩
    · rw [if_neg (fun e => g1 (e1.mp e))]
      by_cases g2 : t + 1 = nx
      · rw [if_pos (e2.mpr g2)]
        refine ⟨_, rfl, fun ph b hb => ?_⟩
        rw [b_or, Bool.or_eq_true, b_0, nb b hb, st, hw b hb]
        constructor
        · rintro (h1 | ⟨h1, h2⟩)
          · cases h1
          · refine ⟨h1, ?_⟩
            have : ¬ (c.2.2.1 t = 0 ∧ a < c.2.2.2.1 t ∨ c.2.2.1 t = 1 ∧ b < c.2.2.2.1 t) := fun z => h2 ⟨h1, z⟩
            omega
        · rintro ⟨h1, h2⟩
          refine Or.inr ⟨h1, fun y => ?_⟩
          have := y.2
          omega
      · rw [if_neg (fun e => g2 (e2.mp e))]
        refine ⟨_, rfl, fun ph b hb => ?_⟩
        rw [st, b_0]
        constructor
        · intro z; cases z
        · rintro ⟨h1, h2⟩; omega
  rcases (show c.2.2.1 t = 0 ∨ c.2.2.1 t = 1 by omega) with x | x
  · rw [x, if_pos c0.symm]
    by_cases g : c.2.2.2.1 t ≤ a
    · rw [if_pos (nI_le g (by omega))]
      exact fin 0 (fun b _ => by
        rw [b_0]
        constructor
        · intro z; cases z
        · intro z; have := z.2; omega)
    · rw [if_neg (nI_ge (by omega) (by omega))]
      exact fin m (fun b _ => ⟨fun z => ⟨z, Or.inl ⟨x, by omega⟩⟩, fun z => z.1⟩)
  · rw [x, if_neg (by decide)]
    refine fin _ (fun b hb => ?_)
    rw [b_and, low_b _ (by omega) b hb, Bool.and_eq_true, decide_eq_true_eq]
    constructor
    · rintro ⟨h1, h2⟩; exact ⟨h1, Or.inr ⟨x, h2⟩⟩
    · rintro ⟨h1, h2⟩; exact ⟨h1, by omega⟩
