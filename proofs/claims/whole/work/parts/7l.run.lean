/-! run, whole. -/
theorem rrun_end {c : Cd} {tp : Nat → Nat} {nb d i ph tk a b n : Nat} {T : Nat → Int32} (h : c.1 ≤ i ∨ c.2.1 i = 9) : rrun c tp nb d (i, ph, tk, a, b, n, T) = (0, n, T) := by
  cases d with
  | zero => rw [rrun]; dsimp only; rw [if_pos h]
  | succ d => rw [rrun]; dsimp only; rw [if_pos h]
theorem rrun_most {c : Cd} {tp : Nat → Nat} {nb i ph tk a b n : Nat} {T : Nat → Int32} (h : ¬ (c.1 ≤ i ∨ c.2.1 i = 9)) : rrun c tp nb 0 (i, ph, tk, a, b, n, T) = (2, n, T) := by
  rw [rrun]; dsimp only; rw [if_neg h]
theorem rrun_byte {c : Cd} {tp : Nat → Nat} {nb d i ph tk a b n : Nat} {T : Nat → Int32} (h : ¬ (c.1 ≤ i ∨ c.2.1 i = 9)) (h3 : c.2.1 i = 3 ∧ nb ≤ tk) : rrun c tp nb (d + 1) (i, ph, tk, a, b, n, T) = (1, n, T) := by
  rw [rrun]; dsimp only; rw [if_neg h, if_pos h3]
theorem rrun_go {c : Cd} {tp : Nat → Nat} {nb d i ph tk a b n : Nat} {T : Nat → Int32} (h : ¬ (c.1 ≤ i ∨ c.2.1 i = 9)) (h3 : ¬ (c.2.1 i = 3 ∧ nb ≤ tk)) : rrun c tp nb (d + 1) (i, ph, tk, a, b, n, T) = rrun c tp nb d (rs1 c tp i ph tk a b n T) := by
  rw [rrun]; dsimp only; rw [if_neg h, if_neg h3]
theorem end8 {p : Nat} {c : Cd} (hc : cdOk c) {M : Mem} {nb done i ph tk a b n : Nat} {T : Nat → Int32} (hcd : cdAt p c M) (h : RC p M (i, ph, tk, a, b, n, T)) (hi : i ≤ 24) (htk : tk ≤ nb) (hnb : nb ≤ 80) (hd : done ≤ 500) :
    f_X3_endAfter (nI done) p (nI nb) M = some (if c.1 ≤ i ∨ c.2.1 i = 9 then 0 else if done < 500 then (if c.2.1 i = 3 ∧ nb ≤ tk then 1 else -1) else 2, M) := by
  have h24 := hc.1
  have h1 : M 60 1 = nI i := h.1
  have h3 : M 60 3 = nI tk := h.2.2.1
  unfold f_X3_endAfter f_X1_isEnd
  rw [h1]
  by_cases z : c.1 ≤ i
  · rw [hs_no hcd.1 (Or.inr (nI_le z (by omega))), bnd_some, if_pos rfl, bnd_some, if_neg (by decide), if_pos (Or.inl z)]
  · obtain ⟨k1, -⟩ := hcd.2 i (by omega)
    obtain ⟨o1, -⟩ := hc.2 i (by omega)
    rw [hs_yes hcd.1 (by omega) (by omega), bnd_some, if_neg (by decide), ixT (show i < 24 by omega) (by omega), if_pos rfl, nI_clamp (by omega), k1]
    by_cases e : c.2.1 i = 9
    · rw [if_pos (show nI (c.2.1 i) = 9 by rw [e]; rfl), bnd_some, if_neg (by decide), if_pos (Or.inr e)]
    · rw [if_neg (show ¬ nI (c.2.1 i) = 9 from fun q => e ((nI_eq (b := 9) (by omega) (by omega)).mp q)), bnd_some, if_pos rfl, if_neg (show ¬ (c.1 ≤ i ∨ c.2.1 i = 9) by omega)]
      by_cases w : done < 500
      · rw [if_pos (show nI done < 500 from nI_lt (b := 500) w (by omega)), if_pos w, h1, e_kind (by omega), bnd_some, k1]
        by_cases e3 : c.2.1 i = 3
        · rw [if_pos (show nI (c.2.1 i) = 3 by rw [e3]; rfl), h3]
          by_cases v : nb ≤ tk
          · rw [if_neg (nI_nlt v (by omega)), if_pos ⟨e3, v⟩]
          · rw [if_pos (nI_lt (by omega) (by omega)), if_neg (fun q => v q.2)]
        · rw [if_neg (show ¬ nI (c.2.1 i) = 3 from fun q => e3 ((nI_eq (b := 3) (by omega) (by omega)).mp q)), if_neg (fun q => e3 q.1)]
      · rw [if_neg (show ¬ nI done < 500 from nI_nlt (b := 500) (by omega) (by omega)), if_neg w]
theorem stop8 {p : Nat} {x3 r x : Int32} {q f : Nat} {M : Mem} (kk : Mem → Int32 → Int32 → Option (Int32 × Mem)) (hr : ¬ r = -1) : f_X3_perform_L34 p x3 q kk (f + 1) M r x = kk M r x := by
  rw [f_X3_perform_L34]
  by_cases w : 500 < x
  · rw [if_pos w]
  · rw [if_neg w, if_neg hr]
theorem run8 {p : Nat} (hp : p < 4) {c : Cd} (hc : cdOk c) {tp : Nat → Nat} (htp : ∀ j, tp j < 32) {nb n0 : Nat} (hnb : nb ≤ n0) (hn0 : n0 ≤ 80) (kk : Mem → Int32 → Int32 → Option (Int32 × Mem)) :
    ∀ (d done f : Nat) (M : Mem) (i ph tk a b n : Nat) (T : Nat → Int32), done + d = 500 → d + 2 ≤ f → RC p M (i, ph, tk, a, b, n, T) → RB nb (i, ph, tk, a, b, n, T) → cdAt p c M → M 58 1 = nI n0 → (∀ j, j < n0 → M 59 j &&& 31 = nI (tp j)) →
    ∃ M' y, f_X3_perform_L34 p (nI nb) (13 * p + 13) kk f M (-1) (nI done) = kk M' (nI (rrun c tp nb d (i, ph, tk, a, b, n, T)).1) y ∧ (∀ j, j < 64 → M' (13 * p + 14) j = (rrun c tp nb d (i, ph, tk, a, b, n, T)).2.2 j) ∧ M' 60 4 = nI (rrun c tp nb d (i, ph, tk, a, b, n, T)).2.1 ∧ mC p M M' := by
  intro d
  induction d with
  | zero =>
    intro done f M i ph tk a b n T hd hf h hb hcd h58 h59
    obtain ⟨f', rfl⟩ : ∃ f', f = f' + 1 + 1 := ⟨f - 2, by omega⟩
    rw [f_X3_perform_L34, if_neg (show ¬ (500 : Int32) < nI done from nI_nlt (a := 500) (by omega) (by omega)), if_pos rfl, end8 hc hcd h hb.1 hb.2.2.1 (by omega) (by omega), bnd_some]
    by_cases z : c.1 ≤ i ∨ c.2.1 i = 9
    · rw [if_pos z, if_neg (by decide), stop8 kk (by decide), rrun_end z]
      exact ⟨M, _, rfl, h.2.2.2.2.2.2, h.2.2.2.2.2.1, mC.rf p M⟩
    · rw [if_neg z, if_neg (show ¬ done < 500 by omega), if_neg (by decide), stop8 kk (by decide), rrun_most z]
      exact ⟨M, _, rfl, h.2.2.2.2.2.2, h.2.2.2.2.2.1, mC.rf p M⟩
  | succ d ih =>
    intro done f M i ph tk a b n T hd hf h hb hcd h58 h59
    obtain ⟨f', rfl⟩ : ∃ f', f = f' + 1 + 1 := ⟨f - 2, by omega⟩
    rw [f_X3_perform_L34, if_neg (show ¬ (500 : Int32) < nI done from nI_nlt (a := 500) (by omega) (by omega)), if_pos rfl, end8 hc hcd h hb.1 hb.2.2.1 (by omega) (by omega), bnd_some]
    by_cases z : c.1 ≤ i ∨ c.2.1 i = 9
    · rw [if_pos z, if_neg (by decide), stop8 kk (by decide), rrun_end z]
      exact ⟨M, _, rfl, h.2.2.2.2.2.2, h.2.2.2.2.2.1, mC.rf p M⟩
    · rw [if_neg z, if_pos (show done < 500 by omega)]
      by_cases v : c.2.1 i = 3 ∧ nb ≤ tk
      · rw [if_pos v, if_neg (by decide), stop8 kk (by decide), rrun_byte z v]
        exact ⟨M, _, rfl, h.2.2.2.2.2.2, h.2.2.2.2.2.1, mC.rf p M⟩
      · rw [if_neg v, if_pos rfl, rrun_go z v]
        have h24 := hc.1
        obtain ⟨b1, b2, b3, b4, b5⟩ := id hb
        dsimp only at b1 b2 b3 b4 b5
        obtain ⟨M1, e1, r1, f1⟩ := step8 hp hc (tp := tp) hcd h b2 b4 b5 (by omega) (by omega) h58 hn0 h59 (fun q => by omega)
        rw [e1, bnd_some, nI_1]
        obtain ⟨i', ph', tk', a', b', n', T', hs⟩ : ∃ i' ph' tk' a' b' n' T', rs1 c tp i ph tk a b n T = (i', ph', tk', a', b', n', T') := ⟨_, _, _, _, _, _, _, rfl⟩
        have hb' := hb.go hc htp (by omega) (fun q => by omega)
        rw [hs] at r1 hb' ⊢
        obtain ⟨M2, y, e2, t2, c2', f2⟩ := ih (done + 1) (f' + 1) M1 i' ph' tk' a' b' n' T' (by omega) (by omega) r1 hb' (hcd.fr (fun k k1 k2 => f1.1 k (by omega) (by omega) (by omega))) (by rw [f1.1 58 (by omega) (by omega) (by omega)]; exact h58) (fun j hj => by rw [f1.1 59 (by omega) (by omega) (by omega)]; exact h59 j hj)
        exact ⟨M2, y, e2, t2, c2', f1.tr f2⟩
/-! the reference's run -/
def RR (p : Nat) (M : Mem) (a b : Nat) (T : Nat → Int32) : Prop := M 91 0 = nI a ∧ M 91 1 = nI b ∧ ∀ j, j < 64 → M 78 (64 * p + j) = T j
def mD (p : Nat) (M M' : Mem) : Prop := (∀ k, k ≠ 91 → k ≠ 78 → k ≠ 70 → M' k = M k) ∧ (∀ f, f ≠ 2 → M' 70 f = M 70 f) ∧ ∀ j, ¬ (64 * p ≤ j ∧ j < 64 * p + 64) → M' 78 j = M 78 j
theorem mD.rf (p : Nat) (M : Mem) : mD p M M := ⟨fun _ _ _ _ => rfl, fun _ _ => rfl, fun _ _ => rfl⟩
theorem mD.tr {p : Nat} {M M' M'' : Mem} (h : mD p M M') (h' : mD p M' M'') : mD p M M'' := ⟨fun k a b c => (h'.1 k a b c).trans (h.1 k a b c), fun f a => (h'.2.1 f a).trans (h.2.1 f a), fun j a => (h'.2.2 j a).trans (h.2.2 j a)⟩
theorem mD.up {p : Nat} {M : Mem} {k j : Nat} {v : Int32} (hk : k = 91 ∨ k = 70 ∧ j = 2 ∨ k = 78 ∧ 64 * p ≤ j ∧ j < 64 * p + 64) : mD p M (upM M k j v) :=
  ⟨fun q a b c => by rw [upM_k (by omega)], fun f hf => by rw [upM_ap, if_neg (by omega)], fun i hi => by rw [upM_ap, if_neg (by omega)]⟩
theorem RR.rgs {p : Nat} {M : Mem} {a b : Nat} {T : Nat → Int32} (h : RR p M a b T) {x : Nat} (hx : x = 0 ∨ x = 1) (v : Nat) : RR p (upM M 91 x (nI v)) (if x = 0 then v else a) (if x = 0 then b else v) T := by
  obtain ⟨h1, h2, h3⟩ := h
  refine ⟨?_, ?_, fun j hj => by rw [upM_k (by omega)]; exact h3 j hj⟩
  · rcases hx with rfl | rfl
    · rw [upM_r, if_pos rfl]; rfl
    · rw [upM_r, if_neg (by omega)]; exact h1
  · rcases hx with rfl | rfl
    · rw [upM_r, if_neg (by omega)]; exact h2
    · rw [upM_r, if_pos rfl]; rfl
theorem RR.tb {p : Nat} {M : Mem} {a b : Nat} {T : Nat → Int32} (h : RR p M a b T) (q : Nat) (w : Int32) : RR p (upM M 78 (64 * p + q) w) a b (va_up T q w) := by
  obtain ⟨h1, h2, h3⟩ := h
  refine ⟨by rw [upM_k (by omega)]; exact h1, by rw [upM_k (by omega)]; exact h2, fun j hj => ?_⟩
  rw [upM_r]
  by_cases z : j = q
  · rw [if_pos (by omega), z]; exact (va_up_self _ _ _).symm
  · rw [if_neg (by omega)]; exact (h3 j hj).trans (va_up_ne _ _ z).symm
theorem RR.reg {p : Nat} {M : Mem} {a b : Nat} {T : Nat → Int32} (h : RR p M a b T) {x : Nat} (hx : x = 0 ∨ x = 1) : M 91 x = nI (rg x a b) := by
  rcases hx with rfl | rfl
  · exact h.1
  · exact h.2.1
set_option maxHeartbeats 4000000 in
theorem run9 {p : Nat} (hp : p < 4) {c : Cd} (hc : cdOk c) {tp : Nat → Nat} (htp : ∀ j, tp j < 32) {nb : Nat} (hn0 : nb ≤ 80) (kk : Mem → Int32 → Int32 → Int32 → Int32 → Int32 → Option (Int32 × Mem)) :
    ∀ (d done f : Nat) (M : Mem) (i ph tk a b n : Nat) (T : Nat → Int32), done + d = 500 → d + 1 ≤ f → RR p M a b T → RB nb (i, ph, tk, a, b, n, T) → cdM p c M → M 70 2 = 2 → (∀ j, j < nb → M 71 j &&& 31 = nI (tp j)) →
    ∃ M', f_X9_run_L59 (nI p) (nI nb) kk f M (nI i) (nI ph) (nI tk) (nI n) (nI done) = some (nI (rrun c tp nb d (i, ph, tk, a, b, n, T)).2.1, M') ∧ (∀ j, j < 64 → M' 78 (64 * p + j) = (rrun c tp nb d (i, ph, tk, a, b, n, T)).2.2 j) ∧ M' 70 2 = nI (rrun c tp nb d (i, ph, tk, a, b, n, T)).1 ∧ mD p M M' := by
  have h24 := hc.1
  intro d
  induction d with
  | zero =>
    intro done f M i ph tk a b n T hd hf h hb hcd h2 h71
    obtain ⟨f', rfl⟩ : ∃ f', f = f' + 1 := ⟨f - 1, by omega⟩
    obtain ⟨b1, b2, b3, b4, b5⟩ := id hb
    dsimp only at b1 b2 b3 b4 b5
    rw [f_X9_run_L59, if_neg (show ¬ (500 : Int32) < nI done from nI_nlt (a := 500) (by omega) (by omega)), ixT hp (by omega), if_pos rfl, nI_clamp (n := p) (by omega), hcd.1]
    unfold nm wr
    dsimp only
    by_cases z : c.1 ≤ i
    · rw [if_pos (nI_le z (by omega)), rrun_end (Or.inl z)]
      exact ⟨_, rfl, fun j hj => by rw [upM_k (by omega)]; exact h.2.2 j hj, by rw [upM_r, if_pos rfl]; rfl, mD.up (by omega)⟩
    · obtain ⟨k1, -⟩ := hcd.2 i (by omega)
      rw [if_neg (nI_ge (by omega) (by omega)), c24, pk_mul, nI_add, ixT (i := 24 * p + i) (n := 96) (by omega) (by omega), if_pos rfl, nI_clamp (n := 24 * p + i) (by omega), k1]
      by_cases e : c.2.1 i = 9
      · rw [if_pos (show nI (c.2.1 i) = 9 by rw [e]; rfl), rrun_end (Or.inr e)]
        exact ⟨_, rfl, fun j hj => by rw [upM_k (by omega)]; exact h.2.2 j hj, by rw [upM_r, if_pos rfl]; rfl, mD.up (by omega)⟩
      · rw [if_neg (show ¬ nI (c.2.1 i) = 9 from fun q => e ((nI_eq (b := 9) (by have := (hc.2 i (by omega)).1; omega) (by omega)).mp q)), if_pos (show nI done = 500 by rw [show done = 500 by omega]; rfl), rrun_most (by omega)]
        exact ⟨M, rfl, h.2.2, h2, mD.rf p M⟩
  | succ d ih =>
    intro done f M i ph tk a b n T hd hf h hb hcd h2 h71
    obtain ⟨f', rfl⟩ : ∃ f', f = f' + 1 := ⟨f - 1, by omega⟩
    obtain ⟨b1, b2, b3, b4, b5⟩ := id hb
    dsimp only at b1 b2 b3 b4 b5
    rw [f_X9_run_L59, if_neg (show ¬ (500 : Int32) < nI done from nI_nlt (a := 500) (by omega) (by omega)), ixT hp (by omega), if_pos rfl, nI_clamp (n := p) (by omega), hcd.1]
    unfold nm wr
    dsimp only
    by_cases z : c.1 ≤ i
    · rw [if_pos (nI_le z (by omega)), rrun_end (Or.inl z)]
      exact ⟨_, rfl, fun j hj => by rw [upM_k (by omega)]; exact h.2.2 j hj, by rw [upM_r, if_pos rfl]; rfl, mD.up (by omega)⟩
    obtain ⟨k1, k2, k3, k4⟩ := hcd.2 i (by omega)
    obtain ⟨o1, o2, o3, o4⟩ := hc.2 i (by omega)
    have hx : c.2.2.1 i = 0 ∨ c.2.2.1 i = 1 := by omega
    have hrg := h.reg hx
    have hr32 : rg (c.2.2.1 i) a b < 32 := rg_lt b4 b5
    rw [if_neg (nI_ge (by omega) (by omega)), c24, pk_mul, nI_add, ixT (i := 24 * p + i) (n := 96) (by omega) (by omega), if_pos rfl, nI_clamp (n := 24 * p + i) (by omega), k1]
    by_cases e9 : c.2.1 i = 9
    · rw [if_pos (show nI (c.2.1 i) = 9 by rw [e9]; rfl), rrun_end (Or.inr e9)]
      exact ⟨_, rfl, fun j hj => by rw [upM_k (by omega)]; exact h.2.2 j hj, by rw [upM_r, if_pos rfl]; rfl, mD.up (by omega)⟩
    have hze : ¬ (c.1 ≤ i ∨ c.2.1 i = 9) := by omega
    rw [if_neg (show ¬ nI (c.2.1 i) = 9 from fun q => e9 ((nI_eq (b := 9) (by omega) (by omega)).mp q)), if_neg (show ¬ nI done = 500 from fun q => absurd ((nI_eq (b := 500) (by omega) (by omega)).mp q) (by omega)), if_pos rfl, if_pos rfl, k2, k3, k4, nI_1, nI_1]
    have hix := ixT (i := c.2.2.1 i) (n := 2) (by omega) (by omega)
    have hcl := nI_clamp (n := c.2.2.1 i) (by omega)
    have go : ∀ (M1 : Mem) (i' ph' tk' a' b' n' : Nat) (T' : Nat → Int32), ¬ (c.2.1 i = 3 ∧ nb ≤ tk) → rs1 c tp i ph tk a b n T = (i', ph', tk', a', b', n', T') → RR p M1 a' b' T' → mD p M M1 → M1 70 2 = M 70 2 →
        ∃ M', f_X9_run_L59 (nI p) (nI nb) kk f' M1 (nI i') (nI ph') (nI tk') (nI n') (nI (done + 1)) = some (nI (rrun c tp nb (d + 1) (i, ph, tk, a, b, n, T)).2.1, M') ∧ (∀ j, j < 64 → M' 78 (64 * p + j) = (rrun c tp nb (d + 1) (i, ph, tk, a, b, n, T)).2.2 j) ∧ M' 70 2 = nI (rrun c tp nb (d + 1) (i, ph, tk, a, b, n, T)).1 ∧ mD p M M' := by
      intro M1 i' ph' tk' a' b' n' T' h3 hs hR hD h2'
      have hb' := hb.go hc htp (by omega) (fun q => by omega)
      rw [rrun_go hze h3, hs]
      rw [hs] at hb'
      obtain ⟨M2, e2, t2, c2', f2⟩ := ih (done + 1) f' M1 i' ph' tk' a' b' n' T' (by omega) (by omega) hR hb' (hcd.fr (fun k k1 k2 => hD.1 k (by omega) (by omega) (by omega))) (by rw [h2']; exact h2) (fun j hj => by rw [hD.1 71 (by omega) (by omega) (by omega)]; exact h71 j hj)
      exact ⟨M2, e2, t2, c2', hD.tr f2⟩
    have kk' : c.2.1 i = 0 ∨ c.2.1 i = 1 ∨ c.2.1 i = 2 ∨ c.2.1 i = 3 ∨ c.2.1 i = 4 ∨ c.2.1 i = 5 ∨ c.2.1 i = 6 ∨ c.2.1 i = 7 ∨ c.2.1 i = 8 := by omega
    have hs4 : c.2.1 i ≤ 4 → rs1 c tp i ph tk a b n T = (i + 1, ph, if c.2.1 i = 3 then tk + 1 else tk, if c.2.2.1 i = 0 then rvl c tp i tk a b else a, if c.2.2.1 i = 0 then b else rvl c tp i tk a b, n, T) := fun q => by
      unfold rs1
      rw [if_neg (by omega), if_neg (by omega), if_neg (by omega), if_neg (by omega)]
    have up2 : ∀ (k j : Nat) (v : Int32), k ≠ 70 → upM M k j v 70 2 = M 70 2 := fun k j v hk => by rw [upM_k (by omega)]
    rcases kk' with e | e | e | e | e | e | e | e | e
    · have hs := hs4 (by omega)
      rw [show rvl c tp i tk a b = c.2.2.2.1 i by unfold rvl; rw [if_pos e], if_neg (by omega)] at hs
      rw [e, if_pos (by decide), if_pos rfl, hix, if_pos rfl, hcl]
      exact go _ _ _ _ _ _ _ _ (by omega) hs (h.rgs hx _) (mD.up (by omega)) (up2 _ _ _ (by omega))
    · have hs := hs4 (by omega)
      rw [show rvl c tp i tk a b = (rg (c.2.2.1 i) a b + c.2.2.2.1 i) % 32 by unfold rvl; rw [if_neg (by omega), if_pos e], if_neg (by omega)] at hs
      rw [e, if_neg (by decide), if_pos (by decide), hix, if_pos rfl, if_pos rfl, if_pos rfl, hcl, hrg, nI_add, c32, dv (by omega) (by omega) (by omega)]
      exact go _ _ _ _ _ _ _ _ (by omega) hs (h.rgs hx _) (mD.up (by omega)) (up2 _ _ _ (by omega))
    · have hs := hs4 (by omega)
      rw [show rvl c tp i tk a b = rg (c.2.2.1 i) b a by unfold rvl; rw [if_neg (by omega), if_neg (by omega), if_pos e], if_neg (by omega)] at hs
      have hx1 : (1 : Int32) - nI (c.2.2.1 i) = nI (1 - c.2.2.1 i) := by rw [c1, pk_sub (by omega)]
      have hro : M 91 (1 - c.2.2.1 i) = nI (rg (c.2.2.1 i) b a) := by
        rcases hx with q | q
        · rw [q]; exact h.2.1
        · rw [q]; exact h.1
      rw [e, if_neg (by decide), if_neg (by decide), if_pos (by decide), hx1, ixT (i := 1 - c.2.2.1 i) (n := 2) (by omega) (by omega), if_pos rfl, hix, if_pos rfl, hcl, nI_clamp (n := 1 - c.2.2.1 i) (by omega), hro]
      exact go _ _ _ _ _ _ _ _ (by omega) hs (h.rgs hx _) (mD.up (by omega)) (up2 _ _ _ (by omega))
    · have hs := hs4 (by omega)
      rw [show rvl c tp i tk a b = tp tk by unfold rvl; rw [if_neg (by omega), if_neg (by omega), if_neg (by omega), if_pos e], if_pos e] at hs
      rw [e, if_neg (by decide), if_neg (by decide), if_neg (by decide), if_pos (by decide)]
      by_cases v : nb ≤ tk
      · have v' : tk = nb := by omega
        rw [if_pos (by rw [v']), rrun_byte hze ⟨e, v⟩]
        exact ⟨_, rfl, fun j hj => by rw [upM_k (by omega)]; exact h.2.2 j hj, by rw [upM_r, if_pos rfl]; rfl, mD.up (by omega)⟩
      · rw [if_neg (fun q => v (by have := (nI_eq (by omega) (by omega)).mp q; omega)), ixT (show tk < 80 by omega) (by omega), if_pos rfl, hix, if_pos rfl, hcl, nI_clamp (n := tk) (by omega), h71 tk (by omega), nI_1]
        exact go _ _ _ _ _ _ _ _ (by omega) hs (h.rgs hx _) (mD.up (by omega)) (up2 _ _ _ (by omega))
    · have hs := hs4 (by omega)
      rw [show rvl c tp i tk a b = (rg (c.2.2.1 i) a b &&& c.2.2.2.1 i) by unfold rvl; rw [if_neg (by omega), if_neg (by omega), if_neg (by omega), if_neg (by omega)], if_neg (by omega)] at hs
      rw [e, if_neg (by decide), if_neg (by decide), if_neg (by decide), if_neg (by decide), if_pos (by decide), hix, if_pos rfl, if_pos rfl, if_pos rfl, hcl, hrg, nx_and]
      exact go _ _ _ _ _ _ _ _ (by omega) hs (h.rgs hx _) (mD.up (by omega)) (up2 _ _ _ (by omega))
    · have hs : rs1 c tp i ph tk a b n T = (if rg (c.2.2.1 i) a b < c.2.2.2.1 i then c.2.2.2.2 i else i + 1, ph, tk, a, b, n, T) := by unfold rs1; rw [if_pos e]
      rw [e, if_neg (by decide), if_neg (by decide), if_neg (by decide), if_neg (by decide), if_neg (by decide), if_pos (by decide), hix, if_pos rfl, if_pos rfl, hcl, hrg]
      by_cases w : rg (c.2.2.1 i) a b < c.2.2.2.1 i
      · rw [if_pos w] at hs
        rw [if_neg (nI_ge w (by omega)), if_pos rfl]
        exact go _ _ _ _ _ _ _ _ (by omega) hs h (mD.rf p M) rfl
      · rw [if_neg w] at hs
        rw [if_pos (nI_le (by omega) (by omega))]
        exact go _ _ _ _ _ _ _ _ (by omega) hs h (mD.rf p M) rfl
    · have hs : rs1 c tp i ph tk a b n T = (c.2.2.2.2 i, ph, tk, a, b, n, T) := by unfold rs1; rw [if_neg (by omega), if_pos e]
      rw [e, if_neg (by decide), if_neg (by decide), if_neg (by decide), if_neg (by decide), if_neg (by decide), if_neg (by decide), if_pos (by decide), if_pos rfl]
      exact go _ _ _ _ _ _ _ _ (by omega) hs h (mD.rf p M) rfl
    · have hs : rs1 c tp i ph tk a b n T = (i + 1, ph, tk, a, b, n + 1, va_up T (32 * ph + a) (T (32 * ph + a) ||| ((1 : Int32) <<< (nI b &&& 31)))) := by unfold rs1; rw [if_neg (by omega), if_neg (by omega), if_pos e]
      have hA : M 91 (0 : Int32).toNatClampNeg = nI a := h.1
      have hB : M 91 (1 : Int32).toNatClampNeg = nI b := h.2.1
      have ea : (64 : Int32) * nI p + (32 : Int32) * nI ph + nI a = nI (64 * p + (32 * ph + a)) := by
        rw [c64, c32, pk_mul, pk_mul, nI_add, nI_add, Nat.add_assoc]
      rw [e, if_neg (by decide), if_neg (by decide), if_neg (by decide), if_neg (by decide), if_neg (by decide), if_neg (by decide), if_neg (by decide), if_pos (by decide), if_pos (by decide), hA, hB, ea, ixT (i := 64 * p + (32 * ph + a)) (n := 256) (by omega) (by omega), if_pos rfl, if_pos (by decide), if_pos rfl, nI_clamp (n := 64 * p + (32 * ph + a)) (by omega), h.2.2 _ (by omega), nI_1]
      exact go _ _ _ _ _ _ _ _ (by omega) hs (h.tb _ _) (mD.up (by omega)) (up2 _ _ _ (by omega))
    · have hs : rs1 c tp i ph tk a b n T = (i + 1, 1, tk, a, b, n, T) := by unfold rs1; rw [if_neg (by omega), if_neg (by omega), if_neg (by omega), if_pos e]
      rw [e, if_neg (by decide), if_neg (by decide), if_neg (by decide), if_neg (by decide), if_neg (by decide), if_neg (by decide), if_neg (by decide), if_neg (by decide), if_pos (by decide)]
      exact go _ _ _ _ _ _ _ _ (by omega) hs h (mD.rf p M) rfl
