/-! code, change, copy. -/
theorem upM_r (M : Mem) (k i : Nat) (v : Int32) (j : Nat) : upM M k i v k j = if j = i then v else M k j := by
  rw [upM_ap]
  by_cases e : j = i
  · rw [if_pos ⟨rfl, e⟩, if_pos e]
  · rw [if_neg (fun w => e w.2), if_neg e]
def pk4 (k x n t : Int32) (r : Nat) : Int32 := if r = 0 then k else if r = 1 then x else if r = 2 then n else t
def cR (c : Cd) (r i : Nat) : Nat := if r = 0 then c.2.1 i else if r = 1 then c.2.2.1 i else if r = 2 then c.2.2.2.1 i else c.2.2.2.2 i
theorem r4 {r : Nat} (h : r < 4) : r = 0 ∨ r = 1 ∨ r = 2 ∨ r = 3 := by omega
theorem cdAt_r {p : Nat} {c : Cd} {M : Mem} : cdAt p c M ↔ M (13 * p + 3) 4 = nI c.1 ∧ ∀ r i, r < 4 → i < 24 → M (13 * p + 4 + r) i = nI (cR c r i) := by
  constructor
  · rintro ⟨a, b⟩
    refine ⟨a, fun r i hr hi => ?_⟩
    obtain ⟨b1, b2, b3, b4⟩ := b i hi
    rcases r4 hr with rfl | rfl | rfl | rfl
    · exact b1
    · exact b2
    · exact b3
    · exact b4
  · rintro ⟨a, b⟩
    exact ⟨a, fun i hi => ⟨b 0 i (by omega) hi, b 1 i (by omega) hi, b 2 i (by omega) hi, b 3 i (by omega) hi⟩⟩
theorem cdM_r {p : Nat} {c : Cd} {M : Mem} : cdM p c M ↔ M 72 p = nI c.1 ∧ ∀ r i, r < 4 → i < 24 → M (73 + r) (24 * p + i) = nI (cR c r i) := by
  constructor
  · rintro ⟨a, b⟩
    refine ⟨a, fun r i hr hi => ?_⟩
    obtain ⟨b1, b2, b3, b4⟩ := b i hi
    rcases r4 hr with rfl | rfl | rfl | rfl
    · exact b1
    · exact b2
    · exact b3
    · exact b4
  · rintro ⟨a, b⟩
    exact ⟨a, fun i hi => ⟨b 0 i (by omega) hi, b 1 i (by omega) hi, b 2 i (by omega) hi, b 3 i (by omega) hi⟩⟩
theorem put_spec {p i : Nat} (hi : i < 24) (k x n t : Int32) (M : Mem) :
    ∃ M', f_X1_put p (nI i) k x n t M = some (0, M') ∧ (∀ q, ¬ (13 * p + 4 ≤ q ∧ q ≤ 13 * p + 7) → M' q = M q) ∧ ∀ r j, r < 4 → M' (13 * p + 4 + r) j = if j = i then pk4 k x n t r else M (13 * p + 4 + r) j := by
  unfold f_X1_put wr
  rw [ixT hi (by omega), nI_clamp (by omega)]
  dsimp only
  rw [if_pos rfl, if_pos rfl, if_pos rfl, if_pos rfl]
  refine ⟨_, rfl, fun q hq => by rw [upM_k (by omega), upM_k (by omega), upM_k (by omega), upM_k (by omega)], fun r j hr => ?_⟩
  rcases r4 hr with rfl | rfl | rfl | rfl
  · rw [upM_k (by omega), upM_k (by omega), upM_k (by omega)]; exact upM_r _ _ _ _ _
  · rw [upM_k (by omega), upM_k (by omega)]
    refine (upM_r _ _ _ _ _).trans ?_
    rw [upM_k (by omega)]; rfl
  · rw [upM_k (by omega)]
    refine (upM_r _ _ _ _ _).trans ?_
    rw [upM_k (by omega), upM_k (by omega)]; rfl
  · refine (upM_r _ _ _ _ _).trans ?_
    rw [upM_k (by omega), upM_k (by omega), upM_k (by omega)]; rfl
theorem puts_spec {v : Nat} (hv : v < 96) (k x n t : Int32) (M : Mem) :
    ∃ M', f_X9_puts (nI v) k x n t M = some (0, M') ∧ (∀ q, ¬ (73 ≤ q ∧ q ≤ 76) → M' q = M q) ∧ ∀ r j, r < 4 → M' (73 + r) j = if j = v then pk4 k x n t r else M (73 + r) j := by
  unfold f_X9_puts wr
  rw [ixT hv (by omega), nI_clamp (by omega)]
  dsimp only
  rw [if_pos rfl, if_pos rfl, if_pos rfl, if_pos rfl]
  refine ⟨_, rfl, fun q hq => by rw [upM_k (by omega), upM_k (by omega), upM_k (by omega), upM_k (by omega)], fun r j hr => ?_⟩
  rcases r4 hr with rfl | rfl | rfl | rfl
  · rw [upM_k (by omega), upM_k (by omega), upM_k (by omega)]; exact upM_r _ _ _ _ _
  · rw [upM_k (by omega), upM_k (by omega)]
    refine (upM_r _ _ _ _ _).trans ?_
    rw [upM_k (by omega)]; rfl
  · rw [upM_k (by omega)]
    refine (upM_r _ _ _ _ _).trans ?_
    rw [upM_k (by omega), upM_k (by omega)]; rfl
  · refine (upM_r _ _ _ _ _).trans ?_
    rw [upM_k (by omega), upM_k (by omega), upM_k (by omega)]; rfl
theorem chgs_spec {p : Nat} (hp : p < 4) (M : Mem) :
    ∃ M', f_X9_changes (nI p) M = some (0, M') ∧ (∀ k, k ≠ 70 → k ≠ 80 → M' k = M k) ∧ (∀ j, M' 80 j = if j = p then 0 else M 80 j) ∧ (∀ f, f ≠ 18 → M' 70 f = M 70 f) ∧ M' 70 18 = if M 70 18 = nI p then -1 else M 70 18 := by
  unfold f_X9_changes wr
  rw [ixT hp (by omega), nI_clamp (by omega), show vp_nar .boolean 0 = 0 from rfl]
  dsimp only
  rw [if_pos rfl, upM_k (show (70 : Nat) ≠ 80 by omega)]
  by_cases z : M 70 18 = nI p
  · rw [if_pos z, if_pos z]
    exact ⟨_, rfl, fun k a b => by rw [upM_k a, upM_k b], fun j => by rw [upM_k (by omega)]; exact upM_r _ _ _ _ _, fun f hf => by rw [upM_r, if_neg hf, upM_k (by omega)], by rw [upM_r, if_pos rfl]⟩
  · rw [if_neg z, if_neg z]
    exact ⟨_, rfl, fun k a b => by rw [upM_k a, upM_k b], fun j => by rw [upM_k (by omega)]; exact upM_r _ _ _ _ _, fun f hf => by rw [upM_r, if_neg hf, upM_k (by omega)], by rw [upM_r, if_pos rfl]⟩
theorem iv_chg {cc : Nat → Cd} {M M' : Mem} (h : Inv cc M) {p : Nat} (hp : p < 4) {c' : Cd} (hc : cdOk c') (ha : cdAt p c' M') (hm : cdM p c' M')
    (h1 : ∀ k, ¬ (13 * p + 3 ≤ k ∧ k ≤ 13 * p + 8) → k ≠ 70 → ¬ (72 ≤ k ∧ k ≤ 76) → k ≠ 80 → M' k = M k)
    (h72 : ∀ j, j ≠ p → M' 72 j = M 72 j) (h73 : ∀ r j, r < 4 → ¬ (24 * p ≤ j ∧ j < 24 * p + 24) → M' (73 + r) j = M (73 + r) j)
    (h8 : ¬ M' (13 * p + 8) 8 = 0) (h80 : ∀ j, M' 80 j = if j = p then 0 else M 80 j) (h70 : ∀ f, f ≠ 18 → M' 70 f = M 70 f) (h18 : M' 70 18 = if M 70 18 = nI p then -1 else M 70 18) : Inv (va_up cc p c') M' := by
  obtain ⟨hP, hT, hN, hE⟩ := h
  have g : ∀ k, (54 ≤ k ∧ k < 70) ∨ k = 71 ∨ (77 ≤ k ∧ k ≤ 79) ∨ 81 ≤ k → M' k = M k := fun k w => h1 k (by omega) (by omega) (by omega) (by omega)
  refine ⟨fun q hq => ?_, hT.fr (by rw [g 58 (by omega)]) (h70 1 (by omega)) (g 59 (by omega)) (g 71 (by omega)), by rw [g 60 (by omega), h70 2 (by omega)]; exact hN, hE.fr (by rw [g 62 (by omega)]) (h70 12 (by omega)) (fun k w => g k (by omega))⟩
  obtain ⟨a, b, c, d⟩ := hP q hq
  by_cases e : q = p
  · subst e
    rw [va_up_self]
    refine ⟨⟨hc, ha, hm, fun j hj => ?_⟩, fun z => absurd z h8, fun z => ?_, fun z => ?_⟩
    · rw [h1 (13 * q + 14) (by omega) (by omega) (by omega) (by omega), g 78 (by omega)]
      exact a.2.2.2 j hj
    · rw [h80, if_pos rfl] at z; exact absurd rfl z
    · rw [h18] at z
      by_cases w : M 70 18 = nI q
      · rw [if_pos w] at z; exact absurd z.symm (nI_m1 (by omega))
      · rw [if_neg w] at z; exact absurd z w
  · rw [va_up_ne _ _ e]
    have hm' := cdM_r.mp a.2.2.1
    refine ⟨⟨a.1, a.2.1.fr (fun k k1 k2 => h1 k (by omega) (by omega) (by omega) (by omega)), cdM_r.mpr ⟨by rw [h72 q e]; exact hm'.1, fun r i hr hi => by rw [h73 r _ hr (by omega)]; exact hm'.2 r i hr hi⟩, fun j hj => ?_⟩, b.fr (fun k w => h1 k (by omega) (by omega) (by omega) (by omega)), c.fr (by rw [h80, if_neg e]) (fun j _ _ => by rw [g 77 (by omega)]) (by rw [g 79 (by omega)]), d.fr (fun z => ?_)⟩
    · rw [h1 (13 * q + 14) (by omega) (by omega) (by omega) (by omega), g 78 (by omega)]
      exact a.2.2.2 j hj
    · rw [h18] at z
      by_cases w : M 70 18 = nI p
      · rw [if_pos w] at z; exact absurd z.symm (nI_m1 (by omega))
      · rw [if_neg w] at z
        exact ⟨z, by rw [h80, if_neg e], g 87 (by omega), g 88 (by omega), g 89 (by omega)⟩
theorem sh2_no {x : Int32} {n : Nat} {α : Type} {a b : α} (hn : n + 1 < 2 ^ 31) (h : x < 0 ∨ nI (n + 1) ≤ x) : (if x < 0 then a else if nI n < x then a else b) = a := by
  by_cases z : x < 0
  · rw [if_pos z]
  · have h' := h.resolve_left z
    rw [if_neg z, if_pos (by rw [Int32.lt_iff_toInt_lt, nI_toInt (by omega)]; rw [Int32.le_iff_toInt_le, nI_toInt (by omega)] at h'; omega)]
theorem sh2_yes {p n : Nat} {α : Type} {a b : α} (hp : p ≤ n) (hn : n < 2 ^ 31) : (if nI p < 0 then a else if nI n < nI p then a else b) = b := by
  rw [if_neg (nI_pos (by omega)), if_neg (nI_nlt hp hn)]
theorem ins_cases (k x n t : Int32) : ((∀ M, f_X8_isInstruction k x n t M = some (0, M)) ∧ ∀ M, f_X9_isGood k x n t M = some (0, M)) ∨ ∃ a b c d, a ≤ 9 ∧ b ≤ 1 ∧ c ≤ 31 ∧ d ≤ 24 ∧ k = nI a ∧ x = nI b ∧ n = nI c ∧ t = nI d ∧ (∀ M, f_X8_isInstruction k x n t M = some (1, M)) ∧ ∀ M, f_X9_isGood k x n t M = some (1, M) := by
  unfold f_X8_isInstruction f_X9_isGood
  rcases pk2 k (n := 10) (by omega) with z | ⟨a, ha, rfl⟩
  · refine Or.inl ⟨fun M => sh2_no (n := 9) (by omega) z, fun M => ?_⟩
    have e1 : f_X9_lies k 0 9 M = some (0, M) := li_no (n := 9) (by omega) z M
    rw [e1, bnd_some, if_pos rfl]
  have a9 : ∀ M, f_X9_lies (nI a) 0 9 M = some (1, M) := fun M => li_yes (n := 9) (by omega) (by omega) M
  rcases pk2 x (n := 2) (by omega) with z | ⟨b, hb, rfl⟩
  · refine Or.inl ⟨fun M => (sh2_yes (n := 9) (by omega) (by omega)).trans (sh_no (n := 2) z), fun M => ?_⟩
    have e1 : f_X9_lies x 0 1 M = some (0, M) := li_no (n := 1) (by omega) z M
    rw [a9, bnd_some, if_neg (by decide), e1, bnd_some, if_pos rfl]
  have b9 : ∀ M, f_X9_lies (nI b) 0 1 M = some (1, M) := fun M => li_yes (n := 1) (by omega) (by omega) M
  rcases pk2 n (n := 32) (by omega) with z | ⟨c, hc, rfl⟩
  · refine Or.inl ⟨fun M => (sh2_yes (n := 9) (by omega) (by omega)).trans ((sh_yes (n := 2) hb (by omega)).trans ?_), fun M => ?_⟩
    · rw [v8_no z, bnd_some, if_pos rfl]
    · have e1 : f_X9_lies n 0 31 M = some (0, M) := li_no (n := 31) (by omega) z M
      rw [a9, bnd_some, if_neg (by decide), b9, bnd_some, if_neg (by decide), e1, bnd_some, if_pos rfl]
  have c9 : ∀ M, f_X9_lies (nI c) 0 31 M = some (1, M) := fun M => li_yes (n := 31) (by omega) (by omega) M
  rcases pk2 t (n := 25) (by omega) with z | ⟨d, hd, rfl⟩
  · refine Or.inl ⟨fun M => (sh2_yes (n := 9) (by omega) (by omega)).trans ((sh_yes (n := 2) hb (by omega)).trans ?_), fun M => ?_⟩
    · rw [v8_yes hc, bnd_some, if_neg (by decide)]
      exact sh2_no (n := 24) (by omega) z
    · have e1 : f_X9_lies t 0 24 M = some (0, M) := li_no (n := 24) (by omega) z M
      rw [a9, bnd_some, if_neg (by decide), b9, bnd_some, if_neg (by decide), c9, bnd_some, if_neg (by decide), e1, bnd_some, if_pos rfl]
  have d9 : ∀ M, f_X9_lies (nI d) 0 24 M = some (1, M) := fun M => li_yes (n := 24) (by omega) (by omega) M
  refine Or.inr ⟨a, b, c, d, by omega, by omega, by omega, by omega, rfl, rfl, rfl, rfl, fun M => (sh2_yes (n := 9) (by omega) (by omega)).trans ((sh_yes (n := 2) hb (by omega)).trans ?_), fun M => ?_⟩
  · rw [v8_yes hc, bnd_some, if_neg (by decide)]
    exact sh2_yes (n := 24) (by omega) (by omega)
  · rw [a9, bnd_some, if_neg (by decide), b9, bnd_some, if_neg (by decide), c9, bnd_some, if_neg (by decide), d9, bnd_some, if_neg (by decide)]
def cSet (c : Cd) (s i a b d e : Nat) : Cd := (s, va_up c.2.1 i a, va_up c.2.2.1 i b, va_up c.2.2.2.1 i d, va_up c.2.2.2.2 i e)
theorem cSet_ok {c : Cd} (h : cdOk c) {s i a b d e : Nat} (hs : s ≤ 24) (ha : a ≤ 9) (hb : b ≤ 1) (hd : d ≤ 31) (he : e ≤ 24) : cdOk (cSet c s i a b d e) := by
  refine ⟨hs, fun j hj => ?_⟩
  obtain ⟨x1, x2, x3, x4⟩ := h.2 j hj
  unfold cSet
  dsimp only
  by_cases z : j = i
  · rw [z, va_up_self, va_up_self, va_up_self, va_up_self]; exact ⟨ha, hb, hd, he⟩
  · rw [va_up_ne _ _ z, va_up_ne _ _ z, va_up_ne _ _ z, va_up_ne _ _ z]; exact ⟨x1, x2, x3, x4⟩
theorem cSet_R {c : Cd} {s i a b d e r j : Nat} (hr : r < 4) : (if j = i then pk4 (nI a) (nI b) (nI d) (nI e) r else nI (cR c r j)) = nI (cR (cSet c s i a b d e) r j) := by
  by_cases z : j = i
  · rw [if_pos z, z]
    rcases r4 hr with rfl | rfl | rfl | rfl
    · show nI a = nI (va_up c.2.1 i a i); rw [va_up_self]
    · show nI b = nI (va_up c.2.2.1 i b i); rw [va_up_self]
    · show nI d = nI (va_up c.2.2.2.1 i d i); rw [va_up_self]
    · show nI e = nI (va_up c.2.2.2.2 i e i); rw [va_up_self]
  · rw [if_neg z]
    rcases r4 hr with rfl | rfl | rfl | rfl
    · show nI (c.2.1 j) = nI (va_up c.2.1 i a j); rw [va_up_ne _ _ z]
    · show nI (c.2.2.1 j) = nI (va_up c.2.2.1 i b j); rw [va_up_ne _ _ z]
    · show nI (c.2.2.2.1 j) = nI (va_up c.2.2.2.1 i d j); rw [va_up_ne _ _ z]
    · show nI (c.2.2.2.2 j) = nI (va_up c.2.2.2.2 i e j); rw [va_up_ne _ _ z]
theorem repl_spec {p i s : Nat} {M : Mem} (hM : M (13 * p + 3) 4 = nI s) (hi : i < s) (hs : s ≤ 24) (k x n t : Int32) :
    ∃ M', f_X5_replace p (nI i) k x n t M = some (1, M') ∧ (∀ q, ¬ (13 * p + 4 ≤ q ∧ q ≤ 13 * p + 8) → M' q = M q) ∧ (∀ r j, r < 4 → M' (13 * p + 4 + r) j = if j = i then pk4 k x n t r else M (13 * p + 4 + r) j) ∧ M' (13 * p + 8) 8 = 1 := by
  obtain ⟨M1, e1, f1, r1⟩ := put_spec (p := p) (show i < 24 by omega) k x n t M
  refine ⟨upM M1 (13 * p + 8) 8 1, ?_, fun q hq => ?_, fun r j hr => ?_, ?_⟩
  · unfold f_X5_replace f_X4_forget wr
    rw [hs_yes hM hi (by omega), bnd_some, if_neg (by decide), e1, bnd_some, bnd_some]
  · rw [upM_k (by omega), f1 q (by omega)]
  · rw [upM_k (by omega), r1 r j hr]
  · rw [upM_r, if_pos rfl]
theorem sm_code (a k x n t : Int32) : Sm (f_X8_code a k x n t) (f_X9_code a k x n t) := by
  intro cc M h
  rcases pk2 a (n := 4) (by omega) with z | ⟨p, hp, rfl⟩
  · exact Sm.same h (-1) (by unfold f_X8_code; rw [p8_no z, bnd_some, if_pos rfl]) (by unfold f_X9_code; rw [p9_no z, bnd_some, if_pos rfl])
  obtain ⟨hC, -⟩ := h.1 p hp
  have h24 := hC.1.1
  rcases ins_cases k x n t with ⟨z8, z9⟩ | ⟨a, b, d, e, ha, hb, hd, he, rfl, rfl, rfl, rfl, z8, z9⟩
  · refine Sm.same h (-1) (by unfold f_X8_code; rw [p8_yes hp, bnd_some, if_neg (by decide), z8, bnd_some, if_pos rfl]) ?_
    unfold f_X9_code
    rw [p9_yes hp, bnd_some, if_neg (by decide), ixT hp (by omega), if_pos rfl, nI_clamp (by omega), hC.2.2.1.1]
    by_cases w : nI (cc p).1 = 24
    · rw [if_pos w]
    · rw [if_neg w, z9, bnd_some, if_pos rfl]
  by_cases w : (cc p).1 = 24
  · refine Sm.same h (-1) ?_ ?_
    · unfold f_X8_code f_X5_append f_X1_grow
      rw [p8_yes hp, bnd_some, if_neg (by decide), z8, bnd_some, if_neg (by decide), ixT hp (by omega), if_pos rfl, nI_clamp (by omega), hC.2.1.1, w, if_neg (by decide), bnd_some, if_pos rfl, bnd_some]
    · unfold f_X9_code
      rw [p9_yes hp, bnd_some, if_neg (by decide), ixT hp (by omega), if_pos rfl, nI_clamp (by omega), hC.2.2.1.1, w, if_pos (by decide)]
  · obtain ⟨M1, e1, f1, r1, l1⟩ := repl_spec (p := p) (i := (cc p).1) (s := (cc p).1 + 1) (M := upM M (13 * p + 3) 4 (nI ((cc p).1 + 1))) (by rw [upM_r, if_pos rfl]) (by omega) (by omega) (nI a) (nI b) (nI d) (nI e)
    have g1 : ∀ q, ¬ (13 * p + 3 ≤ q ∧ q ≤ 13 * p + 8) → M1 q = M q := fun q hq => by rw [f1 q (by omega), upM_k (by omega)]
    obtain ⟨X1, x1, x2, x3⟩ := puts_spec (v := 24 * p + (cc p).1) (by omega) (nI a) (nI b) (nI d) (nI e) M1
    obtain ⟨X3, y1, y2, y3, y4, y5⟩ := chgs_spec hp (upM X1 72 p (nI ((cc p).1 + 1)))
    have m72 : M1 72 p = nI (cc p).1 := by rw [g1 72 (by omega)]; exact hC.2.2.1.1
    have x72 : X1 72 p = nI (cc p).1 := by rw [x2 72 (by omega)]; exact m72
    have kX : ∀ k, k ≠ 70 → ¬ (72 ≤ k ∧ k ≤ 76) → k ≠ 80 → X3 k = M1 k := fun k q1 q2 q3 => by rw [y2 k q1 q3, upM_k (by omega), x2 k (by omega)]
    have ha' := cdAt_r.mp hC.2.1
    have hm' := cdM_r.mp hC.2.2.1
    refine ⟨nI (cc p).1, M1, X3, va_up cc p (cSet (cc p) ((cc p).1 + 1) (cc p).1 a b d e), ?_, ?_, iv_chg h hp (cSet_ok hC.1 (by omega) ha hb hd he) (cdAt_r.mpr ⟨?_, fun r j hr hj => ?_⟩) (cdM_r.mpr ⟨?_, fun r j hr hj => ?_⟩) (fun k q1 q2 q3 q4 => by rw [kX k q2 q3 q4, g1 k q1]) (fun j hj => ?_) (fun r j hr hj => ?_) ?_ (fun j => ?_) (fun f hf => ?_) ?_⟩
    · unfold f_X8_code f_X5_append f_X1_grow f_X1_length nm wr
      dsimp only
      rw [p8_yes hp, bnd_some, if_neg (by decide), z8, bnd_some, if_neg (by decide), ixT hp (by omega), if_pos rfl, nI_clamp (by omega), hC.2.1.1, if_pos (show nI (cc p).1 < 24 from nI_lt (b := 24) (by omega) (by omega)), bnd_some, if_neg (by decide), bnd_some, nI_1, upM_r, if_pos rfl, nI_pred]
      rw [e1, bnd_some, bnd_some]
    · unfold f_X9_code wr
      dsimp only
      rw [p9_yes hp, bnd_some, if_neg (by decide), ixT hp (by omega), if_pos rfl, nI_clamp (by omega), m72, if_neg (show ¬ nI (cc p).1 = 24 from fun q => w ((nI_eq (b := 24) (by omega) (by omega)).mp q)), z9, bnd_some, if_neg (by decide), if_pos rfl, c24, pk_mul, m72, nI_add, x1, bnd_some, if_pos rfl, if_pos rfl, x72, nI_1, y1, bnd_some, if_pos rfl, y2 72 (by omega) (by omega), upM_r, if_pos rfl, nI_pred]
    · rw [kX _ (by omega) (by omega) (by omega), f1 _ (by omega), upM_r, if_pos rfl]; rfl
    · rw [kX _ (by omega) (by omega) (by omega), r1 r j hr, upM_k (by omega), ha'.2 r j hr hj]; exact cSet_R hr
    · rw [y2 72 (by omega) (by omega), upM_r, if_pos rfl]; rfl
    · rw [y2 _ (by omega) (by omega), upM_k (by omega), x3 r _ hr, g1 _ (by omega), hm'.2 r j hr hj]
      refine Eq.trans ?_ (cSet_R (s := (cc p).1 + 1) (i := (cc p).1) hr)
      by_cases q : j = (cc p).1
      · rw [if_pos q, if_pos (by omega)]
      · rw [if_neg q, if_neg (by omega)]
    · rw [y2 72 (by omega) (by omega), upM_r, if_neg hj, x2 72 (by omega), g1 72 (by omega)]
    · rw [y2 _ (by omega) (by omega), upM_k (by omega), x3 r j hr, if_neg (by omega), g1 _ (by omega)]
    · rw [kX _ (by omega) (by omega) (by omega), l1]; decide
    · rw [y3, upM_k (by omega), x2 80 (by omega), g1 80 (by omega)]
    · rw [y4 f hf, upM_k (by omega), x2 70 (by omega), g1 70 (by omega)]
    · rw [y5, upM_k (by omega), x2 70 (by omega), g1 70 (by omega)]
theorem sm_change (a i k x n t : Int32) : Sm (f_X8_change a i k x n t) (f_X9_change a i k x n t) := by
  intro cc M h
  rcases pk2 a (n := 4) (by omega) with z | ⟨p, hp, rfl⟩
  · exact Sm.same h 0 (by unfold f_X8_change; rw [p8_no z, bnd_some, if_pos rfl]) (by unfold f_X9_change; rw [p9_no z, bnd_some, if_pos rfl])
  obtain ⟨hC, -⟩ := h.1 p hp
  have h24 := hC.1.1
  rcases ins_cases k x n t with ⟨z8, z9⟩ | ⟨a, b, d, e, ha, hb, hd, he, rfl, rfl, rfl, rfl, z8, z9⟩
  · refine Sm.same h 0 (by unfold f_X8_change; rw [p8_yes hp, bnd_some, if_neg (by decide), z8, bnd_some, if_pos rfl]) ?_
    unfold f_X9_change
    rw [p9_yes hp, bnd_some, if_neg (by decide), ixT hp (by omega), if_pos rfl, nI_clamp (by omega), hC.2.2.1.1]
    rcases pk2 i (n := (cc p).1) (by omega) with w | ⟨j, hj, rfl⟩
    · rw [ls_no h24 w, bnd_some, if_pos rfl]
    · rw [ls_yes h24 hj, bnd_some, if_neg (by decide), z9, bnd_some, if_pos rfl]
  rcases pk2 i (n := (cc p).1) (by omega) with w | ⟨j0, hj0, rfl⟩
  · refine Sm.same h 0 ?_ ?_
    · unfold f_X8_change f_X5_replace
      rw [p8_yes hp, bnd_some, if_neg (by decide), z8, bnd_some, if_neg (by decide), ixT hp (by omega), if_pos rfl, nI_clamp (by omega), hs_no hC.2.1.1 w, bnd_some, if_pos rfl, bnd_some]
      exact if_pos rfl
    · unfold f_X9_change
      rw [p9_yes hp, bnd_some, if_neg (by decide), ixT hp (by omega), if_pos rfl, nI_clamp (by omega), hC.2.2.1.1, ls_no h24 w, bnd_some, if_pos rfl]
  · obtain ⟨M1, e1, f1, r1, l1⟩ := repl_spec (p := p) (i := j0) (s := (cc p).1) (M := M) hC.2.1.1 hj0 h24 (nI a) (nI b) (nI d) (nI e)
    obtain ⟨X1, x1, x2, x3⟩ := puts_spec (v := 24 * p + j0) (by omega) (nI a) (nI b) (nI d) (nI e) M1
    obtain ⟨X3, y1, y2, y3, y4, y5⟩ := chgs_spec hp X1
    have m72 : M1 72 p = nI (cc p).1 := by rw [f1 72 (by omega)]; exact hC.2.2.1.1
    have kX : ∀ k, k ≠ 70 → ¬ (72 ≤ k ∧ k ≤ 76) → k ≠ 80 → X3 k = M1 k := fun k q1 q2 q3 => by rw [y2 k q1 q3, x2 k (by omega)]
    have ha' := cdAt_r.mp hC.2.1
    have hm' := cdM_r.mp hC.2.2.1
    refine ⟨1, M1, X3, va_up cc p (cSet (cc p) (cc p).1 j0 a b d e), ?_, ?_, iv_chg h hp (cSet_ok hC.1 (by omega) ha hb hd he) (cdAt_r.mpr ⟨?_, fun r j hr hj => ?_⟩) (cdM_r.mpr ⟨?_, fun r j hr hj => ?_⟩) (fun k q1 q2 q3 q4 => by rw [kX k q2 q3 q4, f1 k (by omega)]) (fun j hj => ?_) (fun r j hr hj => ?_) ?_ (fun j => ?_) (fun f hf => ?_) ?_⟩
    · unfold f_X8_change
      rw [p8_yes hp, bnd_some, if_neg (by decide), z8, bnd_some, if_neg (by decide), ixT hp (by omega), if_pos rfl, nI_clamp (by omega), e1, bnd_some]
      exact if_pos rfl
    · unfold f_X9_change
      rw [p9_yes hp, bnd_some, if_neg (by decide), ixT hp (by omega), if_pos rfl, nI_clamp (by omega), m72, ls_yes h24 hj0, bnd_some, if_neg (by decide), z9, bnd_some, if_neg (by decide), c24, pk_mul, nI_add, x1, bnd_some, y1, bnd_some]
    · rw [kX _ (by omega) (by omega) (by omega), f1 _ (by omega)]; exact hC.2.1.1
    · rw [kX _ (by omega) (by omega) (by omega), r1 r j hr, ha'.2 r j hr hj]; exact cSet_R hr
    · rw [y2 72 (by omega) (by omega), x2 72 (by omega)]; exact m72
    · rw [y2 _ (by omega) (by omega), x3 r _ hr, f1 _ (by omega), hm'.2 r j hr hj]
      refine Eq.trans ?_ (cSet_R (s := (cc p).1) (i := j0) hr)
      by_cases q : j = j0
      · rw [if_pos q, if_pos (by omega)]
      · rw [if_neg q, if_neg (by omega)]
    · rw [y2 72 (by omega) (by omega), x2 72 (by omega), f1 72 (by omega)]
    · rw [y2 _ (by omega) (by omega), x3 r j hr, if_neg (by omega), f1 _ (by omega)]
    · rw [kX _ (by omega) (by omega) (by omega), l1]; decide
    · rw [y3, x2 80 (by omega), f1 80 (by omega)]
    · rw [y4 f hf, x2 70 (by omega), f1 70 (by omega)]
    · rw [y5, x2 70 (by omega), f1 70 (by omega)]
