/-! The lists of a set: gather, lists; reach. -/
def sl (M : Mem) (s : Int32) (d : Nat) : Nat → Int32
  | 0 => 0
  | p + 1 => if bt s p then sl M s d p ||| M 78 (64 * p + 32 + d) else sl M s d p
theorem sl_cg {M M' : Mem} (h : M' 78 = M 78) (s : Int32) (d : Nat) : ∀ n, sl M' s d n = sl M s d n
  | 0 => rfl
  | p + 1 => by
    show (if bt s p then sl M' s d p ||| M' 78 (64 * p + 32 + d) else sl M' s d p) = (if bt s p then sl M s d p ||| M 78 (64 * p + 32 + d) else sl M s d p)
    rw [sl_cg h s d p, h]
theorem so9_L {s : Int32} {d : Nat} (hd : d < 32) (M : Mem) (kk : Mem → Int32 → Int32 → Option (Int32 × Mem)) :
    ∀ (n x f : Nat), x + n = 4 → n < f → f_X9_seenOf_L5 s (nI d) kk f M (sl M s d x) (nI x) = kk M (sl M s d 4) (nI 4) := by
  intro n
  induction n with
  | zero =>
    intro x f hx hf
    obtain ⟨f', rfl⟩ : ∃ f', f = f' + 1 := ⟨f - 1, by omega⟩
    rw [f_X9_seenOf_L5, if_pos (by rw [c4]; exact nI_le (by omega) (by omega)), show x = 4 by omega]
  | succ n ih =>
    intro x f hx hf
    obtain ⟨f', rfl⟩ : ∃ f', f = f' + 1 := ⟨f - 1, by omega⟩
    have q := ih (x + 1) f' (by omega) (by omega)
    have e : sl M s d (x + 1) = if bt s x then sl M s d x ||| M 78 (64 * x + 32 + d) else sl M s d x := rfl
    rw [f_X9_seenOf_L5, if_neg (by rw [c4]; exact nI_ge (by omega) (by omega)), e_has9 _ (by omega), bnd_some, nI_1]
    cases hb : bt s x
    · rw [hb] at e
      rw [if_pos (by decide)]
      have e' : sl M s d (x + 1) = sl M s d x := e
      rw [← e']
      exact q
    · rw [hb] at e
      have e' : sl M s d (x + 1) = sl M s d x ||| M 78 (64 * x + 32 + d) := e
      have ea : (64 : Int32) * nI x + (32 : Int32) + nI d = nI (64 * x + 32 + d) := by
        rw [c64, c32, pk_mul, nI_add, nI_add]
      rw [if_neg (by decide)]
      unfold nm
      dsimp only
      rw [ea, ixT (by omega) (by omega), if_pos rfl, nI_clamp (by omega), ← e']
      exact q
theorem e_seenOf {fu : Nat} (hfu : 51200 < fu) (s : Int32) {d : Nat} (hd : d < 32) (M : Mem) : f_X9_seenOf fu s (nI d) M = some (sl M s d 4, M) :=
  so9_L hd M (fun M5 y6 _ => some (y6, M5)) 4 0 fu (by omega) (by omega)
/-- what the reference's house leaves -/
def mV (M M' : Mem) : Prop := (∀ k, k ≠ 70 → k ≠ 77 → k ≠ 79 → k ≠ 80 → k ≠ 86 → k ≠ 87 → k ≠ 88 → k ≠ 89 → k ≠ 90 → k ≠ 92 → M' k = M k) ∧ ∀ f, f ≠ 18 → f ≠ 23 → f ≠ 24 → f ≠ 26 → M' 70 f = M 70 f
theorem mV.rf (M : Mem) : mV M M := ⟨fun _ _ _ _ _ _ _ _ _ _ _ => rfl, fun _ _ _ _ _ => rfl⟩
theorem mV.tr {M M' M'' : Mem} (h : mV M M') (h' : mV M' M'') : mV M M'' := ⟨fun k a b c d e f g i j l => (h'.1 k a b c d e f g i j l).trans (h.1 k a b c d e f g i j l), fun f a b c d => (h'.2 f a b c d).trans (h.2 f a b c d)⟩
theorem mY.v {M M' : Mem} (h : mY M M') : mV M M' := ⟨fun k a b c d e f g i j _ => h.1 k a b c d e f g i j, h.2⟩
theorem mV.up {M : Mem} (d : Nat) (v : Int32) : mV M (upM M 92 d v) := ⟨fun k _ _ _ _ _ _ _ _ _ l => by rw [upM_k l], fun f _ _ _ _ => by rw [upM_k (by omega)]⟩
theorem mV.ef {M M' : Mem} {n : Nat} {D : Nat → Nat} {K t g : Nat → Int32} (hv : mV M M') (h : EF M n D K t g) : EF M' n D K t g :=
  h.fr (by rw [hv.1 62 (by omega) (by omega) (by omega) (by omega) (by omega) (by omega) (by omega) (by omega) (by omega) (by omega)]) (hv.2 12 (by omega) (by omega) (by omega) (by omega)) (fun k w => hv.1 k (by omega) (by omega) (by omega) (by omega) (by omega) (by omega) (by omega) (by omega) (by omega) (by omega))
theorem mV.s78 {M M' : Mem} (hv : mV M M') : M' 78 = M 78 := hv.1 78 (by omega) (by omega) (by omega) (by omega) (by omega) (by omega) (by omega) (by omega) (by omega) (by omega)
theorem Inv.u92 {cc : Nat → Cd} {M : Mem} (h : Inv cc M) (d : Nat) (v : Int32) : Inv cc (upM M 92 d v) :=
  h.fr (fun k hk => upM_k (fun q => hk (by unfold Scr; omega))) (by rw [upM_k (by omega)]) (fun f _ => by rw [upM_k (by omega)])
theorem Inv.u32 {cc : Nat → Cd} {M : Mem} (h : Inv cc M) (v : Int32) : Inv cc (upM M 70 32 v) :=
  h.fr (fun k hk => upM_k (fun q => hk (by unfold Scr; omega))) (by rw [upM_k (by omega)]) (fun f hf => by rw [upM_r, if_neg (by omega)])
theorem li0_L {fu : Nat} (hfu : 51200 < fu) {cc : Nat → Cd} (s : Int32) (kk : Mem → Int32 → Option (Int32 × Mem)) :
    ∀ (n x f : Nat) (M : Mem), x + n = 32 → n < f → Inv cc M → (∀ d, d < x → M 92 d = ml cc s 1 d 4) → ∃ M', f_X9_lists_L2 fu s 0 kk f M (nI x) = kk M' (nI 32) ∧ Inv cc M' ∧ mV M M' ∧ ∀ d, d < 32 → M' 92 d = ml cc s 1 d 4 := by
  intro n
  induction n with
  | zero =>
    intro x f M hx hf h hd
    obtain ⟨f', rfl⟩ : ∃ f', f = f' + 1 := ⟨f - 1, by omega⟩
    rw [f_X9_lists_L2, if_pos (by rw [c32]; exact nI_le (by omega) (by omega)), show x = 32 by omega]
    rw [show x = 32 by omega] at hd
    exact ⟨M, rfl, h, mV.rf M, hd⟩
  | succ n ih =>
    intro x f M hx hf h hd
    obtain ⟨f', rfl⟩ : ∃ f', f = f' + 1 := ⟨f - 1, by omega⟩
    obtain ⟨M1, e1, i1, y1⟩ := e_meltedOf hfu (cc := cc) s (ph := 1) (d := x) (by omega) (by omega) h
    have e1' : f_X9_meltedOf fu s 1 (nI x) M = some (ml cc s 1 x 4, M1) := e1
    rw [f_X9_lists_L2, if_neg (by rw [c32]; exact nI_ge (by omega) (by omega)), if_pos rfl, e1', bnd_some, ixT (show x < 32 by omega) (by omega), if_pos rfl, nI_clamp (by omega)]
    unfold wr
    dsimp only
    rw [nI_1]
    obtain ⟨M2, e2, i2, y2, k2⟩ := ih (x + 1) f' (upM M1 92 x (ml cc s 1 x 4)) (by omega) (by omega) (i1.u92 _ _) (fun d hdx => by
      rw [upM_r]
      by_cases z : d = x
      · rw [if_pos z, z]
      · rw [if_neg z, y1.1 92 (by omega) (by omega) (by omega) (by omega) (by omega) (by omega) (by omega) (by omega) (by omega)]; exact hd d (by omega))
    exact ⟨M2, e2, i2, (y1.v.tr (mV.up _ _)).tr y2, k2⟩
theorem li1_L {fu : Nat} (hfu : 51200 < fu) {cc : Nat → Cd} (s : Int32) {w : Int32} (hw : ¬ w = 0) (kk : Mem → Int32 → Option (Int32 × Mem)) :
    ∀ (n x f : Nat) (M : Mem), x + n = 32 → n < f → Inv cc M → (∀ d, d < x → M 92 d = sl M s d 4) → ∃ M', f_X9_lists_L2 fu s w kk f M (nI x) = kk M' (nI 32) ∧ Inv cc M' ∧ mV M M' ∧ ∀ d, d < 32 → M' 92 d = sl M' s d 4 := by
  intro n
  induction n with
  | zero =>
    intro x f M hx hf h hd
    obtain ⟨f', rfl⟩ : ∃ f', f = f' + 1 := ⟨f - 1, by omega⟩
    rw [f_X9_lists_L2, if_pos (by rw [c32]; exact nI_le (by omega) (by omega)), show x = 32 by omega]
    rw [show x = 32 by omega] at hd
    exact ⟨M, rfl, h, mV.rf M, hd⟩
  | succ n ih =>
    intro x f M hx hf h hd
    obtain ⟨f', rfl⟩ : ∃ f', f = f' + 1 := ⟨f - 1, by omega⟩
    rw [f_X9_lists_L2, if_neg (by rw [c32]; exact nI_ge (by omega) (by omega)), if_neg hw, e_seenOf hfu s (by omega), bnd_some, ixT (show x < 32 by omega) (by omega), if_pos rfl, nI_clamp (by omega)]
    unfold wr
    dsimp only
    rw [nI_1]
    obtain ⟨M2, e2, i2, y2, k2⟩ := ih (x + 1) f' (upM M 92 x (sl M s x 4)) (by omega) (by omega) (h.u92 _ _) (fun d hdx => by
      rw [upM_r, sl_cg (upM_k (by omega)) s d 4]
      by_cases z : d = x
      · rw [if_pos z, z]
      · rw [if_neg z]; exact hd d (by omega))
    exact ⟨M2, e2, i2, (mV.up _ _).tr y2, k2⟩
theorem e_lists0 {fu : Nat} (hfu : 51200 < fu) {cc : Nat → Cd} (s : Int32) {M : Mem} (h : Inv cc M) : ∃ M', f_X9_lists fu s 0 M = some (0, M') ∧ Inv cc M' ∧ mV M M' ∧ ∀ d, d < 32 → M' 92 d = ml cc s 1 d 4 :=
  li0_L hfu s (fun M7 _ => some ((0 : Int32), M7)) 32 0 fu M (by omega) (by omega) h (fun d hd => by omega)
theorem e_lists1 {fu : Nat} (hfu : 51200 < fu) {cc : Nat → Cd} (s : Int32) {w : Int32} (hw : ¬ w = 0) {M : Mem} (h : Inv cc M) : ∃ M', f_X9_lists fu s w M = some (0, M') ∧ Inv cc M' ∧ mV M M' ∧ ∀ d, d < 32 → M' 92 d = sl M' s d 4 :=
  li1_L hfu s hw (fun M7 _ => some ((0 : Int32), M7)) 32 0 fu M (by omega) (by omega) h (fun d hd => by omega)
/-! the class's two lists -/
theorem at_L {kt q : Nat} (hq : q ≠ kt + 1) (kk : Mem → Int32 → Option (Int32 × Mem)) :
    ∀ (n x f : Nat) (M : Mem), x + n = 32 → n < f → ∃ M', f_X0_addTo_L2 kt q 1 kk f M (nI x) = kk M' (nI 32) ∧ (∀ k, k ≠ q → M' k = M k) ∧ ∀ j, M' q j = if x ≤ j ∧ j < 32 then M q j ||| M (kt + 1) (32 + j) else M q j := by
  intro n
  induction n with
  | zero =>
    intro x f M hx hf
    obtain ⟨f', rfl⟩ : ∃ f', f = f' + 1 := ⟨f - 1, by omega⟩
    rw [f_X0_addTo_L2, if_pos (by rw [c32]; exact nI_le (by omega) (by omega)), show x = 32 by omega]
    exact ⟨M, rfl, fun _ _ => rfl, fun j => by rw [if_neg (by omega)]⟩
  | succ n ih =>
    intro x f M hx hf
    obtain ⟨f', rfl⟩ : ∃ f', f = f' + 1 := ⟨f - 1, by omega⟩
    have ea : f_X0_arguments kt 1 (nI x) M = some (M (kt + 1) (32 * 1 + x), M) := e_args (ph := 1) (by omega) (by omega) M
    rw [f_X0_addTo_L2, if_neg (by rw [c32]; exact nI_ge (by omega) (by omega)), if_neg (by rw [c32]; exact nI_ge (by omega) (by omega)), ixT (show x < 32 by omega) (by omega), if_pos rfl, ea, bnd_some, if_pos rfl, nI_clamp (by omega)]
    unfold wr
    dsimp only
    rw [nI_1]
    obtain ⟨M2, e2, k2, r2⟩ := ih (x + 1) f' (upM M q x (M q x ||| M (kt + 1) (32 * 1 + x))) (by omega) (by omega)
    refine ⟨M2, e2, fun k hk => by rw [k2 k hk, upM_k hk], fun j => ?_⟩
    rw [r2 j, upM_r, upM_k (fun w => hq w.symm)]
    by_cases z : j = x
    · rw [if_neg (by omega), if_pos z, if_pos (by omega), z]
    · rw [if_neg z]
      by_cases w : x + 1 ≤ j ∧ j < 32
      · rw [if_pos w, if_pos (by omega)]
      · rw [if_neg w, if_neg (by omega)]
theorem e_addTo {fu kt q : Nat} (hfu : 51200 < fu) (hq : q ≠ kt + 1) (M : Mem) : ∃ M', f_X0_addTo fu kt q 1 M = some (0, M') ∧ (∀ k, k ≠ q → M' k = M k) ∧ ∀ j, j < 32 → M' q j = M q j ||| M (kt + 1) (32 + j) := by
  obtain ⟨M', e, k, r⟩ := at_L hq (fun M4 _ => some ((0 : Int32), M4)) 32 0 fu M (by omega) (by omega)
  exact ⟨M', e, k, fun j hj => by rw [r j, if_pos (by omega)]⟩
theorem Inv.u68 {cc : Nat → Cd} {M M' : Mem} (h : Inv cc M) (hk : ∀ k, k ≠ 68 → k ≠ 69 → M' k = M k) : Inv cc M' :=
  h.fr (fun k q => hk k (fun w => q (by unfold Scr; omega)) (fun w => q (by unfold Scr; omega))) (by rw [hk 60 (by omega) (by omega)]) (fun f _ => by rw [hk 70 (by omega) (by omega)])
/-- what gather leaves of other cells -/
def mGa (M M' : Mem) : Prop := ∀ k, k = 62 ∨ (63 ≤ k ∧ k ≤ 66) ∨ 70 ≤ k → M' k = M k
theorem ga_L {fu : Nat} (hfu : 51200 < fu) {cc : Nat → Cd} (s : Int32) (kk : Mem → Int32 → Option (Int32 × Mem)) :
    ∀ (n x f : Nat) (M : Mem), x + n = 4 → n < f → Inv cc M → (∀ d, d < 32 → M 68 d = ml cc s 1 d x ∧ M 69 d = sl M s d x) → ∃ M', f_X8_gather_L18 fu s kk f M (nI x) = kk M' (nI 4) ∧ Inv cc M' ∧ mGa M M' ∧ ∀ d, d < 32 → M' 68 d = ml cc s 1 d 4 ∧ M' 69 d = sl M' s d 4 := by
  intro n
  induction n with
  | zero =>
    intro x f M hx hf h hd
    obtain ⟨f', rfl⟩ : ∃ f', f = f' + 1 := ⟨f - 1, by omega⟩
    rw [f_X8_gather_L18, if_pos (by rw [c4]; exact nI_le (by omega) (by omega)), show x = 4 by omega]
    rw [show x = 4 by omega] at hd
    exact ⟨M, rfl, h, fun _ _ => rfl, hd⟩
  | succ n ih =>
    intro x f M hx hf h hd
    obtain ⟨f', rfl⟩ : ∃ f', f = f' + 1 := ⟨f - 1, by omega⟩
    have hp : x < 4 := by omega
    have m1 : ∀ d, ml cc s 1 d (x + 1) = if bt s x then ml cc s 1 d x ||| nv (cc x) 1 d else ml cc s 1 d x := fun _ => rfl
    have m2 : ∀ (X : Mem) d, sl X s d (x + 1) = if bt s x then sl X s d x ||| X 78 (64 * x + 32 + d) else sl X s d x := fun _ _ => rfl
    rw [f_X8_gather_L18, if_neg (by rw [c4]; exact nI_ge (by omega) (by omega)), e_holds _ (by omega), bnd_some, nI_1]
    cases hb : bt s x
    · rw [if_pos (by decide)]
      exact ih (x + 1) f' M (by omega) (by omega) h (fun d hdx => by rw [m1, m2, hb]; exact hd d hdx)
    · obtain ⟨M1, e1, i1, z1, A, hA, hS⟩ := iv_search hfu h hp
      rw [if_neg (by decide), ixT hp (by omega), if_pos rfl, nI_clamp (by omega)]
      unfold f_X5_paths f_X4_calls f_X5_called
      obtain ⟨M2, e2, k2, r2⟩ := e_addTo (kt := 13 * x + 11) (q := 68) hfu (by omega) M1
      obtain ⟨M3, e3, k3, r3⟩ := e_addTo (kt := 13 * x + 13) (q := 69) hfu (by omega) M2
      rw [bnd_some, e1, bnd_some, bnd_some, e2, bnd_some, if_pos rfl, bnd_some, e3, bnd_some]
      have kM : ∀ k, k ≠ 68 → k ≠ 69 → M3 k = M1 k := fun k a b => by rw [k3 k b, k2 k a]
      have i3 : Inv cc M3 := i1.u68 kM
      have zk : ∀ k, k = 62 ∨ (63 ≤ k ∧ k ≤ 69) ∨ 70 ≤ k → M1 k = M k := fun k w => z1 k (by omega) (by omega) (by omega) (by omega) (by omega) (by omega) (by omega)
      obtain ⟨M4, e4, i4, g4, r4'⟩ := ih (x + 1) f' M3 (by omega) (by omega) i3 (fun d hdx => by
        have q1 := hd d hdx
        rw [m1, m2, hb]
        refine ⟨?_, ?_⟩
        · show M3 68 d = ml cc s 1 d x ||| nv (cc x) 1 d
          have q2 := sx_nv hA hS (ph := 1) (d := d) (by omega) hdx
          rw [k3 68 (by omega), r2 d hdx, show 13 * x + 11 + 1 = 13 * x + 12 by omega, q2, zk 68 (by omega), q1.1]
        · show M3 69 d = sl M3 s d x ||| M3 78 (64 * x + 32 + d)
          have q3 := (i1.1 x hp).1.2.2.2 (32 + d) (by omega)
          rw [r3 d hdx, k2 69 (by omega), show 13 * x + 13 + 1 = 13 * x + 14 by omega, k2 (13 * x + 14) (by omega), q3, zk 69 (by omega), q1.2, kM 78 (by omega) (by omega), sl_cg (show M3 78 = M 78 by rw [kM 78 (by omega) (by omega), zk 78 (by omega)]), Nat.add_assoc])
      exact ⟨M4, e4, i4, fun k w => by rw [g4 k w, kM k (by omega) (by omega), zk k (by omega)], r4'⟩
theorem e_gather {fu : Nat} (hfu : 51200 < fu) {cc : Nat → Cd} (s : Int32) {M : Mem} (h : Inv cc M) : ∃ M', f_X8_gather fu s M = some (0, M') ∧ Inv cc M' ∧ mGa M M' ∧ ∀ d, d < 32 → M' 68 d = ml cc s 1 d 4 ∧ M' 69 d = sl M' s d 4 := by
  unfold f_X8_gather
  rw [e_fill (by omega) (by omega), bnd_some, e_fill (by omega) (by omega), bnd_some]
  generalize hX : setM (setM M 68 (fun j => if j < 32 then 0 else M 68 j)) 69 (fun j => if j < 32 then 0 else setM M 68 (fun j => if j < 32 then 0 else M 68 j) 69 j) = X
  have kX : ∀ k, k ≠ 68 → k ≠ 69 → X k = M k := fun k a b => by rw [← hX, setM_k b, setM_k a]
  obtain ⟨M', e, i, g, r⟩ := ga_L hfu s (fun M21 _ => some ((0 : Int32), M21)) 4 0 fu X (by omega) (by omega) (h.u68 kX) (fun d hd => by
    refine ⟨?_, ?_⟩
    · rw [← hX, setM_k (by omega), setM_s, if_pos hd]; rfl
    · rw [← hX, setM_s, if_pos hd]; rfl)
  exact ⟨M', e, i, fun k w => by rw [g k w, kX k (by omega) (by omega)], r⟩
theorem sm_reach {fu : Nat} (hfu : 51200 < fu) (a w : Int32) : Sm (f_X8_reach fu a w) (f_X9_reach fu a w) := by
  intro cc M h
  rcases pk2 a (n := 16) (by omega) with z | ⟨s, hs, rfl⟩
  · exact Sm.same h (-1) (by unfold f_X8_reach; rw [s8_no z, bnd_some, if_pos rfl]) (by unfold f_X9_reach; rw [s9_no z, bnd_some, if_pos rfl])
  obtain ⟨M1, e1, i1, g1, r1⟩ := e_gather hfu (nI s) h
  obtain ⟨n, D, K, t, g, hE⟩ := i1.2.2.2.ef
  by_cases w0 : w = 0
  · subst w0
    obtain ⟨M2, e2, i2, v2, r2⟩ := e_lists0 hfu (nI s) i1
    have hq : pwF (acL D K (M1 68)) t g n = pwF (acL D K (M2 92)) t g n := pwF_cg (fun e he => by
      unfold acL; rw [(r1 _ (hE.2.2.2 e he).1).1, r2 _ (hE.2.2.2 e he).1])
    refine ⟨pwF (acL D K (M1 68)) t g n, M1, M2, cc, ?_, ?_, i2⟩
    · unfold f_X8_reach
      rw [s8_yes hs, bnd_some, if_neg (by decide), e1, bnd_some, if_pos rfl, e_pow8 hfu hE, bnd_some]
    · unfold f_X9_reach
      rw [s9_yes hs, bnd_some, if_neg (by decide), e2, bnd_some, e_pow9 hfu (v2.ef hE), bnd_some, hq]
  · obtain ⟨M2, e2, i2, v2, r2⟩ := e_lists1 hfu (nI s) w0 i1
    have hq : pwF (acL D K (M1 69)) t g n = pwF (acL D K (M2 92)) t g n := pwF_cg (fun e he => by
      unfold acL; rw [(r1 _ (hE.2.2.2 e he).1).2, r2 _ (hE.2.2.2 e he).1, sl_cg v2.s78])
    refine ⟨pwF (acL D K (M1 69)) t g n, M1, M2, cc, ?_, ?_, i2⟩
    · unfold f_X8_reach
      rw [s8_yes hs, bnd_some, if_neg (by decide), e1, bnd_some, if_neg w0, e_pow8 hfu hE, bnd_some]
    · unfold f_X9_reach
      rw [s9_yes hs, bnd_some, if_neg (by decide), e2, bnd_some, e_pow9 hfu (v2.ef hE), bnd_some, hq]
