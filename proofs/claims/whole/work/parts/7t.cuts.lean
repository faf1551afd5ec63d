/-! leastCut of the class, best of the reference; shut, cuts. -/
theorem alN_cg {D : Nat → Nat} {K L L' Y Y' : Nat → Int32} : ∀ n, (∀ e, e < n → D e < 32) → (∀ d, d < 32 → L d = L' d) → (∀ d, d < 32 → Y d = Y' d) → alN D K L Y n = alN D K L' Y' n := by
  intro n
  induction n with
  | zero => intro _ _ _; rfl
  | succ n ih =>
    intro hD hL hY
    have i := ih (fun e he => hD e (by omega)) hL hY
    have q : alE D K L Y n ↔ alE D K L' Y' n := by
      unfold alE okE
      rw [hL _ (hD n (by omega)), hY _ (hD n (by omega))]
    by_cases z : alE D K L Y n
    · rw [alN_y z, alN_y (q.mp z), i]
    · rw [alN_n z, alN_n (fun w => z (q.mpr w)), i]
theorem no_bits {n c : Nat} (hn : n ≤ 10) (h : c < 2 ^ n) (hb : ∀ e, e < n → ¬ bt (nI c) e = true) : c = 0 := by
  apply Nat.eq_of_testBit_eq
  intro i
  rw [Nat.zero_testBit]
  rcases Nat.lt_or_ge i n with q | q
  · cases hc : c.testBit i
    · rfl
    · exact absurd (by rw [bt_nI _ (by omega)]; exact hc) (hb i q)
  · exact hi_bit h q
def Lc (P : Nat → Prop) (N : Nat → Nat) (al x : Nat) (v w : Int32) : Prop := (v = nI al ∧ w = 1025 ∧ ∀ c, c < x → ¬ P c) ∨ ∃ c, v = nI c ∧ w = nI (N c) ∧ Bf P N x c
set_option maxHeartbeats 4000000 in
theorem lc_L {fu : Nat} (hfu : 51200 < fu) {M0 : Mem} {n : Nat} {D : Nat → Nat} {K t g : Nat → Int32} (h : EF M0 n D K t g) {L Y : Nat → Int32} (hL : ∀ d, d < 32 → M0 68 d = L d) {pw : Nat} (hpw : pw < 8) (kk : Mem → Int32 → Int32 → Int32 → Option (Int32 × Mem)) :
    ∀ (d x f : Nat) (M : Mem) (v w : Int32), x + d = alN D K L Y n + 1 → d < f → (∀ k, k ≠ 67 → M k = M0 k) → Lc (PB n D K t g L Y pw) (fun c => (toF D K L (nI c) n).2) (alN D K L Y n) x v w →
    ∃ M' v' w' y, f_X2_leastCut_L45 fu 68 (nI pw) (nI (alN D K L Y n)) kk f M v w (nI x) = kk M' v' w' y ∧ (∀ k, k ≠ 67 → M' k = M0 k) ∧ ((∀ c, ¬ PB n D K t g L Y pw c) ∨ ∃ c, v' = nI c ∧ Mn (PB n D K t g L Y pw) (fun c => (toF D K L (nI c) n).2) c) := by
  have hn := h.1
  have hD : ∀ e, e < n → D e < 32 := fun e he => (h.2.2.2 e he).1
  have hal := p10 hn (alN_lt D K L Y n)
  have hN : ∀ c : Nat, (toF D K L (nI c) n).2 ≤ 320 := fun c => by have := toF_le (D := D) (K := K) (L := L) (c := nI c) n; omega
  have hC : ∀ c, cnt c ≤ 32 := fun c => fb_ct_le _ _
  intro d
  induction d with
  | zero =>
    intro x f M v w hx hf hk hs
    obtain ⟨f', rfl⟩ : ∃ f', f = f' + 1 := ⟨f - 1, by omega⟩
    rw [f_X2_leastCut_L45, if_pos (nI_lt (by omega) (by omega))]
    refine ⟨M, v, w, _, rfl, hk, ?_⟩
    rcases hs with ⟨-, -, hs⟩ | ⟨c, rfl, -, hs⟩
    · exact Or.inl (fun c hc => hs c (by have := sub_le hn hc; omega) hc)
    · exact Or.inr ⟨c, rfl, hs.min (fun c' hc' => by have := sub_le hn hc'; omega)⟩
  | succ d ih =>
    intro x f M v w hx hf hk hs
    obtain ⟨f', rfl⟩ : ∃ f', f = f' + 1 := ⟨f - 1, by omega⟩
    have hE : EF M n D K t g := h.fr (by rw [hk 62 (by omega)]) (by rw [hk 70 (by omega)]) (fun k q => hk k (by omega))
    rw [f_X2_leastCut_L45, if_neg (nI_nlt (by omega) (by omega))]
    by_cases hz : ∃ c, w = nI (toF D K L (nI c) n).2 ∧ v = nI c ∧ Bf (PB n D K t g L Y pw) (fun c => (toF D K L (nI c) n).2) x c ∧ (toF D K L (nI c) n).2 = 0
    · obtain ⟨c, rfl, rfl, hB, h0⟩ := hz
      rw [h0, if_pos (by decide)]
      refine ⟨M, _, _, _, rfl, hk, Or.inr ⟨c, rfl, hB.2.1, fun c' hc' => ?_⟩⟩
      have z : ∀ c, PB n D K t g L Y pw c → (toF D K L (nI c) n).2 = 0 → c = 0 := fun c hc q => no_bits hn hc.1 (fun e he b => (hc.2.1 e he b).1 ((toF_zero n q).2 e he b))
      have e1 := z c hB.2.1 h0
      unfold kle
      dsimp only
      rcases Nat.eq_zero_or_pos (toF D K L (nI c') n).2 with q | q
      · have e2 := z c' hc' q
        rw [e1, e2]; omega
      · omega
    have hw : ¬ w ≤ 0 := by
      rcases hs with ⟨-, rfl, -⟩ | ⟨c, rfl, rfl, hB⟩
      · decide
      · refine nI_nle ?_ (by have := hN c; dsimp only; omega)
        dsimp only
        rcases Nat.eq_zero_or_pos (toF D K L (nI c) n).2 with q | q
        · exact absurd ⟨c, rfl, rfl, hB, q⟩ hz
        · exact q
    rw [if_neg hw, nI_1]
    have go := fun M1 v1 w1 hk1 hs1 => ih (x + 1) f' M1 v1 w1 (by omega) (by omega) hk1 hs1
    by_cases hsub : (nI x &&& (nI (alN D K L Y n) ^^^ (-1))) = 0
    · have hP := (sub_al hn (by omega)).mp hsub
      rw [if_pos hsub]
      obtain ⟨M1, e1, k1, r1⟩ := e_takeOut hfu hE 68 (nI x)
      have cg := toF_cg (D := D) (K := K) (c := nI x) (L := M 68) (L' := L) n hD (fun d hd => by rw [hk 68 (by omega)]; exact hL d hd)
      rw [cg.1] at e1
      have hk1 : ∀ k, k ≠ 67 → M1 k = M0 k := fun k q => by rw [k1 k q, hk k q]
      have hE1 : EF M1 n D K t g := h.fr (by rw [hk1 62 (by omega)]) (by rw [hk1 70 (by omega)]) (fun k q => hk1 k (by omega))
      have ep : f_X2_powersBy fu 67 M1 = some (pwF (acL D K (toF D K L (nI x) n).1) t g n, M1) := by
        rw [e_pow8 hfu hE1 67, pwF_cg (a' := acL D K (toF D K L (nI x) n).1) (fun e he => by unfold acL; rw [r1 _ (hD e he), cg.2 _ (hD e he)])]
      rw [e1, bnd_some]
      have try_ : ∀ (better : ∀ (hx : PB n D K t g L Y pw x), Lc (PB n D K t g L Y pw) (fun c => (toF D K L (nI c) n).2) (alN D K L Y n) (x + 1) (nI x) (nI (toF D K L (nI x) n).2)) (stay : ¬ PB n D K t g L Y pw x → Lc (PB n D K t g L Y pw) (fun c => (toF D K L (nI c) n).2) (alN D K L Y n) (x + 1) v w),
          ∃ M' v' w' y, (bnd (f_X2_powersBy fu 67 M1) (fun r11 M12 => bnd (f_X8_holds r11 (nI pw) M12) (fun r13 M14 => if r13 = 0 then f_X2_leastCut_L45 fu 68 (nI pw) (nI (alN D K L Y n)) kk f' M14 (nI x) (nI (toF D K L (nI x) n).2) (nI (x + 1)) else f_X2_leastCut_L45 fu 68 (nI pw) (nI (alN D K L Y n)) kk f' M14 v w (nI (x + 1))))) = kk M' v' w' y ∧ (∀ k, k ≠ 67 → M' k = M0 k) ∧ ((∀ c, ¬ PB n D K t g L Y pw c) ∨ ∃ c, v' = nI c ∧ Mn (PB n D K t g L Y pw) (fun c => (toF D K L (nI c) n).2) c) := by
        intro better stay
        rw [ep, bnd_some, e_holds _ (by omega), bnd_some]
        cases hb : bt (pwF (acL D K (toF D K L (nI x) n).1) t g n) pw
        · rw [if_pos (by decide)]
          exact go M1 _ _ hk1 (better ⟨hP.1, hP.2, hb⟩)
        · rw [if_neg (by decide)]
          exact go M1 _ _ hk1 (stay (fun q => by have := q.2.2; unfold shutP at this; rw [hb] at this; exact absurd this (by decide)))
      rcases hs with ⟨hv, hw2, hs⟩ | ⟨c, hv, hw2, hB⟩
      · rw [if_pos (show nI (toF D K L (nI x) n).2 < w by rw [hw2]; exact nI_lt (b := 1025) (by have := hN x; omega) (by omega)), if_neg (by decide)]
        refine try_ (fun hx => Or.inr ⟨x, rfl, rfl, Bf.first hs hx⟩) (fun hx => Or.inl ⟨hv, hw2, fun c hc => ?_⟩)
        by_cases q : c = x
        · rw [q]; exact hx
        · exact hs c (by omega)
      · dsimp only at hw2
        have n1 := hN x
        have n2 := hN c
        by_cases q1 : (toF D K L (nI x) n).2 < (toF D K L (nI c) n).2
        · rw [if_pos (show nI (toF D K L (nI x) n).2 < w by rw [hw2]; exact nI_lt q1 (by omega)), if_neg (by decide)]
          exact try_ (fun hx => Or.inr ⟨x, rfl, rfl, hB.new hx (Or.inl q1)⟩) (fun hx => Or.inr ⟨c, hv, hw2, hB.old (fun q => absurd q hx)⟩)
        · rw [if_neg (show ¬ nI (toF D K L (nI x) n).2 < w by rw [hw2]; exact nI_nlt (by omega) (by omega))]
          by_cases q2 : (toF D K L (nI x) n).2 = (toF D K L (nI c) n).2
          · rw [if_pos (show nI (toF D K L (nI x) n).2 = w by rw [hw2, q2]), hv, e_bitCount, bnd_some, e_bitCount, bnd_some]
            have p1 : pc (nI x) = cnt x := rfl
            have p2 : pc (nI c) = cnt c := rfl
            have b1 := hC x
            have b2 := hC c
            rw [p1, p2, ← hv]
            by_cases q3 : cnt c ≤ cnt x
            · rw [if_pos (nI_le q3 (by omega)), if_pos rfl]
              exact go M1 _ _ hk1 (Or.inr ⟨c, hv, hw2, hB.old (fun _ => by omega)⟩)
            · rw [if_neg (nI_ge (by omega) (by omega)), if_neg (by decide)]
              exact try_ (fun hx => Or.inr ⟨x, rfl, rfl, hB.new hx (Or.inr ⟨q2, by omega⟩)⟩) (fun hx => Or.inr ⟨c, hv, hw2, hB.old (fun q => absurd q hx)⟩)
          · rw [if_neg (show ¬ nI (toF D K L (nI x) n).2 = w by rw [hw2]; exact fun q => q2 ((nI_eq (by omega) (by omega)).mp q)), if_pos rfl]
            exact go M1 _ _ hk1 (Or.inr ⟨c, hv, hw2, hB.old (fun _ => by omega)⟩)
    · rw [if_neg hsub]
      have hx : ¬ PB n D K t g L Y pw x := fun q => hsub ((sub_al hn (by omega)).mpr ⟨q.1, q.2.1⟩)
      refine go M _ _ hk ?_
      rcases hs with ⟨hv, hw2, hs⟩ | ⟨c, hv, hw2, hB⟩
      · refine Or.inl ⟨hv, hw2, fun c hc => ?_⟩
        by_cases q : c = x
        · rw [q]; exact hx
        · exact hs c (by omega)
      · exact Or.inr ⟨c, hv, hw2, hB.old (fun q => absurd q hx)⟩
theorem al_pb {n : Nat} (hn : n ≤ 10) {D : Nat → Nat} {K t g L Y : Nat → Int32} {pw : Nat} (h : shutP n D K t g L pw (alN D K L Y n)) : PB n D K t g L Y pw (alN D K L Y n) :=
  ⟨alN_lt D K L Y n, fun e he w => by rw [bt_nI _ (by omega), alN_bit] at w; exact w.2, h⟩
theorem e_leastCut {fu : Nat} (hfu : 51200 < fu) {M : Mem} {n : Nat} {D : Nat → Nat} {K t g : Nat → Int32} (h : EF M n D K t g) {L Y : Nat → Int32} (hL : ∀ d, d < 32 → M 68 d = L d) (hY : ∀ d, d < 32 → M 69 d = Y d) {pw : Nat} (hpw : pw < 8) :
    ∃ M' r, f_X2_leastCut fu 68 69 (nI pw) M = some (r, M') ∧ (∀ k, k ≠ 67 → M' k = M k) ∧ ((r = -1 ∧ ¬ shutP n D K t g L pw (alN D K L Y n)) ∨ ∃ c, r = nI c ∧ Mn (PB n D K t g L Y pw) (fun c => (toF D K L (nI c) n).2) c) := by
  have hn := h.1
  have hD : ∀ e, e < n → D e < 32 := fun e he => (h.2.2.2 e he).1
  have hal := p10 hn (alN_lt D K L Y n)
  have ea : alN D K (M 68) (M 69) n = alN D K L Y n := alN_cg n hD hL hY
  obtain ⟨M1, e1, k1, r1⟩ := e_takeOut hfu h 68 (nI (alN D K L Y n))
  have cg := toF_cg (D := D) (K := K) (c := nI (alN D K L Y n)) (L := M 68) (L' := L) n hD hL
  have hE1 : EF M1 n D K t g := h.fr (by rw [k1 62 (by omega)]) (by rw [k1 70 (by omega)]) (fun k q => k1 k (by omega))
  have ep : f_X2_powersBy fu 67 M1 = some (pwF (acL D K (toF D K L (nI (alN D K L Y n)) n).1) t g n, M1) := by
    rw [e_pow8 hfu hE1 67, pwF_cg (a' := acL D K (toF D K L (nI (alN D K L Y n)) n).1) (fun e he => by unfold acL; rw [r1 _ (hD e he), cg.2 _ (hD e he)])]
  unfold f_X2_leastCut
  rw [e_cuttable hfu h, bnd_some, ea, e1, bnd_some, ep, bnd_some, e_holds _ (by omega), bnd_some]
  cases hb : bt (pwF (acL D K (toF D K L (nI (alN D K L Y n)) n).1) t g n) pw
  · rw [if_pos (by decide)]
    have hPal : PB n D K t g L Y pw (alN D K L Y n) := al_pb hn hb
    obtain ⟨M2, v, w, y, e2, k2, res⟩ := lc_L hfu h hL (Y := Y) hpw (fun M31 y32 _ _ => some (y32, M31)) (alN D K L Y n + 1) 0 fu M1 (nI (alN D K L Y n)) 1025 (by omega) (by omega) (fun k q => k1 k q) (Or.inl ⟨rfl, rfl, fun c hc => absurd hc (Nat.not_lt_zero c)⟩)
    have e2' : f_X2_leastCut_L45 fu 68 (nI pw) (nI (alN D K L Y n)) (fun M31 y32 _ _ => some (y32, M31)) fu M1 (nI (alN D K L Y n)) 1025 0 = some (v, M2) := e2
    refine ⟨M2, v, e2', k2, Or.inr ?_⟩
    rcases res with q | q
    · exact absurd hPal (q _)
    · exact q
  · rw [if_neg (by decide)]
    exact ⟨M1, -1, rfl, k1, Or.inl ⟨rfl, fun q => by unfold shutP at q; rw [hb] at q; exact absurd q (by decide)⟩⟩
/-! best of the reference -/
theorem cnt_n {n x : Nat} (hn : n ≤ 10) (h : x < 2 ^ n) : fb_ct (bt (nI x)) n = cnt x := by
  unfold cnt
  have q := fb_ct_split (bt (nI x)) n (32 - n)
  rw [show n + (32 - n) = 32 by omega] at q
  rw [q, fb_ct_zero (p := fun k => bt (nI x) (n + k)) (n := 32 - n) |>.mpr (fun k hk => by rw [bt_nI _ (by omega)]; exact hi_bit h (by omega))]
  rfl
theorem mny_L {x1 x2 x3 x4 x6 : Int32} {M : Mem} {n x : Nat} (hn : n ≤ 10) (h70 : M 70 12 = nI n) (kk : Mem → Int32 → Int32 → Option (Int32 × Mem)) : ∀ (d e f : Nat), e + d = n → d < f → f_X9_best_L59 x1 x2 x3 x4 (nI x) x6 kk f M (nI (fb_ct (bt (nI x)) e)) (nI e) = kk M (nI (fb_ct (bt (nI x)) n)) (nI n) := by
  intro d
  induction d with
  | zero =>
    intro e f hx hf
    obtain ⟨f', rfl⟩ : ∃ f', f = f' + 1 := ⟨f - 1, by omega⟩
    rw [f_X9_best_L59, h70, if_pos (nI_le (by omega) (by omega)), show e = n by omega]
  | succ d ih =>
    intro e f hx hf
    obtain ⟨f', rfl⟩ : ∃ f', f = f' + 1 := ⟨f - 1, by omega⟩
    have q := ih (e + 1) f' (by omega) (by omega)
    rw [fb_ct_succ] at q
    rw [f_X9_best_L59, h70, if_neg (nI_ge (by omega) (by omega)), e_has9 _ (by omega), bnd_some]
    unfold nm
    dsimp only
    cases hb : bt (nI x) e
    · rw [hb, if_neg (by decide), Nat.add_zero] at q
      rw [if_pos (by decide), nI_p0, nI_1]
      exact q
    · rw [hb, if_pos rfl] at q
      rw [if_neg (by decide), nI_1, nI_1]
      exact q
def Lb (P : Nat → Prop) (N : Nat → Nat) (M : Mem) (x : Nat) (v w : Int32) : Prop := (v = -1 ∧ M 70 32 = -1 ∧ ∀ c, c < x → ¬ P c) ∨ ∃ c, v = nI c ∧ w = nI (cnt c) ∧ M 70 32 = nI (N c) ∧ Bf P N x c
set_option maxHeartbeats 4000000 in
theorem bs_L {fu : Nat} (hfu : 51200 < fu) {cc : Nat → Cd} {n : Nat} {D : Nat → Nat} {K t g : Nat → Int32} (s : Int32) {Y : Nat → Int32} {pw : Nat} (hpw : pw < 8) (kk : Mem → Int32 → Int32 → Int32 → Option (Int32 × Mem)) :
    ∀ (d x f : Nat) (M : Mem) (v w : Int32), x + d = 2 ^ n → d < f → Inv cc M → EF M n D K t g → (∀ j, j < 32 → sl M s j 4 = Y j) → Lb (PA n D K t g (fun d => ml cc s 1 d 4) Y pw) (fun c => (toF D K (fun d => ml cc s 1 d 4) (nI c) n).2) M x v w →
    ∃ M' v' w', f_X9_best_L13 fu s (nI pw) kk f M v w (nI x) = kk M' v' w' (nI (2 ^ n)) ∧ Inv cc M' ∧ ((v' = -1 ∧ M' 70 32 = -1 ∧ ∀ c, ¬ PA n D K t g (fun d => ml cc s 1 d 4) Y pw c) ∨ ∃ c, v' = nI c ∧ M' 70 32 = nI (toF D K (fun d => ml cc s 1 d 4) (nI c) n).2 ∧ Mn (PA n D K t g (fun d => ml cc s 1 d 4) Y pw) (fun c => (toF D K (fun d => ml cc s 1 d 4) (nI c) n).2) c) := by
  intro d
  induction d with
  | zero =>
    intro x f M v w hx hf hI hE hY hs
    obtain ⟨f', rfl⟩ : ∃ f', f = f' + 1 := ⟨f - 1, by omega⟩
    have hn := hE.1
    have h2n : 2 ^ n ≤ 1024 := (Nat.pow_le_pow_right (by decide) hn : 2 ^ n ≤ 2 ^ 10)
    have es : (1 : Int32) <<< (nI n &&& 31) = nI (2 ^ n) := by
      rw [c1, shl_n (by omega) (by rw [Nat.one_mul]; omega), Nat.one_mul]
    rw [f_X9_best_L13, hE.2.2.1, es, if_pos (nI_le (by omega) (by omega)), show x = 2 ^ n by omega]
    rw [show x = 2 ^ n by omega] at hs
    refine ⟨M, v, w, rfl, hI, ?_⟩
    rcases hs with ⟨a, b, c⟩ | ⟨c, a, -, b, hB⟩
    · exact Or.inl ⟨a, b, fun c' hc' => c c' hc'.1 hc'⟩
    · exact Or.inr ⟨c, a, b, hB.min (fun c' hc' => hc'.1)⟩
  | succ d ih =>
    intro x f M v w hx hf hI hE hY hs
    obtain ⟨f', rfl⟩ : ∃ f', f = f' + 1 := ⟨f - 1, by omega⟩
    have hn := hE.1
    have h2n : 2 ^ n ≤ 1024 := (Nat.pow_le_pow_right (by decide) hn : 2 ^ n ≤ 2 ^ 10)
    have hD : ∀ e, e < n → D e < 32 := fun e he => (hE.2.2.2 e he).1
    have es : (1 : Int32) <<< (nI n &&& 31) = nI (2 ^ n) := by
      rw [c1, shl_n (by omega) (by rw [Nat.one_mul]; omega), Nat.one_mul]
    have hN : ∀ c : Nat, (toF D K (fun d => ml cc s 1 d 4) (nI c) n).2 ≤ 320 := fun c => by have := toF_le (D := D) (K := K) (L := (fun d => ml cc s 1 d 4)) (c := nI c) n; omega
    have hC : ∀ c, cnt c ≤ 32 := fun c => fb_ct_le _ _
    rw [f_X9_best_L13, hE.2.2.1, es, if_neg (nI_ge (by omega) (by omega))]
    obtain ⟨M1, i1, v1, g1, g2⟩ := e_takesOut hfu hI hE s (nI x)
    have hYs : (∀ e, e < n → bt (nI x) e = true → okE D K (fun d => ml cc s 1 d 4) (fun d => sl M s d 4) e) ↔ (∀ e, e < n → bt (nI x) e = true → okE D K (fun d => ml cc s 1 d 4) Y e) := by
      constructor
      · intro q e he hb; have := q e he hb; unfold okE at this ⊢; dsimp only at this ⊢; rw [hY _ (hD e he)] at this; exact this
      · intro q e he hb; have := q e he hb; unfold okE at this ⊢; dsimp only at this ⊢; rw [hY _ (hD e he)]; exact this
    have hE1 := v1.ef hE
    have hY1 : ∀ j, j < 32 → sl M1 s j 4 = Y j := fun j hj => by rw [sl_cg v1.s78]; exact hY j hj
    have m32 : M1 70 32 = M 70 32 := v1.2 32 (by omega) (by omega) (by omega) (by omega)
    have skip : ¬ PA n D K t g (fun d => ml cc s 1 d 4) Y pw x → Lb (PA n D K t g (fun d => ml cc s 1 d 4) Y pw) (fun c => (toF D K (fun d => ml cc s 1 d 4) (nI c) n).2) M1 (x + 1) v w := fun hxn => by
      unfold Lb
      rw [m32]
      rcases hs with ⟨a, b, c⟩ | ⟨c, a, b, b', hB⟩
      · refine Or.inl ⟨a, b, fun c' hc' => ?_⟩
        by_cases q : c' = x
        · rw [q]; exact hxn
        · exact c c' (by omega)
      · exact Or.inr ⟨c, a, b, b', hB.old (fun q => absurd q hxn)⟩
    rw [nI_1]
    by_cases hok : ∀ e, e < n → bt (nI x) e = true → okE D K (fun d => ml cc s 1 d 4) (fun d => sl M s d 4) e
    · obtain ⟨e1, r1⟩ := g1 hok
      have n1 := hN x
      rw [e1, bnd_some, if_neg (nI_m1 (by omega)), e_pow9 hfu hE1, bnd_some, e_has9 _ (by omega), bnd_some, pwF_cg (a' := acL D K (toF D K (fun d => ml cc s 1 d 4) (nI x) n).1) (fun e he => by unfold acL; rw [r1 _ (hD e he)])]
      cases hb : bt (pwF (acL D K (toF D K (fun d => ml cc s 1 d 4) (nI x) n).1) t g n) pw
      · rw [if_pos (by decide)]
        have hPx : PA n D K t g (fun d => ml cc s 1 d 4) Y pw x := ⟨by omega, hYs.mp hok, hb⟩
        have new : Lb (PA n D K t g (fun d => ml cc s 1 d 4) Y pw) (fun c => (toF D K (fun d => ml cc s 1 d 4) (nI c) n).2) (upM M1 70 32 (nI (toF D K (fun d => ml cc s 1 d 4) (nI x) n).2)) (x + 1) (nI x) (nI (cnt x)) → ∃ M' v' w', f_X9_best_L13 fu s (nI pw) kk f' (upM M1 70 32 (nI (toF D K (fun d => ml cc s 1 d 4) (nI x) n).2)) (nI x) (nI (cnt x)) (nI (x + 1)) = kk M' v' w' (nI (2 ^ n)) ∧ Inv cc M' ∧ ((v' = -1 ∧ M' 70 32 = -1 ∧ ∀ c, ¬ PA n D K t g (fun d => ml cc s 1 d 4) Y pw c) ∨ ∃ c, v' = nI c ∧ M' 70 32 = nI (toF D K (fun d => ml cc s 1 d 4) (nI c) n).2 ∧ Mn (PA n D K t g (fun d => ml cc s 1 d 4) Y pw) (fun c => (toF D K (fun d => ml cc s 1 d 4) (nI c) n).2) c) := fun q =>
          ih (x + 1) f' _ _ _ (by omega) (by omega) (i1.u32 _) (hE1.fr (by rw [upM_k (by omega)]) (by rw [upM_r, if_neg (by omega)]) (fun k w => upM_k (by omega))) (fun j hj => by rw [sl_cg (upM_k (by omega))]; exact hY1 j hj) q
        have u32 : upM M1 70 32 (nI (toF D K (fun d => ml cc s 1 d 4) (nI x) n).2) 70 32 = nI (toF D K (fun d => ml cc s 1 d 4) (nI x) n).2 := by rw [upM_r, if_pos rfl]
        have em := mny_L (x1 := s) (x2 := nI pw) (x3 := v) (x4 := w) (x6 := nI (toF D K (fun d => ml cc s 1 d 4) (nI x) n).2) (M := M1) (x := x) hn hE1.2.2.1 (fun M12 y13 (y14 : Int32) => if v = ((-1)) then wr M12 (70) 32 (nI (toF D K (fun d => ml cc s 1 d 4) (nI x) n).2) (fun M15 => f_X9_best_L13 fu s (nI pw) kk f' M15 (nI x) y13 (nI (x + 1))) else if (M12 (70) 32) < (nI (toF D K (fun d => ml cc s 1 d 4) (nI x) n).2) then f_X9_best_L13 fu s (nI pw) kk f' M12 v w (nI (x + 1)) else if (nI (toF D K (fun d => ml cc s 1 d 4) (nI x) n).2) = (M12 (70) 32) then if y13 < w then wr M12 (70) 32 (nI (toF D K (fun d => ml cc s 1 d 4) (nI x) n).2) (fun M17 => f_X9_best_L13 fu s (nI pw) kk f' M17 (nI x) y13 (nI (x + 1))) else f_X9_best_L13 fu s (nI pw) kk f' M12 v w (nI (x + 1)) else wr M12 (70) 32 (nI (toF D K (fun d => ml cc s 1 d 4) (nI x) n).2) (fun M16 => f_X9_best_L13 fu s (nI pw) kk f' M16 (nI x) y13 (nI (x + 1)))) n 0 fu (by omega) (by omega)
        have em' := em
        rw [cnt_n hn (by omega)] at em'
        have key : ∀ {o R : Option (Int32 × Mem)} {Q : Mem → Int32 → Int32 → Prop}, o = R → (∃ M' v' w', R = kk M' v' w' (nI (2 ^ n)) ∧ Q M' v' w') → ∃ M' v' w', o = kk M' v' w' (nI (2 ^ n)) ∧ Q M' v' w' := fun e h => by rw [e]; exact h
        refine key em' ?_
        unfold wr
        dsimp only
        rcases hs with ⟨hv, h32, hs⟩ | ⟨c, hv, hw, h32, hB⟩
        · rw [if_pos hv]
          exact new (Or.inr ⟨x, rfl, rfl, u32, Bf.first hs hPx⟩)
        · dsimp only at h32
          have n2 := hN c
          have b1 := hC x
          have b2 := hC c
          have hcl := p10 hn hB.2.1.1
          rw [if_neg (by rw [hv]; exact nI_m1 (by omega)), m32, h32]
          have old : ¬ ((toF D K (fun d => ml cc s 1 d 4) (nI x) n).2 < (toF D K (fun d => ml cc s 1 d 4) (nI c) n).2 ∨ (toF D K (fun d => ml cc s 1 d 4) (nI x) n).2 = (toF D K (fun d => ml cc s 1 d 4) (nI c) n).2 ∧ cnt x < cnt c) → ∃ M' v' w', f_X9_best_L13 fu s (nI pw) kk f' M1 v w (nI (x + 1)) = kk M' v' w' (nI (2 ^ n)) ∧ Inv cc M' ∧ ((v' = -1 ∧ M' 70 32 = -1 ∧ ∀ c, ¬ PA n D K t g (fun d => ml cc s 1 d 4) Y pw c) ∨ ∃ c, v' = nI c ∧ M' 70 32 = nI (toF D K (fun d => ml cc s 1 d 4) (nI c) n).2 ∧ Mn (PA n D K t g (fun d => ml cc s 1 d 4) Y pw) (fun c => (toF D K (fun d => ml cc s 1 d 4) (nI c) n).2) c) := fun q =>
            ih (x + 1) f' M1 v w (by omega) (by omega) i1 hE1 hY1 (Or.inr ⟨c, hv, hw, by rw [m32]; exact h32, hB.old (fun _ => q)⟩)
          by_cases q1 : (toF D K (fun d => ml cc s 1 d 4) (nI c) n).2 < (toF D K (fun d => ml cc s 1 d 4) (nI x) n).2
          · rw [if_pos (nI_lt q1 (by omega))]
            exact old (by omega)
          · rw [if_neg (nI_nlt (by omega) (by omega))]
            by_cases q2 : (toF D K (fun d => ml cc s 1 d 4) (nI x) n).2 = (toF D K (fun d => ml cc s 1 d 4) (nI c) n).2
            · rw [if_pos (by rw [q2]), hw]
              by_cases q3 : cnt x < cnt c
              · rw [if_pos (nI_lt q3 (by omega))]
                exact new (Or.inr ⟨x, rfl, rfl, u32, hB.new hPx (Or.inr ⟨q2, q3⟩)⟩)
              · rw [if_neg (nI_nlt (by omega) (by omega)), ← hw]
                exact old (by omega)
            · rw [if_neg (fun q => q2 ((nI_eq (by omega) (by omega)).mp q))]
              exact new (Or.inr ⟨x, rfl, rfl, u32, hB.new hPx (Or.inl (by omega))⟩)
      · rw [if_neg (by decide)]
        exact ih (x + 1) f' M1 v w (by omega) (by omega) i1 hE1 hY1 (skip (fun q => by have := q.2.2; unfold shutP at this; rw [hb] at this; exact absurd this (by decide)))
    · have e1 := g2 hok
      rw [e1, bnd_some, if_pos rfl]
      exact ih (x + 1) f' M1 v w (by omega) (by omega) i1 hE1 hY1 (skip (fun q => hok (hYs.mpr q.2.1)))
theorem e_best {fu : Nat} (hfu : 51200 < fu) {cc : Nat → Cd} {M : Mem} (hI : Inv cc M) {n : Nat} {D : Nat → Nat} {K t g : Nat → Int32} (hE : EF M n D K t g) (s : Int32) {pw : Nat} (hpw : pw < 8) :
    ∃ M' v, f_X9_best fu s (nI pw) M = some (v, M') ∧ Inv cc M' ∧ ((v = -1 ∧ M' 70 32 = -1 ∧ ∀ c, ¬ PA n D K t g (fun d => ml cc s 1 d 4) (fun d => sl M s d 4) pw c) ∨ ∃ c, v = nI c ∧ M' 70 32 = nI (toF D K (fun d => ml cc s 1 d 4) (nI c) n).2 ∧ Mn (PA n D K t g (fun d => ml cc s 1 d 4) (fun d => sl M s d 4) pw) (fun c => (toF D K (fun d => ml cc s 1 d 4) (nI c) n).2) c) := by
  have hn := hE.1
  have h2n : 2 ^ n ≤ 1024 := (Nat.pow_le_pow_right (by decide) hn : 2 ^ n ≤ 2 ^ 10)
  obtain ⟨M', v, w, e, i, r⟩ := bs_L hfu (cc := cc) (n := n) (D := D) (K := K) (t := t) (g := g) s (Y := fun d => sl M s d 4) hpw (fun M18 y19 _ _ => some (y19, M18)) (2 ^ n) 0 fu (upM M 70 32 (-1)) (-1) 0 (by omega) (by omega) (hI.u32 _) (hE.fr (by rw [upM_k (by omega)]) (by rw [upM_r, if_neg (by omega)]) (fun k w => upM_k (by omega))) (fun j _ => sl_cg (upM_k (by omega)) s j 4) (Or.inl ⟨rfl, by rw [upM_r, if_pos rfl], fun c hc => absurd hc (Nat.not_lt_zero c)⟩)
  exact ⟨M', v, e, i, r⟩
theorem Inv.u67 {cc : Nat → Cd} {M M' : Mem} (h : Inv cc M) (hk : ∀ k, k ≠ 67 → M' k = M k) : Inv cc M' :=
  h.fr (fun k q => hk k (fun w => q (by unfold Scr; omega))) (by rw [hk 60 (by omega)]) (fun f _ => by rw [hk 70 (by omega)])
theorem li7_no {x : Int32} (z : x < 0 ∨ nI 8 ≤ x) (M : Mem) : f_X9_lies x 0 7 M = some (0, M) := li_no (n := 7) (by omega) z M
theorem li7_yes {x : Nat} (z : x < 8) (M : Mem) : f_X9_lies (nI x) 0 7 M = some (1, M) := li_yes (n := 7) (by omega) (by omega) M
theorem both_cut {fu : Nat} (hfu : 51200 < fu) {cc : Nat → Cd} {M : Mem} (h : Inv cc M) (s : Int32) {pw : Nat} (hpw : pw < 8) :
    ∃ M1 r n D K t g, bnd (f_X8_gather fu s M) (fun _ M6 => f_X2_leastCut fu 68 69 (nI pw) M6) = some (r, M1) ∧ Inv cc M1 ∧ EF M1 n D K t g ∧ (∀ d, d < 32 → M1 68 d = ml cc s 1 d 4) ∧ ∀ X, (∀ k, k ≠ 67 → X k = M1 k) → ∃ M2, f_X9_best fu s (nI pw) X = some (r, M2) ∧ Inv cc M2 ∧ ((r = -1 ∧ M2 70 32 = -1) ∨ ∃ c, r = nI c ∧ c < 1024 ∧ M2 70 32 = nI (toF D K (fun d => ml cc s 1 d 4) (nI c) n).2) := by
  obtain ⟨G, e1, i1, g1, r1⟩ := e_gather hfu s h
  obtain ⟨n, D, K, t, g, hE⟩ := i1.2.2.2.ef
  have hn := hE.1
  obtain ⟨M1, r, e2, k2, res⟩ := e_leastCut hfu hE (L := fun d => ml cc s 1 d 4) (Y := fun d => sl G s d 4) (fun d hd => (r1 d hd).1) (fun d hd => (r1 d hd).2) hpw
  have hE1 : EF M1 n D K t g := hE.fr (by rw [k2 62 (by omega)]) (by rw [k2 70 (by omega)]) (fun k w => k2 k (by omega))
  have i2 : Inv cc M1 := i1.u67 k2
  refine ⟨M1, r, n, D, K, t, g, by rw [e1, bnd_some]; exact e2, i2, hE1, fun d hd => by rw [k2 68 (by omega)]; exact (r1 d hd).1, fun X hX => ?_⟩
  have hEX : EF X n D K t g := hE1.fr (by rw [hX 62 (by omega)]) (by rw [hX 70 (by omega)]) (fun k w => hX k (by omega))
  obtain ⟨M2, v, e3, i3, res9⟩ := e_best hfu (i2.u67 hX) hEX s hpw
  have hs : (fun d => sl X s d 4) = fun d => sl G s d 4 := funext fun d => sl_cg (by rw [hX 78 (by omega), k2 78 (by omega)]) s d 4
  rw [hs] at res9
  rcases res with ⟨hr, hns⟩ | ⟨c, hr, hM⟩
  · rcases res9 with ⟨hv, h32, -⟩ | ⟨c', -, -, hM'⟩
    · exact ⟨M2, by rw [e3, hv, hr], i3, Or.inl ⟨hr, h32⟩⟩
    · exact absurd (cut_all hn (by omega) hM'.1) hns
  · rcases res9 with ⟨-, -, hno⟩ | ⟨c', hv, h32, hM'⟩
    · exact absurd hM.1.a (hno c)
    · have ec := mn_ab hn hM' hM
      subst ec
      exact ⟨M2, by rw [e3, hv, hr], i3, Or.inr ⟨c', hr, p10 hn hM'.1.1, h32⟩⟩
theorem sm_cuts {fu : Nat} (hfu : 51200 < fu) (a w : Int32) : Sm (f_X8_cuts fu a w) (f_X9_cuts fu a w) := by
  intro cc M h
  rcases pk2 a (n := 16) (by omega) with z | ⟨s, hs, rfl⟩
  · exact Sm.same h (-1) (by unfold f_X8_cuts; rw [s8_no z, bnd_some, if_pos rfl]) (by unfold f_X9_cuts; rw [s9_no z, bnd_some, if_pos rfl])
  rcases pk2 w (n := 8) (by omega) with z | ⟨pw, hpw, rfl⟩
  · exact Sm.same h (-1) (by unfold f_X8_cuts; rw [s8_yes hs, bnd_some, if_neg (by decide), w8_no z, bnd_some, if_pos rfl]) (by unfold f_X9_cuts; rw [s9_yes hs, bnd_some, if_neg (by decide), li7_no z, bnd_some, if_pos rfl])
  obtain ⟨M1, r, n, D, K, t, g, e1, i1, hE, h68, go⟩ := both_cut hfu h (nI s) hpw
  obtain ⟨M2, e2, i2, -⟩ := go M1 (fun _ _ => rfl)
  refine ⟨r, M1, M2, cc, ?_, ?_, i2⟩
  · unfold f_X8_cuts
    rw [s8_yes hs, bnd_some, if_neg (by decide), w8_yes hpw, bnd_some, if_neg (by decide)]
    cases hg : f_X8_gather fu (nI s) M with
    | none => rw [hg] at e1; exact absurd e1 (by intro q; cases q)
    | some q =>
      rw [hg] at e1
      obtain ⟨q1, q2⟩ := q
      rw [bnd_some] at e1
      rw [bnd_some, e1, bnd_some]
  · unfold f_X9_cuts
    rw [s9_yes hs, bnd_some, if_neg (by decide), li7_yes hpw, bnd_some, if_neg (by decide), e2, bnd_some]
theorem sm_shut {fu : Nat} (hfu : 51200 < fu) (a w : Int32) : Sm (f_X8_shut fu a w) (f_X9_shut fu a w) := by
  intro cc M h
  rcases pk2 a (n := 16) (by omega) with z | ⟨s, hs, rfl⟩
  · exact Sm.same h (-1) (by unfold f_X8_shut; rw [s8_no z, bnd_some, if_pos rfl]) (by unfold f_X9_shut; rw [s9_no z, bnd_some, if_pos rfl])
  rcases pk2 w (n := 8) (by omega) with z | ⟨pw, hpw, rfl⟩
  · exact Sm.same h (-1) (by unfold f_X8_shut; rw [s8_yes hs, bnd_some, if_neg (by decide), w8_no z, bnd_some, if_pos rfl]) (by unfold f_X9_shut; rw [s9_yes hs, bnd_some, if_neg (by decide), li7_no z, bnd_some, if_pos rfl])
  obtain ⟨M1, r, n, D, K, t, g, e1, i1, hE, h68, go⟩ := both_cut hfu h (nI s) hpw
  have e8 : f_X8_shut fu (nI s) (nI pw) M = if r = (-1) then some ((-1), M1) else bnd (f_X2_takeOut fu 68 r M1) (fun r9 M10 => some (r9, M10)) := by
    unfold f_X8_shut
    rw [s8_yes hs, bnd_some, if_neg (by decide), w8_yes hpw, bnd_some, if_neg (by decide)]
    cases hg : f_X8_gather fu (nI s) M with
    | none => rw [hg] at e1; exact absurd e1 (by intro q; cases q)
    | some q =>
      rw [hg] at e1
      obtain ⟨q1, q2⟩ := q
      rw [bnd_some] at e1
      rw [bnd_some, e1, bnd_some]
  have e9 : ∀ X M2, f_X9_best fu (nI s) (nI pw) X = some (r, M2) → f_X9_shut fu (nI s) (nI pw) X = some (M2 70 32, M2) := fun X M2 q => by
    unfold f_X9_shut
    rw [s9_yes hs, bnd_some, if_neg (by decide), li7_yes hpw, bnd_some, if_neg (by decide), q, bnd_some]
  obtain ⟨M2, e2, i2, res⟩ := go M1 (fun _ _ => rfl)
  rcases res with ⟨hr, h32⟩ | ⟨c, hr, hc, h32⟩
  · rw [if_pos hr] at e8
    exact ⟨-1, M1, M2, cc, e8, by rw [e9 _ _ e2, h32], i2⟩
  · rw [if_neg (by rw [hr]; exact nI_m1 (by omega)), hr] at e8
    obtain ⟨M3, e3, k3, -⟩ := e_takeOut hfu hE 68 (nI c)
    have hD : ∀ e, e < n → D e < 32 := fun e he => (hE.2.2.2 e he).1
    have cg := toF_cg (D := D) (K := K) (c := nI c) (L := M1 68) (L' := fun d => ml cc (nI s) 1 d 4) n hD h68
    rw [cg.1] at e3
    rw [e3, bnd_some] at e8
    obtain ⟨M4, e4, i4, res4⟩ := go M3 k3
    rcases res4 with ⟨hr4, -⟩ | ⟨c4, hr4, hc4, h32'⟩
    · rw [hr] at hr4; exact absurd hr4 (nI_m1 (by omega))
    · have : c4 = c := by rw [hr] at hr4; exact ((nI_eq (by omega) (by omega)).mp hr4).symm
      subst this
      exact ⟨_, M3, M4, cc, e8, by rw [e9 _ _ e4, h32'], i4⟩
