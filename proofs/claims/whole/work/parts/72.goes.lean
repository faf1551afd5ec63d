/-! goesOn() of the reference. -/
def Wm (c : Cd) (t ph a b : Nat) : Nat → Prop := fun z => ∃ t0 ph' a' b', Stx c t ph a b t0 ph' a' b' ∧ z = sn (ee c t0) ph' a' b'
theorem sn_lt {t ph a b : Nat} (ht : t ≤ 24) (h1 : ph < 2) (h2 : a < 32) (h3 : b < 32) : sn t ph a b < 51200 := by unfold sn; omega
theorem Fnd.eq {p : Nat} {c : Cd} {D : Nat} {Y : Nat → Prop} {M M' : Mem} {V : Nat → Prop} {dp : Nat → Nat} {pr : Nat → Int32} {m : Nat} {an : Nat → Nat} {W W' : Nat → Prop} (h : Fnd p c D Y M V dp pr m an W M') (hw : ∀ z, W z ↔ W' z) : Fnd p c D Y M V dp pr m an W' M' := by
  obtain ⟨hK, V', dp', pr', m', an', hQ, hS⟩ := h
  exact ⟨hK, V', dp', pr', m', an', hQ, hS.eq hw⟩
theorem Fnd.rf {p : Nat} {c : Cd} {D : Nat} {Y : Nat → Prop} {M : Mem} {V : Nat → Prop} {dp : Nat → Nat} {pr : Nat → Int32} {m : Nat} {an : Nat → Nat} {W : Nat → Prop} (hQ : mQ p c M V dp pr m an) (h : ∀ z, W z → V z) : Fnd p c D Y M V dp pr m an W M := ⟨mK.rf M, V, dp, pr, m, an, hQ, Sg.rf h⟩
theorem read_L {p : Nat} (hp : p < 4) {c : Cd} {ph a b t u st D : Nat} {Y : Nat → Prop} (ht : t < 24) (hu : u ≤ 24) (h1 : ph < 2) (h2 : a < 32) (h3 : b < 32) (hX : c.2.2.1 t ≤ 1) (hst : st < 51200) (hD : D + 1 < 2 ^ 30) (hY : Y st) (kk : Mem → Int32 → Option (Int32 × Mem)) :
    ∀ (d v f : Nat) (M : Mem) (V : Nat → Prop) (dp : Nat → Nat) (pr : Nat → Int32) (m : Nat) (an : Nat → Nat), v + d = 32 → d < f → mQ p c M V dp pr m an → V st → dp st = D →
      ∃ M' y, f_X9_goesOn_L254 (nI st) (nI ph) (nI a) (nI b) (nI (24 * p + t)) (nI u) kk f M (nI v) = kk M' y ∧ Fnd p c D Y M V dp pr m an (fun z => ∃ w, v ≤ w ∧ w < 32 ∧ ((c.2.2.1 t = 0 ∧ z = sn u ph w b) ∨ (c.2.2.1 t = 1 ∧ z = sn u ph a w))) M' := by
  intro d
  induction d with
  | zero =>
    intro v f M V dp pr m an hv hf hQ _ _
    obtain ⟨f', rfl⟩ : ∃ f', f = f' + 1 := ⟨f - 1, by omega⟩
    rw [f_X9_goesOn_L254, if_pos (by rw [c32]; exact nI_le (by omega) (by omega))]
    exact ⟨M, _, rfl, Fnd.rf hQ fun z ⟨w, w1, w2, _⟩ => by omega⟩
  | succ d ih =>
    intro v f M V dp pr m an hv hf hQ hvs hds
    obtain ⟨f', rfl⟩ : ∃ f', f = f' + 1 := ⟨f - 1, by omega⟩
    rw [f_X9_goesOn_L254, if_neg (by rw [c32]; exact nI_ge (by omega) (by omega)), ixT (by omega) (by omega), if_pos rfl, nI_clamp (by omega), (hQ.1.2 t ht).2.1]
    have key : ∃ x, x < 51200 ∧ f_X9_with (nI ph) (nI a) (nI b) (nI u) (nI (c.2.2.1 t)) (nI v) M = some (nI x, M) ∧ ∀ z, z = x ↔ ((c.2.2.1 t = 0 ∧ z = sn u ph v b) ∨ (c.2.2.1 t = 1 ∧ z = sn u ph a v)) := by
      rcases (show c.2.2.1 t = 0 ∨ c.2.2.1 t = 1 by omega) with x0 | x1
      · rw [x0, e_with0]
        exact ⟨_, sn_lt hu h1 (by omega) h3, rfl, fun z => ⟨fun q => Or.inl ⟨rfl, q⟩, fun q => by rcases q with q | q; exact q.2; omega⟩⟩
      · rw [x1, e_with1]
        exact ⟨_, sn_lt hu h1 h2 (by omega), rfl, fun z => ⟨fun q => Or.inr ⟨rfl, q⟩, fun q => by rcases q with q | q; omega; exact q.2⟩⟩
    obtain ⟨x, hx, ex, hz⟩ := key
    rw [ex, bnd_some]
    obtain ⟨M1, e1, hF1⟩ := finds_sg (Y := Y) hQ hx hst hvs hds hD hY
    rw [e1, bnd_some, nI_1]
    obtain ⟨hK1, V1, dp1, pr1, m1, an1, hQ1, hS1⟩ := hF1
    obtain ⟨M2, y, e2, hK2, V2, dp2, pr2, m2, an2, hQ2, hS2⟩ := ih (v + 1) f' M1 V1 dp1 pr1 m1 an1 (by omega) (by omega) hQ1 ((hS1.2.2.1 st).mpr (Or.inl hvs)) ((hS1.2.2.2.1 st hvs).1.trans hds)
    refine ⟨M2, y, e2, hK1.tr hK2, V2, dp2, pr2, m2, an2, hQ2, (hS1.tr hS2).eq fun z => ?_⟩
    rw [hz]
    constructor
    · rintro (q | ⟨w, w1, w2, q⟩)
      · exact ⟨v, Nat.le_refl _, by omega, q⟩
      · exact ⟨w, by omega, w2, q⟩
    · rintro ⟨w, w1, w2, q⟩
      rcases (show w = v ∨ v + 1 ≤ w by omega) with r | r
      · rw [r] at q; exact Or.inl q
      · exact Or.inr ⟨w, r, w2, q⟩
theorem dv {x d : Nat} (hx : x < 2 ^ 31) (h0 : 0 < d) (hd : d < 2 ^ 31) : nI x - nI x / nI d * nI d = nI (x % d) := pk_rem hx h0 hd
