/-! The abstract memory: a row of ints for each cell of the two systems; the world that it stands for. -/
abbrev vwCl : List vw_C := [(RX0, TX0, 1), (RX1, TX1, 5), (RX2, TX2, 6), (RX3, TX3, 6), (RX4, TX4, 14), (RX5, TX5, 3), (RX6, TX6, 3), (RX7, TX7, 2), (RX8, TX8, 6), (RX9, TX9, 33)]
abbrev Mem : Type := Nat → Nat → Int32
def upM (M : Mem) (k j : Nat) (v : Int32) : Mem := fun q => if q = k then upd (M k) j v else M q
def setM (M : Mem) (k : Nat) (f : Nat → Int32) : Mem := fun q => if q = k then f else M q
def ix (i : Int32) (n : Nat) : Bool := decide (¬ (i < 0 ∨ n ≤ i.toNatClampNeg))
theorem ix_in {i : Int32} {n : Nat} (h : ix i n = true) : vp_in i n := (of_decide_eq_true h : ¬ (i < 0 ∨ n ≤ i.toNatClampNeg))
theorem ix_lt {i : Int32} {n : Nat} (h : ix i n = true) : i.toNatClampNeg < n := Nat.not_le.mp fun q => ix_in h (Or.inr q)
def bnd {α : Type} (o : Option (Int32 × Mem)) (k : Int32 → Mem → Option α) : Option α := match o with
  | none => none
  | some q => k q.1 q.2
def wr (M : Mem) (k j : Nat) (v : Int32) (ka : Mem → Option (Int32 × Mem)) : Option (Int32 × Mem) := ka (upM M k j v)
def wrA (M : Mem) (k : Nat) (f : Nat → Int32) (ka : Mem → Option (Int32 × Mem)) : Option (Int32 × Mem) := ka (setM M k f)
def nm (x : Int32) (kn : Int32 → Option (Int32 × Mem)) : Option (Int32 × Mem) := kn x
theorem bnd_some {α : Type} (r : Int32) (M : Mem) (k : Int32 → Mem → Option α) : bnd (some (r, M)) k = k r M := rfl
abbrev NN : Nat := 93
abbrev Cs : Type := ClassId × ClassId × ClassId × ClassId
abbrev rI (cs : Cs) (n : Nat) (f : Nat → Int32) : va_E := .inl (cs.1, n, .inl f)
abbrev rB (cs : Cs) (n : Nat) (f : Nat → Int32) : va_E := .inl (cs.2.1, n, .inl f)
abbrev rZ (cs : Cs) (n : Nat) (f : Nat → Int32) : va_E := .inl (cs.2.2.1, n, .inl f)
abbrev tyL (cs : Cs) : List (ClassId × FieldType) := [(cs.1, .int), (cs.2.1, .byte), (cs.2.2.1, .boolean), (cs.2.2.2, .object "DoorLister$Program")]
abbrev oX5 (ad : Nat → Nat) (p : Nat) (_ : Nat → Int32) : List Value := [.ref (ad (13 * p + 3)), .ref (ad (13 * p + 8)), .ref (ad (13 * p + 13))]
abbrev oX1 (ad : Nat → Nat) (p : Nat) (f : Nat → Int32) : List Value := [.ref (ad (13 * p + 4)), .ref (ad (13 * p + 5)), .ref (ad (13 * p + 6)), .ref (ad (13 * p + 7)), .int (f 4)]
abbrev oX4 (ad : Nat → Nat) (p : Nat) (f : Nat → Int32) : List Value := [.ref (ad (13 * p + 3)), .ref (ad 54), .ref (ad (13 * p + 9)), .ref (ad (13 * p + 10)), .ref (ad (13 * p + 11)), .int (f 5), .int (f 6), .int (f 7), .int (f 8), .int (f 9), .int (f 10), .int (f 11), .int (f 12), .int (f 13)]
abbrev oX0 (ad : Nat → Nat) (k : Nat) (_ : Nat → Int32) : List Value := [.ref (ad (k + 1))]
abbrev oX6 (ad : Nat → Nat) (_ : Nat → Int32) : List Value := [.ref (ad 55), .ref (ad 56), .ref (ad 57)]
abbrev oX7 (ad : Nat → Nat) (f : Nat → Int32) : List Value := [.ref (ad 59), .int (f 1)]
abbrev oX3 (ad : Nat → Nat) (f : Nat → Int32) : List Value := [.ref (ad 61), .int (f 1), .int (f 2), .int (f 3), .int (f 4), .int (f 5)]
abbrev oX2 (ad : Nat → Nat) (f : Nat → Int32) : List Value := [.ref (ad 63), .ref (ad 64), .ref (ad 65), .ref (ad 66), .ref (ad 67), .int (f 5)]
abbrev oX8 (ad : Nat → Nat) (_ : Nat → Int32) : List Value := [.ref (ad 1), .ref (ad 58), .ref (ad 60), .ref (ad 62), .ref (ad 68), .ref (ad 69)]
abbrev oX9 (ad : Nat → Nat) (f : Nat → Int32) : List Value := [.ref (ad 71), .int (f 1), .int (f 2), .ref (ad 72), .ref (ad 73), .ref (ad 74), .ref (ad 75), .ref (ad 76), .ref (ad 77), .ref (ad 78), .ref (ad 79), .ref (ad 80), .int (f 12), .ref (ad 81), .ref (ad 82), .ref (ad 83), .ref (ad 84), .ref (ad 85), .int (f 18), .ref (ad 86), .ref (ad 87), .ref (ad 88), .ref (ad 89), .int (f 23), .int (f 24), .ref (ad 90), .int (f 26), .int (f 27), .int (f 28), .int (f 29), .ref (ad 91), .ref (ad 92), .int (f 32)]
/-- the thirteen cells of a program -/
def wlP (ad : Nat → Nat) (cs : Cs) (p : Nat) : List ((Nat → Int32) → va_E) := [fun f => .inr (5, oX5 ad p f), fun f => .inr (1, oX1 ad p f), rI cs 24, rI cs 24, rI cs 24, rI cs 24, fun f => .inr (4, oX4 ad p f), rI cs 49152, rI cs 2048, fun f => .inr (0, oX0 ad (13 * p + 11) f), rI cs 64, fun f => .inr (0, oX0 ad (13 * p + 13) f), rI cs 64]
def wl (ad : Nat → Nat) (cs : Cs) : List ((Nat → Int32) → va_E) :=
  [fun f => .inr (8, oX8 ad f), fun _ => .inl (cs.2.2.2, 4, .inr (.inr (.inr (.inr fun j => some (ad (13 * j + 2))))))] ++ (wlP ad cs 0 ++ (wlP ad cs 1 ++ (wlP ad cs 2 ++ (wlP ad cs 3 ++
  [fun f => .inr (6, oX6 ad f), rI cs 49152, rI cs 1536, rI cs 48, fun f => .inr (7, oX7 ad f), rI cs 80, fun f => .inr (3, oX3 ad f), rI cs 2, fun f => .inr (2, oX2 ad f), rI cs 10, rI cs 10, rI cs 10, rI cs 10, rI cs 32, rI cs 32, rI cs 32,
   fun f => .inr (9, oX9 ad f), rB cs 80, rI cs 4, rI cs 96, rI cs 96, rI cs 96, rI cs 96, rI cs 256, rI cs 256, rI cs 4, rZ cs 4, rI cs 10, rI cs 10, rI cs 10, rI cs 10, rI cs 10, rI cs 51200, rI cs 51200, rI cs 51200, rI cs 51200, rI cs 51200, rI cs 2, rI cs 32]))))
def clf (ad : Nat → Nat) (cs : Cs) (k : Nat) (f : Nat → Int32) : va_E := ((wl ad cs).getD k (rI cs 0)) f
def wd (ad : Nat → Nat) (cs : Cs) (M : Mem) : va_W := (List.range NN).map fun k => (ad k, clf ad cs k (M k))
def Inj (ad : Nat → Nat) : Prop := ∀ i j : Nat, i < NN → j < NN → ad i = ad j → i = j
theorem wd_at {ad : Nat → Nat} {cs : Cs} {M : Mem} {k : Nat} (hk : k < NN) {e : va_E} (he : clf ad cs k (M k) = e) : (wd ad cs M)[k]? = some (ad k, e) := by
  subst he
  simp [wd, hk]
theorem wd_set {ad : Nat → Nat} {cs : Cs} {M : Mem} {k : Nat} {f : Nat → Int32} {e : va_E} (he : clf ad cs k f = e) : (wd ad cs M).set k (ad k, e) = wd ad cs (setM M k f) := by
  subst he
  apply List.ext_getElem?
  intro i
  rw [List.getElem?_set]
  by_cases hi : k = i
  · subst hi
    by_cases hk : k < NN
    · simp [wd, hk, setM]
    · simp [wd, hk]
  · rw [if_neg hi]
    by_cases hk : i < NN
    · simp [wd, hk, setM, Ne.symm hi]
    · simp [wd, hk]
theorem setM_up (M : Mem) (k j : Nat) (v : Int32) : setM M k (upd (M k) j v) = upM M k j v := rfl
theorem wd_D {ad : Nat → Nat} {cs : Cs} {M : Mem} {A : Nat → Prop} (hi : Inj ad) (hA : ∀ k, k < NN → A (ad k)) : va_D A (wd ad cs M) := by
  have h1 : ∀ (k : Nat) (q : Nat × va_E), (wd ad cs M)[k]? = some q → k < NN ∧ q.1 = ad k := by
    intro k q h
    by_cases hk : k < NN
    · rw [wd_at hk rfl] at h
      cases h
      exact ⟨hk, rfl⟩
    · rw [List.getElem?_eq_none (by simp [wd]; omega)] at h
      cases h
  refine ⟨fun i j p q hp hq he => ?_, fun k q h => ?_⟩
  · obtain ⟨a1, a2⟩ := h1 i p hp
    obtain ⟨b1, b2⟩ := h1 j q hq
    exact hi i j a1 b1 (by rw [← a2, ← b2, he])
  · obtain ⟨a1, a2⟩ := h1 k q h
    rw [a2]
    exact hA k a1
/-- what the tables say: classes, arrays, three links among nest mates -/
def Kn (D : va_G) (cs : Cs) (U : State) : Prop := va_K D vwCl (tyL cs) U ∧ va_Nw (.methodLinkNest RX0 41 yX8_holds RX8) U ∧ va_Nw (.methodLinkNest RX2 47 yX8_holds RX8) U ∧ va_Nw (.methodLinkNest RX4 42 yX8_holds RX8) U
theorem Kn.warm {D : va_G} {cs : Cs} {s U : State} (hW : s.WarmedH U.vm) (h : Kn D cs s) : Kn D cs U := ⟨va_K.moved hW.alike h.1, h.2.1.warmM hW, h.2.2.1.warmM hW, h.2.2.2.warmM hW⟩
theorem Kn.same {D : va_G} {cs : Cs} {s U : State} (h : s.vm = U.vm) (hK : Kn D cs s) : Kn D cs U := ⟨va_K.moved (h ▸ Vm.Alike.refl s.vm) hK.1, hK.2.1.same rfl h, hK.2.2.1.same rfl h, hK.2.2.2.same rfl h⟩
abbrev Ad (ad : Nat → Nat) : Nat → Prop := fun q => ∃ k, k < NN ∧ q = ad k
abbrev Fx (p : Program) (m : MethodId) (c : Code) (cc : ByteArray) (nL : Nat) (s : State) (args : Array Value) (Ts : List Cond) (own : String) (D : va_G) (ad : Nat → Nat) (cs : Cs) (A : Nat → Prop) : Prop :=
  CallFix p m c cc nL s args Ts own ∧ Kn D cs s ∧ Inj ad ∧ ∀ k, k < NN → A (ad k)
def GoX (p : Program) (l : Launch) (e : Env) (R : Room) (s : State) (m : MethodId) (args : Array Value) (below : List Frame) (meth : Method) (c : Code) (cells slots nL : Nat) (Qf : Int32 × Mem → State → Prop) (D : va_G) (ad : Nat → Nat) (cs : Cs) (A : Nat → Prop) (M : Mem) (pc : Nat) (lv : List (Nat × Value)) (st : List Value) (o : Option (Int32 × Mem)) : Prop :=
  ∀ rM, o = some rM → ∀ (H : Heap) (locs : List Loc) (ls : Array Slot), va_P D vwCl (wd ad cs M) H → va_S A s.heap H locs → lv_has ls nL lv → W p l e R s m args below meth c H locs cells slots (Qf rM) (F0 m pc ls st)
def cat1 (lv : List (Nat × Value)) : Bool := lv.all fun q => q.2.category == 1
def lins (i : Nat) (v : Value) : List (Nat × Value) → List (Nat × Value)
  | [] => [(i, v)]
  | q :: r => if i < q.1 then (i, v) :: q :: r else if q.1 = i then lins i v r else q :: lins i v r
theorem lins_mem {i : Nat} {v : Value} : ∀ {lv : List (Nat × Value)} {q : Nat × Value}, q ∈ lins i v lv → (lv.map (·.1)).Pairwise (· < ·) → q = (i, v) ∨ (q ∈ lv ∧ q.1 ≠ i) := by
  intro lv
  induction lv with
  | nil => intro q h _; left; simpa [lins] using h
  | cons a r ih =>
    intro q h hs
    have hs' := List.pairwise_cons.mp hs
    unfold lins at h
    split at h
    · rename_i hlt
      rcases List.mem_cons.mp h with h | h
      · exact Or.inl h
      · right
        refine ⟨h, ?_⟩
        rcases List.mem_cons.mp h with h | h
        · subst h; omega
        · have h9 : a.1 < q.1 := hs'.1 q.1 (List.mem_map_of_mem h); omega
    · split at h
      · rcases ih h hs'.2 with h | h
        · exact Or.inl h
        · exact Or.inr ⟨List.mem_cons_of_mem _ h.1, h.2⟩
      · rename_i hne
        rcases List.mem_cons.mp h with h | h
        · subst h; exact Or.inr ⟨List.mem_cons_self, hne⟩
        · rcases ih h hs'.2 with h | h
          · exact Or.inl h
          · exact Or.inr ⟨List.mem_cons_of_mem _ h.1, h.2⟩
def srt (l : List Nat) : Bool := match l with
  | [] => true
  | a :: r => (r.all fun b => decide (a < b)) && srt r
theorem srt_ok : ∀ {l : List Nat}, srt l = true → l.Pairwise (· < ·) := by
  intro l
  induction l with
  | nil => intro _; exact List.Pairwise.nil
  | cons a r ih =>
    intro h
    unfold srt at h
    simp only [Bool.and_eq_true, List.all_eq_true, decide_eq_true_eq] at h
    exact List.pairwise_cons.mpr ⟨h.1, ih h.2⟩
theorem lv_put {ls' : Array Slot} {nL i : Nat} {v : Value} {lv lv' : List (Nat × Value)} (hc : cat1 lv = true) (hs : srt (lv.map (·.1)) = true) (hl : lins i v lv = lv') (h : lv_has ls' nL ((i, v) :: lv.filter (fun q => !(q.1 == i) && !(q.1 + 1 == i && q.2.category == 2)))) : lv_has ls' nL lv' := by
  subst hl
  refine ⟨h.1, h.2.1, fun q hq => h.2.2 q ?_⟩
  rcases lins_mem hq (srt_ok hs) with hq | ⟨h1, h2⟩
  · rw [hq]; exact List.mem_cons_self
  · refine List.mem_cons_of_mem _ (List.mem_filter.mpr ⟨h1, ?_⟩)
    have := List.all_eq_true.mp hc q h1
    simp at this
    simp [h2, this]
