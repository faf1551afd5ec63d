/-! Constructors: worlds that grow. -/
def Kc (D : va_G) (cs : Cs) (U : State) : Prop := va_K D vwCl (tyL cs) U ∧ va_AO "DoorLister$Program" U
theorem Kc.warm {D : va_G} {cs : Cs} {s U : State} (hW : s.WarmedH U.vm) (h : Kc D cs s) : Kc D cs U := ⟨va_K.moved hW.alike h.1, va_AO.moved hW.alike h.2⟩
theorem Kc.same {D : va_G} {cs : Cs} {s U : State} (h : s.vm = U.vm) (hK : Kc D cs s) : Kc D cs U := ⟨va_K.moved (h ▸ Vm.Alike.refl s.vm) hK.1, va_AO.moved (h ▸ Vm.Alike.refl s.vm) hK.2⟩
abbrev Fc (p : Program) (m : MethodId) (c : Code) (cc : ByteArray) (nL : Nat) (s : State) (args : Array Value) (Ts : List Cond) (own : String) (D : va_G) (cs : Cs) (A : Nat → Prop) : Prop :=
  CallFix p m c cc nL s args Ts own ∧ Kc D cs s ∧ (∀ q, s.heap.size ≤ q → A q)
def GoC (p : Program) (l : Launch) (e : Env) (R : Room) (s : State) (m : MethodId) (args : Array Value) (below : List Frame) (meth : Method) (c : Code) (nL : Nat) (D : va_G) (A : Nat → Prop) (Q : State → Prop) (cells slots : Nat) (ws : va_W) (pc : Nat) (lv : List (Nat × Value)) (st : List Value) : Prop :=
  ∀ (H : Heap) (locs : List Loc) (ls : Array Slot), va_P D vwCl ws H → va_D A ws → va_S A s.heap H locs → lv_has ls nL lv → W p l e R s m args below meth c H locs cells slots Q (F0 m pc ls st)
section HC
variable {p : Program} {l : Launch} {e : Env} {R : Room} {s : State} {m : MethodId} {args : Array Value} {below : List Frame} {meth : Method} {c : Code} {nL : Nat} {D : va_G} {cs : Cs} {A : Nat → Prop} {Q : State → Prop} {cells slots : Nat} {ws : va_W}
variable {cc : ByteArray} {Ts : List Cond} {own : String} {pc : Nat} {lv : List (Nat × Value)} {st : List Value}
theorem h_iconst (F : Fc p m c cc nL s args Ts own D cs A) {n : Int} {v : Int32} (hdg : decode cc pc = .ok (.iconst n, 1)) (hv : Int32.ofInt n = v) (k : GoC p l e R s m args below meth c nL D A Q cells slots ws (pc + 1) lv (.int v :: st)) : GoC p l e R s m args below meth c nL D A Q cells slots ws pc lv st :=
  fun H locs ls hP hD hS hl => lv_iconst F.1.1 F.1.2.1 hdg hv (k H locs ls hP hD hS hl)
theorem h_bipush (F : Fc p m c cc nL s args Ts own D cs A) {n : Int} {v : Int32} (hdg : decode cc pc = .ok (.bipush n, 2)) (hv : (Int8.ofInt n).toInt32 = v) (k : GoC p l e R s m args below meth c nL D A Q cells slots ws (pc + 2) lv (.int v :: st)) : GoC p l e R s m args below meth c nL D A Q cells slots ws pc lv st :=
  fun H locs ls hP hD hS hl => lv_bipush F.1.1 F.1.2.1 hdg hv (k H locs ls hP hD hS hl)
theorem h_sipush (F : Fc p m c cc nL s args Ts own D cs A) {n : Int} {v : Int32} (hdg : decode cc pc = .ok (.sipush n, 3)) (hv : (Int16.ofInt n).toInt32 = v) (k : GoC p l e R s m args below meth c nL D A Q cells slots ws (pc + 3) lv (.int v :: st)) : GoC p l e R s m args below meth c nL D A Q cells slots ws pc lv st :=
  fun H locs ls hP hD hS hl => lv_sipush F.1.1 F.1.2.1 hdg hv (k H locs ls hP hD hS hl)
theorem h_ldc (F : Fc p m c cc nL s args Ts own D cs A) {index : Nat} {v : Int32} (hw : Jvm.Cond.constant own index v ∈ Ts) (hdg : decode cc pc = .ok (.ldc index, 2)) (k : GoC p l e R s m args below meth c nL D A Q cells slots ws (pc + 2) lv (.int v :: st)) : GoC p l e R s m args below meth c nL D A Q cells slots ws pc lv st :=
  fun H locs ls hP hD hS hl => lv_ldc F.1.1 F.1.2.1 F.1.2.2.2.1 (F.1.2.2.2.2 _ hw) hdg (k H locs ls hP hD hS hl)
theorem h_aload_n (F : Fc p m c cc nL s args Ts own D cs A) (q : Nat) {i : Fin 4} {x : Nat} (hdg : decode cc pc = .ok (.aload_n i, 1)) (hq : lv[q]? = some ((i : Nat), .ref x)) (k : GoC p l e R s m args below meth c nL D A Q cells slots ws (pc + 1) lv (.ref x :: st)) : GoC p l e R s m args below meth c nL D A Q cells slots ws pc lv st :=
  fun H locs ls hP hD hS hl => lv_aload_n F.1.1 F.1.2.1 hdg rfl (lv_at hl q hq) (k H locs ls hP hD hS hl)
theorem h_iload_n (F : Fc p m c cc nL s args Ts own D cs A) (q : Nat) {i : Fin 4} {x : Int32} (hdg : decode cc pc = .ok (.iload_n i, 1)) (hq : lv[q]? = some ((i : Nat), .int x)) (k : GoC p l e R s m args below meth c nL D A Q cells slots ws (pc + 1) lv (.int x :: st)) : GoC p l e R s m args below meth c nL D A Q cells slots ws pc lv st :=
  fun H locs ls hP hD hS hl => lv_iload_n F.1.1 F.1.2.1 hdg rfl (lv_at hl q hq) (k H locs ls hP hD hS hl)
theorem h_istore_n (F : Fc p m c cc nL s args Ts own D cs A) (lv' : List (Nat × Value)) {i : Fin 4} {x : Int32} (hdg : decode cc pc = .ok (.istore_n i, 1)) (hn : (i : Nat) < nL) (hc : cat1 lv = true) (hs : srt (lv.map (·.1)) = true) (hl' : lins (i : Nat) (.int x) lv = lv') (k : GoC p l e R s m args below meth c nL D A Q cells slots ws (pc + 1) lv' st) : GoC p l e R s m args below meth c nL D A Q cells slots ws pc lv (.int x :: st) :=
  fun H locs ls hP hD hS hl => lv_istore_n F.1.1 F.1.2.1 hdg rfl hl hn rfl (fun ls' h' => k H locs ls' hP hD hS (lv_put hc hs hl' h'))
theorem h_astore_n (F : Fc p m c cc nL s args Ts own D cs A) (lv' : List (Nat × Value)) {i : Fin 4} {x : Nat} (hdg : decode cc pc = .ok (.astore_n i, 1)) (hn : (i : Nat) < nL) (hc : cat1 lv = true) (hs : srt (lv.map (·.1)) = true) (hl' : lins (i : Nat) (.ref x) lv = lv') (k : GoC p l e R s m args below meth c nL D A Q cells slots ws (pc + 1) lv' st) : GoC p l e R s m args below meth c nL D A Q cells slots ws pc lv (.ref x :: st) :=
  fun H locs ls hP hD hS hl => lv_astore_n F.1.1 F.1.2.1 hdg rfl hl hn rfl (fun ls' h' => k H locs ls' hP hD hS (lv_put hc hs hl' h'))
theorem h_iinc (F : Fc p m c cc nL s args Ts own D cs A) (lv' : List (Nat × Value)) (q : Nat) {i : Nat} {n : Int} {x v : Int32} (hdg : decode cc pc = .ok (.iinc i n, 3)) (hq : lv[q]? = some (i, .int x)) (hv : x + Int32.ofInt n = v) (hn : i < nL) (hc : cat1 lv = true) (hs : srt (lv.map (·.1)) = true) (hl' : lins i (.int v) lv = lv') (k : GoC p l e R s m args below meth c nL D A Q cells slots ws (pc + 3) lv' st) : GoC p l e R s m args below meth c nL D A Q cells slots ws pc lv st :=
  fun H locs ls hP hD hS hl => lv_iinc F.1.1 F.1.2.1 hdg hl hq hv hn rfl (fun ls' h' => k H locs ls' hP hD hS (lv_put hc hs hl' h'))
theorem h_goto (F : Fc p m c cc nL s args Ts own D cs A) {off : Int} (tgt : Nat) (hdg : decode cc pc = .ok (.goto off, 3)) (ht : (pc : Int) + off = (tgt : Int)) (k : GoC p l e R s m args below meth c nL D A Q cells slots ws tgt lv st) : GoC p l e R s m args below meth c nL D A Q cells slots ws pc lv st :=
  fun H locs ls hP hD hS hl => lv_goto F.1.1 F.1.2.1 hdg ht (k H locs ls hP hD hS hl)
theorem h_ge_t (F : Fc p m c cc nL s args Ts own D cs A) {x y : Int32} {off : Int} (tgt : Nat) (hdg : decode cc pc = .ok (.if_icmp .ge off, 3)) (ht : (pc : Int) + off = (tgt : Int)) (hc : y ≤ x) (k : GoC p l e R s m args below meth c nL D A Q cells slots ws tgt lv st) : GoC p l e R s m args below meth c nL D A Q cells slots ws pc lv (.int y :: .int x :: st) :=
  fun H locs ls hP hD hS hl => lv_icmp_ge F.1.1 F.1.2.1 hdg ht (fun _ => k H locs ls hP hD hS hl) (fun h => absurd hc h)
theorem h_ge_f (F : Fc p m c cc nL s args Ts own D cs A) {x y : Int32} {off : Int} (tgt : Nat) (hdg : decode cc pc = .ok (.if_icmp .ge off, 3)) (ht : (pc : Int) + off = (tgt : Int)) (hc : ¬ y ≤ x) (k : GoC p l e R s m args below meth c nL D A Q cells slots ws (pc + 3) lv st) : GoC p l e R s m args below meth c nL D A Q cells slots ws pc lv (.int y :: .int x :: st) :=
  fun H locs ls hP hD hS hl => lv_icmp_ge F.1.1 F.1.2.1 hdg ht (fun h => absurd h hc) (fun _ => k H locs ls hP hD hS hl)
theorem h_dup (F : Fc p m c cc nL s args Ts own D cs A) {v : Value} (hv : v.category = 1) (hdg : decode cc pc = .ok (.dup, 1)) (k : GoC p l e R s m args below meth c nL D A Q cells slots ws (pc + 1) lv (v :: v :: st)) : GoC p l e R s m args below meth c nL D A Q cells slots ws pc lv (v :: st) :=
  fun H locs ls hP hD hS hl => lv_dup F.1.1 F.1.2.1 hdg hv (k H locs ls hP hD hS hl)
theorem h_get (F : Fc p m c cc nL s args Ts own D cs A) {a ci index : Nat} {fs : List Value} {C ref : String} {T : u_T} {N : Nat} (q0 : Nat) (he : ws[q0]? = some (a, .inr (ci, fs))) (hc : vwCl[ci]? = some (C, T, N)) (hin : ∀ w ∈ u_ws C T N, w ∈ Ts) (j : Nat) (hj : j < N) (hlink : Cond.fieldLink own index ref (T j).2.1 (T j).2.2.1 ∈ Ts) (hsame : ref = (T j).1) {v : Value} (hv : fs[j]? = some v) (hdg : decode cc pc = .ok (.getfield index, 3))
    (k : GoC p l e R s m args below meth c nL D A Q cells slots ws (pc + 3) lv (v :: st)) : GoC p l e R s m args below meth c nL D A Q cells slots ws pc lv (.ref a :: st) :=
  fun H locs ls hP hD hS hl => va_get F.1.1 F.1.2.1 F.1.2.2.2.2 hin F.1.2.2.2.1 F.2.1.1 hP q0 he hc j hj (F.1.2.2.2.2 _ hlink) (fun x hx => by rw [hsame]; exact hx) hv hdg (k H locs ls hP hD hS hl)
theorem h_putF (F : Fc p m c cc nL s args Ts own D cs A) (hin2 : meth.name = "<init>") {a ci index : Nat} {fs : List Value} {C ref : String} {T : u_T} {N : Nat} (q0 : Nat) (he : ws[q0]? = some (a, .inr (ci, fs))) (hc : vwCl[ci]? = some (C, T, N)) (hin : ∀ w ∈ u_ws C T N, w ∈ Ts) (ty0 : Nat → FieldType) (hty : ∀ k, k < N → parseFieldDescriptor (T k).2.2.1 = some (ty0 k)) (hnm : ∀ a, a < N → ∀ b, b < N → a ≠ b → (T a).2.1 ≠ (T b).2.1) (j : Nat) (hj : j < N) (hlink : Cond.fieldLink own index ref (T j).2.1 (T j).2.2.1 ∈ Ts) (hsame : ref = (T j).1) (hfin : (T j).2.2.2 = true) (hdecl : (T j).1 = own) {v : Value} (hn : narrow (ty0 j) v = v) (hfit : fits (ty0 j) v = true) (hlen : j < fs.length) (ws' : va_W) (hw : ws.set q0 (a, .inr (ci, fs.set j v)) = ws') (hdg : decode cc pc = .ok (.putfield index, 3))
    (k : GoC p l e R s m args below meth c nL D A Q cells slots ws' (pc + 3) lv st) : GoC p l e R s m args below meth c nL D A Q cells slots ws pc lv (v :: .ref a :: st) := by
  intro H locs ls hP hD hS hl
  refine va_putF F.1.1 F.1.2.1 F.1.2.2.2.2 hin ty0 hty hnm F.1.2.2.2.1 F.2.1.1 hP hD hS q0 he hc j hj (F.1.2.2.2.2 _ hlink) (fun x hx => by rw [hsame]; exact hx) hfin hin2 hdecl (hty j hj) hn hfit hlen hdg (fun H1 locs1 hP1 hD1 hS1 => ?_)
  rw [hw] at hP1 hD1
  exact k H1 locs1 ls hP1 hD1 hS1 hl
theorem h_put (F : Fc p m c cc nL s args Ts own D cs A) {a ci index : Nat} {fs : List Value} {C ref : String} {T : u_T} {N : Nat} (q0 : Nat) (he : ws[q0]? = some (a, .inr (ci, fs))) (hc : vwCl[ci]? = some (C, T, N)) (hin : ∀ w ∈ u_ws C T N, w ∈ Ts) (ty0 : Nat → FieldType) (hty : ∀ k, k < N → parseFieldDescriptor (T k).2.2.1 = some (ty0 k)) (hnm : ∀ a, a < N → ∀ b, b < N → a ≠ b → (T a).2.1 ≠ (T b).2.1) (j : Nat) (hj : j < N) (hlink : Cond.fieldLink own index ref (T j).2.1 (T j).2.2.1 ∈ Ts) (hsame : ref = (T j).1) (hfin : (T j).2.2.2 = false) {v : Value} (hn : narrow (ty0 j) v = v) (hfit : fits (ty0 j) v = true) (hlen : j < fs.length) (ws' : va_W) (hw : ws.set q0 (a, .inr (ci, fs.set j v)) = ws') (hdg : decode cc pc = .ok (.putfield index, 3))
    (k : GoC p l e R s m args below meth c nL D A Q cells slots ws' (pc + 3) lv st) : GoC p l e R s m args below meth c nL D A Q cells slots ws pc lv (v :: .ref a :: st) := by
  intro H locs ls hP hD hS hl
  refine va_put F.1.1 F.1.2.1 F.1.2.2.2.2 hin ty0 hty hnm F.1.2.2.2.1 F.2.1.1 hP hD hS q0 he hc j hj (F.1.2.2.2.2 _ hlink) (fun x hx => by rw [hsame]; exact hx) hfin (hty j hj) hn hfit hlen hdg (fun H1 locs1 hP1 hD1 hS1 => ?_)
  rw [hw] at hP1 hD1
  exact k H1 locs1 ls hP1 hD1 hS1 hl
theorem h_new (F : Fc p m c cc nL s args Ts own D cs A) {ci index : Nat} {fs : List Value} {C : String} {T : u_T} {N : Nat} (hc : vwCl[ci]? = some (C, T, N)) (hin : ∀ w ∈ u_ws C T N, w ∈ Ts) (ty : Nat → FieldType) (hty : ∀ k, k < N → parseFieldDescriptor (T k).2.2.1 = some (ty k)) (hcl : Cond.classLink own index C ∈ Ts) (hinst : Cond.instantiable C N ∈ Ts) (hini : Cond.initialized C ∈ Ts) (hfs : ∀ j, j < N → defaultValue (ty j) = vp_V fs j) (hcells : cells + 1 ≤ R.cells) (hslots : slots + N ≤ R.slots) (hdg : decode cc pc = .ok (.new index, 3))
    (k : ∀ q : Nat, GoC p l e R s m args below meth c nL D A Q (cells + 1) (slots + N) (ws ++ [(q, .inr (ci, fs))]) (pc + 3) lv (.ref q :: st)) : GoC p l e R s m args below meth c nL D A Q cells slots ws pc lv st :=
  fun H locs ls hP hD hS hl => va_new F.1.1 F.1.2.1 F.1.2.2.2.2 hin ty hty F.1.2.2.2.1 (F.1.2.2.2.2 _ hcl) (F.1.2.2.2.2 _ hinst) (F.1.2.2.2.2 _ hini) F.2.1.1 hP hD hS F.2.2 hc hfs hcells hslots hdg (fun q H1 hP1 hD1 hS1 => k q H1 locs ls hP1 hD1 hS1 hl)
theorem h_newi (F : Fc p m c cc nL s args Ts own D cs A) (harr : Cond.arrayClass .int ∈ Ts) {n : Int32} {N : Nat} (hn : ¬ n < 0) (hN : n.toNatClampNeg = N) (hbytes : N * componentBytes .int ≤ 536870912) (hcells : cells + 1 ≤ R.cells) (hslots : slots + N ≤ R.slots) (hdg : decode cc pc = .ok (.newarray .int, 2))
    (k : ∀ q : Nat, GoC p l e R s m args below meth c nL D A Q (cells + 1) (slots + N) (ws ++ [(q, rI cs N (fun _ => 0))]) (pc + 2) lv (.ref q :: st)) : GoC p l e R s m args below meth c nL D A Q cells slots ws pc lv (.int n :: st) := by
  intro H locs ls hP hD hS hl
  refine va_newa (atype := .int) (ty := .int) (a0 := (N, .inl (fun _ => 0))) F.1.1 F.1.2.1 (F.1.2.2.2.2 _ harr) rfl F.2.1.1 hP hD hS F.2.2 (fun _ => rfl) hn hN hbytes hcells hslots hdg (fun q cA H1 hK1 hP1 hD1 hS1 => ?_)
  have h1 := (hK1.2 4 _ rfl).2
  have h2 := (F.2.1.1.2 0 _ rfl).2
  obtain rfl : cA = cs.1 := Option.some.inj (h1.symm.trans h2)
  exact k q H1 locs ls hP1 hD1 hS1 hl
theorem h_newb (F : Fc p m c cc nL s args Ts own D cs A) (harr : Cond.arrayClass .byte ∈ Ts) {n : Int32} {N : Nat} (hn : ¬ n < 0) (hN : n.toNatClampNeg = N) (hbytes : N * componentBytes .byte ≤ 536870912) (hcells : cells + 1 ≤ R.cells) (hslots : slots + N ≤ R.slots) (hdg : decode cc pc = .ok (.newarray .byte, 2))
    (k : ∀ q : Nat, GoC p l e R s m args below meth c nL D A Q (cells + 1) (slots + N) (ws ++ [(q, rB cs N (fun _ => 0))]) (pc + 2) lv (.ref q :: st)) : GoC p l e R s m args below meth c nL D A Q cells slots ws pc lv (.int n :: st) := by
  intro H locs ls hP hD hS hl
  refine va_newa (atype := .byte) (ty := .byte) (a0 := (N, .inl (fun _ => 0))) F.1.1 F.1.2.1 (F.1.2.2.2.2 _ harr) rfl F.2.1.1 hP hD hS F.2.2 (fun _ => rfl) hn hN hbytes hcells hslots hdg (fun q cA H1 hK1 hP1 hD1 hS1 => ?_)
  have h1 := (hK1.2 4 _ rfl).2
  have h2 := (F.2.1.1.2 1 _ rfl).2
  obtain rfl : cA = cs.2.1 := Option.some.inj (h1.symm.trans h2)
  exact k q H1 locs ls hP1 hD1 hS1 hl
theorem h_newz (F : Fc p m c cc nL s args Ts own D cs A) (harr : Cond.arrayClass .boolean ∈ Ts) {n : Int32} {N : Nat} (hn : ¬ n < 0) (hN : n.toNatClampNeg = N) (hbytes : N * componentBytes .boolean ≤ 536870912) (hcells : cells + 1 ≤ R.cells) (hslots : slots + N ≤ R.slots) (hdg : decode cc pc = .ok (.newarray .boolean, 2))
    (k : ∀ q : Nat, GoC p l e R s m args below meth c nL D A Q (cells + 1) (slots + N) (ws ++ [(q, rZ cs N (fun _ => 0))]) (pc + 2) lv (.ref q :: st)) : GoC p l e R s m args below meth c nL D A Q cells slots ws pc lv (.int n :: st) := by
  intro H locs ls hP hD hS hl
  refine va_newa (atype := .boolean) (ty := .boolean) (a0 := (N, .inl (fun _ => 0))) F.1.1 F.1.2.1 (F.1.2.2.2.2 _ harr) rfl F.2.1.1 hP hD hS F.2.2 (fun _ => rfl) hn hN hbytes hcells hslots hdg (fun q cA H1 hK1 hP1 hD1 hS1 => ?_)
  have h1 := (hK1.2 4 _ rfl).2
  have h2 := (F.2.1.1.2 2 _ rfl).2
  obtain rfl : cA = cs.2.2.1 := Option.some.inj (h1.symm.trans h2)
  exact k q H1 locs ls hP1 hD1 hS1 hl
abbrev rP (cs : Cs) (f : Nat → Option Nat) : va_E := .inl (cs.2.2.2, 4, .inr (.inr (.inr (.inr f))))
theorem h_newq (F : Fc p m c cc nL s args Ts own D cs A) {index : Nat} (hcl : Cond.classLink own index "DoorLister$Program" ∈ Ts) (hcells : cells + 1 ≤ R.cells) (hslots : slots + 4 ≤ R.slots) (hdg : decode cc pc = .ok (.anewarray index, 3))
    (k : ∀ q : Nat, GoC p l e R s m args below meth c nL D A Q (cells + 1) (slots + 4) (ws ++ [(q, rP cs (fun _ => none))]) (pc + 3) lv (.ref q :: st)) : GoC p l e R s m args below meth c nL D A Q cells slots ws pc lv (.int 4 :: st) := by
  intro H locs ls hP hD hS hl
  refine va_newq (N' := 4) F.1.1 F.1.2.1 F.1.2.2.2.1 (F.1.2.2.2.2 _ hcl) F.2.1.2 F.2.1.1 hP hD hS F.2.2 (by decide) (by decide) (by decide) hcells hslots hdg (fun q cA H1 hK1 hP1 hD1 hS1 => ?_)
  obtain ⟨_, _, _, _, _, h1⟩ := (hK1.2 4 _ rfl).2
  obtain ⟨_, _, _, _, _, h2⟩ := (F.2.1.1.2 3 _ rfl).2
  obtain rfl : cA = cs.2.2.2 := Option.some.inj (h1.symm.trans h2)
  exact k q H1 locs ls hP1 hD1 hS1 hl
theorem h_aast (F : Fc p m c cc nL s args Ts own D cs A) {a v : Nat} {f : Nat → Option Nat} {vs : List Value} (q0 qk : Nat) (ha : ws[q0]? = some (a, rP cs f)) (hv : ws[qk]? = some (v, .inr (5, vs))) {i : Int32} (hin : ix i 4 = true) (ws' : va_W) (hw : ws.set q0 (a, rP cs (va_up f i.toNatClampNeg (some v))) = ws') (hdg : decode cc pc = .ok (.aastore, 1))
    (k : GoC p l e R s m args below meth c nL D A Q cells slots ws' (pc + 1) lv st) : GoC p l e R s m args below meth c nL D A Q cells slots ws pc lv (.ref v :: .int i :: .ref a :: st) := by
  intro H locs ls hP hD hS hl
  refine va_astq F.1.1 F.1.2.1 F.2.1.1 hP hD hS q0 3 qk 5 (r := (RX5, TX5, 3)) ha rfl hv rfl (ix_in hin) hdg (fun H1 locs1 hP1 hD1 hS1 => ?_)
  rw [hw] at hP1 hD1
  exact k H1 locs1 ls hP1 hD1 hS1 hl
theorem h_obj (F : Fc p m c cc nL s args Ts own D cs A) {index a : Nat} (hlink : Cond.methodLink own index objectInit ∈ Ts) (hinst : Cond.instanceMethod objectInit ∈ Ts) (hcode : Cond.code objectInit ⟨#[0xb1]⟩ 1 none ∈ Ts) (hdg : decode cc pc = .ok (.invokespecial index, 3)) (hfr : 1 ≤ R.frames) (hlo : 2 * 0 + (st.map fun v => v.category).sum + 12 ≤ R.locals) (k : GoC p l e R s m args below meth c nL D A Q cells slots ws (pc + 3) lv st) : GoC p l e R s m args below meth c nL D A Q cells slots ws pc lv (.ref a :: st) :=
  fun H locs ls hP hD hS hl => W.objInit F.1.1 F.1.2.1 F.1.2.2.2.1 (F.1.2.2.2.2 _ hlink) (F.1.2.2.2.2 _ hinst) (F.1.2.2.2.2 _ hcode) rfl (by rw [F.1.2.2.1]; exact hl.1) rfl hdg hfr hlo (k H locs ls hP hD hS hl)
end HC
abbrev w1 (h0 ci : Nat) (fs : List Value) : va_W := [(h0, .inr (ci, fs))]
def tPre (D : va_G) (cs : Cs) (avs : List Value) (h0 ci : Nat) (fs : List Value) (sz : Nat) : Array Value → State → Prop := va_Pc avs (fun U => U.heap.size = sz ∧ va_P D vwCl (w1 h0 ci fs) U.heap ∧ Kc D cs U ∧ va_D (fun _ => True) (w1 h0 ci fs))
def tPost (D : va_G) (h0 ci : Nat) (fs : List Value) (sz : Nat) (cl : (Nat → Nat) → va_W) : Array Value → State → Outcome → State → Prop := va_Qv (S := Nat → Nat) (fun _ => True) (fun u t => va_P D vwCl (cl u) t.heap ∧ va_D (va_A (w1 h0 ci fs) sz) (cl u)) (va_A (w1 h0 ci fs) sz)
def MC (l : Launch) (y : MethodName) (ws : List Cond) (rm : Room) (D : va_G) (cs : Cs) (avs : List Value) (h0 ci : Nat) (fs : List Value) (cl : (Nat → Nat) → va_W) (mc ms : Nat) : Prop := ∀ sz, Met l y ws rm (tPre D cs avs h0 ci fs sz) (tPost D h0 ci fs sz cl) mc ms (va_A (w1 h0 ci fs) sz)
theorem tPre_blind (D : va_G) (cs : Cs) (avs : List Value) (h0 ci : Nat) (fs : List Value) (sz : Nat) : FrameBlind (tPre D cs avs h0 ci fs sz) := by
  intro a U g mk h
  exact ⟨h.1, h.2.1, h.2.2.1, h.2.2.2.1.same rfl, h.2.2.2.2⟩
theorem MC.of {l : Launch} {y : MethodName} {ws ws' : List Cond} {rm : Room} {D : va_G} {cs : Cs} {avs : List Value} {h0 ci : Nat} {fs : List Value} {cl : (Nat → Nat) → va_W} {mc ms : Nat} {cc : ByteArray} {maxL : Nat} {lv : List (Nat × Value)} {own : String} (hy : plainName y.cls = true) (hw : ws = Cond.code y cc maxL none :: ws') (ho : y.cls = own) (hni : y.name = "<init>") (hlen : (lg_sl avs).length ≤ maxL) (hlv : lv_args 0 avs = lv)
    (body : ∀ (p : Program) (e : Env) (s : State) (m : MethodId) (below : List Frame) (meth : Method) (c : Code) (A : Nat → Prop), va_A (w1 h0 ci fs) s.heap.size = A → Fc p m c cc maxL s avs.toArray ws own D cs A → meth.name = "<init>" → meth.sig.returnType = none → meth.locks = false →
      GoC p l e rm s m avs.toArray below meth c maxL D A (MQ below (tPost D h0 ci fs s.heap.size cl) avs.toArray s mc ms A) 0 0 (w1 h0 ci fs) 0 lv []) : MC l y ws rm D cs avs h0 ci fs cl mc ms := by
  intro sz
  refine Met.ofW (cc := cc) (maxL := maxL) (ret := none) hy hw ?_
  intro p e s m args below meth c s₁ B hml hv
  obtain ⟨rfl, hsz, hP, hK, hD0⟩ := hv
  subst hsz
  have hts := atoms_spec (ws := ws) B.pre
  have hown : s.vm.findClass own = some m.cls := ho ▸ findClass_of_methodNamed B.named
  have hin : meth.name = "<init>" := (name_of_methodNamed B.named B.method).1.trans hni
  have hD := hD0.self (sz := s.heap.size)
  have hl := lv_entry avs (n := maxL) hlen
  rw [lg_entry_eq]
  generalize (lg_sl avs ++ List.replicate (maxL - (lg_sl avs).length) Slot.unset).toArray = ls at hl ⊢
  exact body p e s m below meth c _ rfl ⟨⟨B.exec, B.bytes, hml, hown, hts⟩, hK, fun q h => Or.inr h⟩ hin B.returns B.notSynchronized s.heap [] ls hP hD va_S.rf (hlv ▸ hl)
section HD
variable {p : Program} {l : Launch} {e : Env} {R : Room} {s : State} {m : MethodId} {args : Array Value} {below : List Frame} {meth : Method} {c : Code} {nL : Nat} {D : va_G} {cs : Cs} {A : Nat → Prop} {Q : State → Prop} {cells slots : Nat} {ws : va_W}
variable {cc : ByteArray} {Ts : List Cond} {own : String} {pc : Nat} {lv : List (Nat × Value)} {st st0 : List Value}
theorem h_vret (F : Fc p m c cc nL s args Ts own D cs A) {h0 ci : Nat} {fs : List Value} (hA : va_A (w1 h0 ci fs) s.heap.size = A) (hr : meth.sig.returnType = none) (hlk : meth.locks = false) (cl : (Nat → Nat) → va_W) (u : Nat → Nat) (is : List Nat) (hP2 : is.filterMap (fun i => ws[i]?) = cl u) (hD2 : is.map (fun i => ws[i]?) = (cl u).map some) (hnd : va_nd is = true) (hdg : decode cc pc = .ok (.return_, 1)) : GoC p l e R s m args below meth c nL D A (MQ below (tPost D h0 ci fs s.heap.size cl) args s cells slots A) cells slots ws pc lv [] := by
  intro H locs ls hP hD hS hl
  subst hA
  have hP9 := hP.sub is hP2
  have hD9 := hD.sub is hnd hD2
  exact W.vret F.1.1 F.1.2.1 hr (fun t ht hW => ⟨⟨u, rfl, trivial, (ht ▸ hP9 : va_P D vwCl (cl u) t.heap), hD9⟩, hS.F ht⟩) hS.2.2 hdg
theorem h_wid {k n : Nat} (h1 : cells ≤ k) (h2 : slots ≤ n) (kk : GoC p l e R s m args below meth c nL D A Q k n ws pc lv st) : GoC p l e R s m args below meth c nL D A Q cells slots ws pc lv st :=
  fun H locs ls hP hD hS hl => W.widen h1 h2 (kk H locs ls hP hD hS hl)
theorem h_init (F : Fc p m c cc nL s args Ts own D cs A) {y : MethodName} {wsy ws' : List Cond} {rm : Room} {bytes : ByteArray} {maxL n index mc ms a ci : Nat} {fs : List Value} {As : List Value} {cl : (Nat → Nat) → va_W} (hM : MC l y wsy rm D cs (.ref a :: As) a ci fs cl mc ms) (j : Nat) (isR : List Nat) (wr : va_W) (hC : ws[j]? = some (a, .inr (ci, fs))) (hR : isR.map (fun i => ws[i]?) = wr.map some) (hnd : va_nd isR = true) (hdis : isR.all (fun i => !(i == j)) = true)
    (hG : GoodIn Ts wsy) (hw : wsy = Cond.code y bytes maxL none :: ws') (hrc : rm.cells = mc) (hrs : rm.slots = ms) (hini : Cond.initialized y.cls ∈ Ts) (hlk : Cond.methodLink own index y ∈ Ts) (hinst : Cond.instanceMethod y ∈ Ts) (hni : y.name = "<init>") (hd : y.cls ≠ "java/lang/invoke/MethodHandle" ∧ y.cls ≠ "java/lang/invoke/VarHandle" ∧ (parseMethodDescriptor y.desc).map (fun d => d.parameters.length) = some n) (hRm : rm.frames + 1 ≤ R.frames ∧ 8 + (maxL + 11) + rm.locals ≤ R.locals)
    (hn : As.length = n) (hst : st0 = As.reverse ++ .ref a :: st) (hW : (st.map fun v => v.category).sum ≤ 8) (hdg : decode cc pc = .ok (.invokespecial index, 3)) (hf : cells + mc ≤ R.cells ∧ slots + ms ≤ R.slots)
    (k : ∀ u : Nat → Nat, GoC p l e R s m args below meth c nL D A Q (cells + mc) (slots + ms) (wr ++ cl u) (pc + 3) lv st) : GoC p l e R s m args below meth c nL D A Q cells slots ws pc lv st0 := by
  intro H locs ls hP hD hS hl
  have hC1 : [j].map (fun i => ws[i]?) = (w1 a ci fs).map some := by simp [hC]
  have hPc := hP.sub (ws' := w1 a ci fs) [j] (by simp [hC])
  have hDc := hD.sub (ws' := w1 a ci fs) [j] rfl hC1
  have hFc := va_free (wc := w1 a ci fs) hD hS F.2.2 [j] hC1
  refine va_callv (va_runI (As := As) (rest := st) F.1 (hM H.size) (cwI n F.1.2.2.2.2 hG hw hrc hrs (F.1.2.2.2.2 _ hini) (F.1.2.2.2.2 _ hlk) (F.1.2.2.2.2 _ hinst) hni hd hRm) ⟨tPre_blind D cs _ a ci fs H.size, fun U hU hW2 => ⟨rfl, by rw [hU], by rw [hU]; exact hPc, F.2.1.warm hW2, hDc.weaken (fun _ _ _ _ => trivial)⟩⟩ rfl hn hl.1 hst (lv_room hW) hdg hf) hS (fun q _ h => hFc q h) hFc (fun u t H1 locs1 ht hvm hw2 hB hz1 hk1 hS1 => ?_)
  obtain ⟨hP1, hD1⟩ := hB
  rw [ht] at hP1
  obtain ⟨hP2, hD2⟩ := va_join (wr := wr) (w1 := cl u) hP hD [j] isR hC1 hR hnd (fun i hi hj => by
    have h9 := List.all_eq_true.mp hdis i hi
    rw [List.mem_singleton.mp hj] at h9
    simp at h9) hk1 hFc hP1 hD1
  exact k u H1 locs1 ls hP2 hD2 hS1 hl
theorem h_refs {a : Nat} {f : Nat → Option Nat} (j : Nat) (he : ws[j]? = some (a, rP cs f)) (g : Nat → Option Nat) (hg : ∀ i, i < 4 → f i = g i) (ws' : va_W) (hw : ws.set j (a, rP cs g) = ws') (k : GoC p l e R s m args below meth c nL D A Q cells slots ws' pc lv st) : GoC p l e R s m args below meth c nL D A Q cells slots ws pc lv st := by
  intro H locs ls hP hD hS hl
  have h1 : va_at D vwCl (a, rP cs f) H := hP j _ he
  have h2 : va_at D vwCl (a, rP cs g) H := by
    have e1 : vp_cell cs.2.2.2 (4, .inr (.inr (.inr (.inr f)))) = vp_cell cs.2.2.2 (4, .inr (.inr (.inr (.inr g)))) := by
      show arrV cs.2.2.2 4 (fun j => va_rf (f j)) = arrV cs.2.2.2 4 (fun j => va_rf (g j))
      unfold arrV
      congr 1
      apply congrArg
      funext i
      show va_rf (f i.val) = va_rf (g i.val)
      rw [hg i.val i.isLt]
    show H[a]? = some (vp_cell cs.2.2.2 (4, .inr (.inr (.inr (.inr g)))))
    rw [← e1]
    exact h1
  have hP2 : va_P D vwCl ws' H := by
    subst hw
    intro i q hq
    rw [List.getElem?_set] at hq
    split at hq
    · split at hq
      · cases hq; exact h2
      · cases hq
    · exact hP i q hq
  have hD2 : va_D A ws' := by
    subst hw
    exact hD.set he
  exact k H locs ls hP2 hD2 hS hl
end HD
