/-! Written by wip/whole/gen.py: pure functions of methods, and the walks that tie the bytecode to them. -/
-- J7_fill_53178
def rmJ7_fill_53178 : Room := { frames := 0, cells := 0, slots := 0, locals := 0 }
def f_J7_fill_53178_L5 (q0 : Nat) (w0 : Nat) (x1 : Int32) (x3 : Int32) (k : Mem → Int32 → Option (Int32 × Mem)) : Nat → Mem → Int32 → Option (Int32 × Mem)
  | 0, _, _ => none
  | n + 1, M, x2 => if x3 ≤ x2 then k M x2 else if ix x2 w0 then wr M (q0) x2.toNatClampNeg x1 (fun M2 => f_J7_fill_53178_L5 q0 w0 x1 x3 k n M2 (x2 + 1)) else none
def f_J7_fill_53178 (fu : Nat) (k0 : Nat) (n0 : Nat) (a1 : Int32) (M : Mem) : Option (Int32 × Mem) := nm (Int32.ofNat n0) (fun v1 => f_J7_fill_53178_L5 k0 n0 a1 v1 (fun M3 y4 => some (0, M3)) fu M 0)
set_option maxHeartbeats 4000000 in
set_option maxRecDepth 100000 in
theorem w_J7_fill_53178_L5 {p : Program} {l : Launch} {e : Env} {s : State} {m : MethodId} {args : Array Value} {below : List Frame} {meth : Method} {c : Code} {D : va_G} {ad : Nat → Nat} {cs : Cs}  (q0 : Nat) (w0 : Nat) (x1 : Int32) (x3 : Int32) (hq0 : q0 < NN) (hs0 : ∀ f, clf ad cs q0 f = rI cs w0 f) (F : Fx p m c cJ7_fill_53178 4 s args wsJ7_fill_53178 RJ7 D ad cs (Ad ad)) (hr : meth.sig.returnType = none) (hlk : meth.locks = false) (k : Mem → Int32 → Option (Int32 × Mem)) (hkx : ∀ (M : Mem) (x2 : Int32), GoX p l e rmJ7_fill_53178 s m args below meth c 0 0 4 (fun rM => MQ below (cQv D ad cs rM) args s 0 0 (Ad ad)) D ad cs (Ad ad) M 20 [(0, .ref (ad (q0))), (1, .int x1), (2, .int x2), (3, .int x3)] [] (k M x2)) : ∀ (n : Nat) (M : Mem) (x2 : Int32), GoX p l e rmJ7_fill_53178 s m args below meth c 0 0 4 (fun rM => MQ below (cQv D ad cs rM) args s 0 0 (Ad ad)) D ad cs (Ad ad) M 5 [(0, .ref (ad (q0))), (1, .int x1), (2, .int x2), (3, .int x3)] [] (f_J7_fill_53178_L5 q0 w0 x1 x3 k n M x2) := by
  intro n
  induction n with
  | zero => intro M x2; exact g_none
  | succ n ih =>
    intro M x2
    unfold f_J7_fill_53178_L5
    refine g_iload_n (pc := 5) F 2 dJ7_fill_53178_5 rfl ?_
    refine g_iload_n (pc := 6) F 3 dJ7_fill_53178_6 rfl ?_
    refine g_icmp_ge (pc := 7) F 20 dJ7_fill_53178_7 (by decide) ?_ ?_
    · exact hkx _ _
    · refine g_aload_n (pc := 10) F 0 dJ7_fill_53178_10 rfl ?_
      refine g_iload_n (pc := 11) F 2 dJ7_fill_53178_11 rfl ?_
      refine g_iload_n (pc := 12) F 1 dJ7_fill_53178_12 rfl ?_
      refine g_iast (pc := 13) (k := q0) (n := w0) F hq0 hs0 dJ7_fill_53178_13 (fun M2 => ?_)
      refine g_iinc (pc := 14) (v := x2 + 1) F [(0, .ref (ad (q0))), (1, .int x1), (2, .int (x2 + 1)), (3, .int x3)] 2 dJ7_fill_53178_14 rfl rfl (by decide) rfl rfl rfl ?_
      refine g_goto (pc := 17) F 5 dJ7_fill_53178_17 (by decide) ?_
      exact ih _ _
set_option maxHeartbeats 4000000 in
set_option maxRecDepth 100000 in
theorem c_J7_fill_53178 (l : Launch) (D : va_G) (ad : Nat → Nat) (cs : Cs) (hi : Inj ad) (fu : Nat) (k0 : Nat) (n0 : Nat) (a1 : Int32) (h0 : k0 < NN) (s0 : ∀ f, clf ad cs k0 f = rI cs n0 f) (M : Mem) : MV l yJ7_fill_53178 wsJ7_fill_53178 rmJ7_fill_53178 D ad cs [.ref (ad (k0)), .int a1] M (f_J7_fill_53178 fu k0 n0 a1 M) := by
  refine Mx.of (cc := cJ7_fill_53178) (maxL := 4) (ret := none) (own := RJ7) (lv := [(0, .ref (ad (k0))), (1, .int a1)]) (by decide) rfl rfl (Nat.le_of_ble_eq_true rfl) rfl hi ?_
  intro p e s m below meth c F hr hlk
  unfold f_J7_fill_53178
  refine g_iconst (pc := 0) (v := 0) F dJ7_fill_53178_0 (by decide) ?_
  refine g_istore_n (pc := 1) F [(0, .ref (ad (k0))), (1, .int a1), (2, .int 0)] dJ7_fill_53178_1 (by decide) rfl rfl rfl ?_
  refine g_aload_n (pc := 2) F 0 dJ7_fill_53178_2 rfl ?_
  refine g_alen (pc := 3) (k := k0) (n := n0) (v := Int32.ofNat n0) F h0 s0 rfl dJ7_fill_53178_3 ?_
  refine g_nm (fun v1 => ?_)
  refine g_istore_n (pc := 4) F [(0, .ref (ad (k0))), (1, .int a1), (2, .int 0), (3, .int v1)] dJ7_fill_53178_4 (by decide) rfl rfl rfl ?_
  refine w_J7_fill_53178_L5 k0 n0 a1 v1 h0 s0 F hr hlk _ (fun M3 y4 => ?_) _ _ _
  exact g_vret (pc := 20) F hr hlk dJ7_fill_53178_20
-- X0_clear
def rmX0_clear : Room := { frames := 1, cells := 0, slots := 0, locals := 23 }
def f_X0_clear (fu : Nat) (kt : Nat) (M : Mem) : Option (Int32 × Mem) := bnd (f_J7_fill_53178 fu (kt + 1) 64 0 M) (fun r1 M2 => some (0, M2))
set_option maxRecDepth 20000 in
theorem kiX0_clear_X0 : ∀ w ∈ u_ws RX0 TX0 1, w ∈ wsX0_clear := by decide +kernel
set_option maxRecDepth 20000 in
theorem klX0_clear_9 : Cond.fieldLink RX0 9 "DoorLister$CallTable" "rows" "[I" ∈ wsX0_clear := by decide +kernel
set_option maxHeartbeats 4000000 in
set_option maxRecDepth 100000 in
theorem c_X0_clear (l : Launch) (D : va_G) (ad : Nat → Nat) (cs : Cs) (hi : Inj ad) (fu : Nat) (kt : Nat) (hkt : Tab kt) (M : Mem) : MV l yX0_clear wsX0_clear rmX0_clear D ad cs [.ref (ad (kt))] M (f_X0_clear fu kt M) := by
  refine Mx.of (cc := cX0_clear) (maxL := 1) (ret := none) (own := RX0) (lv := [(0, .ref (ad (kt)))]) (by decide) rfl rfl (Nat.le_of_ble_eq_true rfl) rfl hi ?_
  intro p e s m below meth c F hr hlk
  unfold f_X0_clear
  refine g_aload_n (pc := 0) F 0 dX0_clear_0 rfl ?_
  refine g_get (pc := 1) (v := .ref (ad (kt + 1))) (k := kt) (ci := 0) (fs := (oX0 ad (kt))) (C := RX0) (T := TX0) (N := 1) F (tab_lt hkt) (sh_X0 hkt) rfl kiX0_clear_X0 0 (by decide) klX0_clear_9 rfl rfl dX0_clear_1 ?_
  refine g_iconst (pc := 4) (v := 0) F dX0_clear_4 (by decide) ?_
  refine g_sv (pc := 5) (As := [.ref (ad (kt + 1)), .int 0]) (st := []) F (c_J7_fill_53178 l D ad cs F.2.2.1 fu (kt + 1) 64 0 (tab_lt1 hkt) (sh_rows hkt) M) (va_cwS 2 F.1.2.2.2.2 gX0_clear_J7_fill_53178 rfl rfl rfl hdS_J7_fill_53178 ⟨by decide, by decide⟩) rfl rfl (Nat.le_of_ble_eq_true rfl) dX0_clear_5 ⟨Nat.zero_le _, Nat.zero_le _⟩ (fun r1 M2 => ?_)
  exact g_vret (pc := 8) F hr hlk dX0_clear_8
-- X0_arguments
def rmX0_arguments : Room := { frames := 0, cells := 0, slots := 0, locals := 0 }
def f_X0_arguments (kt : Nat) (a1 : Int32) (a2 : Int32) (M : Mem) : Option (Int32 × Mem) := nm ((a1 * (32 : Int32)) + a2) (fun v1 => if ix v1 64 then some (M (kt + 1) v1.toNatClampNeg, M) else none)
set_option maxRecDepth 20000 in
theorem kiX0_arguments_X0 : ∀ w ∈ u_ws RX0 TX0 1, w ∈ wsX0_arguments := by decide +kernel
set_option maxRecDepth 20000 in
theorem klX0_arguments_9 : Cond.fieldLink RX0 9 "DoorLister$CallTable" "rows" "[I" ∈ wsX0_arguments := by decide +kernel
set_option maxHeartbeats 4000000 in
set_option maxRecDepth 100000 in
theorem c_X0_arguments (l : Launch) (D : va_G) (ad : Nat → Nat) (cs : Cs) (hi : Inj ad) (kt : Nat) (a1 : Int32) (a2 : Int32) (hkt : Tab kt) (M : Mem) : MI l yX0_arguments wsX0_arguments rmX0_arguments D ad cs [.ref (ad (kt)), .int a1, .int a2] M (f_X0_arguments kt a1 a2 M) := by
  refine Mx.of (cc := cX0_arguments) (maxL := 3) (ret := (some .int)) (own := RX0) (lv := [(0, .ref (ad (kt))), (1, .int a1), (2, .int a2)]) (by decide) rfl rfl (Nat.le_of_ble_eq_true rfl) rfl hi ?_
  intro p e s m below meth c F hr hlk
  unfold f_X0_arguments
  refine g_aload_n (pc := 0) F 0 dX0_arguments_0 rfl ?_
  refine g_get (pc := 1) (v := .ref (ad (kt + 1))) (k := kt) (ci := 0) (fs := (oX0 ad (kt))) (C := RX0) (T := TX0) (N := 1) F (tab_lt hkt) (sh_X0 hkt) rfl kiX0_arguments_X0 0 (by decide) klX0_arguments_9 rfl rfl dX0_arguments_1 ?_
  refine g_iload_n (pc := 4) F 1 dX0_arguments_4 rfl ?_
  refine g_bipush (pc := 5) (v := 32) F dX0_arguments_5 (by decide) ?_
  refine g_imul (pc := 7) F dX0_arguments_7 ?_
  refine g_iload_n (pc := 8) F 2 dX0_arguments_8 rfl ?_
  refine g_iadd (pc := 9) F dX0_arguments_9 ?_
  refine g_nm (fun v1 => ?_)
  refine g_iald (pc := 10) (k := kt + 1) (n := 64) F (tab_lt1 hkt) (sh_rows hkt) dX0_arguments_10 ?_
  exact g_iret (pc := 11) F hr hlk dX0_arguments_11
-- X0_add
def rmX0_add : Room := { frames := 0, cells := 0, slots := 0, locals := 0 }
def f_X0_add (kt : Nat) (a1 : Int32) (a2 : Int32) (a3 : Int32) (M : Mem) : Option (Int32 × Mem) := nm ((a1 * (32 : Int32)) + a2) (fun v1 => if ix v1 64 then if ix v1 64 then wr M (kt + 1) v1.toNatClampNeg ((M (kt + 1) v1.toNatClampNeg) ||| a3) (fun M2 => some (0, M2)) else none else none)
set_option maxRecDepth 20000 in
theorem kiX0_add_X0 : ∀ w ∈ u_ws RX0 TX0 1, w ∈ wsX0_add := by decide +kernel
set_option maxRecDepth 20000 in
theorem klX0_add_9 : Cond.fieldLink RX0 9 "DoorLister$CallTable" "rows" "[I" ∈ wsX0_add := by decide +kernel
set_option maxHeartbeats 4000000 in
set_option maxRecDepth 100000 in
theorem c_X0_add (l : Launch) (D : va_G) (ad : Nat → Nat) (cs : Cs) (hi : Inj ad) (kt : Nat) (a1 : Int32) (a2 : Int32) (a3 : Int32) (hkt : Tab kt) (M : Mem) : MV l yX0_add wsX0_add rmX0_add D ad cs [.ref (ad (kt)), .int a1, .int a2, .int a3] M (f_X0_add kt a1 a2 a3 M) := by
  refine Mx.of (cc := cX0_add) (maxL := 4) (ret := none) (own := RX0) (lv := [(0, .ref (ad (kt))), (1, .int a1), (2, .int a2), (3, .int a3)]) (by decide) rfl rfl (Nat.le_of_ble_eq_true rfl) rfl hi ?_
  intro p e s m below meth c F hr hlk
  unfold f_X0_add
  refine g_aload_n (pc := 0) F 0 dX0_add_0 rfl ?_
  refine g_get (pc := 1) (v := .ref (ad (kt + 1))) (k := kt) (ci := 0) (fs := (oX0 ad (kt))) (C := RX0) (T := TX0) (N := 1) F (tab_lt hkt) (sh_X0 hkt) rfl kiX0_add_X0 0 (by decide) klX0_add_9 rfl rfl dX0_add_1 ?_
  refine g_iload_n (pc := 4) F 1 dX0_add_4 rfl ?_
  refine g_bipush (pc := 5) (v := 32) F dX0_add_5 (by decide) ?_
  refine g_imul (pc := 7) F dX0_add_7 ?_
  refine g_iload_n (pc := 8) F 2 dX0_add_8 rfl ?_
  refine g_iadd (pc := 9) F dX0_add_9 ?_
  refine g_nm (fun v1 => ?_)
  refine g_dup2 (pc := 10) F rfl rfl dX0_add_10 ?_
  refine g_iald (pc := 11) (k := kt + 1) (n := 64) F (tab_lt1 hkt) (sh_rows hkt) dX0_add_11 ?_
  refine g_iload_n (pc := 12) F 3 dX0_add_12 rfl ?_
  refine g_ior (pc := 13) F dX0_add_13 ?_
  refine g_iast (pc := 14) (k := kt + 1) (n := 64) F (tab_lt1 hkt) (sh_rows hkt) dX0_add_14 (fun M2 => ?_)
  exact g_vret (pc := 15) F hr hlk dX0_add_15
-- X0_addTo
def rmX0_addTo : Room := { frames := 1, cells := 0, slots := 0, locals := 22 }
def f_X0_addTo_L2 (q0 : Nat) (q1 : Nat) (x2 : Int32) (k : Mem → Int32 → Option (Int32 × Mem)) : Nat → Mem → Int32 → Option (Int32 × Mem)
  | 0, _, _ => none
  | n + 1, M, x3 => if 32 ≤ x3 then k M x3 else if 32 ≤ x3 then k M x3 else if ix x3 32 then bnd (f_X0_arguments q0 x2 x3 M) (fun r1 M2 => if ix x3 32 then wr M2 (q1) x3.toNatClampNeg ((M (q1) x3.toNatClampNeg) ||| r1) (fun M3 => f_X0_addTo_L2 q0 q1 x2 k n M3 (x3 + 1)) else none) else none
def f_X0_addTo (fu : Nat) (kt : Nat) (k1 : Nat) (a2 : Int32) (M : Mem) : Option (Int32 × Mem) := f_X0_addTo_L2 kt k1 a2 (fun M4 y5 => some (0, M4)) fu M 0
set_option maxHeartbeats 4000000 in
set_option maxRecDepth 100000 in
theorem w_X0_addTo_L2 {p : Program} {l : Launch} {e : Env} {s : State} {m : MethodId} {args : Array Value} {below : List Frame} {meth : Method} {c : Code} {D : va_G} {ad : Nat → Nat} {cs : Cs}  (q0 : Nat) (q1 : Nat) (x2 : Int32) (hq0 : Tab q0) (hq1 : Row q1) (F : Fx p m c cX0_addTo 4 s args wsX0_addTo RX0 D ad cs (Ad ad)) (hr : meth.sig.returnType = none) (hlk : meth.locks = false) (k : Mem → Int32 → Option (Int32 × Mem)) (hkx : ∀ (M : Mem) (x3 : Int32), GoX p l e rmX0_addTo s m args below meth c 0 0 4 (fun rM => MQ below (cQv D ad cs rM) args s 0 0 (Ad ad)) D ad cs (Ad ad) M 32 [(0, .ref (ad (q0))), (1, .ref (ad (q1))), (2, .int x2), (3, .int x3)] [] (k M x3)) : ∀ (n : Nat) (M : Mem) (x3 : Int32), GoX p l e rmX0_addTo s m args below meth c 0 0 4 (fun rM => MQ below (cQv D ad cs rM) args s 0 0 (Ad ad)) D ad cs (Ad ad) M 2 [(0, .ref (ad (q0))), (1, .ref (ad (q1))), (2, .int x2), (3, .int x3)] [] (f_X0_addTo_L2 q0 q1 x2 k n M x3) := by
  intro n
  induction n with
  | zero => intro M x3; exact g_none
  | succ n ih =>
    intro M x3
    unfold f_X0_addTo_L2
    refine g_iload_n (pc := 2) F 3 dX0_addTo_2 rfl ?_
    refine g_bipush (pc := 3) (v := 32) F dX0_addTo_3 (by decide) ?_
    refine g_icmp_ge (pc := 5) F 32 dX0_addTo_5 (by decide) ?_ ?_
    · exact hkx _ _
    · refine g_iload_n (pc := 8) F 3 dX0_addTo_8 rfl ?_
      refine g_aload_n (pc := 9) F 1 dX0_addTo_9 rfl ?_
      refine g_alen (pc := 10) (k := q1) (n := 32) (v := 32) F (row_lt hq1) (sh_row hq1) rfl dX0_addTo_10 ?_
      refine g_icmp_ge (pc := 11) F 32 dX0_addTo_11 (by decide) ?_ ?_
      · exact hkx _ _
      · refine g_aload_n (pc := 14) F 1 dX0_addTo_14 rfl ?_
        refine g_iload_n (pc := 15) F 3 dX0_addTo_15 rfl ?_
        refine g_dup2 (pc := 16) F rfl rfl dX0_addTo_16 ?_
        refine g_iald (pc := 17) (k := q1) (n := 32) F (row_lt hq1) (sh_row hq1) dX0_addTo_17 ?_
        refine g_aload_n (pc := 18) F 0 dX0_addTo_18 rfl ?_
        refine g_iload_n (pc := 19) F 2 dX0_addTo_19 rfl ?_
        refine g_iload_n (pc := 20) F 3 dX0_addTo_20 rfl ?_
        refine g_vi (pc := 21) (k := q0) (ci := 0) (fs := (oX0 ad (q0))) (C := RX0) (T := TX0) (N := 1) (As := [.int x2, .int x3]) (st := [.int (M (q1) x3.toNatClampNeg), .int x3, .ref (ad (q1))]) F (c_X0_arguments l D ad cs F.2.2.1 q0 x2 x3 hq0 M) (tab_lt hq0) (sh_X0 hq0) rfl (cwV 2 F.1.2.2.2.2 gX0_addTo_X0_arguments rfl rfl rfl hdV_X0_arguments ⟨by decide, by decide⟩) rfl rfl (Nat.le_of_ble_eq_true rfl) dX0_addTo_21 ⟨Nat.zero_le _, Nat.zero_le _⟩ (fun r1 M2 => ?_)
        refine g_ior (pc := 24) F dX0_addTo_24 ?_
        refine g_iast (pc := 25) (k := q1) (n := 32) F (row_lt hq1) (sh_row hq1) dX0_addTo_25 (fun M3 => ?_)
        refine g_iinc (pc := 26) (v := x3 + 1) F [(0, .ref (ad (q0))), (1, .ref (ad (q1))), (2, .int x2), (3, .int (x3 + 1))] 3 dX0_addTo_26 rfl rfl (by decide) rfl rfl rfl ?_
        refine g_goto (pc := 29) F 2 dX0_addTo_29 (by decide) ?_
        exact ih _ _
set_option maxHeartbeats 4000000 in
set_option maxRecDepth 100000 in
theorem c_X0_addTo (l : Launch) (D : va_G) (ad : Nat → Nat) (cs : Cs) (hi : Inj ad) (fu : Nat) (kt : Nat) (k1 : Nat) (a2 : Int32) (hkt : Tab kt) (h1 : Row k1) (M : Mem) : MV l yX0_addTo wsX0_addTo rmX0_addTo D ad cs [.ref (ad (kt)), .ref (ad (k1)), .int a2] M (f_X0_addTo fu kt k1 a2 M) := by
  refine Mx.of (cc := cX0_addTo) (maxL := 4) (ret := none) (own := RX0) (lv := [(0, .ref (ad (kt))), (1, .ref (ad (k1))), (2, .int a2)]) (by decide) rfl rfl (Nat.le_of_ble_eq_true rfl) rfl hi ?_
  intro p e s m below meth c F hr hlk
  unfold f_X0_addTo
  refine g_iconst (pc := 0) (v := 0) F dX0_addTo_0 (by decide) ?_
  refine g_istore_n (pc := 1) F [(0, .ref (ad (kt))), (1, .ref (ad (k1))), (2, .int a2), (3, .int 0)] dX0_addTo_1 (by decide) rfl rfl rfl ?_
  refine w_X0_addTo_L2 kt k1 a2 hkt h1 F hr hlk _ (fun M4 y5 => ?_) _ _ _
  exact g_vret (pc := 32) F hr hlk dX0_addTo_32
-- J6_bitCount_0f7a4
def rmJ6_bitCount_0f7a4 : Room := { frames := 0, cells := 0, slots := 0, locals := 0 }
def f_J6_bitCount_0f7a4 (a0 : Int32) (M : Mem) : Option (Int32 × Mem) := nm (a0 - ((usr a0 (1 : Int32)) &&& (1431655765 : Int32))) (fun v1 => nm ((v1 &&& (858993459 : Int32)) + ((usr v1 (2 : Int32)) &&& (858993459 : Int32))) (fun v2 => nm ((v2 + (usr v2 (4 : Int32))) &&& (252645135 : Int32)) (fun v3 => nm (v3 + (usr v3 (8 : Int32))) (fun v4 => nm (v4 + (usr v4 (16 : Int32))) (fun v5 => some (v5 &&& (63 : Int32), M))))))
set_option maxRecDepth 20000 in
theorem kwJ6_bitCount_0f7a4_c265 : Cond.constant RJ6 265 1431655765 ∈ wsJ6_bitCount_0f7a4 := by decide +kernel
set_option maxRecDepth 20000 in
theorem kwJ6_bitCount_0f7a4_c266 : Cond.constant RJ6 266 858993459 ∈ wsJ6_bitCount_0f7a4 := by decide +kernel
set_option maxRecDepth 20000 in
theorem kwJ6_bitCount_0f7a4_c267 : Cond.constant RJ6 267 252645135 ∈ wsJ6_bitCount_0f7a4 := by decide +kernel
set_option maxHeartbeats 4000000 in
set_option maxRecDepth 100000 in
theorem c_J6_bitCount_0f7a4 (l : Launch) (D : va_G) (ad : Nat → Nat) (cs : Cs) (hi : Inj ad) (a0 : Int32) (M : Mem) : MI l yJ6_bitCount_0f7a4 wsJ6_bitCount_0f7a4 rmJ6_bitCount_0f7a4 D ad cs [.int a0] M (f_J6_bitCount_0f7a4 a0 M) := by
  refine Mx.of (cc := cJ6_bitCount_0f7a4) (maxL := 1) (ret := (some .int)) (own := RJ6) (lv := [(0, .int a0)]) (by decide) rfl rfl (Nat.le_of_ble_eq_true rfl) rfl hi ?_
  intro p e s m below meth c F hr hlk
  unfold f_J6_bitCount_0f7a4
  refine g_iload_n (pc := 0) F 0 dJ6_bitCount_0f7a4_0 rfl ?_
  refine g_iload_n (pc := 1) F 0 dJ6_bitCount_0f7a4_1 rfl ?_
  refine g_iconst (pc := 2) (v := 1) F dJ6_bitCount_0f7a4_2 (by decide) ?_
  refine g_iushr (pc := 3) F dJ6_bitCount_0f7a4_3 ?_
  refine g_ldcw (pc := 4) (v := 1431655765) F kwJ6_bitCount_0f7a4_c265 dJ6_bitCount_0f7a4_4 ?_
  refine g_iand (pc := 7) F dJ6_bitCount_0f7a4_7 ?_
  refine g_isub (pc := 8) F dJ6_bitCount_0f7a4_8 ?_
  refine g_nm (fun v1 => ?_)
  refine g_istore_n (pc := 9) F [(0, .int v1)] dJ6_bitCount_0f7a4_9 (by decide) rfl rfl rfl ?_
  refine g_iload_n (pc := 10) F 0 dJ6_bitCount_0f7a4_10 rfl ?_
  refine g_ldcw (pc := 11) (v := 858993459) F kwJ6_bitCount_0f7a4_c266 dJ6_bitCount_0f7a4_11 ?_
  refine g_iand (pc := 14) F dJ6_bitCount_0f7a4_14 ?_
  refine g_iload_n (pc := 15) F 0 dJ6_bitCount_0f7a4_15 rfl ?_
  refine g_iconst (pc := 16) (v := 2) F dJ6_bitCount_0f7a4_16 (by decide) ?_
  refine g_iushr (pc := 17) F dJ6_bitCount_0f7a4_17 ?_
  refine g_ldcw (pc := 18) (v := 858993459) F kwJ6_bitCount_0f7a4_c266 dJ6_bitCount_0f7a4_18 ?_
  refine g_iand (pc := 21) F dJ6_bitCount_0f7a4_21 ?_
  refine g_iadd (pc := 22) F dJ6_bitCount_0f7a4_22 ?_
  refine g_nm (fun v2 => ?_)
  refine g_istore_n (pc := 23) F [(0, .int v2)] dJ6_bitCount_0f7a4_23 (by decide) rfl rfl rfl ?_
  refine g_iload_n (pc := 24) F 0 dJ6_bitCount_0f7a4_24 rfl ?_
  refine g_iload_n (pc := 25) F 0 dJ6_bitCount_0f7a4_25 rfl ?_
  refine g_iconst (pc := 26) (v := 4) F dJ6_bitCount_0f7a4_26 (by decide) ?_
  refine g_iushr (pc := 27) F dJ6_bitCount_0f7a4_27 ?_
  refine g_iadd (pc := 28) F dJ6_bitCount_0f7a4_28 ?_
  refine g_ldcw (pc := 29) (v := 252645135) F kwJ6_bitCount_0f7a4_c267 dJ6_bitCount_0f7a4_29 ?_
  refine g_iand (pc := 32) F dJ6_bitCount_0f7a4_32 ?_
  refine g_nm (fun v3 => ?_)
  refine g_istore_n (pc := 33) F [(0, .int v3)] dJ6_bitCount_0f7a4_33 (by decide) rfl rfl rfl ?_
  refine g_iload_n (pc := 34) F 0 dJ6_bitCount_0f7a4_34 rfl ?_
  refine g_iload_n (pc := 35) F 0 dJ6_bitCount_0f7a4_35 rfl ?_
  refine g_bipush (pc := 36) (v := 8) F dJ6_bitCount_0f7a4_36 (by decide) ?_
  refine g_iushr (pc := 38) F dJ6_bitCount_0f7a4_38 ?_
  refine g_iadd (pc := 39) F dJ6_bitCount_0f7a4_39 ?_
  refine g_nm (fun v4 => ?_)
  refine g_istore_n (pc := 40) F [(0, .int v4)] dJ6_bitCount_0f7a4_40 (by decide) rfl rfl rfl ?_
  refine g_iload_n (pc := 41) F 0 dJ6_bitCount_0f7a4_41 rfl ?_
  refine g_iload_n (pc := 42) F 0 dJ6_bitCount_0f7a4_42 rfl ?_
  refine g_bipush (pc := 43) (v := 16) F dJ6_bitCount_0f7a4_43 (by decide) ?_
  refine g_iushr (pc := 45) F dJ6_bitCount_0f7a4_45 ?_
  refine g_iadd (pc := 46) F dJ6_bitCount_0f7a4_46 ?_
  refine g_nm (fun v5 => ?_)
  refine g_istore_n (pc := 47) F [(0, .int v5)] dJ6_bitCount_0f7a4_47 (by decide) rfl rfl rfl ?_
  refine g_iload_n (pc := 48) F 0 dJ6_bitCount_0f7a4_48 rfl ?_
  refine g_bipush (pc := 49) (v := 63) F dJ6_bitCount_0f7a4_49 (by decide) ?_
  refine g_iand (pc := 51) F dJ6_bitCount_0f7a4_51 ?_
  exact g_iret (pc := 52) F hr hlk dJ6_bitCount_0f7a4_52
-- X0_callsIn
def rmX0_callsIn : Room := { frames := 1, cells := 0, slots := 0, locals := 22 }
def f_X0_callsIn_L4 (q0 : Nat) (x1 : Int32) (k : Mem → Int32 → Int32 → Option (Int32 × Mem)) : Nat → Mem → Int32 → Int32 → Option (Int32 × Mem)
  | 0, _, _, _ => none
  | n + 1, M, x2, x3 => if 32 ≤ x3 then k M x2 x3 else bnd (f_X0_arguments q0 x1 x3 M) (fun r1 M2 => bnd (f_J6_bitCount_0f7a4 r1 M2) (fun r3 M4 => nm (x2 + r3) (fun v5 => f_X0_callsIn_L4 q0 x1 k n M4 v5 (x3 + 1))))
def f_X0_callsIn (fu : Nat) (kt : Nat) (a1 : Int32) (M : Mem) : Option (Int32 × Mem) := f_X0_callsIn_L4 kt a1 (fun M6 y7 y8 => some (y7, M6)) fu M 0 0
set_option maxHeartbeats 4000000 in
set_option maxRecDepth 100000 in
theorem w_X0_callsIn_L4 {p : Program} {l : Launch} {e : Env} {s : State} {m : MethodId} {args : Array Value} {below : List Frame} {meth : Method} {c : Code} {D : va_G} {ad : Nat → Nat} {cs : Cs}  (q0 : Nat) (x1 : Int32) (hq0 : Tab q0) (F : Fx p m c cX0_callsIn 4 s args wsX0_callsIn RX0 D ad cs (Ad ad)) (hr : meth.sig.returnType = (some .int)) (hlk : meth.locks = false) (k : Mem → Int32 → Int32 → Option (Int32 × Mem)) (hkx : ∀ (M : Mem) (x2 x3 : Int32), GoX p l e rmX0_callsIn s m args below meth c 0 0 4 (fun rM => MQ below (cQi D ad cs rM) args s 0 0 (Ad ad)) D ad cs (Ad ad) M 28 [(0, .ref (ad (q0))), (1, .int x1), (2, .int x2), (3, .int x3)] [] (k M x2 x3)) : ∀ (n : Nat) (M : Mem) (x2 x3 : Int32), GoX p l e rmX0_callsIn s m args below meth c 0 0 4 (fun rM => MQ below (cQi D ad cs rM) args s 0 0 (Ad ad)) D ad cs (Ad ad) M 4 [(0, .ref (ad (q0))), (1, .int x1), (2, .int x2), (3, .int x3)] [] (f_X0_callsIn_L4 q0 x1 k n M x2 x3) := by
  intro n
  induction n with
  | zero => intro M x2 x3; exact g_none
  | succ n ih =>
    intro M x2 x3
    unfold f_X0_callsIn_L4
    refine g_iload_n (pc := 4) F 3 dX0_callsIn_4 rfl ?_
    refine g_bipush (pc := 5) (v := 32) F dX0_callsIn_5 (by decide) ?_
    refine g_icmp_ge (pc := 7) F 28 dX0_callsIn_7 (by decide) ?_ ?_
    · exact hkx _ _ _
    · refine g_iload_n (pc := 10) F 2 dX0_callsIn_10 rfl ?_
      refine g_aload_n (pc := 11) F 0 dX0_callsIn_11 rfl ?_
      refine g_iload_n (pc := 12) F 1 dX0_callsIn_12 rfl ?_
      refine g_iload_n (pc := 13) F 3 dX0_callsIn_13 rfl ?_
      refine g_vi (pc := 14) (k := q0) (ci := 0) (fs := (oX0 ad (q0))) (C := RX0) (T := TX0) (N := 1) (As := [.int x1, .int x3]) (st := [.int x2]) F (c_X0_arguments l D ad cs F.2.2.1 q0 x1 x3 hq0 M) (tab_lt hq0) (sh_X0 hq0) rfl (cwV 2 F.1.2.2.2.2 gX0_callsIn_X0_arguments rfl rfl rfl hdV_X0_arguments ⟨by decide, by decide⟩) rfl rfl (Nat.le_of_ble_eq_true rfl) dX0_callsIn_14 ⟨Nat.zero_le _, Nat.zero_le _⟩ (fun r1 M2 => ?_)
      refine g_si (pc := 17) (As := [.int r1]) (st := [.int x2]) F (c_J6_bitCount_0f7a4 l D ad cs F.2.2.1 r1 M2) (va_cwS 1 F.1.2.2.2.2 gX0_callsIn_J6_bitCount_0f7a4 rfl rfl rfl hdS_J6_bitCount_0f7a4 ⟨by decide, by decide⟩) rfl rfl (Nat.le_of_ble_eq_true rfl) dX0_callsIn_17 ⟨Nat.zero_le _, Nat.zero_le _⟩ (fun r3 M4 => ?_)
      refine g_iadd (pc := 20) F dX0_callsIn_20 ?_
      refine g_nm (fun v5 => ?_)
      refine g_istore_n (pc := 21) F [(0, .ref (ad (q0))), (1, .int x1), (2, .int v5), (3, .int x3)] dX0_callsIn_21 (by decide) rfl rfl rfl ?_
      refine g_iinc (pc := 22) (v := x3 + 1) F [(0, .ref (ad (q0))), (1, .int x1), (2, .int v5), (3, .int (x3 + 1))] 3 dX0_callsIn_22 rfl rfl (by decide) rfl rfl rfl ?_
      refine g_goto (pc := 25) F 4 dX0_callsIn_25 (by decide) ?_
      exact ih _ _ _
set_option maxHeartbeats 4000000 in
set_option maxRecDepth 100000 in
theorem c_X0_callsIn (l : Launch) (D : va_G) (ad : Nat → Nat) (cs : Cs) (hi : Inj ad) (fu : Nat) (kt : Nat) (a1 : Int32) (hkt : Tab kt) (M : Mem) : MI l yX0_callsIn wsX0_callsIn rmX0_callsIn D ad cs [.ref (ad (kt)), .int a1] M (f_X0_callsIn fu kt a1 M) := by
  refine Mx.of (cc := cX0_callsIn) (maxL := 4) (ret := (some .int)) (own := RX0) (lv := [(0, .ref (ad (kt))), (1, .int a1)]) (by decide) rfl rfl (Nat.le_of_ble_eq_true rfl) rfl hi ?_
  intro p e s m below meth c F hr hlk
  unfold f_X0_callsIn
  refine g_iconst (pc := 0) (v := 0) F dX0_callsIn_0 (by decide) ?_
  refine g_istore_n (pc := 1) F [(0, .ref (ad (kt))), (1, .int a1), (2, .int 0)] dX0_callsIn_1 (by decide) rfl rfl rfl ?_
  refine g_iconst (pc := 2) (v := 0) F dX0_callsIn_2 (by decide) ?_
  refine g_istore_n (pc := 3) F [(0, .ref (ad (kt))), (1, .int a1), (2, .int 0), (3, .int 0)] dX0_callsIn_3 (by decide) rfl rfl rfl ?_
  refine w_X0_callsIn_L4 kt a1 hkt F hr hlk _ (fun M6 y7 y8 => ?_) _ _ _ _
  refine g_iload_n (pc := 28) F 2 dX0_callsIn_28 rfl ?_
  exact g_iret (pc := 29) F hr hlk dX0_callsIn_29
-- X0_firstsOf
def rmX0_firstsOf : Room := { frames := 0, cells := 0, slots := 0, locals := 0 }
def f_X0_firstsOf (a0 : Int32) (M : Mem) : Option (Int32 × Mem) := some (a0 &&& ((a0 <<< ((1 : Int32) &&& 31)) ^^^ (-1 : Int32)), M)
set_option maxHeartbeats 4000000 in
set_option maxRecDepth 100000 in
theorem c_X0_firstsOf (l : Launch) (D : va_G) (ad : Nat → Nat) (cs : Cs) (hi : Inj ad) (a0 : Int32) (M : Mem) : MI l yX0_firstsOf wsX0_firstsOf rmX0_firstsOf D ad cs [.int a0] M (f_X0_firstsOf a0 M) := by
  refine Mx.of (cc := cX0_firstsOf) (maxL := 1) (ret := (some .int)) (own := RX0) (lv := [(0, .int a0)]) (by decide) rfl rfl (Nat.le_of_ble_eq_true rfl) rfl hi ?_
  intro p e s m below meth c F hr hlk
  unfold f_X0_firstsOf
  refine g_iload_n (pc := 0) F 0 dX0_firstsOf_0 rfl ?_
  refine g_iload_n (pc := 1) F 0 dX0_firstsOf_1 rfl ?_
  refine g_iconst (pc := 2) (v := 1) F dX0_firstsOf_2 (by decide) ?_
  refine g_ishl (pc := 3) F dX0_firstsOf_3 ?_
  refine g_iconst (pc := 4) (v := (-1)) F dX0_firstsOf_4 (by decide) ?_
  refine g_ixor (pc := 5) F dX0_firstsOf_5 ?_
  refine g_iand (pc := 6) F dX0_firstsOf_6 ?_
  exact g_iret (pc := 7) F hr hlk dX0_firstsOf_7
-- X0_spansIn
def rmX0_spansIn : Room := { frames := 1, cells := 0, slots := 0, locals := 22 }
def f_X0_spansIn_L4 (q0 : Nat) (x1 : Int32) (k : Mem → Int32 → Int32 → Option (Int32 × Mem)) : Nat → Mem → Int32 → Int32 → Option (Int32 × Mem)
  | 0, _, _, _ => none
  | n + 1, M, x2, x3 => if 32 ≤ x3 then k M x2 x3 else bnd (f_X0_arguments q0 x1 x3 M) (fun r1 M2 => bnd (f_X0_firstsOf r1 M2) (fun r3 M4 => bnd (f_J6_bitCount_0f7a4 r3 M4) (fun r5 M6 => nm (x2 + r5) (fun v7 => f_X0_spansIn_L4 q0 x1 k n M6 v7 (x3 + 1)))))
def f_X0_spansIn (fu : Nat) (kt : Nat) (a1 : Int32) (M : Mem) : Option (Int32 × Mem) := f_X0_spansIn_L4 kt a1 (fun M8 y9 y10 => some (y9, M8)) fu M 0 0
set_option maxHeartbeats 4000000 in
set_option maxRecDepth 100000 in
theorem w_X0_spansIn_L4 {p : Program} {l : Launch} {e : Env} {s : State} {m : MethodId} {args : Array Value} {below : List Frame} {meth : Method} {c : Code} {D : va_G} {ad : Nat → Nat} {cs : Cs}  (q0 : Nat) (x1 : Int32) (hq0 : Tab q0) (F : Fx p m c cX0_spansIn 4 s args wsX0_spansIn RX0 D ad cs (Ad ad)) (hr : meth.sig.returnType = (some .int)) (hlk : meth.locks = false) (k : Mem → Int32 → Int32 → Option (Int32 × Mem)) (hkx : ∀ (M : Mem) (x2 x3 : Int32), GoX p l e rmX0_spansIn s m args below meth c 0 0 4 (fun rM => MQ below (cQi D ad cs rM) args s 0 0 (Ad ad)) D ad cs (Ad ad) M 31 [(0, .ref (ad (q0))), (1, .int x1), (2, .int x2), (3, .int x3)] [] (k M x2 x3)) : ∀ (n : Nat) (M : Mem) (x2 x3 : Int32), GoX p l e rmX0_spansIn s m args below meth c 0 0 4 (fun rM => MQ below (cQi D ad cs rM) args s 0 0 (Ad ad)) D ad cs (Ad ad) M 4 [(0, .ref (ad (q0))), (1, .int x1), (2, .int x2), (3, .int x3)] [] (f_X0_spansIn_L4 q0 x1 k n M x2 x3) := by
  intro n
  induction n with
  | zero => intro M x2 x3; exact g_none
  | succ n ih =>
    intro M x2 x3
    unfold f_X0_spansIn_L4
    refine g_iload_n (pc := 4) F 3 dX0_spansIn_4 rfl ?_
    refine g_bipush (pc := 5) (v := 32) F dX0_spansIn_5 (by decide) ?_
    refine g_icmp_ge (pc := 7) F 31 dX0_spansIn_7 (by decide) ?_ ?_
    · exact hkx _ _ _
    · refine g_iload_n (pc := 10) F 2 dX0_spansIn_10 rfl ?_
      refine g_aload_n (pc := 11) F 0 dX0_spansIn_11 rfl ?_
      refine g_iload_n (pc := 12) F 1 dX0_spansIn_12 rfl ?_
      refine g_iload_n (pc := 13) F 3 dX0_spansIn_13 rfl ?_
      refine g_vi (pc := 14) (k := q0) (ci := 0) (fs := (oX0 ad (q0))) (C := RX0) (T := TX0) (N := 1) (As := [.int x1, .int x3]) (st := [.int x2]) F (c_X0_arguments l D ad cs F.2.2.1 q0 x1 x3 hq0 M) (tab_lt hq0) (sh_X0 hq0) rfl (cwV 2 F.1.2.2.2.2 gX0_spansIn_X0_arguments rfl rfl rfl hdV_X0_arguments ⟨by decide, by decide⟩) rfl rfl (Nat.le_of_ble_eq_true rfl) dX0_spansIn_14 ⟨Nat.zero_le _, Nat.zero_le _⟩ (fun r1 M2 => ?_)
      refine g_si (pc := 17) (As := [.int r1]) (st := [.int x2]) F (c_X0_firstsOf l D ad cs F.2.2.1 r1 M2) (va_cwS 1 F.1.2.2.2.2 gX0_spansIn_X0_firstsOf rfl rfl rfl hdS_X0_firstsOf ⟨by decide, by decide⟩) rfl rfl (Nat.le_of_ble_eq_true rfl) dX0_spansIn_17 ⟨Nat.zero_le _, Nat.zero_le _⟩ (fun r3 M4 => ?_)
      refine g_si (pc := 20) (As := [.int r3]) (st := [.int x2]) F (c_J6_bitCount_0f7a4 l D ad cs F.2.2.1 r3 M4) (va_cwS 1 F.1.2.2.2.2 gX0_spansIn_J6_bitCount_0f7a4 rfl rfl rfl hdS_J6_bitCount_0f7a4 ⟨by decide, by decide⟩) rfl rfl (Nat.le_of_ble_eq_true rfl) dX0_spansIn_20 ⟨Nat.zero_le _, Nat.zero_le _⟩ (fun r5 M6 => ?_)
      refine g_iadd (pc := 23) F dX0_spansIn_23 ?_
      refine g_nm (fun v7 => ?_)
      refine g_istore_n (pc := 24) F [(0, .ref (ad (q0))), (1, .int x1), (2, .int v7), (3, .int x3)] dX0_spansIn_24 (by decide) rfl rfl rfl ?_
      refine g_iinc (pc := 25) (v := x3 + 1) F [(0, .ref (ad (q0))), (1, .int x1), (2, .int v7), (3, .int (x3 + 1))] 3 dX0_spansIn_25 rfl rfl (by decide) rfl rfl rfl ?_
      refine g_goto (pc := 28) F 4 dX0_spansIn_28 (by decide) ?_
      exact ih _ _ _
set_option maxHeartbeats 4000000 in
set_option maxRecDepth 100000 in
theorem c_X0_spansIn (l : Launch) (D : va_G) (ad : Nat → Nat) (cs : Cs) (hi : Inj ad) (fu : Nat) (kt : Nat) (a1 : Int32) (hkt : Tab kt) (M : Mem) : MI l yX0_spansIn wsX0_spansIn rmX0_spansIn D ad cs [.ref (ad (kt)), .int a1] M (f_X0_spansIn fu kt a1 M) := by
  refine Mx.of (cc := cX0_spansIn) (maxL := 4) (ret := (some .int)) (own := RX0) (lv := [(0, .ref (ad (kt))), (1, .int a1)]) (by decide) rfl rfl (Nat.le_of_ble_eq_true rfl) rfl hi ?_
  intro p e s m below meth c F hr hlk
  unfold f_X0_spansIn
  refine g_iconst (pc := 0) (v := 0) F dX0_spansIn_0 (by decide) ?_
  refine g_istore_n (pc := 1) F [(0, .ref (ad (kt))), (1, .int a1), (2, .int 0)] dX0_spansIn_1 (by decide) rfl rfl rfl ?_
  refine g_iconst (pc := 2) (v := 0) F dX0_spansIn_2 (by decide) ?_
  refine g_istore_n (pc := 3) F [(0, .ref (ad (kt))), (1, .int a1), (2, .int 0), (3, .int 0)] dX0_spansIn_3 (by decide) rfl rfl rfl ?_
  refine w_X0_spansIn_L4 kt a1 hkt F hr hlk _ (fun M8 y9 y10 => ?_) _ _ _ _
  refine g_iload_n (pc := 31) F 2 dX0_spansIn_31 rfl ?_
  exact g_iret (pc := 32) F hr hlk dX0_spansIn_32
-- X8_holds
def rmX8_holds : Room := { frames := 0, cells := 0, slots := 0, locals := 0 }
def f_X8_holds (a0 : Int32) (a1 : Int32) (M : Mem) : Option (Int32 × Mem) := if ((usr a0 a1) &&& (1 : Int32)) = 0 then some (0, M) else some (1, M)
set_option maxHeartbeats 4000000 in
set_option maxRecDepth 100000 in
theorem c_X8_holds (l : Launch) (D : va_G) (ad : Nat → Nat) (cs : Cs) (hi : Inj ad) (a0 : Int32) (a1 : Int32) (M : Mem) : MI l yX8_holds wsX8_holds rmX8_holds D ad cs [.int a0, .int a1] M (f_X8_holds a0 a1 M) := by
  refine Mx.of (cc := cX8_holds) (maxL := 2) (ret := (some .boolean)) (own := RX8) (lv := [(0, .int a0), (1, .int a1)]) (by decide) rfl rfl (Nat.le_of_ble_eq_true rfl) rfl hi ?_
  intro p e s m below meth c F hr hlk
  unfold f_X8_holds
  refine g_iload_n (pc := 0) F 0 dX8_holds_0 rfl ?_
  refine g_iload_n (pc := 1) F 1 dX8_holds_1 rfl ?_
  refine g_iushr (pc := 2) F dX8_holds_2 ?_
  refine g_iconst (pc := 3) (v := 1) F dX8_holds_3 (by decide) ?_
  refine g_iand (pc := 4) F dX8_holds_4 ?_
  refine g_if_eq (pc := 5) F 12 dX8_holds_5 (by decide) ?_ ?_
  · refine g_iconst (pc := 12) (v := 0) F dX8_holds_12 (by decide) ?_
    exact g_zret (pc := 13) F hr hlk rfl dX8_holds_13
  · refine g_iconst (pc := 8) (v := 1) F dX8_holds_8 (by decide) ?_
    refine g_goto (pc := 9) F 13 dX8_holds_9 (by decide) ?_
    exact g_zret (pc := 13) F hr hlk rfl dX8_holds_13
-- X0_bitNumber
def rmX0_bitNumber : Room := { frames := 1, cells := 0, slots := 0, locals := 21 }
def f_X0_bitNumber_L4 (x0 : Int32) (x1 : Int32) (k : Mem → Int32 → Int32 → Option (Int32 × Mem)) : Nat → Mem → Int32 → Int32 → Option (Int32 × Mem)
  | 0, _, _, _ => none
  | n + 1, M, x2, x3 => if 32 ≤ x3 then k M x2 x3 else bnd (f_X8_holds x0 x3 M) (fun r1 M2 => if r1 = 0 then f_X0_bitNumber_L4 x0 x1 k n M2 x2 (x3 + 1) else if x2 = x1 then some (x3, M2) else f_X0_bitNumber_L4 x0 x1 k n M2 (x2 + 1) (x3 + 1))
def f_X0_bitNumber (fu : Nat) (a0 : Int32) (a1 : Int32) (M : Mem) : Option (Int32 × Mem) := f_X0_bitNumber_L4 a0 a1 (fun M3 y4 y5 => some ((-1), M3)) fu M 0 0
set_option maxRecDepth 20000 in
theorem kwX0_bitNumber_iX8_holds : Cond.initialized yX8_holds.cls ∈ wsX0_bitNumber := by decide +kernel
set_option maxRecDepth 20000 in
theorem kwX0_bitNumber_sX8_holds : Cond.static yX8_holds ∈ wsX0_bitNumber := by decide +kernel
set_option maxHeartbeats 4000000 in
set_option maxRecDepth 100000 in
theorem w_X0_bitNumber_L4 {p : Program} {l : Launch} {e : Env} {s : State} {m : MethodId} {args : Array Value} {below : List Frame} {meth : Method} {c : Code} {D : va_G} {ad : Nat → Nat} {cs : Cs}  (x0 : Int32) (x1 : Int32) (F : Fx p m c cX0_bitNumber 4 s args wsX0_bitNumber RX0 D ad cs (Ad ad)) (hr : meth.sig.returnType = (some .int)) (hlk : meth.locks = false) (k : Mem → Int32 → Int32 → Option (Int32 × Mem)) (hkx : ∀ (M : Mem) (x2 x3 : Int32), GoX p l e rmX0_bitNumber s m args below meth c 0 0 4 (fun rM => MQ below (cQi D ad cs rM) args s 0 0 (Ad ad)) D ad cs (Ad ad) M 34 [(0, .int x0), (1, .int x1), (2, .int x2), (3, .int x3)] [] (k M x2 x3)) : ∀ (n : Nat) (M : Mem) (x2 x3 : Int32), GoX p l e rmX0_bitNumber s m args below meth c 0 0 4 (fun rM => MQ below (cQi D ad cs rM) args s 0 0 (Ad ad)) D ad cs (Ad ad) M 4 [(0, .int x0), (1, .int x1), (2, .int x2), (3, .int x3)] [] (f_X0_bitNumber_L4 x0 x1 k n M x2 x3) := by
  intro n
  induction n with
  | zero => intro M x2 x3; exact g_none
  | succ n ih =>
    intro M x2 x3
    unfold f_X0_bitNumber_L4
    refine g_iload_n (pc := 4) F 3 dX0_bitNumber_4 rfl ?_
    refine g_bipush (pc := 5) (v := 32) F dX0_bitNumber_5 (by decide) ?_
    refine g_icmp_ge (pc := 7) F 34 dX0_bitNumber_7 (by decide) ?_ ?_
    · exact hkx _ _ _
    · refine g_iload_n (pc := 10) F 0 dX0_bitNumber_10 rfl ?_
      refine g_iload_n (pc := 11) F 3 dX0_bitNumber_11 rfl ?_
      refine g_ni (pc := 12) (As := [.int x0, .int x3]) (st := []) F (c_X8_holds l D ad cs F.2.2.1 x0 x3 M) ⟨va_cnB 2 F.1.2.2.2.2 gX0_bitNumber_X8_holds_n41 rfl rfl rfl F.2.1.2.1 (F.1.2.2.2.2 _ kwX0_bitNumber_iX8_holds) hdS_X8_holds ⟨by decide, by decide⟩, F.1.2.2.2.2 _ kwX0_bitNumber_sX8_holds, trivial⟩ rfl rfl (Nat.le_of_ble_eq_true rfl) dX0_bitNumber_12 ⟨Nat.zero_le _, Nat.zero_le _⟩ (fun r1 M2 => ?_)
      refine g_if_eq (pc := 15) F 28 dX0_bitNumber_15 (by decide) ?_ ?_
      · refine g_iinc (pc := 28) (v := x3 + 1) F [(0, .int x0), (1, .int x1), (2, .int x2), (3, .int (x3 + 1))] 3 dX0_bitNumber_28 rfl rfl (by decide) rfl rfl rfl ?_
        refine g_goto (pc := 31) F 4 dX0_bitNumber_31 (by decide) ?_
        exact ih _ _ _
      · refine g_iload_n (pc := 18) F 2 dX0_bitNumber_18 rfl ?_
        refine g_iload_n (pc := 19) F 1 dX0_bitNumber_19 rfl ?_
        refine g_icmp_ne (pc := 20) F 25 dX0_bitNumber_20 (by decide) ?_ ?_
        · refine g_iinc (pc := 25) (v := x2 + 1) F [(0, .int x0), (1, .int x1), (2, .int (x2 + 1)), (3, .int x3)] 2 dX0_bitNumber_25 rfl rfl (by decide) rfl rfl rfl ?_
          refine g_iinc (pc := 28) (v := x3 + 1) F [(0, .int x0), (1, .int x1), (2, .int (x2 + 1)), (3, .int (x3 + 1))] 3 dX0_bitNumber_28 rfl rfl (by decide) rfl rfl rfl ?_
          refine g_goto (pc := 31) F 4 dX0_bitNumber_31 (by decide) ?_
          exact ih _ _ _
        · refine g_iload_n (pc := 23) F 3 dX0_bitNumber_23 rfl ?_
          exact g_iret (pc := 24) F hr hlk dX0_bitNumber_24
set_option maxHeartbeats 4000000 in
set_option maxRecDepth 100000 in
theorem c_X0_bitNumber (l : Launch) (D : va_G) (ad : Nat → Nat) (cs : Cs) (hi : Inj ad) (fu : Nat) (a0 : Int32) (a1 : Int32) (M : Mem) : MI l yX0_bitNumber wsX0_bitNumber rmX0_bitNumber D ad cs [.int a0, .int a1] M (f_X0_bitNumber fu a0 a1 M) := by
  refine Mx.of (cc := cX0_bitNumber) (maxL := 4) (ret := (some .int)) (own := RX0) (lv := [(0, .int a0), (1, .int a1)]) (by decide) rfl rfl (Nat.le_of_ble_eq_true rfl) rfl hi ?_
  intro p e s m below meth c F hr hlk
  unfold f_X0_bitNumber
  refine g_iconst (pc := 0) (v := 0) F dX0_bitNumber_0 (by decide) ?_
  refine g_istore_n (pc := 1) F [(0, .int a0), (1, .int a1), (2, .int 0)] dX0_bitNumber_1 (by decide) rfl rfl rfl ?_
  refine g_iconst (pc := 2) (v := 0) F dX0_bitNumber_2 (by decide) ?_
  refine g_istore_n (pc := 3) F [(0, .int a0), (1, .int a1), (2, .int 0), (3, .int 0)] dX0_bitNumber_3 (by decide) rfl rfl rfl ?_
  refine w_X0_bitNumber_L4 a0 a1 F hr hlk _ (fun M3 y4 y5 => ?_) _ _ _ _
  refine g_iconst (pc := 34) (v := (-1)) F dX0_bitNumber_34 (by decide) ?_
  exact g_iret (pc := 35) F hr hlk dX0_bitNumber_35
-- X0_partOf
def rmX0_partOf : Room := { frames := 2, cells := 0, slots := 0, locals := 44 }
def f_X0_partOf (fu : Nat) (a0 : Int32) (a1 : Int32) (a2 : Int32) (a3 : Int32) (M : Mem) : Option (Int32 × Mem) := if a3 = 0 then some (a0, M) else if a3 = 1 then bnd (f_X0_firstsOf a1 M) (fun r3 M4 => bnd (f_X0_bitNumber fu r3 a2 M4) (fun r5 M6 => some (r5, M6))) else if a3 = 2 then bnd (f_X0_bitNumber fu (a1 &&& ((usr a1 (1 : Int32)) ^^^ (-1 : Int32))) a2 M) (fun r8 M9 => some (r8, M9)) else some ((-1), M)
set_option maxHeartbeats 4000000 in
set_option maxRecDepth 100000 in
theorem c_X0_partOf (l : Launch) (D : va_G) (ad : Nat → Nat) (cs : Cs) (hi : Inj ad) (fu : Nat) (a0 : Int32) (a1 : Int32) (a2 : Int32) (a3 : Int32) (M : Mem) : MI l yX0_partOf wsX0_partOf rmX0_partOf D ad cs [.int a0, .int a1, .int a2, .int a3] M (f_X0_partOf fu a0 a1 a2 a3 M) := by
  refine Mx.of (cc := cX0_partOf) (maxL := 4) (ret := (some .int)) (own := RX0) (lv := [(0, .int a0), (1, .int a1), (2, .int a2), (3, .int a3)]) (by decide) rfl rfl (Nat.le_of_ble_eq_true rfl) rfl hi ?_
  intro p e s m below meth c F hr hlk
  unfold f_X0_partOf
  refine g_iload_n (pc := 0) F 3 dX0_partOf_0 rfl ?_
  refine g_case (v := 0) (fun _ => ?_) (fun n1 => ?_)
  · refine g_tab (pc := 1) (off := 27) F 28 dX0_partOf_1 (by decide) (by decide) (by decide) (by decide) ?_
    refine g_iload_n (pc := 28) F 0 dX0_partOf_28 rfl ?_
    exact g_iret (pc := 29) F hr hlk dX0_partOf_29
  refine g_case (v := 1) (fun _ => ?_) (fun n2 => ?_)
  · refine g_tab (pc := 1) (off := 29) F 30 dX0_partOf_1 (by decide) (by decide) (by decide) (by decide) ?_
    refine g_iload_n (pc := 30) F 1 dX0_partOf_30 rfl ?_
    refine g_si (pc := 31) (As := [.int a1]) (st := []) F (c_X0_firstsOf l D ad cs F.2.2.1 a1 M) (va_cwS 1 F.1.2.2.2.2 gX0_partOf_X0_firstsOf rfl rfl rfl hdS_X0_firstsOf ⟨by decide, by decide⟩) rfl rfl (Nat.le_of_ble_eq_true rfl) dX0_partOf_31 ⟨Nat.zero_le _, Nat.zero_le _⟩ (fun r3 M4 => ?_)
    refine g_iload_n (pc := 34) F 2 dX0_partOf_34 rfl ?_
    refine g_si (pc := 35) (As := [.int r3, .int a2]) (st := []) F (c_X0_bitNumber l D ad cs F.2.2.1 fu r3 a2 M4) (va_cwS 2 F.1.2.2.2.2 gX0_partOf_X0_bitNumber rfl rfl rfl hdS_X0_bitNumber ⟨by decide, by decide⟩) rfl rfl (Nat.le_of_ble_eq_true rfl) dX0_partOf_35 ⟨Nat.zero_le _, Nat.zero_le _⟩ (fun r5 M6 => ?_)
    exact g_iret (pc := 38) F hr hlk dX0_partOf_38
  refine g_case (v := 2) (fun _ => ?_) (fun n7 => ?_)
  · refine g_tab (pc := 1) (off := 38) F 39 dX0_partOf_1 (by decide) (by decide) (by decide) (by decide) ?_
    refine g_iload_n (pc := 39) F 1 dX0_partOf_39 rfl ?_
    refine g_iload_n (pc := 40) F 1 dX0_partOf_40 rfl ?_
    refine g_iconst (pc := 41) (v := 1) F dX0_partOf_41 (by decide) ?_
    refine g_iushr (pc := 42) F dX0_partOf_42 ?_
    refine g_iconst (pc := 43) (v := (-1)) F dX0_partOf_43 (by decide) ?_
    refine g_ixor (pc := 44) F dX0_partOf_44 ?_
    refine g_iand (pc := 45) F dX0_partOf_45 ?_
    refine g_iload_n (pc := 46) F 2 dX0_partOf_46 rfl ?_
    refine g_si (pc := 47) (As := [.int (a1 &&& ((usr a1 (1 : Int32)) ^^^ (-1 : Int32))), .int a2]) (st := []) F (c_X0_bitNumber l D ad cs F.2.2.1 fu (a1 &&& ((usr a1 (1 : Int32)) ^^^ (-1 : Int32))) a2 M) (va_cwS 2 F.1.2.2.2.2 gX0_partOf_X0_bitNumber rfl rfl rfl hdS_X0_bitNumber ⟨by decide, by decide⟩) rfl rfl (Nat.le_of_ble_eq_true rfl) dX0_partOf_47 ⟨Nat.zero_le _, Nat.zero_le _⟩ (fun r8 M9 => ?_)
    exact g_iret (pc := 50) F hr hlk dX0_partOf_50
  refine g_tabd (pc := 1) F 51 dX0_partOf_1 (by have e0 := ne_lit (n := 0) (by decide) n1; have e1 := ne_lit (n := 1) (by decide) n2; have e2 := ne_lit (n := 2) (by decide) n7; omega) (by decide) ?_
  refine g_iconst (pc := 51) (v := (-1)) F dX0_partOf_51 (by decide) ?_
  exact g_iret (pc := 52) F hr hlk dX0_partOf_52
-- X0_spanPart
def rmX0_spanPart : Room := { frames := 3, cells := 0, slots := 0, locals := 67 }
def f_X0_spanPart_L6 (fu : Nat) (q0 : Nat) (x1 : Int32) (x2 : Int32) (x3 : Int32) (k : Mem → Int32 → Int32 → Option (Int32 × Mem)) : Nat → Mem → Int32 → Int32 → Option (Int32 × Mem)
  | 0, _, _, _ => none
  | n + 1, M, x4, x5 => if 32 ≤ x5 then k M x4 x5 else bnd (f_X0_arguments q0 x1 x5 M) (fun r1 M2 => bnd (f_X0_firstsOf r1 M2) (fun r3 M4 => bnd (f_J6_bitCount_0f7a4 r3 M4) (fun r5 M6 => if (x4 + r5) ≤ x2 then nm (x4 + r5) (fun v7 => f_X0_spanPart_L6 fu q0 x1 x2 x3 k n M6 v7 (x5 + 1)) else bnd (f_X0_partOf fu x5 r1 (x2 - x4) x3 M6) (fun r8 M9 => some (r8, M9)))))
def f_X0_spanPart (fu : Nat) (kt : Nat) (a1 : Int32) (a2 : Int32) (a3 : Int32) (M : Mem) : Option (Int32 × Mem) := f_X0_spanPart_L6 fu kt a1 a2 a3 (fun M10 y11 y12 => some ((-1), M10)) fu M 0 0
set_option maxHeartbeats 4000000 in
set_option maxRecDepth 100000 in
theorem w_X0_spanPart_L6 {p : Program} {l : Launch} {e : Env} {s : State} {m : MethodId} {args : Array Value} {below : List Frame} {meth : Method} {c : Code} {D : va_G} {ad : Nat → Nat} {cs : Cs} (fu : Nat) (q0 : Nat) (x1 : Int32) (x2 : Int32) (x3 : Int32) (hq0 : Tab q0) (F : Fx p m c cX0_spanPart 8 s args wsX0_spanPart RX0 D ad cs (Ad ad)) (hr : meth.sig.returnType = (some .int)) (hlk : meth.locks = false) (k : Mem → Int32 → Int32 → Option (Int32 × Mem)) (hkx : ∀ (M : Mem) (x4 x5 : Int32), GoX p l e rmX0_spanPart s m args below meth c 0 0 8 (fun rM => MQ below (cQi D ad cs rM) args s 0 0 (Ad ad)) D ad cs (Ad ad) M 67 [(0, .ref (ad (q0))), (1, .int x1), (2, .int x2), (3, .int x3), (4, .int x4), (5, .int x5)] [] (k M x4 x5)) : ∀ (n : Nat) (M : Mem) (x4 x5 : Int32), GoX p l e rmX0_spanPart s m args below meth c 0 0 8 (fun rM => MQ below (cQi D ad cs rM) args s 0 0 (Ad ad)) D ad cs (Ad ad) M 6 [(0, .ref (ad (q0))), (1, .int x1), (2, .int x2), (3, .int x3), (4, .int x4), (5, .int x5)] [] (f_X0_spanPart_L6 fu q0 x1 x2 x3 k n M x4 x5) := by
  intro n
  induction n with
  | zero => intro M x4 x5; exact g_none
  | succ n ih =>
    intro M x4 x5
    unfold f_X0_spanPart_L6
    refine g_iload (pc := 6) F 5 dX0_spanPart_6 rfl ?_
    refine g_bipush (pc := 8) (v := 32) F dX0_spanPart_8 (by decide) ?_
    refine g_icmp_ge (pc := 10) F 67 dX0_spanPart_10 (by decide) ?_ ?_
    · exact hkx _ _ _
    · refine g_aload_n (pc := 13) F 0 dX0_spanPart_13 rfl ?_
      refine g_iload_n (pc := 14) F 1 dX0_spanPart_14 rfl ?_
      refine g_iload (pc := 15) F 5 dX0_spanPart_15 rfl ?_
      refine g_vi (pc := 17) (k := q0) (ci := 0) (fs := (oX0 ad (q0))) (C := RX0) (T := TX0) (N := 1) (As := [.int x1, .int x5]) (st := []) F (c_X0_arguments l D ad cs F.2.2.1 q0 x1 x5 hq0 M) (tab_lt hq0) (sh_X0 hq0) rfl (cwV 2 F.1.2.2.2.2 gX0_spanPart_X0_arguments rfl rfl rfl hdV_X0_arguments ⟨by decide, by decide⟩) rfl rfl (Nat.le_of_ble_eq_true rfl) dX0_spanPart_17 ⟨Nat.zero_le _, Nat.zero_le _⟩ (fun r1 M2 => ?_)
      refine g_istore (pc := 20) F [(0, .ref (ad (q0))), (1, .int x1), (2, .int x2), (3, .int x3), (4, .int x4), (5, .int x5), (6, .int r1)] dX0_spanPart_20 (by decide) rfl rfl rfl ?_
      refine g_iload (pc := 22) F 6 dX0_spanPart_22 rfl ?_
      refine g_si (pc := 24) (As := [.int r1]) (st := []) F (c_X0_firstsOf l D ad cs F.2.2.1 r1 M2) (va_cwS 1 F.1.2.2.2.2 gX0_spanPart_X0_firstsOf rfl rfl rfl hdS_X0_firstsOf ⟨by decide, by decide⟩) rfl rfl (Nat.le_of_ble_eq_true rfl) dX0_spanPart_24 ⟨Nat.zero_le _, Nat.zero_le _⟩ (fun r3 M4 => ?_)
      refine g_si (pc := 27) (As := [.int r3]) (st := []) F (c_J6_bitCount_0f7a4 l D ad cs F.2.2.1 r3 M4) (va_cwS 1 F.1.2.2.2.2 gX0_spanPart_J6_bitCount_0f7a4 rfl rfl rfl hdS_J6_bitCount_0f7a4 ⟨by decide, by decide⟩) rfl rfl (Nat.le_of_ble_eq_true rfl) dX0_spanPart_27 ⟨Nat.zero_le _, Nat.zero_le _⟩ (fun r5 M6 => ?_)
      refine g_istore (pc := 30) F [(0, .ref (ad (q0))), (1, .int x1), (2, .int x2), (3, .int x3), (4, .int x4), (5, .int x5), (6, .int r1), (7, .int r5)] dX0_spanPart_30 (by decide) rfl rfl rfl ?_
      refine g_iload_n (pc := 32) F 2 dX0_spanPart_32 rfl ?_
      refine g_iload (pc := 33) F 4 dX0_spanPart_33 rfl ?_
      refine g_iload (pc := 35) F 7 dX0_spanPart_35 rfl ?_
      refine g_iadd (pc := 37) F dX0_spanPart_37 ?_
      refine g_icmp_ge (pc := 38) F 54 dX0_spanPart_38 (by decide) ?_ ?_
      · refine g_iload (pc := 54) F 4 dX0_spanPart_54 rfl ?_
        refine g_iload (pc := 56) F 7 dX0_spanPart_56 rfl ?_
        refine g_iadd (pc := 58) F dX0_spanPart_58 ?_
        refine g_nm (fun v7 => ?_)
        refine g_istore (pc := 59) F [(0, .ref (ad (q0))), (1, .int x1), (2, .int x2), (3, .int x3), (4, .int v7), (5, .int x5), (6, .int r1), (7, .int r5)] dX0_spanPart_59 (by decide) rfl rfl rfl ?_
        refine g_iinc (pc := 61) (v := x5 + 1) F [(0, .ref (ad (q0))), (1, .int x1), (2, .int x2), (3, .int x3), (4, .int v7), (5, .int (x5 + 1)), (6, .int r1), (7, .int r5)] 5 dX0_spanPart_61 rfl rfl (by decide) rfl rfl rfl ?_
        refine g_goto (pc := 64) F 6 dX0_spanPart_64 (by decide) ?_
        refine g_sub [0, 1, 2, 3, 4, 5] [(0, .ref (ad (q0))), (1, .int x1), (2, .int x2), (3, .int x3), (4, .int v7), (5, .int (x5 + 1))] rfl ?_
        exact ih _ _ _
      · refine g_iload (pc := 41) F 5 dX0_spanPart_41 rfl ?_
        refine g_iload (pc := 43) F 6 dX0_spanPart_43 rfl ?_
        refine g_iload_n (pc := 45) F 2 dX0_spanPart_45 rfl ?_
        refine g_iload (pc := 46) F 4 dX0_spanPart_46 rfl ?_
        refine g_isub (pc := 48) F dX0_spanPart_48 ?_
        refine g_iload_n (pc := 49) F 3 dX0_spanPart_49 rfl ?_
        refine g_si (pc := 50) (As := [.int x5, .int r1, .int (x2 - x4), .int x3]) (st := []) F (c_X0_partOf l D ad cs F.2.2.1 fu x5 r1 (x2 - x4) x3 M6) (va_cwS 4 F.1.2.2.2.2 gX0_spanPart_X0_partOf rfl rfl rfl hdS_X0_partOf ⟨by decide, by decide⟩) rfl rfl (Nat.le_of_ble_eq_true rfl) dX0_spanPart_50 ⟨Nat.zero_le _, Nat.zero_le _⟩ (fun r8 M9 => ?_)
        exact g_iret (pc := 53) F hr hlk dX0_spanPart_53
set_option maxHeartbeats 4000000 in
set_option maxRecDepth 100000 in
theorem c_X0_spanPart (l : Launch) (D : va_G) (ad : Nat → Nat) (cs : Cs) (hi : Inj ad) (fu : Nat) (kt : Nat) (a1 : Int32) (a2 : Int32) (a3 : Int32) (hkt : Tab kt) (M : Mem) : MI l yX0_spanPart wsX0_spanPart rmX0_spanPart D ad cs [.ref (ad (kt)), .int a1, .int a2, .int a3] M (f_X0_spanPart fu kt a1 a2 a3 M) := by
  refine Mx.of (cc := cX0_spanPart) (maxL := 8) (ret := (some .int)) (own := RX0) (lv := [(0, .ref (ad (kt))), (1, .int a1), (2, .int a2), (3, .int a3)]) (by decide) rfl rfl (Nat.le_of_ble_eq_true rfl) rfl hi ?_
  intro p e s m below meth c F hr hlk
  unfold f_X0_spanPart
  refine g_iconst (pc := 0) (v := 0) F dX0_spanPart_0 (by decide) ?_
  refine g_istore (pc := 1) F [(0, .ref (ad (kt))), (1, .int a1), (2, .int a2), (3, .int a3), (4, .int 0)] dX0_spanPart_1 (by decide) rfl rfl rfl ?_
  refine g_iconst (pc := 3) (v := 0) F dX0_spanPart_3 (by decide) ?_
  refine g_istore (pc := 4) F [(0, .ref (ad (kt))), (1, .int a1), (2, .int a2), (3, .int a3), (4, .int 0), (5, .int 0)] dX0_spanPart_4 (by decide) rfl rfl rfl ?_
  refine w_X0_spanPart_L6 fu kt a1 a2 a3 hkt F hr hlk _ (fun M10 y11 y12 => ?_) _ _ _ _
  refine g_iconst (pc := 67) (v := (-1)) F dX0_spanPart_67 (by decide) ?_
  exact g_iret (pc := 68) F hr hlk dX0_spanPart_68
-- X1_length
def rmX1_length : Room := { frames := 0, cells := 0, slots := 0, locals := 0 }
def f_X1_length (pp : Nat) (M : Mem) : Option (Int32 × Mem) := some (M (13 * pp + 3) 4, M)
set_option maxRecDepth 20000 in
theorem kiX1_length_X1 : ∀ w ∈ u_ws RX1 TX1 5, w ∈ wsX1_length := by decide +kernel
set_option maxRecDepth 20000 in
theorem klX1_length_24 : Cond.fieldLink RX1 24 "DoorLister$Code" "length" "I" ∈ wsX1_length := by decide +kernel
set_option maxHeartbeats 4000000 in
set_option maxRecDepth 100000 in
theorem c_X1_length (l : Launch) (D : va_G) (ad : Nat → Nat) (cs : Cs) (hi : Inj ad) (pp : Nat) (hpp : pp < 4) (M : Mem) : MI l yX1_length wsX1_length rmX1_length D ad cs [.ref (ad (13 * pp + 3))] M (f_X1_length pp M) := by
  refine Mx.of (cc := cX1_length) (maxL := 1) (ret := (some .int)) (own := RX1) (lv := [(0, .ref (ad (13 * pp + 3)))]) (by decide) rfl rfl (Nat.le_of_ble_eq_true rfl) rfl hi ?_
  intro p e s m below meth c F hr hlk
  unfold f_X1_length
  refine g_aload_n (pc := 0) F 0 dX1_length_0 rfl ?_
  refine g_get (pc := 1) (v := .int (M (13 * pp + 3) 4)) (k := 13 * pp + 3) (ci := 1) (fs := (oX1 ad (pp))) (C := RX1) (T := TX1) (N := 5) F (P_lt hpp (by decide)) (sh_X1 hpp) rfl kiX1_length_X1 4 (by decide) klX1_length_24 rfl rfl dX1_length_1 ?_
  exact g_iret (pc := 4) F hr hlk dX1_length_4
-- X1_has
def rmX1_has : Room := { frames := 0, cells := 0, slots := 0, locals := 0 }
def f_X1_has (pp : Nat) (a1 : Int32) (M : Mem) : Option (Int32 × Mem) := if a1 < 0 then some (0, M) else if (M (13 * pp + 3) 4) ≤ a1 then some (0, M) else some (1, M)
set_option maxRecDepth 20000 in
theorem kiX1_has_X1 : ∀ w ∈ u_ws RX1 TX1 5, w ∈ wsX1_has := by decide +kernel
set_option maxRecDepth 20000 in
theorem klX1_has_24 : Cond.fieldLink RX1 24 "DoorLister$Code" "length" "I" ∈ wsX1_has := by decide +kernel
set_option maxHeartbeats 4000000 in
set_option maxRecDepth 100000 in
theorem c_X1_has (l : Launch) (D : va_G) (ad : Nat → Nat) (cs : Cs) (hi : Inj ad) (pp : Nat) (a1 : Int32) (hpp : pp < 4) (M : Mem) : MI l yX1_has wsX1_has rmX1_has D ad cs [.ref (ad (13 * pp + 3)), .int a1] M (f_X1_has pp a1 M) := by
  refine Mx.of (cc := cX1_has) (maxL := 2) (ret := (some .boolean)) (own := RX1) (lv := [(0, .ref (ad (13 * pp + 3))), (1, .int a1)]) (by decide) rfl rfl (Nat.le_of_ble_eq_true rfl) rfl hi ?_
  intro p e s m below meth c F hr hlk
  unfold f_X1_has
  refine g_iload_n (pc := 0) F 1 dX1_has_0 rfl ?_
  refine g_if_lt (pc := 1) F 16 dX1_has_1 (by decide) ?_ ?_
  · refine g_iconst (pc := 16) (v := 0) F dX1_has_16 (by decide) ?_
    exact g_zret (pc := 17) F hr hlk rfl dX1_has_17
  · refine g_iload_n (pc := 4) F 1 dX1_has_4 rfl ?_
    refine g_aload_n (pc := 5) F 0 dX1_has_5 rfl ?_
    refine g_get (pc := 6) (v := .int (M (13 * pp + 3) 4)) (k := 13 * pp + 3) (ci := 1) (fs := (oX1 ad (pp))) (C := RX1) (T := TX1) (N := 5) F (P_lt hpp (by decide)) (sh_X1 hpp) rfl kiX1_has_X1 4 (by decide) klX1_has_24 rfl rfl dX1_has_6 ?_
    refine g_icmp_ge (pc := 9) F 16 dX1_has_9 (by decide) ?_ ?_
    · refine g_iconst (pc := 16) (v := 0) F dX1_has_16 (by decide) ?_
      exact g_zret (pc := 17) F hr hlk rfl dX1_has_17
    · refine g_iconst (pc := 12) (v := 1) F dX1_has_12 (by decide) ?_
      refine g_goto (pc := 13) F 17 dX1_has_13 (by decide) ?_
      exact g_zret (pc := 17) F hr hlk rfl dX1_has_17
-- X1_isEnd
def rmX1_isEnd : Room := { frames := 1, cells := 0, slots := 0, locals := 21 }
def f_X1_isEnd (pp : Nat) (a1 : Int32) (M : Mem) : Option (Int32 × Mem) := bnd (f_X1_has pp a1 M) (fun r1 M2 => if r1 = 0 then some (1, M2) else if ix a1 24 then if (M2 (13 * pp + 4) a1.toNatClampNeg) = 9 then some (1, M2) else some (0, M2) else none)
set_option maxRecDepth 20000 in
theorem kiX1_isEnd_X1 : ∀ w ∈ u_ws RX1 TX1 5, w ∈ wsX1_isEnd := by decide +kernel
set_option maxRecDepth 20000 in
theorem klX1_isEnd_9 : Cond.fieldLink RX1 9 "DoorLister$Code" "kinds" "[I" ∈ wsX1_isEnd := by decide +kernel
set_option maxHeartbeats 4000000 in
set_option maxRecDepth 100000 in
theorem c_X1_isEnd (l : Launch) (D : va_G) (ad : Nat → Nat) (cs : Cs) (hi : Inj ad) (pp : Nat) (a1 : Int32) (hpp : pp < 4) (M : Mem) : MI l yX1_isEnd wsX1_isEnd rmX1_isEnd D ad cs [.ref (ad (13 * pp + 3)), .int a1] M (f_X1_isEnd pp a1 M) := by
  refine Mx.of (cc := cX1_isEnd) (maxL := 2) (ret := (some .boolean)) (own := RX1) (lv := [(0, .ref (ad (13 * pp + 3))), (1, .int a1)]) (by decide) rfl rfl (Nat.le_of_ble_eq_true rfl) rfl hi ?_
  intro p e s m below meth c F hr hlk
  unfold f_X1_isEnd
  refine g_aload_n (pc := 0) F 0 dX1_isEnd_0 rfl ?_
  refine g_iload_n (pc := 1) F 1 dX1_isEnd_1 rfl ?_
  refine g_vi (pc := 2) (k := 13 * pp + 3) (ci := 1) (fs := (oX1 ad (pp))) (C := RX1) (T := TX1) (N := 5) (As := [.int a1]) (st := []) F (c_X1_has l D ad cs F.2.2.1 pp a1 hpp M) (P_lt hpp (by decide)) (sh_X1 hpp) rfl (cwV 1 F.1.2.2.2.2 gX1_isEnd_X1_has rfl rfl rfl hdV_X1_has ⟨by decide, by decide⟩) rfl rfl (Nat.le_of_ble_eq_true rfl) dX1_isEnd_2 ⟨Nat.zero_le _, Nat.zero_le _⟩ (fun r1 M2 => ?_)
  refine g_if_eq (pc := 5) F 19 dX1_isEnd_5 (by decide) ?_ ?_
  · refine g_iconst (pc := 19) (v := 1) F dX1_isEnd_19 (by decide) ?_
    refine g_goto (pc := 20) F 24 dX1_isEnd_20 (by decide) ?_
    exact g_zret (pc := 24) F hr hlk rfl dX1_isEnd_24
  · refine g_aload_n (pc := 8) F 0 dX1_isEnd_8 rfl ?_
    refine g_get (pc := 9) (v := .ref (ad (13 * pp + 4))) (k := 13 * pp + 3) (ci := 1) (fs := (oX1 ad (pp))) (C := RX1) (T := TX1) (N := 5) F (P_lt hpp (by decide)) (sh_X1 hpp) rfl kiX1_isEnd_X1 0 (by decide) klX1_isEnd_9 rfl rfl dX1_isEnd_9 ?_
    refine g_iload_n (pc := 12) F 1 dX1_isEnd_12 rfl ?_
    refine g_iald (pc := 13) (k := 13 * pp + 4) (n := 24) F (P_lt hpp (by decide)) (sh_a4 hpp) dX1_isEnd_13 ?_
    refine g_bipush (pc := 14) (v := 9) F dX1_isEnd_14 (by decide) ?_
    refine g_icmp_ne (pc := 16) F 23 dX1_isEnd_16 (by decide) ?_ ?_
    · refine g_iconst (pc := 23) (v := 0) F dX1_isEnd_23 (by decide) ?_
      exact g_zret (pc := 24) F hr hlk rfl dX1_isEnd_24
    · refine g_iconst (pc := 19) (v := 1) F dX1_isEnd_19 (by decide) ?_
      refine g_goto (pc := 20) F 24 dX1_isEnd_20 (by decide) ?_
      exact g_zret (pc := 24) F hr hlk rfl dX1_isEnd_24
-- X1_kind
def rmX1_kind : Room := { frames := 0, cells := 0, slots := 0, locals := 0 }
def f_X1_kind (pp : Nat) (a1 : Int32) (M : Mem) : Option (Int32 × Mem) := if ix a1 24 then some (M (13 * pp + 4) a1.toNatClampNeg, M) else none
set_option maxRecDepth 20000 in
theorem kiX1_kind_X1 : ∀ w ∈ u_ws RX1 TX1 5, w ∈ wsX1_kind := by decide +kernel
set_option maxRecDepth 20000 in
theorem klX1_kind_9 : Cond.fieldLink RX1 9 "DoorLister$Code" "kinds" "[I" ∈ wsX1_kind := by decide +kernel
set_option maxHeartbeats 4000000 in
set_option maxRecDepth 100000 in
theorem c_X1_kind (l : Launch) (D : va_G) (ad : Nat → Nat) (cs : Cs) (hi : Inj ad) (pp : Nat) (a1 : Int32) (hpp : pp < 4) (M : Mem) : MI l yX1_kind wsX1_kind rmX1_kind D ad cs [.ref (ad (13 * pp + 3)), .int a1] M (f_X1_kind pp a1 M) := by
  refine Mx.of (cc := cX1_kind) (maxL := 2) (ret := (some .int)) (own := RX1) (lv := [(0, .ref (ad (13 * pp + 3))), (1, .int a1)]) (by decide) rfl rfl (Nat.le_of_ble_eq_true rfl) rfl hi ?_
  intro p e s m below meth c F hr hlk
  unfold f_X1_kind
  refine g_aload_n (pc := 0) F 0 dX1_kind_0 rfl ?_
  refine g_get (pc := 1) (v := .ref (ad (13 * pp + 4))) (k := 13 * pp + 3) (ci := 1) (fs := (oX1 ad (pp))) (C := RX1) (T := TX1) (N := 5) F (P_lt hpp (by decide)) (sh_X1 hpp) rfl kiX1_kind_X1 0 (by decide) klX1_kind_9 rfl rfl dX1_kind_1 ?_
  refine g_iload_n (pc := 4) F 1 dX1_kind_4 rfl ?_
  refine g_iald (pc := 5) (k := 13 * pp + 4) (n := 24) F (P_lt hpp (by decide)) (sh_a4 hpp) dX1_kind_5 ?_
  exact g_iret (pc := 6) F hr hlk dX1_kind_6
-- X1_x
def rmX1_x : Room := { frames := 0, cells := 0, slots := 0, locals := 0 }
def f_X1_x (pp : Nat) (a1 : Int32) (M : Mem) : Option (Int32 × Mem) := if ix a1 24 then some (M (13 * pp + 5) a1.toNatClampNeg, M) else none
set_option maxRecDepth 20000 in
theorem kiX1_x_X1 : ∀ w ∈ u_ws RX1 TX1 5, w ∈ wsX1_x := by decide +kernel
set_option maxRecDepth 20000 in
theorem klX1_x_15 : Cond.fieldLink RX1 15 "DoorLister$Code" "xs" "[I" ∈ wsX1_x := by decide +kernel
set_option maxHeartbeats 4000000 in
set_option maxRecDepth 100000 in
theorem c_X1_x (l : Launch) (D : va_G) (ad : Nat → Nat) (cs : Cs) (hi : Inj ad) (pp : Nat) (a1 : Int32) (hpp : pp < 4) (M : Mem) : MI l yX1_x wsX1_x rmX1_x D ad cs [.ref (ad (13 * pp + 3)), .int a1] M (f_X1_x pp a1 M) := by
  refine Mx.of (cc := cX1_x) (maxL := 2) (ret := (some .int)) (own := RX1) (lv := [(0, .ref (ad (13 * pp + 3))), (1, .int a1)]) (by decide) rfl rfl (Nat.le_of_ble_eq_true rfl) rfl hi ?_
  intro p e s m below meth c F hr hlk
  unfold f_X1_x
  refine g_aload_n (pc := 0) F 0 dX1_x_0 rfl ?_
  refine g_get (pc := 1) (v := .ref (ad (13 * pp + 5))) (k := 13 * pp + 3) (ci := 1) (fs := (oX1 ad (pp))) (C := RX1) (T := TX1) (N := 5) F (P_lt hpp (by decide)) (sh_X1 hpp) rfl kiX1_x_X1 1 (by decide) klX1_x_15 rfl rfl dX1_x_1 ?_
  refine g_iload_n (pc := 4) F 1 dX1_x_4 rfl ?_
  refine g_iald (pc := 5) (k := 13 * pp + 5) (n := 24) F (P_lt hpp (by decide)) (sh_a5 hpp) dX1_x_5 ?_
  exact g_iret (pc := 6) F hr hlk dX1_x_6
-- X1_n
def rmX1_n : Room := { frames := 0, cells := 0, slots := 0, locals := 0 }
def f_X1_n (pp : Nat) (a1 : Int32) (M : Mem) : Option (Int32 × Mem) := if ix a1 24 then some (M (13 * pp + 6) a1.toNatClampNeg, M) else none
set_option maxRecDepth 20000 in
theorem kiX1_n_X1 : ∀ w ∈ u_ws RX1 TX1 5, w ∈ wsX1_n := by decide +kernel
set_option maxRecDepth 20000 in
theorem klX1_n_18 : Cond.fieldLink RX1 18 "DoorLister$Code" "ns" "[I" ∈ wsX1_n := by decide +kernel
set_option maxHeartbeats 4000000 in
set_option maxRecDepth 100000 in
theorem c_X1_n (l : Launch) (D : va_G) (ad : Nat → Nat) (cs : Cs) (hi : Inj ad) (pp : Nat) (a1 : Int32) (hpp : pp < 4) (M : Mem) : MI l yX1_n wsX1_n rmX1_n D ad cs [.ref (ad (13 * pp + 3)), .int a1] M (f_X1_n pp a1 M) := by
  refine Mx.of (cc := cX1_n) (maxL := 2) (ret := (some .int)) (own := RX1) (lv := [(0, .ref (ad (13 * pp + 3))), (1, .int a1)]) (by decide) rfl rfl (Nat.le_of_ble_eq_true rfl) rfl hi ?_
  intro p e s m below meth c F hr hlk
  unfold f_X1_n
  refine g_aload_n (pc := 0) F 0 dX1_n_0 rfl ?_
  refine g_get (pc := 1) (v := .ref (ad (13 * pp + 6))) (k := 13 * pp + 3) (ci := 1) (fs := (oX1 ad (pp))) (C := RX1) (T := TX1) (N := 5) F (P_lt hpp (by decide)) (sh_X1 hpp) rfl kiX1_n_X1 2 (by decide) klX1_n_18 rfl rfl dX1_n_1 ?_
  refine g_iload_n (pc := 4) F 1 dX1_n_4 rfl ?_
  refine g_iald (pc := 5) (k := 13 * pp + 6) (n := 24) F (P_lt hpp (by decide)) (sh_a6 hpp) dX1_n_5 ?_
  exact g_iret (pc := 6) F hr hlk dX1_n_6
-- X1_to
def rmX1_to : Room := { frames := 0, cells := 0, slots := 0, locals := 0 }
def f_X1_to (pp : Nat) (a1 : Int32) (M : Mem) : Option (Int32 × Mem) := if ix a1 24 then some (M (13 * pp + 7) a1.toNatClampNeg, M) else none
set_option maxRecDepth 20000 in
theorem kiX1_to_X1 : ∀ w ∈ u_ws RX1 TX1 5, w ∈ wsX1_to := by decide +kernel
set_option maxRecDepth 20000 in
theorem klX1_to_21 : Cond.fieldLink RX1 21 "DoorLister$Code" "tos" "[I" ∈ wsX1_to := by decide +kernel
set_option maxHeartbeats 4000000 in
set_option maxRecDepth 100000 in
theorem c_X1_to (l : Launch) (D : va_G) (ad : Nat → Nat) (cs : Cs) (hi : Inj ad) (pp : Nat) (a1 : Int32) (hpp : pp < 4) (M : Mem) : MI l yX1_to wsX1_to rmX1_to D ad cs [.ref (ad (13 * pp + 3)), .int a1] M (f_X1_to pp a1 M) := by
  refine Mx.of (cc := cX1_to) (maxL := 2) (ret := (some .int)) (own := RX1) (lv := [(0, .ref (ad (13 * pp + 3))), (1, .int a1)]) (by decide) rfl rfl (Nat.le_of_ble_eq_true rfl) rfl hi ?_
  intro p e s m below meth c F hr hlk
  unfold f_X1_to
  refine g_aload_n (pc := 0) F 0 dX1_to_0 rfl ?_
  refine g_get (pc := 1) (v := .ref (ad (13 * pp + 7))) (k := 13 * pp + 3) (ci := 1) (fs := (oX1 ad (pp))) (C := RX1) (T := TX1) (N := 5) F (P_lt hpp (by decide)) (sh_X1 hpp) rfl kiX1_to_X1 3 (by decide) klX1_to_21 rfl rfl dX1_to_1 ?_
  refine g_iload_n (pc := 4) F 1 dX1_to_4 rfl ?_
  refine g_iald (pc := 5) (k := 13 * pp + 7) (n := 24) F (P_lt hpp (by decide)) (sh_a7 hpp) dX1_to_5 ?_
  exact g_iret (pc := 6) F hr hlk dX1_to_6
-- X1_grow
def rmX1_grow : Room := { frames := 0, cells := 0, slots := 0, locals := 0 }
def f_X1_grow (pp : Nat) (M : Mem) : Option (Int32 × Mem) := if (M (13 * pp + 3) 4) < 24 then wr M (13 * pp + 3) 4 ((M (13 * pp + 3) 4) + (1 : Int32)) (fun M1 => some (1, M1)) else some (0, M)
set_option maxRecDepth 20000 in
theorem kiX1_grow_X1 : ∀ w ∈ u_ws RX1 TX1 5, w ∈ wsX1_grow := by decide +kernel
set_option maxRecDepth 20000 in
theorem klX1_grow_24 : Cond.fieldLink RX1 24 "DoorLister$Code" "length" "I" ∈ wsX1_grow := by decide +kernel
set_option maxHeartbeats 4000000 in
set_option maxRecDepth 100000 in
theorem c_X1_grow (l : Launch) (D : va_G) (ad : Nat → Nat) (cs : Cs) (hi : Inj ad) (pp : Nat) (hpp : pp < 4) (M : Mem) : MI l yX1_grow wsX1_grow rmX1_grow D ad cs [.ref (ad (13 * pp + 3))] M (f_X1_grow pp M) := by
  refine Mx.of (cc := cX1_grow) (maxL := 1) (ret := (some .boolean)) (own := RX1) (lv := [(0, .ref (ad (13 * pp + 3)))]) (by decide) rfl rfl (Nat.le_of_ble_eq_true rfl) rfl hi ?_
  intro p e s m below meth c F hr hlk
  unfold f_X1_grow
  refine g_aload_n (pc := 0) F 0 dX1_grow_0 rfl ?_
  refine g_get (pc := 1) (v := .int (M (13 * pp + 3) 4)) (k := 13 * pp + 3) (ci := 1) (fs := (oX1 ad (pp))) (C := RX1) (T := TX1) (N := 5) F (P_lt hpp (by decide)) (sh_X1 hpp) rfl kiX1_grow_X1 4 (by decide) klX1_grow_24 rfl rfl dX1_grow_1 ?_
  refine g_bipush (pc := 4) (v := 24) F dX1_grow_4 (by decide) ?_
  refine g_icmp_lt (pc := 6) F 11 dX1_grow_6 (by decide) ?_ ?_
  · refine g_aload_n (pc := 11) F 0 dX1_grow_11 rfl ?_
    refine g_dup (pc := 12) F rfl dX1_grow_12 ?_
    refine g_get (pc := 13) (v := .int (M (13 * pp + 3) 4)) (k := 13 * pp + 3) (ci := 1) (fs := (oX1 ad (pp))) (C := RX1) (T := TX1) (N := 5) F (P_lt hpp (by decide)) (sh_X1 hpp) rfl kiX1_grow_X1 4 (by decide) klX1_grow_24 rfl rfl dX1_grow_13 ?_
    refine g_iconst (pc := 16) (v := 1) F dX1_grow_16 (by decide) ?_
    refine g_iadd (pc := 17) F dX1_grow_17 ?_
    refine g_put (pc := 18) (k := 13 * pp + 3) (ci := 1) (fs := (oX1 ad (pp))) (C := RX1) (T := TX1) (N := 5) F (P_lt hpp (by decide)) (sh_X1 hpp) rfl kiX1_grow_X1 tyX1 tyX1_ok nmX1 4 (by decide) klX1_grow_24 rfl rfl rfl rfl (fun _ => rfl) (Nat.le_of_ble_eq_true rfl) dX1_grow_18 (fun M1 => ?_)
    refine g_iconst (pc := 21) (v := 1) F dX1_grow_21 (by decide) ?_
    exact g_zret (pc := 22) F hr hlk rfl dX1_grow_22
  · refine g_iconst (pc := 9) (v := 0) F dX1_grow_9 (by decide) ?_
    exact g_zret (pc := 10) F hr hlk rfl dX1_grow_10
-- X1_put
def rmX1_put : Room := { frames := 0, cells := 0, slots := 0, locals := 0 }
def f_X1_put (pp : Nat) (a1 : Int32) (a2 : Int32) (a3 : Int32) (a4 : Int32) (a5 : Int32) (M : Mem) : Option (Int32 × Mem) := if ix a1 24 then wr M (13 * pp + 4) a1.toNatClampNeg a2 (fun M1 => if ix a1 24 then wr M1 (13 * pp + 5) a1.toNatClampNeg a3 (fun M2 => if ix a1 24 then wr M2 (13 * pp + 6) a1.toNatClampNeg a4 (fun M3 => if ix a1 24 then wr M3 (13 * pp + 7) a1.toNatClampNeg a5 (fun M4 => some (0, M4)) else none) else none) else none) else none
set_option maxRecDepth 20000 in
theorem kiX1_put_X1 : ∀ w ∈ u_ws RX1 TX1 5, w ∈ wsX1_put := by decide +kernel
set_option maxRecDepth 20000 in
theorem klX1_put_9 : Cond.fieldLink RX1 9 "DoorLister$Code" "kinds" "[I" ∈ wsX1_put := by decide +kernel
set_option maxRecDepth 20000 in
theorem klX1_put_15 : Cond.fieldLink RX1 15 "DoorLister$Code" "xs" "[I" ∈ wsX1_put := by decide +kernel
set_option maxRecDepth 20000 in
theorem klX1_put_18 : Cond.fieldLink RX1 18 "DoorLister$Code" "ns" "[I" ∈ wsX1_put := by decide +kernel
set_option maxRecDepth 20000 in
theorem klX1_put_21 : Cond.fieldLink RX1 21 "DoorLister$Code" "tos" "[I" ∈ wsX1_put := by decide +kernel
set_option maxHeartbeats 4000000 in
set_option maxRecDepth 100000 in
theorem c_X1_put (l : Launch) (D : va_G) (ad : Nat → Nat) (cs : Cs) (hi : Inj ad) (pp : Nat) (a1 : Int32) (a2 : Int32) (a3 : Int32) (a4 : Int32) (a5 : Int32) (hpp : pp < 4) (M : Mem) : MV l yX1_put wsX1_put rmX1_put D ad cs [.ref (ad (13 * pp + 3)), .int a1, .int a2, .int a3, .int a4, .int a5] M (f_X1_put pp a1 a2 a3 a4 a5 M) := by
  refine Mx.of (cc := cX1_put) (maxL := 6) (ret := none) (own := RX1) (lv := [(0, .ref (ad (13 * pp + 3))), (1, .int a1), (2, .int a2), (3, .int a3), (4, .int a4), (5, .int a5)]) (by decide) rfl rfl (Nat.le_of_ble_eq_true rfl) rfl hi ?_
  intro p e s m below meth c F hr hlk
  unfold f_X1_put
  refine g_aload_n (pc := 0) F 0 dX1_put_0 rfl ?_
  refine g_get (pc := 1) (v := .ref (ad (13 * pp + 4))) (k := 13 * pp + 3) (ci := 1) (fs := (oX1 ad (pp))) (C := RX1) (T := TX1) (N := 5) F (P_lt hpp (by decide)) (sh_X1 hpp) rfl kiX1_put_X1 0 (by decide) klX1_put_9 rfl rfl dX1_put_1 ?_
  refine g_iload_n (pc := 4) F 1 dX1_put_4 rfl ?_
  refine g_iload_n (pc := 5) F 2 dX1_put_5 rfl ?_
  refine g_iast (pc := 6) (k := 13 * pp + 4) (n := 24) F (P_lt hpp (by decide)) (sh_a4 hpp) dX1_put_6 (fun M1 => ?_)
  refine g_aload_n (pc := 7) F 0 dX1_put_7 rfl ?_
  refine g_get (pc := 8) (v := .ref (ad (13 * pp + 5))) (k := 13 * pp + 3) (ci := 1) (fs := (oX1 ad (pp))) (C := RX1) (T := TX1) (N := 5) F (P_lt hpp (by decide)) (sh_X1 hpp) rfl kiX1_put_X1 1 (by decide) klX1_put_15 rfl rfl dX1_put_8 ?_
  refine g_iload_n (pc := 11) F 1 dX1_put_11 rfl ?_
  refine g_iload_n (pc := 12) F 3 dX1_put_12 rfl ?_
  refine g_iast (pc := 13) (k := 13 * pp + 5) (n := 24) F (P_lt hpp (by decide)) (sh_a5 hpp) dX1_put_13 (fun M2 => ?_)
  refine g_aload_n (pc := 14) F 0 dX1_put_14 rfl ?_
  refine g_get (pc := 15) (v := .ref (ad (13 * pp + 6))) (k := 13 * pp + 3) (ci := 1) (fs := (oX1 ad (pp))) (C := RX1) (T := TX1) (N := 5) F (P_lt hpp (by decide)) (sh_X1 hpp) rfl kiX1_put_X1 2 (by decide) klX1_put_18 rfl rfl dX1_put_15 ?_
  refine g_iload_n (pc := 18) F 1 dX1_put_18 rfl ?_
  refine g_iload (pc := 19) F 4 dX1_put_19 rfl ?_
  refine g_iast (pc := 21) (k := 13 * pp + 6) (n := 24) F (P_lt hpp (by decide)) (sh_a6 hpp) dX1_put_21 (fun M3 => ?_)
  refine g_aload_n (pc := 22) F 0 dX1_put_22 rfl ?_
  refine g_get (pc := 23) (v := .ref (ad (13 * pp + 7))) (k := 13 * pp + 3) (ci := 1) (fs := (oX1 ad (pp))) (C := RX1) (T := TX1) (N := 5) F (P_lt hpp (by decide)) (sh_X1 hpp) rfl kiX1_put_X1 3 (by decide) klX1_put_21 rfl rfl dX1_put_23 ?_
  refine g_iload_n (pc := 26) F 1 dX1_put_26 rfl ?_
  refine g_iload (pc := 27) F 5 dX1_put_27 rfl ?_
  refine g_iast (pc := 29) (k := 13 * pp + 7) (n := 24) F (P_lt hpp (by decide)) (sh_a7 hpp) dX1_put_29 (fun M4 => ?_)
  exact g_vret (pc := 30) F hr hlk dX1_put_30
