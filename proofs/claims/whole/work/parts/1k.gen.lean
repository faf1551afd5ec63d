/-! Written by wip/whole/gen.py: pure functions of methods, and the walks that tie the bytecode to them. -/
-- X9_goesOn
def rmX9_goesOn : Room := { frames := 2, cells := 0, slots := 0, locals := 48 }
def f_X9_goesOn_L254 (x2 : Int32) (x4 : Int32) (x5 : Int32) (x6 : Int32) (x7 : Int32) (x8 : Int32) (k : Mem → Int32 → Option (Int32 × Mem)) : Nat → Mem → Int32 → Option (Int32 × Mem)
  | 0, _, _ => none
  | n + 1, M, x10 => if 32 ≤ x10 then k M x10 else if ix x7 96 then bnd (f_X9_with x4 x5 x6 x8 (M (74) x7.toNatClampNeg) x10 M) (fun r29 M30 => bnd (f_X9_finds r29 x2 M30) (fun r31 M32 => f_X9_goesOn_L254 x2 x4 x5 x6 x7 x8 k n M32 (x10 + 1))) else none
def f_X9_goesOn (fu : Nat) (a1 : Int32) (a2 : Int32) (M : Mem) : Option (Int32 × Mem) := nm (a2 / 2048) (fun v1 => if ix a1 4 then if v1 < (M (72) a1.toNatClampNeg) then nm ((a2 / 1024) - (a2 / 1024) / 2 * 2) (fun v2 => nm ((a2 / 32) - (a2 / 32) / 32 * 32) (fun v3 => nm (a2 - a2 / 32 * 32) (fun v4 => nm (((24 : Int32) * a1) + v1) (fun v5 => bnd (f_X9_endOf a1 (v1 + (1 : Int32)) M) (fun r6 M7 => if ix v5 96 then if (M7 (74) v5.toNatClampNeg) = 0 then if ix v5 96 then nm (M7 (73) v5.toNatClampNeg) (fun v70 => if v70 = 0 then if ix v5 96 then if ix v5 96 then bnd (f_X9_with v2 v3 v4 r6 (M7 (74) v5.toNatClampNeg) (M7 (75) v5.toNatClampNeg) M7) (fun r72 M73 => bnd (f_X9_finds r72 a2 M73) (fun r74 M75 => some (0, M75))) else none else none else if v70 = 1 then if ix v5 96 then if ix v5 96 then bnd (f_X9_with v2 v3 v4 r6 (M7 (74) v5.toNatClampNeg) ((v3 + (M7 (75) v5.toNatClampNeg)) - (v3 + (M7 (75) v5.toNatClampNeg)) / 32 * 32) M7) (fun r77 M78 => bnd (f_X9_finds r77 a2 M78) (fun r79 M80 => some (0, M80))) else none else none else if v70 = 2 then if ix v5 96 then if ix v5 96 then if (M7 (74) v5.toNatClampNeg) = 0 then bnd (f_X9_with v2 v3 v4 r6 (M7 (74) v5.toNatClampNeg) v4 M7) (fun r86 M87 => bnd (f_X9_finds r86 a2 M87) (fun r88 M89 => some (0, M89))) else bnd (f_X9_with v2 v3 v4 r6 (M7 (74) v5.toNatClampNeg) v3 M7) (fun r82 M83 => bnd (f_X9_finds r82 a2 M83) (fun r84 M85 => some (0, M85))) else none else none else if v70 = 3 then f_X9_goesOn_L254 a2 v2 v3 v4 v5 r6 (fun M91 y92 => some (0, M91)) fu M7 0 else if v70 = 4 then if ix v5 96 then if ix v5 96 then bnd (f_X9_with v2 v3 v4 r6 (M7 (74) v5.toNatClampNeg) (v3 &&& (M7 (75) v5.toNatClampNeg)) M7) (fun r94 M95 => bnd (f_X9_finds r94 a2 M95) (fun r96 M97 => some (0, M97))) else none else none else if v70 = 5 then if ix v5 96 then if (M7 (75) v5.toNatClampNeg) ≤ v3 then bnd (f_X9_stateOf r6 v2 v3 v4 M7) (fun r99 M100 => bnd (f_X9_finds r99 a2 M100) (fun r101 M102 => some (0, M102))) else if ix v5 96 then bnd (f_X9_endOf a1 (M7 (76) v5.toNatClampNeg) M7) (fun r103 M104 => bnd (f_X9_stateOf r103 v2 v3 v4 M104) (fun r105 M106 => bnd (f_X9_finds r105 a2 M106) (fun r107 M108 => some (0, M108)))) else none else none else if v70 = 6 then if ix v5 96 then bnd (f_X9_endOf a1 (M7 (76) v5.toNatClampNeg) M7) (fun r110 M111 => bnd (f_X9_stateOf r110 v2 v3 v4 M111) (fun r112 M113 => bnd (f_X9_finds r112 a2 M113) (fun r114 M115 => some (0, M115)))) else none else if v70 = 7 then nm ((((64 : Int32) * a1) + ((32 : Int32) * v2)) + v3) (fun v117 => if ix v117 256 then if ix v117 256 then wr M7 (77) v117.toNatClampNeg ((M7 (77) v117.toNatClampNeg) ||| ((1 : Int32) <<< (v4 &&& 31))) (fun M118 => bnd (f_X9_stateOf r6 v2 v3 v4 M118) (fun r119 M120 => bnd (f_X9_finds r119 a2 M120) (fun r121 M122 => some (0, M122)))) else none else none) else if v70 = 8 then bnd (f_X9_stateOf r6 1 v3 v4 M7) (fun r124 M125 => bnd (f_X9_finds r124 a2 M125) (fun r126 M127 => some (0, M127))) else some (0, M7)) else none else if ix v5 96 then nm (M7 (73) v5.toNatClampNeg) (fun v8 => if v8 = 0 then if ix v5 96 then if ix v5 96 then bnd (f_X9_with v2 v3 v4 r6 (M7 (74) v5.toNatClampNeg) (M7 (75) v5.toNatClampNeg) M7) (fun r10 M11 => bnd (f_X9_finds r10 a2 M11) (fun r12 M13 => some (0, M13))) else none else none else if v8 = 1 then if ix v5 96 then if ix v5 96 then bnd (f_X9_with v2 v3 v4 r6 (M7 (74) v5.toNatClampNeg) ((v4 + (M7 (75) v5.toNatClampNeg)) - (v4 + (M7 (75) v5.toNatClampNeg)) / 32 * 32) M7) (fun r15 M16 => bnd (f_X9_finds r15 a2 M16) (fun r17 M18 => some (0, M18))) else none else none else if v8 = 2 then if ix v5 96 then if ix v5 96 then if (M7 (74) v5.toNatClampNeg) = 0 then bnd (f_X9_with v2 v3 v4 r6 (M7 (74) v5.toNatClampNeg) v4 M7) (fun r24 M25 => bnd (f_X9_finds r24 a2 M25) (fun r26 M27 => some (0, M27))) else bnd (f_X9_with v2 v3 v4 r6 (M7 (74) v5.toNatClampNeg) v3 M7) (fun r20 M21 => bnd (f_X9_finds r20 a2 M21) (fun r22 M23 => some (0, M23))) else none else none else if v8 = 3 then f_X9_goesOn_L254 a2 v2 v3 v4 v5 r6 (fun M33 y34 => some (0, M33)) fu M7 0 else if v8 = 4 then if ix v5 96 then if ix v5 96 then bnd (f_X9_with v2 v3 v4 r6 (M7 (74) v5.toNatClampNeg) (v4 &&& (M7 (75) v5.toNatClampNeg)) M7) (fun r36 M37 => bnd (f_X9_finds r36 a2 M37) (fun r38 M39 => some (0, M39))) else none else none else if v8 = 5 then if ix v5 96 then if (M7 (75) v5.toNatClampNeg) ≤ v4 then bnd (f_X9_stateOf r6 v2 v3 v4 M7) (fun r41 M42 => bnd (f_X9_finds r41 a2 M42) (fun r43 M44 => some (0, M44))) else if ix v5 96 then bnd (f_X9_endOf a1 (M7 (76) v5.toNatClampNeg) M7) (fun r45 M46 => bnd (f_X9_stateOf r45 v2 v3 v4 M46) (fun r47 M48 => bnd (f_X9_finds r47 a2 M48) (fun r49 M50 => some (0, M50)))) else none else none else if v8 = 6 then if ix v5 96 then bnd (f_X9_endOf a1 (M7 (76) v5.toNatClampNeg) M7) (fun r52 M53 => bnd (f_X9_stateOf r52 v2 v3 v4 M53) (fun r54 M55 => bnd (f_X9_finds r54 a2 M55) (fun r56 M57 => some (0, M57)))) else none else if v8 = 7 then nm ((((64 : Int32) * a1) + ((32 : Int32) * v2)) + v3) (fun v59 => if ix v59 256 then if ix v59 256 then wr M7 (77) v59.toNatClampNeg ((M7 (77) v59.toNatClampNeg) ||| ((1 : Int32) <<< (v4 &&& 31))) (fun M60 => bnd (f_X9_stateOf r6 v2 v3 v4 M60) (fun r61 M62 => bnd (f_X9_finds r61 a2 M62) (fun r63 M64 => some (0, M64)))) else none else none) else if v8 = 8 then bnd (f_X9_stateOf r6 1 v3 v4 M7) (fun r66 M67 => bnd (f_X9_finds r66 a2 M67) (fun r68 M69 => some (0, M69))) else some (0, M7)) else none else none))))) else some (0, M) else none)
set_option maxRecDepth 20000 in
theorem kiX9_goesOn_X9 : ∀ w ∈ u_ws RX9 TX9 33, w ∈ wsX9_goesOn := by decide +kernel
set_option maxRecDepth 20000 in
theorem klX9_goesOn_17 : Cond.fieldLink RX9 17 "DoorListerModel" "size" "[I" ∈ wsX9_goesOn := by decide +kernel
set_option maxRecDepth 20000 in
theorem klX9_goesOn_24 : Cond.fieldLink RX9 24 "DoorListerModel" "reg" "[I" ∈ wsX9_goesOn := by decide +kernel
set_option maxRecDepth 20000 in
theorem klX9_goesOn_21 : Cond.fieldLink RX9 21 "DoorListerModel" "kind" "[I" ∈ wsX9_goesOn := by decide +kernel
set_option maxRecDepth 20000 in
theorem klX9_goesOn_27 : Cond.fieldLink RX9 27 "DoorListerModel" "num" "[I" ∈ wsX9_goesOn := by decide +kernel
set_option maxRecDepth 20000 in
theorem klX9_goesOn_30 : Cond.fieldLink RX9 30 "DoorListerModel" "to" "[I" ∈ wsX9_goesOn := by decide +kernel
set_option maxRecDepth 20000 in
theorem klX9_goesOn_33 : Cond.fieldLink RX9 33 "DoorListerModel" "need" "[I" ∈ wsX9_goesOn := by decide +kernel
set_option maxHeartbeats 4000000 in
set_option maxRecDepth 100000 in
theorem w_X9_goesOn_L254 {p : Program} {l : Launch} {e : Env} {s : State} {m : MethodId} {args : Array Value} {below : List Frame} {meth : Method} {c : Code} {D : va_G} {ad : Nat → Nat} {cs : Cs}  (x2 : Int32) (x4 : Int32) (x5 : Int32) (x6 : Int32) (x7 : Int32) (x8 : Int32) (F : Fx p m c cX9_goesOn 11 s args wsX9_goesOn RX9 D ad cs (Ad ad)) (hr : meth.sig.returnType = none) (hlk : meth.locks = false) (k : Mem → Int32 → Option (Int32 × Mem)) (hkx : ∀ (M : Mem) (x10 : Int32), GoX p l e rmX9_goesOn s m args below meth c 0 0 11 (fun rM => MQ below (cQv D ad cs rM) args s 0 0 (Ad ad)) D ad cs (Ad ad) M 292 [(0, .ref (ad (70))), (2, .int x2), (4, .int x4), (5, .int x5), (6, .int x6), (7, .int x7), (8, .int x8), (10, .int x10)] [] (k M x10)) : ∀ (n : Nat) (M : Mem) (x10 : Int32), GoX p l e rmX9_goesOn s m args below meth c 0 0 11 (fun rM => MQ below (cQv D ad cs rM) args s 0 0 (Ad ad)) D ad cs (Ad ad) M 254 [(0, .ref (ad (70))), (2, .int x2), (4, .int x4), (5, .int x5), (6, .int x6), (7, .int x7), (8, .int x8), (10, .int x10)] [] (f_X9_goesOn_L254 x2 x4 x5 x6 x7 x8 k n M x10) := by
  intro n
  induction n with
  | zero => intro M x10; exact g_none
  | succ n ih =>
    intro M x10
    unfold f_X9_goesOn_L254
    refine g_iload (pc := 254) F 7 dX9_goesOn_254 rfl ?_
    refine g_bipush (pc := 256) (v := 32) F dX9_goesOn_256 (by decide) ?_
    refine g_icmp_ge (pc := 258) F 292 dX9_goesOn_258 (by decide) ?_ ?_
    · exact hkx _ _
    · refine g_aload_n (pc := 261) F 0 dX9_goesOn_261 rfl ?_
      refine g_iload (pc := 262) F 2 dX9_goesOn_262 rfl ?_
      refine g_iload (pc := 264) F 3 dX9_goesOn_264 rfl ?_
      refine g_iload (pc := 266) F 4 dX9_goesOn_266 rfl ?_
      refine g_iload (pc := 268) F 6 dX9_goesOn_268 rfl ?_
      refine g_aload_n (pc := 270) F 0 dX9_goesOn_270 rfl ?_
      refine g_get (pc := 271) (v := .ref (ad (74))) (k := 70) (ci := 9) (fs := (oX9 ad)) (C := RX9) (T := TX9) (N := 33) F (by decide) (fun _ => rfl) rfl kiX9_goesOn_X9 5 (by decide) klX9_goesOn_24 rfl rfl dX9_goesOn_271 ?_
      refine g_iload (pc := 274) F 5 dX9_goesOn_274 rfl ?_
      refine g_iald (pc := 276) (k := 74) (n := 96) F (by decide) (fun _ => rfl) dX9_goesOn_276 ?_
      refine g_iload (pc := 277) F 7 dX9_goesOn_277 rfl ?_
      refine g_si (pc := 279) (As := [.int x4, .int x5, .int x6, .int x8, .int (M (74) x7.toNatClampNeg), .int x10]) (st := [.ref (ad (70))]) F (c_X9_with l D ad cs F.2.2.1 x4 x5 x6 x8 (M (74) x7.toNatClampNeg) x10 M) (va_cwS 6 F.1.2.2.2.2 gX9_goesOn_X9_with rfl rfl rfl hdS_X9_with ⟨by decide, by decide⟩) rfl rfl (Nat.le_of_ble_eq_true rfl) dX9_goesOn_279 ⟨Nat.zero_le _, Nat.zero_le _⟩ (fun r29 M30 => ?_)
      refine g_iload_n (pc := 282) F 1 dX9_goesOn_282 rfl ?_
      refine g_vv (pc := 283) (k := 70) (ci := 9) (fs := (oX9 ad)) (C := RX9) (T := TX9) (N := 33) (As := [.int r29, .int x2]) (st := []) F (c_X9_finds l D ad cs F.2.2.1 r29 x2 M30) (by decide) (fun _ => rfl) rfl (cwV 2 F.1.2.2.2.2 gX9_goesOn_X9_finds rfl rfl rfl hdV_X9_finds ⟨by decide, by decide⟩) rfl rfl (Nat.le_of_ble_eq_true rfl) dX9_goesOn_283 ⟨Nat.zero_le _, Nat.zero_le _⟩ (fun r31 M32 => ?_)
      refine g_iinc (pc := 286) (v := x10 + 1) F [(0, .ref (ad (70))), (2, .int x2), (4, .int x4), (5, .int x5), (6, .int x6), (7, .int x7), (8, .int x8), (10, .int (x10 + 1))] 7 dX9_goesOn_286 rfl rfl (by decide) rfl rfl rfl ?_
      refine g_goto (pc := 289) F 254 dX9_goesOn_289 (by decide) ?_
      exact ih _ _
set_option maxHeartbeats 4000000 in
set_option maxRecDepth 100000 in
theorem c_X9_goesOn (l : Launch) (D : va_G) (ad : Nat → Nat) (cs : Cs) (hi : Inj ad) (fu : Nat) (a1 : Int32) (a2 : Int32) (M : Mem) : MV l yX9_goesOn wsX9_goesOn rmX9_goesOn D ad cs [.ref (ad (70)), .int a1, .int a2] M (f_X9_goesOn fu a1 a2 M) := by
  refine Mx.of (cc := cX9_goesOn) (maxL := 11) (ret := none) (own := RX9) (lv := [(0, .ref (ad (70))), (1, .int a1), (2, .int a2)]) (by decide) rfl rfl (Nat.le_of_ble_eq_true rfl) rfl hi ?_
  intro p e s m below meth c F hr hlk
  unfold f_X9_goesOn
  refine g_iload_n (pc := 0) F 2 dX9_goesOn_0 rfl ?_
  refine g_sipush (pc := 1) (v := 2048) F dX9_goesOn_1 (by decide) ?_
  refine g_idiv (pc := 4) F (by decide) dX9_goesOn_4 ?_
  refine g_nm (fun v1 => ?_)
  refine g_istore_n (pc := 5) F [(0, .ref (ad (70))), (1, .int a1), (2, .int a2), (3, .int v1)] dX9_goesOn_5 (by decide) rfl rfl rfl ?_
  refine g_iload_n (pc := 6) F 3 dX9_goesOn_6 rfl ?_
  refine g_aload_n (pc := 7) F 0 dX9_goesOn_7 rfl ?_
  refine g_get (pc := 8) (v := .ref (ad (72))) (k := 70) (ci := 9) (fs := (oX9 ad)) (C := RX9) (T := TX9) (N := 33) F (by decide) (fun _ => rfl) rfl kiX9_goesOn_X9 3 (by decide) klX9_goesOn_17 rfl rfl dX9_goesOn_8 ?_
  refine g_iload_n (pc := 11) F 1 dX9_goesOn_11 rfl ?_
  refine g_iald (pc := 12) (k := 72) (n := 4) F (by decide) (fun _ => rfl) dX9_goesOn_12 ?_
  refine g_icmp_lt (pc := 13) F 17 dX9_goesOn_13 (by decide) ?_ ?_
  · refine g_iload_n (pc := 17) F 2 dX9_goesOn_17 rfl ?_
    refine g_sipush (pc := 18) (v := 1024) F dX9_goesOn_18 (by decide) ?_
    refine g_idiv (pc := 21) F (by decide) dX9_goesOn_21 ?_
    refine g_iconst (pc := 22) (v := 2) F dX9_goesOn_22 (by decide) ?_
    refine g_irem (pc := 23) F (by decide) dX9_goesOn_23 ?_
    refine g_nm (fun v2 => ?_)
    refine g_istore (pc := 24) F [(0, .ref (ad (70))), (1, .int a1), (2, .int a2), (3, .int v1), (4, .int v2)] dX9_goesOn_24 (by decide) rfl rfl rfl ?_
    refine g_iload_n (pc := 26) F 2 dX9_goesOn_26 rfl ?_
    refine g_bipush (pc := 27) (v := 32) F dX9_goesOn_27 (by decide) ?_
    refine g_idiv (pc := 29) F (by decide) dX9_goesOn_29 ?_
    refine g_bipush (pc := 30) (v := 32) F dX9_goesOn_30 (by decide) ?_
    refine g_irem (pc := 32) F (by decide) dX9_goesOn_32 ?_
    refine g_nm (fun v3 => ?_)
    refine g_istore (pc := 33) F [(0, .ref (ad (70))), (1, .int a1), (2, .int a2), (3, .int v1), (4, .int v2), (5, .int v3)] dX9_goesOn_33 (by decide) rfl rfl rfl ?_
    refine g_iload_n (pc := 35) F 2 dX9_goesOn_35 rfl ?_
    refine g_bipush (pc := 36) (v := 32) F dX9_goesOn_36 (by decide) ?_
    refine g_irem (pc := 38) F (by decide) dX9_goesOn_38 ?_
    refine g_nm (fun v4 => ?_)
    refine g_istore (pc := 39) F [(0, .ref (ad (70))), (1, .int a1), (2, .int a2), (3, .int v1), (4, .int v2), (5, .int v3), (6, .int v4)] dX9_goesOn_39 (by decide) rfl rfl rfl ?_
    refine g_bipush (pc := 41) (v := 24) F dX9_goesOn_41 (by decide) ?_
    refine g_iload_n (pc := 43) F 1 dX9_goesOn_43 rfl ?_
    refine g_imul (pc := 44) F dX9_goesOn_44 ?_
    refine g_iload_n (pc := 45) F 3 dX9_goesOn_45 rfl ?_
    refine g_iadd (pc := 46) F dX9_goesOn_46 ?_
    refine g_nm (fun v5 => ?_)
    refine g_istore (pc := 47) F [(0, .ref (ad (70))), (1, .int a1), (2, .int a2), (3, .int v1), (4, .int v2), (5, .int v3), (6, .int v4), (7, .int v5)] dX9_goesOn_47 (by decide) rfl rfl rfl ?_
    refine g_aload_n (pc := 49) F 0 dX9_goesOn_49 rfl ?_
    refine g_iload_n (pc := 50) F 1 dX9_goesOn_50 rfl ?_
    refine g_iload_n (pc := 51) F 3 dX9_goesOn_51 rfl ?_
    refine g_iconst (pc := 52) (v := 1) F dX9_goesOn_52 (by decide) ?_
    refine g_iadd (pc := 53) F dX9_goesOn_53 ?_
    refine g_vi (pc := 54) (k := 70) (ci := 9) (fs := (oX9 ad)) (C := RX9) (T := TX9) (N := 33) (As := [.int a1, .int (v1 + (1 : Int32))]) (st := []) F (c_X9_endOf l D ad cs F.2.2.1 a1 (v1 + (1 : Int32)) M) (by decide) (fun _ => rfl) rfl (cwV 2 F.1.2.2.2.2 gX9_goesOn_X9_endOf rfl rfl rfl hdV_X9_endOf ⟨by decide, by decide⟩) rfl rfl (Nat.le_of_ble_eq_true rfl) dX9_goesOn_54 ⟨Nat.zero_le _, Nat.zero_le _⟩ (fun r6 M7 => ?_)
    refine g_istore (pc := 57) F [(0, .ref (ad (70))), (1, .int a1), (2, .int a2), (3, .int v1), (4, .int v2), (5, .int v3), (6, .int v4), (7, .int v5), (8, .int r6)] dX9_goesOn_57 (by decide) rfl rfl rfl ?_
    refine g_aload_n (pc := 59) F 0 dX9_goesOn_59 rfl ?_
    refine g_get (pc := 60) (v := .ref (ad (74))) (k := 70) (ci := 9) (fs := (oX9 ad)) (C := RX9) (T := TX9) (N := 33) F (by decide) (fun _ => rfl) rfl kiX9_goesOn_X9 5 (by decide) klX9_goesOn_24 rfl rfl dX9_goesOn_60 ?_
    refine g_iload (pc := 63) F 7 dX9_goesOn_63 rfl ?_
    refine g_iald (pc := 65) (k := 74) (n := 96) F (by decide) (fun _ => rfl) dX9_goesOn_65 ?_
    refine g_if_ne (pc := 66) F 74 dX9_goesOn_66 (by decide) ?_ ?_
    · refine g_iload (pc := 74) F 6 dX9_goesOn_74 rfl ?_
      refine g_istore (pc := 76) F [(0, .ref (ad (70))), (1, .int a1), (2, .int a2), (3, .int v1), (4, .int v2), (5, .int v3), (6, .int v4), (7, .int v5), (8, .int r6), (9, .int v4)] dX9_goesOn_76 (by decide) rfl rfl rfl ?_
      refine g_aload_n (pc := 78) F 0 dX9_goesOn_78 rfl ?_
      refine g_get (pc := 79) (v := .ref (ad (73))) (k := 70) (ci := 9) (fs := (oX9 ad)) (C := RX9) (T := TX9) (N := 33) F (by decide) (fun _ => rfl) rfl kiX9_goesOn_X9 4 (by decide) klX9_goesOn_21 rfl rfl dX9_goesOn_79 ?_
      refine g_iload (pc := 82) F 7 dX9_goesOn_82 rfl ?_
      refine g_iald (pc := 84) (k := 73) (n := 96) F (by decide) (fun _ => rfl) dX9_goesOn_84 ?_
      refine g_nm (fun v8 => ?_)
      refine g_case (v := 0) (fun _ => ?_) (fun n9 => ?_)
      · refine g_tab (pc := 85) (off := 51) F 136 dX9_goesOn_85 (by decide) (by decide) (by decide) (by decide) ?_
        refine g_aload_n (pc := 136) F 0 dX9_goesOn_136 rfl ?_
        refine g_iload (pc := 137) F 4 dX9_goesOn_137 rfl ?_
        refine g_iload (pc := 139) F 5 dX9_goesOn_139 rfl ?_
        refine g_iload (pc := 141) F 6 dX9_goesOn_141 rfl ?_
        refine g_iload (pc := 143) F 8 dX9_goesOn_143 rfl ?_
        refine g_aload_n (pc := 145) F 0 dX9_goesOn_145 rfl ?_
        refine g_get (pc := 146) (v := .ref (ad (74))) (k := 70) (ci := 9) (fs := (oX9 ad)) (C := RX9) (T := TX9) (N := 33) F (by decide) (fun _ => rfl) rfl kiX9_goesOn_X9 5 (by decide) klX9_goesOn_24 rfl rfl dX9_goesOn_146 ?_
        refine g_iload (pc := 149) F 7 dX9_goesOn_149 rfl ?_
        refine g_iald (pc := 151) (k := 74) (n := 96) F (by decide) (fun _ => rfl) dX9_goesOn_151 ?_
        refine g_aload_n (pc := 152) F 0 dX9_goesOn_152 rfl ?_
        refine g_get (pc := 153) (v := .ref (ad (75))) (k := 70) (ci := 9) (fs := (oX9 ad)) (C := RX9) (T := TX9) (N := 33) F (by decide) (fun _ => rfl) rfl kiX9_goesOn_X9 6 (by decide) klX9_goesOn_27 rfl rfl dX9_goesOn_153 ?_
        refine g_iload (pc := 156) F 7 dX9_goesOn_156 rfl ?_
        refine g_iald (pc := 158) (k := 75) (n := 96) F (by decide) (fun _ => rfl) dX9_goesOn_158 ?_
        refine g_si (pc := 159) (As := [.int v2, .int v3, .int v4, .int r6, .int (M7 (74) v5.toNatClampNeg), .int (M7 (75) v5.toNatClampNeg)]) (st := [.ref (ad (70))]) F (c_X9_with l D ad cs F.2.2.1 v2 v3 v4 r6 (M7 (74) v5.toNatClampNeg) (M7 (75) v5.toNatClampNeg) M7) (va_cwS 6 F.1.2.2.2.2 gX9_goesOn_X9_with rfl rfl rfl hdS_X9_with ⟨by decide, by decide⟩) rfl rfl (Nat.le_of_ble_eq_true rfl) dX9_goesOn_159 ⟨Nat.zero_le _, Nat.zero_le _⟩ (fun r10 M11 => ?_)
        refine g_iload_n (pc := 162) F 2 dX9_goesOn_162 rfl ?_
        refine g_vv (pc := 163) (k := 70) (ci := 9) (fs := (oX9 ad)) (C := RX9) (T := TX9) (N := 33) (As := [.int r10, .int a2]) (st := []) F (c_X9_finds l D ad cs F.2.2.1 r10 a2 M11) (by decide) (fun _ => rfl) rfl (cwV 2 F.1.2.2.2.2 gX9_goesOn_X9_finds rfl rfl rfl hdV_X9_finds ⟨by decide, by decide⟩) rfl rfl (Nat.le_of_ble_eq_true rfl) dX9_goesOn_163 ⟨Nat.zero_le _, Nat.zero_le _⟩ (fun r12 M13 => ?_)
        refine g_goto (pc := 166) F 468 dX9_goesOn_166 (by decide) ?_
        exact g_vret (pc := 468) F hr hlk dX9_goesOn_468
      refine g_case (v := 1) (fun _ => ?_) (fun n14 => ?_)
      · refine g_tab (pc := 85) (off := 84) F 169 dX9_goesOn_85 (by decide) (by decide) (by decide) (by decide) ?_
        refine g_aload_n (pc := 169) F 0 dX9_goesOn_169 rfl ?_
        refine g_iload (pc := 170) F 4 dX9_goesOn_170 rfl ?_
        refine g_iload (pc := 172) F 5 dX9_goesOn_172 rfl ?_
        refine g_iload (pc := 174) F 6 dX9_goesOn_174 rfl ?_
        refine g_iload (pc := 176) F 8 dX9_goesOn_176 rfl ?_
        refine g_aload_n (pc := 178) F 0 dX9_goesOn_178 rfl ?_
        refine g_get (pc := 179) (v := .ref (ad (74))) (k := 70) (ci := 9) (fs := (oX9 ad)) (C := RX9) (T := TX9) (N := 33) F (by decide) (fun _ => rfl) rfl kiX9_goesOn_X9 5 (by decide) klX9_goesOn_24 rfl rfl dX9_goesOn_179 ?_
        refine g_iload (pc := 182) F 7 dX9_goesOn_182 rfl ?_
        refine g_iald (pc := 184) (k := 74) (n := 96) F (by decide) (fun _ => rfl) dX9_goesOn_184 ?_
        refine g_iload (pc := 185) F 9 dX9_goesOn_185 rfl ?_
        refine g_aload_n (pc := 187) F 0 dX9_goesOn_187 rfl ?_
        refine g_get (pc := 188) (v := .ref (ad (75))) (k := 70) (ci := 9) (fs := (oX9 ad)) (C := RX9) (T := TX9) (N := 33) F (by decide) (fun _ => rfl) rfl kiX9_goesOn_X9 6 (by decide) klX9_goesOn_27 rfl rfl dX9_goesOn_188 ?_
        refine g_iload (pc := 191) F 7 dX9_goesOn_191 rfl ?_
        refine g_iald (pc := 193) (k := 75) (n := 96) F (by decide) (fun _ => rfl) dX9_goesOn_193 ?_
        refine g_iadd (pc := 194) F dX9_goesOn_194 ?_
        refine g_bipush (pc := 195) (v := 32) F dX9_goesOn_195 (by decide) ?_
        refine g_irem (pc := 197) F (by decide) dX9_goesOn_197 ?_
        refine g_si (pc := 198) (As := [.int v2, .int v3, .int v4, .int r6, .int (M7 (74) v5.toNatClampNeg), .int ((v4 + (M7 (75) v5.toNatClampNeg)) - (v4 + (M7 (75) v5.toNatClampNeg)) / 32 * 32)]) (st := [.ref (ad (70))]) F (c_X9_with l D ad cs F.2.2.1 v2 v3 v4 r6 (M7 (74) v5.toNatClampNeg) ((v4 + (M7 (75) v5.toNatClampNeg)) - (v4 + (M7 (75) v5.toNatClampNeg)) / 32 * 32) M7) (va_cwS 6 F.1.2.2.2.2 gX9_goesOn_X9_with rfl rfl rfl hdS_X9_with ⟨by decide, by decide⟩) rfl rfl (Nat.le_of_ble_eq_true rfl) dX9_goesOn_198 ⟨Nat.zero_le _, Nat.zero_le _⟩ (fun r15 M16 => ?_)
        refine g_iload_n (pc := 201) F 2 dX9_goesOn_201 rfl ?_
        refine g_vv (pc := 202) (k := 70) (ci := 9) (fs := (oX9 ad)) (C := RX9) (T := TX9) (N := 33) (As := [.int r15, .int a2]) (st := []) F (c_X9_finds l D ad cs F.2.2.1 r15 a2 M16) (by decide) (fun _ => rfl) rfl (cwV 2 F.1.2.2.2.2 gX9_goesOn_X9_finds rfl rfl rfl hdV_X9_finds ⟨by decide, by decide⟩) rfl rfl (Nat.le_of_ble_eq_true rfl) dX9_goesOn_202 ⟨Nat.zero_le _, Nat.zero_le _⟩ (fun r17 M18 => ?_)
        refine g_goto (pc := 205) F 468 dX9_goesOn_205 (by decide) ?_
        exact g_vret (pc := 468) F hr hlk dX9_goesOn_468
      refine g_case (v := 2) (fun _ => ?_) (fun n19 => ?_)
      · refine g_tab (pc := 85) (off := 123) F 208 dX9_goesOn_85 (by decide) (by decide) (by decide) (by decide) ?_
        refine g_aload_n (pc := 208) F 0 dX9_goesOn_208 rfl ?_
        refine g_iload (pc := 209) F 4 dX9_goesOn_209 rfl ?_
        refine g_iload (pc := 211) F 5 dX9_goesOn_211 rfl ?_
        refine g_iload (pc := 213) F 6 dX9_goesOn_213 rfl ?_
        refine g_iload (pc := 215) F 8 dX9_goesOn_215 rfl ?_
        refine g_aload_n (pc := 217) F 0 dX9_goesOn_217 rfl ?_
        refine g_get (pc := 218) (v := .ref (ad (74))) (k := 70) (ci := 9) (fs := (oX9 ad)) (C := RX9) (T := TX9) (N := 33) F (by decide) (fun _ => rfl) rfl kiX9_goesOn_X9 5 (by decide) klX9_goesOn_24 rfl rfl dX9_goesOn_218 ?_
        refine g_iload (pc := 221) F 7 dX9_goesOn_221 rfl ?_
        refine g_iald (pc := 223) (k := 74) (n := 96) F (by decide) (fun _ => rfl) dX9_goesOn_223 ?_
        refine g_aload_n (pc := 224) F 0 dX9_goesOn_224 rfl ?_
        refine g_get (pc := 225) (v := .ref (ad (74))) (k := 70) (ci := 9) (fs := (oX9 ad)) (C := RX9) (T := TX9) (N := 33) F (by decide) (fun _ => rfl) rfl kiX9_goesOn_X9 5 (by decide) klX9_goesOn_24 rfl rfl dX9_goesOn_225 ?_
        refine g_iload (pc := 228) F 7 dX9_goesOn_228 rfl ?_
        refine g_iald (pc := 230) (k := 74) (n := 96) F (by decide) (fun _ => rfl) dX9_goesOn_230 ?_
        refine g_if_ne (pc := 231) F 239 dX9_goesOn_231 (by decide) ?_ ?_
        · refine g_iload (pc := 239) F 5 dX9_goesOn_239 rfl ?_
          refine g_si (pc := 241) (As := [.int v2, .int v3, .int v4, .int r6, .int (M7 (74) v5.toNatClampNeg), .int v3]) (st := [.ref (ad (70))]) F (c_X9_with l D ad cs F.2.2.1 v2 v3 v4 r6 (M7 (74) v5.toNatClampNeg) v3 M7) (va_cwS 6 F.1.2.2.2.2 gX9_goesOn_X9_with rfl rfl rfl hdS_X9_with ⟨by decide, by decide⟩) rfl rfl (Nat.le_of_ble_eq_true rfl) dX9_goesOn_241 ⟨Nat.zero_le _, Nat.zero_le _⟩ (fun r20 M21 => ?_)
          refine g_iload_n (pc := 244) F 2 dX9_goesOn_244 rfl ?_
          refine g_vv (pc := 245) (k := 70) (ci := 9) (fs := (oX9 ad)) (C := RX9) (T := TX9) (N := 33) (As := [.int r20, .int a2]) (st := []) F (c_X9_finds l D ad cs F.2.2.1 r20 a2 M21) (by decide) (fun _ => rfl) rfl (cwV 2 F.1.2.2.2.2 gX9_goesOn_X9_finds rfl rfl rfl hdV_X9_finds ⟨by decide, by decide⟩) rfl rfl (Nat.le_of_ble_eq_true rfl) dX9_goesOn_245 ⟨Nat.zero_le _, Nat.zero_le _⟩ (fun r22 M23 => ?_)
          refine g_goto (pc := 248) F 468 dX9_goesOn_248 (by decide) ?_
          exact g_vret (pc := 468) F hr hlk dX9_goesOn_468
        · refine g_iload (pc := 234) F 6 dX9_goesOn_234 rfl ?_
          refine g_goto (pc := 236) F 241 dX9_goesOn_236 (by decide) ?_
          refine g_si (pc := 241) (As := [.int v2, .int v3, .int v4, .int r6, .int (M7 (74) v5.toNatClampNeg), .int v4]) (st := [.ref (ad (70))]) F (c_X9_with l D ad cs F.2.2.1 v2 v3 v4 r6 (M7 (74) v5.toNatClampNeg) v4 M7) (va_cwS 6 F.1.2.2.2.2 gX9_goesOn_X9_with rfl rfl rfl hdS_X9_with ⟨by decide, by decide⟩) rfl rfl (Nat.le_of_ble_eq_true rfl) dX9_goesOn_241 ⟨Nat.zero_le _, Nat.zero_le _⟩ (fun r24 M25 => ?_)
          refine g_iload_n (pc := 244) F 2 dX9_goesOn_244 rfl ?_
          refine g_vv (pc := 245) (k := 70) (ci := 9) (fs := (oX9 ad)) (C := RX9) (T := TX9) (N := 33) (As := [.int r24, .int a2]) (st := []) F (c_X9_finds l D ad cs F.2.2.1 r24 a2 M25) (by decide) (fun _ => rfl) rfl (cwV 2 F.1.2.2.2.2 gX9_goesOn_X9_finds rfl rfl rfl hdV_X9_finds ⟨by decide, by decide⟩) rfl rfl (Nat.le_of_ble_eq_true rfl) dX9_goesOn_245 ⟨Nat.zero_le _, Nat.zero_le _⟩ (fun r26 M27 => ?_)
          refine g_goto (pc := 248) F 468 dX9_goesOn_248 (by decide) ?_
          exact g_vret (pc := 468) F hr hlk dX9_goesOn_468
      refine g_case (v := 3) (fun _ => ?_) (fun n28 => ?_)
      · refine g_tab (pc := 85) (off := 166) F 251 dX9_goesOn_85 (by decide) (by decide) (by decide) (by decide) ?_
        refine g_iconst (pc := 251) (v := 0) F dX9_goesOn_251 (by decide) ?_
        refine g_istore (pc := 252) F [(0, .ref (ad (70))), (1, .int a1), (2, .int a2), (3, .int v1), (4, .int v2), (5, .int v3), (6, .int v4), (7, .int v5), (8, .int r6), (9, .int v4), (10, .int 0)] dX9_goesOn_252 (by decide) rfl rfl rfl ?_
        refine g_sub [0, 2, 4, 5, 6, 7, 8, 10] [(0, .ref (ad (70))), (2, .int a2), (4, .int v2), (5, .int v3), (6, .int v4), (7, .int v5), (8, .int r6), (10, .int 0)] rfl ?_
        refine w_X9_goesOn_L254 a2 v2 v3 v4 v5 r6 F hr hlk _ (fun M33 y34 => ?_) _ _ _
        refine g_goto (pc := 292) F 468 dX9_goesOn_292 (by decide) ?_
        exact g_vret (pc := 468) F hr hlk dX9_goesOn_468
      refine g_case (v := 4) (fun _ => ?_) (fun n35 => ?_)
      · refine g_tab (pc := 85) (off := 210) F 295 dX9_goesOn_85 (by decide) (by decide) (by decide) (by decide) ?_
        refine g_aload_n (pc := 295) F 0 dX9_goesOn_295 rfl ?_
        refine g_iload (pc := 296) F 4 dX9_goesOn_296 rfl ?_
        refine g_iload (pc := 298) F 5 dX9_goesOn_298 rfl ?_
        refine g_iload (pc := 300) F 6 dX9_goesOn_300 rfl ?_
        refine g_iload (pc := 302) F 8 dX9_goesOn_302 rfl ?_
        refine g_aload_n (pc := 304) F 0 dX9_goesOn_304 rfl ?_
        refine g_get (pc := 305) (v := .ref (ad (74))) (k := 70) (ci := 9) (fs := (oX9 ad)) (C := RX9) (T := TX9) (N := 33) F (by decide) (fun _ => rfl) rfl kiX9_goesOn_X9 5 (by decide) klX9_goesOn_24 rfl rfl dX9_goesOn_305 ?_
        refine g_iload (pc := 308) F 7 dX9_goesOn_308 rfl ?_
        refine g_iald (pc := 310) (k := 74) (n := 96) F (by decide) (fun _ => rfl) dX9_goesOn_310 ?_
        refine g_iload (pc := 311) F 9 dX9_goesOn_311 rfl ?_
        refine g_aload_n (pc := 313) F 0 dX9_goesOn_313 rfl ?_
        refine g_get (pc := 314) (v := .ref (ad (75))) (k := 70) (ci := 9) (fs := (oX9 ad)) (C := RX9) (T := TX9) (N := 33) F (by decide) (fun _ => rfl) rfl kiX9_goesOn_X9 6 (by decide) klX9_goesOn_27 rfl rfl dX9_goesOn_314 ?_
        refine g_iload (pc := 317) F 7 dX9_goesOn_317 rfl ?_
        refine g_iald (pc := 319) (k := 75) (n := 96) F (by decide) (fun _ => rfl) dX9_goesOn_319 ?_
        refine g_iand (pc := 320) F dX9_goesOn_320 ?_
        refine g_si (pc := 321) (As := [.int v2, .int v3, .int v4, .int r6, .int (M7 (74) v5.toNatClampNeg), .int (v4 &&& (M7 (75) v5.toNatClampNeg))]) (st := [.ref (ad (70))]) F (c_X9_with l D ad cs F.2.2.1 v2 v3 v4 r6 (M7 (74) v5.toNatClampNeg) (v4 &&& (M7 (75) v5.toNatClampNeg)) M7) (va_cwS 6 F.1.2.2.2.2 gX9_goesOn_X9_with rfl rfl rfl hdS_X9_with ⟨by decide, by decide⟩) rfl rfl (Nat.le_of_ble_eq_true rfl) dX9_goesOn_321 ⟨Nat.zero_le _, Nat.zero_le _⟩ (fun r36 M37 => ?_)
        refine g_iload_n (pc := 324) F 2 dX9_goesOn_324 rfl ?_
        refine g_vv (pc := 325) (k := 70) (ci := 9) (fs := (oX9 ad)) (C := RX9) (T := TX9) (N := 33) (As := [.int r36, .int a2]) (st := []) F (c_X9_finds l D ad cs F.2.2.1 r36 a2 M37) (by decide) (fun _ => rfl) rfl (cwV 2 F.1.2.2.2.2 gX9_goesOn_X9_finds rfl rfl rfl hdV_X9_finds ⟨by decide, by decide⟩) rfl rfl (Nat.le_of_ble_eq_true rfl) dX9_goesOn_325 ⟨Nat.zero_le _, Nat.zero_le _⟩ (fun r38 M39 => ?_)
        refine g_goto (pc := 328) F 468 dX9_goesOn_328 (by decide) ?_
        exact g_vret (pc := 468) F hr hlk dX9_goesOn_468
      refine g_case (v := 5) (fun _ => ?_) (fun n40 => ?_)
      · refine g_tab (pc := 85) (off := 246) F 331 dX9_goesOn_85 (by decide) (by decide) (by decide) (by decide) ?_
        refine g_aload_n (pc := 331) F 0 dX9_goesOn_331 rfl ?_
        refine g_iload (pc := 332) F 9 dX9_goesOn_332 rfl ?_
        refine g_aload_n (pc := 334) F 0 dX9_goesOn_334 rfl ?_
        refine g_get (pc := 335) (v := .ref (ad (75))) (k := 70) (ci := 9) (fs := (oX9 ad)) (C := RX9) (T := TX9) (N := 33) F (by decide) (fun _ => rfl) rfl kiX9_goesOn_X9 6 (by decide) klX9_goesOn_27 rfl rfl dX9_goesOn_335 ?_
        refine g_iload (pc := 338) F 7 dX9_goesOn_338 rfl ?_
        refine g_iald (pc := 340) (k := 75) (n := 96) F (by decide) (fun _ => rfl) dX9_goesOn_340 ?_
        refine g_icmp_ge (pc := 341) F 359 dX9_goesOn_341 (by decide) ?_ ?_
        · refine g_iload (pc := 359) F 8 dX9_goesOn_359 rfl ?_
          refine g_iload (pc := 361) F 4 dX9_goesOn_361 rfl ?_
          refine g_iload (pc := 363) F 5 dX9_goesOn_363 rfl ?_
          refine g_iload (pc := 365) F 6 dX9_goesOn_365 rfl ?_
          refine g_si (pc := 367) (As := [.int r6, .int v2, .int v3, .int v4]) (st := [.ref (ad (70))]) F (c_X9_stateOf l D ad cs F.2.2.1 r6 v2 v3 v4 M7) (va_cwS 4 F.1.2.2.2.2 gX9_goesOn_X9_stateOf rfl rfl rfl hdS_X9_stateOf ⟨by decide, by decide⟩) rfl rfl (Nat.le_of_ble_eq_true rfl) dX9_goesOn_367 ⟨Nat.zero_le _, Nat.zero_le _⟩ (fun r41 M42 => ?_)
          refine g_iload_n (pc := 370) F 2 dX9_goesOn_370 rfl ?_
          refine g_vv (pc := 371) (k := 70) (ci := 9) (fs := (oX9 ad)) (C := RX9) (T := TX9) (N := 33) (As := [.int r41, .int a2]) (st := []) F (c_X9_finds l D ad cs F.2.2.1 r41 a2 M42) (by decide) (fun _ => rfl) rfl (cwV 2 F.1.2.2.2.2 gX9_goesOn_X9_finds rfl rfl rfl hdV_X9_finds ⟨by decide, by decide⟩) rfl rfl (Nat.le_of_ble_eq_true rfl) dX9_goesOn_371 ⟨Nat.zero_le _, Nat.zero_le _⟩ (fun r43 M44 => ?_)
          refine g_goto (pc := 374) F 468 dX9_goesOn_374 (by decide) ?_
          exact g_vret (pc := 468) F hr hlk dX9_goesOn_468
        · refine g_aload_n (pc := 344) F 0 dX9_goesOn_344 rfl ?_
          refine g_iload_n (pc := 345) F 1 dX9_goesOn_345 rfl ?_
          refine g_aload_n (pc := 346) F 0 dX9_goesOn_346 rfl ?_
          refine g_get (pc := 347) (v := .ref (ad (76))) (k := 70) (ci := 9) (fs := (oX9 ad)) (C := RX9) (T := TX9) (N := 33) F (by decide) (fun _ => rfl) rfl kiX9_goesOn_X9 7 (by decide) klX9_goesOn_30 rfl rfl dX9_goesOn_347 ?_
          refine g_iload (pc := 350) F 7 dX9_goesOn_350 rfl ?_
          refine g_iald (pc := 352) (k := 76) (n := 96) F (by decide) (fun _ => rfl) dX9_goesOn_352 ?_
          refine g_vi (pc := 353) (k := 70) (ci := 9) (fs := (oX9 ad)) (C := RX9) (T := TX9) (N := 33) (As := [.int a1, .int (M7 (76) v5.toNatClampNeg)]) (st := [.ref (ad (70))]) F (c_X9_endOf l D ad cs F.2.2.1 a1 (M7 (76) v5.toNatClampNeg) M7) (by decide) (fun _ => rfl) rfl (cwV 2 F.1.2.2.2.2 gX9_goesOn_X9_endOf rfl rfl rfl hdV_X9_endOf ⟨by decide, by decide⟩) rfl rfl (Nat.le_of_ble_eq_true rfl) dX9_goesOn_353 ⟨Nat.zero_le _, Nat.zero_le _⟩ (fun r45 M46 => ?_)
          refine g_goto (pc := 356) F 361 dX9_goesOn_356 (by decide) ?_
          refine g_iload (pc := 361) F 4 dX9_goesOn_361 rfl ?_
          refine g_iload (pc := 363) F 5 dX9_goesOn_363 rfl ?_
          refine g_iload (pc := 365) F 6 dX9_goesOn_365 rfl ?_
          refine g_si (pc := 367) (As := [.int r45, .int v2, .int v3, .int v4]) (st := [.ref (ad (70))]) F (c_X9_stateOf l D ad cs F.2.2.1 r45 v2 v3 v4 M46) (va_cwS 4 F.1.2.2.2.2 gX9_goesOn_X9_stateOf rfl rfl rfl hdS_X9_stateOf ⟨by decide, by decide⟩) rfl rfl (Nat.le_of_ble_eq_true rfl) dX9_goesOn_367 ⟨Nat.zero_le _, Nat.zero_le _⟩ (fun r47 M48 => ?_)
          refine g_iload_n (pc := 370) F 2 dX9_goesOn_370 rfl ?_
          refine g_vv (pc := 371) (k := 70) (ci := 9) (fs := (oX9 ad)) (C := RX9) (T := TX9) (N := 33) (As := [.int r47, .int a2]) (st := []) F (c_X9_finds l D ad cs F.2.2.1 r47 a2 M48) (by decide) (fun _ => rfl) rfl (cwV 2 F.1.2.2.2.2 gX9_goesOn_X9_finds rfl rfl rfl hdV_X9_finds ⟨by decide, by decide⟩) rfl rfl (Nat.le_of_ble_eq_true rfl) dX9_goesOn_371 ⟨Nat.zero_le _, Nat.zero_le _⟩ (fun r49 M50 => ?_)
          refine g_goto (pc := 374) F 468 dX9_goesOn_374 (by decide) ?_
          exact g_vret (pc := 468) F hr hlk dX9_goesOn_468
      refine g_case (v := 6) (fun _ => ?_) (fun n51 => ?_)
      · refine g_tab (pc := 85) (off := 292) F 377 dX9_goesOn_85 (by decide) (by decide) (by decide) (by decide) ?_
        refine g_aload_n (pc := 377) F 0 dX9_goesOn_377 rfl ?_
        refine g_aload_n (pc := 378) F 0 dX9_goesOn_378 rfl ?_
        refine g_iload_n (pc := 379) F 1 dX9_goesOn_379 rfl ?_
        refine g_aload_n (pc := 380) F 0 dX9_goesOn_380 rfl ?_
        refine g_get (pc := 381) (v := .ref (ad (76))) (k := 70) (ci := 9) (fs := (oX9 ad)) (C := RX9) (T := TX9) (N := 33) F (by decide) (fun _ => rfl) rfl kiX9_goesOn_X9 7 (by decide) klX9_goesOn_30 rfl rfl dX9_goesOn_381 ?_
        refine g_iload (pc := 384) F 7 dX9_goesOn_384 rfl ?_
        refine g_iald (pc := 386) (k := 76) (n := 96) F (by decide) (fun _ => rfl) dX9_goesOn_386 ?_
        refine g_vi (pc := 387) (k := 70) (ci := 9) (fs := (oX9 ad)) (C := RX9) (T := TX9) (N := 33) (As := [.int a1, .int (M7 (76) v5.toNatClampNeg)]) (st := [.ref (ad (70))]) F (c_X9_endOf l D ad cs F.2.2.1 a1 (M7 (76) v5.toNatClampNeg) M7) (by decide) (fun _ => rfl) rfl (cwV 2 F.1.2.2.2.2 gX9_goesOn_X9_endOf rfl rfl rfl hdV_X9_endOf ⟨by decide, by decide⟩) rfl rfl (Nat.le_of_ble_eq_true rfl) dX9_goesOn_387 ⟨Nat.zero_le _, Nat.zero_le _⟩ (fun r52 M53 => ?_)
        refine g_iload (pc := 390) F 4 dX9_goesOn_390 rfl ?_
        refine g_iload (pc := 392) F 5 dX9_goesOn_392 rfl ?_
        refine g_iload (pc := 394) F 6 dX9_goesOn_394 rfl ?_
        refine g_si (pc := 396) (As := [.int r52, .int v2, .int v3, .int v4]) (st := [.ref (ad (70))]) F (c_X9_stateOf l D ad cs F.2.2.1 r52 v2 v3 v4 M53) (va_cwS 4 F.1.2.2.2.2 gX9_goesOn_X9_stateOf rfl rfl rfl hdS_X9_stateOf ⟨by decide, by decide⟩) rfl rfl (Nat.le_of_ble_eq_true rfl) dX9_goesOn_396 ⟨Nat.zero_le _, Nat.zero_le _⟩ (fun r54 M55 => ?_)
        refine g_iload_n (pc := 399) F 2 dX9_goesOn_399 rfl ?_
        refine g_vv (pc := 400) (k := 70) (ci := 9) (fs := (oX9 ad)) (C := RX9) (T := TX9) (N := 33) (As := [.int r54, .int a2]) (st := []) F (c_X9_finds l D ad cs F.2.2.1 r54 a2 M55) (by decide) (fun _ => rfl) rfl (cwV 2 F.1.2.2.2.2 gX9_goesOn_X9_finds rfl rfl rfl hdV_X9_finds ⟨by decide, by decide⟩) rfl rfl (Nat.le_of_ble_eq_true rfl) dX9_goesOn_400 ⟨Nat.zero_le _, Nat.zero_le _⟩ (fun r56 M57 => ?_)
        refine g_goto (pc := 403) F 468 dX9_goesOn_403 (by decide) ?_
        exact g_vret (pc := 468) F hr hlk dX9_goesOn_468
      refine g_case (v := 7) (fun _ => ?_) (fun n58 => ?_)
      · refine g_tab (pc := 85) (off := 321) F 406 dX9_goesOn_85 (by decide) (by decide) (by decide) (by decide) ?_
        refine g_aload_n (pc := 406) F 0 dX9_goesOn_406 rfl ?_
        refine g_get (pc := 407) (v := .ref (ad (77))) (k := 70) (ci := 9) (fs := (oX9 ad)) (C := RX9) (T := TX9) (N := 33) F (by decide) (fun _ => rfl) rfl kiX9_goesOn_X9 8 (by decide) klX9_goesOn_33 rfl rfl dX9_goesOn_407 ?_
        refine g_bipush (pc := 410) (v := 64) F dX9_goesOn_410 (by decide) ?_
        refine g_iload_n (pc := 412) F 1 dX9_goesOn_412 rfl ?_
        refine g_imul (pc := 413) F dX9_goesOn_413 ?_
        refine g_bipush (pc := 414) (v := 32) F dX9_goesOn_414 (by decide) ?_
        refine g_iload (pc := 416) F 4 dX9_goesOn_416 rfl ?_
        refine g_imul (pc := 418) F dX9_goesOn_418 ?_
        refine g_iadd (pc := 419) F dX9_goesOn_419 ?_
        refine g_iload (pc := 420) F 5 dX9_goesOn_420 rfl ?_
        refine g_iadd (pc := 422) F dX9_goesOn_422 ?_
        refine g_nm (fun v59 => ?_)
        refine g_dup2 (pc := 423) F rfl rfl dX9_goesOn_423 ?_
        refine g_iald (pc := 424) (k := 77) (n := 256) F (by decide) (fun _ => rfl) dX9_goesOn_424 ?_
        refine g_iconst (pc := 425) (v := 1) F dX9_goesOn_425 (by decide) ?_
        refine g_iload (pc := 426) F 6 dX9_goesOn_426 rfl ?_
        refine g_ishl (pc := 428) F dX9_goesOn_428 ?_
        refine g_ior (pc := 429) F dX9_goesOn_429 ?_
        refine g_iast (pc := 430) (k := 77) (n := 256) F (by decide) (fun _ => rfl) dX9_goesOn_430 (fun M60 => ?_)
        refine g_aload_n (pc := 431) F 0 dX9_goesOn_431 rfl ?_
        refine g_iload (pc := 432) F 8 dX9_goesOn_432 rfl ?_
        refine g_iload (pc := 434) F 4 dX9_goesOn_434 rfl ?_
        refine g_iload (pc := 436) F 5 dX9_goesOn_436 rfl ?_
        refine g_iload (pc := 438) F 6 dX9_goesOn_438 rfl ?_
        refine g_si (pc := 440) (As := [.int r6, .int v2, .int v3, .int v4]) (st := [.ref (ad (70))]) F (c_X9_stateOf l D ad cs F.2.2.1 r6 v2 v3 v4 M60) (va_cwS 4 F.1.2.2.2.2 gX9_goesOn_X9_stateOf rfl rfl rfl hdS_X9_stateOf ⟨by decide, by decide⟩) rfl rfl (Nat.le_of_ble_eq_true rfl) dX9_goesOn_440 ⟨Nat.zero_le _, Nat.zero_le _⟩ (fun r61 M62 => ?_)
        refine g_iload_n (pc := 443) F 2 dX9_goesOn_443 rfl ?_
        refine g_vv (pc := 444) (k := 70) (ci := 9) (fs := (oX9 ad)) (C := RX9) (T := TX9) (N := 33) (As := [.int r61, .int a2]) (st := []) F (c_X9_finds l D ad cs F.2.2.1 r61 a2 M62) (by decide) (fun _ => rfl) rfl (cwV 2 F.1.2.2.2.2 gX9_goesOn_X9_finds rfl rfl rfl hdV_X9_finds ⟨by decide, by decide⟩) rfl rfl (Nat.le_of_ble_eq_true rfl) dX9_goesOn_444 ⟨Nat.zero_le _, Nat.zero_le _⟩ (fun r63 M64 => ?_)
        refine g_goto (pc := 447) F 468 dX9_goesOn_447 (by decide) ?_
        exact g_vret (pc := 468) F hr hlk dX9_goesOn_468
      refine g_case (v := 8) (fun _ => ?_) (fun n65 => ?_)
      · refine g_tab (pc := 85) (off := 365) F 450 dX9_goesOn_85 (by decide) (by decide) (by decide) (by decide) ?_
        refine g_aload_n (pc := 450) F 0 dX9_goesOn_450 rfl ?_
        refine g_iload (pc := 451) F 8 dX9_goesOn_451 rfl ?_
        refine g_iconst (pc := 453) (v := 1) F dX9_goesOn_453 (by decide) ?_
        refine g_iload (pc := 454) F 5 dX9_goesOn_454 rfl ?_
        refine g_iload (pc := 456) F 6 dX9_goesOn_456 rfl ?_
        refine g_si (pc := 458) (As := [.int r6, .int 1, .int v3, .int v4]) (st := [.ref (ad (70))]) F (c_X9_stateOf l D ad cs F.2.2.1 r6 1 v3 v4 M7) (va_cwS 4 F.1.2.2.2.2 gX9_goesOn_X9_stateOf rfl rfl rfl hdS_X9_stateOf ⟨by decide, by decide⟩) rfl rfl (Nat.le_of_ble_eq_true rfl) dX9_goesOn_458 ⟨Nat.zero_le _, Nat.zero_le _⟩ (fun r66 M67 => ?_)
        refine g_iload_n (pc := 461) F 2 dX9_goesOn_461 rfl ?_
        refine g_vv (pc := 462) (k := 70) (ci := 9) (fs := (oX9 ad)) (C := RX9) (T := TX9) (N := 33) (As := [.int r66, .int a2]) (st := []) F (c_X9_finds l D ad cs F.2.2.1 r66 a2 M67) (by decide) (fun _ => rfl) rfl (cwV 2 F.1.2.2.2.2 gX9_goesOn_X9_finds rfl rfl rfl hdV_X9_finds ⟨by decide, by decide⟩) rfl rfl (Nat.le_of_ble_eq_true rfl) dX9_goesOn_462 ⟨Nat.zero_le _, Nat.zero_le _⟩ (fun r68 M69 => ?_)
        refine g_goto (pc := 465) F 468 dX9_goesOn_465 (by decide) ?_
        exact g_vret (pc := 468) F hr hlk dX9_goesOn_468
      refine g_tabd (pc := 85) F 468 dX9_goesOn_85 (by have e0 := ne_lit (n := 0) (by decide) n9; have e1 := ne_lit (n := 1) (by decide) n14; have e2 := ne_lit (n := 2) (by decide) n19; have e3 := ne_lit (n := 3) (by decide) n28; have e4 := ne_lit (n := 4) (by decide) n35; have e5 := ne_lit (n := 5) (by decide) n40; have e6 := ne_lit (n := 6) (by decide) n51; have e7 := ne_lit (n := 7) (by decide) n58; have e8 := ne_lit (n := 8) (by decide) n65; omega) (by decide) ?_
      exact g_vret (pc := 468) F hr hlk dX9_goesOn_468
    · refine g_iload (pc := 69) F 5 dX9_goesOn_69 rfl ?_
      refine g_goto (pc := 71) F 76 dX9_goesOn_71 (by decide) ?_
      refine g_istore (pc := 76) F [(0, .ref (ad (70))), (1, .int a1), (2, .int a2), (3, .int v1), (4, .int v2), (5, .int v3), (6, .int v4), (7, .int v5), (8, .int r6), (9, .int v3)] dX9_goesOn_76 (by decide) rfl rfl rfl ?_
      refine g_aload_n (pc := 78) F 0 dX9_goesOn_78 rfl ?_
      refine g_get (pc := 79) (v := .ref (ad (73))) (k := 70) (ci := 9) (fs := (oX9 ad)) (C := RX9) (T := TX9) (N := 33) F (by decide) (fun _ => rfl) rfl kiX9_goesOn_X9 4 (by decide) klX9_goesOn_21 rfl rfl dX9_goesOn_79 ?_
      refine g_iload (pc := 82) F 7 dX9_goesOn_82 rfl ?_
      refine g_iald (pc := 84) (k := 73) (n := 96) F (by decide) (fun _ => rfl) dX9_goesOn_84 ?_
      refine g_nm (fun v70 => ?_)
      refine g_case (v := 0) (fun _ => ?_) (fun n71 => ?_)
      · refine g_tab (pc := 85) (off := 51) F 136 dX9_goesOn_85 (by decide) (by decide) (by decide) (by decide) ?_
        refine g_aload_n (pc := 136) F 0 dX9_goesOn_136 rfl ?_
        refine g_iload (pc := 137) F 4 dX9_goesOn_137 rfl ?_
        refine g_iload (pc := 139) F 5 dX9_goesOn_139 rfl ?_
        refine g_iload (pc := 141) F 6 dX9_goesOn_141 rfl ?_
        refine g_iload (pc := 143) F 8 dX9_goesOn_143 rfl ?_
        refine g_aload_n (pc := 145) F 0 dX9_goesOn_145 rfl ?_
        refine g_get (pc := 146) (v := .ref (ad (74))) (k := 70) (ci := 9) (fs := (oX9 ad)) (C := RX9) (T := TX9) (N := 33) F (by decide) (fun _ => rfl) rfl kiX9_goesOn_X9 5 (by decide) klX9_goesOn_24 rfl rfl dX9_goesOn_146 ?_
        refine g_iload (pc := 149) F 7 dX9_goesOn_149 rfl ?_
        refine g_iald (pc := 151) (k := 74) (n := 96) F (by decide) (fun _ => rfl) dX9_goesOn_151 ?_
        refine g_aload_n (pc := 152) F 0 dX9_goesOn_152 rfl ?_
        refine g_get (pc := 153) (v := .ref (ad (75))) (k := 70) (ci := 9) (fs := (oX9 ad)) (C := RX9) (T := TX9) (N := 33) F (by decide) (fun _ => rfl) rfl kiX9_goesOn_X9 6 (by decide) klX9_goesOn_27 rfl rfl dX9_goesOn_153 ?_
        refine g_iload (pc := 156) F 7 dX9_goesOn_156 rfl ?_
        refine g_iald (pc := 158) (k := 75) (n := 96) F (by decide) (fun _ => rfl) dX9_goesOn_158 ?_
        refine g_si (pc := 159) (As := [.int v2, .int v3, .int v4, .int r6, .int (M7 (74) v5.toNatClampNeg), .int (M7 (75) v5.toNatClampNeg)]) (st := [.ref (ad (70))]) F (c_X9_with l D ad cs F.2.2.1 v2 v3 v4 r6 (M7 (74) v5.toNatClampNeg) (M7 (75) v5.toNatClampNeg) M7) (va_cwS 6 F.1.2.2.2.2 gX9_goesOn_X9_with rfl rfl rfl hdS_X9_with ⟨by decide, by decide⟩) rfl rfl (Nat.le_of_ble_eq_true rfl) dX9_goesOn_159 ⟨Nat.zero_le _, Nat.zero_le _⟩ (fun r72 M73 => ?_)
        refine g_iload_n (pc := 162) F 2 dX9_goesOn_162 rfl ?_
        refine g_vv (pc := 163) (k := 70) (ci := 9) (fs := (oX9 ad)) (C := RX9) (T := TX9) (N := 33) (As := [.int r72, .int a2]) (st := []) F (c_X9_finds l D ad cs F.2.2.1 r72 a2 M73) (by decide) (fun _ => rfl) rfl (cwV 2 F.1.2.2.2.2 gX9_goesOn_X9_finds rfl rfl rfl hdV_X9_finds ⟨by decide, by decide⟩) rfl rfl (Nat.le_of_ble_eq_true rfl) dX9_goesOn_163 ⟨Nat.zero_le _, Nat.zero_le _⟩ (fun r74 M75 => ?_)
        refine g_goto (pc := 166) F 468 dX9_goesOn_166 (by decide) ?_
        exact g_vret (pc := 468) F hr hlk dX9_goesOn_468
      refine g_case (v := 1) (fun _ => ?_) (fun n76 => ?_)
      · refine g_tab (pc := 85) (off := 84) F 169 dX9_goesOn_85 (by decide) (by decide) (by decide) (by decide) ?_
        refine g_aload_n (pc := 169) F 0 dX9_goesOn_169 rfl ?_
        refine g_iload (pc := 170) F 4 dX9_goesOn_170 rfl ?_
        refine g_iload (pc := 172) F 5 dX9_goesOn_172 rfl ?_
        refine g_iload (pc := 174) F 6 dX9_goesOn_174 rfl ?_
        refine g_iload (pc := 176) F 8 dX9_goesOn_176 rfl ?_
        refine g_aload_n (pc := 178) F 0 dX9_goesOn_178 rfl ?_
        refine g_get (pc := 179) (v := .ref (ad (74))) (k := 70) (ci := 9) (fs := (oX9 ad)) (C := RX9) (T := TX9) (N := 33) F (by decide) (fun _ => rfl) rfl kiX9_goesOn_X9 5 (by decide) klX9_goesOn_24 rfl rfl dX9_goesOn_179 ?_
        refine g_iload (pc := 182) F 7 dX9_goesOn_182 rfl ?_
        refine g_iald (pc := 184) (k := 74) (n := 96) F (by decide) (fun _ => rfl) dX9_goesOn_184 ?_
        refine g_iload (pc := 185) F 9 dX9_goesOn_185 rfl ?_
        refine g_aload_n (pc := 187) F 0 dX9_goesOn_187 rfl ?_
        refine g_get (pc := 188) (v := .ref (ad (75))) (k := 70) (ci := 9) (fs := (oX9 ad)) (C := RX9) (T := TX9) (N := 33) F (by decide) (fun _ => rfl) rfl kiX9_goesOn_X9 6 (by decide) klX9_goesOn_27 rfl rfl dX9_goesOn_188 ?_
        refine g_iload (pc := 191) F 7 dX9_goesOn_191 rfl ?_
        refine g_iald (pc := 193) (k := 75) (n := 96) F (by decide) (fun _ => rfl) dX9_goesOn_193 ?_
        refine g_iadd (pc := 194) F dX9_goesOn_194 ?_
        refine g_bipush (pc := 195) (v := 32) F dX9_goesOn_195 (by decide) ?_
        refine g_irem (pc := 197) F (by decide) dX9_goesOn_197 ?_
        refine g_si (pc := 198) (As := [.int v2, .int v3, .int v4, .int r6, .int (M7 (74) v5.toNatClampNeg), .int ((v3 + (M7 (75) v5.toNatClampNeg)) - (v3 + (M7 (75) v5.toNatClampNeg)) / 32 * 32)]) (st := [.ref (ad (70))]) F (c_X9_with l D ad cs F.2.2.1 v2 v3 v4 r6 (M7 (74) v5.toNatClampNeg) ((v3 + (M7 (75) v5.toNatClampNeg)) - (v3 + (M7 (75) v5.toNatClampNeg)) / 32 * 32) M7) (va_cwS 6 F.1.2.2.2.2 gX9_goesOn_X9_with rfl rfl rfl hdS_X9_with ⟨by decide, by decide⟩) rfl rfl (Nat.le_of_ble_eq_true rfl) dX9_goesOn_198 ⟨Nat.zero_le _, Nat.zero_le _⟩ (fun r77 M78 => ?_)
        refine g_iload_n (pc := 201) F 2 dX9_goesOn_201 rfl ?_
        refine g_vv (pc := 202) (k := 70) (ci := 9) (fs := (oX9 ad)) (C := RX9) (T := TX9) (N := 33) (As := [.int r77, .int a2]) (st := []) F (c_X9_finds l D ad cs F.2.2.1 r77 a2 M78) (by decide) (fun _ => rfl) rfl (cwV 2 F.1.2.2.2.2 gX9_goesOn_X9_finds rfl rfl rfl hdV_X9_finds ⟨by decide, by decide⟩) rfl rfl (Nat.le_of_ble_eq_true rfl) dX9_goesOn_202 ⟨Nat.zero_le _, Nat.zero_le _⟩ (fun r79 M80 => ?_)
        refine g_goto (pc := 205) F 468 dX9_goesOn_205 (by decide) ?_
        exact g_vret (pc := 468) F hr hlk dX9_goesOn_468
      refine g_case (v := 2) (fun _ => ?_) (fun n81 => ?_)
      · refine g_tab (pc := 85) (off := 123) F 208 dX9_goesOn_85 (by decide) (by decide) (by decide) (by decide) ?_
        refine g_aload_n (pc := 208) F 0 dX9_goesOn_208 rfl ?_
        refine g_iload (pc := 209) F 4 dX9_goesOn_209 rfl ?_
        refine g_iload (pc := 211) F 5 dX9_goesOn_211 rfl ?_
        refine g_iload (pc := 213) F 6 dX9_goesOn_213 rfl ?_
        refine g_iload (pc := 215) F 8 dX9_goesOn_215 rfl ?_
        refine g_aload_n (pc := 217) F 0 dX9_goesOn_217 rfl ?_
        refine g_get (pc := 218) (v := .ref (ad (74))) (k := 70) (ci := 9) (fs := (oX9 ad)) (C := RX9) (T := TX9) (N := 33) F (by decide) (fun _ => rfl) rfl kiX9_goesOn_X9 5 (by decide) klX9_goesOn_24 rfl rfl dX9_goesOn_218 ?_
        refine g_iload (pc := 221) F 7 dX9_goesOn_221 rfl ?_
        refine g_iald (pc := 223) (k := 74) (n := 96) F (by decide) (fun _ => rfl) dX9_goesOn_223 ?_
        refine g_aload_n (pc := 224) F 0 dX9_goesOn_224 rfl ?_
        refine g_get (pc := 225) (v := .ref (ad (74))) (k := 70) (ci := 9) (fs := (oX9 ad)) (C := RX9) (T := TX9) (N := 33) F (by decide) (fun _ => rfl) rfl kiX9_goesOn_X9 5 (by decide) klX9_goesOn_24 rfl rfl dX9_goesOn_225 ?_
        refine g_iload (pc := 228) F 7 dX9_goesOn_228 rfl ?_
        refine g_iald (pc := 230) (k := 74) (n := 96) F (by decide) (fun _ => rfl) dX9_goesOn_230 ?_
        refine g_if_ne (pc := 231) F 239 dX9_goesOn_231 (by decide) ?_ ?_
        · refine g_iload (pc := 239) F 5 dX9_goesOn_239 rfl ?_
          refine g_si (pc := 241) (As := [.int v2, .int v3, .int v4, .int r6, .int (M7 (74) v5.toNatClampNeg), .int v3]) (st := [.ref (ad (70))]) F (c_X9_with l D ad cs F.2.2.1 v2 v3 v4 r6 (M7 (74) v5.toNatClampNeg) v3 M7) (va_cwS 6 F.1.2.2.2.2 gX9_goesOn_X9_with rfl rfl rfl hdS_X9_with ⟨by decide, by decide⟩) rfl rfl (Nat.le_of_ble_eq_true rfl) dX9_goesOn_241 ⟨Nat.zero_le _, Nat.zero_le _⟩ (fun r82 M83 => ?_)
          refine g_iload_n (pc := 244) F 2 dX9_goesOn_244 rfl ?_
          refine g_vv (pc := 245) (k := 70) (ci := 9) (fs := (oX9 ad)) (C := RX9) (T := TX9) (N := 33) (As := [.int r82, .int a2]) (st := []) F (c_X9_finds l D ad cs F.2.2.1 r82 a2 M83) (by decide) (fun _ => rfl) rfl (cwV 2 F.1.2.2.2.2 gX9_goesOn_X9_finds rfl rfl rfl hdV_X9_finds ⟨by decide, by decide⟩) rfl rfl (Nat.le_of_ble_eq_true rfl) dX9_goesOn_245 ⟨Nat.zero_le _, Nat.zero_le _⟩ (fun r84 M85 => ?_)
          refine g_goto (pc := 248) F 468 dX9_goesOn_248 (by decide) ?_
          exact g_vret (pc := 468) F hr hlk dX9_goesOn_468
        · refine g_iload (pc := 234) F 6 dX9_goesOn_234 rfl ?_
          refine g_goto (pc := 236) F 241 dX9_goesOn_236 (by decide) ?_
          refine g_si (pc := 241) (As := [.int v2, .int v3, .int v4, .int r6, .int (M7 (74) v5.toNatClampNeg), .int v4]) (st := [.ref (ad (70))]) F (c_X9_with l D ad cs F.2.2.1 v2 v3 v4 r6 (M7 (74) v5.toNatClampNeg) v4 M7) (va_cwS 6 F.1.2.2.2.2 gX9_goesOn_X9_with rfl rfl rfl hdS_X9_with ⟨by decide, by decide⟩) rfl rfl (Nat.le_of_ble_eq_true rfl) dX9_goesOn_241 ⟨Nat.zero_le _, Nat.zero_le _⟩ (fun r86 M87 => ?_)
          refine g_iload_n (pc := 244) F 2 dX9_goesOn_244 rfl ?_
          refine g_vv (pc := 245) (k := 70) (ci := 9) (fs := (oX9 ad)) (C := RX9) (T := TX9) (N := 33) (As := [.int r86, .int a2]) (st := []) F (c_X9_finds l D ad cs F.2.2.1 r86 a2 M87) (by decide) (fun _ => rfl) rfl (cwV 2 F.1.2.2.2.2 gX9_goesOn_X9_finds rfl rfl rfl hdV_X9_finds ⟨by decide, by decide⟩) rfl rfl (Nat.le_of_ble_eq_true rfl) dX9_goesOn_245 ⟨Nat.zero_le _, Nat.zero_le _⟩ (fun r88 M89 => ?_)
          refine g_goto (pc := 248) F 468 dX9_goesOn_248 (by decide) ?_
          exact g_vret (pc := 468) F hr hlk dX9_goesOn_468
      refine g_case (v := 3) (fun _ => ?_) (fun n90 => ?_)
      · refine g_tab (pc := 85) (off := 166) F 251 dX9_goesOn_85 (by decide) (by decide) (by decide) (by decide) ?_
        refine g_iconst (pc := 251) (v := 0) F dX9_goesOn_251 (by decide) ?_
        refine g_istore (pc := 252) F [(0, .ref (ad (70))), (1, .int a1), (2, .int a2), (3, .int v1), (4, .int v2), (5, .int v3), (6, .int v4), (7, .int v5), (8, .int r6), (9, .int v3), (10, .int 0)] dX9_goesOn_252 (by decide) rfl rfl rfl ?_
        refine g_sub [0, 2, 4, 5, 6, 7, 8, 10] [(0, .ref (ad (70))), (2, .int a2), (4, .int v2), (5, .int v3), (6, .int v4), (7, .int v5), (8, .int r6), (10, .int 0)] rfl ?_
        refine w_X9_goesOn_L254 a2 v2 v3 v4 v5 r6 F hr hlk _ (fun M91 y92 => ?_) _ _ _
        refine g_goto (pc := 292) F 468 dX9_goesOn_292 (by decide) ?_
        exact g_vret (pc := 468) F hr hlk dX9_goesOn_468
      refine g_case (v := 4) (fun _ => ?_) (fun n93 => ?_)
      · refine g_tab (pc := 85) (off := 210) F 295 dX9_goesOn_85 (by decide) (by decide) (by decide) (by decide) ?_
        refine g_aload_n (pc := 295) F 0 dX9_goesOn_295 rfl ?_
        refine g_iload (pc := 296) F 4 dX9_goesOn_296 rfl ?_
        refine g_iload (pc := 298) F 5 dX9_goesOn_298 rfl ?_
        refine g_iload (pc := 300) F 6 dX9_goesOn_300 rfl ?_
        refine g_iload (pc := 302) F 8 dX9_goesOn_302 rfl ?_
        refine g_aload_n (pc := 304) F 0 dX9_goesOn_304 rfl ?_
        refine g_get (pc := 305) (v := .ref (ad (74))) (k := 70) (ci := 9) (fs := (oX9 ad)) (C := RX9) (T := TX9) (N := 33) F (by decide) (fun _ => rfl) rfl kiX9_goesOn_X9 5 (by decide) klX9_goesOn_24 rfl rfl dX9_goesOn_305 ?_
        refine g_iload (pc := 308) F 7 dX9_goesOn_308 rfl ?_
        refine g_iald (pc := 310) (k := 74) (n := 96) F (by decide) (fun _ => rfl) dX9_goesOn_310 ?_
        refine g_iload (pc := 311) F 9 dX9_goesOn_311 rfl ?_
        refine g_aload_n (pc := 313) F 0 dX9_goesOn_313 rfl ?_
        refine g_get (pc := 314) (v := .ref (ad (75))) (k := 70) (ci := 9) (fs := (oX9 ad)) (C := RX9) (T := TX9) (N := 33) F (by decide) (fun _ => rfl) rfl kiX9_goesOn_X9 6 (by decide) klX9_goesOn_27 rfl rfl dX9_goesOn_314 ?_
        refine g_iload (pc := 317) F 7 dX9_goesOn_317 rfl ?_
        refine g_iald (pc := 319) (k := 75) (n := 96) F (by decide) (fun _ => rfl) dX9_goesOn_319 ?_
        refine g_iand (pc := 320) F dX9_goesOn_320 ?_
        refine g_si (pc := 321) (As := [.int v2, .int v3, .int v4, .int r6, .int (M7 (74) v5.toNatClampNeg), .int (v3 &&& (M7 (75) v5.toNatClampNeg))]) (st := [.ref (ad (70))]) F (c_X9_with l D ad cs F.2.2.1 v2 v3 v4 r6 (M7 (74) v5.toNatClampNeg) (v3 &&& (M7 (75) v5.toNatClampNeg)) M7) (va_cwS 6 F.1.2.2.2.2 gX9_goesOn_X9_with rfl rfl rfl hdS_X9_with ⟨by decide, by decide⟩) rfl rfl (Nat.le_of_ble_eq_true rfl) dX9_goesOn_321 ⟨Nat.zero_le _, Nat.zero_le _⟩ (fun r94 M95 => ?_)
        refine g_iload_n (pc := 324) F 2 dX9_goesOn_324 rfl ?_
        refine g_vv (pc := 325) (k := 70) (ci := 9) (fs := (oX9 ad)) (C := RX9) (T := TX9) (N := 33) (As := [.int r94, .int a2]) (st := []) F (c_X9_finds l D ad cs F.2.2.1 r94 a2 M95) (by decide) (fun _ => rfl) rfl (cwV 2 F.1.2.2.2.2 gX9_goesOn_X9_finds rfl rfl rfl hdV_X9_finds ⟨by decide, by decide⟩) rfl rfl (Nat.le_of_ble_eq_true rfl) dX9_goesOn_325 ⟨Nat.zero_le _, Nat.zero_le _⟩ (fun r96 M97 => ?_)
        refine g_goto (pc := 328) F 468 dX9_goesOn_328 (by decide) ?_
        exact g_vret (pc := 468) F hr hlk dX9_goesOn_468
      refine g_case (v := 5) (fun _ => ?_) (fun n98 => ?_)
      · refine g_tab (pc := 85) (off := 246) F 331 dX9_goesOn_85 (by decide) (by decide) (by decide) (by decide) ?_
        refine g_aload_n (pc := 331) F 0 dX9_goesOn_331 rfl ?_
        refine g_iload (pc := 332) F 9 dX9_goesOn_332 rfl ?_
        refine g_aload_n (pc := 334) F 0 dX9_goesOn_334 rfl ?_
        refine g_get (pc := 335) (v := .ref (ad (75))) (k := 70) (ci := 9) (fs := (oX9 ad)) (C := RX9) (T := TX9) (N := 33) F (by decide) (fun _ => rfl) rfl kiX9_goesOn_X9 6 (by decide) klX9_goesOn_27 rfl rfl dX9_goesOn_335 ?_
        refine g_iload (pc := 338) F 7 dX9_goesOn_338 rfl ?_
        refine g_iald (pc := 340) (k := 75) (n := 96) F (by decide) (fun _ => rfl) dX9_goesOn_340 ?_
        refine g_icmp_ge (pc := 341) F 359 dX9_goesOn_341 (by decide) ?_ ?_
        · refine g_iload (pc := 359) F 8 dX9_goesOn_359 rfl ?_
          refine g_iload (pc := 361) F 4 dX9_goesOn_361 rfl ?_
          refine g_iload (pc := 363) F 5 dX9_goesOn_363 rfl ?_
          refine g_iload (pc := 365) F 6 dX9_goesOn_365 rfl ?_
          refine g_si (pc := 367) (As := [.int r6, .int v2, .int v3, .int v4]) (st := [.ref (ad (70))]) F (c_X9_stateOf l D ad cs F.2.2.1 r6 v2 v3 v4 M7) (va_cwS 4 F.1.2.2.2.2 gX9_goesOn_X9_stateOf rfl rfl rfl hdS_X9_stateOf ⟨by decide, by decide⟩) rfl rfl (Nat.le_of_ble_eq_true rfl) dX9_goesOn_367 ⟨Nat.zero_le _, Nat.zero_le _⟩ (fun r99 M100 => ?_)
          refine g_iload_n (pc := 370) F 2 dX9_goesOn_370 rfl ?_
          refine g_vv (pc := 371) (k := 70) (ci := 9) (fs := (oX9 ad)) (C := RX9) (T := TX9) (N := 33) (As := [.int r99, .int a2]) (st := []) F (c_X9_finds l D ad cs F.2.2.1 r99 a2 M100) (by decide) (fun _ => rfl) rfl (cwV 2 F.1.2.2.2.2 gX9_goesOn_X9_finds rfl rfl rfl hdV_X9_finds ⟨by decide, by decide⟩) rfl rfl (Nat.le_of_ble_eq_true rfl) dX9_goesOn_371 ⟨Nat.zero_le _, Nat.zero_le _⟩ (fun r101 M102 => ?_)
          refine g_goto (pc := 374) F 468 dX9_goesOn_374 (by decide) ?_
          exact g_vret (pc := 468) F hr hlk dX9_goesOn_468
        · refine g_aload_n (pc := 344) F 0 dX9_goesOn_344 rfl ?_
          refine g_iload_n (pc := 345) F 1 dX9_goesOn_345 rfl ?_
          refine g_aload_n (pc := 346) F 0 dX9_goesOn_346 rfl ?_
          refine g_get (pc := 347) (v := .ref (ad (76))) (k := 70) (ci := 9) (fs := (oX9 ad)) (C := RX9) (T := TX9) (N := 33) F (by decide) (fun _ => rfl) rfl kiX9_goesOn_X9 7 (by decide) klX9_goesOn_30 rfl rfl dX9_goesOn_347 ?_
          refine g_iload (pc := 350) F 7 dX9_goesOn_350 rfl ?_
          refine g_iald (pc := 352) (k := 76) (n := 96) F (by decide) (fun _ => rfl) dX9_goesOn_352 ?_
          refine g_vi (pc := 353) (k := 70) (ci := 9) (fs := (oX9 ad)) (C := RX9) (T := TX9) (N := 33) (As := [.int a1, .int (M7 (76) v5.toNatClampNeg)]) (st := [.ref (ad (70))]) F (c_X9_endOf l D ad cs F.2.2.1 a1 (M7 (76) v5.toNatClampNeg) M7) (by decide) (fun _ => rfl) rfl (cwV 2 F.1.2.2.2.2 gX9_goesOn_X9_endOf rfl rfl rfl hdV_X9_endOf ⟨by decide, by decide⟩) rfl rfl (Nat.le_of_ble_eq_true rfl) dX9_goesOn_353 ⟨Nat.zero_le _, Nat.zero_le _⟩ (fun r103 M104 => ?_)
          refine g_goto (pc := 356) F 361 dX9_goesOn_356 (by decide) ?_
          refine g_iload (pc := 361) F 4 dX9_goesOn_361 rfl ?_
          refine g_iload (pc := 363) F 5 dX9_goesOn_363 rfl ?_
          refine g_iload (pc := 365) F 6 dX9_goesOn_365 rfl ?_
          refine g_si (pc := 367) (As := [.int r103, .int v2, .int v3, .int v4]) (st := [.ref (ad (70))]) F (c_X9_stateOf l D ad cs F.2.2.1 r103 v2 v3 v4 M104) (va_cwS 4 F.1.2.2.2.2 gX9_goesOn_X9_stateOf rfl rfl rfl hdS_X9_stateOf ⟨by decide, by decide⟩) rfl rfl (Nat.le_of_ble_eq_true rfl) dX9_goesOn_367 ⟨Nat.zero_le _, Nat.zero_le _⟩ (fun r105 M106 => ?_)
          refine g_iload_n (pc := 370) F 2 dX9_goesOn_370 rfl ?_
          refine g_vv (pc := 371) (k := 70) (ci := 9) (fs := (oX9 ad)) (C := RX9) (T := TX9) (N := 33) (As := [.int r105, .int a2]) (st := []) F (c_X9_finds l D ad cs F.2.2.1 r105 a2 M106) (by decide) (fun _ => rfl) rfl (cwV 2 F.1.2.2.2.2 gX9_goesOn_X9_finds rfl rfl rfl hdV_X9_finds ⟨by decide, by decide⟩) rfl rfl (Nat.le_of_ble_eq_true rfl) dX9_goesOn_371 ⟨Nat.zero_le _, Nat.zero_le _⟩ (fun r107 M108 => ?_)
          refine g_goto (pc := 374) F 468 dX9_goesOn_374 (by decide) ?_
          exact g_vret (pc := 468) F hr hlk dX9_goesOn_468
      refine g_case (v := 6) (fun _ => ?_) (fun n109 => ?_)
      · refine g_tab (pc := 85) (off := 292) F 377 dX9_goesOn_85 (by decide) (by decide) (by decide) (by decide) ?_
        refine g_aload_n (pc := 377) F 0 dX9_goesOn_377 rfl ?_
        refine g_aload_n (pc := 378) F 0 dX9_goesOn_378 rfl ?_
        refine g_iload_n (pc := 379) F 1 dX9_goesOn_379 rfl ?_
        refine g_aload_n (pc := 380) F 0 dX9_goesOn_380 rfl ?_
        refine g_get (pc := 381) (v := .ref (ad (76))) (k := 70) (ci := 9) (fs := (oX9 ad)) (C := RX9) (T := TX9) (N := 33) F (by decide) (fun _ => rfl) rfl kiX9_goesOn_X9 7 (by decide) klX9_goesOn_30 rfl rfl dX9_goesOn_381 ?_
        refine g_iload (pc := 384) F 7 dX9_goesOn_384 rfl ?_
        refine g_iald (pc := 386) (k := 76) (n := 96) F (by decide) (fun _ => rfl) dX9_goesOn_386 ?_
        refine g_vi (pc := 387) (k := 70) (ci := 9) (fs := (oX9 ad)) (C := RX9) (T := TX9) (N := 33) (As := [.int a1, .int (M7 (76) v5.toNatClampNeg)]) (st := [.ref (ad (70))]) F (c_X9_endOf l D ad cs F.2.2.1 a1 (M7 (76) v5.toNatClampNeg) M7) (by decide) (fun _ => rfl) rfl (cwV 2 F.1.2.2.2.2 gX9_goesOn_X9_endOf rfl rfl rfl hdV_X9_endOf ⟨by decide, by decide⟩) rfl rfl (Nat.le_of_ble_eq_true rfl) dX9_goesOn_387 ⟨Nat.zero_le _, Nat.zero_le _⟩ (fun r110 M111 => ?_)
        refine g_iload (pc := 390) F 4 dX9_goesOn_390 rfl ?_
        refine g_iload (pc := 392) F 5 dX9_goesOn_392 rfl ?_
        refine g_iload (pc := 394) F 6 dX9_goesOn_394 rfl ?_
        refine g_si (pc := 396) (As := [.int r110, .int v2, .int v3, .int v4]) (st := [.ref (ad (70))]) F (c_X9_stateOf l D ad cs F.2.2.1 r110 v2 v3 v4 M111) (va_cwS 4 F.1.2.2.2.2 gX9_goesOn_X9_stateOf rfl rfl rfl hdS_X9_stateOf ⟨by decide, by decide⟩) rfl rfl (Nat.le_of_ble_eq_true rfl) dX9_goesOn_396 ⟨Nat.zero_le _, Nat.zero_le _⟩ (fun r112 M113 => ?_)
        refine g_iload_n (pc := 399) F 2 dX9_goesOn_399 rfl ?_
        refine g_vv (pc := 400) (k := 70) (ci := 9) (fs := (oX9 ad)) (C := RX9) (T := TX9) (N := 33) (As := [.int r112, .int a2]) (st := []) F (c_X9_finds l D ad cs F.2.2.1 r112 a2 M113) (by decide) (fun _ => rfl) rfl (cwV 2 F.1.2.2.2.2 gX9_goesOn_X9_finds rfl rfl rfl hdV_X9_finds ⟨by decide, by decide⟩) rfl rfl (Nat.le_of_ble_eq_true rfl) dX9_goesOn_400 ⟨Nat.zero_le _, Nat.zero_le _⟩ (fun r114 M115 => ?_)
        refine g_goto (pc := 403) F 468 dX9_goesOn_403 (by decide) ?_
        exact g_vret (pc := 468) F hr hlk dX9_goesOn_468
      refine g_case (v := 7) (fun _ => ?_) (fun n116 => ?_)
      · refine g_tab (pc := 85) (off := 321) F 406 dX9_goesOn_85 (by decide) (by decide) (by decide) (by decide) ?_
        refine g_aload_n (pc := 406) F 0 dX9_goesOn_406 rfl ?_
        refine g_get (pc := 407) (v := .ref (ad (77))) (k := 70) (ci := 9) (fs := (oX9 ad)) (C := RX9) (T := TX9) (N := 33) F (by decide) (fun _ => rfl) rfl kiX9_goesOn_X9 8 (by decide) klX9_goesOn_33 rfl rfl dX9_goesOn_407 ?_
        refine g_bipush (pc := 410) (v := 64) F dX9_goesOn_410 (by decide) ?_
        refine g_iload_n (pc := 412) F 1 dX9_goesOn_412 rfl ?_
        refine g_imul (pc := 413) F dX9_goesOn_413 ?_
        refine g_bipush (pc := 414) (v := 32) F dX9_goesOn_414 (by decide) ?_
        refine g_iload (pc := 416) F 4 dX9_goesOn_416 rfl ?_
        refine g_imul (pc := 418) F dX9_goesOn_418 ?_
        refine g_iadd (pc := 419) F dX9_goesOn_419 ?_
        refine g_iload (pc := 420) F 5 dX9_goesOn_420 rfl ?_
        refine g_iadd (pc := 422) F dX9_goesOn_422 ?_
        refine g_nm (fun v117 => ?_)
        refine g_dup2 (pc := 423) F rfl rfl dX9_goesOn_423 ?_
        refine g_iald (pc := 424) (k := 77) (n := 256) F (by decide) (fun _ => rfl) dX9_goesOn_424 ?_
        refine g_iconst (pc := 425) (v := 1) F dX9_goesOn_425 (by decide) ?_
        refine g_iload (pc := 426) F 6 dX9_goesOn_426 rfl ?_
        refine g_ishl (pc := 428) F dX9_goesOn_428 ?_
        refine g_ior (pc := 429) F dX9_goesOn_429 ?_
        refine g_iast (pc := 430) (k := 77) (n := 256) F (by decide) (fun _ => rfl) dX9_goesOn_430 (fun M118 => ?_)
        refine g_aload_n (pc := 431) F 0 dX9_goesOn_431 rfl ?_
        refine g_iload (pc := 432) F 8 dX9_goesOn_432 rfl ?_
        refine g_iload (pc := 434) F 4 dX9_goesOn_434 rfl ?_
        refine g_iload (pc := 436) F 5 dX9_goesOn_436 rfl ?_
        refine g_iload (pc := 438) F 6 dX9_goesOn_438 rfl ?_
        refine g_si (pc := 440) (As := [.int r6, .int v2, .int v3, .int v4]) (st := [.ref (ad (70))]) F (c_X9_stateOf l D ad cs F.2.2.1 r6 v2 v3 v4 M118) (va_cwS 4 F.1.2.2.2.2 gX9_goesOn_X9_stateOf rfl rfl rfl hdS_X9_stateOf ⟨by decide, by decide⟩) rfl rfl (Nat.le_of_ble_eq_true rfl) dX9_goesOn_440 ⟨Nat.zero_le _, Nat.zero_le _⟩ (fun r119 M120 => ?_)
        refine g_iload_n (pc := 443) F 2 dX9_goesOn_443 rfl ?_
        refine g_vv (pc := 444) (k := 70) (ci := 9) (fs := (oX9 ad)) (C := RX9) (T := TX9) (N := 33) (As := [.int r119, .int a2]) (st := []) F (c_X9_finds l D ad cs F.2.2.1 r119 a2 M120) (by decide) (fun _ => rfl) rfl (cwV 2 F.1.2.2.2.2 gX9_goesOn_X9_finds rfl rfl rfl hdV_X9_finds ⟨by decide, by decide⟩) rfl rfl (Nat.le_of_ble_eq_true rfl) dX9_goesOn_444 ⟨Nat.zero_le _, Nat.zero_le _⟩ (fun r121 M122 => ?_)
        refine g_goto (pc := 447) F 468 dX9_goesOn_447 (by decide) ?_
        exact g_vret (pc := 468) F hr hlk dX9_goesOn_468
      refine g_case (v := 8) (fun _ => ?_) (fun n123 => ?_)
      · refine g_tab (pc := 85) (off := 365) F 450 dX9_goesOn_85 (by decide) (by decide) (by decide) (by decide) ?_
        refine g_aload_n (pc := 450) F 0 dX9_goesOn_450 rfl ?_
        refine g_iload (pc := 451) F 8 dX9_goesOn_451 rfl ?_
        refine g_iconst (pc := 453) (v := 1) F dX9_goesOn_453 (by decide) ?_
        refine g_iload (pc := 454) F 5 dX9_goesOn_454 rfl ?_
        refine g_iload (pc := 456) F 6 dX9_goesOn_456 rfl ?_
        refine g_si (pc := 458) (As := [.int r6, .int 1, .int v3, .int v4]) (st := [.ref (ad (70))]) F (c_X9_stateOf l D ad cs F.2.2.1 r6 1 v3 v4 M7) (va_cwS 4 F.1.2.2.2.2 gX9_goesOn_X9_stateOf rfl rfl rfl hdS_X9_stateOf ⟨by decide, by decide⟩) rfl rfl (Nat.le_of_ble_eq_true rfl) dX9_goesOn_458 ⟨Nat.zero_le _, Nat.zero_le _⟩ (fun r124 M125 => ?_)
        refine g_iload_n (pc := 461) F 2 dX9_goesOn_461 rfl ?_
        refine g_vv (pc := 462) (k := 70) (ci := 9) (fs := (oX9 ad)) (C := RX9) (T := TX9) (N := 33) (As := [.int r124, .int a2]) (st := []) F (c_X9_finds l D ad cs F.2.2.1 r124 a2 M125) (by decide) (fun _ => rfl) rfl (cwV 2 F.1.2.2.2.2 gX9_goesOn_X9_finds rfl rfl rfl hdV_X9_finds ⟨by decide, by decide⟩) rfl rfl (Nat.le_of_ble_eq_true rfl) dX9_goesOn_462 ⟨Nat.zero_le _, Nat.zero_le _⟩ (fun r126 M127 => ?_)
        refine g_goto (pc := 465) F 468 dX9_goesOn_465 (by decide) ?_
        exact g_vret (pc := 468) F hr hlk dX9_goesOn_468
      refine g_tabd (pc := 85) F 468 dX9_goesOn_85 (by have e0 := ne_lit (n := 0) (by decide) n71; have e1 := ne_lit (n := 1) (by decide) n76; have e2 := ne_lit (n := 2) (by decide) n81; have e3 := ne_lit (n := 3) (by decide) n90; have e4 := ne_lit (n := 4) (by decide) n93; have e5 := ne_lit (n := 5) (by decide) n98; have e6 := ne_lit (n := 6) (by decide) n109; have e7 := ne_lit (n := 7) (by decide) n116; have e8 := ne_lit (n := 8) (by decide) n123; omega) (by decide) ?_
      exact g_vret (pc := 468) F hr hlk dX9_goesOn_468
  · exact g_vret (pc := 16) F hr hlk dX9_goesOn_16
