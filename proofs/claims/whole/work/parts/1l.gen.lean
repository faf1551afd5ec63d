/-! Written by wip/whole/gen.py: pure functions of methods, and the walks that tie the bytecode to them. -/
-- X9_ranksAnew
def rmX9_ranksAnew : Room := { frames := 0, cells := 0, slots := 0, locals := 0 }
def f_X9_ranksAnew_L12 (x1 : Int32) (k : Mem → Int32 → Int32 → Option (Int32 × Mem)) : Nat → Mem → Int32 → Int32 → Option (Int32 × Mem)
  | 0, _, _, _ => none
  | n + 1, M, x2, x3 => if (M (70) 26) ≤ x3 then k M x2 x3 else if ix x3 51200 then if ((M (90) x3.toNatClampNeg) / 2048) = x1 then if ix x3 51200 then if ix (M (90) x3.toNatClampNeg) 51200 then wr M (89) (M (90) x3.toNatClampNeg).toNatClampNeg (M (70) 24) (fun M1 => if ix x3 51200 then if ix (M1 (70) 23) 51200 then wr M1 (86) (M1 (70) 23).toNatClampNeg (M1 (90) x3.toNatClampNeg) (fun M2 => wr M2 (70) 23 ((M2 (70) 23) + (1 : Int32)) (fun M3 => f_X9_ranksAnew_L12 x1 k n M3 1 (x3 + 1))) else none else none) else none else none else f_X9_ranksAnew_L12 x1 k n M x2 (x3 + 1) else none
def f_X9_ranksAnew_L2 (fu : Nat) (k : Mem → Int32 → Option (Int32 × Mem)) : Nat → Mem → Int32 → Option (Int32 × Mem)
  | 0, _, _ => none
  | n + 1, M, x1 => if 24 < x1 then k M x1 else f_X9_ranksAnew_L12 x1 (fun M4 y5 y6 => if y5 = 0 then wr M4 (70) 24 ((M4 (70) 24) + (0 : Int32)) (fun M7 => f_X9_ranksAnew_L2 fu k n M7 (x1 + 1)) else wr M4 (70) 24 ((M4 (70) 24) + (1 : Int32)) (fun M8 => f_X9_ranksAnew_L2 fu k n M8 (x1 + 1))) fu M 0 0
def f_X9_ranksAnew (fu : Nat) (M : Mem) : Option (Int32 × Mem) := f_X9_ranksAnew_L2 fu (fun M9 y10 => wr M9 (70) 26 0 (fun M11 => some (0, M11))) fu M 0
set_option maxRecDepth 20000 in
theorem kiX9_ranksAnew_X9 : ∀ w ∈ u_ws RX9 TX9 33, w ∈ wsX9_ranksAnew := by decide +kernel
set_option maxRecDepth 20000 in
theorem klX9_ranksAnew_106 : Cond.fieldLink RX9 106 "DoorListerModel" "anewMany" "I" ∈ wsX9_ranksAnew := by decide +kernel
set_option maxRecDepth 20000 in
theorem klX9_ranksAnew_77 : Cond.fieldLink RX9 77 "DoorListerModel" "anew" "[I" ∈ wsX9_ranksAnew := by decide +kernel
set_option maxRecDepth 20000 in
theorem klX9_ranksAnew_74 : Cond.fieldLink RX9 74 "DoorListerModel" "rank" "[I" ∈ wsX9_ranksAnew := by decide +kernel
set_option maxRecDepth 20000 in
theorem klX9_ranksAnew_125 : Cond.fieldLink RX9 125 "DoorListerModel" "ranks" "I" ∈ wsX9_ranksAnew := by decide +kernel
set_option maxRecDepth 20000 in
theorem klX9_ranksAnew_65 : Cond.fieldLink RX9 65 "DoorListerModel" "row" "[I" ∈ wsX9_ranksAnew := by decide +kernel
set_option maxRecDepth 20000 in
theorem klX9_ranksAnew_128 : Cond.fieldLink RX9 128 "DoorListerModel" "many" "I" ∈ wsX9_ranksAnew := by decide +kernel
set_option maxHeartbeats 4000000 in
set_option maxRecDepth 100000 in
theorem w_X9_ranksAnew_L12 {p : Program} {l : Launch} {e : Env} {s : State} {m : MethodId} {args : Array Value} {below : List Frame} {meth : Method} {c : Code} {D : va_G} {ad : Nat → Nat} {cs : Cs}  (x1 : Int32) (F : Fx p m c cX9_ranksAnew 4 s args wsX9_ranksAnew RX9 D ad cs (Ad ad)) (hr : meth.sig.returnType = none) (hlk : meth.locks = false) (k : Mem → Int32 → Int32 → Option (Int32 × Mem)) (hkx : ∀ (M : Mem) (x2 x3 : Int32), GoX p l e rmX9_ranksAnew s m args below meth c 0 0 4 (fun rM => MQ below (cQv D ad cs rM) args s 0 0 (Ad ad)) D ad cs (Ad ad) M 85 [(0, .ref (ad (70))), (1, .int x1), (2, .int x2), (3, .int x3)] [] (k M x2 x3)) : ∀ (n : Nat) (M : Mem) (x2 x3 : Int32), GoX p l e rmX9_ranksAnew s m args below meth c 0 0 4 (fun rM => MQ below (cQv D ad cs rM) args s 0 0 (Ad ad)) D ad cs (Ad ad) M 12 [(0, .ref (ad (70))), (1, .int x1), (2, .int x2), (3, .int x3)] [] (f_X9_ranksAnew_L12 x1 k n M x2 x3) := by
  intro n
  induction n with
  | zero => intro M x2 x3; exact g_none
  | succ n ih =>
    intro M x2 x3
    unfold f_X9_ranksAnew_L12
    refine g_iload_n (pc := 12) F 3 dX9_ranksAnew_12 rfl ?_
    refine g_aload_n (pc := 13) F 0 dX9_ranksAnew_13 rfl ?_
    refine g_get (pc := 14) (v := .int (M (70) 26)) (k := 70) (ci := 9) (fs := (oX9 ad)) (C := RX9) (T := TX9) (N := 33) F (by decide) (fun _ => rfl) rfl kiX9_ranksAnew_X9 26 (by decide) klX9_ranksAnew_106 rfl rfl dX9_ranksAnew_14 ?_
    refine g_icmp_ge (pc := 17) F 85 dX9_ranksAnew_17 (by decide) ?_ ?_
    · exact hkx _ _ _
    · refine g_aload_n (pc := 20) F 0 dX9_ranksAnew_20 rfl ?_
      refine g_get (pc := 21) (v := .ref (ad (90))) (k := 70) (ci := 9) (fs := (oX9 ad)) (C := RX9) (T := TX9) (N := 33) F (by decide) (fun _ => rfl) rfl kiX9_ranksAnew_X9 25 (by decide) klX9_ranksAnew_77 rfl rfl dX9_ranksAnew_21 ?_
      refine g_iload_n (pc := 24) F 3 dX9_ranksAnew_24 rfl ?_
      refine g_iald (pc := 25) (k := 90) (n := 51200) F (by decide) (fun _ => rfl) dX9_ranksAnew_25 ?_
      refine g_sipush (pc := 26) (v := 2048) F dX9_ranksAnew_26 (by decide) ?_
      refine g_idiv (pc := 29) F (by decide) dX9_ranksAnew_29 ?_
      refine g_iload_n (pc := 30) F 1 dX9_ranksAnew_30 rfl ?_
      refine g_icmp_eq (pc := 31) F 37 dX9_ranksAnew_31 (by decide) ?_ ?_
      · refine g_aload_n (pc := 37) F 0 dX9_ranksAnew_37 rfl ?_
        refine g_get (pc := 38) (v := .ref (ad (89))) (k := 70) (ci := 9) (fs := (oX9 ad)) (C := RX9) (T := TX9) (N := 33) F (by decide) (fun _ => rfl) rfl kiX9_ranksAnew_X9 22 (by decide) klX9_ranksAnew_74 rfl rfl dX9_ranksAnew_38 ?_
        refine g_aload_n (pc := 41) F 0 dX9_ranksAnew_41 rfl ?_
        refine g_get (pc := 42) (v := .ref (ad (90))) (k := 70) (ci := 9) (fs := (oX9 ad)) (C := RX9) (T := TX9) (N := 33) F (by decide) (fun _ => rfl) rfl kiX9_ranksAnew_X9 25 (by decide) klX9_ranksAnew_77 rfl rfl dX9_ranksAnew_42 ?_
        refine g_iload_n (pc := 45) F 3 dX9_ranksAnew_45 rfl ?_
        refine g_iald (pc := 46) (k := 90) (n := 51200) F (by decide) (fun _ => rfl) dX9_ranksAnew_46 ?_
        refine g_aload_n (pc := 47) F 0 dX9_ranksAnew_47 rfl ?_
        refine g_get (pc := 48) (v := .int (M (70) 24)) (k := 70) (ci := 9) (fs := (oX9 ad)) (C := RX9) (T := TX9) (N := 33) F (by decide) (fun _ => rfl) rfl kiX9_ranksAnew_X9 24 (by decide) klX9_ranksAnew_125 rfl rfl dX9_ranksAnew_48 ?_
        refine g_iast (pc := 51) (k := 89) (n := 51200) F (by decide) (fun _ => rfl) dX9_ranksAnew_51 (fun M1 => ?_)
        refine g_aload_n (pc := 52) F 0 dX9_ranksAnew_52 rfl ?_
        refine g_get (pc := 53) (v := .ref (ad (86))) (k := 70) (ci := 9) (fs := (oX9 ad)) (C := RX9) (T := TX9) (N := 33) F (by decide) (fun _ => rfl) rfl kiX9_ranksAnew_X9 19 (by decide) klX9_ranksAnew_65 rfl rfl dX9_ranksAnew_53 ?_
        refine g_aload_n (pc := 56) F 0 dX9_ranksAnew_56 rfl ?_
        refine g_get (pc := 57) (v := .int (M1 (70) 23)) (k := 70) (ci := 9) (fs := (oX9 ad)) (C := RX9) (T := TX9) (N := 33) F (by decide) (fun _ => rfl) rfl kiX9_ranksAnew_X9 23 (by decide) klX9_ranksAnew_128 rfl rfl dX9_ranksAnew_57 ?_
        refine g_aload_n (pc := 60) F 0 dX9_ranksAnew_60 rfl ?_
        refine g_get (pc := 61) (v := .ref (ad (90))) (k := 70) (ci := 9) (fs := (oX9 ad)) (C := RX9) (T := TX9) (N := 33) F (by decide) (fun _ => rfl) rfl kiX9_ranksAnew_X9 25 (by decide) klX9_ranksAnew_77 rfl rfl dX9_ranksAnew_61 ?_
        refine g_iload_n (pc := 64) F 3 dX9_ranksAnew_64 rfl ?_
        refine g_iald (pc := 65) (k := 90) (n := 51200) F (by decide) (fun _ => rfl) dX9_ranksAnew_65 ?_
        refine g_iast (pc := 66) (k := 86) (n := 51200) F (by decide) (fun _ => rfl) dX9_ranksAnew_66 (fun M2 => ?_)
        refine g_aload_n (pc := 67) F 0 dX9_ranksAnew_67 rfl ?_
        refine g_dup (pc := 68) F rfl dX9_ranksAnew_68 ?_
        refine g_get (pc := 69) (v := .int (M2 (70) 23)) (k := 70) (ci := 9) (fs := (oX9 ad)) (C := RX9) (T := TX9) (N := 33) F (by decide) (fun _ => rfl) rfl kiX9_ranksAnew_X9 23 (by decide) klX9_ranksAnew_128 rfl rfl dX9_ranksAnew_69 ?_
        refine g_iconst (pc := 72) (v := 1) F dX9_ranksAnew_72 (by decide) ?_
        refine g_iadd (pc := 73) F dX9_ranksAnew_73 ?_
        refine g_put (pc := 74) (k := 70) (ci := 9) (fs := (oX9 ad)) (C := RX9) (T := TX9) (N := 33) F (by decide) (fun _ => rfl) rfl kiX9_ranksAnew_X9 tyX9 tyX9_ok nmX9 23 (by decide) klX9_ranksAnew_128 rfl rfl rfl rfl (fun _ => rfl) (Nat.le_of_ble_eq_true rfl) dX9_ranksAnew_74 (fun M3 => ?_)
        refine g_iconst (pc := 77) (v := 1) F dX9_ranksAnew_77 (by decide) ?_
        refine g_istore_n (pc := 78) F [(0, .ref (ad (70))), (1, .int x1), (2, .int 1), (3, .int x3)] dX9_ranksAnew_78 (by decide) rfl rfl rfl ?_
        refine g_iinc (pc := 79) (v := x3 + 1) F [(0, .ref (ad (70))), (1, .int x1), (2, .int 1), (3, .int (x3 + 1))] 3 dX9_ranksAnew_79 rfl rfl (by decide) rfl rfl rfl ?_
        refine g_goto (pc := 82) F 12 dX9_ranksAnew_82 (by decide) ?_
        exact ih _ _ _
      · refine g_goto (pc := 34) F 79 dX9_ranksAnew_34 (by decide) ?_
        refine g_iinc (pc := 79) (v := x3 + 1) F [(0, .ref (ad (70))), (1, .int x1), (2, .int x2), (3, .int (x3 + 1))] 3 dX9_ranksAnew_79 rfl rfl (by decide) rfl rfl rfl ?_
        refine g_goto (pc := 82) F 12 dX9_ranksAnew_82 (by decide) ?_
        exact ih _ _ _
set_option maxHeartbeats 4000000 in
set_option maxRecDepth 100000 in
theorem w_X9_ranksAnew_L2 {p : Program} {l : Launch} {e : Env} {s : State} {m : MethodId} {args : Array Value} {below : List Frame} {meth : Method} {c : Code} {D : va_G} {ad : Nat → Nat} {cs : Cs} (fu : Nat)  (F : Fx p m c cX9_ranksAnew 4 s args wsX9_ranksAnew RX9 D ad cs (Ad ad)) (hr : meth.sig.returnType = none) (hlk : meth.locks = false) (k : Mem → Int32 → Option (Int32 × Mem)) (hkx : ∀ (M : Mem) (x1 : Int32), GoX p l e rmX9_ranksAnew s m args below meth c 0 0 4 (fun rM => MQ below (cQv D ad cs rM) args s 0 0 (Ad ad)) D ad cs (Ad ad) M 109 [(0, .ref (ad (70))), (1, .int x1)] [] (k M x1)) : ∀ (n : Nat) (M : Mem) (x1 : Int32), GoX p l e rmX9_ranksAnew s m args below meth c 0 0 4 (fun rM => MQ below (cQv D ad cs rM) args s 0 0 (Ad ad)) D ad cs (Ad ad) M 2 [(0, .ref (ad (70))), (1, .int x1)] [] (f_X9_ranksAnew_L2 fu k n M x1) := by
  intro n
  induction n with
  | zero => intro M x1; exact g_none
  | succ n ih =>
    intro M x1
    unfold f_X9_ranksAnew_L2
    refine g_iload_n (pc := 2) F 1 dX9_ranksAnew_2 rfl ?_
    refine g_bipush (pc := 3) (v := 24) F dX9_ranksAnew_3 (by decide) ?_
    refine g_icmp_gt (pc := 5) F 109 dX9_ranksAnew_5 (by decide) ?_ ?_
    · exact hkx _ _
    · refine g_iconst (pc := 8) (v := 0) F dX9_ranksAnew_8 (by decide) ?_
      refine g_istore_n (pc := 9) F [(0, .ref (ad (70))), (1, .int x1), (2, .int 0)] dX9_ranksAnew_9 (by decide) rfl rfl rfl ?_
      refine g_iconst (pc := 10) (v := 0) F dX9_ranksAnew_10 (by decide) ?_
      refine g_istore_n (pc := 11) F [(0, .ref (ad (70))), (1, .int x1), (2, .int 0), (3, .int 0)] dX9_ranksAnew_11 (by decide) rfl rfl rfl ?_
      refine w_X9_ranksAnew_L12 x1 F hr hlk _ (fun M4 y5 y6 => ?_) _ _ _ _
      refine g_aload_n (pc := 85) F 0 dX9_ranksAnew_85 rfl ?_
      refine g_dup (pc := 86) F rfl dX9_ranksAnew_86 ?_
      refine g_get (pc := 87) (v := .int (M4 (70) 24)) (k := 70) (ci := 9) (fs := (oX9 ad)) (C := RX9) (T := TX9) (N := 33) F (by decide) (fun _ => rfl) rfl kiX9_ranksAnew_X9 24 (by decide) klX9_ranksAnew_125 rfl rfl dX9_ranksAnew_87 ?_
      refine g_iload_n (pc := 90) F 2 dX9_ranksAnew_90 rfl ?_
      refine g_if_eq (pc := 91) F 98 dX9_ranksAnew_91 (by decide) ?_ ?_
      · refine g_iconst (pc := 98) (v := 0) F dX9_ranksAnew_98 (by decide) ?_
        refine g_iadd (pc := 99) F dX9_ranksAnew_99 ?_
        refine g_put (pc := 100) (k := 70) (ci := 9) (fs := (oX9 ad)) (C := RX9) (T := TX9) (N := 33) F (by decide) (fun _ => rfl) rfl kiX9_ranksAnew_X9 tyX9 tyX9_ok nmX9 24 (by decide) klX9_ranksAnew_125 rfl rfl rfl rfl (fun _ => rfl) (Nat.le_of_ble_eq_true rfl) dX9_ranksAnew_100 (fun M7 => ?_)
        refine g_iinc (pc := 103) (v := x1 + 1) F [(0, .ref (ad (70))), (1, .int (x1 + 1)), (2, .int y5), (3, .int y6)] 1 dX9_ranksAnew_103 rfl rfl (by decide) rfl rfl rfl ?_
        refine g_goto (pc := 106) F 2 dX9_ranksAnew_106 (by decide) ?_
        refine g_sub [0, 1] [(0, .ref (ad (70))), (1, .int (x1 + 1))] rfl ?_
        exact ih _ _
      · refine g_iconst (pc := 94) (v := 1) F dX9_ranksAnew_94 (by decide) ?_
        refine g_goto (pc := 95) F 99 dX9_ranksAnew_95 (by decide) ?_
        refine g_iadd (pc := 99) F dX9_ranksAnew_99 ?_
        refine g_put (pc := 100) (k := 70) (ci := 9) (fs := (oX9 ad)) (C := RX9) (T := TX9) (N := 33) F (by decide) (fun _ => rfl) rfl kiX9_ranksAnew_X9 tyX9 tyX9_ok nmX9 24 (by decide) klX9_ranksAnew_125 rfl rfl rfl rfl (fun _ => rfl) (Nat.le_of_ble_eq_true rfl) dX9_ranksAnew_100 (fun M8 => ?_)
        refine g_iinc (pc := 103) (v := x1 + 1) F [(0, .ref (ad (70))), (1, .int (x1 + 1)), (2, .int y5), (3, .int y6)] 1 dX9_ranksAnew_103 rfl rfl (by decide) rfl rfl rfl ?_
        refine g_goto (pc := 106) F 2 dX9_ranksAnew_106 (by decide) ?_
        refine g_sub [0, 1] [(0, .ref (ad (70))), (1, .int (x1 + 1))] rfl ?_
        exact ih _ _
set_option maxHeartbeats 4000000 in
set_option maxRecDepth 100000 in
theorem c_X9_ranksAnew (l : Launch) (D : va_G) (ad : Nat → Nat) (cs : Cs) (hi : Inj ad) (fu : Nat) (M : Mem) : MV l yX9_ranksAnew wsX9_ranksAnew rmX9_ranksAnew D ad cs [.ref (ad (70))] M (f_X9_ranksAnew fu M) := by
  refine Mx.of (cc := cX9_ranksAnew) (maxL := 4) (ret := none) (own := RX9) (lv := [(0, .ref (ad (70)))]) (by decide) rfl rfl (Nat.le_of_ble_eq_true rfl) rfl hi ?_
  intro p e s m below meth c F hr hlk
  unfold f_X9_ranksAnew
  refine g_iconst (pc := 0) (v := 0) F dX9_ranksAnew_0 (by decide) ?_
  refine g_istore_n (pc := 1) F [(0, .ref (ad (70))), (1, .int 0)] dX9_ranksAnew_1 (by decide) rfl rfl rfl ?_
  refine w_X9_ranksAnew_L2 fu F hr hlk _ (fun M9 y10 => ?_) _ _ _
  refine g_aload_n (pc := 109) F 0 dX9_ranksAnew_109 rfl ?_
  refine g_iconst (pc := 110) (v := 0) F dX9_ranksAnew_110 (by decide) ?_
  refine g_put (pc := 111) (k := 70) (ci := 9) (fs := (oX9 ad)) (C := RX9) (T := TX9) (N := 33) F (by decide) (fun _ => rfl) rfl kiX9_ranksAnew_X9 tyX9 tyX9_ok nmX9 26 (by decide) klX9_ranksAnew_106 rfl rfl rfl rfl (fun _ => rfl) (Nat.le_of_ble_eq_true rfl) dX9_ranksAnew_111 (fun M11 => ?_)
  exact g_vret (pc := 114) F hr hlk dX9_ranksAnew_114
-- X9_works
def rmX9_works : Room := { frames := 3, cells := 0, slots := 0, locals := 78 }
def f_X9_works_L30 (x1 : Int32) (k : Mem → Int32 → Option (Int32 × Mem)) : Nat → Mem → Int32 → Option (Int32 × Mem)
  | 0, _, _ => none
  | n + 1, M, x2 => if 64 ≤ x2 then k M x2 else if ix (((64 : Int32) * x1) + x2) 256 then wr M (77) (((64 : Int32) * x1) + x2).toNatClampNeg 0 (fun M4 => f_X9_works_L30 x1 k n M4 (x2 + 1)) else none
def f_X9_works_L56 (x1 : Int32) (k : Mem → Int32 → Option (Int32 × Mem)) : Nat → Mem → Int32 → Option (Int32 × Mem)
  | 0, _, _ => none
  | n + 1, M, x2 => if 51200 ≤ x2 then k M x2 else if ix x2 51200 then wr M (88) x2.toNatClampNeg ((-1)) (fun M7 => f_X9_works_L56 x1 k n M7 (x2 + 1)) else none
def f_X9_works_L135 (fu : Nat) (x1 : Int32) (k : Mem → Int32 → Option (Int32 × Mem)) : Nat → Mem → Int32 → Option (Int32 × Mem)
  | 0, _, _ => none
  | n + 1, M, x3 => if (M (70) 23) ≤ x3 then k M x3 else if ix x3 51200 then nm (M (86) x3.toNatClampNeg) (fun v23 => if ix x1 4 then if (M (72) x1.toNatClampNeg) ≤ (v23 / 2048) then bnd (f_X9_goesOn fu x1 v23 M) (fun r24 M25 => if (x3 + (1 : Int32)) = (M25 (70) 23) then bnd (f_X9_ranksAnew fu M25) (fun r26 M27 => f_X9_works_L135 fu x1 k n M27 (x3 + 1)) else nm (x3 + (1 : Int32)) (fun v28 => if ix v28 51200 then nm (M25 (86) v28.toNatClampNeg) (fun v29 => if ix v29 51200 then if ix v23 51200 then if (M25 (89) v29.toNatClampNeg) = (M25 (89) v23.toNatClampNeg) then f_X9_works_L135 fu x1 k n M25 (x3 + 1) else bnd (f_X9_ranksAnew fu M25) (fun r30 M31 => f_X9_works_L135 fu x1 k n M31 (x3 + 1)) else none else none) else none)) else if ix x1 4 then if ix x1 4 then wr M (79) x1.toNatClampNeg ((M (79) x1.toNatClampNeg) ||| ((1 : Int32) <<< ((v23 / 2048) &&& 31))) (fun M32 => bnd (f_X9_goesOn fu x1 v23 M32) (fun r33 M34 => if (x3 + (1 : Int32)) = (M34 (70) 23) then bnd (f_X9_ranksAnew fu M34) (fun r35 M36 => f_X9_works_L135 fu x1 k n M36 (x3 + 1)) else nm (x3 + (1 : Int32)) (fun v37 => if ix v37 51200 then nm (M34 (86) v37.toNatClampNeg) (fun v38 => if ix v38 51200 then if ix v23 51200 then if (M34 (89) v38.toNatClampNeg) = (M34 (89) v23.toNatClampNeg) then f_X9_works_L135 fu x1 k n M34 (x3 + 1) else bnd (f_X9_ranksAnew fu M34) (fun r39 M40 => f_X9_works_L135 fu x1 k n M40 (x3 + 1)) else none else none) else none))) else none else none else none) else none
def f_X9_works (fu : Nat) (a1 : Int32) (M : Mem) : Option (Int32 × Mem) := if (M (70) 18) = a1 then some (0, M) else wr M (70) 18 a1 (fun M1 => if ix a1 4 then wr M1 (80) a1.toNatClampNeg (vp_nar .boolean 1) (fun M2 => if ix a1 4 then wr M2 (79) a1.toNatClampNeg 0 (fun M3 => f_X9_works_L30 a1 (fun M5 y6 => f_X9_works_L56 a1 (fun M8 y9 => wr M8 (70) 23 0 (fun M10 => wr M10 (70) 24 0 (fun M11 => wr M11 (70) 26 0 (fun M12 => bnd (f_X9_endOf a1 0 M12) (fun r13 M14 => bnd (f_X9_stateOf r13 0 0 0 M14) (fun r15 M16 => if ix r15 51200 then wr M16 (88) r15.toNatClampNeg 0 (fun M17 => if ix r15 51200 then wr M17 (87) r15.toNatClampNeg ((-1)) (fun M18 => if ix 0 51200 then wr M18 (90) (0 : Int32).toNatClampNeg r15 (fun M19 => wr M19 (70) 26 1 (fun M20 => bnd (f_X9_ranksAnew fu M20) (fun r21 M22 => f_X9_works_L135 fu a1 (fun M41 y42 => some (0, M41)) fu M22 0))) else none) else none) else none)))))) fu M5 0) fu M3 0) else none) else none)
set_option maxRecDepth 20000 in
theorem kiX9_works_X9 : ∀ w ∈ u_ws RX9 TX9 33, w ∈ wsX9_works := by decide +kernel
set_option maxRecDepth 20000 in
theorem klX9_works_61 : Cond.fieldLink RX9 61 "DoorListerModel" "hand" "I" ∈ wsX9_works := by decide +kernel
set_option maxRecDepth 20000 in
theorem klX9_works_42 : Cond.fieldLink RX9 42 "DoorListerModel" "isFresh" "[Z" ∈ wsX9_works := by decide +kernel
set_option maxRecDepth 20000 in
theorem klX9_works_39 : Cond.fieldLink RX9 39 "DoorListerModel" "comes" "[I" ∈ wsX9_works := by decide +kernel
set_option maxRecDepth 20000 in
theorem klX9_works_33 : Cond.fieldLink RX9 33 "DoorListerModel" "need" "[I" ∈ wsX9_works := by decide +kernel
set_option maxRecDepth 20000 in
theorem kwX9_works_c64 : Cond.constant RX9 64 51200 ∈ wsX9_works := by decide +kernel
set_option maxRecDepth 20000 in
theorem klX9_works_71 : Cond.fieldLink RX9 71 "DoorListerModel" "depth" "[I" ∈ wsX9_works := by decide +kernel
set_option maxRecDepth 20000 in
theorem klX9_works_128 : Cond.fieldLink RX9 128 "DoorListerModel" "many" "I" ∈ wsX9_works := by decide +kernel
set_option maxRecDepth 20000 in
theorem klX9_works_125 : Cond.fieldLink RX9 125 "DoorListerModel" "ranks" "I" ∈ wsX9_works := by decide +kernel
set_option maxRecDepth 20000 in
theorem klX9_works_106 : Cond.fieldLink RX9 106 "DoorListerModel" "anewMany" "I" ∈ wsX9_works := by decide +kernel
set_option maxRecDepth 20000 in
theorem klX9_works_68 : Cond.fieldLink RX9 68 "DoorListerModel" "parent" "[I" ∈ wsX9_works := by decide +kernel
set_option maxRecDepth 20000 in
theorem klX9_works_77 : Cond.fieldLink RX9 77 "DoorListerModel" "anew" "[I" ∈ wsX9_works := by decide +kernel
set_option maxRecDepth 20000 in
theorem klX9_works_65 : Cond.fieldLink RX9 65 "DoorListerModel" "row" "[I" ∈ wsX9_works := by decide +kernel
set_option maxRecDepth 20000 in
theorem klX9_works_17 : Cond.fieldLink RX9 17 "DoorListerModel" "size" "[I" ∈ wsX9_works := by decide +kernel
set_option maxRecDepth 20000 in
theorem klX9_works_74 : Cond.fieldLink RX9 74 "DoorListerModel" "rank" "[I" ∈ wsX9_works := by decide +kernel
set_option maxHeartbeats 4000000 in
set_option maxRecDepth 100000 in
theorem w_X9_works_L30 {p : Program} {l : Launch} {e : Env} {s : State} {m : MethodId} {args : Array Value} {below : List Frame} {meth : Method} {c : Code} {D : va_G} {ad : Nat → Nat} {cs : Cs}  (x1 : Int32) (F : Fx p m c cX9_works 5 s args wsX9_works RX9 D ad cs (Ad ad)) (hr : meth.sig.returnType = none) (hlk : meth.locks = false) (k : Mem → Int32 → Option (Int32 × Mem)) (hkx : ∀ (M : Mem) (x2 : Int32), GoX p l e rmX9_works s m args below meth c 0 0 5 (fun rM => MQ below (cQv D ad cs rM) args s 0 0 (Ad ad)) D ad cs (Ad ad) M 54 [(0, .ref (ad (70))), (1, .int x1), (2, .int x2)] [] (k M x2)) : ∀ (n : Nat) (M : Mem) (x2 : Int32), GoX p l e rmX9_works s m args below meth c 0 0 5 (fun rM => MQ below (cQv D ad cs rM) args s 0 0 (Ad ad)) D ad cs (Ad ad) M 30 [(0, .ref (ad (70))), (1, .int x1), (2, .int x2)] [] (f_X9_works_L30 x1 k n M x2) := by
  intro n
  induction n with
  | zero => intro M x2; exact g_none
  | succ n ih =>
    intro M x2
    unfold f_X9_works_L30
    refine g_iload_n (pc := 30) F 2 dX9_works_30 rfl ?_
    refine g_bipush (pc := 31) (v := 64) F dX9_works_31 (by decide) ?_
    refine g_icmp_ge (pc := 33) F 54 dX9_works_33 (by decide) ?_ ?_
    · exact hkx _ _
    · refine g_aload_n (pc := 36) F 0 dX9_works_36 rfl ?_
      refine g_get (pc := 37) (v := .ref (ad (77))) (k := 70) (ci := 9) (fs := (oX9 ad)) (C := RX9) (T := TX9) (N := 33) F (by decide) (fun _ => rfl) rfl kiX9_works_X9 8 (by decide) klX9_works_33 rfl rfl dX9_works_37 ?_
      refine g_bipush (pc := 40) (v := 64) F dX9_works_40 (by decide) ?_
      refine g_iload_n (pc := 42) F 1 dX9_works_42 rfl ?_
      refine g_imul (pc := 43) F dX9_works_43 ?_
      refine g_iload_n (pc := 44) F 2 dX9_works_44 rfl ?_
      refine g_iadd (pc := 45) F dX9_works_45 ?_
      refine g_iconst (pc := 46) (v := 0) F dX9_works_46 (by decide) ?_
      refine g_iast (pc := 47) (k := 77) (n := 256) F (by decide) (fun _ => rfl) dX9_works_47 (fun M4 => ?_)
      refine g_iinc (pc := 48) (v := x2 + 1) F [(0, .ref (ad (70))), (1, .int x1), (2, .int (x2 + 1))] 2 dX9_works_48 rfl rfl (by decide) rfl rfl rfl ?_
      refine g_goto (pc := 51) F 30 dX9_works_51 (by decide) ?_
      exact ih _ _
set_option maxHeartbeats 4000000 in
set_option maxRecDepth 100000 in
theorem w_X9_works_L56 {p : Program} {l : Launch} {e : Env} {s : State} {m : MethodId} {args : Array Value} {below : List Frame} {meth : Method} {c : Code} {D : va_G} {ad : Nat → Nat} {cs : Cs}  (x1 : Int32) (F : Fx p m c cX9_works 5 s args wsX9_works RX9 D ad cs (Ad ad)) (hr : meth.sig.returnType = none) (hlk : meth.locks = false) (k : Mem → Int32 → Option (Int32 × Mem)) (hkx : ∀ (M : Mem) (x2 : Int32), GoX p l e rmX9_works s m args below meth c 0 0 5 (fun rM => MQ below (cQv D ad cs rM) args s 0 0 (Ad ad)) D ad cs (Ad ad) M 75 [(0, .ref (ad (70))), (1, .int x1), (2, .int x2)] [] (k M x2)) : ∀ (n : Nat) (M : Mem) (x2 : Int32), GoX p l e rmX9_works s m args below meth c 0 0 5 (fun rM => MQ below (cQv D ad cs rM) args s 0 0 (Ad ad)) D ad cs (Ad ad) M 56 [(0, .ref (ad (70))), (1, .int x1), (2, .int x2)] [] (f_X9_works_L56 x1 k n M x2) := by
  intro n
  induction n with
  | zero => intro M x2; exact g_none
  | succ n ih =>
    intro M x2
    unfold f_X9_works_L56
    refine g_iload_n (pc := 56) F 2 dX9_works_56 rfl ?_
    refine g_ldc (pc := 57) (v := 51200) F kwX9_works_c64 dX9_works_57 ?_
    refine g_icmp_ge (pc := 59) F 75 dX9_works_59 (by decide) ?_ ?_
    · exact hkx _ _
    · refine g_aload_n (pc := 62) F 0 dX9_works_62 rfl ?_
      refine g_get (pc := 63) (v := .ref (ad (88))) (k := 70) (ci := 9) (fs := (oX9 ad)) (C := RX9) (T := TX9) (N := 33) F (by decide) (fun _ => rfl) rfl kiX9_works_X9 21 (by decide) klX9_works_71 rfl rfl dX9_works_63 ?_
      refine g_iload_n (pc := 66) F 2 dX9_works_66 rfl ?_
      refine g_iconst (pc := 67) (v := (-1)) F dX9_works_67 (by decide) ?_
      refine g_iast (pc := 68) (k := 88) (n := 51200) F (by decide) (fun _ => rfl) dX9_works_68 (fun M7 => ?_)
      refine g_iinc (pc := 69) (v := x2 + 1) F [(0, .ref (ad (70))), (1, .int x1), (2, .int (x2 + 1))] 2 dX9_works_69 rfl rfl (by decide) rfl rfl rfl ?_
      refine g_goto (pc := 72) F 56 dX9_works_72 (by decide) ?_
      exact ih _ _
set_option maxHeartbeats 4000000 in
set_option maxRecDepth 100000 in
theorem w_X9_works_L135 {p : Program} {l : Launch} {e : Env} {s : State} {m : MethodId} {args : Array Value} {below : List Frame} {meth : Method} {c : Code} {D : va_G} {ad : Nat → Nat} {cs : Cs} (fu : Nat) (x1 : Int32) (F : Fx p m c cX9_works 5 s args wsX9_works RX9 D ad cs (Ad ad)) (hr : meth.sig.returnType = none) (hlk : meth.locks = false) (k : Mem → Int32 → Option (Int32 × Mem)) (hkx : ∀ (M : Mem) (x3 : Int32), GoX p l e rmX9_works s m args below meth c 0 0 5 (fun rM => MQ below (cQv D ad cs rM) args s 0 0 (Ad ad)) D ad cs (Ad ad) M 233 [(0, .ref (ad (70))), (1, .int x1), (3, .int x3)] [] (k M x3)) : ∀ (n : Nat) (M : Mem) (x3 : Int32), GoX p l e rmX9_works s m args below meth c 0 0 5 (fun rM => MQ below (cQv D ad cs rM) args s 0 0 (Ad ad)) D ad cs (Ad ad) M 135 [(0, .ref (ad (70))), (1, .int x1), (3, .int x3)] [] (f_X9_works_L135 fu x1 k n M x3) := by
  intro n
  induction n with
  | zero => intro M x3; exact g_none
  | succ n ih =>
    intro M x3
    unfold f_X9_works_L135
    refine g_iload_n (pc := 135) F 2 dX9_works_135 rfl ?_
    refine g_aload_n (pc := 136) F 0 dX9_works_136 rfl ?_
    refine g_get (pc := 137) (v := .int (M (70) 23)) (k := 70) (ci := 9) (fs := (oX9 ad)) (C := RX9) (T := TX9) (N := 33) F (by decide) (fun _ => rfl) rfl kiX9_works_X9 23 (by decide) klX9_works_128 rfl rfl dX9_works_137 ?_
    refine g_icmp_ge (pc := 140) F 233 dX9_works_140 (by decide) ?_ ?_
    · exact hkx _ _
    · refine g_aload_n (pc := 143) F 0 dX9_works_143 rfl ?_
      refine g_get (pc := 144) (v := .ref (ad (86))) (k := 70) (ci := 9) (fs := (oX9 ad)) (C := RX9) (T := TX9) (N := 33) F (by decide) (fun _ => rfl) rfl kiX9_works_X9 19 (by decide) klX9_works_65 rfl rfl dX9_works_144 ?_
      refine g_iload_n (pc := 147) F 2 dX9_works_147 rfl ?_
      refine g_iald (pc := 148) (k := 86) (n := 51200) F (by decide) (fun _ => rfl) dX9_works_148 ?_
      refine g_nm (fun v23 => ?_)
      refine g_istore (pc := 149) F [(0, .ref (ad (70))), (1, .int x1), (3, .int x3), (4, .int v23)] dX9_works_149 (by decide) rfl rfl rfl ?_
      refine g_iload (pc := 151) F 3 dX9_works_151 rfl ?_
      refine g_sipush (pc := 153) (v := 2048) F dX9_works_153 (by decide) ?_
      refine g_idiv (pc := 156) F (by decide) dX9_works_156 ?_
      refine g_aload_n (pc := 157) F 0 dX9_works_157 rfl ?_
      refine g_get (pc := 158) (v := .ref (ad (72))) (k := 70) (ci := 9) (fs := (oX9 ad)) (C := RX9) (T := TX9) (N := 33) F (by decide) (fun _ => rfl) rfl kiX9_works_X9 3 (by decide) klX9_works_17 rfl rfl dX9_works_158 ?_
      refine g_iload_n (pc := 161) F 1 dX9_works_161 rfl ?_
      refine g_iald (pc := 162) (k := 72) (n := 4) F (by decide) (fun _ => rfl) dX9_works_162 ?_
      refine g_icmp_ge (pc := 163) F 183 dX9_works_163 (by decide) ?_ ?_
      · refine g_aload_n (pc := 183) F 0 dX9_works_183 rfl ?_
        refine g_iload_n (pc := 184) F 1 dX9_works_184 rfl ?_
        refine g_iload (pc := 185) F 3 dX9_works_185 rfl ?_
        refine g_vv (pc := 187) (k := 70) (ci := 9) (fs := (oX9 ad)) (C := RX9) (T := TX9) (N := 33) (As := [.int x1, .int v23]) (st := []) F (c_X9_goesOn l D ad cs F.2.2.1 fu x1 v23 M) (by decide) (fun _ => rfl) rfl (cwV 2 F.1.2.2.2.2 gX9_works_X9_goesOn rfl rfl rfl hdV_X9_goesOn ⟨by decide, by decide⟩) rfl rfl (Nat.le_of_ble_eq_true rfl) dX9_works_187 ⟨Nat.zero_le _, Nat.zero_le _⟩ (fun r24 M25 => ?_)
        refine g_iload_n (pc := 190) F 2 dX9_works_190 rfl ?_
        refine g_iconst (pc := 191) (v := 1) F dX9_works_191 (by decide) ?_
        refine g_iadd (pc := 192) F dX9_works_192 ?_
        refine g_aload_n (pc := 193) F 0 dX9_works_193 rfl ?_
        refine g_get (pc := 194) (v := .int (M25 (70) 23)) (k := 70) (ci := 9) (fs := (oX9 ad)) (C := RX9) (T := TX9) (N := 33) F (by decide) (fun _ => rfl) rfl kiX9_works_X9 23 (by decide) klX9_works_128 rfl rfl dX9_works_194 ?_
        refine g_icmp_eq (pc := 197) F 223 dX9_works_197 (by decide) ?_ ?_
        · refine g_aload_n (pc := 223) F 0 dX9_works_223 rfl ?_
          refine g_vv (pc := 224) (k := 70) (ci := 9) (fs := (oX9 ad)) (C := RX9) (T := TX9) (N := 33) (As := []) (st := []) F (c_X9_ranksAnew l D ad cs F.2.2.1 fu M25) (by decide) (fun _ => rfl) rfl (cwV 0 F.1.2.2.2.2 gX9_works_X9_ranksAnew rfl rfl rfl hdV_X9_ranksAnew ⟨by decide, by decide⟩) rfl rfl (Nat.le_of_ble_eq_true rfl) dX9_works_224 ⟨Nat.zero_le _, Nat.zero_le _⟩ (fun r26 M27 => ?_)
          refine g_iinc (pc := 227) (v := x3 + 1) F [(0, .ref (ad (70))), (1, .int x1), (3, .int (x3 + 1)), (4, .int v23)] 2 dX9_works_227 rfl rfl (by decide) rfl rfl rfl ?_
          refine g_goto (pc := 230) F 135 dX9_works_230 (by decide) ?_
          refine g_sub [0, 1, 2] [(0, .ref (ad (70))), (1, .int x1), (3, .int (x3 + 1))] rfl ?_
          exact ih _ _
        · refine g_aload_n (pc := 200) F 0 dX9_works_200 rfl ?_
          refine g_get (pc := 201) (v := .ref (ad (89))) (k := 70) (ci := 9) (fs := (oX9 ad)) (C := RX9) (T := TX9) (N := 33) F (by decide) (fun _ => rfl) rfl kiX9_works_X9 22 (by decide) klX9_works_74 rfl rfl dX9_works_201 ?_
          refine g_aload_n (pc := 204) F 0 dX9_works_204 rfl ?_
          refine g_get (pc := 205) (v := .ref (ad (86))) (k := 70) (ci := 9) (fs := (oX9 ad)) (C := RX9) (T := TX9) (N := 33) F (by decide) (fun _ => rfl) rfl kiX9_works_X9 19 (by decide) klX9_works_65 rfl rfl dX9_works_205 ?_
          refine g_iload_n (pc := 208) F 2 dX9_works_208 rfl ?_
          refine g_iconst (pc := 209) (v := 1) F dX9_works_209 (by decide) ?_
          refine g_iadd (pc := 210) F dX9_works_210 ?_
          refine g_nm (fun v28 => ?_)
          refine g_iald (pc := 211) (k := 86) (n := 51200) F (by decide) (fun _ => rfl) dX9_works_211 ?_
          refine g_nm (fun v29 => ?_)
          refine g_iald (pc := 212) (k := 89) (n := 51200) F (by decide) (fun _ => rfl) dX9_works_212 ?_
          refine g_aload_n (pc := 213) F 0 dX9_works_213 rfl ?_
          refine g_get (pc := 214) (v := .ref (ad (89))) (k := 70) (ci := 9) (fs := (oX9 ad)) (C := RX9) (T := TX9) (N := 33) F (by decide) (fun _ => rfl) rfl kiX9_works_X9 22 (by decide) klX9_works_74 rfl rfl dX9_works_214 ?_
          refine g_iload (pc := 217) F 3 dX9_works_217 rfl ?_
          refine g_iald (pc := 219) (k := 89) (n := 51200) F (by decide) (fun _ => rfl) dX9_works_219 ?_
          refine g_icmp_eq (pc := 220) F 227 dX9_works_220 (by decide) ?_ ?_
          · refine g_iinc (pc := 227) (v := x3 + 1) F [(0, .ref (ad (70))), (1, .int x1), (3, .int (x3 + 1)), (4, .int v23)] 2 dX9_works_227 rfl rfl (by decide) rfl rfl rfl ?_
            refine g_goto (pc := 230) F 135 dX9_works_230 (by decide) ?_
            refine g_sub [0, 1, 2] [(0, .ref (ad (70))), (1, .int x1), (3, .int (x3 + 1))] rfl ?_
            exact ih _ _
          · refine g_aload_n (pc := 223) F 0 dX9_works_223 rfl ?_
            refine g_vv (pc := 224) (k := 70) (ci := 9) (fs := (oX9 ad)) (C := RX9) (T := TX9) (N := 33) (As := []) (st := []) F (c_X9_ranksAnew l D ad cs F.2.2.1 fu M25) (by decide) (fun _ => rfl) rfl (cwV 0 F.1.2.2.2.2 gX9_works_X9_ranksAnew rfl rfl rfl hdV_X9_ranksAnew ⟨by decide, by decide⟩) rfl rfl (Nat.le_of_ble_eq_true rfl) dX9_works_224 ⟨Nat.zero_le _, Nat.zero_le _⟩ (fun r30 M31 => ?_)
            refine g_iinc (pc := 227) (v := x3 + 1) F [(0, .ref (ad (70))), (1, .int x1), (3, .int (x3 + 1)), (4, .int v23)] 2 dX9_works_227 rfl rfl (by decide) rfl rfl rfl ?_
            refine g_goto (pc := 230) F 135 dX9_works_230 (by decide) ?_
            refine g_sub [0, 1, 2] [(0, .ref (ad (70))), (1, .int x1), (3, .int (x3 + 1))] rfl ?_
            exact ih _ _
      · refine g_aload_n (pc := 166) F 0 dX9_works_166 rfl ?_
        refine g_get (pc := 167) (v := .ref (ad (79))) (k := 70) (ci := 9) (fs := (oX9 ad)) (C := RX9) (T := TX9) (N := 33) F (by decide) (fun _ => rfl) rfl kiX9_works_X9 10 (by decide) klX9_works_39 rfl rfl dX9_works_167 ?_
        refine g_iload_n (pc := 170) F 1 dX9_works_170 rfl ?_
        refine g_dup2 (pc := 171) F rfl rfl dX9_works_171 ?_
        refine g_iald (pc := 172) (k := 79) (n := 4) F (by decide) (fun _ => rfl) dX9_works_172 ?_
        refine g_iconst (pc := 173) (v := 1) F dX9_works_173 (by decide) ?_
        refine g_iload (pc := 174) F 3 dX9_works_174 rfl ?_
        refine g_sipush (pc := 176) (v := 2048) F dX9_works_176 (by decide) ?_
        refine g_idiv (pc := 179) F (by decide) dX9_works_179 ?_
        refine g_ishl (pc := 180) F dX9_works_180 ?_
        refine g_ior (pc := 181) F dX9_works_181 ?_
        refine g_iast (pc := 182) (k := 79) (n := 4) F (by decide) (fun _ => rfl) dX9_works_182 (fun M32 => ?_)
        refine g_aload_n (pc := 183) F 0 dX9_works_183 rfl ?_
        refine g_iload_n (pc := 184) F 1 dX9_works_184 rfl ?_
        refine g_iload (pc := 185) F 3 dX9_works_185 rfl ?_
        refine g_vv (pc := 187) (k := 70) (ci := 9) (fs := (oX9 ad)) (C := RX9) (T := TX9) (N := 33) (As := [.int x1, .int v23]) (st := []) F (c_X9_goesOn l D ad cs F.2.2.1 fu x1 v23 M32) (by decide) (fun _ => rfl) rfl (cwV 2 F.1.2.2.2.2 gX9_works_X9_goesOn rfl rfl rfl hdV_X9_goesOn ⟨by decide, by decide⟩) rfl rfl (Nat.le_of_ble_eq_true rfl) dX9_works_187 ⟨Nat.zero_le _, Nat.zero_le _⟩ (fun r33 M34 => ?_)
        refine g_iload_n (pc := 190) F 2 dX9_works_190 rfl ?_
        refine g_iconst (pc := 191) (v := 1) F dX9_works_191 (by decide) ?_
        refine g_iadd (pc := 192) F dX9_works_192 ?_
        refine g_aload_n (pc := 193) F 0 dX9_works_193 rfl ?_
        refine g_get (pc := 194) (v := .int (M34 (70) 23)) (k := 70) (ci := 9) (fs := (oX9 ad)) (C := RX9) (T := TX9) (N := 33) F (by decide) (fun _ => rfl) rfl kiX9_works_X9 23 (by decide) klX9_works_128 rfl rfl dX9_works_194 ?_
        refine g_icmp_eq (pc := 197) F 223 dX9_works_197 (by decide) ?_ ?_
        · refine g_aload_n (pc := 223) F 0 dX9_works_223 rfl ?_
          refine g_vv (pc := 224) (k := 70) (ci := 9) (fs := (oX9 ad)) (C := RX9) (T := TX9) (N := 33) (As := []) (st := []) F (c_X9_ranksAnew l D ad cs F.2.2.1 fu M34) (by decide) (fun _ => rfl) rfl (cwV 0 F.1.2.2.2.2 gX9_works_X9_ranksAnew rfl rfl rfl hdV_X9_ranksAnew ⟨by decide, by decide⟩) rfl rfl (Nat.le_of_ble_eq_true rfl) dX9_works_224 ⟨Nat.zero_le _, Nat.zero_le _⟩ (fun r35 M36 => ?_)
          refine g_iinc (pc := 227) (v := x3 + 1) F [(0, .ref (ad (70))), (1, .int x1), (3, .int (x3 + 1)), (4, .int v23)] 2 dX9_works_227 rfl rfl (by decide) rfl rfl rfl ?_
          refine g_goto (pc := 230) F 135 dX9_works_230 (by decide) ?_
          refine g_sub [0, 1, 2] [(0, .ref (ad (70))), (1, .int x1), (3, .int (x3 + 1))] rfl ?_
          exact ih _ _
        · refine g_aload_n (pc := 200) F 0 dX9_works_200 rfl ?_
          refine g_get (pc := 201) (v := .ref (ad (89))) (k := 70) (ci := 9) (fs := (oX9 ad)) (C := RX9) (T := TX9) (N := 33) F (by decide) (fun _ => rfl) rfl kiX9_works_X9 22 (by decide) klX9_works_74 rfl rfl dX9_works_201 ?_
          refine g_aload_n (pc := 204) F 0 dX9_works_204 rfl ?_
          refine g_get (pc := 205) (v := .ref (ad (86))) (k := 70) (ci := 9) (fs := (oX9 ad)) (C := RX9) (T := TX9) (N := 33) F (by decide) (fun _ => rfl) rfl kiX9_works_X9 19 (by decide) klX9_works_65 rfl rfl dX9_works_205 ?_
          refine g_iload_n (pc := 208) F 2 dX9_works_208 rfl ?_
          refine g_iconst (pc := 209) (v := 1) F dX9_works_209 (by decide) ?_
          refine g_iadd (pc := 210) F dX9_works_210 ?_
          refine g_nm (fun v37 => ?_)
          refine g_iald (pc := 211) (k := 86) (n := 51200) F (by decide) (fun _ => rfl) dX9_works_211 ?_
          refine g_nm (fun v38 => ?_)
          refine g_iald (pc := 212) (k := 89) (n := 51200) F (by decide) (fun _ => rfl) dX9_works_212 ?_
          refine g_aload_n (pc := 213) F 0 dX9_works_213 rfl ?_
          refine g_get (pc := 214) (v := .ref (ad (89))) (k := 70) (ci := 9) (fs := (oX9 ad)) (C := RX9) (T := TX9) (N := 33) F (by decide) (fun _ => rfl) rfl kiX9_works_X9 22 (by decide) klX9_works_74 rfl rfl dX9_works_214 ?_
          refine g_iload (pc := 217) F 3 dX9_works_217 rfl ?_
          refine g_iald (pc := 219) (k := 89) (n := 51200) F (by decide) (fun _ => rfl) dX9_works_219 ?_
          refine g_icmp_eq (pc := 220) F 227 dX9_works_220 (by decide) ?_ ?_
          · refine g_iinc (pc := 227) (v := x3 + 1) F [(0, .ref (ad (70))), (1, .int x1), (3, .int (x3 + 1)), (4, .int v23)] 2 dX9_works_227 rfl rfl (by decide) rfl rfl rfl ?_
            refine g_goto (pc := 230) F 135 dX9_works_230 (by decide) ?_
            refine g_sub [0, 1, 2] [(0, .ref (ad (70))), (1, .int x1), (3, .int (x3 + 1))] rfl ?_
            exact ih _ _
          · refine g_aload_n (pc := 223) F 0 dX9_works_223 rfl ?_
            refine g_vv (pc := 224) (k := 70) (ci := 9) (fs := (oX9 ad)) (C := RX9) (T := TX9) (N := 33) (As := []) (st := []) F (c_X9_ranksAnew l D ad cs F.2.2.1 fu M34) (by decide) (fun _ => rfl) rfl (cwV 0 F.1.2.2.2.2 gX9_works_X9_ranksAnew rfl rfl rfl hdV_X9_ranksAnew ⟨by decide, by decide⟩) rfl rfl (Nat.le_of_ble_eq_true rfl) dX9_works_224 ⟨Nat.zero_le _, Nat.zero_le _⟩ (fun r39 M40 => ?_)
            refine g_iinc (pc := 227) (v := x3 + 1) F [(0, .ref (ad (70))), (1, .int x1), (3, .int (x3 + 1)), (4, .int v23)] 2 dX9_works_227 rfl rfl (by decide) rfl rfl rfl ?_
            refine g_goto (pc := 230) F 135 dX9_works_230 (by decide) ?_
            refine g_sub [0, 1, 2] [(0, .ref (ad (70))), (1, .int x1), (3, .int (x3 + 1))] rfl ?_
            exact ih _ _
set_option maxHeartbeats 4000000 in
set_option maxRecDepth 100000 in
theorem c_X9_works (l : Launch) (D : va_G) (ad : Nat → Nat) (cs : Cs) (hi : Inj ad) (fu : Nat) (a1 : Int32) (M : Mem) : MV l yX9_works wsX9_works rmX9_works D ad cs [.ref (ad (70)), .int a1] M (f_X9_works fu a1 M) := by
  refine Mx.of (cc := cX9_works) (maxL := 5) (ret := none) (own := RX9) (lv := [(0, .ref (ad (70))), (1, .int a1)]) (by decide) rfl rfl (Nat.le_of_ble_eq_true rfl) rfl hi ?_
  intro p e s m below meth c F hr hlk
  unfold f_X9_works
  refine g_aload_n (pc := 0) F 0 dX9_works_0 rfl ?_
  refine g_get (pc := 1) (v := .int (M (70) 18)) (k := 70) (ci := 9) (fs := (oX9 ad)) (C := RX9) (T := TX9) (N := 33) F (by decide) (fun _ => rfl) rfl kiX9_works_X9 18 (by decide) klX9_works_61 rfl rfl dX9_works_1 ?_
  refine g_iload_n (pc := 4) F 1 dX9_works_4 rfl ?_
  refine g_icmp_ne (pc := 5) F 9 dX9_works_5 (by decide) ?_ ?_
  · refine g_aload_n (pc := 9) F 0 dX9_works_9 rfl ?_
    refine g_iload_n (pc := 10) F 1 dX9_works_10 rfl ?_
    refine g_put (pc := 11) (k := 70) (ci := 9) (fs := (oX9 ad)) (C := RX9) (T := TX9) (N := 33) F (by decide) (fun _ => rfl) rfl kiX9_works_X9 tyX9 tyX9_ok nmX9 18 (by decide) klX9_works_61 rfl rfl rfl rfl (fun _ => rfl) (Nat.le_of_ble_eq_true rfl) dX9_works_11 (fun M1 => ?_)
    refine g_aload_n (pc := 14) F 0 dX9_works_14 rfl ?_
    refine g_get (pc := 15) (v := .ref (ad (80))) (k := 70) (ci := 9) (fs := (oX9 ad)) (C := RX9) (T := TX9) (N := 33) F (by decide) (fun _ => rfl) rfl kiX9_works_X9 11 (by decide) klX9_works_42 rfl rfl dX9_works_15 ?_
    refine g_iload_n (pc := 18) F 1 dX9_works_18 rfl ?_
    refine g_iconst (pc := 19) (v := 1) F dX9_works_19 (by decide) ?_
    refine g_zast (pc := 20) (k := 80) (n := 4) F (by decide) (fun _ => rfl) dX9_works_20 (fun M2 => ?_)
    refine g_aload_n (pc := 21) F 0 dX9_works_21 rfl ?_
    refine g_get (pc := 22) (v := .ref (ad (79))) (k := 70) (ci := 9) (fs := (oX9 ad)) (C := RX9) (T := TX9) (N := 33) F (by decide) (fun _ => rfl) rfl kiX9_works_X9 10 (by decide) klX9_works_39 rfl rfl dX9_works_22 ?_
    refine g_iload_n (pc := 25) F 1 dX9_works_25 rfl ?_
    refine g_iconst (pc := 26) (v := 0) F dX9_works_26 (by decide) ?_
    refine g_iast (pc := 27) (k := 79) (n := 4) F (by decide) (fun _ => rfl) dX9_works_27 (fun M3 => ?_)
    refine g_iconst (pc := 28) (v := 0) F dX9_works_28 (by decide) ?_
    refine g_istore_n (pc := 29) F [(0, .ref (ad (70))), (1, .int a1), (2, .int 0)] dX9_works_29 (by decide) rfl rfl rfl ?_
    refine w_X9_works_L30 a1 F hr hlk _ (fun M5 y6 => ?_) _ _ _
    refine g_iconst (pc := 54) (v := 0) F dX9_works_54 (by decide) ?_
    refine g_istore_n (pc := 55) F [(0, .ref (ad (70))), (1, .int a1), (2, .int 0)] dX9_works_55 (by decide) rfl rfl rfl ?_
    refine w_X9_works_L56 a1 F hr hlk _ (fun M8 y9 => ?_) _ _ _
    refine g_aload_n (pc := 75) F 0 dX9_works_75 rfl ?_
    refine g_iconst (pc := 76) (v := 0) F dX9_works_76 (by decide) ?_
    refine g_put (pc := 77) (k := 70) (ci := 9) (fs := (oX9 ad)) (C := RX9) (T := TX9) (N := 33) F (by decide) (fun _ => rfl) rfl kiX9_works_X9 tyX9 tyX9_ok nmX9 23 (by decide) klX9_works_128 rfl rfl rfl rfl (fun _ => rfl) (Nat.le_of_ble_eq_true rfl) dX9_works_77 (fun M10 => ?_)
    refine g_aload_n (pc := 80) F 0 dX9_works_80 rfl ?_
    refine g_iconst (pc := 81) (v := 0) F dX9_works_81 (by decide) ?_
    refine g_put (pc := 82) (k := 70) (ci := 9) (fs := (oX9 ad)) (C := RX9) (T := TX9) (N := 33) F (by decide) (fun _ => rfl) rfl kiX9_works_X9 tyX9 tyX9_ok nmX9 24 (by decide) klX9_works_125 rfl rfl rfl rfl (fun _ => rfl) (Nat.le_of_ble_eq_true rfl) dX9_works_82 (fun M11 => ?_)
    refine g_aload_n (pc := 85) F 0 dX9_works_85 rfl ?_
    refine g_iconst (pc := 86) (v := 0) F dX9_works_86 (by decide) ?_
    refine g_put (pc := 87) (k := 70) (ci := 9) (fs := (oX9 ad)) (C := RX9) (T := TX9) (N := 33) F (by decide) (fun _ => rfl) rfl kiX9_works_X9 tyX9 tyX9_ok nmX9 26 (by decide) klX9_works_106 rfl rfl rfl rfl (fun _ => rfl) (Nat.le_of_ble_eq_true rfl) dX9_works_87 (fun M12 => ?_)
    refine g_aload_n (pc := 90) F 0 dX9_works_90 rfl ?_
    refine g_iload_n (pc := 91) F 1 dX9_works_91 rfl ?_
    refine g_iconst (pc := 92) (v := 0) F dX9_works_92 (by decide) ?_
    refine g_vi (pc := 93) (k := 70) (ci := 9) (fs := (oX9 ad)) (C := RX9) (T := TX9) (N := 33) (As := [.int a1, .int 0]) (st := []) F (c_X9_endOf l D ad cs F.2.2.1 a1 0 M12) (by decide) (fun _ => rfl) rfl (cwV 2 F.1.2.2.2.2 gX9_works_X9_endOf rfl rfl rfl hdV_X9_endOf ⟨by decide, by decide⟩) rfl rfl (Nat.le_of_ble_eq_true rfl) dX9_works_93 ⟨Nat.zero_le _, Nat.zero_le _⟩ (fun r13 M14 => ?_)
    refine g_iconst (pc := 96) (v := 0) F dX9_works_96 (by decide) ?_
    refine g_iconst (pc := 97) (v := 0) F dX9_works_97 (by decide) ?_
    refine g_iconst (pc := 98) (v := 0) F dX9_works_98 (by decide) ?_
    refine g_si (pc := 99) (As := [.int r13, .int 0, .int 0, .int 0]) (st := []) F (c_X9_stateOf l D ad cs F.2.2.1 r13 0 0 0 M14) (va_cwS 4 F.1.2.2.2.2 gX9_works_X9_stateOf rfl rfl rfl hdS_X9_stateOf ⟨by decide, by decide⟩) rfl rfl (Nat.le_of_ble_eq_true rfl) dX9_works_99 ⟨Nat.zero_le _, Nat.zero_le _⟩ (fun r15 M16 => ?_)
    refine g_istore_n (pc := 102) F [(0, .ref (ad (70))), (1, .int a1), (2, .int r15)] dX9_works_102 (by decide) rfl rfl rfl ?_
    refine g_aload_n (pc := 103) F 0 dX9_works_103 rfl ?_
    refine g_get (pc := 104) (v := .ref (ad (88))) (k := 70) (ci := 9) (fs := (oX9 ad)) (C := RX9) (T := TX9) (N := 33) F (by decide) (fun _ => rfl) rfl kiX9_works_X9 21 (by decide) klX9_works_71 rfl rfl dX9_works_104 ?_
    refine g_iload_n (pc := 107) F 2 dX9_works_107 rfl ?_
    refine g_iconst (pc := 108) (v := 0) F dX9_works_108 (by decide) ?_
    refine g_iast (pc := 109) (k := 88) (n := 51200) F (by decide) (fun _ => rfl) dX9_works_109 (fun M17 => ?_)
    refine g_aload_n (pc := 110) F 0 dX9_works_110 rfl ?_
    refine g_get (pc := 111) (v := .ref (ad (87))) (k := 70) (ci := 9) (fs := (oX9 ad)) (C := RX9) (T := TX9) (N := 33) F (by decide) (fun _ => rfl) rfl kiX9_works_X9 20 (by decide) klX9_works_68 rfl rfl dX9_works_111 ?_
    refine g_iload_n (pc := 114) F 2 dX9_works_114 rfl ?_
    refine g_iconst (pc := 115) (v := (-1)) F dX9_works_115 (by decide) ?_
    refine g_iast (pc := 116) (k := 87) (n := 51200) F (by decide) (fun _ => rfl) dX9_works_116 (fun M18 => ?_)
    refine g_aload_n (pc := 117) F 0 dX9_works_117 rfl ?_
    refine g_get (pc := 118) (v := .ref (ad (90))) (k := 70) (ci := 9) (fs := (oX9 ad)) (C := RX9) (T := TX9) (N := 33) F (by decide) (fun _ => rfl) rfl kiX9_works_X9 25 (by decide) klX9_works_77 rfl rfl dX9_works_118 ?_
    refine g_iconst (pc := 121) (v := 0) F dX9_works_121 (by decide) ?_
    refine g_iload_n (pc := 122) F 2 dX9_works_122 rfl ?_
    refine g_iast (pc := 123) (k := 90) (n := 51200) F (by decide) (fun _ => rfl) dX9_works_123 (fun M19 => ?_)
    refine g_aload_n (pc := 124) F 0 dX9_works_124 rfl ?_
    refine g_iconst (pc := 125) (v := 1) F dX9_works_125 (by decide) ?_
    refine g_put (pc := 126) (k := 70) (ci := 9) (fs := (oX9 ad)) (C := RX9) (T := TX9) (N := 33) F (by decide) (fun _ => rfl) rfl kiX9_works_X9 tyX9 tyX9_ok nmX9 26 (by decide) klX9_works_106 rfl rfl rfl rfl (fun _ => rfl) (Nat.le_of_ble_eq_true rfl) dX9_works_126 (fun M20 => ?_)
    refine g_aload_n (pc := 129) F 0 dX9_works_129 rfl ?_
    refine g_vv (pc := 130) (k := 70) (ci := 9) (fs := (oX9 ad)) (C := RX9) (T := TX9) (N := 33) (As := []) (st := []) F (c_X9_ranksAnew l D ad cs F.2.2.1 fu M20) (by decide) (fun _ => rfl) rfl (cwV 0 F.1.2.2.2.2 gX9_works_X9_ranksAnew rfl rfl rfl hdV_X9_ranksAnew ⟨by decide, by decide⟩) rfl rfl (Nat.le_of_ble_eq_true rfl) dX9_works_130 ⟨Nat.zero_le _, Nat.zero_le _⟩ (fun r21 M22 => ?_)
    refine g_iconst (pc := 133) (v := 0) F dX9_works_133 (by decide) ?_
    refine g_istore_n (pc := 134) F [(0, .ref (ad (70))), (1, .int a1), (2, .int r15), (3, .int 0)] dX9_works_134 (by decide) rfl rfl rfl ?_
    refine g_sub [0, 1, 3] [(0, .ref (ad (70))), (1, .int a1), (3, .int 0)] rfl ?_
    refine w_X9_works_L135 fu a1 F hr hlk _ (fun M41 y42 => ?_) _ _ _
    exact g_vret (pc := 233) F hr hlk dX9_works_233
  · exact g_vret (pc := 8) F hr hlk dX9_works_8
-- X9_knows
def rmX9_knows : Room := { frames := 4, cells := 0, slots := 0, locals := 102 }
def f_X9_knows (fu : Nat) (a1 : Int32) (M : Mem) : Option (Int32 × Mem) := if ix a1 4 then if (M (80) a1.toNatClampNeg) = 0 then bnd (f_X9_works fu a1 M) (fun r1 M2 => some (0, M2)) else some (0, M) else none
set_option maxRecDepth 20000 in
theorem kiX9_knows_X9 : ∀ w ∈ u_ws RX9 TX9 33, w ∈ wsX9_knows := by decide +kernel
set_option maxRecDepth 20000 in
theorem klX9_knows_42 : Cond.fieldLink RX9 42 "DoorListerModel" "isFresh" "[Z" ∈ wsX9_knows := by decide +kernel
set_option maxHeartbeats 4000000 in
set_option maxRecDepth 100000 in
theorem c_X9_knows (l : Launch) (D : va_G) (ad : Nat → Nat) (cs : Cs) (hi : Inj ad) (fu : Nat) (a1 : Int32) (M : Mem) : MV l yX9_knows wsX9_knows rmX9_knows D ad cs [.ref (ad (70)), .int a1] M (f_X9_knows fu a1 M) := by
  refine Mx.of (cc := cX9_knows) (maxL := 2) (ret := none) (own := RX9) (lv := [(0, .ref (ad (70))), (1, .int a1)]) (by decide) rfl rfl (Nat.le_of_ble_eq_true rfl) rfl hi ?_
  intro p e s m below meth c F hr hlk
  unfold f_X9_knows
  refine g_aload_n (pc := 0) F 0 dX9_knows_0 rfl ?_
  refine g_get (pc := 1) (v := .ref (ad (80))) (k := 70) (ci := 9) (fs := (oX9 ad)) (C := RX9) (T := TX9) (N := 33) F (by decide) (fun _ => rfl) rfl kiX9_knows_X9 11 (by decide) klX9_knows_42 rfl rfl dX9_knows_1 ?_
  refine g_iload_n (pc := 4) F 1 dX9_knows_4 rfl ?_
  refine g_zald (pc := 5) (k := 80) (n := 4) F (by decide) (fun _ => rfl) dX9_knows_5 ?_
  refine g_if_ne (pc := 6) F 14 dX9_knows_6 (by decide) ?_ ?_
  · exact g_vret (pc := 14) F hr hlk dX9_knows_14
  · refine g_aload_n (pc := 9) F 0 dX9_knows_9 rfl ?_
    refine g_iload_n (pc := 10) F 1 dX9_knows_10 rfl ?_
    refine g_vv (pc := 11) (k := 70) (ci := 9) (fs := (oX9 ad)) (C := RX9) (T := TX9) (N := 33) (As := [.int a1]) (st := []) F (c_X9_works l D ad cs F.2.2.1 fu a1 M) (by decide) (fun _ => rfl) rfl (cwV 1 F.1.2.2.2.2 gX9_knows_X9_works rfl rfl rfl hdV_X9_works ⟨by decide, by decide⟩) rfl rfl (Nat.le_of_ble_eq_true rfl) dX9_knows_11 ⟨Nat.zero_le _, Nat.zero_le _⟩ (fun r1 M2 => ?_)
    exact g_vret (pc := 14) F hr hlk dX9_knows_14
-- X9_needOf
def rmX9_needOf : Room := { frames := 5, cells := 0, slots := 0, locals := 123 }
def f_X9_needOf (fu : Nat) (a1 : Int32) (a2 : Int32) (a3 : Int32) (M : Mem) : Option (Int32 × Mem) := bnd (f_X9_knows fu a1 M) (fun r1 M2 => nm ((((64 : Int32) * a1) + ((32 : Int32) * a2)) + a3) (fun v3 => if ix v3 256 then some (M2 (77) v3.toNatClampNeg, M2) else none))
set_option maxRecDepth 20000 in
theorem kiX9_needOf_X9 : ∀ w ∈ u_ws RX9 TX9 33, w ∈ wsX9_needOf := by decide +kernel
set_option maxRecDepth 20000 in
theorem klX9_needOf_33 : Cond.fieldLink RX9 33 "DoorListerModel" "need" "[I" ∈ wsX9_needOf := by decide +kernel
set_option maxHeartbeats 4000000 in
set_option maxRecDepth 100000 in
theorem c_X9_needOf (l : Launch) (D : va_G) (ad : Nat → Nat) (cs : Cs) (hi : Inj ad) (fu : Nat) (a1 : Int32) (a2 : Int32) (a3 : Int32) (M : Mem) : MI l yX9_needOf wsX9_needOf rmX9_needOf D ad cs [.ref (ad (70)), .int a1, .int a2, .int a3] M (f_X9_needOf fu a1 a2 a3 M) := by
  refine Mx.of (cc := cX9_needOf) (maxL := 4) (ret := (some .int)) (own := RX9) (lv := [(0, .ref (ad (70))), (1, .int a1), (2, .int a2), (3, .int a3)]) (by decide) rfl rfl (Nat.le_of_ble_eq_true rfl) rfl hi ?_
  intro p e s m below meth c F hr hlk
  unfold f_X9_needOf
  refine g_aload_n (pc := 0) F 0 dX9_needOf_0 rfl ?_
  refine g_iload_n (pc := 1) F 1 dX9_needOf_1 rfl ?_
  refine g_vv (pc := 2) (k := 70) (ci := 9) (fs := (oX9 ad)) (C := RX9) (T := TX9) (N := 33) (As := [.int a1]) (st := []) F (c_X9_knows l D ad cs F.2.2.1 fu a1 M) (by decide) (fun _ => rfl) rfl (cwV 1 F.1.2.2.2.2 gX9_needOf_X9_knows rfl rfl rfl hdV_X9_knows ⟨by decide, by decide⟩) rfl rfl (Nat.le_of_ble_eq_true rfl) dX9_needOf_2 ⟨Nat.zero_le _, Nat.zero_le _⟩ (fun r1 M2 => ?_)
  refine g_aload_n (pc := 5) F 0 dX9_needOf_5 rfl ?_
  refine g_get (pc := 6) (v := .ref (ad (77))) (k := 70) (ci := 9) (fs := (oX9 ad)) (C := RX9) (T := TX9) (N := 33) F (by decide) (fun _ => rfl) rfl kiX9_needOf_X9 8 (by decide) klX9_needOf_33 rfl rfl dX9_needOf_6 ?_
  refine g_bipush (pc := 9) (v := 64) F dX9_needOf_9 (by decide) ?_
  refine g_iload_n (pc := 11) F 1 dX9_needOf_11 rfl ?_
  refine g_imul (pc := 12) F dX9_needOf_12 ?_
  refine g_bipush (pc := 13) (v := 32) F dX9_needOf_13 (by decide) ?_
  refine g_iload_n (pc := 15) F 2 dX9_needOf_15 rfl ?_
  refine g_imul (pc := 16) F dX9_needOf_16 ?_
  refine g_iadd (pc := 17) F dX9_needOf_17 ?_
  refine g_iload_n (pc := 18) F 3 dX9_needOf_18 rfl ?_
  refine g_iadd (pc := 19) F dX9_needOf_19 ?_
  refine g_nm (fun v3 => ?_)
  refine g_iald (pc := 20) (k := 77) (n := 256) F (by decide) (fun _ => rfl) dX9_needOf_20 ?_
  exact g_iret (pc := 21) F hr hlk dX9_needOf_21
-- X9_isPlace
def rmX9_isPlace : Room := { frames := 1, cells := 0, slots := 0, locals := 22 }
def f_X9_isPlace (a0 : Int32) (a1 : Int32) (M : Mem) : Option (Int32 × Mem) := bnd (f_X9_lies a0 0 1 M) (fun r1 M2 => if r1 = 0 then some (0, M2) else bnd (f_X9_lies a1 0 31 M2) (fun r3 M4 => if r3 = 0 then some (0, M4) else some (1, M4)))
set_option maxHeartbeats 4000000 in
set_option maxRecDepth 100000 in
theorem c_X9_isPlace (l : Launch) (D : va_G) (ad : Nat → Nat) (cs : Cs) (hi : Inj ad) (a0 : Int32) (a1 : Int32) (M : Mem) : MI l yX9_isPlace wsX9_isPlace rmX9_isPlace D ad cs [.int a0, .int a1] M (f_X9_isPlace a0 a1 M) := by
  refine Mx.of (cc := cX9_isPlace) (maxL := 2) (ret := (some .boolean)) (own := RX9) (lv := [(0, .int a0), (1, .int a1)]) (by decide) rfl rfl (Nat.le_of_ble_eq_true rfl) rfl hi ?_
  intro p e s m below meth c F hr hlk
  unfold f_X9_isPlace
  refine g_iload_n (pc := 0) F 0 dX9_isPlace_0 rfl ?_
  refine g_iconst (pc := 1) (v := 0) F dX9_isPlace_1 (by decide) ?_
  refine g_iconst (pc := 2) (v := 1) F dX9_isPlace_2 (by decide) ?_
  refine g_si (pc := 3) (As := [.int a0, .int 0, .int 1]) (st := []) F (c_X9_lies l D ad cs F.2.2.1 a0 0 1 M) (va_cwS 3 F.1.2.2.2.2 gX9_isPlace_X9_lies rfl rfl rfl hdS_X9_lies ⟨by decide, by decide⟩) rfl rfl (Nat.le_of_ble_eq_true rfl) dX9_isPlace_3 ⟨Nat.zero_le _, Nat.zero_le _⟩ (fun r1 M2 => ?_)
  refine g_if_eq (pc := 6) F 23 dX9_isPlace_6 (by decide) ?_ ?_
  · refine g_iconst (pc := 23) (v := 0) F dX9_isPlace_23 (by decide) ?_
    exact g_zret (pc := 24) F hr hlk rfl dX9_isPlace_24
  · refine g_iload_n (pc := 9) F 1 dX9_isPlace_9 rfl ?_
    refine g_iconst (pc := 10) (v := 0) F dX9_isPlace_10 (by decide) ?_
    refine g_bipush (pc := 11) (v := 31) F dX9_isPlace_11 (by decide) ?_
    refine g_si (pc := 13) (As := [.int a1, .int 0, .int 31]) (st := []) F (c_X9_lies l D ad cs F.2.2.1 a1 0 31 M2) (va_cwS 3 F.1.2.2.2.2 gX9_isPlace_X9_lies rfl rfl rfl hdS_X9_lies ⟨by decide, by decide⟩) rfl rfl (Nat.le_of_ble_eq_true rfl) dX9_isPlace_13 ⟨Nat.zero_le _, Nat.zero_le _⟩ (fun r3 M4 => ?_)
    refine g_if_eq (pc := 16) F 23 dX9_isPlace_16 (by decide) ?_ ?_
    · refine g_iconst (pc := 23) (v := 0) F dX9_isPlace_23 (by decide) ?_
      exact g_zret (pc := 24) F hr hlk rfl dX9_isPlace_24
    · refine g_iconst (pc := 19) (v := 1) F dX9_isPlace_19 (by decide) ?_
      refine g_goto (pc := 20) F 24 dX9_isPlace_20 (by decide) ?_
      exact g_zret (pc := 24) F hr hlk rfl dX9_isPlace_24
-- X9_needed
def rmX9_needed : Room := { frames := 6, cells := 0, slots := 0, locals := 146 }
def f_X9_needed (fu : Nat) (a1 : Int32) (a2 : Int32) (a3 : Int32) (M : Mem) : Option (Int32 × Mem) := bnd (f_X9_isProgram a1 M) (fun r1 M2 => if r1 = 0 then some (0, M2) else bnd (f_X9_isPlace a2 a3 M2) (fun r3 M4 => if r3 = 0 then some (0, M4) else bnd (f_X9_needOf fu a1 a2 a3 M4) (fun r5 M6 => some (r5, M6))))
set_option maxHeartbeats 4000000 in
set_option maxRecDepth 100000 in
theorem c_X9_needed (l : Launch) (D : va_G) (ad : Nat → Nat) (cs : Cs) (hi : Inj ad) (fu : Nat) (a1 : Int32) (a2 : Int32) (a3 : Int32) (M : Mem) : MI l yX9_needed wsX9_needed rmX9_needed D ad cs [.ref (ad (70)), .int a1, .int a2, .int a3] M (f_X9_needed fu a1 a2 a3 M) := by
  refine Mx.of (cc := cX9_needed) (maxL := 4) (ret := (some .int)) (own := RX9) (lv := [(0, .ref (ad (70))), (1, .int a1), (2, .int a2), (3, .int a3)]) (by decide) rfl rfl (Nat.le_of_ble_eq_true rfl) rfl hi ?_
  intro p e s m below meth c F hr hlk
  unfold f_X9_needed
  refine g_iload_n (pc := 0) F 1 dX9_needed_0 rfl ?_
  refine g_si (pc := 1) (As := [.int a1]) (st := []) F (c_X9_isProgram l D ad cs F.2.2.1 a1 M) (va_cwS 1 F.1.2.2.2.2 gX9_needed_X9_isProgram rfl rfl rfl hdS_X9_isProgram ⟨by decide, by decide⟩) rfl rfl (Nat.le_of_ble_eq_true rfl) dX9_needed_1 ⟨Nat.zero_le _, Nat.zero_le _⟩ (fun r1 M2 => ?_)
  refine g_if_eq (pc := 4) F 25 dX9_needed_4 (by decide) ?_ ?_
  · refine g_iconst (pc := 25) (v := 0) F dX9_needed_25 (by decide) ?_
    exact g_iret (pc := 26) F hr hlk dX9_needed_26
  · refine g_iload_n (pc := 7) F 2 dX9_needed_7 rfl ?_
    refine g_iload_n (pc := 8) F 3 dX9_needed_8 rfl ?_
    refine g_si (pc := 9) (As := [.int a2, .int a3]) (st := []) F (c_X9_isPlace l D ad cs F.2.2.1 a2 a3 M2) (va_cwS 2 F.1.2.2.2.2 gX9_needed_X9_isPlace rfl rfl rfl hdS_X9_isPlace ⟨by decide, by decide⟩) rfl rfl (Nat.le_of_ble_eq_true rfl) dX9_needed_9 ⟨Nat.zero_le _, Nat.zero_le _⟩ (fun r3 M4 => ?_)
    refine g_if_eq (pc := 12) F 25 dX9_needed_12 (by decide) ?_ ?_
    · refine g_iconst (pc := 25) (v := 0) F dX9_needed_25 (by decide) ?_
      exact g_iret (pc := 26) F hr hlk dX9_needed_26
    · refine g_aload_n (pc := 15) F 0 dX9_needed_15 rfl ?_
      refine g_iload_n (pc := 16) F 1 dX9_needed_16 rfl ?_
      refine g_iload_n (pc := 17) F 2 dX9_needed_17 rfl ?_
      refine g_iload_n (pc := 18) F 3 dX9_needed_18 rfl ?_
      refine g_vi (pc := 19) (k := 70) (ci := 9) (fs := (oX9 ad)) (C := RX9) (T := TX9) (N := 33) (As := [.int a1, .int a2, .int a3]) (st := []) F (c_X9_needOf l D ad cs F.2.2.1 fu a1 a2 a3 M4) (by decide) (fun _ => rfl) rfl (cwV 3 F.1.2.2.2.2 gX9_needed_X9_needOf rfl rfl rfl hdV_X9_needOf ⟨by decide, by decide⟩) rfl rfl (Nat.le_of_ble_eq_true rfl) dX9_needed_19 ⟨Nat.zero_le _, Nat.zero_le _⟩ (fun r5 M6 => ?_)
      refine g_goto (pc := 22) F 26 dX9_needed_22 (by decide) ?_
      exact g_iret (pc := 26) F hr hlk dX9_needed_26
-- X9_has
def rmX9_has : Room := { frames := 0, cells := 0, slots := 0, locals := 0 }
def f_X9_has (a0 : Int32) (a1 : Int32) (M : Mem) : Option (Int32 × Mem) := if a1 < 0 then some (0, M) else if ((a0 >>> (a1 &&& 31)) &&& (1 : Int32)) = 1 then some (1, M) else some (0, M)
set_option maxHeartbeats 4000000 in
set_option maxRecDepth 100000 in
theorem c_X9_has (l : Launch) (D : va_G) (ad : Nat → Nat) (cs : Cs) (hi : Inj ad) (a0 : Int32) (a1 : Int32) (M : Mem) : MI l yX9_has wsX9_has rmX9_has D ad cs [.int a0, .int a1] M (f_X9_has a0 a1 M) := by
  refine Mx.of (cc := cX9_has) (maxL := 2) (ret := (some .boolean)) (own := RX9) (lv := [(0, .int a0), (1, .int a1)]) (by decide) rfl rfl (Nat.le_of_ble_eq_true rfl) rfl hi ?_
  intro p e s m below meth c F hr hlk
  unfold f_X9_has
  refine g_iload_n (pc := 0) F 1 dX9_has_0 rfl ?_
  refine g_if_lt (pc := 1) F 17 dX9_has_1 (by decide) ?_ ?_
  · refine g_iconst (pc := 17) (v := 0) F dX9_has_17 (by decide) ?_
    exact g_zret (pc := 18) F hr hlk rfl dX9_has_18
  · refine g_iload_n (pc := 4) F 0 dX9_has_4 rfl ?_
    refine g_iload_n (pc := 5) F 1 dX9_has_5 rfl ?_
    refine g_ishr (pc := 6) F dX9_has_6 ?_
    refine g_iconst (pc := 7) (v := 1) F dX9_has_7 (by decide) ?_
    refine g_iand (pc := 8) F dX9_has_8 ?_
    refine g_iconst (pc := 9) (v := 1) F dX9_has_9 (by decide) ?_
    refine g_icmp_ne (pc := 10) F 17 dX9_has_10 (by decide) ?_ ?_
    · refine g_iconst (pc := 17) (v := 0) F dX9_has_17 (by decide) ?_
      exact g_zret (pc := 18) F hr hlk rfl dX9_has_18
    · refine g_iconst (pc := 13) (v := 1) F dX9_has_13 (by decide) ?_
      refine g_goto (pc := 14) F 18 dX9_has_14 (by decide) ?_
      exact g_zret (pc := 18) F hr hlk rfl dX9_has_18
