/-! Written by wip/whole/gen.py: pure functions of methods, and the walks that tie the bytecode to them. -/
-- X9_spansTo
def rmX9_spansTo : Room := { frames := 6, cells := 0, slots := 0, locals := 146 }
def f_X9_spansTo_L82 (x1 : Int32) (x2 : Int32) (x3 : Int32) (x4 : Int32) (x5 : Int32) (x6 : Int32) (x7 : Int32) (k : Mem → Option (Int32 × Mem)) : Nat → Mem → Option (Int32 × Mem)
  | 0, _ => none
  | n + 1, M => if 31 ≤ (M (70) 29) then k M else bnd (f_X9_has x6 ((M (70) 29) + (1 : Int32)) M) (fun r10 M11 => if r10 = 0 then k M11 else wr M11 (70) 29 ((M11 (70) 29) + (1 : Int32)) (fun M12 => f_X9_spansTo_L82 x1 x2 x3 x4 x5 x6 x7 k n M12))
def f_X9_spansTo_L26 (fu : Nat) (x1 : Int32) (x2 : Int32) (x3 : Int32) (x5 : Int32) (x6 : Int32) (k : Mem → Int32 → Int32 → Option (Int32 × Mem)) : Nat → Mem → Int32 → Int32 → Option (Int32 × Mem)
  | 0, _, _, _ => none
  | n + 1, M, x4, x7 => if 32 ≤ x7 then k M x4 x7 else bnd (f_X9_has x6 x7 M) (fun r3 M4 => if r3 = 0 then f_X9_spansTo_L26 fu x1 x2 x3 x5 x6 k n M4 x4 (x7 + 1) else bnd (f_X9_has x6 (x7 - (1 : Int32)) M4) (fun r5 M6 => if r5 = 0 then if x4 = x3 then wr M6 (70) 27 x5 (fun M7 => wr M7 (70) 28 x7 (fun M8 => wr M8 (70) 29 x7 (fun M9 => f_X9_spansTo_L82 x1 x2 x3 x4 x5 x6 x7 (fun M13 => f_X9_spansTo_L26 fu x1 x2 x3 x5 x6 k n M13 (x4 + 1) (x7 + 1)) fu M9))) else f_X9_spansTo_L26 fu x1 x2 x3 x5 x6 k n M6 (x4 + 1) (x7 + 1) else f_X9_spansTo_L26 fu x1 x2 x3 x5 x6 k n M6 x4 (x7 + 1)))
def f_X9_spansTo_L6 (fu : Nat) (x1 : Int32) (x2 : Int32) (x3 : Int32) (k : Mem → Int32 → Int32 → Option (Int32 × Mem)) : Nat → Mem → Int32 → Int32 → Option (Int32 × Mem)
  | 0, _, _, _ => none
  | n + 1, M, x4, x5 => if 32 ≤ x5 then k M x4 x5 else bnd (f_X9_needOf fu x1 x2 x5 M) (fun r1 M2 => f_X9_spansTo_L26 fu x1 x2 x3 x5 r1 (fun M14 y15 y16 => f_X9_spansTo_L6 fu x1 x2 x3 k n M14 y15 (x5 + 1)) fu M2 x4 0)
def f_X9_spansTo (fu : Nat) (a1 : Int32) (a2 : Int32) (a3 : Int32) (M : Mem) : Option (Int32 × Mem) := f_X9_spansTo_L6 fu a1 a2 a3 (fun M17 y18 y19 => some (y18, M17)) fu M 0 0
set_option maxRecDepth 20000 in
theorem kiX9_spansTo_X9 : ∀ w ∈ u_ws RX9 TX9 33, w ∈ wsX9_spansTo := by decide +kernel
set_option maxRecDepth 20000 in
theorem klX9_spansTo_154 : Cond.fieldLink RX9 154 "DoorListerModel" "spanDoor" "I" ∈ wsX9_spansTo := by decide +kernel
set_option maxRecDepth 20000 in
theorem klX9_spansTo_157 : Cond.fieldLink RX9 157 "DoorListerModel" "spanFirst" "I" ∈ wsX9_spansTo := by decide +kernel
set_option maxRecDepth 20000 in
theorem klX9_spansTo_160 : Cond.fieldLink RX9 160 "DoorListerModel" "spanLast" "I" ∈ wsX9_spansTo := by decide +kernel
set_option maxHeartbeats 4000000 in
set_option maxRecDepth 100000 in
theorem w_X9_spansTo_L82 {p : Program} {l : Launch} {e : Env} {s : State} {m : MethodId} {args : Array Value} {below : List Frame} {meth : Method} {c : Code} {D : va_G} {ad : Nat → Nat} {cs : Cs}  (x1 : Int32) (x2 : Int32) (x3 : Int32) (x4 : Int32) (x5 : Int32) (x6 : Int32) (x7 : Int32) (F : Fx p m c cX9_spansTo 8 s args wsX9_spansTo RX9 D ad cs (Ad ad)) (hr : meth.sig.returnType = (some .int)) (hlk : meth.locks = false) (k : Mem → Option (Int32 × Mem)) (hkx : ∀ (M : Mem) , GoX p l e rmX9_spansTo s m args below meth c 0 0 8 (fun rM => MQ below (cQi D ad cs rM) args s 0 0 (Ad ad)) D ad cs (Ad ad) M 118 [(0, .ref (ad (70))), (1, .int x1), (2, .int x2), (3, .int x3), (4, .int x4), (5, .int x5), (6, .int x6), (7, .int x7)] [] (k M)) : ∀ (n : Nat) (M : Mem) , GoX p l e rmX9_spansTo s m args below meth c 0 0 8 (fun rM => MQ below (cQi D ad cs rM) args s 0 0 (Ad ad)) D ad cs (Ad ad) M 82 [(0, .ref (ad (70))), (1, .int x1), (2, .int x2), (3, .int x3), (4, .int x4), (5, .int x5), (6, .int x6), (7, .int x7)] [] (f_X9_spansTo_L82 x1 x2 x3 x4 x5 x6 x7 k n M) := by
  intro n
  induction n with
  | zero => intro M; exact g_none
  | succ n ih =>
    intro M
    unfold f_X9_spansTo_L82
    refine g_aload_n (pc := 82) F 0 dX9_spansTo_82 rfl ?_
    refine g_get (pc := 83) (v := .int (M (70) 29)) (k := 70) (ci := 9) (fs := (oX9 ad)) (C := RX9) (T := TX9) (N := 33) F (by decide) (fun _ => rfl) rfl kiX9_spansTo_X9 29 (by decide) klX9_spansTo_160 rfl rfl dX9_spansTo_83 ?_
    refine g_bipush (pc := 86) (v := 31) F dX9_spansTo_86 (by decide) ?_
    refine g_icmp_ge (pc := 88) F 118 dX9_spansTo_88 (by decide) ?_ ?_
    · exact hkx _
    · refine g_iload (pc := 91) F 6 dX9_spansTo_91 rfl ?_
      refine g_aload_n (pc := 93) F 0 dX9_spansTo_93 rfl ?_
      refine g_get (pc := 94) (v := .int (M (70) 29)) (k := 70) (ci := 9) (fs := (oX9 ad)) (C := RX9) (T := TX9) (N := 33) F (by decide) (fun _ => rfl) rfl kiX9_spansTo_X9 29 (by decide) klX9_spansTo_160 rfl rfl dX9_spansTo_94 ?_
      refine g_iconst (pc := 97) (v := 1) F dX9_spansTo_97 (by decide) ?_
      refine g_iadd (pc := 98) F dX9_spansTo_98 ?_
      refine g_si (pc := 99) (As := [.int x6, .int ((M (70) 29) + (1 : Int32))]) (st := []) F (c_X9_has l D ad cs F.2.2.1 x6 ((M (70) 29) + (1 : Int32)) M) (va_cwS 2 F.1.2.2.2.2 gX9_spansTo_X9_has rfl rfl rfl hdS_X9_has ⟨by decide, by decide⟩) rfl rfl (Nat.le_of_ble_eq_true rfl) dX9_spansTo_99 ⟨Nat.zero_le _, Nat.zero_le _⟩ (fun r10 M11 => ?_)
      refine g_if_eq (pc := 102) F 118 dX9_spansTo_102 (by decide) ?_ ?_
      · exact hkx _
      · refine g_aload_n (pc := 105) F 0 dX9_spansTo_105 rfl ?_
        refine g_dup (pc := 106) F rfl dX9_spansTo_106 ?_
        refine g_get (pc := 107) (v := .int (M11 (70) 29)) (k := 70) (ci := 9) (fs := (oX9 ad)) (C := RX9) (T := TX9) (N := 33) F (by decide) (fun _ => rfl) rfl kiX9_spansTo_X9 29 (by decide) klX9_spansTo_160 rfl rfl dX9_spansTo_107 ?_
        refine g_iconst (pc := 110) (v := 1) F dX9_spansTo_110 (by decide) ?_
        refine g_iadd (pc := 111) F dX9_spansTo_111 ?_
        refine g_put (pc := 112) (k := 70) (ci := 9) (fs := (oX9 ad)) (C := RX9) (T := TX9) (N := 33) F (by decide) (fun _ => rfl) rfl kiX9_spansTo_X9 tyX9 tyX9_ok nmX9 29 (by decide) klX9_spansTo_160 rfl rfl rfl rfl (fun _ => rfl) (Nat.le_of_ble_eq_true rfl) dX9_spansTo_112 (fun M12 => ?_)
        refine g_goto (pc := 115) F 82 dX9_spansTo_115 (by decide) ?_
        exact ih _
set_option maxHeartbeats 4000000 in
set_option maxRecDepth 100000 in
theorem w_X9_spansTo_L26 {p : Program} {l : Launch} {e : Env} {s : State} {m : MethodId} {args : Array Value} {below : List Frame} {meth : Method} {c : Code} {D : va_G} {ad : Nat → Nat} {cs : Cs} (fu : Nat) (x1 : Int32) (x2 : Int32) (x3 : Int32) (x5 : Int32) (x6 : Int32) (F : Fx p m c cX9_spansTo 8 s args wsX9_spansTo RX9 D ad cs (Ad ad)) (hr : meth.sig.returnType = (some .int)) (hlk : meth.locks = false) (k : Mem → Int32 → Int32 → Option (Int32 × Mem)) (hkx : ∀ (M : Mem) (x4 x7 : Int32), GoX p l e rmX9_spansTo s m args below meth c 0 0 8 (fun rM => MQ below (cQi D ad cs rM) args s 0 0 (Ad ad)) D ad cs (Ad ad) M 127 [(0, .ref (ad (70))), (1, .int x1), (2, .int x2), (3, .int x3), (4, .int x4), (5, .int x5), (6, .int x6), (7, .int x7)] [] (k M x4 x7)) : ∀ (n : Nat) (M : Mem) (x4 x7 : Int32), GoX p l e rmX9_spansTo s m args below meth c 0 0 8 (fun rM => MQ below (cQi D ad cs rM) args s 0 0 (Ad ad)) D ad cs (Ad ad) M 26 [(0, .ref (ad (70))), (1, .int x1), (2, .int x2), (3, .int x3), (4, .int x4), (5, .int x5), (6, .int x6), (7, .int x7)] [] (f_X9_spansTo_L26 fu x1 x2 x3 x5 x6 k n M x4 x7) := by
  intro n
  induction n with
  | zero => intro M x4 x7; exact g_none
  | succ n ih =>
    intro M x4 x7
    unfold f_X9_spansTo_L26
    refine g_iload (pc := 26) F 7 dX9_spansTo_26 rfl ?_
    refine g_bipush (pc := 28) (v := 32) F dX9_spansTo_28 (by decide) ?_
    refine g_icmp_ge (pc := 30) F 127 dX9_spansTo_30 (by decide) ?_ ?_
    · exact hkx _ _ _
    · refine g_iload (pc := 33) F 6 dX9_spansTo_33 rfl ?_
      refine g_iload (pc := 35) F 7 dX9_spansTo_35 rfl ?_
      refine g_si (pc := 37) (As := [.int x6, .int x7]) (st := []) F (c_X9_has l D ad cs F.2.2.1 x6 x7 M) (va_cwS 2 F.1.2.2.2.2 gX9_spansTo_X9_has rfl rfl rfl hdS_X9_has ⟨by decide, by decide⟩) rfl rfl (Nat.le_of_ble_eq_true rfl) dX9_spansTo_37 ⟨Nat.zero_le _, Nat.zero_le _⟩ (fun r3 M4 => ?_)
      refine g_if_eq (pc := 40) F 121 dX9_spansTo_40 (by decide) ?_ ?_
      · refine g_iinc (pc := 121) (v := x7 + 1) F [(0, .ref (ad (70))), (1, .int x1), (2, .int x2), (3, .int x3), (4, .int x4), (5, .int x5), (6, .int x6), (7, .int (x7 + 1))] 7 dX9_spansTo_121 rfl rfl (by decide) rfl rfl rfl ?_
        refine g_goto (pc := 124) F 26 dX9_spansTo_124 (by decide) ?_
        exact ih _ _ _
      · refine g_iload (pc := 43) F 6 dX9_spansTo_43 rfl ?_
        refine g_iload (pc := 45) F 7 dX9_spansTo_45 rfl ?_
        refine g_iconst (pc := 47) (v := 1) F dX9_spansTo_47 (by decide) ?_
        refine g_isub (pc := 48) F dX9_spansTo_48 ?_
        refine g_si (pc := 49) (As := [.int x6, .int (x7 - (1 : Int32))]) (st := []) F (c_X9_has l D ad cs F.2.2.1 x6 (x7 - (1 : Int32)) M4) (va_cwS 2 F.1.2.2.2.2 gX9_spansTo_X9_has rfl rfl rfl hdS_X9_has ⟨by decide, by decide⟩) rfl rfl (Nat.le_of_ble_eq_true rfl) dX9_spansTo_49 ⟨Nat.zero_le _, Nat.zero_le _⟩ (fun r5 M6 => ?_)
        refine g_if_eq (pc := 52) F 58 dX9_spansTo_52 (by decide) ?_ ?_
        · refine g_iload (pc := 58) F 4 dX9_spansTo_58 rfl ?_
          refine g_iload_n (pc := 60) F 3 dX9_spansTo_60 rfl ?_
          refine g_icmp_ne (pc := 61) F 118 dX9_spansTo_61 (by decide) ?_ ?_
          · refine g_iinc (pc := 118) (v := x4 + 1) F [(0, .ref (ad (70))), (1, .int x1), (2, .int x2), (3, .int x3), (4, .int (x4 + 1)), (5, .int x5), (6, .int x6), (7, .int x7)] 4 dX9_spansTo_118 rfl rfl (by decide) rfl rfl rfl ?_
            refine g_iinc (pc := 121) (v := x7 + 1) F [(0, .ref (ad (70))), (1, .int x1), (2, .int x2), (3, .int x3), (4, .int (x4 + 1)), (5, .int x5), (6, .int x6), (7, .int (x7 + 1))] 7 dX9_spansTo_121 rfl rfl (by decide) rfl rfl rfl ?_
            refine g_goto (pc := 124) F 26 dX9_spansTo_124 (by decide) ?_
            exact ih _ _ _
          · refine g_aload_n (pc := 64) F 0 dX9_spansTo_64 rfl ?_
            refine g_iload (pc := 65) F 5 dX9_spansTo_65 rfl ?_
            refine g_put (pc := 67) (k := 70) (ci := 9) (fs := (oX9 ad)) (C := RX9) (T := TX9) (N := 33) F (by decide) (fun _ => rfl) rfl kiX9_spansTo_X9 tyX9 tyX9_ok nmX9 27 (by decide) klX9_spansTo_154 rfl rfl rfl rfl (fun _ => rfl) (Nat.le_of_ble_eq_true rfl) dX9_spansTo_67 (fun M7 => ?_)
            refine g_aload_n (pc := 70) F 0 dX9_spansTo_70 rfl ?_
            refine g_iload (pc := 71) F 7 dX9_spansTo_71 rfl ?_
            refine g_put (pc := 73) (k := 70) (ci := 9) (fs := (oX9 ad)) (C := RX9) (T := TX9) (N := 33) F (by decide) (fun _ => rfl) rfl kiX9_spansTo_X9 tyX9 tyX9_ok nmX9 28 (by decide) klX9_spansTo_157 rfl rfl rfl rfl (fun _ => rfl) (Nat.le_of_ble_eq_true rfl) dX9_spansTo_73 (fun M8 => ?_)
            refine g_aload_n (pc := 76) F 0 dX9_spansTo_76 rfl ?_
            refine g_iload (pc := 77) F 7 dX9_spansTo_77 rfl ?_
            refine g_put (pc := 79) (k := 70) (ci := 9) (fs := (oX9 ad)) (C := RX9) (T := TX9) (N := 33) F (by decide) (fun _ => rfl) rfl kiX9_spansTo_X9 tyX9 tyX9_ok nmX9 29 (by decide) klX9_spansTo_160 rfl rfl rfl rfl (fun _ => rfl) (Nat.le_of_ble_eq_true rfl) dX9_spansTo_79 (fun M9 => ?_)
            refine w_X9_spansTo_L82 x1 x2 x3 x4 x5 x6 x7 F hr hlk _ (fun M13 => ?_) _ _ 
            refine g_iinc (pc := 118) (v := x4 + 1) F [(0, .ref (ad (70))), (1, .int x1), (2, .int x2), (3, .int x3), (4, .int (x4 + 1)), (5, .int x5), (6, .int x6), (7, .int x7)] 4 dX9_spansTo_118 rfl rfl (by decide) rfl rfl rfl ?_
            refine g_iinc (pc := 121) (v := x7 + 1) F [(0, .ref (ad (70))), (1, .int x1), (2, .int x2), (3, .int x3), (4, .int (x4 + 1)), (5, .int x5), (6, .int x6), (7, .int (x7 + 1))] 7 dX9_spansTo_121 rfl rfl (by decide) rfl rfl rfl ?_
            refine g_goto (pc := 124) F 26 dX9_spansTo_124 (by decide) ?_
            exact ih _ _ _
        · refine g_goto (pc := 55) F 121 dX9_spansTo_55 (by decide) ?_
          refine g_iinc (pc := 121) (v := x7 + 1) F [(0, .ref (ad (70))), (1, .int x1), (2, .int x2), (3, .int x3), (4, .int x4), (5, .int x5), (6, .int x6), (7, .int (x7 + 1))] 7 dX9_spansTo_121 rfl rfl (by decide) rfl rfl rfl ?_
          refine g_goto (pc := 124) F 26 dX9_spansTo_124 (by decide) ?_
          exact ih _ _ _
set_option maxHeartbeats 4000000 in
set_option maxRecDepth 100000 in
theorem w_X9_spansTo_L6 {p : Program} {l : Launch} {e : Env} {s : State} {m : MethodId} {args : Array Value} {below : List Frame} {meth : Method} {c : Code} {D : va_G} {ad : Nat → Nat} {cs : Cs} (fu : Nat) (x1 : Int32) (x2 : Int32) (x3 : Int32) (F : Fx p m c cX9_spansTo 8 s args wsX9_spansTo RX9 D ad cs (Ad ad)) (hr : meth.sig.returnType = (some .int)) (hlk : meth.locks = false) (k : Mem → Int32 → Int32 → Option (Int32 × Mem)) (hkx : ∀ (M : Mem) (x4 x5 : Int32), GoX p l e rmX9_spansTo s m args below meth c 0 0 8 (fun rM => MQ below (cQi D ad cs rM) args s 0 0 (Ad ad)) D ad cs (Ad ad) M 133 [(0, .ref (ad (70))), (1, .int x1), (2, .int x2), (3, .int x3), (4, .int x4), (5, .int x5)] [] (k M x4 x5)) : ∀ (n : Nat) (M : Mem) (x4 x5 : Int32), GoX p l e rmX9_spansTo s m args below meth c 0 0 8 (fun rM => MQ below (cQi D ad cs rM) args s 0 0 (Ad ad)) D ad cs (Ad ad) M 6 [(0, .ref (ad (70))), (1, .int x1), (2, .int x2), (3, .int x3), (4, .int x4), (5, .int x5)] [] (f_X9_spansTo_L6 fu x1 x2 x3 k n M x4 x5) := by
  intro n
  induction n with
  | zero => intro M x4 x5; exact g_none
  | succ n ih =>
    intro M x4 x5
    unfold f_X9_spansTo_L6
    refine g_iload (pc := 6) F 5 dX9_spansTo_6 rfl ?_
    refine g_bipush (pc := 8) (v := 32) F dX9_spansTo_8 (by decide) ?_
    refine g_icmp_ge (pc := 10) F 133 dX9_spansTo_10 (by decide) ?_ ?_
    · exact hkx _ _ _
    · refine g_aload_n (pc := 13) F 0 dX9_spansTo_13 rfl ?_
      refine g_iload_n (pc := 14) F 1 dX9_spansTo_14 rfl ?_
      refine g_iload_n (pc := 15) F 2 dX9_spansTo_15 rfl ?_
      refine g_iload (pc := 16) F 5 dX9_spansTo_16 rfl ?_
      refine g_vi (pc := 18) (k := 70) (ci := 9) (fs := (oX9 ad)) (C := RX9) (T := TX9) (N := 33) (As := [.int x1, .int x2, .int x5]) (st := []) F (c_X9_needOf l D ad cs F.2.2.1 fu x1 x2 x5 M) (by decide) (fun _ => rfl) rfl (cwV 3 F.1.2.2.2.2 gX9_spansTo_X9_needOf rfl rfl rfl hdV_X9_needOf ⟨by decide, by decide⟩) rfl rfl (Nat.le_of_ble_eq_true rfl) dX9_spansTo_18 ⟨Nat.zero_le _, Nat.zero_le _⟩ (fun r1 M2 => ?_)
      refine g_istore (pc := 21) F [(0, .ref (ad (70))), (1, .int x1), (2, .int x2), (3, .int x3), (4, .int x4), (5, .int x5), (6, .int r1)] dX9_spansTo_21 (by decide) rfl rfl rfl ?_
      refine g_iconst (pc := 23) (v := 0) F dX9_spansTo_23 (by decide) ?_
      refine g_istore (pc := 24) F [(0, .ref (ad (70))), (1, .int x1), (2, .int x2), (3, .int x3), (4, .int x4), (5, .int x5), (6, .int r1), (7, .int 0)] dX9_spansTo_24 (by decide) rfl rfl rfl ?_
      refine w_X9_spansTo_L26 fu x1 x2 x3 x5 r1 F hr hlk _ (fun M14 y15 y16 => ?_) _ _ _ _
      refine g_iinc (pc := 127) (v := x5 + 1) F [(0, .ref (ad (70))), (1, .int x1), (2, .int x2), (3, .int x3), (4, .int y15), (5, .int (x5 + 1)), (6, .int r1), (7, .int y16)] 5 dX9_spansTo_127 rfl rfl (by decide) rfl rfl rfl ?_
      refine g_goto (pc := 130) F 6 dX9_spansTo_130 (by decide) ?_
      refine g_sub [0, 1, 2, 3, 4, 5] [(0, .ref (ad (70))), (1, .int x1), (2, .int x2), (3, .int x3), (4, .int y15), (5, .int (x5 + 1))] rfl ?_
      exact ih _ _ _
set_option maxHeartbeats 4000000 in
set_option maxRecDepth 100000 in
theorem c_X9_spansTo (l : Launch) (D : va_G) (ad : Nat → Nat) (cs : Cs) (hi : Inj ad) (fu : Nat) (a1 : Int32) (a2 : Int32) (a3 : Int32) (M : Mem) : MI l yX9_spansTo wsX9_spansTo rmX9_spansTo D ad cs [.ref (ad (70)), .int a1, .int a2, .int a3] M (f_X9_spansTo fu a1 a2 a3 M) := by
  refine Mx.of (cc := cX9_spansTo) (maxL := 8) (ret := (some .int)) (own := RX9) (lv := [(0, .ref (ad (70))), (1, .int a1), (2, .int a2), (3, .int a3)]) (by decide) rfl rfl (Nat.le_of_ble_eq_true rfl) rfl hi ?_
  intro p e s m below meth c F hr hlk
  unfold f_X9_spansTo
  refine g_iconst (pc := 0) (v := 0) F dX9_spansTo_0 (by decide) ?_
  refine g_istore (pc := 1) F [(0, .ref (ad (70))), (1, .int a1), (2, .int a2), (3, .int a3), (4, .int 0)] dX9_spansTo_1 (by decide) rfl rfl rfl ?_
  refine g_iconst (pc := 3) (v := 0) F dX9_spansTo_3 (by decide) ?_
  refine g_istore (pc := 4) F [(0, .ref (ad (70))), (1, .int a1), (2, .int a2), (3, .int a3), (4, .int 0), (5, .int 0)] dX9_spansTo_4 (by decide) rfl rfl rfl ?_
  refine w_X9_spansTo_L6 fu a1 a2 a3 F hr hlk _ (fun M17 y18 y19 => ?_) _ _ _ _
  refine g_iload (pc := 133) F 4 dX9_spansTo_133 rfl ?_
  exact g_iret (pc := 135) F hr hlk dX9_spansTo_135
-- X9_spans
def rmX9_spans : Room := { frames := 7, cells := 0, slots := 0, locals := 173 }
def f_X9_spans (fu : Nat) (a1 : Int32) (a2 : Int32) (M : Mem) : Option (Int32 × Mem) := bnd (f_X9_isProgram a1 M) (fun r1 M2 => if r1 = 0 then some ((-1), M2) else bnd (f_X9_lies a2 0 1 M2) (fun r3 M4 => if r3 = 0 then some ((-1), M4) else bnd (f_X9_spansTo fu a1 a2 ((-1)) M4) (fun r5 M6 => some (r5, M6))))
set_option maxHeartbeats 4000000 in
set_option maxRecDepth 100000 in
theorem c_X9_spans (l : Launch) (D : va_G) (ad : Nat → Nat) (cs : Cs) (hi : Inj ad) (fu : Nat) (a1 : Int32) (a2 : Int32) (M : Mem) : MI l yX9_spans wsX9_spans rmX9_spans D ad cs [.ref (ad (70)), .int a1, .int a2] M (f_X9_spans fu a1 a2 M) := by
  refine Mx.of (cc := cX9_spans) (maxL := 3) (ret := (some .int)) (own := RX9) (lv := [(0, .ref (ad (70))), (1, .int a1), (2, .int a2)]) (by decide) rfl rfl (Nat.le_of_ble_eq_true rfl) rfl hi ?_
  intro p e s m below meth c F hr hlk
  unfold f_X9_spans
  refine g_iload_n (pc := 0) F 1 dX9_spans_0 rfl ?_
  refine g_si (pc := 1) (As := [.int a1]) (st := []) F (c_X9_isProgram l D ad cs F.2.2.1 a1 M) (va_cwS 1 F.1.2.2.2.2 gX9_spans_X9_isProgram rfl rfl rfl hdS_X9_isProgram ⟨by decide, by decide⟩) rfl rfl (Nat.le_of_ble_eq_true rfl) dX9_spans_1 ⟨Nat.zero_le _, Nat.zero_le _⟩ (fun r1 M2 => ?_)
  refine g_if_eq (pc := 4) F 26 dX9_spans_4 (by decide) ?_ ?_
  · refine g_iconst (pc := 26) (v := (-1)) F dX9_spans_26 (by decide) ?_
    exact g_iret (pc := 27) F hr hlk dX9_spans_27
  · refine g_iload_n (pc := 7) F 2 dX9_spans_7 rfl ?_
    refine g_iconst (pc := 8) (v := 0) F dX9_spans_8 (by decide) ?_
    refine g_iconst (pc := 9) (v := 1) F dX9_spans_9 (by decide) ?_
    refine g_si (pc := 10) (As := [.int a2, .int 0, .int 1]) (st := []) F (c_X9_lies l D ad cs F.2.2.1 a2 0 1 M2) (va_cwS 3 F.1.2.2.2.2 gX9_spans_X9_lies rfl rfl rfl hdS_X9_lies ⟨by decide, by decide⟩) rfl rfl (Nat.le_of_ble_eq_true rfl) dX9_spans_10 ⟨Nat.zero_le _, Nat.zero_le _⟩ (fun r3 M4 => ?_)
    refine g_if_eq (pc := 13) F 26 dX9_spans_13 (by decide) ?_ ?_
    · refine g_iconst (pc := 26) (v := (-1)) F dX9_spans_26 (by decide) ?_
      exact g_iret (pc := 27) F hr hlk dX9_spans_27
    · refine g_aload_n (pc := 16) F 0 dX9_spans_16 rfl ?_
      refine g_iload_n (pc := 17) F 1 dX9_spans_17 rfl ?_
      refine g_iload_n (pc := 18) F 2 dX9_spans_18 rfl ?_
      refine g_iconst (pc := 19) (v := (-1)) F dX9_spans_19 (by decide) ?_
      refine g_vi (pc := 20) (k := 70) (ci := 9) (fs := (oX9 ad)) (C := RX9) (T := TX9) (N := 33) (As := [.int a1, .int a2, .int ((-1))]) (st := []) F (c_X9_spansTo l D ad cs F.2.2.1 fu a1 a2 ((-1)) M4) (by decide) (fun _ => rfl) rfl (cwV 3 F.1.2.2.2.2 gX9_spans_X9_spansTo rfl rfl rfl hdV_X9_spansTo ⟨by decide, by decide⟩) rfl rfl (Nat.le_of_ble_eq_true rfl) dX9_spans_20 ⟨Nat.zero_le _, Nat.zero_le _⟩ (fun r5 M6 => ?_)
      refine g_goto (pc := 23) F 27 dX9_spans_23 (by decide) ?_
      exact g_iret (pc := 27) F hr hlk dX9_spans_27
-- X9_span
def rmX9_span : Room := { frames := 7, cells := 0, slots := 0, locals := 173 }
def f_X9_span (fu : Nat) (a1 : Int32) (a2 : Int32) (a3 : Int32) (a4 : Int32) (M : Mem) : Option (Int32 × Mem) := bnd (f_X9_isProgram a1 M) (fun r1 M2 => if r1 = 0 then some ((-1), M2) else bnd (f_X9_lies a2 0 1 M2) (fun r3 M4 => if r3 = 0 then some ((-1), M4) else if a3 < 0 then some ((-1), M4) else bnd (f_X9_spansTo fu a1 a2 a3 M4) (fun r5 M6 => if a3 < r5 then if a4 = 0 then some (M6 (70) 27, M6) else if a4 = 1 then some (M6 (70) 28, M6) else if a4 = 2 then some (M6 (70) 29, M6) else some ((-1), M6) else some ((-1), M6))))
set_option maxRecDepth 20000 in
theorem kiX9_span_X9 : ∀ w ∈ u_ws RX9 TX9 33, w ∈ wsX9_span := by decide +kernel
set_option maxRecDepth 20000 in
theorem klX9_span_160 : Cond.fieldLink RX9 160 "DoorListerModel" "spanLast" "I" ∈ wsX9_span := by decide +kernel
set_option maxRecDepth 20000 in
theorem klX9_span_157 : Cond.fieldLink RX9 157 "DoorListerModel" "spanFirst" "I" ∈ wsX9_span := by decide +kernel
set_option maxRecDepth 20000 in
theorem klX9_span_154 : Cond.fieldLink RX9 154 "DoorListerModel" "spanDoor" "I" ∈ wsX9_span := by decide +kernel
set_option maxHeartbeats 4000000 in
set_option maxRecDepth 100000 in
theorem c_X9_span (l : Launch) (D : va_G) (ad : Nat → Nat) (cs : Cs) (hi : Inj ad) (fu : Nat) (a1 : Int32) (a2 : Int32) (a3 : Int32) (a4 : Int32) (M : Mem) : MI l yX9_span wsX9_span rmX9_span D ad cs [.ref (ad (70)), .int a1, .int a2, .int a3, .int a4] M (f_X9_span fu a1 a2 a3 a4 M) := by
  refine Mx.of (cc := cX9_span) (maxL := 5) (ret := (some .int)) (own := RX9) (lv := [(0, .ref (ad (70))), (1, .int a1), (2, .int a2), (3, .int a3), (4, .int a4)]) (by decide) rfl rfl (Nat.le_of_ble_eq_true rfl) rfl hi ?_
  intro p e s m below meth c F hr hlk
  unfold f_X9_span
  refine g_iload_n (pc := 0) F 1 dX9_span_0 rfl ?_
  refine g_si (pc := 1) (As := [.int a1]) (st := []) F (c_X9_isProgram l D ad cs F.2.2.1 a1 M) (va_cwS 1 F.1.2.2.2.2 gX9_span_X9_isProgram rfl rfl rfl hdS_X9_isProgram ⟨by decide, by decide⟩) rfl rfl (Nat.le_of_ble_eq_true rfl) dX9_span_1 ⟨Nat.zero_le _, Nat.zero_le _⟩ (fun r1 M2 => ?_)
  refine g_if_eq (pc := 4) F 31 dX9_span_4 (by decide) ?_ ?_
  · refine g_iconst (pc := 31) (v := (-1)) F dX9_span_31 (by decide) ?_
    exact g_iret (pc := 32) F hr hlk dX9_span_32
  · refine g_iload_n (pc := 7) F 2 dX9_span_7 rfl ?_
    refine g_iconst (pc := 8) (v := 0) F dX9_span_8 (by decide) ?_
    refine g_iconst (pc := 9) (v := 1) F dX9_span_9 (by decide) ?_
    refine g_si (pc := 10) (As := [.int a2, .int 0, .int 1]) (st := []) F (c_X9_lies l D ad cs F.2.2.1 a2 0 1 M2) (va_cwS 3 F.1.2.2.2.2 gX9_span_X9_lies rfl rfl rfl hdS_X9_lies ⟨by decide, by decide⟩) rfl rfl (Nat.le_of_ble_eq_true rfl) dX9_span_10 ⟨Nat.zero_le _, Nat.zero_le _⟩ (fun r3 M4 => ?_)
    refine g_if_eq (pc := 13) F 31 dX9_span_13 (by decide) ?_ ?_
    · refine g_iconst (pc := 31) (v := (-1)) F dX9_span_31 (by decide) ?_
      exact g_iret (pc := 32) F hr hlk dX9_span_32
    · refine g_iload_n (pc := 16) F 3 dX9_span_16 rfl ?_
      refine g_if_lt (pc := 17) F 31 dX9_span_17 (by decide) ?_ ?_
      · refine g_iconst (pc := 31) (v := (-1)) F dX9_span_31 (by decide) ?_
        exact g_iret (pc := 32) F hr hlk dX9_span_32
      · refine g_aload_n (pc := 20) F 0 dX9_span_20 rfl ?_
        refine g_iload_n (pc := 21) F 1 dX9_span_21 rfl ?_
        refine g_iload_n (pc := 22) F 2 dX9_span_22 rfl ?_
        refine g_iload_n (pc := 23) F 3 dX9_span_23 rfl ?_
        refine g_vi (pc := 24) (k := 70) (ci := 9) (fs := (oX9 ad)) (C := RX9) (T := TX9) (N := 33) (As := [.int a1, .int a2, .int a3]) (st := []) F (c_X9_spansTo l D ad cs F.2.2.1 fu a1 a2 a3 M4) (by decide) (fun _ => rfl) rfl (cwV 3 F.1.2.2.2.2 gX9_span_X9_spansTo rfl rfl rfl hdV_X9_spansTo ⟨by decide, by decide⟩) rfl rfl (Nat.le_of_ble_eq_true rfl) dX9_span_24 ⟨Nat.zero_le _, Nat.zero_le _⟩ (fun r5 M6 => ?_)
        refine g_iload_n (pc := 27) F 3 dX9_span_27 rfl ?_
        refine g_icmp_gt (pc := 28) F 33 dX9_span_28 (by decide) ?_ ?_
        · refine g_iload (pc := 33) F 4 dX9_span_33 rfl ?_
          refine g_if_ne (pc := 35) F 45 dX9_span_35 (by decide) ?_ ?_
          · refine g_iload (pc := 45) F 4 dX9_span_45 rfl ?_
            refine g_iconst (pc := 47) (v := 1) F dX9_span_47 (by decide) ?_
            refine g_icmp_ne (pc := 48) F 58 dX9_span_48 (by decide) ?_ ?_
            · refine g_iload (pc := 58) F 4 dX9_span_58 rfl ?_
              refine g_iconst (pc := 60) (v := 2) F dX9_span_60 (by decide) ?_
              refine g_icmp_ne (pc := 61) F 71 dX9_span_61 (by decide) ?_ ?_
              · refine g_iconst (pc := 71) (v := (-1)) F dX9_span_71 (by decide) ?_
                exact g_iret (pc := 72) F hr hlk dX9_span_72
              · refine g_aload_n (pc := 64) F 0 dX9_span_64 rfl ?_
                refine g_get (pc := 65) (v := .int (M6 (70) 29)) (k := 70) (ci := 9) (fs := (oX9 ad)) (C := RX9) (T := TX9) (N := 33) F (by decide) (fun _ => rfl) rfl kiX9_span_X9 29 (by decide) klX9_span_160 rfl rfl dX9_span_65 ?_
                refine g_goto (pc := 68) F 72 dX9_span_68 (by decide) ?_
                exact g_iret (pc := 72) F hr hlk dX9_span_72
            · refine g_aload_n (pc := 51) F 0 dX9_span_51 rfl ?_
              refine g_get (pc := 52) (v := .int (M6 (70) 28)) (k := 70) (ci := 9) (fs := (oX9 ad)) (C := RX9) (T := TX9) (N := 33) F (by decide) (fun _ => rfl) rfl kiX9_span_X9 28 (by decide) klX9_span_157 rfl rfl dX9_span_52 ?_
              refine g_goto (pc := 55) F 72 dX9_span_55 (by decide) ?_
              exact g_iret (pc := 72) F hr hlk dX9_span_72
          · refine g_aload_n (pc := 38) F 0 dX9_span_38 rfl ?_
            refine g_get (pc := 39) (v := .int (M6 (70) 27)) (k := 70) (ci := 9) (fs := (oX9 ad)) (C := RX9) (T := TX9) (N := 33) F (by decide) (fun _ => rfl) rfl kiX9_span_X9 27 (by decide) klX9_span_154 rfl rfl dX9_span_39 ?_
            refine g_goto (pc := 42) F 72 dX9_span_42 (by decide) ?_
            exact g_iret (pc := 72) F hr hlk dX9_span_72
        · refine g_iconst (pc := 31) (v := (-1)) F dX9_span_31 (by decide) ?_
          exact g_iret (pc := 32) F hr hlk dX9_span_32
-- X9_callOf
def rmX9_callOf : Room := { frames := 4, cells := 0, slots := 0, locals := 102 }
def f_X9_callOf_L39 (x1 : Int32) (x2 : Int32) (x3 : Int32) (x4 : Int32) (k : Mem → Int32 → Int32 → Option (Int32 × Mem)) : Nat → Mem → Int32 → Int32 → Option (Int32 × Mem)
  | 0, _, _, _ => none
  | n + 1, M, x5, x6 => if ix x1 4 then if (M (72) x1.toNatClampNeg) ≤ x6 then k M x5 x6 else bnd (f_X9_stateOf x6 x2 x3 x4 M) (fun r9 M10 => nm (((24 : Int32) * x1) + x6) (fun v11 => if ix v11 96 then if (M10 (73) v11.toNatClampNeg) = 7 then if ix r9 51200 then if (M10 (88) r9.toNatClampNeg) = ((-1)) then f_X9_callOf_L39 x1 x2 x3 x4 k n M10 x5 (x6 + 1) else if x5 = ((-1)) then f_X9_callOf_L39 x1 x2 x3 x4 k n M10 r9 (x6 + 1) else if ix r9 51200 then if ix x5 51200 then if (M10 (88) r9.toNatClampNeg) < (M10 (88) x5.toNatClampNeg) then f_X9_callOf_L39 x1 x2 x3 x4 k n M10 r9 (x6 + 1) else if ix r9 51200 then if ix x5 51200 then if (M10 (88) r9.toNatClampNeg) = (M10 (88) x5.toNatClampNeg) then if ix r9 51200 then if ix x5 51200 then if (M10 (89) x5.toNatClampNeg) ≤ (M10 (89) r9.toNatClampNeg) then f_X9_callOf_L39 x1 x2 x3 x4 k n M10 x5 (x6 + 1) else f_X9_callOf_L39 x1 x2 x3 x4 k n M10 r9 (x6 + 1) else none else none else f_X9_callOf_L39 x1 x2 x3 x4 k n M10 x5 (x6 + 1) else none else none else none else none else none else f_X9_callOf_L39 x1 x2 x3 x4 k n M10 x5 (x6 + 1) else none)) else none
def f_X9_callOf (fu : Nat) (a1 : Int32) (a2 : Int32) (a3 : Int32) (a4 : Int32) (M : Mem) : Option (Int32 × Mem) := bnd (f_X9_isProgram a1 M) (fun r1 M2 => if r1 = 0 then some ((-1), M2) else bnd (f_X9_isPlace a2 a3 M2) (fun r3 M4 => if r3 = 0 then some ((-1), M4) else bnd (f_X9_lies a4 0 31 M4) (fun r5 M6 => if r5 = 0 then some ((-1), M6) else bnd (f_X9_works fu a1 M6) (fun r7 M8 => f_X9_callOf_L39 a1 a2 a3 a4 (fun M12 y13 y14 => some (y13, M12)) fu M8 ((-1)) 0))))
set_option maxRecDepth 20000 in
theorem kiX9_callOf_X9 : ∀ w ∈ u_ws RX9 TX9 33, w ∈ wsX9_callOf := by decide +kernel
set_option maxRecDepth 20000 in
theorem klX9_callOf_17 : Cond.fieldLink RX9 17 "DoorListerModel" "size" "[I" ∈ wsX9_callOf := by decide +kernel
set_option maxRecDepth 20000 in
theorem klX9_callOf_21 : Cond.fieldLink RX9 21 "DoorListerModel" "kind" "[I" ∈ wsX9_callOf := by decide +kernel
set_option maxRecDepth 20000 in
theorem klX9_callOf_71 : Cond.fieldLink RX9 71 "DoorListerModel" "depth" "[I" ∈ wsX9_callOf := by decide +kernel
set_option maxRecDepth 20000 in
theorem klX9_callOf_74 : Cond.fieldLink RX9 74 "DoorListerModel" "rank" "[I" ∈ wsX9_callOf := by decide +kernel
set_option maxHeartbeats 4000000 in
set_option maxRecDepth 100000 in
theorem w_X9_callOf_L39 {p : Program} {l : Launch} {e : Env} {s : State} {m : MethodId} {args : Array Value} {below : List Frame} {meth : Method} {c : Code} {D : va_G} {ad : Nat → Nat} {cs : Cs}  (x1 : Int32) (x2 : Int32) (x3 : Int32) (x4 : Int32) (F : Fx p m c cX9_callOf 8 s args wsX9_callOf RX9 D ad cs (Ad ad)) (hr : meth.sig.returnType = (some .int)) (hlk : meth.locks = false) (k : Mem → Int32 → Int32 → Option (Int32 × Mem)) (hkx : ∀ (M : Mem) (x5 x6 : Int32), GoX p l e rmX9_callOf s m args below meth c 0 0 8 (fun rM => MQ below (cQi D ad cs rM) args s 0 0 (Ad ad)) D ad cs (Ad ad) M 159 [(0, .ref (ad (70))), (1, .int x1), (2, .int x2), (3, .int x3), (4, .int x4), (5, .int x5), (6, .int x6)] [] (k M x5 x6)) : ∀ (n : Nat) (M : Mem) (x5 x6 : Int32), GoX p l e rmX9_callOf s m args below meth c 0 0 8 (fun rM => MQ below (cQi D ad cs rM) args s 0 0 (Ad ad)) D ad cs (Ad ad) M 39 [(0, .ref (ad (70))), (1, .int x1), (2, .int x2), (3, .int x3), (4, .int x4), (5, .int x5), (6, .int x6)] [] (f_X9_callOf_L39 x1 x2 x3 x4 k n M x5 x6) := by
  intro n
  induction n with
  | zero => intro M x5 x6; exact g_none
  | succ n ih =>
    intro M x5 x6
    unfold f_X9_callOf_L39
    refine g_iload (pc := 39) F 6 dX9_callOf_39 rfl ?_
    refine g_aload_n (pc := 41) F 0 dX9_callOf_41 rfl ?_
    refine g_get (pc := 42) (v := .ref (ad (72))) (k := 70) (ci := 9) (fs := (oX9 ad)) (C := RX9) (T := TX9) (N := 33) F (by decide) (fun _ => rfl) rfl kiX9_callOf_X9 3 (by decide) klX9_callOf_17 rfl rfl dX9_callOf_42 ?_
    refine g_iload_n (pc := 45) F 1 dX9_callOf_45 rfl ?_
    refine g_iald (pc := 46) (k := 72) (n := 4) F (by decide) (fun _ => rfl) dX9_callOf_46 ?_
    refine g_icmp_ge (pc := 47) F 159 dX9_callOf_47 (by decide) ?_ ?_
    · exact hkx _ _ _
    · refine g_iload (pc := 50) F 6 dX9_callOf_50 rfl ?_
      refine g_iload_n (pc := 52) F 2 dX9_callOf_52 rfl ?_
      refine g_iload_n (pc := 53) F 3 dX9_callOf_53 rfl ?_
      refine g_iload (pc := 54) F 4 dX9_callOf_54 rfl ?_
      refine g_si (pc := 56) (As := [.int x6, .int x2, .int x3, .int x4]) (st := []) F (c_X9_stateOf l D ad cs F.2.2.1 x6 x2 x3 x4 M) (va_cwS 4 F.1.2.2.2.2 gX9_callOf_X9_stateOf rfl rfl rfl hdS_X9_stateOf ⟨by decide, by decide⟩) rfl rfl (Nat.le_of_ble_eq_true rfl) dX9_callOf_56 ⟨Nat.zero_le _, Nat.zero_le _⟩ (fun r9 M10 => ?_)
      refine g_istore (pc := 59) F [(0, .ref (ad (70))), (1, .int x1), (2, .int x2), (3, .int x3), (4, .int x4), (5, .int x5), (6, .int x6), (7, .int r9)] dX9_callOf_59 (by decide) rfl rfl rfl ?_
      refine g_aload_n (pc := 61) F 0 dX9_callOf_61 rfl ?_
      refine g_get (pc := 62) (v := .ref (ad (73))) (k := 70) (ci := 9) (fs := (oX9 ad)) (C := RX9) (T := TX9) (N := 33) F (by decide) (fun _ => rfl) rfl kiX9_callOf_X9 4 (by decide) klX9_callOf_21 rfl rfl dX9_callOf_62 ?_
      refine g_bipush (pc := 65) (v := 24) F dX9_callOf_65 (by decide) ?_
      refine g_iload_n (pc := 67) F 1 dX9_callOf_67 rfl ?_
      refine g_imul (pc := 68) F dX9_callOf_68 ?_
      refine g_iload (pc := 69) F 6 dX9_callOf_69 rfl ?_
      refine g_iadd (pc := 71) F dX9_callOf_71 ?_
      refine g_nm (fun v11 => ?_)
      refine g_iald (pc := 72) (k := 73) (n := 96) F (by decide) (fun _ => rfl) dX9_callOf_72 ?_
      refine g_bipush (pc := 73) (v := 7) F dX9_callOf_73 (by decide) ?_
      refine g_icmp_ne (pc := 75) F 153 dX9_callOf_75 (by decide) ?_ ?_
      · refine g_iinc (pc := 153) (v := x6 + 1) F [(0, .ref (ad (70))), (1, .int x1), (2, .int x2), (3, .int x3), (4, .int x4), (5, .int x5), (6, .int (x6 + 1)), (7, .int r9)] 6 dX9_callOf_153 rfl rfl (by decide) rfl rfl rfl ?_
        refine g_goto (pc := 156) F 39 dX9_callOf_156 (by decide) ?_
        refine g_sub [0, 1, 2, 3, 4, 5, 6] [(0, .ref (ad (70))), (1, .int x1), (2, .int x2), (3, .int x3), (4, .int x4), (5, .int x5), (6, .int (x6 + 1))] rfl ?_
        exact ih _ _ _
      · refine g_aload_n (pc := 78) F 0 dX9_callOf_78 rfl ?_
        refine g_get (pc := 79) (v := .ref (ad (88))) (k := 70) (ci := 9) (fs := (oX9 ad)) (C := RX9) (T := TX9) (N := 33) F (by decide) (fun _ => rfl) rfl kiX9_callOf_X9 21 (by decide) klX9_callOf_71 rfl rfl dX9_callOf_79 ?_
        refine g_iload (pc := 82) F 7 dX9_callOf_82 rfl ?_
        refine g_iald (pc := 84) (k := 88) (n := 51200) F (by decide) (fun _ => rfl) dX9_callOf_84 ?_
        refine g_iconst (pc := 85) (v := (-1)) F dX9_callOf_85 (by decide) ?_
        refine g_icmp_ne (pc := 86) F 92 dX9_callOf_86 (by decide) ?_ ?_
        · refine g_iload (pc := 92) F 5 dX9_callOf_92 rfl ?_
          refine g_iconst (pc := 94) (v := (-1)) F dX9_callOf_94 (by decide) ?_
          refine g_icmp_eq (pc := 95) F 149 dX9_callOf_95 (by decide) ?_ ?_
          · refine g_iload (pc := 149) F 7 dX9_callOf_149 rfl ?_
            refine g_istore (pc := 151) F [(0, .ref (ad (70))), (1, .int x1), (2, .int x2), (3, .int x3), (4, .int x4), (5, .int r9), (6, .int x6), (7, .int r9)] dX9_callOf_151 (by decide) rfl rfl rfl ?_
            refine g_iinc (pc := 153) (v := x6 + 1) F [(0, .ref (ad (70))), (1, .int x1), (2, .int x2), (3, .int x3), (4, .int x4), (5, .int r9), (6, .int (x6 + 1)), (7, .int r9)] 6 dX9_callOf_153 rfl rfl (by decide) rfl rfl rfl ?_
            refine g_goto (pc := 156) F 39 dX9_callOf_156 (by decide) ?_
            refine g_sub [0, 1, 2, 3, 4, 5, 6] [(0, .ref (ad (70))), (1, .int x1), (2, .int x2), (3, .int x3), (4, .int x4), (5, .int r9), (6, .int (x6 + 1))] rfl ?_
            exact ih _ _ _
          · refine g_aload_n (pc := 98) F 0 dX9_callOf_98 rfl ?_
            refine g_get (pc := 99) (v := .ref (ad (88))) (k := 70) (ci := 9) (fs := (oX9 ad)) (C := RX9) (T := TX9) (N := 33) F (by decide) (fun _ => rfl) rfl kiX9_callOf_X9 21 (by decide) klX9_callOf_71 rfl rfl dX9_callOf_99 ?_
            refine g_iload (pc := 102) F 7 dX9_callOf_102 rfl ?_
            refine g_iald (pc := 104) (k := 88) (n := 51200) F (by decide) (fun _ => rfl) dX9_callOf_104 ?_
            refine g_aload_n (pc := 105) F 0 dX9_callOf_105 rfl ?_
            refine g_get (pc := 106) (v := .ref (ad (88))) (k := 70) (ci := 9) (fs := (oX9 ad)) (C := RX9) (T := TX9) (N := 33) F (by decide) (fun _ => rfl) rfl kiX9_callOf_X9 21 (by decide) klX9_callOf_71 rfl rfl dX9_callOf_106 ?_
            refine g_iload (pc := 109) F 5 dX9_callOf_109 rfl ?_
            refine g_iald (pc := 111) (k := 88) (n := 51200) F (by decide) (fun _ => rfl) dX9_callOf_111 ?_
            refine g_icmp_lt (pc := 112) F 149 dX9_callOf_112 (by decide) ?_ ?_
            · refine g_iload (pc := 149) F 7 dX9_callOf_149 rfl ?_
              refine g_istore (pc := 151) F [(0, .ref (ad (70))), (1, .int x1), (2, .int x2), (3, .int x3), (4, .int x4), (5, .int r9), (6, .int x6), (7, .int r9)] dX9_callOf_151 (by decide) rfl rfl rfl ?_
              refine g_iinc (pc := 153) (v := x6 + 1) F [(0, .ref (ad (70))), (1, .int x1), (2, .int x2), (3, .int x3), (4, .int x4), (5, .int r9), (6, .int (x6 + 1)), (7, .int r9)] 6 dX9_callOf_153 rfl rfl (by decide) rfl rfl rfl ?_
              refine g_goto (pc := 156) F 39 dX9_callOf_156 (by decide) ?_
              refine g_sub [0, 1, 2, 3, 4, 5, 6] [(0, .ref (ad (70))), (1, .int x1), (2, .int x2), (3, .int x3), (4, .int x4), (5, .int r9), (6, .int (x6 + 1))] rfl ?_
              exact ih _ _ _
            · refine g_aload_n (pc := 115) F 0 dX9_callOf_115 rfl ?_
              refine g_get (pc := 116) (v := .ref (ad (88))) (k := 70) (ci := 9) (fs := (oX9 ad)) (C := RX9) (T := TX9) (N := 33) F (by decide) (fun _ => rfl) rfl kiX9_callOf_X9 21 (by decide) klX9_callOf_71 rfl rfl dX9_callOf_116 ?_
              refine g_iload (pc := 119) F 7 dX9_callOf_119 rfl ?_
              refine g_iald (pc := 121) (k := 88) (n := 51200) F (by decide) (fun _ => rfl) dX9_callOf_121 ?_
              refine g_aload_n (pc := 122) F 0 dX9_callOf_122 rfl ?_
              refine g_get (pc := 123) (v := .ref (ad (88))) (k := 70) (ci := 9) (fs := (oX9 ad)) (C := RX9) (T := TX9) (N := 33) F (by decide) (fun _ => rfl) rfl kiX9_callOf_X9 21 (by decide) klX9_callOf_71 rfl rfl dX9_callOf_123 ?_
              refine g_iload (pc := 126) F 5 dX9_callOf_126 rfl ?_
              refine g_iald (pc := 128) (k := 88) (n := 51200) F (by decide) (fun _ => rfl) dX9_callOf_128 ?_
              refine g_icmp_ne (pc := 129) F 153 dX9_callOf_129 (by decide) ?_ ?_
              · refine g_iinc (pc := 153) (v := x6 + 1) F [(0, .ref (ad (70))), (1, .int x1), (2, .int x2), (3, .int x3), (4, .int x4), (5, .int x5), (6, .int (x6 + 1)), (7, .int r9)] 6 dX9_callOf_153 rfl rfl (by decide) rfl rfl rfl ?_
                refine g_goto (pc := 156) F 39 dX9_callOf_156 (by decide) ?_
                refine g_sub [0, 1, 2, 3, 4, 5, 6] [(0, .ref (ad (70))), (1, .int x1), (2, .int x2), (3, .int x3), (4, .int x4), (5, .int x5), (6, .int (x6 + 1))] rfl ?_
                exact ih _ _ _
              · refine g_aload_n (pc := 132) F 0 dX9_callOf_132 rfl ?_
                refine g_get (pc := 133) (v := .ref (ad (89))) (k := 70) (ci := 9) (fs := (oX9 ad)) (C := RX9) (T := TX9) (N := 33) F (by decide) (fun _ => rfl) rfl kiX9_callOf_X9 22 (by decide) klX9_callOf_74 rfl rfl dX9_callOf_133 ?_
                refine g_iload (pc := 136) F 7 dX9_callOf_136 rfl ?_
                refine g_iald (pc := 138) (k := 89) (n := 51200) F (by decide) (fun _ => rfl) dX9_callOf_138 ?_
                refine g_aload_n (pc := 139) F 0 dX9_callOf_139 rfl ?_
                refine g_get (pc := 140) (v := .ref (ad (89))) (k := 70) (ci := 9) (fs := (oX9 ad)) (C := RX9) (T := TX9) (N := 33) F (by decide) (fun _ => rfl) rfl kiX9_callOf_X9 22 (by decide) klX9_callOf_74 rfl rfl dX9_callOf_140 ?_
                refine g_iload (pc := 143) F 5 dX9_callOf_143 rfl ?_
                refine g_iald (pc := 145) (k := 89) (n := 51200) F (by decide) (fun _ => rfl) dX9_callOf_145 ?_
                refine g_icmp_ge (pc := 146) F 153 dX9_callOf_146 (by decide) ?_ ?_
                · refine g_iinc (pc := 153) (v := x6 + 1) F [(0, .ref (ad (70))), (1, .int x1), (2, .int x2), (3, .int x3), (4, .int x4), (5, .int x5), (6, .int (x6 + 1)), (7, .int r9)] 6 dX9_callOf_153 rfl rfl (by decide) rfl rfl rfl ?_
                  refine g_goto (pc := 156) F 39 dX9_callOf_156 (by decide) ?_
                  refine g_sub [0, 1, 2, 3, 4, 5, 6] [(0, .ref (ad (70))), (1, .int x1), (2, .int x2), (3, .int x3), (4, .int x4), (5, .int x5), (6, .int (x6 + 1))] rfl ?_
                  exact ih _ _ _
                · refine g_iload (pc := 149) F 7 dX9_callOf_149 rfl ?_
                  refine g_istore (pc := 151) F [(0, .ref (ad (70))), (1, .int x1), (2, .int x2), (3, .int x3), (4, .int x4), (5, .int r9), (6, .int x6), (7, .int r9)] dX9_callOf_151 (by decide) rfl rfl rfl ?_
                  refine g_iinc (pc := 153) (v := x6 + 1) F [(0, .ref (ad (70))), (1, .int x1), (2, .int x2), (3, .int x3), (4, .int x4), (5, .int r9), (6, .int (x6 + 1)), (7, .int r9)] 6 dX9_callOf_153 rfl rfl (by decide) rfl rfl rfl ?_
                  refine g_goto (pc := 156) F 39 dX9_callOf_156 (by decide) ?_
                  refine g_sub [0, 1, 2, 3, 4, 5, 6] [(0, .ref (ad (70))), (1, .int x1), (2, .int x2), (3, .int x3), (4, .int x4), (5, .int r9), (6, .int (x6 + 1))] rfl ?_
                  exact ih _ _ _
        · refine g_goto (pc := 89) F 153 dX9_callOf_89 (by decide) ?_
          refine g_iinc (pc := 153) (v := x6 + 1) F [(0, .ref (ad (70))), (1, .int x1), (2, .int x2), (3, .int x3), (4, .int x4), (5, .int x5), (6, .int (x6 + 1)), (7, .int r9)] 6 dX9_callOf_153 rfl rfl (by decide) rfl rfl rfl ?_
          refine g_goto (pc := 156) F 39 dX9_callOf_156 (by decide) ?_
          refine g_sub [0, 1, 2, 3, 4, 5, 6] [(0, .ref (ad (70))), (1, .int x1), (2, .int x2), (3, .int x3), (4, .int x4), (5, .int x5), (6, .int (x6 + 1))] rfl ?_
          exact ih _ _ _
set_option maxHeartbeats 4000000 in
set_option maxRecDepth 100000 in
theorem c_X9_callOf (l : Launch) (D : va_G) (ad : Nat → Nat) (cs : Cs) (hi : Inj ad) (fu : Nat) (a1 : Int32) (a2 : Int32) (a3 : Int32) (a4 : Int32) (M : Mem) : MI l yX9_callOf wsX9_callOf rmX9_callOf D ad cs [.ref (ad (70)), .int a1, .int a2, .int a3, .int a4] M (f_X9_callOf fu a1 a2 a3 a4 M) := by
  refine Mx.of (cc := cX9_callOf) (maxL := 8) (ret := (some .int)) (own := RX9) (lv := [(0, .ref (ad (70))), (1, .int a1), (2, .int a2), (3, .int a3), (4, .int a4)]) (by decide) rfl rfl (Nat.le_of_ble_eq_true rfl) rfl hi ?_
  intro p e s m below meth c F hr hlk
  unfold f_X9_callOf
  refine g_iload_n (pc := 0) F 1 dX9_callOf_0 rfl ?_
  refine g_si (pc := 1) (As := [.int a1]) (st := []) F (c_X9_isProgram l D ad cs F.2.2.1 a1 M) (va_cwS 1 F.1.2.2.2.2 gX9_callOf_X9_isProgram rfl rfl rfl hdS_X9_isProgram ⟨by decide, by decide⟩) rfl rfl (Nat.le_of_ble_eq_true rfl) dX9_callOf_1 ⟨Nat.zero_le _, Nat.zero_le _⟩ (fun r1 M2 => ?_)
  refine g_if_eq (pc := 4) F 26 dX9_callOf_4 (by decide) ?_ ?_
  · refine g_iconst (pc := 26) (v := (-1)) F dX9_callOf_26 (by decide) ?_
    exact g_iret (pc := 27) F hr hlk dX9_callOf_27
  · refine g_iload_n (pc := 7) F 2 dX9_callOf_7 rfl ?_
    refine g_iload_n (pc := 8) F 3 dX9_callOf_8 rfl ?_
    refine g_si (pc := 9) (As := [.int a2, .int a3]) (st := []) F (c_X9_isPlace l D ad cs F.2.2.1 a2 a3 M2) (va_cwS 2 F.1.2.2.2.2 gX9_callOf_X9_isPlace rfl rfl rfl hdS_X9_isPlace ⟨by decide, by decide⟩) rfl rfl (Nat.le_of_ble_eq_true rfl) dX9_callOf_9 ⟨Nat.zero_le _, Nat.zero_le _⟩ (fun r3 M4 => ?_)
    refine g_if_eq (pc := 12) F 26 dX9_callOf_12 (by decide) ?_ ?_
    · refine g_iconst (pc := 26) (v := (-1)) F dX9_callOf_26 (by decide) ?_
      exact g_iret (pc := 27) F hr hlk dX9_callOf_27
    · refine g_iload (pc := 15) F 4 dX9_callOf_15 rfl ?_
      refine g_iconst (pc := 17) (v := 0) F dX9_callOf_17 (by decide) ?_
      refine g_bipush (pc := 18) (v := 31) F dX9_callOf_18 (by decide) ?_
      refine g_si (pc := 20) (As := [.int a4, .int 0, .int 31]) (st := []) F (c_X9_lies l D ad cs F.2.2.1 a4 0 31 M4) (va_cwS 3 F.1.2.2.2.2 gX9_callOf_X9_lies rfl rfl rfl hdS_X9_lies ⟨by decide, by decide⟩) rfl rfl (Nat.le_of_ble_eq_true rfl) dX9_callOf_20 ⟨Nat.zero_le _, Nat.zero_le _⟩ (fun r5 M6 => ?_)
      refine g_if_ne (pc := 23) F 28 dX9_callOf_23 (by decide) ?_ ?_
      · refine g_aload_n (pc := 28) F 0 dX9_callOf_28 rfl ?_
        refine g_iload_n (pc := 29) F 1 dX9_callOf_29 rfl ?_
        refine g_vv (pc := 30) (k := 70) (ci := 9) (fs := (oX9 ad)) (C := RX9) (T := TX9) (N := 33) (As := [.int a1]) (st := []) F (c_X9_works l D ad cs F.2.2.1 fu a1 M6) (by decide) (fun _ => rfl) rfl (cwV 1 F.1.2.2.2.2 gX9_callOf_X9_works rfl rfl rfl hdV_X9_works ⟨by decide, by decide⟩) rfl rfl (Nat.le_of_ble_eq_true rfl) dX9_callOf_30 ⟨Nat.zero_le _, Nat.zero_le _⟩ (fun r7 M8 => ?_)
        refine g_iconst (pc := 33) (v := (-1)) F dX9_callOf_33 (by decide) ?_
        refine g_istore (pc := 34) F [(0, .ref (ad (70))), (1, .int a1), (2, .int a2), (3, .int a3), (4, .int a4), (5, .int ((-1)))] dX9_callOf_34 (by decide) rfl rfl rfl ?_
        refine g_iconst (pc := 36) (v := 0) F dX9_callOf_36 (by decide) ?_
        refine g_istore (pc := 37) F [(0, .ref (ad (70))), (1, .int a1), (2, .int a2), (3, .int a3), (4, .int a4), (5, .int ((-1))), (6, .int 0)] dX9_callOf_37 (by decide) rfl rfl rfl ?_
        refine w_X9_callOf_L39 a1 a2 a3 a4 F hr hlk _ (fun M12 y13 y14 => ?_) _ _ _ _
        refine g_iload (pc := 159) F 5 dX9_callOf_159 rfl ?_
        exact g_iret (pc := 161) F hr hlk dX9_callOf_161
      · refine g_iconst (pc := 26) (v := (-1)) F dX9_callOf_26 (by decide) ?_
        exact g_iret (pc := 27) F hr hlk dX9_callOf_27
-- X9_steps
def rmX9_steps : Room := { frames := 5, cells := 0, slots := 0, locals := 129 }
def f_X9_steps (fu : Nat) (a1 : Int32) (a2 : Int32) (a3 : Int32) (a4 : Int32) (M : Mem) : Option (Int32 × Mem) := bnd (f_X9_callOf fu a1 a2 a3 a4 M) (fun r1 M2 => if r1 = ((-1)) then some ((-1), M2) else if ix r1 51200 then some ((M2 (88) r1.toNatClampNeg) + (1 : Int32), M2) else none)
set_option maxRecDepth 20000 in
theorem kiX9_steps_X9 : ∀ w ∈ u_ws RX9 TX9 33, w ∈ wsX9_steps := by decide +kernel
set_option maxRecDepth 20000 in
theorem klX9_steps_71 : Cond.fieldLink RX9 71 "DoorListerModel" "depth" "[I" ∈ wsX9_steps := by decide +kernel
set_option maxHeartbeats 4000000 in
set_option maxRecDepth 100000 in
theorem c_X9_steps (l : Launch) (D : va_G) (ad : Nat → Nat) (cs : Cs) (hi : Inj ad) (fu : Nat) (a1 : Int32) (a2 : Int32) (a3 : Int32) (a4 : Int32) (M : Mem) : MI l yX9_steps wsX9_steps rmX9_steps D ad cs [.ref (ad (70)), .int a1, .int a2, .int a3, .int a4] M (f_X9_steps fu a1 a2 a3 a4 M) := by
  refine Mx.of (cc := cX9_steps) (maxL := 6) (ret := (some .int)) (own := RX9) (lv := [(0, .ref (ad (70))), (1, .int a1), (2, .int a2), (3, .int a3), (4, .int a4)]) (by decide) rfl rfl (Nat.le_of_ble_eq_true rfl) rfl hi ?_
  intro p e s m below meth c F hr hlk
  unfold f_X9_steps
  refine g_aload_n (pc := 0) F 0 dX9_steps_0 rfl ?_
  refine g_iload_n (pc := 1) F 1 dX9_steps_1 rfl ?_
  refine g_iload_n (pc := 2) F 2 dX9_steps_2 rfl ?_
  refine g_iload_n (pc := 3) F 3 dX9_steps_3 rfl ?_
  refine g_iload (pc := 4) F 4 dX9_steps_4 rfl ?_
  refine g_vi (pc := 6) (k := 70) (ci := 9) (fs := (oX9 ad)) (C := RX9) (T := TX9) (N := 33) (As := [.int a1, .int a2, .int a3, .int a4]) (st := []) F (c_X9_callOf l D ad cs F.2.2.1 fu a1 a2 a3 a4 M) (by decide) (fun _ => rfl) rfl (cwV 4 F.1.2.2.2.2 gX9_steps_X9_callOf rfl rfl rfl hdV_X9_callOf ⟨by decide, by decide⟩) rfl rfl (Nat.le_of_ble_eq_true rfl) dX9_steps_6 ⟨Nat.zero_le _, Nat.zero_le _⟩ (fun r1 M2 => ?_)
  refine g_istore (pc := 9) F [(0, .ref (ad (70))), (1, .int a1), (2, .int a2), (3, .int a3), (4, .int a4), (5, .int r1)] dX9_steps_9 (by decide) rfl rfl rfl ?_
  refine g_iload (pc := 11) F 5 dX9_steps_11 rfl ?_
  refine g_iconst (pc := 13) (v := (-1)) F dX9_steps_13 (by decide) ?_
  refine g_icmp_ne (pc := 14) F 21 dX9_steps_14 (by decide) ?_ ?_
  · refine g_aload_n (pc := 21) F 0 dX9_steps_21 rfl ?_
    refine g_get (pc := 22) (v := .ref (ad (88))) (k := 70) (ci := 9) (fs := (oX9 ad)) (C := RX9) (T := TX9) (N := 33) F (by decide) (fun _ => rfl) rfl kiX9_steps_X9 21 (by decide) klX9_steps_71 rfl rfl dX9_steps_22 ?_
    refine g_iload (pc := 25) F 5 dX9_steps_25 rfl ?_
    refine g_iald (pc := 27) (k := 88) (n := 51200) F (by decide) (fun _ => rfl) dX9_steps_27 ?_
    refine g_iconst (pc := 28) (v := 1) F dX9_steps_28 (by decide) ?_
    refine g_iadd (pc := 29) F dX9_steps_29 ?_
    exact g_iret (pc := 30) F hr hlk dX9_steps_30
  · refine g_iconst (pc := 17) (v := (-1)) F dX9_steps_17 (by decide) ?_
    refine g_goto (pc := 18) F 30 dX9_steps_18 (by decide) ?_
    exact g_iret (pc := 30) F hr hlk dX9_steps_30
-- X9_way
def rmX9_way : Room := { frames := 5, cells := 0, slots := 0, locals := 129 }
def f_X9_way_L35 (x5 : Int32) (k : Mem → Int32 → Option (Int32 × Mem)) : Nat → Mem → Int32 → Option (Int32 × Mem)
  | 0, _, _ => none
  | n + 1, M, x6 => if ix x6 51200 then if (M (88) x6.toNatClampNeg) ≤ x5 then k M x6 else if ix x6 51200 then nm (M (87) x6.toNatClampNeg) (fun v5 => f_X9_way_L35 x5 k n M v5) else none else none
def f_X9_way (fu : Nat) (a1 : Int32) (a2 : Int32) (a3 : Int32) (a4 : Int32) (a5 : Int32) (M : Mem) : Option (Int32 × Mem) := bnd (f_X9_callOf fu a1 a2 a3 a4 M) (fun r1 M2 => if r1 = ((-1)) then some ((-1), M2) else if ix r1 51200 then bnd (f_X9_lies a5 0 (M2 (88) r1.toNatClampNeg) M2) (fun r3 M4 => if r3 = 0 then some ((-1), M4) else f_X9_way_L35 a5 (fun M6 y7 => some (y7 / 2048, M6)) fu M4 r1) else none)
set_option maxRecDepth 20000 in
theorem kiX9_way_X9 : ∀ w ∈ u_ws RX9 TX9 33, w ∈ wsX9_way := by decide +kernel
set_option maxRecDepth 20000 in
theorem klX9_way_71 : Cond.fieldLink RX9 71 "DoorListerModel" "depth" "[I" ∈ wsX9_way := by decide +kernel
set_option maxRecDepth 20000 in
theorem klX9_way_68 : Cond.fieldLink RX9 68 "DoorListerModel" "parent" "[I" ∈ wsX9_way := by decide +kernel
set_option maxHeartbeats 4000000 in
set_option maxRecDepth 100000 in
theorem w_X9_way_L35 {p : Program} {l : Launch} {e : Env} {s : State} {m : MethodId} {args : Array Value} {below : List Frame} {meth : Method} {c : Code} {D : va_G} {ad : Nat → Nat} {cs : Cs}  (x5 : Int32) (F : Fx p m c cX9_way 7 s args wsX9_way RX9 D ad cs (Ad ad)) (hr : meth.sig.returnType = (some .int)) (hlk : meth.locks = false) (k : Mem → Int32 → Option (Int32 × Mem)) (hkx : ∀ (M : Mem) (x6 : Int32), GoX p l e rmX9_way s m args below meth c 0 0 7 (fun rM => MQ below (cQi D ad cs rM) args s 0 0 (Ad ad)) D ad cs (Ad ad) M 59 [(0, .ref (ad (70))), (5, .int x5), (6, .int x6)] [] (k M x6)) : ∀ (n : Nat) (M : Mem) (x6 : Int32), GoX p l e rmX9_way s m args below meth c 0 0 7 (fun rM => MQ below (cQi D ad cs rM) args s 0 0 (Ad ad)) D ad cs (Ad ad) M 35 [(0, .ref (ad (70))), (5, .int x5), (6, .int x6)] [] (f_X9_way_L35 x5 k n M x6) := by
  intro n
  induction n with
  | zero => intro M x6; exact g_none
  | succ n ih =>
    intro M x6
    unfold f_X9_way_L35
    refine g_aload_n (pc := 35) F 0 dX9_way_35 rfl ?_
    refine g_get (pc := 36) (v := .ref (ad (88))) (k := 70) (ci := 9) (fs := (oX9 ad)) (C := RX9) (T := TX9) (N := 33) F (by decide) (fun _ => rfl) rfl kiX9_way_X9 21 (by decide) klX9_way_71 rfl rfl dX9_way_36 ?_
    refine g_iload (pc := 39) F 2 dX9_way_39 rfl ?_
    refine g_iald (pc := 41) (k := 88) (n := 51200) F (by decide) (fun _ => rfl) dX9_way_41 ?_
    refine g_iload (pc := 42) F 1 dX9_way_42 rfl ?_
    refine g_icmp_le (pc := 44) F 59 dX9_way_44 (by decide) ?_ ?_
    · exact hkx _ _
    · refine g_aload_n (pc := 47) F 0 dX9_way_47 rfl ?_
      refine g_get (pc := 48) (v := .ref (ad (87))) (k := 70) (ci := 9) (fs := (oX9 ad)) (C := RX9) (T := TX9) (N := 33) F (by decide) (fun _ => rfl) rfl kiX9_way_X9 20 (by decide) klX9_way_68 rfl rfl dX9_way_48 ?_
      refine g_iload (pc := 51) F 2 dX9_way_51 rfl ?_
      refine g_iald (pc := 53) (k := 87) (n := 51200) F (by decide) (fun _ => rfl) dX9_way_53 ?_
      refine g_nm (fun v5 => ?_)
      refine g_istore (pc := 54) F [(0, .ref (ad (70))), (5, .int x5), (6, .int v5)] dX9_way_54 (by decide) rfl rfl rfl ?_
      refine g_goto (pc := 56) F 35 dX9_way_56 (by decide) ?_
      exact ih _ _
set_option maxHeartbeats 4000000 in
set_option maxRecDepth 100000 in
theorem c_X9_way (l : Launch) (D : va_G) (ad : Nat → Nat) (cs : Cs) (hi : Inj ad) (fu : Nat) (a1 : Int32) (a2 : Int32) (a3 : Int32) (a4 : Int32) (a5 : Int32) (M : Mem) : MI l yX9_way wsX9_way rmX9_way D ad cs [.ref (ad (70)), .int a1, .int a2, .int a3, .int a4, .int a5] M (f_X9_way fu a1 a2 a3 a4 a5 M) := by
  refine Mx.of (cc := cX9_way) (maxL := 7) (ret := (some .int)) (own := RX9) (lv := [(0, .ref (ad (70))), (1, .int a1), (2, .int a2), (3, .int a3), (4, .int a4), (5, .int a5)]) (by decide) rfl rfl (Nat.le_of_ble_eq_true rfl) rfl hi ?_
  intro p e s m below meth c F hr hlk
  unfold f_X9_way
  refine g_aload_n (pc := 0) F 0 dX9_way_0 rfl ?_
  refine g_iload_n (pc := 1) F 1 dX9_way_1 rfl ?_
  refine g_iload_n (pc := 2) F 2 dX9_way_2 rfl ?_
  refine g_iload_n (pc := 3) F 3 dX9_way_3 rfl ?_
  refine g_iload (pc := 4) F 4 dX9_way_4 rfl ?_
  refine g_vi (pc := 6) (k := 70) (ci := 9) (fs := (oX9 ad)) (C := RX9) (T := TX9) (N := 33) (As := [.int a1, .int a2, .int a3, .int a4]) (st := []) F (c_X9_callOf l D ad cs F.2.2.1 fu a1 a2 a3 a4 M) (by decide) (fun _ => rfl) rfl (cwV 4 F.1.2.2.2.2 gX9_way_X9_callOf rfl rfl rfl hdV_X9_callOf ⟨by decide, by decide⟩) rfl rfl (Nat.le_of_ble_eq_true rfl) dX9_way_6 ⟨Nat.zero_le _, Nat.zero_le _⟩ (fun r1 M2 => ?_)
  refine g_istore (pc := 9) F [(0, .ref (ad (70))), (1, .int a1), (2, .int a2), (3, .int a3), (4, .int a4), (5, .int a5), (6, .int r1)] dX9_way_9 (by decide) rfl rfl rfl ?_
  refine g_iload (pc := 11) F 6 dX9_way_11 rfl ?_
  refine g_iconst (pc := 13) (v := (-1)) F dX9_way_13 (by decide) ?_
  refine g_icmp_eq (pc := 14) F 33 dX9_way_14 (by decide) ?_ ?_
  · refine g_iconst (pc := 33) (v := (-1)) F dX9_way_33 (by decide) ?_
    exact g_iret (pc := 34) F hr hlk dX9_way_34
  · refine g_iload (pc := 17) F 5 dX9_way_17 rfl ?_
    refine g_iconst (pc := 19) (v := 0) F dX9_way_19 (by decide) ?_
    refine g_aload_n (pc := 20) F 0 dX9_way_20 rfl ?_
    refine g_get (pc := 21) (v := .ref (ad (88))) (k := 70) (ci := 9) (fs := (oX9 ad)) (C := RX9) (T := TX9) (N := 33) F (by decide) (fun _ => rfl) rfl kiX9_way_X9 21 (by decide) klX9_way_71 rfl rfl dX9_way_21 ?_
    refine g_iload (pc := 24) F 6 dX9_way_24 rfl ?_
    refine g_iald (pc := 26) (k := 88) (n := 51200) F (by decide) (fun _ => rfl) dX9_way_26 ?_
    refine g_si (pc := 27) (As := [.int a5, .int 0, .int (M2 (88) r1.toNatClampNeg)]) (st := []) F (c_X9_lies l D ad cs F.2.2.1 a5 0 (M2 (88) r1.toNatClampNeg) M2) (va_cwS 3 F.1.2.2.2.2 gX9_way_X9_lies rfl rfl rfl hdS_X9_lies ⟨by decide, by decide⟩) rfl rfl (Nat.le_of_ble_eq_true rfl) dX9_way_27 ⟨Nat.zero_le _, Nat.zero_le _⟩ (fun r3 M4 => ?_)
    refine g_if_ne (pc := 30) F 35 dX9_way_30 (by decide) ?_ ?_
    · refine g_sub [0, 5, 6] [(0, .ref (ad (70))), (5, .int a5), (6, .int r1)] rfl ?_
      refine w_X9_way_L35 a5 F hr hlk _ (fun M6 y7 => ?_) _ _ _
      refine g_iload (pc := 59) F 2 dX9_way_59 rfl ?_
      refine g_sipush (pc := 61) (v := 2048) F dX9_way_61 (by decide) ?_
      refine g_idiv (pc := 64) F (by decide) dX9_way_64 ?_
      exact g_iret (pc := 65) F hr hlk dX9_way_65
    · refine g_iconst (pc := 33) (v := (-1)) F dX9_way_33 (by decide) ?_
      exact g_iret (pc := 34) F hr hlk dX9_way_34
-- X9_push
def rmX9_push : Room := { frames := 0, cells := 0, slots := 0, locals := 0 }
def f_X9_push_L3 (x1 : Int32) (k : Mem → Int32 → Option (Int32 × Mem)) : Nat → Mem → Int32 → Option (Int32 × Mem)
  | 0, _, _ => none
  | n + 1, M, x2 => if x2 < 0 then k M x2 else if ix (M (70) 1) 80 then wr M (71) (M (70) 1).toNatClampNeg (vp_nar .byte ((x1 >>> (x2 &&& 31)).toInt8.toInt32)) (fun M1 => wr M1 (70) 1 ((M1 (70) 1) + (1 : Int32)) (fun M2 => f_X9_push_L3 x1 k n M2 (x2 + (-8)))) else none
def f_X9_push (fu : Nat) (a1 : Int32) (M : Mem) : Option (Int32 × Mem) := f_X9_push_L3 a1 (fun M3 y4 => some (0, M3)) fu M 24
set_option maxRecDepth 20000 in
theorem kiX9_push_X9 : ∀ w ∈ u_ws RX9 TX9 33, w ∈ wsX9_push := by decide +kernel
set_option maxRecDepth 20000 in
theorem klX9_push_7 : Cond.fieldLink RX9 7 "DoorListerModel" "tape" "[B" ∈ wsX9_push := by decide +kernel
set_option maxRecDepth 20000 in
theorem klX9_push_169 : Cond.fieldLink RX9 169 "DoorListerModel" "taped" "I" ∈ wsX9_push := by decide +kernel
set_option maxHeartbeats 4000000 in
set_option maxRecDepth 100000 in
theorem w_X9_push_L3 {p : Program} {l : Launch} {e : Env} {s : State} {m : MethodId} {args : Array Value} {below : List Frame} {meth : Method} {c : Code} {D : va_G} {ad : Nat → Nat} {cs : Cs}  (x1 : Int32) (F : Fx p m c cX9_push 3 s args wsX9_push RX9 D ad cs (Ad ad)) (hr : meth.sig.returnType = none) (hlk : meth.locks = false) (k : Mem → Int32 → Option (Int32 × Mem)) (hkx : ∀ (M : Mem) (x2 : Int32), GoX p l e rmX9_push s m args below meth c 0 0 3 (fun rM => MQ below (cQv D ad cs rM) args s 0 0 (Ad ad)) D ad cs (Ad ad) M 36 [(0, .ref (ad (70))), (1, .int x1), (2, .int x2)] [] (k M x2)) : ∀ (n : Nat) (M : Mem) (x2 : Int32), GoX p l e rmX9_push s m args below meth c 0 0 3 (fun rM => MQ below (cQv D ad cs rM) args s 0 0 (Ad ad)) D ad cs (Ad ad) M 3 [(0, .ref (ad (70))), (1, .int x1), (2, .int x2)] [] (f_X9_push_L3 x1 k n M x2) := by
  intro n
  induction n with
  | zero => intro M x2; exact g_none
  | succ n ih =>
    intro M x2
    unfold f_X9_push_L3
    refine g_iload_n (pc := 3) F 2 dX9_push_3 rfl ?_
    refine g_if_lt (pc := 4) F 36 dX9_push_4 (by decide) ?_ ?_
    · exact hkx _ _
    · refine g_aload_n (pc := 7) F 0 dX9_push_7 rfl ?_
      refine g_get (pc := 8) (v := .ref (ad (71))) (k := 70) (ci := 9) (fs := (oX9 ad)) (C := RX9) (T := TX9) (N := 33) F (by decide) (fun _ => rfl) rfl kiX9_push_X9 0 (by decide) klX9_push_7 rfl rfl dX9_push_8 ?_
      refine g_aload_n (pc := 11) F 0 dX9_push_11 rfl ?_
      refine g_get (pc := 12) (v := .int (M (70) 1)) (k := 70) (ci := 9) (fs := (oX9 ad)) (C := RX9) (T := TX9) (N := 33) F (by decide) (fun _ => rfl) rfl kiX9_push_X9 1 (by decide) klX9_push_169 rfl rfl dX9_push_12 ?_
      refine g_iload_n (pc := 15) F 1 dX9_push_15 rfl ?_
      refine g_iload_n (pc := 16) F 2 dX9_push_16 rfl ?_
      refine g_ishr (pc := 17) F dX9_push_17 ?_
      refine g_i2b (pc := 18) F dX9_push_18 ?_
      refine g_bast (pc := 19) (k := 71) (n := 80) F (by decide) (fun _ => rfl) dX9_push_19 (fun M1 => ?_)
      refine g_aload_n (pc := 20) F 0 dX9_push_20 rfl ?_
      refine g_dup (pc := 21) F rfl dX9_push_21 ?_
      refine g_get (pc := 22) (v := .int (M1 (70) 1)) (k := 70) (ci := 9) (fs := (oX9 ad)) (C := RX9) (T := TX9) (N := 33) F (by decide) (fun _ => rfl) rfl kiX9_push_X9 1 (by decide) klX9_push_169 rfl rfl dX9_push_22 ?_
      refine g_iconst (pc := 25) (v := 1) F dX9_push_25 (by decide) ?_
      refine g_iadd (pc := 26) F dX9_push_26 ?_
      refine g_put (pc := 27) (k := 70) (ci := 9) (fs := (oX9 ad)) (C := RX9) (T := TX9) (N := 33) F (by decide) (fun _ => rfl) rfl kiX9_push_X9 tyX9 tyX9_ok nmX9 1 (by decide) klX9_push_169 rfl rfl rfl rfl (fun _ => rfl) (Nat.le_of_ble_eq_true rfl) dX9_push_27 (fun M2 => ?_)
      refine g_iinc (pc := 30) (v := x2 + (-8)) F [(0, .ref (ad (70))), (1, .int x1), (2, .int (x2 + (-8)))] 2 dX9_push_30 rfl rfl (by decide) rfl rfl rfl ?_
      refine g_goto (pc := 33) F 3 dX9_push_33 (by decide) ?_
      exact ih _ _
set_option maxHeartbeats 4000000 in
set_option maxRecDepth 100000 in
theorem c_X9_push (l : Launch) (D : va_G) (ad : Nat → Nat) (cs : Cs) (hi : Inj ad) (fu : Nat) (a1 : Int32) (M : Mem) : MV l yX9_push wsX9_push rmX9_push D ad cs [.ref (ad (70)), .int a1] M (f_X9_push fu a1 M) := by
  refine Mx.of (cc := cX9_push) (maxL := 3) (ret := none) (own := RX9) (lv := [(0, .ref (ad (70))), (1, .int a1)]) (by decide) rfl rfl (Nat.le_of_ble_eq_true rfl) rfl hi ?_
  intro p e s m below meth c F hr hlk
  unfold f_X9_push
  refine g_bipush (pc := 0) (v := 24) F dX9_push_0 (by decide) ?_
  refine g_istore_n (pc := 2) F [(0, .ref (ad (70))), (1, .int a1), (2, .int 24)] dX9_push_2 (by decide) rfl rfl rfl ?_
  refine w_X9_push_L3 a1 F hr hlk _ (fun M3 y4 => ?_) _ _ _
  exact g_vret (pc := 36) F hr hlk dX9_push_36
-- X9_feed
def rmX9_feed : Room := { frames := 1, cells := 0, slots := 0, locals := 22 }
def f_X9_feed (fu : Nat) (a1 : Int32) (a2 : Int32) (a3 : Int32) (a4 : Int32) (a5 : Int32) (M : Mem) : Option (Int32 × Mem) := if ((M (70) 1) + (20 : Int32)) ≤ 80 then bnd (f_X9_push fu a1 M) (fun r1 M2 => bnd (f_X9_push fu a2 M2) (fun r3 M4 => bnd (f_X9_push fu a3 M4) (fun r5 M6 => bnd (f_X9_push fu a4 M6) (fun r7 M8 => bnd (f_X9_push fu a5 M8) (fun r9 M10 => some (M10 (70) 1, M10)))))) else some ((-1), M)
set_option maxRecDepth 20000 in
theorem kiX9_feed_X9 : ∀ w ∈ u_ws RX9 TX9 33, w ∈ wsX9_feed := by decide +kernel
set_option maxRecDepth 20000 in
theorem klX9_feed_169 : Cond.fieldLink RX9 169 "DoorListerModel" "taped" "I" ∈ wsX9_feed := by decide +kernel
set_option maxHeartbeats 4000000 in
set_option maxRecDepth 100000 in
theorem c_X9_feed (l : Launch) (D : va_G) (ad : Nat → Nat) (cs : Cs) (hi : Inj ad) (fu : Nat) (a1 : Int32) (a2 : Int32) (a3 : Int32) (a4 : Int32) (a5 : Int32) (M : Mem) : MI l yX9_feed wsX9_feed rmX9_feed D ad cs [.ref (ad (70)), .int a1, .int a2, .int a3, .int a4, .int a5] M (f_X9_feed fu a1 a2 a3 a4 a5 M) := by
  refine Mx.of (cc := cX9_feed) (maxL := 6) (ret := (some .int)) (own := RX9) (lv := [(0, .ref (ad (70))), (1, .int a1), (2, .int a2), (3, .int a3), (4, .int a4), (5, .int a5)]) (by decide) rfl rfl (Nat.le_of_ble_eq_true rfl) rfl hi ?_
  intro p e s m below meth c F hr hlk
  unfold f_X9_feed
  refine g_aload_n (pc := 0) F 0 dX9_feed_0 rfl ?_
  refine g_get (pc := 1) (v := .int (M (70) 1)) (k := 70) (ci := 9) (fs := (oX9 ad)) (C := RX9) (T := TX9) (N := 33) F (by decide) (fun _ => rfl) rfl kiX9_feed_X9 1 (by decide) klX9_feed_169 rfl rfl dX9_feed_1 ?_
  refine g_bipush (pc := 4) (v := 20) F dX9_feed_4 (by decide) ?_
  refine g_iadd (pc := 6) F dX9_feed_6 ?_
  refine g_bipush (pc := 7) (v := 80) F dX9_feed_7 (by decide) ?_
  refine g_icmp_le (pc := 9) F 14 dX9_feed_9 (by decide) ?_ ?_
  · refine g_aload_n (pc := 14) F 0 dX9_feed_14 rfl ?_
    refine g_iload_n (pc := 15) F 1 dX9_feed_15 rfl ?_
    refine g_vv (pc := 16) (k := 70) (ci := 9) (fs := (oX9 ad)) (C := RX9) (T := TX9) (N := 33) (As := [.int a1]) (st := []) F (c_X9_push l D ad cs F.2.2.1 fu a1 M) (by decide) (fun _ => rfl) rfl (cwV 1 F.1.2.2.2.2 gX9_feed_X9_push rfl rfl rfl hdV_X9_push ⟨by decide, by decide⟩) rfl rfl (Nat.le_of_ble_eq_true rfl) dX9_feed_16 ⟨Nat.zero_le _, Nat.zero_le _⟩ (fun r1 M2 => ?_)
    refine g_aload_n (pc := 19) F 0 dX9_feed_19 rfl ?_
    refine g_iload_n (pc := 20) F 2 dX9_feed_20 rfl ?_
    refine g_vv (pc := 21) (k := 70) (ci := 9) (fs := (oX9 ad)) (C := RX9) (T := TX9) (N := 33) (As := [.int a2]) (st := []) F (c_X9_push l D ad cs F.2.2.1 fu a2 M2) (by decide) (fun _ => rfl) rfl (cwV 1 F.1.2.2.2.2 gX9_feed_X9_push rfl rfl rfl hdV_X9_push ⟨by decide, by decide⟩) rfl rfl (Nat.le_of_ble_eq_true rfl) dX9_feed_21 ⟨Nat.zero_le _, Nat.zero_le _⟩ (fun r3 M4 => ?_)
    refine g_aload_n (pc := 24) F 0 dX9_feed_24 rfl ?_
    refine g_iload_n (pc := 25) F 3 dX9_feed_25 rfl ?_
    refine g_vv (pc := 26) (k := 70) (ci := 9) (fs := (oX9 ad)) (C := RX9) (T := TX9) (N := 33) (As := [.int a3]) (st := []) F (c_X9_push l D ad cs F.2.2.1 fu a3 M4) (by decide) (fun _ => rfl) rfl (cwV 1 F.1.2.2.2.2 gX9_feed_X9_push rfl rfl rfl hdV_X9_push ⟨by decide, by decide⟩) rfl rfl (Nat.le_of_ble_eq_true rfl) dX9_feed_26 ⟨Nat.zero_le _, Nat.zero_le _⟩ (fun r5 M6 => ?_)
    refine g_aload_n (pc := 29) F 0 dX9_feed_29 rfl ?_
    refine g_iload (pc := 30) F 4 dX9_feed_30 rfl ?_
    refine g_vv (pc := 32) (k := 70) (ci := 9) (fs := (oX9 ad)) (C := RX9) (T := TX9) (N := 33) (As := [.int a4]) (st := []) F (c_X9_push l D ad cs F.2.2.1 fu a4 M6) (by decide) (fun _ => rfl) rfl (cwV 1 F.1.2.2.2.2 gX9_feed_X9_push rfl rfl rfl hdV_X9_push ⟨by decide, by decide⟩) rfl rfl (Nat.le_of_ble_eq_true rfl) dX9_feed_32 ⟨Nat.zero_le _, Nat.zero_le _⟩ (fun r7 M8 => ?_)
    refine g_aload_n (pc := 35) F 0 dX9_feed_35 rfl ?_
    refine g_iload (pc := 36) F 5 dX9_feed_36 rfl ?_
    refine g_vv (pc := 38) (k := 70) (ci := 9) (fs := (oX9 ad)) (C := RX9) (T := TX9) (N := 33) (As := [.int a5]) (st := []) F (c_X9_push l D ad cs F.2.2.1 fu a5 M8) (by decide) (fun _ => rfl) rfl (cwV 1 F.1.2.2.2.2 gX9_feed_X9_push rfl rfl rfl hdV_X9_push ⟨by decide, by decide⟩) rfl rfl (Nat.le_of_ble_eq_true rfl) dX9_feed_38 ⟨Nat.zero_le _, Nat.zero_le _⟩ (fun r9 M10 => ?_)
    refine g_aload_n (pc := 41) F 0 dX9_feed_41 rfl ?_
    refine g_get (pc := 42) (v := .int (M10 (70) 1)) (k := 70) (ci := 9) (fs := (oX9 ad)) (C := RX9) (T := TX9) (N := 33) F (by decide) (fun _ => rfl) rfl kiX9_feed_X9 1 (by decide) klX9_feed_169 rfl rfl dX9_feed_42 ?_
    exact g_iret (pc := 45) F hr hlk dX9_feed_45
  · refine g_iconst (pc := 12) (v := (-1)) F dX9_feed_12 (by decide) ?_
    exact g_iret (pc := 13) F hr hlk dX9_feed_13
