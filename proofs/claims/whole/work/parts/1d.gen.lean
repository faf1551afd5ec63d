/-! Written by wip/whole/gen.py: pure functions of methods, and the walks that tie the bytecode to them. -/
-- X3_perform
def rmX3_perform : Room := { frames := 3, cells := 0, slots := 0, locals := 69 }
def f_X3_perform_L34 (q1 : Nat) (x3 : Int32) (q4 : Nat) (k : Mem → Int32 → Int32 → Option (Int32 × Mem)) : Nat → Mem → Int32 → Int32 → Option (Int32 × Mem)
  | 0, _, _, _ => none
  | n + 1, M, x5, x6 => if 500 < x6 then k M x5 x6 else if x5 = ((-1)) then bnd (f_X3_endAfter x6 q1 x3 M) (fun r7 M8 => if r7 = ((-1)) then bnd (f_X3_step q1 q4 M8) (fun r9 M10 => f_X3_perform_L34 q1 x3 q4 k n M10 r7 (x6 + 1)) else f_X3_perform_L34 q1 x3 q4 k n M8 r7 (x6 + 1)) else k M x5 x6
def f_X3_perform (fu : Nat) (p1 : Nat) (a3 : Int32) (k4 : Nat) (M : Mem) : Option (Int32 × Mem) := bnd (f_J7_fill_53178 fu 61 2 0 M) (fun r1 M2 => wr M2 (60) 1 0 (fun M3 => wr M3 (60) 2 0 (fun M4 => wr M4 (60) 3 0 (fun M5 => wr M5 (60) 4 0 (fun M6 => f_X3_perform_L34 p1 a3 k4 (fun M11 y12 y13 => wr M11 (60) 5 y12 (fun M14 => some (M14 (60) 4, M14))) fu M6 ((-1)) 0)))))
set_option maxRecDepth 20000 in
theorem kiX3_perform_X3 : ∀ w ∈ u_ws RX3 TX3 6, w ∈ wsX3_perform := by decide +kernel
set_option maxRecDepth 20000 in
theorem klX3_perform_9 : Cond.fieldLink RX3 9 "DoorLister$Machine" "registers" "[I" ∈ wsX3_perform := by decide +kernel
set_option maxRecDepth 20000 in
theorem klX3_perform_25 : Cond.fieldLink RX3 25 "DoorLister$Machine" "at" "I" ∈ wsX3_perform := by decide +kernel
set_option maxRecDepth 20000 in
theorem klX3_perform_28 : Cond.fieldLink RX3 28 "DoorLister$Machine" "phase" "I" ∈ wsX3_perform := by decide +kernel
set_option maxRecDepth 20000 in
theorem klX3_perform_31 : Cond.fieldLink RX3 31 "DoorLister$Machine" "taken" "I" ∈ wsX3_perform := by decide +kernel
set_option maxRecDepth 20000 in
theorem klX3_perform_34 : Cond.fieldLink RX3 34 "DoorLister$Machine" "calls" "I" ∈ wsX3_perform := by decide +kernel
set_option maxRecDepth 20000 in
theorem klX3_perform_15 : Cond.fieldLink RX3 15 "DoorLister$Machine" "latestEnd" "I" ∈ wsX3_perform := by decide +kernel
set_option maxHeartbeats 4000000 in
set_option maxRecDepth 100000 in
theorem w_X3_perform_L34 {p : Program} {l : Launch} {e : Env} {s : State} {m : MethodId} {args : Array Value} {below : List Frame} {meth : Method} {c : Code} {D : va_G} {ad : Nat → Nat} {cs : Cs}  (q1 : Nat) (x3 : Int32) (q4 : Nat) (hq1 : q1 < 4) (hq4 : Tab q4) (F : Fx p m c cX3_perform 7 s args wsX3_perform RX3 D ad cs (Ad ad)) (hr : meth.sig.returnType = (some .int)) (hlk : meth.locks = false) (k : Mem → Int32 → Int32 → Option (Int32 × Mem)) (hkx : ∀ (M : Mem) (x5 x6 : Int32), GoX p l e rmX3_perform s m args below meth c 0 0 7 (fun rM => MQ below (cQi D ad cs rM) args s 0 0 (Ad ad)) D ad cs (Ad ad) M 78 [(0, .ref (ad (60))), (1, .ref (ad (13 * q1 + 3))), (2, .ref (ad (58))), (3, .int x3), (4, .ref (ad (q4))), (5, .int x5), (6, .int x6)] [] (k M x5 x6)) : ∀ (n : Nat) (M : Mem) (x5 x6 : Int32), GoX p l e rmX3_perform s m args below meth c 0 0 7 (fun rM => MQ below (cQi D ad cs rM) args s 0 0 (Ad ad)) D ad cs (Ad ad) M 34 [(0, .ref (ad (60))), (1, .ref (ad (13 * q1 + 3))), (2, .ref (ad (58))), (3, .int x3), (4, .ref (ad (q4))), (5, .int x5), (6, .int x6)] [] (f_X3_perform_L34 q1 x3 q4 k n M x5 x6) := by
  intro n
  induction n with
  | zero => intro M x5 x6; exact g_none
  | succ n ih =>
    intro M x5 x6
    unfold f_X3_perform_L34
    refine g_iload (pc := 34) F 6 dX3_perform_34 rfl ?_
    refine g_sipush (pc := 36) (v := 500) F dX3_perform_36 (by decide) ?_
    refine g_icmp_gt (pc := 39) F 78 dX3_perform_39 (by decide) ?_ ?_
    · exact hkx _ _ _
    · refine g_iload (pc := 42) F 5 dX3_perform_42 rfl ?_
      refine g_iconst (pc := 44) (v := (-1)) F dX3_perform_44 (by decide) ?_
      refine g_icmp_ne (pc := 45) F 78 dX3_perform_45 (by decide) ?_ ?_
      · exact hkx _ _ _
      · refine g_aload_n (pc := 48) F 0 dX3_perform_48 rfl ?_
        refine g_iload (pc := 49) F 6 dX3_perform_49 rfl ?_
        refine g_aload_n (pc := 51) F 1 dX3_perform_51 rfl ?_
        refine g_iload_n (pc := 52) F 3 dX3_perform_52 rfl ?_
        refine g_vi (pc := 53) (k := 60) (ci := 3) (fs := (oX3 ad)) (C := RX3) (T := TX3) (N := 6) (As := [.int x6, .ref (ad (13 * q1 + 3)), .int x3]) (st := []) F (c_X3_endAfter l D ad cs F.2.2.1 x6 q1 x3 hq1 M) (by decide) (fun _ => rfl) rfl (cwV 3 F.1.2.2.2.2 gX3_perform_X3_endAfter rfl rfl rfl hdV_X3_endAfter ⟨by decide, by decide⟩) rfl rfl (Nat.le_of_ble_eq_true rfl) dX3_perform_53 ⟨Nat.zero_le _, Nat.zero_le _⟩ (fun r7 M8 => ?_)
        refine g_istore (pc := 56) F [(0, .ref (ad (60))), (1, .ref (ad (13 * q1 + 3))), (2, .ref (ad (58))), (3, .int x3), (4, .ref (ad (q4))), (5, .int r7), (6, .int x6)] dX3_perform_56 (by decide) rfl rfl rfl ?_
        refine g_iload (pc := 58) F 5 dX3_perform_58 rfl ?_
        refine g_iconst (pc := 60) (v := (-1)) F dX3_perform_60 (by decide) ?_
        refine g_icmp_ne (pc := 61) F 72 dX3_perform_61 (by decide) ?_ ?_
        · refine g_iinc (pc := 72) (v := x6 + 1) F [(0, .ref (ad (60))), (1, .ref (ad (13 * q1 + 3))), (2, .ref (ad (58))), (3, .int x3), (4, .ref (ad (q4))), (5, .int r7), (6, .int (x6 + 1))] 6 dX3_perform_72 rfl rfl (by decide) rfl rfl rfl ?_
          refine g_goto (pc := 75) F 34 dX3_perform_75 (by decide) ?_
          exact ih _ _ _
        · refine g_aload_n (pc := 64) F 0 dX3_perform_64 rfl ?_
          refine g_aload_n (pc := 65) F 1 dX3_perform_65 rfl ?_
          refine g_aload_n (pc := 66) F 2 dX3_perform_66 rfl ?_
          refine g_aload (pc := 67) F 4 dX3_perform_67 rfl ?_
          refine g_vv (pc := 69) (k := 60) (ci := 3) (fs := (oX3 ad)) (C := RX3) (T := TX3) (N := 6) (As := [.ref (ad (13 * q1 + 3)), .ref (ad (58)), .ref (ad (q4))]) (st := []) F (c_X3_step l D ad cs F.2.2.1 q1 q4 hq1 hq4 M8) (by decide) (fun _ => rfl) rfl (cwV 3 F.1.2.2.2.2 gX3_perform_X3_step rfl rfl rfl hdV_X3_step ⟨by decide, by decide⟩) rfl rfl (Nat.le_of_ble_eq_true rfl) dX3_perform_69 ⟨Nat.zero_le _, Nat.zero_le _⟩ (fun r9 M10 => ?_)
          refine g_iinc (pc := 72) (v := x6 + 1) F [(0, .ref (ad (60))), (1, .ref (ad (13 * q1 + 3))), (2, .ref (ad (58))), (3, .int x3), (4, .ref (ad (q4))), (5, .int r7), (6, .int (x6 + 1))] 6 dX3_perform_72 rfl rfl (by decide) rfl rfl rfl ?_
          refine g_goto (pc := 75) F 34 dX3_perform_75 (by decide) ?_
          exact ih _ _ _
set_option maxHeartbeats 4000000 in
set_option maxRecDepth 100000 in
theorem c_X3_perform (l : Launch) (D : va_G) (ad : Nat → Nat) (cs : Cs) (hi : Inj ad) (fu : Nat) (p1 : Nat) (a3 : Int32) (k4 : Nat) (h1 : p1 < 4) (h4 : Tab k4) (M : Mem) : MI l yX3_perform wsX3_perform rmX3_perform D ad cs [.ref (ad (60)), .ref (ad (13 * p1 + 3)), .ref (ad (58)), .int a3, .ref (ad (k4))] M (f_X3_perform fu p1 a3 k4 M) := by
  refine Mx.of (cc := cX3_perform) (maxL := 7) (ret := (some .int)) (own := RX3) (lv := [(0, .ref (ad (60))), (1, .ref (ad (13 * p1 + 3))), (2, .ref (ad (58))), (3, .int a3), (4, .ref (ad (k4)))]) (by decide) rfl rfl (Nat.le_of_ble_eq_true rfl) rfl hi ?_
  intro p e s m below meth c F hr hlk
  unfold f_X3_perform
  refine g_aload_n (pc := 0) F 0 dX3_perform_0 rfl ?_
  refine g_get (pc := 1) (v := .ref (ad (61))) (k := 60) (ci := 3) (fs := (oX3 ad)) (C := RX3) (T := TX3) (N := 6) F (by decide) (fun _ => rfl) rfl kiX3_perform_X3 0 (by decide) klX3_perform_9 rfl rfl dX3_perform_1 ?_
  refine g_iconst (pc := 4) (v := 0) F dX3_perform_4 (by decide) ?_
  refine g_sv (pc := 5) (As := [.ref (ad (61)), .int 0]) (st := []) F (c_J7_fill_53178 l D ad cs F.2.2.1 fu 61 2 0 (by decide) (fun _ => rfl) M) (va_cwS 2 F.1.2.2.2.2 gX3_perform_J7_fill_53178 rfl rfl rfl hdS_J7_fill_53178 ⟨by decide, by decide⟩) rfl rfl (Nat.le_of_ble_eq_true rfl) dX3_perform_5 ⟨Nat.zero_le _, Nat.zero_le _⟩ (fun r1 M2 => ?_)
  refine g_aload_n (pc := 8) F 0 dX3_perform_8 rfl ?_
  refine g_iconst (pc := 9) (v := 0) F dX3_perform_9 (by decide) ?_
  refine g_put (pc := 10) (k := 60) (ci := 3) (fs := (oX3 ad)) (C := RX3) (T := TX3) (N := 6) F (by decide) (fun _ => rfl) rfl kiX3_perform_X3 tyX3 tyX3_ok nmX3 1 (by decide) klX3_perform_25 rfl rfl rfl rfl (fun _ => rfl) (Nat.le_of_ble_eq_true rfl) dX3_perform_10 (fun M3 => ?_)
  refine g_aload_n (pc := 13) F 0 dX3_perform_13 rfl ?_
  refine g_iconst (pc := 14) (v := 0) F dX3_perform_14 (by decide) ?_
  refine g_put (pc := 15) (k := 60) (ci := 3) (fs := (oX3 ad)) (C := RX3) (T := TX3) (N := 6) F (by decide) (fun _ => rfl) rfl kiX3_perform_X3 tyX3 tyX3_ok nmX3 2 (by decide) klX3_perform_28 rfl rfl rfl rfl (fun _ => rfl) (Nat.le_of_ble_eq_true rfl) dX3_perform_15 (fun M4 => ?_)
  refine g_aload_n (pc := 18) F 0 dX3_perform_18 rfl ?_
  refine g_iconst (pc := 19) (v := 0) F dX3_perform_19 (by decide) ?_
  refine g_put (pc := 20) (k := 60) (ci := 3) (fs := (oX3 ad)) (C := RX3) (T := TX3) (N := 6) F (by decide) (fun _ => rfl) rfl kiX3_perform_X3 tyX3 tyX3_ok nmX3 3 (by decide) klX3_perform_31 rfl rfl rfl rfl (fun _ => rfl) (Nat.le_of_ble_eq_true rfl) dX3_perform_20 (fun M5 => ?_)
  refine g_aload_n (pc := 23) F 0 dX3_perform_23 rfl ?_
  refine g_iconst (pc := 24) (v := 0) F dX3_perform_24 (by decide) ?_
  refine g_put (pc := 25) (k := 60) (ci := 3) (fs := (oX3 ad)) (C := RX3) (T := TX3) (N := 6) F (by decide) (fun _ => rfl) rfl kiX3_perform_X3 tyX3 tyX3_ok nmX3 4 (by decide) klX3_perform_34 rfl rfl rfl rfl (fun _ => rfl) (Nat.le_of_ble_eq_true rfl) dX3_perform_25 (fun M6 => ?_)
  refine g_iconst (pc := 28) (v := (-1)) F dX3_perform_28 (by decide) ?_
  refine g_istore (pc := 29) F [(0, .ref (ad (60))), (1, .ref (ad (13 * p1 + 3))), (2, .ref (ad (58))), (3, .int a3), (4, .ref (ad (k4))), (5, .int ((-1)))] dX3_perform_29 (by decide) rfl rfl rfl ?_
  refine g_iconst (pc := 31) (v := 0) F dX3_perform_31 (by decide) ?_
  refine g_istore (pc := 32) F [(0, .ref (ad (60))), (1, .ref (ad (13 * p1 + 3))), (2, .ref (ad (58))), (3, .int a3), (4, .ref (ad (k4))), (5, .int ((-1))), (6, .int 0)] dX3_perform_32 (by decide) rfl rfl rfl ?_
  refine w_X3_perform_L34 p1 a3 k4 h1 h4 F hr hlk _ (fun M11 y12 y13 => ?_) _ _ _ _
  refine g_aload_n (pc := 78) F 0 dX3_perform_78 rfl ?_
  refine g_iload (pc := 79) F 5 dX3_perform_79 rfl ?_
  refine g_put (pc := 81) (k := 60) (ci := 3) (fs := (oX3 ad)) (C := RX3) (T := TX3) (N := 6) F (by decide) (fun _ => rfl) rfl kiX3_perform_X3 tyX3 tyX3_ok nmX3 5 (by decide) klX3_perform_15 rfl rfl rfl rfl (fun _ => rfl) (Nat.le_of_ble_eq_true rfl) dX3_perform_81 (fun M14 => ?_)
  refine g_aload_n (pc := 84) F 0 dX3_perform_84 rfl ?_
  refine g_get (pc := 85) (v := .int (M14 (60) 4)) (k := 60) (ci := 3) (fs := (oX3 ad)) (C := RX3) (T := TX3) (N := 6) F (by decide) (fun _ => rfl) rfl kiX3_perform_X3 4 (by decide) klX3_perform_34 rfl rfl dX3_perform_85 ?_
  exact g_iret (pc := 88) F hr hlk dX3_perform_88
-- X4_forget
def rmX4_forget : Room := { frames := 0, cells := 0, slots := 0, locals := 0 }
def f_X4_forget (pp : Nat) (M : Mem) : Option (Int32 × Mem) := wr M (13 * pp + 8) 8 1 (fun M1 => some (0, M1))
set_option maxRecDepth 20000 in
theorem kiX4_forget_X4 : ∀ w ∈ u_ws RX4 TX4 14, w ∈ wsX4_forget := by decide +kernel
set_option maxRecDepth 20000 in
theorem klX4_forget_34 : Cond.fieldLink RX4 34 "DoorLister$Paths" "stale" "Z" ∈ wsX4_forget := by decide +kernel
set_option maxHeartbeats 4000000 in
set_option maxRecDepth 100000 in
theorem c_X4_forget (l : Launch) (D : va_G) (ad : Nat → Nat) (cs : Cs) (hi : Inj ad) (pp : Nat) (hpp : pp < 4) (M : Mem) : MV l yX4_forget wsX4_forget rmX4_forget D ad cs [.ref (ad (13 * pp + 8))] M (f_X4_forget pp M) := by
  refine Mx.of (cc := cX4_forget) (maxL := 1) (ret := none) (own := RX4) (lv := [(0, .ref (ad (13 * pp + 8)))]) (by decide) rfl rfl (Nat.le_of_ble_eq_true rfl) rfl hi ?_
  intro p e s m below meth c F hr hlk
  unfold f_X4_forget
  refine g_aload_n (pc := 0) F 0 dX4_forget_0 rfl ?_
  refine g_iconst (pc := 1) (v := 1) F dX4_forget_1 (by decide) ?_
  refine g_put (pc := 2) (k := 13 * pp + 8) (ci := 4) (fs := (oX4 ad (pp))) (C := RX4) (T := TX4) (N := 14) F (P_lt hpp (by decide)) (sh_X4 hpp) rfl kiX4_forget_X4 tyX4 tyX4_ok nmX4 8 (by decide) klX4_forget_34 rfl rfl rfl rfl (fun _ => rfl) (Nat.le_of_ble_eq_true rfl) dX4_forget_2 (fun M1 => ?_)
  exact g_vret (pc := 5) F hr hlk dX4_forget_5
-- X4_calls
def rmX4_calls : Room := { frames := 0, cells := 0, slots := 0, locals := 0 }
def f_X4_calls (pp : Nat) (M : Mem) : Option (Int32 × Mem) := some (0, M)
set_option maxRecDepth 20000 in
theorem kiX4_calls_X4 : ∀ w ∈ u_ws RX4 TX4 14, w ∈ wsX4_calls := by decide +kernel
set_option maxRecDepth 20000 in
theorem klX4_calls_22 : Cond.fieldLink RX4 22 "DoorLister$Paths" "calls" "LDoorLister$CallTable;" ∈ wsX4_calls := by decide +kernel
set_option maxHeartbeats 4000000 in
set_option maxRecDepth 100000 in
theorem c_X4_calls (l : Launch) (D : va_G) (ad : Nat → Nat) (cs : Cs) (hi : Inj ad) (pp : Nat) (hpp : pp < 4) (M : Mem) : MR l yX4_calls wsX4_calls rmX4_calls D ad cs (13 * pp + 11) [.ref (ad (13 * pp + 8))] M (f_X4_calls pp M) := by
  refine Mx.of (cc := cX4_calls) (maxL := 1) (ret := (some (.object "DoorLister$CallTable"))) (own := RX4) (lv := [(0, .ref (ad (13 * pp + 8)))]) (by decide) rfl rfl (Nat.le_of_ble_eq_true rfl) rfl hi ?_
  intro p e s m below meth c F hr hlk
  unfold f_X4_calls
  refine g_aload_n (pc := 0) F 0 dX4_calls_0 rfl ?_
  refine g_get (pc := 1) (v := .ref (ad (13 * pp + 11))) (k := 13 * pp + 8) (ci := 4) (fs := (oX4 ad (pp))) (C := RX4) (T := TX4) (N := 14) F (P_lt hpp (by decide)) (sh_X4 hpp) rfl kiX4_calls_X4 4 (by decide) klX4_calls_22 rfl rfl dX4_calls_1 ?_
  exact g_aret (pc := 4) F hr hlk dX4_calls_4
-- X4_comesTo
def rmX4_comesTo : Room := { frames := 1, cells := 0, slots := 0, locals := 21 }
def f_X4_comesTo (pp : Nat) (a1 : Int32) (M : Mem) : Option (Int32 × Mem) := bnd (f_X8_holds (M (13 * pp + 8) 6) a1 M) (fun r1 M2 => if vp_nar .boolean r1 = r1 then some (r1, M2) else none)
set_option maxRecDepth 20000 in
theorem kiX4_comesTo_X4 : ∀ w ∈ u_ws RX4 TX4 14, w ∈ wsX4_comesTo := by decide +kernel
set_option maxRecDepth 20000 in
theorem klX4_comesTo_38 : Cond.fieldLink RX4 38 "DoorLister$Paths" "come" "I" ∈ wsX4_comesTo := by decide +kernel
set_option maxRecDepth 20000 in
theorem kwX4_comesTo_iX8_holds : Cond.initialized yX8_holds.cls ∈ wsX4_comesTo := by decide +kernel
set_option maxRecDepth 20000 in
theorem kwX4_comesTo_sX8_holds : Cond.static yX8_holds ∈ wsX4_comesTo := by decide +kernel
set_option maxHeartbeats 4000000 in
set_option maxRecDepth 100000 in
theorem c_X4_comesTo (l : Launch) (D : va_G) (ad : Nat → Nat) (cs : Cs) (hi : Inj ad) (pp : Nat) (a1 : Int32) (hpp : pp < 4) (M : Mem) : MI l yX4_comesTo wsX4_comesTo rmX4_comesTo D ad cs [.ref (ad (13 * pp + 8)), .int a1] M (f_X4_comesTo pp a1 M) := by
  refine Mx.of (cc := cX4_comesTo) (maxL := 2) (ret := (some .boolean)) (own := RX4) (lv := [(0, .ref (ad (13 * pp + 8))), (1, .int a1)]) (by decide) rfl rfl (Nat.le_of_ble_eq_true rfl) rfl hi ?_
  intro p e s m below meth c F hr hlk
  unfold f_X4_comesTo
  refine g_aload_n (pc := 0) F 0 dX4_comesTo_0 rfl ?_
  refine g_get (pc := 1) (v := .int (M (13 * pp + 8) 6)) (k := 13 * pp + 8) (ci := 4) (fs := (oX4 ad (pp))) (C := RX4) (T := TX4) (N := 14) F (P_lt hpp (by decide)) (sh_X4 hpp) rfl kiX4_comesTo_X4 6 (by decide) klX4_comesTo_38 rfl rfl dX4_comesTo_1 ?_
  refine g_iload_n (pc := 4) F 1 dX4_comesTo_4 rfl ?_
  refine g_ni (pc := 5) (As := [.int (M (13 * pp + 8) 6), .int a1]) (st := []) F (c_X8_holds l D ad cs F.2.2.1 (M (13 * pp + 8) 6) a1 M) ⟨va_cnB 2 F.1.2.2.2.2 gX4_comesTo_X8_holds_n42 rfl rfl rfl F.2.1.2.2.2 (F.1.2.2.2.2 _ kwX4_comesTo_iX8_holds) hdS_X8_holds ⟨by decide, by decide⟩, F.1.2.2.2.2 _ kwX4_comesTo_sX8_holds, trivial⟩ rfl rfl (Nat.le_of_ble_eq_true rfl) dX4_comesTo_5 ⟨Nat.zero_le _, Nat.zero_le _⟩ (fun r1 M2 => ?_)
  exact g_zretx (pc := 8) F hr hlk dX4_comesTo_8
-- X4_callNumber
def rmX4_callNumber : Room := { frames := 0, cells := 0, slots := 0, locals := 0 }
def f_X4_callNumber (a0 : Int32) (a1 : Int32) (a2 : Int32) (M : Mem) : Option (Int32 × Mem) := some ((((a0 * (32 : Int32)) + a1) * (32 : Int32)) + a2, M)
set_option maxHeartbeats 4000000 in
set_option maxRecDepth 100000 in
theorem c_X4_callNumber (l : Launch) (D : va_G) (ad : Nat → Nat) (cs : Cs) (hi : Inj ad) (a0 : Int32) (a1 : Int32) (a2 : Int32) (M : Mem) : MI l yX4_callNumber wsX4_callNumber rmX4_callNumber D ad cs [.int a0, .int a1, .int a2] M (f_X4_callNumber a0 a1 a2 M) := by
  refine Mx.of (cc := cX4_callNumber) (maxL := 3) (ret := (some .int)) (own := RX4) (lv := [(0, .int a0), (1, .int a1), (2, .int a2)]) (by decide) rfl rfl (Nat.le_of_ble_eq_true rfl) rfl hi ?_
  intro p e s m below meth c F hr hlk
  unfold f_X4_callNumber
  refine g_iload_n (pc := 0) F 0 dX4_callNumber_0 rfl ?_
  refine g_bipush (pc := 1) (v := 32) F dX4_callNumber_1 (by decide) ?_
  refine g_imul (pc := 3) F dX4_callNumber_3 ?_
  refine g_iload_n (pc := 4) F 1 dX4_callNumber_4 rfl ?_
  refine g_iadd (pc := 5) F dX4_callNumber_5 ?_
  refine g_bipush (pc := 6) (v := 32) F dX4_callNumber_6 (by decide) ?_
  refine g_imul (pc := 8) F dX4_callNumber_8 ?_
  refine g_iload_n (pc := 9) F 2 dX4_callNumber_9 rfl ?_
  refine g_iadd (pc := 10) F dX4_callNumber_10 ?_
  exact g_iret (pc := 11) F hr hlk dX4_callNumber_11
-- X4_parent
def rmX4_parent : Room := { frames := 0, cells := 0, slots := 0, locals := 0 }
def f_X4_parent (pp : Nat) (a1 : Int32) (M : Mem) : Option (Int32 × Mem) := if ix a1 49152 then some (usr (M (13 * pp + 9) a1.toNatClampNeg) (12 : Int32), M) else none
set_option maxRecDepth 20000 in
theorem kiX4_parent_X4 : ∀ w ∈ u_ws RX4 TX4 14, w ∈ wsX4_parent := by decide +kernel
set_option maxRecDepth 20000 in
theorem klX4_parent_12 : Cond.fieldLink RX4 12 "DoorLister$Paths" "links" "[I" ∈ wsX4_parent := by decide +kernel
set_option maxHeartbeats 4000000 in
set_option maxRecDepth 100000 in
theorem c_X4_parent (l : Launch) (D : va_G) (ad : Nat → Nat) (cs : Cs) (hi : Inj ad) (pp : Nat) (a1 : Int32) (hpp : pp < 4) (M : Mem) : MI l yX4_parent wsX4_parent rmX4_parent D ad cs [.ref (ad (13 * pp + 8)), .int a1] M (f_X4_parent pp a1 M) := by
  refine Mx.of (cc := cX4_parent) (maxL := 2) (ret := (some .int)) (own := RX4) (lv := [(0, .ref (ad (13 * pp + 8))), (1, .int a1)]) (by decide) rfl rfl (Nat.le_of_ble_eq_true rfl) rfl hi ?_
  intro p e s m below meth c F hr hlk
  unfold f_X4_parent
  refine g_aload_n (pc := 0) F 0 dX4_parent_0 rfl ?_
  refine g_get (pc := 1) (v := .ref (ad (13 * pp + 9))) (k := 13 * pp + 8) (ci := 4) (fs := (oX4 ad (pp))) (C := RX4) (T := TX4) (N := 14) F (P_lt hpp (by decide)) (sh_X4 hpp) rfl kiX4_parent_X4 2 (by decide) klX4_parent_12 rfl rfl dX4_parent_1 ?_
  refine g_iload_n (pc := 4) F 1 dX4_parent_4 rfl ?_
  refine g_iald (pc := 5) (k := 13 * pp + 9) (n := 49152) F (P_lt hpp (by decide)) (sh_a9 hpp) dX4_parent_5 ?_
  refine g_bipush (pc := 6) (v := 12) F dX4_parent_6 (by decide) ?_
  refine g_iushr (pc := 8) F dX4_parent_8 ?_
  exact g_iret (pc := 9) F hr hlk dX4_parent_9
-- X4_lengthTo
def rmX4_lengthTo : Room := { frames := 1, cells := 0, slots := 0, locals := 22 }
def f_X4_lengthTo_L34 (q0 : Nat) (k : Mem → Int32 → Int32 → Option (Int32 × Mem)) : Nat → Mem → Int32 → Int32 → Option (Int32 × Mem)
  | 0, _, _, _ => none
  | n + 1, M, x4, x5 => if x5 ≤ 0 then k M x4 x5 else if 49152 ≤ x4 then k M x4 x5 else bnd (f_X4_parent q0 x5 M) (fun r8 M9 => f_X4_lengthTo_L34 q0 k n M9 (x4 + 1) r8)
def f_X4_lengthTo (fu : Nat) (pp : Nat) (a1 : Int32) (a2 : Int32) (a3 : Int32) (M : Mem) : Option (Int32 × Mem) := bnd (f_X0_arguments (13 * pp + 11) a1 a2 M) (fun r1 M2 => bnd (f_X8_holds r1 a3 M2) (fun r3 M4 => if r3 = 0 then some ((-1), M4) else bnd (f_X4_callNumber a1 a2 a3 M4) (fun r5 M6 => if ix r5 2048 then nm (M6 (13 * pp + 10) r5.toNatClampNeg) (fun v7 => f_X4_lengthTo_L34 pp (fun M10 y11 y12 => some (y11, M10)) fu M6 1 v7) else none)))
set_option maxRecDepth 20000 in
theorem kiX4_lengthTo_X4 : ∀ w ∈ u_ws RX4 TX4 14, w ∈ wsX4_lengthTo := by decide +kernel
set_option maxRecDepth 20000 in
theorem klX4_lengthTo_22 : Cond.fieldLink RX4 22 "DoorLister$Paths" "calls" "LDoorLister$CallTable;" ∈ wsX4_lengthTo := by decide +kernel
set_option maxRecDepth 20000 in
theorem kwX4_lengthTo_iX8_holds : Cond.initialized yX8_holds.cls ∈ wsX4_lengthTo := by decide +kernel
set_option maxRecDepth 20000 in
theorem kwX4_lengthTo_sX8_holds : Cond.static yX8_holds ∈ wsX4_lengthTo := by decide +kernel
set_option maxRecDepth 20000 in
theorem klX4_lengthTo_16 : Cond.fieldLink RX4 16 "DoorLister$Paths" "firstItems" "[I" ∈ wsX4_lengthTo := by decide +kernel
set_option maxRecDepth 20000 in
theorem kwX4_lengthTo_c11 : Cond.constant RX4 11 49152 ∈ wsX4_lengthTo := by decide +kernel
set_option maxHeartbeats 4000000 in
set_option maxRecDepth 100000 in
theorem w_X4_lengthTo_L34 {p : Program} {l : Launch} {e : Env} {s : State} {m : MethodId} {args : Array Value} {below : List Frame} {meth : Method} {c : Code} {D : va_G} {ad : Nat → Nat} {cs : Cs}  (q0 : Nat) (hq0 : q0 < 4) (F : Fx p m c cX4_lengthTo 6 s args wsX4_lengthTo RX4 D ad cs (Ad ad)) (hr : meth.sig.returnType = (some .int)) (hlk : meth.locks = false) (k : Mem → Int32 → Int32 → Option (Int32 × Mem)) (hkx : ∀ (M : Mem) (x4 x5 : Int32), GoX p l e rmX4_lengthTo s m args below meth c 0 0 6 (fun rM => MQ below (cQi D ad cs rM) args s 0 0 (Ad ad)) D ad cs (Ad ad) M 60 [(0, .ref (ad (13 * q0 + 8))), (4, .int x4), (5, .int x5)] [] (k M x4 x5)) : ∀ (n : Nat) (M : Mem) (x4 x5 : Int32), GoX p l e rmX4_lengthTo s m args below meth c 0 0 6 (fun rM => MQ below (cQi D ad cs rM) args s 0 0 (Ad ad)) D ad cs (Ad ad) M 34 [(0, .ref (ad (13 * q0 + 8))), (4, .int x4), (5, .int x5)] [] (f_X4_lengthTo_L34 q0 k n M x4 x5) := by
  intro n
  induction n with
  | zero => intro M x4 x5; exact g_none
  | succ n ih =>
    intro M x4 x5
    unfold f_X4_lengthTo_L34
    refine g_iload (pc := 34) F 2 dX4_lengthTo_34 rfl ?_
    refine g_if_le (pc := 36) F 60 dX4_lengthTo_36 (by decide) ?_ ?_
    · exact hkx _ _ _
    · refine g_iload (pc := 39) F 1 dX4_lengthTo_39 rfl ?_
      refine g_ldc (pc := 41) (v := 49152) F kwX4_lengthTo_c11 dX4_lengthTo_41 ?_
      refine g_icmp_ge (pc := 43) F 60 dX4_lengthTo_43 (by decide) ?_ ?_
      · exact hkx _ _ _
      · refine g_aload_n (pc := 46) F 0 dX4_lengthTo_46 rfl ?_
        refine g_iload (pc := 47) F 2 dX4_lengthTo_47 rfl ?_
        refine g_vi (pc := 49) (k := 13 * q0 + 8) (ci := 4) (fs := (oX4 ad (q0))) (C := RX4) (T := TX4) (N := 14) (As := [.int x5]) (st := []) F (c_X4_parent l D ad cs F.2.2.1 q0 x5 hq0 M) (P_lt hq0 (by decide)) (sh_X4 hq0) rfl (cwV 1 F.1.2.2.2.2 gX4_lengthTo_X4_parent rfl rfl rfl hdV_X4_parent ⟨by decide, by decide⟩) rfl rfl (Nat.le_of_ble_eq_true rfl) dX4_lengthTo_49 ⟨Nat.zero_le _, Nat.zero_le _⟩ (fun r8 M9 => ?_)
        refine g_istore (pc := 52) F [(0, .ref (ad (13 * q0 + 8))), (4, .int x4), (5, .int r8)] dX4_lengthTo_52 (by decide) rfl rfl rfl ?_
        refine g_iinc (pc := 54) (v := x4 + 1) F [(0, .ref (ad (13 * q0 + 8))), (4, .int (x4 + 1)), (5, .int r8)] 1 dX4_lengthTo_54 rfl rfl (by decide) rfl rfl rfl ?_
        refine g_goto (pc := 57) F 34 dX4_lengthTo_57 (by decide) ?_
        exact ih _ _ _
set_option maxHeartbeats 4000000 in
set_option maxRecDepth 100000 in
theorem c_X4_lengthTo (l : Launch) (D : va_G) (ad : Nat → Nat) (cs : Cs) (hi : Inj ad) (fu : Nat) (pp : Nat) (a1 : Int32) (a2 : Int32) (a3 : Int32) (hpp : pp < 4) (M : Mem) : MI l yX4_lengthTo wsX4_lengthTo rmX4_lengthTo D ad cs [.ref (ad (13 * pp + 8)), .int a1, .int a2, .int a3] M (f_X4_lengthTo fu pp a1 a2 a3 M) := by
  refine Mx.of (cc := cX4_lengthTo) (maxL := 6) (ret := (some .int)) (own := RX4) (lv := [(0, .ref (ad (13 * pp + 8))), (1, .int a1), (2, .int a2), (3, .int a3)]) (by decide) rfl rfl (Nat.le_of_ble_eq_true rfl) rfl hi ?_
  intro p e s m below meth c F hr hlk
  unfold f_X4_lengthTo
  refine g_aload_n (pc := 0) F 0 dX4_lengthTo_0 rfl ?_
  refine g_get (pc := 1) (v := .ref (ad (13 * pp + 11))) (k := 13 * pp + 8) (ci := 4) (fs := (oX4 ad (pp))) (C := RX4) (T := TX4) (N := 14) F (P_lt hpp (by decide)) (sh_X4 hpp) rfl kiX4_lengthTo_X4 4 (by decide) klX4_lengthTo_22 rfl rfl dX4_lengthTo_1 ?_
  refine g_iload_n (pc := 4) F 1 dX4_lengthTo_4 rfl ?_
  refine g_iload_n (pc := 5) F 2 dX4_lengthTo_5 rfl ?_
  refine g_vi (pc := 6) (k := 13 * pp + 11) (ci := 0) (fs := (oX0 ad (13 * pp + 11))) (C := RX0) (T := TX0) (N := 1) (As := [.int a1, .int a2]) (st := []) F (c_X0_arguments l D ad cs F.2.2.1 (13 * pp + 11) a1 a2 (tab_c hpp) M) (tab_lt (tab_c hpp)) (sh_X0 (tab_c hpp)) rfl (cwV 2 F.1.2.2.2.2 gX4_lengthTo_X0_arguments rfl rfl rfl hdV_X0_arguments ⟨by decide, by decide⟩) rfl rfl (Nat.le_of_ble_eq_true rfl) dX4_lengthTo_6 ⟨Nat.zero_le _, Nat.zero_le _⟩ (fun r1 M2 => ?_)
  refine g_iload_n (pc := 9) F 3 dX4_lengthTo_9 rfl ?_
  refine g_ni (pc := 10) (As := [.int r1, .int a3]) (st := []) F (c_X8_holds l D ad cs F.2.2.1 r1 a3 M2) ⟨va_cnB 2 F.1.2.2.2.2 gX4_lengthTo_X8_holds_n42 rfl rfl rfl F.2.1.2.2.2 (F.1.2.2.2.2 _ kwX4_lengthTo_iX8_holds) hdS_X8_holds ⟨by decide, by decide⟩, F.1.2.2.2.2 _ kwX4_lengthTo_sX8_holds, trivial⟩ rfl rfl (Nat.le_of_ble_eq_true rfl) dX4_lengthTo_10 ⟨Nat.zero_le _, Nat.zero_le _⟩ (fun r3 M4 => ?_)
  refine g_if_ne (pc := 13) F 18 dX4_lengthTo_13 (by decide) ?_ ?_
  · refine g_iconst (pc := 18) (v := 1) F dX4_lengthTo_18 (by decide) ?_
    refine g_istore (pc := 19) F [(0, .ref (ad (13 * pp + 8))), (1, .int a1), (2, .int a2), (3, .int a3), (4, .int 1)] dX4_lengthTo_19 (by decide) rfl rfl rfl ?_
    refine g_aload_n (pc := 21) F 0 dX4_lengthTo_21 rfl ?_
    refine g_get (pc := 22) (v := .ref (ad (13 * pp + 10))) (k := 13 * pp + 8) (ci := 4) (fs := (oX4 ad (pp))) (C := RX4) (T := TX4) (N := 14) F (P_lt hpp (by decide)) (sh_X4 hpp) rfl kiX4_lengthTo_X4 3 (by decide) klX4_lengthTo_16 rfl rfl dX4_lengthTo_22 ?_
    refine g_iload_n (pc := 25) F 1 dX4_lengthTo_25 rfl ?_
    refine g_iload_n (pc := 26) F 2 dX4_lengthTo_26 rfl ?_
    refine g_iload_n (pc := 27) F 3 dX4_lengthTo_27 rfl ?_
    refine g_si (pc := 28) (As := [.int a1, .int a2, .int a3]) (st := [.ref (ad (13 * pp + 10))]) F (c_X4_callNumber l D ad cs F.2.2.1 a1 a2 a3 M4) (va_cwS 3 F.1.2.2.2.2 gX4_lengthTo_X4_callNumber rfl rfl rfl hdS_X4_callNumber ⟨by decide, by decide⟩) rfl rfl (Nat.le_of_ble_eq_true rfl) dX4_lengthTo_28 ⟨Nat.zero_le _, Nat.zero_le _⟩ (fun r5 M6 => ?_)
    refine g_iald (pc := 31) (k := 13 * pp + 10) (n := 2048) F (P_lt hpp (by decide)) (sh_a10 hpp) dX4_lengthTo_31 ?_
    refine g_nm (fun v7 => ?_)
    refine g_istore (pc := 32) F [(0, .ref (ad (13 * pp + 8))), (1, .int a1), (2, .int a2), (3, .int a3), (4, .int 1), (5, .int v7)] dX4_lengthTo_32 (by decide) rfl rfl rfl ?_
    refine g_sub [0, 4, 5] [(0, .ref (ad (13 * pp + 8))), (4, .int 1), (5, .int v7)] rfl ?_
    refine w_X4_lengthTo_L34 pp hpp F hr hlk _ (fun M10 y11 y12 => ?_) _ _ _ _
    refine g_iload (pc := 60) F 1 dX4_lengthTo_60 rfl ?_
    exact g_iret (pc := 62) F hr hlk dX4_lengthTo_62
  · refine g_iconst (pc := 16) (v := (-1)) F dX4_lengthTo_16 (by decide) ?_
    exact g_iret (pc := 17) F hr hlk dX4_lengthTo_17
-- X4_instructionTo
def rmX4_instructionTo : Room := { frames := 2, cells := 0, slots := 0, locals := 47 }
def f_X4_instructionTo_L42 (q0 : Nat) (x4 : Int32) (k : Mem → Int32 → Int32 → Option (Int32 × Mem)) : Nat → Mem → Int32 → Int32 → Option (Int32 × Mem)
  | 0, _, _, _ => none
  | n + 1, M, x6, x7 => if x7 ≤ x4 then k M x6 x7 else bnd (f_X4_parent q0 x6 M) (fun r7 M8 => f_X4_instructionTo_L42 q0 x4 k n M8 r7 (x7 + (-1)))
def f_X4_instructionTo (fu : Nat) (pp : Nat) (a1 : Int32) (a2 : Int32) (a3 : Int32) (a4 : Int32) (M : Mem) : Option (Int32 × Mem) := bnd (f_X4_lengthTo fu pp a1 a2 a3 M) (fun r1 M2 => if a4 < 0 then some ((-1), M2) else if a4 < r1 then bnd (f_X4_callNumber a1 a2 a3 M2) (fun r3 M4 => if ix r3 2048 then nm (M4 (13 * pp + 10) r3.toNatClampNeg) (fun v5 => nm (r1 - (1 : Int32)) (fun v6 => f_X4_instructionTo_L42 pp a4 (fun M9 y10 y11 => if ix y10 49152 then some ((usr (M9 (13 * pp + 9) y10.toNatClampNeg) (5 : Int32)) &&& (31 : Int32), M9) else none) fu M4 v5 v6)) else none) else some ((-1), M2))
set_option maxRecDepth 20000 in
theorem kiX4_instructionTo_X4 : ∀ w ∈ u_ws RX4 TX4 14, w ∈ wsX4_instructionTo := by decide +kernel
set_option maxRecDepth 20000 in
theorem klX4_instructionTo_16 : Cond.fieldLink RX4 16 "DoorLister$Paths" "firstItems" "[I" ∈ wsX4_instructionTo := by decide +kernel
set_option maxRecDepth 20000 in
theorem klX4_instructionTo_12 : Cond.fieldLink RX4 12 "DoorLister$Paths" "links" "[I" ∈ wsX4_instructionTo := by decide +kernel
set_option maxHeartbeats 4000000 in
set_option maxRecDepth 100000 in
theorem w_X4_instructionTo_L42 {p : Program} {l : Launch} {e : Env} {s : State} {m : MethodId} {args : Array Value} {below : List Frame} {meth : Method} {c : Code} {D : va_G} {ad : Nat → Nat} {cs : Cs}  (q0 : Nat) (x4 : Int32) (hq0 : q0 < 4) (F : Fx p m c cX4_instructionTo 8 s args wsX4_instructionTo RX4 D ad cs (Ad ad)) (hr : meth.sig.returnType = (some .int)) (hlk : meth.locks = false) (k : Mem → Int32 → Int32 → Option (Int32 × Mem)) (hkx : ∀ (M : Mem) (x6 x7 : Int32), GoX p l e rmX4_instructionTo s m args below meth c 0 0 8 (fun rM => MQ below (cQi D ad cs rM) args s 0 0 (Ad ad)) D ad cs (Ad ad) M 63 [(0, .ref (ad (13 * q0 + 8))), (4, .int x4), (6, .int x6), (7, .int x7)] [] (k M x6 x7)) : ∀ (n : Nat) (M : Mem) (x6 x7 : Int32), GoX p l e rmX4_instructionTo s m args below meth c 0 0 8 (fun rM => MQ below (cQi D ad cs rM) args s 0 0 (Ad ad)) D ad cs (Ad ad) M 42 [(0, .ref (ad (13 * q0 + 8))), (4, .int x4), (6, .int x6), (7, .int x7)] [] (f_X4_instructionTo_L42 q0 x4 k n M x6 x7) := by
  intro n
  induction n with
  | zero => intro M x6 x7; exact g_none
  | succ n ih =>
    intro M x6 x7
    unfold f_X4_instructionTo_L42
    refine g_iload (pc := 42) F 3 dX4_instructionTo_42 rfl ?_
    refine g_iload (pc := 44) F 1 dX4_instructionTo_44 rfl ?_
    refine g_icmp_le (pc := 46) F 63 dX4_instructionTo_46 (by decide) ?_ ?_
    · exact hkx _ _ _
    · refine g_aload_n (pc := 49) F 0 dX4_instructionTo_49 rfl ?_
      refine g_iload (pc := 50) F 2 dX4_instructionTo_50 rfl ?_
      refine g_vi (pc := 52) (k := 13 * q0 + 8) (ci := 4) (fs := (oX4 ad (q0))) (C := RX4) (T := TX4) (N := 14) (As := [.int x6]) (st := []) F (c_X4_parent l D ad cs F.2.2.1 q0 x6 hq0 M) (P_lt hq0 (by decide)) (sh_X4 hq0) rfl (cwV 1 F.1.2.2.2.2 gX4_instructionTo_X4_parent rfl rfl rfl hdV_X4_parent ⟨by decide, by decide⟩) rfl rfl (Nat.le_of_ble_eq_true rfl) dX4_instructionTo_52 ⟨Nat.zero_le _, Nat.zero_le _⟩ (fun r7 M8 => ?_)
      refine g_istore (pc := 55) F [(0, .ref (ad (13 * q0 + 8))), (4, .int x4), (6, .int r7), (7, .int x7)] dX4_instructionTo_55 (by decide) rfl rfl rfl ?_
      refine g_iinc (pc := 57) (v := x7 + (-1)) F [(0, .ref (ad (13 * q0 + 8))), (4, .int x4), (6, .int r7), (7, .int (x7 + (-1)))] 3 dX4_instructionTo_57 rfl rfl (by decide) rfl rfl rfl ?_
      refine g_goto (pc := 60) F 42 dX4_instructionTo_60 (by decide) ?_
      exact ih _ _ _
set_option maxHeartbeats 4000000 in
set_option maxRecDepth 100000 in
theorem c_X4_instructionTo (l : Launch) (D : va_G) (ad : Nat → Nat) (cs : Cs) (hi : Inj ad) (fu : Nat) (pp : Nat) (a1 : Int32) (a2 : Int32) (a3 : Int32) (a4 : Int32) (hpp : pp < 4) (M : Mem) : MI l yX4_instructionTo wsX4_instructionTo rmX4_instructionTo D ad cs [.ref (ad (13 * pp + 8)), .int a1, .int a2, .int a3, .int a4] M (f_X4_instructionTo fu pp a1 a2 a3 a4 M) := by
  refine Mx.of (cc := cX4_instructionTo) (maxL := 8) (ret := (some .int)) (own := RX4) (lv := [(0, .ref (ad (13 * pp + 8))), (1, .int a1), (2, .int a2), (3, .int a3), (4, .int a4)]) (by decide) rfl rfl (Nat.le_of_ble_eq_true rfl) rfl hi ?_
  intro p e s m below meth c F hr hlk
  unfold f_X4_instructionTo
  refine g_aload_n (pc := 0) F 0 dX4_instructionTo_0 rfl ?_
  refine g_iload_n (pc := 1) F 1 dX4_instructionTo_1 rfl ?_
  refine g_iload_n (pc := 2) F 2 dX4_instructionTo_2 rfl ?_
  refine g_iload_n (pc := 3) F 3 dX4_instructionTo_3 rfl ?_
  refine g_vi (pc := 4) (k := 13 * pp + 8) (ci := 4) (fs := (oX4 ad (pp))) (C := RX4) (T := TX4) (N := 14) (As := [.int a1, .int a2, .int a3]) (st := []) F (c_X4_lengthTo l D ad cs F.2.2.1 fu pp a1 a2 a3 hpp M) (P_lt hpp (by decide)) (sh_X4 hpp) rfl (cwV 3 F.1.2.2.2.2 gX4_instructionTo_X4_lengthTo rfl rfl rfl hdV_X4_lengthTo ⟨by decide, by decide⟩) rfl rfl (Nat.le_of_ble_eq_true rfl) dX4_instructionTo_4 ⟨Nat.zero_le _, Nat.zero_le _⟩ (fun r1 M2 => ?_)
  refine g_istore (pc := 7) F [(0, .ref (ad (13 * pp + 8))), (1, .int a1), (2, .int a2), (3, .int a3), (4, .int a4), (5, .int r1)] dX4_instructionTo_7 (by decide) rfl rfl rfl ?_
  refine g_iload (pc := 9) F 4 dX4_instructionTo_9 rfl ?_
  refine g_if_lt (pc := 11) F 21 dX4_instructionTo_11 (by decide) ?_ ?_
  · refine g_iconst (pc := 21) (v := (-1)) F dX4_instructionTo_21 (by decide) ?_
    exact g_iret (pc := 22) F hr hlk dX4_instructionTo_22
  · refine g_iload (pc := 14) F 4 dX4_instructionTo_14 rfl ?_
    refine g_iload (pc := 16) F 5 dX4_instructionTo_16 rfl ?_
    refine g_icmp_lt (pc := 18) F 23 dX4_instructionTo_18 (by decide) ?_ ?_
    · refine g_aload_n (pc := 23) F 0 dX4_instructionTo_23 rfl ?_
      refine g_get (pc := 24) (v := .ref (ad (13 * pp + 10))) (k := 13 * pp + 8) (ci := 4) (fs := (oX4 ad (pp))) (C := RX4) (T := TX4) (N := 14) F (P_lt hpp (by decide)) (sh_X4 hpp) rfl kiX4_instructionTo_X4 3 (by decide) klX4_instructionTo_16 rfl rfl dX4_instructionTo_24 ?_
      refine g_iload_n (pc := 27) F 1 dX4_instructionTo_27 rfl ?_
      refine g_iload_n (pc := 28) F 2 dX4_instructionTo_28 rfl ?_
      refine g_iload_n (pc := 29) F 3 dX4_instructionTo_29 rfl ?_
      refine g_si (pc := 30) (As := [.int a1, .int a2, .int a3]) (st := [.ref (ad (13 * pp + 10))]) F (c_X4_callNumber l D ad cs F.2.2.1 a1 a2 a3 M2) (va_cwS 3 F.1.2.2.2.2 gX4_instructionTo_X4_callNumber rfl rfl rfl hdS_X4_callNumber ⟨by decide, by decide⟩) rfl rfl (Nat.le_of_ble_eq_true rfl) dX4_instructionTo_30 ⟨Nat.zero_le _, Nat.zero_le _⟩ (fun r3 M4 => ?_)
      refine g_iald (pc := 33) (k := 13 * pp + 10) (n := 2048) F (P_lt hpp (by decide)) (sh_a10 hpp) dX4_instructionTo_33 ?_
      refine g_nm (fun v5 => ?_)
      refine g_istore (pc := 34) F [(0, .ref (ad (13 * pp + 8))), (1, .int a1), (2, .int a2), (3, .int a3), (4, .int a4), (5, .int r1), (6, .int v5)] dX4_instructionTo_34 (by decide) rfl rfl rfl ?_
      refine g_iload (pc := 36) F 5 dX4_instructionTo_36 rfl ?_
      refine g_iconst (pc := 38) (v := 1) F dX4_instructionTo_38 (by decide) ?_
      refine g_isub (pc := 39) F dX4_instructionTo_39 ?_
      refine g_nm (fun v6 => ?_)
      refine g_istore (pc := 40) F [(0, .ref (ad (13 * pp + 8))), (1, .int a1), (2, .int a2), (3, .int a3), (4, .int a4), (5, .int r1), (6, .int v5), (7, .int v6)] dX4_instructionTo_40 (by decide) rfl rfl rfl ?_
      refine g_sub [0, 4, 6, 7] [(0, .ref (ad (13 * pp + 8))), (4, .int a4), (6, .int v5), (7, .int v6)] rfl ?_
      refine w_X4_instructionTo_L42 pp a4 hpp F hr hlk _ (fun M9 y10 y11 => ?_) _ _ _ _
      refine g_aload_n (pc := 63) F 0 dX4_instructionTo_63 rfl ?_
      refine g_get (pc := 64) (v := .ref (ad (13 * pp + 9))) (k := 13 * pp + 8) (ci := 4) (fs := (oX4 ad (pp))) (C := RX4) (T := TX4) (N := 14) F (P_lt hpp (by decide)) (sh_X4 hpp) rfl kiX4_instructionTo_X4 2 (by decide) klX4_instructionTo_12 rfl rfl dX4_instructionTo_64 ?_
      refine g_iload (pc := 67) F 2 dX4_instructionTo_67 rfl ?_
      refine g_iald (pc := 69) (k := 13 * pp + 9) (n := 49152) F (P_lt hpp (by decide)) (sh_a9 hpp) dX4_instructionTo_69 ?_
      refine g_iconst (pc := 70) (v := 5) F dX4_instructionTo_70 (by decide) ?_
      refine g_iushr (pc := 71) F dX4_instructionTo_71 ?_
      refine g_bipush (pc := 72) (v := 31) F dX4_instructionTo_72 (by decide) ?_
      refine g_iand (pc := 74) F dX4_instructionTo_74 ?_
      exact g_iret (pc := 75) F hr hlk dX4_instructionTo_75
    · refine g_iconst (pc := 21) (v := (-1)) F dX4_instructionTo_21 (by decide) ?_
      exact g_iret (pc := 22) F hr hlk dX4_instructionTo_22
-- X4_groupEnd
def rmX4_groupEnd : Room := { frames := 1, cells := 0, slots := 0, locals := 21 }
def f_X4_groupEnd_L4 (q0 : Nat) (k : Mem → Int32 → Option (Int32 × Mem)) : Nat → Mem → Int32 → Option (Int32 × Mem)
  | 0, _, _ => none
  | n + 1, M, x2 => if (M (13 * q0 + 8) 5) ≤ x2 then k M x2 else if ix x2 49152 then bnd (f_X8_holds (M (13 * q0 + 9) x2.toNatClampNeg) 11 M) (fun r2 M3 => if r2 = 0 then f_X4_groupEnd_L4 q0 k n M3 (x2 + 1) else k M3 x2) else none
def f_X4_groupEnd (fu : Nat) (pp : Nat) (a1 : Int32) (M : Mem) : Option (Int32 × Mem) := nm (a1 + (1 : Int32)) (fun v1 => f_X4_groupEnd_L4 pp (fun M4 y5 => some (y5, M4)) fu M v1)
set_option maxRecDepth 20000 in
theorem kiX4_groupEnd_X4 : ∀ w ∈ u_ws RX4 TX4 14, w ∈ wsX4_groupEnd := by decide +kernel
set_option maxRecDepth 20000 in
theorem klX4_groupEnd_67 : Cond.fieldLink RX4 67 "DoorLister$Paths" "size" "I" ∈ wsX4_groupEnd := by decide +kernel
set_option maxRecDepth 20000 in
theorem klX4_groupEnd_12 : Cond.fieldLink RX4 12 "DoorLister$Paths" "links" "[I" ∈ wsX4_groupEnd := by decide +kernel
set_option maxRecDepth 20000 in
theorem kwX4_groupEnd_iX8_holds : Cond.initialized yX8_holds.cls ∈ wsX4_groupEnd := by decide +kernel
set_option maxRecDepth 20000 in
theorem kwX4_groupEnd_sX8_holds : Cond.static yX8_holds ∈ wsX4_groupEnd := by decide +kernel
set_option maxHeartbeats 4000000 in
set_option maxRecDepth 100000 in
theorem w_X4_groupEnd_L4 {p : Program} {l : Launch} {e : Env} {s : State} {m : MethodId} {args : Array Value} {below : List Frame} {meth : Method} {c : Code} {D : va_G} {ad : Nat → Nat} {cs : Cs}  (q0 : Nat) (hq0 : q0 < 4) (F : Fx p m c cX4_groupEnd 3 s args wsX4_groupEnd RX4 D ad cs (Ad ad)) (hr : meth.sig.returnType = (some .int)) (hlk : meth.locks = false) (k : Mem → Int32 → Option (Int32 × Mem)) (hkx : ∀ (M : Mem) (x2 : Int32), GoX p l e rmX4_groupEnd s m args below meth c 0 0 3 (fun rM => MQ below (cQi D ad cs rM) args s 0 0 (Ad ad)) D ad cs (Ad ad) M 32 [(0, .ref (ad (13 * q0 + 8))), (2, .int x2)] [] (k M x2)) : ∀ (n : Nat) (M : Mem) (x2 : Int32), GoX p l e rmX4_groupEnd s m args below meth c 0 0 3 (fun rM => MQ below (cQi D ad cs rM) args s 0 0 (Ad ad)) D ad cs (Ad ad) M 4 [(0, .ref (ad (13 * q0 + 8))), (2, .int x2)] [] (f_X4_groupEnd_L4 q0 k n M x2) := by
  intro n
  induction n with
  | zero => intro M x2; exact g_none
  | succ n ih =>
    intro M x2
    unfold f_X4_groupEnd_L4
    refine g_iload_n (pc := 4) F 1 dX4_groupEnd_4 rfl ?_
    refine g_aload_n (pc := 5) F 0 dX4_groupEnd_5 rfl ?_
    refine g_get (pc := 6) (v := .int (M (13 * q0 + 8) 5)) (k := 13 * q0 + 8) (ci := 4) (fs := (oX4 ad (q0))) (C := RX4) (T := TX4) (N := 14) F (P_lt hq0 (by decide)) (sh_X4 hq0) rfl kiX4_groupEnd_X4 5 (by decide) klX4_groupEnd_67 rfl rfl dX4_groupEnd_6 ?_
    refine g_icmp_ge (pc := 9) F 32 dX4_groupEnd_9 (by decide) ?_ ?_
    · exact hkx _ _
    · refine g_aload_n (pc := 12) F 0 dX4_groupEnd_12 rfl ?_
      refine g_get (pc := 13) (v := .ref (ad (13 * q0 + 9))) (k := 13 * q0 + 8) (ci := 4) (fs := (oX4 ad (q0))) (C := RX4) (T := TX4) (N := 14) F (P_lt hq0 (by decide)) (sh_X4 hq0) rfl kiX4_groupEnd_X4 2 (by decide) klX4_groupEnd_12 rfl rfl dX4_groupEnd_13 ?_
      refine g_iload_n (pc := 16) F 1 dX4_groupEnd_16 rfl ?_
      refine g_iald (pc := 17) (k := 13 * q0 + 9) (n := 49152) F (P_lt hq0 (by decide)) (sh_a9 hq0) dX4_groupEnd_17 ?_
      refine g_bipush (pc := 18) (v := 11) F dX4_groupEnd_18 (by decide) ?_
      refine g_ni (pc := 20) (As := [.int (M (13 * q0 + 9) x2.toNatClampNeg), .int 11]) (st := []) F (c_X8_holds l D ad cs F.2.2.1 (M (13 * q0 + 9) x2.toNatClampNeg) 11 M) ⟨va_cnB 2 F.1.2.2.2.2 gX4_groupEnd_X8_holds_n42 rfl rfl rfl F.2.1.2.2.2 (F.1.2.2.2.2 _ kwX4_groupEnd_iX8_holds) hdS_X8_holds ⟨by decide, by decide⟩, F.1.2.2.2.2 _ kwX4_groupEnd_sX8_holds, trivial⟩ rfl rfl (Nat.le_of_ble_eq_true rfl) dX4_groupEnd_20 ⟨Nat.zero_le _, Nat.zero_le _⟩ (fun r2 M3 => ?_)
      refine g_if_ne (pc := 23) F 32 dX4_groupEnd_23 (by decide) ?_ ?_
      · exact hkx _ _
      · refine g_iinc (pc := 26) (v := x2 + 1) F [(0, .ref (ad (13 * q0 + 8))), (2, .int (x2 + 1))] 1 dX4_groupEnd_26 rfl rfl (by decide) rfl rfl rfl ?_
        refine g_goto (pc := 29) F 4 dX4_groupEnd_29 (by decide) ?_
        exact ih _ _
set_option maxHeartbeats 4000000 in
set_option maxRecDepth 100000 in
theorem c_X4_groupEnd (l : Launch) (D : va_G) (ad : Nat → Nat) (cs : Cs) (hi : Inj ad) (fu : Nat) (pp : Nat) (a1 : Int32) (hpp : pp < 4) (M : Mem) : MI l yX4_groupEnd wsX4_groupEnd rmX4_groupEnd D ad cs [.ref (ad (13 * pp + 8)), .int a1] M (f_X4_groupEnd fu pp a1 M) := by
  refine Mx.of (cc := cX4_groupEnd) (maxL := 3) (ret := (some .int)) (own := RX4) (lv := [(0, .ref (ad (13 * pp + 8))), (1, .int a1)]) (by decide) rfl rfl (Nat.le_of_ble_eq_true rfl) rfl hi ?_
  intro p e s m below meth c F hr hlk
  unfold f_X4_groupEnd
  refine g_iload_n (pc := 0) F 1 dX4_groupEnd_0 rfl ?_
  refine g_iconst (pc := 1) (v := 1) F dX4_groupEnd_1 (by decide) ?_
  refine g_iadd (pc := 2) F dX4_groupEnd_2 ?_
  refine g_nm (fun v1 => ?_)
  refine g_istore_n (pc := 3) F [(0, .ref (ad (13 * pp + 8))), (1, .int a1), (2, .int v1)] dX4_groupEnd_3 (by decide) rfl rfl rfl ?_
  refine g_sub [0, 2] [(0, .ref (ad (13 * pp + 8))), (2, .int v1)] rfl ?_
  refine w_X4_groupEnd_L4 pp hpp F hr hlk _ (fun M4 y5 => ?_) _ _ _
  refine g_iload_n (pc := 32) F 1 dX4_groupEnd_32 rfl ?_
  exact g_iret (pc := 33) F hr hlk dX4_groupEnd_33
-- X4_fetch
def rmX4_fetch : Room := { frames := 1, cells := 0, slots := 0, locals := 21 }
def f_X4_fetch (pp : Nat) (a1 : Int32) (M : Mem) : Option (Int32 × Mem) := wr M (13 * pp + 8) 9 a1 (fun M1 => bnd (f_X1_kind pp (M1 (13 * pp + 8) 9) M1) (fun r2 M3 => wr M3 (13 * pp + 8) 10 r2 (fun M4 => bnd (f_X1_x pp (M4 (13 * pp + 8) 9) M4) (fun r5 M6 => wr M6 (13 * pp + 8) 11 r5 (fun M7 => bnd (f_X1_n pp (M7 (13 * pp + 8) 9) M7) (fun r8 M9 => wr M9 (13 * pp + 8) 12 r8 (fun M10 => bnd (f_X1_to pp (M10 (13 * pp + 8) 9) M10) (fun r11 M12 => wr M12 (13 * pp + 8) 13 r11 (fun M13 => some (0, M13))))))))))
set_option maxRecDepth 20000 in
theorem kiX4_fetch_X4 : ∀ w ∈ u_ws RX4 TX4 14, w ∈ wsX4_fetch := by decide +kernel
set_option maxRecDepth 20000 in
theorem klX4_fetch_94 : Cond.fieldLink RX4 94 "DoorLister$Paths" "at" "I" ∈ wsX4_fetch := by decide +kernel
set_option maxRecDepth 20000 in
theorem klX4_fetch_26 : Cond.fieldLink RX4 26 "DoorLister$Paths" "code" "LDoorLister$Code;" ∈ wsX4_fetch := by decide +kernel
set_option maxRecDepth 20000 in
theorem klX4_fetch_88 : Cond.fieldLink RX4 88 "DoorLister$Paths" "kind" "I" ∈ wsX4_fetch := by decide +kernel
set_option maxRecDepth 20000 in
theorem klX4_fetch_115 : Cond.fieldLink RX4 115 "DoorLister$Paths" "x" "I" ∈ wsX4_fetch := by decide +kernel
set_option maxRecDepth 20000 in
theorem klX4_fetch_120 : Cond.fieldLink RX4 120 "DoorLister$Paths" "n" "I" ∈ wsX4_fetch := by decide +kernel
set_option maxRecDepth 20000 in
theorem klX4_fetch_91 : Cond.fieldLink RX4 91 "DoorLister$Paths" "to" "I" ∈ wsX4_fetch := by decide +kernel
set_option maxHeartbeats 4000000 in
set_option maxRecDepth 100000 in
theorem c_X4_fetch (l : Launch) (D : va_G) (ad : Nat → Nat) (cs : Cs) (hi : Inj ad) (pp : Nat) (a1 : Int32) (hpp : pp < 4) (M : Mem) : MV l yX4_fetch wsX4_fetch rmX4_fetch D ad cs [.ref (ad (13 * pp + 8)), .int a1] M (f_X4_fetch pp a1 M) := by
  refine Mx.of (cc := cX4_fetch) (maxL := 2) (ret := none) (own := RX4) (lv := [(0, .ref (ad (13 * pp + 8))), (1, .int a1)]) (by decide) rfl rfl (Nat.le_of_ble_eq_true rfl) rfl hi ?_
  intro p e s m below meth c F hr hlk
  unfold f_X4_fetch
  refine g_aload_n (pc := 0) F 0 dX4_fetch_0 rfl ?_
  refine g_iload_n (pc := 1) F 1 dX4_fetch_1 rfl ?_
  refine g_put (pc := 2) (k := 13 * pp + 8) (ci := 4) (fs := (oX4 ad (pp))) (C := RX4) (T := TX4) (N := 14) F (P_lt hpp (by decide)) (sh_X4 hpp) rfl kiX4_fetch_X4 tyX4 tyX4_ok nmX4 9 (by decide) klX4_fetch_94 rfl rfl rfl rfl (fun _ => rfl) (Nat.le_of_ble_eq_true rfl) dX4_fetch_2 (fun M1 => ?_)
  refine g_aload_n (pc := 5) F 0 dX4_fetch_5 rfl ?_
  refine g_aload_n (pc := 6) F 0 dX4_fetch_6 rfl ?_
  refine g_get (pc := 7) (v := .ref (ad (13 * pp + 3))) (k := 13 * pp + 8) (ci := 4) (fs := (oX4 ad (pp))) (C := RX4) (T := TX4) (N := 14) F (P_lt hpp (by decide)) (sh_X4 hpp) rfl kiX4_fetch_X4 0 (by decide) klX4_fetch_26 rfl rfl dX4_fetch_7 ?_
  refine g_aload_n (pc := 10) F 0 dX4_fetch_10 rfl ?_
  refine g_get (pc := 11) (v := .int (M1 (13 * pp + 8) 9)) (k := 13 * pp + 8) (ci := 4) (fs := (oX4 ad (pp))) (C := RX4) (T := TX4) (N := 14) F (P_lt hpp (by decide)) (sh_X4 hpp) rfl kiX4_fetch_X4 9 (by decide) klX4_fetch_94 rfl rfl dX4_fetch_11 ?_
  refine g_vi (pc := 14) (k := 13 * pp + 3) (ci := 1) (fs := (oX1 ad (pp))) (C := RX1) (T := TX1) (N := 5) (As := [.int (M1 (13 * pp + 8) 9)]) (st := [.ref (ad (13 * pp + 8))]) F (c_X1_kind l D ad cs F.2.2.1 pp (M1 (13 * pp + 8) 9) hpp M1) (P_lt hpp (by decide)) (sh_X1 hpp) rfl (cwV 1 F.1.2.2.2.2 gX4_fetch_X1_kind rfl rfl rfl hdV_X1_kind ⟨by decide, by decide⟩) rfl rfl (Nat.le_of_ble_eq_true rfl) dX4_fetch_14 ⟨Nat.zero_le _, Nat.zero_le _⟩ (fun r2 M3 => ?_)
  refine g_put (pc := 17) (k := 13 * pp + 8) (ci := 4) (fs := (oX4 ad (pp))) (C := RX4) (T := TX4) (N := 14) F (P_lt hpp (by decide)) (sh_X4 hpp) rfl kiX4_fetch_X4 tyX4 tyX4_ok nmX4 10 (by decide) klX4_fetch_88 rfl rfl rfl rfl (fun _ => rfl) (Nat.le_of_ble_eq_true rfl) dX4_fetch_17 (fun M4 => ?_)
  refine g_aload_n (pc := 20) F 0 dX4_fetch_20 rfl ?_
  refine g_aload_n (pc := 21) F 0 dX4_fetch_21 rfl ?_
  refine g_get (pc := 22) (v := .ref (ad (13 * pp + 3))) (k := 13 * pp + 8) (ci := 4) (fs := (oX4 ad (pp))) (C := RX4) (T := TX4) (N := 14) F (P_lt hpp (by decide)) (sh_X4 hpp) rfl kiX4_fetch_X4 0 (by decide) klX4_fetch_26 rfl rfl dX4_fetch_22 ?_
  refine g_aload_n (pc := 25) F 0 dX4_fetch_25 rfl ?_
  refine g_get (pc := 26) (v := .int (M4 (13 * pp + 8) 9)) (k := 13 * pp + 8) (ci := 4) (fs := (oX4 ad (pp))) (C := RX4) (T := TX4) (N := 14) F (P_lt hpp (by decide)) (sh_X4 hpp) rfl kiX4_fetch_X4 9 (by decide) klX4_fetch_94 rfl rfl dX4_fetch_26 ?_
  refine g_vi (pc := 29) (k := 13 * pp + 3) (ci := 1) (fs := (oX1 ad (pp))) (C := RX1) (T := TX1) (N := 5) (As := [.int (M4 (13 * pp + 8) 9)]) (st := [.ref (ad (13 * pp + 8))]) F (c_X1_x l D ad cs F.2.2.1 pp (M4 (13 * pp + 8) 9) hpp M4) (P_lt hpp (by decide)) (sh_X1 hpp) rfl (cwV 1 F.1.2.2.2.2 gX4_fetch_X1_x rfl rfl rfl hdV_X1_x ⟨by decide, by decide⟩) rfl rfl (Nat.le_of_ble_eq_true rfl) dX4_fetch_29 ⟨Nat.zero_le _, Nat.zero_le _⟩ (fun r5 M6 => ?_)
  refine g_put (pc := 32) (k := 13 * pp + 8) (ci := 4) (fs := (oX4 ad (pp))) (C := RX4) (T := TX4) (N := 14) F (P_lt hpp (by decide)) (sh_X4 hpp) rfl kiX4_fetch_X4 tyX4 tyX4_ok nmX4 11 (by decide) klX4_fetch_115 rfl rfl rfl rfl (fun _ => rfl) (Nat.le_of_ble_eq_true rfl) dX4_fetch_32 (fun M7 => ?_)
  refine g_aload_n (pc := 35) F 0 dX4_fetch_35 rfl ?_
  refine g_aload_n (pc := 36) F 0 dX4_fetch_36 rfl ?_
  refine g_get (pc := 37) (v := .ref (ad (13 * pp + 3))) (k := 13 * pp + 8) (ci := 4) (fs := (oX4 ad (pp))) (C := RX4) (T := TX4) (N := 14) F (P_lt hpp (by decide)) (sh_X4 hpp) rfl kiX4_fetch_X4 0 (by decide) klX4_fetch_26 rfl rfl dX4_fetch_37 ?_
  refine g_aload_n (pc := 40) F 0 dX4_fetch_40 rfl ?_
  refine g_get (pc := 41) (v := .int (M7 (13 * pp + 8) 9)) (k := 13 * pp + 8) (ci := 4) (fs := (oX4 ad (pp))) (C := RX4) (T := TX4) (N := 14) F (P_lt hpp (by decide)) (sh_X4 hpp) rfl kiX4_fetch_X4 9 (by decide) klX4_fetch_94 rfl rfl dX4_fetch_41 ?_
  refine g_vi (pc := 44) (k := 13 * pp + 3) (ci := 1) (fs := (oX1 ad (pp))) (C := RX1) (T := TX1) (N := 5) (As := [.int (M7 (13 * pp + 8) 9)]) (st := [.ref (ad (13 * pp + 8))]) F (c_X1_n l D ad cs F.2.2.1 pp (M7 (13 * pp + 8) 9) hpp M7) (P_lt hpp (by decide)) (sh_X1 hpp) rfl (cwV 1 F.1.2.2.2.2 gX4_fetch_X1_n rfl rfl rfl hdV_X1_n ⟨by decide, by decide⟩) rfl rfl (Nat.le_of_ble_eq_true rfl) dX4_fetch_44 ⟨Nat.zero_le _, Nat.zero_le _⟩ (fun r8 M9 => ?_)
  refine g_put (pc := 47) (k := 13 * pp + 8) (ci := 4) (fs := (oX4 ad (pp))) (C := RX4) (T := TX4) (N := 14) F (P_lt hpp (by decide)) (sh_X4 hpp) rfl kiX4_fetch_X4 tyX4 tyX4_ok nmX4 12 (by decide) klX4_fetch_120 rfl rfl rfl rfl (fun _ => rfl) (Nat.le_of_ble_eq_true rfl) dX4_fetch_47 (fun M10 => ?_)
  refine g_aload_n (pc := 50) F 0 dX4_fetch_50 rfl ?_
  refine g_aload_n (pc := 51) F 0 dX4_fetch_51 rfl ?_
  refine g_get (pc := 52) (v := .ref (ad (13 * pp + 3))) (k := 13 * pp + 8) (ci := 4) (fs := (oX4 ad (pp))) (C := RX4) (T := TX4) (N := 14) F (P_lt hpp (by decide)) (sh_X4 hpp) rfl kiX4_fetch_X4 0 (by decide) klX4_fetch_26 rfl rfl dX4_fetch_52 ?_
  refine g_aload_n (pc := 55) F 0 dX4_fetch_55 rfl ?_
  refine g_get (pc := 56) (v := .int (M10 (13 * pp + 8) 9)) (k := 13 * pp + 8) (ci := 4) (fs := (oX4 ad (pp))) (C := RX4) (T := TX4) (N := 14) F (P_lt hpp (by decide)) (sh_X4 hpp) rfl kiX4_fetch_X4 9 (by decide) klX4_fetch_94 rfl rfl dX4_fetch_56 ?_
  refine g_vi (pc := 59) (k := 13 * pp + 3) (ci := 1) (fs := (oX1 ad (pp))) (C := RX1) (T := TX1) (N := 5) (As := [.int (M10 (13 * pp + 8) 9)]) (st := [.ref (ad (13 * pp + 8))]) F (c_X1_to l D ad cs F.2.2.1 pp (M10 (13 * pp + 8) 9) hpp M10) (P_lt hpp (by decide)) (sh_X1 hpp) rfl (cwV 1 F.1.2.2.2.2 gX4_fetch_X1_to rfl rfl rfl hdV_X1_to ⟨by decide, by decide⟩) rfl rfl (Nat.le_of_ble_eq_true rfl) dX4_fetch_59 ⟨Nat.zero_le _, Nat.zero_le _⟩ (fun r11 M12 => ?_)
  refine g_put (pc := 62) (k := 13 * pp + 8) (ci := 4) (fs := (oX4 ad (pp))) (C := RX4) (T := TX4) (N := 14) F (P_lt hpp (by decide)) (sh_X4 hpp) rfl kiX4_fetch_X4 tyX4 tyX4_ok nmX4 13 (by decide) klX4_fetch_91 rfl rfl rfl rfl (fun _ => rfl) (Nat.le_of_ble_eq_true rfl) dX4_fetch_62 (fun M13 => ?_)
  exact g_vret (pc := 65) F hr hlk dX4_fetch_65
-- X4_firstAfter
def rmX4_firstAfter : Room := { frames := 0, cells := 0, slots := 0, locals := 0 }
def f_X4_firstAfter (pp : Nat) (a1 : Int32) (M : Mem) : Option (Int32 × Mem) := nm (M (13 * pp + 8) 10) (fun v1 => if v1 = 0 then some (M (13 * pp + 8) 12, M) else if v1 = 1 then some ((a1 + (M (13 * pp + 8) 12)) &&& (31 : Int32), M) else some (a1 &&& (M (13 * pp + 8) 12), M))
set_option maxRecDepth 20000 in
theorem kiX4_firstAfter_X4 : ∀ w ∈ u_ws RX4 TX4 14, w ∈ wsX4_firstAfter := by decide +kernel
set_option maxRecDepth 20000 in
theorem klX4_firstAfter_88 : Cond.fieldLink RX4 88 "DoorLister$Paths" "kind" "I" ∈ wsX4_firstAfter := by decide +kernel
set_option maxRecDepth 20000 in
theorem klX4_firstAfter_120 : Cond.fieldLink RX4 120 "DoorLister$Paths" "n" "I" ∈ wsX4_firstAfter := by decide +kernel
set_option maxHeartbeats 4000000 in
set_option maxRecDepth 100000 in
theorem c_X4_firstAfter (l : Launch) (D : va_G) (ad : Nat → Nat) (cs : Cs) (hi : Inj ad) (pp : Nat) (a1 : Int32) (hpp : pp < 4) (M : Mem) : MI l yX4_firstAfter wsX4_firstAfter rmX4_firstAfter D ad cs [.ref (ad (13 * pp + 8)), .int a1] M (f_X4_firstAfter pp a1 M) := by
  refine Mx.of (cc := cX4_firstAfter) (maxL := 2) (ret := (some .int)) (own := RX4) (lv := [(0, .ref (ad (13 * pp + 8))), (1, .int a1)]) (by decide) rfl rfl (Nat.le_of_ble_eq_true rfl) rfl hi ?_
  intro p e s m below meth c F hr hlk
  unfold f_X4_firstAfter
  refine g_aload_n (pc := 0) F 0 dX4_firstAfter_0 rfl ?_
  refine g_get (pc := 1) (v := .int (M (13 * pp + 8) 10)) (k := 13 * pp + 8) (ci := 4) (fs := (oX4 ad (pp))) (C := RX4) (T := TX4) (N := 14) F (P_lt hpp (by decide)) (sh_X4 hpp) rfl kiX4_firstAfter_X4 10 (by decide) klX4_firstAfter_88 rfl rfl dX4_firstAfter_1 ?_
  refine g_nm (fun v1 => ?_)
  refine g_case (v := 0) (fun _ => ?_) (fun n2 => ?_)
  · refine g_look (pc := 4) (off := 28) F 32 dX4_firstAfter_4 (by decide) (by decide) (by decide) ?_
    refine g_aload_n (pc := 32) F 0 dX4_firstAfter_32 rfl ?_
    refine g_get (pc := 33) (v := .int (M (13 * pp + 8) 12)) (k := 13 * pp + 8) (ci := 4) (fs := (oX4 ad (pp))) (C := RX4) (T := TX4) (N := 14) F (P_lt hpp (by decide)) (sh_X4 hpp) rfl kiX4_firstAfter_X4 12 (by decide) klX4_firstAfter_120 rfl rfl dX4_firstAfter_33 ?_
    exact g_iret (pc := 36) F hr hlk dX4_firstAfter_36
  refine g_case (v := 1) (fun _ => ?_) (fun n3 => ?_)
  · refine g_look (pc := 4) (off := 33) F 37 dX4_firstAfter_4 (by decide) (by decide) (by decide) ?_
    refine g_iload_n (pc := 37) F 1 dX4_firstAfter_37 rfl ?_
    refine g_aload_n (pc := 38) F 0 dX4_firstAfter_38 rfl ?_
    refine g_get (pc := 39) (v := .int (M (13 * pp + 8) 12)) (k := 13 * pp + 8) (ci := 4) (fs := (oX4 ad (pp))) (C := RX4) (T := TX4) (N := 14) F (P_lt hpp (by decide)) (sh_X4 hpp) rfl kiX4_firstAfter_X4 12 (by decide) klX4_firstAfter_120 rfl rfl dX4_firstAfter_39 ?_
    refine g_iadd (pc := 42) F dX4_firstAfter_42 ?_
    refine g_bipush (pc := 43) (v := 31) F dX4_firstAfter_43 (by decide) ?_
    refine g_iand (pc := 45) F dX4_firstAfter_45 ?_
    exact g_iret (pc := 46) F hr hlk dX4_firstAfter_46
  refine g_look (pc := 4) (off := 43) F 47 dX4_firstAfter_4 (by decide) (by have e0 := ne_lit (n := 0) (by decide) n2; have e1 := ne_lit (n := 1) (by decide) n3; simp [Op.lookupswitch.offset, e0, e0.symm, e1, e1.symm]) (by decide) ?_
  refine g_iload_n (pc := 47) F 1 dX4_firstAfter_47 rfl ?_
  refine g_aload_n (pc := 48) F 0 dX4_firstAfter_48 rfl ?_
  refine g_get (pc := 49) (v := .int (M (13 * pp + 8) 12)) (k := 13 * pp + 8) (ci := 4) (fs := (oX4 ad (pp))) (C := RX4) (T := TX4) (N := 14) F (P_lt hpp (by decide)) (sh_X4 hpp) rfl kiX4_firstAfter_X4 12 (by decide) klX4_firstAfter_120 rfl rfl dX4_firstAfter_49 ?_
  refine g_iand (pc := 52) F dX4_firstAfter_52 ?_
  exact g_iret (pc := 53) F hr hlk dX4_firstAfter_53
-- X4_goingTo
def rmX4_goingTo : Room := { frames := 0, cells := 0, slots := 0, locals := 0 }
def f_X4_goingTo (pp : Nat) (a1 : Int32) (a2 : Int32) (a3 : Int32) (M : Mem) : Option (Int32 × Mem) := nm (a3 &&& (((1 : Int32) <<< ((M (13 * pp + 8) 12) &&& 31)) - (1 : Int32))) (fun v1 => if (M (13 * pp + 8) 11) = 0 then if (M (13 * pp + 8) 12) ≤ a2 then if (M (13 * pp + 8) 13) = a1 then if ((M (13 * pp + 8) 9) + (1 : Int32)) = a1 then some ((0 : Int32) ||| (a3 &&& ((0 : Int32) ^^^ (-1 : Int32))), M) else some (0, M) else if ((M (13 * pp + 8) 9) + (1 : Int32)) = a1 then some ((0 : Int32) ||| (a3 &&& ((0 : Int32) ^^^ (-1 : Int32))), M) else some (0, M) else if (M (13 * pp + 8) 13) = a1 then if ((M (13 * pp + 8) 9) + (1 : Int32)) = a1 then some (a3 ||| (a3 &&& (a3 ^^^ (-1 : Int32))), M) else some (a3, M) else if ((M (13 * pp + 8) 9) + (1 : Int32)) = a1 then some ((0 : Int32) ||| (a3 &&& (a3 ^^^ (-1 : Int32))), M) else some (0, M) else if (M (13 * pp + 8) 13) = a1 then if ((M (13 * pp + 8) 9) + (1 : Int32)) = a1 then some (v1 ||| (a3 &&& (v1 ^^^ (-1 : Int32))), M) else some (v1, M) else if ((M (13 * pp + 8) 9) + (1 : Int32)) = a1 then some ((0 : Int32) ||| (a3 &&& (v1 ^^^ (-1 : Int32))), M) else some (0, M))
set_option maxRecDepth 20000 in
theorem kiX4_goingTo_X4 : ∀ w ∈ u_ws RX4 TX4 14, w ∈ wsX4_goingTo := by decide +kernel
set_option maxRecDepth 20000 in
theorem klX4_goingTo_120 : Cond.fieldLink RX4 120 "DoorLister$Paths" "n" "I" ∈ wsX4_goingTo := by decide +kernel
set_option maxRecDepth 20000 in
theorem klX4_goingTo_115 : Cond.fieldLink RX4 115 "DoorLister$Paths" "x" "I" ∈ wsX4_goingTo := by decide +kernel
set_option maxRecDepth 20000 in
theorem klX4_goingTo_91 : Cond.fieldLink RX4 91 "DoorLister$Paths" "to" "I" ∈ wsX4_goingTo := by decide +kernel
set_option maxRecDepth 20000 in
theorem klX4_goingTo_94 : Cond.fieldLink RX4 94 "DoorLister$Paths" "at" "I" ∈ wsX4_goingTo := by decide +kernel
set_option maxHeartbeats 4000000 in
set_option maxRecDepth 100000 in
theorem c_X4_goingTo (l : Launch) (D : va_G) (ad : Nat → Nat) (cs : Cs) (hi : Inj ad) (pp : Nat) (a1 : Int32) (a2 : Int32) (a3 : Int32) (hpp : pp < 4) (M : Mem) : MI l yX4_goingTo wsX4_goingTo rmX4_goingTo D ad cs [.ref (ad (13 * pp + 8)), .int a1, .int a2, .int a3] M (f_X4_goingTo pp a1 a2 a3 M) := by
  refine Mx.of (cc := cX4_goingTo) (maxL := 6) (ret := (some .int)) (own := RX4) (lv := [(0, .ref (ad (13 * pp + 8))), (1, .int a1), (2, .int a2), (3, .int a3)]) (by decide) rfl rfl (Nat.le_of_ble_eq_true rfl) rfl hi ?_
  intro p e s m below meth c F hr hlk
  unfold f_X4_goingTo
  refine g_iload_n (pc := 0) F 3 dX4_goingTo_0 rfl ?_
  refine g_iconst (pc := 1) (v := 1) F dX4_goingTo_1 (by decide) ?_
  refine g_aload_n (pc := 2) F 0 dX4_goingTo_2 rfl ?_
  refine g_get (pc := 3) (v := .int (M (13 * pp + 8) 12)) (k := 13 * pp + 8) (ci := 4) (fs := (oX4 ad (pp))) (C := RX4) (T := TX4) (N := 14) F (P_lt hpp (by decide)) (sh_X4 hpp) rfl kiX4_goingTo_X4 12 (by decide) klX4_goingTo_120 rfl rfl dX4_goingTo_3 ?_
  refine g_ishl (pc := 6) F dX4_goingTo_6 ?_
  refine g_iconst (pc := 7) (v := 1) F dX4_goingTo_7 (by decide) ?_
  refine g_isub (pc := 8) F dX4_goingTo_8 ?_
  refine g_iand (pc := 9) F dX4_goingTo_9 ?_
  refine g_nm (fun v1 => ?_)
  refine g_istore (pc := 10) F [(0, .ref (ad (13 * pp + 8))), (1, .int a1), (2, .int a2), (3, .int a3), (4, .int v1)] dX4_goingTo_10 (by decide) rfl rfl rfl ?_
  refine g_aload_n (pc := 12) F 0 dX4_goingTo_12 rfl ?_
  refine g_get (pc := 13) (v := .int (M (13 * pp + 8) 11)) (k := 13 * pp + 8) (ci := 4) (fs := (oX4 ad (pp))) (C := RX4) (T := TX4) (N := 14) F (P_lt hpp (by decide)) (sh_X4 hpp) rfl kiX4_goingTo_X4 11 (by decide) klX4_goingTo_115 rfl rfl dX4_goingTo_13 ?_
  refine g_if_ne (pc := 16) F 34 dX4_goingTo_16 (by decide) ?_ ?_
  · refine g_aload_n (pc := 34) F 0 dX4_goingTo_34 rfl ?_
    refine g_get (pc := 35) (v := .int (M (13 * pp + 8) 13)) (k := 13 * pp + 8) (ci := 4) (fs := (oX4 ad (pp))) (C := RX4) (T := TX4) (N := 14) F (P_lt hpp (by decide)) (sh_X4 hpp) rfl kiX4_goingTo_X4 13 (by decide) klX4_goingTo_91 rfl rfl dX4_goingTo_35 ?_
    refine g_iload_n (pc := 38) F 1 dX4_goingTo_38 rfl ?_
    refine g_icmp_ne (pc := 39) F 47 dX4_goingTo_39 (by decide) ?_ ?_
    · refine g_iconst (pc := 47) (v := 0) F dX4_goingTo_47 (by decide) ?_
      refine g_istore (pc := 48) F [(0, .ref (ad (13 * pp + 8))), (1, .int a1), (2, .int a2), (3, .int a3), (4, .int v1), (5, .int 0)] dX4_goingTo_48 (by decide) rfl rfl rfl ?_
      refine g_aload_n (pc := 50) F 0 dX4_goingTo_50 rfl ?_
      refine g_get (pc := 51) (v := .int (M (13 * pp + 8) 9)) (k := 13 * pp + 8) (ci := 4) (fs := (oX4 ad (pp))) (C := RX4) (T := TX4) (N := 14) F (P_lt hpp (by decide)) (sh_X4 hpp) rfl kiX4_goingTo_X4 9 (by decide) klX4_goingTo_94 rfl rfl dX4_goingTo_51 ?_
      refine g_iconst (pc := 54) (v := 1) F dX4_goingTo_54 (by decide) ?_
      refine g_iadd (pc := 55) F dX4_goingTo_55 ?_
      refine g_iload_n (pc := 56) F 1 dX4_goingTo_56 rfl ?_
      refine g_icmp_ne (pc := 57) F 72 dX4_goingTo_57 (by decide) ?_ ?_
      · refine g_iload (pc := 72) F 5 dX4_goingTo_72 rfl ?_
        exact g_iret (pc := 74) F hr hlk dX4_goingTo_74
      · refine g_iload (pc := 60) F 5 dX4_goingTo_60 rfl ?_
        refine g_iload_n (pc := 62) F 3 dX4_goingTo_62 rfl ?_
        refine g_iload (pc := 63) F 4 dX4_goingTo_63 rfl ?_
        refine g_iconst (pc := 65) (v := (-1)) F dX4_goingTo_65 (by decide) ?_
        refine g_ixor (pc := 66) F dX4_goingTo_66 ?_
        refine g_iand (pc := 67) F dX4_goingTo_67 ?_
        refine g_ior (pc := 68) F dX4_goingTo_68 ?_
        refine g_goto (pc := 69) F 74 dX4_goingTo_69 (by decide) ?_
        exact g_iret (pc := 74) F hr hlk dX4_goingTo_74
    · refine g_iload (pc := 42) F 4 dX4_goingTo_42 rfl ?_
      refine g_goto (pc := 44) F 48 dX4_goingTo_44 (by decide) ?_
      refine g_istore (pc := 48) F [(0, .ref (ad (13 * pp + 8))), (1, .int a1), (2, .int a2), (3, .int a3), (4, .int v1), (5, .int v1)] dX4_goingTo_48 (by decide) rfl rfl rfl ?_
      refine g_aload_n (pc := 50) F 0 dX4_goingTo_50 rfl ?_
      refine g_get (pc := 51) (v := .int (M (13 * pp + 8) 9)) (k := 13 * pp + 8) (ci := 4) (fs := (oX4 ad (pp))) (C := RX4) (T := TX4) (N := 14) F (P_lt hpp (by decide)) (sh_X4 hpp) rfl kiX4_goingTo_X4 9 (by decide) klX4_goingTo_94 rfl rfl dX4_goingTo_51 ?_
      refine g_iconst (pc := 54) (v := 1) F dX4_goingTo_54 (by decide) ?_
      refine g_iadd (pc := 55) F dX4_goingTo_55 ?_
      refine g_iload_n (pc := 56) F 1 dX4_goingTo_56 rfl ?_
      refine g_icmp_ne (pc := 57) F 72 dX4_goingTo_57 (by decide) ?_ ?_
      · refine g_iload (pc := 72) F 5 dX4_goingTo_72 rfl ?_
        exact g_iret (pc := 74) F hr hlk dX4_goingTo_74
      · refine g_iload (pc := 60) F 5 dX4_goingTo_60 rfl ?_
        refine g_iload_n (pc := 62) F 3 dX4_goingTo_62 rfl ?_
        refine g_iload (pc := 63) F 4 dX4_goingTo_63 rfl ?_
        refine g_iconst (pc := 65) (v := (-1)) F dX4_goingTo_65 (by decide) ?_
        refine g_ixor (pc := 66) F dX4_goingTo_66 ?_
        refine g_iand (pc := 67) F dX4_goingTo_67 ?_
        refine g_ior (pc := 68) F dX4_goingTo_68 ?_
        refine g_goto (pc := 69) F 74 dX4_goingTo_69 (by decide) ?_
        exact g_iret (pc := 74) F hr hlk dX4_goingTo_74
  · refine g_iload_n (pc := 19) F 2 dX4_goingTo_19 rfl ?_
    refine g_aload_n (pc := 20) F 0 dX4_goingTo_20 rfl ?_
    refine g_get (pc := 21) (v := .int (M (13 * pp + 8) 12)) (k := 13 * pp + 8) (ci := 4) (fs := (oX4 ad (pp))) (C := RX4) (T := TX4) (N := 14) F (P_lt hpp (by decide)) (sh_X4 hpp) rfl kiX4_goingTo_X4 12 (by decide) klX4_goingTo_120 rfl rfl dX4_goingTo_21 ?_
    refine g_icmp_ge (pc := 24) F 31 dX4_goingTo_24 (by decide) ?_ ?_
    · refine g_iconst (pc := 31) (v := 0) F dX4_goingTo_31 (by decide) ?_
      refine g_istore (pc := 32) F [(0, .ref (ad (13 * pp + 8))), (1, .int a1), (2, .int a2), (3, .int a3), (4, .int 0)] dX4_goingTo_32 (by decide) rfl rfl rfl ?_
      refine g_aload_n (pc := 34) F 0 dX4_goingTo_34 rfl ?_
      refine g_get (pc := 35) (v := .int (M (13 * pp + 8) 13)) (k := 13 * pp + 8) (ci := 4) (fs := (oX4 ad (pp))) (C := RX4) (T := TX4) (N := 14) F (P_lt hpp (by decide)) (sh_X4 hpp) rfl kiX4_goingTo_X4 13 (by decide) klX4_goingTo_91 rfl rfl dX4_goingTo_35 ?_
      refine g_iload_n (pc := 38) F 1 dX4_goingTo_38 rfl ?_
      refine g_icmp_ne (pc := 39) F 47 dX4_goingTo_39 (by decide) ?_ ?_
      · refine g_iconst (pc := 47) (v := 0) F dX4_goingTo_47 (by decide) ?_
        refine g_istore (pc := 48) F [(0, .ref (ad (13 * pp + 8))), (1, .int a1), (2, .int a2), (3, .int a3), (4, .int 0), (5, .int 0)] dX4_goingTo_48 (by decide) rfl rfl rfl ?_
        refine g_aload_n (pc := 50) F 0 dX4_goingTo_50 rfl ?_
        refine g_get (pc := 51) (v := .int (M (13 * pp + 8) 9)) (k := 13 * pp + 8) (ci := 4) (fs := (oX4 ad (pp))) (C := RX4) (T := TX4) (N := 14) F (P_lt hpp (by decide)) (sh_X4 hpp) rfl kiX4_goingTo_X4 9 (by decide) klX4_goingTo_94 rfl rfl dX4_goingTo_51 ?_
        refine g_iconst (pc := 54) (v := 1) F dX4_goingTo_54 (by decide) ?_
        refine g_iadd (pc := 55) F dX4_goingTo_55 ?_
        refine g_iload_n (pc := 56) F 1 dX4_goingTo_56 rfl ?_
        refine g_icmp_ne (pc := 57) F 72 dX4_goingTo_57 (by decide) ?_ ?_
        · refine g_iload (pc := 72) F 5 dX4_goingTo_72 rfl ?_
          exact g_iret (pc := 74) F hr hlk dX4_goingTo_74
        · refine g_iload (pc := 60) F 5 dX4_goingTo_60 rfl ?_
          refine g_iload_n (pc := 62) F 3 dX4_goingTo_62 rfl ?_
          refine g_iload (pc := 63) F 4 dX4_goingTo_63 rfl ?_
          refine g_iconst (pc := 65) (v := (-1)) F dX4_goingTo_65 (by decide) ?_
          refine g_ixor (pc := 66) F dX4_goingTo_66 ?_
          refine g_iand (pc := 67) F dX4_goingTo_67 ?_
          refine g_ior (pc := 68) F dX4_goingTo_68 ?_
          refine g_goto (pc := 69) F 74 dX4_goingTo_69 (by decide) ?_
          exact g_iret (pc := 74) F hr hlk dX4_goingTo_74
      · refine g_iload (pc := 42) F 4 dX4_goingTo_42 rfl ?_
        refine g_goto (pc := 44) F 48 dX4_goingTo_44 (by decide) ?_
        refine g_istore (pc := 48) F [(0, .ref (ad (13 * pp + 8))), (1, .int a1), (2, .int a2), (3, .int a3), (4, .int 0), (5, .int 0)] dX4_goingTo_48 (by decide) rfl rfl rfl ?_
        refine g_aload_n (pc := 50) F 0 dX4_goingTo_50 rfl ?_
        refine g_get (pc := 51) (v := .int (M (13 * pp + 8) 9)) (k := 13 * pp + 8) (ci := 4) (fs := (oX4 ad (pp))) (C := RX4) (T := TX4) (N := 14) F (P_lt hpp (by decide)) (sh_X4 hpp) rfl kiX4_goingTo_X4 9 (by decide) klX4_goingTo_94 rfl rfl dX4_goingTo_51 ?_
        refine g_iconst (pc := 54) (v := 1) F dX4_goingTo_54 (by decide) ?_
        refine g_iadd (pc := 55) F dX4_goingTo_55 ?_
        refine g_iload_n (pc := 56) F 1 dX4_goingTo_56 rfl ?_
        refine g_icmp_ne (pc := 57) F 72 dX4_goingTo_57 (by decide) ?_ ?_
        · refine g_iload (pc := 72) F 5 dX4_goingTo_72 rfl ?_
          exact g_iret (pc := 74) F hr hlk dX4_goingTo_74
        · refine g_iload (pc := 60) F 5 dX4_goingTo_60 rfl ?_
          refine g_iload_n (pc := 62) F 3 dX4_goingTo_62 rfl ?_
          refine g_iload (pc := 63) F 4 dX4_goingTo_63 rfl ?_
          refine g_iconst (pc := 65) (v := (-1)) F dX4_goingTo_65 (by decide) ?_
          refine g_ixor (pc := 66) F dX4_goingTo_66 ?_
          refine g_iand (pc := 67) F dX4_goingTo_67 ?_
          refine g_ior (pc := 68) F dX4_goingTo_68 ?_
          refine g_goto (pc := 69) F 74 dX4_goingTo_69 (by decide) ?_
          exact g_iret (pc := 74) F hr hlk dX4_goingTo_74
    · refine g_iload_n (pc := 27) F 3 dX4_goingTo_27 rfl ?_
      refine g_goto (pc := 28) F 32 dX4_goingTo_28 (by decide) ?_
      refine g_istore (pc := 32) F [(0, .ref (ad (13 * pp + 8))), (1, .int a1), (2, .int a2), (3, .int a3), (4, .int a3)] dX4_goingTo_32 (by decide) rfl rfl rfl ?_
      refine g_aload_n (pc := 34) F 0 dX4_goingTo_34 rfl ?_
      refine g_get (pc := 35) (v := .int (M (13 * pp + 8) 13)) (k := 13 * pp + 8) (ci := 4) (fs := (oX4 ad (pp))) (C := RX4) (T := TX4) (N := 14) F (P_lt hpp (by decide)) (sh_X4 hpp) rfl kiX4_goingTo_X4 13 (by decide) klX4_goingTo_91 rfl rfl dX4_goingTo_35 ?_
      refine g_iload_n (pc := 38) F 1 dX4_goingTo_38 rfl ?_
      refine g_icmp_ne (pc := 39) F 47 dX4_goingTo_39 (by decide) ?_ ?_
      · refine g_iconst (pc := 47) (v := 0) F dX4_goingTo_47 (by decide) ?_
        refine g_istore (pc := 48) F [(0, .ref (ad (13 * pp + 8))), (1, .int a1), (2, .int a2), (3, .int a3), (4, .int a3), (5, .int 0)] dX4_goingTo_48 (by decide) rfl rfl rfl ?_
        refine g_aload_n (pc := 50) F 0 dX4_goingTo_50 rfl ?_
        refine g_get (pc := 51) (v := .int (M (13 * pp + 8) 9)) (k := 13 * pp + 8) (ci := 4) (fs := (oX4 ad (pp))) (C := RX4) (T := TX4) (N := 14) F (P_lt hpp (by decide)) (sh_X4 hpp) rfl kiX4_goingTo_X4 9 (by decide) klX4_goingTo_94 rfl rfl dX4_goingTo_51 ?_
        refine g_iconst (pc := 54) (v := 1) F dX4_goingTo_54 (by decide) ?_
        refine g_iadd (pc := 55) F dX4_goingTo_55 ?_
        refine g_iload_n (pc := 56) F 1 dX4_goingTo_56 rfl ?_
        refine g_icmp_ne (pc := 57) F 72 dX4_goingTo_57 (by decide) ?_ ?_
        · refine g_iload (pc := 72) F 5 dX4_goingTo_72 rfl ?_
          exact g_iret (pc := 74) F hr hlk dX4_goingTo_74
        · refine g_iload (pc := 60) F 5 dX4_goingTo_60 rfl ?_
          refine g_iload_n (pc := 62) F 3 dX4_goingTo_62 rfl ?_
          refine g_iload (pc := 63) F 4 dX4_goingTo_63 rfl ?_
          refine g_iconst (pc := 65) (v := (-1)) F dX4_goingTo_65 (by decide) ?_
          refine g_ixor (pc := 66) F dX4_goingTo_66 ?_
          refine g_iand (pc := 67) F dX4_goingTo_67 ?_
          refine g_ior (pc := 68) F dX4_goingTo_68 ?_
          refine g_goto (pc := 69) F 74 dX4_goingTo_69 (by decide) ?_
          exact g_iret (pc := 74) F hr hlk dX4_goingTo_74
      · refine g_iload (pc := 42) F 4 dX4_goingTo_42 rfl ?_
        refine g_goto (pc := 44) F 48 dX4_goingTo_44 (by decide) ?_
        refine g_istore (pc := 48) F [(0, .ref (ad (13 * pp + 8))), (1, .int a1), (2, .int a2), (3, .int a3), (4, .int a3), (5, .int a3)] dX4_goingTo_48 (by decide) rfl rfl rfl ?_
        refine g_aload_n (pc := 50) F 0 dX4_goingTo_50 rfl ?_
        refine g_get (pc := 51) (v := .int (M (13 * pp + 8) 9)) (k := 13 * pp + 8) (ci := 4) (fs := (oX4 ad (pp))) (C := RX4) (T := TX4) (N := 14) F (P_lt hpp (by decide)) (sh_X4 hpp) rfl kiX4_goingTo_X4 9 (by decide) klX4_goingTo_94 rfl rfl dX4_goingTo_51 ?_
        refine g_iconst (pc := 54) (v := 1) F dX4_goingTo_54 (by decide) ?_
        refine g_iadd (pc := 55) F dX4_goingTo_55 ?_
        refine g_iload_n (pc := 56) F 1 dX4_goingTo_56 rfl ?_
        refine g_icmp_ne (pc := 57) F 72 dX4_goingTo_57 (by decide) ?_ ?_
        · refine g_iload (pc := 72) F 5 dX4_goingTo_72 rfl ?_
          exact g_iret (pc := 74) F hr hlk dX4_goingTo_74
        · refine g_iload (pc := 60) F 5 dX4_goingTo_60 rfl ?_
          refine g_iload_n (pc := 62) F 3 dX4_goingTo_62 rfl ?_
          refine g_iload (pc := 63) F 4 dX4_goingTo_63 rfl ?_
          refine g_iconst (pc := 65) (v := (-1)) F dX4_goingTo_65 (by decide) ?_
          refine g_ixor (pc := 66) F dX4_goingTo_66 ?_
          refine g_iand (pc := 67) F dX4_goingTo_67 ?_
          refine g_ior (pc := 68) F dX4_goingTo_68 ?_
          refine g_goto (pc := 69) F 74 dX4_goingTo_69 (by decide) ?_
          exact g_iret (pc := 74) F hr hlk dX4_goingTo_74
