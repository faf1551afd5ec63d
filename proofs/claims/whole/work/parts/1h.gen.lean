/-! Written by wip/whole/gen.py: pure functions of methods, and the walks that tie the bytecode to them. -/
-- X8_span
def rmX8_span : Room := { frames := 5, cells := 0, slots := 0, locals := 128 }
def f_X8_span (fu : Nat) (a1 : Int32) (a2 : Int32) (a3 : Int32) (a4 : Int32) (M : Mem) : Option (Int32 × Mem) := bnd (f_X8_isProgram a1 M) (fun r1 M2 => if r1 = 0 then some ((-1), M2) else bnd (f_X8_isPhase a2 M2) (fun r3 M4 => if r3 = 0 then some ((-1), M4) else if 0 ≤ a3 then if ix a1 4 then bnd (f_X5_paths a1.toNatClampNeg M4) (fun r6 M7 => bnd (f_X4_searched fu a1.toNatClampNeg M7) (fun r8 M9 => bnd (f_X4_calls a1.toNatClampNeg M9) (fun r10 M11 => bnd (f_X0_spanPart fu (13 * a1.toNatClampNeg + 11) a2 a3 a4 M11) (fun r12 M13 => some (r12, M13))))) else none else some ((-1), M4)))
set_option maxRecDepth 20000 in
theorem kiX8_span_X8 : ∀ w ∈ u_ws RX8 TX8 6, w ∈ wsX8_span := by decide +kernel
set_option maxRecDepth 20000 in
theorem klX8_span_11 : Cond.fieldLink RX8 11 "DoorLister" "programs" "[LDoorLister$Program;" ∈ wsX8_span := by decide +kernel
set_option maxHeartbeats 4000000 in
set_option maxRecDepth 100000 in
theorem c_X8_span (l : Launch) (D : va_G) (ad : Nat → Nat) (cs : Cs) (hi : Inj ad) (fu : Nat) (a1 : Int32) (a2 : Int32) (a3 : Int32) (a4 : Int32) (M : Mem) : MI l yX8_span wsX8_span rmX8_span D ad cs [.ref (ad (0)), .int a1, .int a2, .int a3, .int a4] M (f_X8_span fu a1 a2 a3 a4 M) := by
  refine Mx.of (cc := cX8_span) (maxL := 5) (ret := (some .int)) (own := RX8) (lv := [(0, .ref (ad (0))), (1, .int a1), (2, .int a2), (3, .int a3), (4, .int a4)]) (by decide) rfl rfl (Nat.le_of_ble_eq_true rfl) rfl hi ?_
  intro p e s m below meth c F hr hlk
  unfold f_X8_span
  refine g_iload_n (pc := 0) F 1 dX8_span_0 rfl ?_
  refine g_si (pc := 1) (As := [.int a1]) (st := []) F (c_X8_isProgram l D ad cs F.2.2.1 a1 M) (va_cwS 1 F.1.2.2.2.2 gX8_span_X8_isProgram rfl rfl rfl hdS_X8_isProgram ⟨by decide, by decide⟩) rfl rfl (Nat.le_of_ble_eq_true rfl) dX8_span_1 ⟨Nat.zero_le _, Nat.zero_le _⟩ (fun r1 M2 => ?_)
  refine g_if_eq (pc := 4) F 18 dX8_span_4 (by decide) ?_ ?_
  · refine g_iconst (pc := 18) (v := (-1)) F dX8_span_18 (by decide) ?_
    exact g_iret (pc := 19) F hr hlk dX8_span_19
  · refine g_iload_n (pc := 7) F 2 dX8_span_7 rfl ?_
    refine g_si (pc := 8) (As := [.int a2]) (st := []) F (c_X8_isPhase l D ad cs F.2.2.1 a2 M2) (va_cwS 1 F.1.2.2.2.2 gX8_span_X8_isPhase rfl rfl rfl hdS_X8_isPhase ⟨by decide, by decide⟩) rfl rfl (Nat.le_of_ble_eq_true rfl) dX8_span_8 ⟨Nat.zero_le _, Nat.zero_le _⟩ (fun r3 M4 => ?_)
    refine g_if_eq (pc := 11) F 18 dX8_span_11 (by decide) ?_ ?_
    · refine g_iconst (pc := 18) (v := (-1)) F dX8_span_18 (by decide) ?_
      exact g_iret (pc := 19) F hr hlk dX8_span_19
    · refine g_iload_n (pc := 14) F 3 dX8_span_14 rfl ?_
      refine g_if_ge (pc := 15) F 20 dX8_span_15 (by decide) ?_ ?_
      · refine g_aload_n (pc := 20) F 0 dX8_span_20 rfl ?_
        refine g_get (pc := 21) (v := .ref (ad (1))) (k := 0) (ci := 8) (fs := (oX8 ad)) (C := RX8) (T := TX8) (N := 6) F (by decide) (fun _ => rfl) rfl kiX8_span_X8 0 (by decide) klX8_span_11 rfl rfl dX8_span_21 ?_
        refine g_iload_n (pc := 24) F 1 dX8_span_24 rfl ?_
        refine g_aald (pc := 25) F dX8_span_25 (fun hj5 => ?_)
        refine g_vr (pc := 26) (kr := 13 * a1.toNatClampNeg + 8) (k := 13 * a1.toNatClampNeg + 2) (ci := 5) (fs := (oX5 ad (a1.toNatClampNeg))) (C := RX5) (T := TX5) (N := 3) (As := []) (st := []) F (c_X5_paths l D ad cs F.2.2.1 a1.toNatClampNeg hj5 M4) (P_lt hj5 (by decide)) (sh_X5 hj5) rfl (cwV 0 F.1.2.2.2.2 gX8_span_X5_paths rfl rfl rfl hdV_X5_paths ⟨by decide, by decide⟩) rfl rfl (Nat.le_of_ble_eq_true rfl) dX8_span_26 ⟨Nat.zero_le _, Nat.zero_le _⟩ (fun r6 M7 => ?_)
        refine g_vr (pc := 29) (kr := 13 * a1.toNatClampNeg + 8) (k := 13 * a1.toNatClampNeg + 8) (ci := 4) (fs := (oX4 ad (a1.toNatClampNeg))) (C := RX4) (T := TX4) (N := 14) (As := []) (st := []) F (c_X4_searched l D ad cs F.2.2.1 fu a1.toNatClampNeg hj5 M7) (P_lt hj5 (by decide)) (sh_X4 hj5) rfl (cwV 0 F.1.2.2.2.2 gX8_span_X4_searched rfl rfl rfl hdV_X4_searched ⟨by decide, by decide⟩) rfl rfl (Nat.le_of_ble_eq_true rfl) dX8_span_29 ⟨Nat.zero_le _, Nat.zero_le _⟩ (fun r8 M9 => ?_)
        refine g_vr (pc := 32) (kr := 13 * a1.toNatClampNeg + 11) (k := 13 * a1.toNatClampNeg + 8) (ci := 4) (fs := (oX4 ad (a1.toNatClampNeg))) (C := RX4) (T := TX4) (N := 14) (As := []) (st := []) F (c_X4_calls l D ad cs F.2.2.1 a1.toNatClampNeg hj5 M9) (P_lt hj5 (by decide)) (sh_X4 hj5) rfl (cwV 0 F.1.2.2.2.2 gX8_span_X4_calls rfl rfl rfl hdV_X4_calls ⟨by decide, by decide⟩) rfl rfl (Nat.le_of_ble_eq_true rfl) dX8_span_32 ⟨Nat.zero_le _, Nat.zero_le _⟩ (fun r10 M11 => ?_)
        refine g_iload_n (pc := 35) F 2 dX8_span_35 rfl ?_
        refine g_iload_n (pc := 36) F 3 dX8_span_36 rfl ?_
        refine g_iload (pc := 37) F 4 dX8_span_37 rfl ?_
        refine g_vi (pc := 39) (k := 13 * a1.toNatClampNeg + 11) (ci := 0) (fs := (oX0 ad (13 * a1.toNatClampNeg + 11))) (C := RX0) (T := TX0) (N := 1) (As := [.int a2, .int a3, .int a4]) (st := []) F (c_X0_spanPart l D ad cs F.2.2.1 fu (13 * a1.toNatClampNeg + 11) a2 a3 a4 (tab_c hj5) M11) (tab_lt (tab_c hj5)) (sh_X0 (tab_c hj5)) rfl (cwV 3 F.1.2.2.2.2 gX8_span_X0_spanPart rfl rfl rfl hdV_X0_spanPart ⟨by decide, by decide⟩) rfl rfl (Nat.le_of_ble_eq_true rfl) dX8_span_39 ⟨Nat.zero_le _, Nat.zero_le _⟩ (fun r12 M13 => ?_)
        exact g_iret (pc := 42) F hr hlk dX8_span_42
      · refine g_iconst (pc := 18) (v := (-1)) F dX8_span_18 (by decide) ?_
        exact g_iret (pc := 19) F hr hlk dX8_span_19
-- X8_steps
def rmX8_steps : Room := { frames := 5, cells := 0, slots := 0, locals := 128 }
def f_X8_steps (fu : Nat) (a1 : Int32) (a2 : Int32) (a3 : Int32) (a4 : Int32) (M : Mem) : Option (Int32 × Mem) := bnd (f_X8_isProgram a1 M) (fun r1 M2 => if r1 = 0 then some ((-1), M2) else bnd (f_X8_isPhase a2 M2) (fun r3 M4 => if r3 = 0 then some ((-1), M4) else bnd (f_X8_isValue a3 M4) (fun r5 M6 => if r5 = 0 then some ((-1), M6) else bnd (f_X8_isValue a4 M6) (fun r7 M8 => if r7 = 0 then some ((-1), M8) else if ix a1 4 then bnd (f_X5_paths a1.toNatClampNeg M8) (fun r10 M11 => bnd (f_X4_searched fu a1.toNatClampNeg M11) (fun r12 M13 => bnd (f_X4_lengthTo fu a1.toNatClampNeg a2 a3 a4 M13) (fun r14 M15 => some (r14, M15)))) else none))))
set_option maxRecDepth 20000 in
theorem kiX8_steps_X8 : ∀ w ∈ u_ws RX8 TX8 6, w ∈ wsX8_steps := by decide +kernel
set_option maxRecDepth 20000 in
theorem klX8_steps_11 : Cond.fieldLink RX8 11 "DoorLister" "programs" "[LDoorLister$Program;" ∈ wsX8_steps := by decide +kernel
set_option maxHeartbeats 4000000 in
set_option maxRecDepth 100000 in
theorem c_X8_steps (l : Launch) (D : va_G) (ad : Nat → Nat) (cs : Cs) (hi : Inj ad) (fu : Nat) (a1 : Int32) (a2 : Int32) (a3 : Int32) (a4 : Int32) (M : Mem) : MI l yX8_steps wsX8_steps rmX8_steps D ad cs [.ref (ad (0)), .int a1, .int a2, .int a3, .int a4] M (f_X8_steps fu a1 a2 a3 a4 M) := by
  refine Mx.of (cc := cX8_steps) (maxL := 5) (ret := (some .int)) (own := RX8) (lv := [(0, .ref (ad (0))), (1, .int a1), (2, .int a2), (3, .int a3), (4, .int a4)]) (by decide) rfl rfl (Nat.le_of_ble_eq_true rfl) rfl hi ?_
  intro p e s m below meth c F hr hlk
  unfold f_X8_steps
  refine g_iload_n (pc := 0) F 1 dX8_steps_0 rfl ?_
  refine g_si (pc := 1) (As := [.int a1]) (st := []) F (c_X8_isProgram l D ad cs F.2.2.1 a1 M) (va_cwS 1 F.1.2.2.2.2 gX8_steps_X8_isProgram rfl rfl rfl hdS_X8_isProgram ⟨by decide, by decide⟩) rfl rfl (Nat.le_of_ble_eq_true rfl) dX8_steps_1 ⟨Nat.zero_le _, Nat.zero_le _⟩ (fun r1 M2 => ?_)
  refine g_if_eq (pc := 4) F 29 dX8_steps_4 (by decide) ?_ ?_
  · refine g_iconst (pc := 29) (v := (-1)) F dX8_steps_29 (by decide) ?_
    exact g_iret (pc := 30) F hr hlk dX8_steps_30
  · refine g_iload_n (pc := 7) F 2 dX8_steps_7 rfl ?_
    refine g_si (pc := 8) (As := [.int a2]) (st := []) F (c_X8_isPhase l D ad cs F.2.2.1 a2 M2) (va_cwS 1 F.1.2.2.2.2 gX8_steps_X8_isPhase rfl rfl rfl hdS_X8_isPhase ⟨by decide, by decide⟩) rfl rfl (Nat.le_of_ble_eq_true rfl) dX8_steps_8 ⟨Nat.zero_le _, Nat.zero_le _⟩ (fun r3 M4 => ?_)
    refine g_if_eq (pc := 11) F 29 dX8_steps_11 (by decide) ?_ ?_
    · refine g_iconst (pc := 29) (v := (-1)) F dX8_steps_29 (by decide) ?_
      exact g_iret (pc := 30) F hr hlk dX8_steps_30
    · refine g_iload_n (pc := 14) F 3 dX8_steps_14 rfl ?_
      refine g_si (pc := 15) (As := [.int a3]) (st := []) F (c_X8_isValue l D ad cs F.2.2.1 a3 M4) (va_cwS 1 F.1.2.2.2.2 gX8_steps_X8_isValue rfl rfl rfl hdS_X8_isValue ⟨by decide, by decide⟩) rfl rfl (Nat.le_of_ble_eq_true rfl) dX8_steps_15 ⟨Nat.zero_le _, Nat.zero_le _⟩ (fun r5 M6 => ?_)
      refine g_if_eq (pc := 18) F 29 dX8_steps_18 (by decide) ?_ ?_
      · refine g_iconst (pc := 29) (v := (-1)) F dX8_steps_29 (by decide) ?_
        exact g_iret (pc := 30) F hr hlk dX8_steps_30
      · refine g_iload (pc := 21) F 4 dX8_steps_21 rfl ?_
        refine g_si (pc := 23) (As := [.int a4]) (st := []) F (c_X8_isValue l D ad cs F.2.2.1 a4 M6) (va_cwS 1 F.1.2.2.2.2 gX8_steps_X8_isValue rfl rfl rfl hdS_X8_isValue ⟨by decide, by decide⟩) rfl rfl (Nat.le_of_ble_eq_true rfl) dX8_steps_23 ⟨Nat.zero_le _, Nat.zero_le _⟩ (fun r7 M8 => ?_)
        refine g_if_ne (pc := 26) F 31 dX8_steps_26 (by decide) ?_ ?_
        · refine g_aload_n (pc := 31) F 0 dX8_steps_31 rfl ?_
          refine g_get (pc := 32) (v := .ref (ad (1))) (k := 0) (ci := 8) (fs := (oX8 ad)) (C := RX8) (T := TX8) (N := 6) F (by decide) (fun _ => rfl) rfl kiX8_steps_X8 0 (by decide) klX8_steps_11 rfl rfl dX8_steps_32 ?_
          refine g_iload_n (pc := 35) F 1 dX8_steps_35 rfl ?_
          refine g_aald (pc := 36) F dX8_steps_36 (fun hj9 => ?_)
          refine g_vr (pc := 37) (kr := 13 * a1.toNatClampNeg + 8) (k := 13 * a1.toNatClampNeg + 2) (ci := 5) (fs := (oX5 ad (a1.toNatClampNeg))) (C := RX5) (T := TX5) (N := 3) (As := []) (st := []) F (c_X5_paths l D ad cs F.2.2.1 a1.toNatClampNeg hj9 M8) (P_lt hj9 (by decide)) (sh_X5 hj9) rfl (cwV 0 F.1.2.2.2.2 gX8_steps_X5_paths rfl rfl rfl hdV_X5_paths ⟨by decide, by decide⟩) rfl rfl (Nat.le_of_ble_eq_true rfl) dX8_steps_37 ⟨Nat.zero_le _, Nat.zero_le _⟩ (fun r10 M11 => ?_)
          refine g_vr (pc := 40) (kr := 13 * a1.toNatClampNeg + 8) (k := 13 * a1.toNatClampNeg + 8) (ci := 4) (fs := (oX4 ad (a1.toNatClampNeg))) (C := RX4) (T := TX4) (N := 14) (As := []) (st := []) F (c_X4_searched l D ad cs F.2.2.1 fu a1.toNatClampNeg hj9 M11) (P_lt hj9 (by decide)) (sh_X4 hj9) rfl (cwV 0 F.1.2.2.2.2 gX8_steps_X4_searched rfl rfl rfl hdV_X4_searched ⟨by decide, by decide⟩) rfl rfl (Nat.le_of_ble_eq_true rfl) dX8_steps_40 ⟨Nat.zero_le _, Nat.zero_le _⟩ (fun r12 M13 => ?_)
          refine g_iload_n (pc := 43) F 2 dX8_steps_43 rfl ?_
          refine g_iload_n (pc := 44) F 3 dX8_steps_44 rfl ?_
          refine g_iload (pc := 45) F 4 dX8_steps_45 rfl ?_
          refine g_vi (pc := 47) (k := 13 * a1.toNatClampNeg + 8) (ci := 4) (fs := (oX4 ad (a1.toNatClampNeg))) (C := RX4) (T := TX4) (N := 14) (As := [.int a2, .int a3, .int a4]) (st := []) F (c_X4_lengthTo l D ad cs F.2.2.1 fu a1.toNatClampNeg a2 a3 a4 hj9 M13) (P_lt hj9 (by decide)) (sh_X4 hj9) rfl (cwV 3 F.1.2.2.2.2 gX8_steps_X4_lengthTo rfl rfl rfl hdV_X4_lengthTo ⟨by decide, by decide⟩) rfl rfl (Nat.le_of_ble_eq_true rfl) dX8_steps_47 ⟨Nat.zero_le _, Nat.zero_le _⟩ (fun r14 M15 => ?_)
          exact g_iret (pc := 50) F hr hlk dX8_steps_50
        · refine g_iconst (pc := 29) (v := (-1)) F dX8_steps_29 (by decide) ?_
          exact g_iret (pc := 30) F hr hlk dX8_steps_30
-- X8_way
def rmX8_way : Room := { frames := 5, cells := 0, slots := 0, locals := 128 }
def f_X8_way (fu : Nat) (a1 : Int32) (a2 : Int32) (a3 : Int32) (a4 : Int32) (a5 : Int32) (M : Mem) : Option (Int32 × Mem) := bnd (f_X8_isProgram a1 M) (fun r1 M2 => if r1 = 0 then some ((-1), M2) else bnd (f_X8_isPhase a2 M2) (fun r3 M4 => if r3 = 0 then some ((-1), M4) else bnd (f_X8_isValue a3 M4) (fun r5 M6 => if r5 = 0 then some ((-1), M6) else bnd (f_X8_isValue a4 M6) (fun r7 M8 => if r7 = 0 then some ((-1), M8) else if ix a1 4 then bnd (f_X5_paths a1.toNatClampNeg M8) (fun r10 M11 => bnd (f_X4_searched fu a1.toNatClampNeg M11) (fun r12 M13 => bnd (f_X4_instructionTo fu a1.toNatClampNeg a2 a3 a4 a5 M13) (fun r14 M15 => some (r14, M15)))) else none))))
set_option maxRecDepth 20000 in
theorem kiX8_way_X8 : ∀ w ∈ u_ws RX8 TX8 6, w ∈ wsX8_way := by decide +kernel
set_option maxRecDepth 20000 in
theorem klX8_way_11 : Cond.fieldLink RX8 11 "DoorLister" "programs" "[LDoorLister$Program;" ∈ wsX8_way := by decide +kernel
set_option maxHeartbeats 4000000 in
set_option maxRecDepth 100000 in
theorem c_X8_way (l : Launch) (D : va_G) (ad : Nat → Nat) (cs : Cs) (hi : Inj ad) (fu : Nat) (a1 : Int32) (a2 : Int32) (a3 : Int32) (a4 : Int32) (a5 : Int32) (M : Mem) : MI l yX8_way wsX8_way rmX8_way D ad cs [.ref (ad (0)), .int a1, .int a2, .int a3, .int a4, .int a5] M (f_X8_way fu a1 a2 a3 a4 a5 M) := by
  refine Mx.of (cc := cX8_way) (maxL := 6) (ret := (some .int)) (own := RX8) (lv := [(0, .ref (ad (0))), (1, .int a1), (2, .int a2), (3, .int a3), (4, .int a4), (5, .int a5)]) (by decide) rfl rfl (Nat.le_of_ble_eq_true rfl) rfl hi ?_
  intro p e s m below meth c F hr hlk
  unfold f_X8_way
  refine g_iload_n (pc := 0) F 1 dX8_way_0 rfl ?_
  refine g_si (pc := 1) (As := [.int a1]) (st := []) F (c_X8_isProgram l D ad cs F.2.2.1 a1 M) (va_cwS 1 F.1.2.2.2.2 gX8_way_X8_isProgram rfl rfl rfl hdS_X8_isProgram ⟨by decide, by decide⟩) rfl rfl (Nat.le_of_ble_eq_true rfl) dX8_way_1 ⟨Nat.zero_le _, Nat.zero_le _⟩ (fun r1 M2 => ?_)
  refine g_if_eq (pc := 4) F 29 dX8_way_4 (by decide) ?_ ?_
  · refine g_iconst (pc := 29) (v := (-1)) F dX8_way_29 (by decide) ?_
    exact g_iret (pc := 30) F hr hlk dX8_way_30
  · refine g_iload_n (pc := 7) F 2 dX8_way_7 rfl ?_
    refine g_si (pc := 8) (As := [.int a2]) (st := []) F (c_X8_isPhase l D ad cs F.2.2.1 a2 M2) (va_cwS 1 F.1.2.2.2.2 gX8_way_X8_isPhase rfl rfl rfl hdS_X8_isPhase ⟨by decide, by decide⟩) rfl rfl (Nat.le_of_ble_eq_true rfl) dX8_way_8 ⟨Nat.zero_le _, Nat.zero_le _⟩ (fun r3 M4 => ?_)
    refine g_if_eq (pc := 11) F 29 dX8_way_11 (by decide) ?_ ?_
    · refine g_iconst (pc := 29) (v := (-1)) F dX8_way_29 (by decide) ?_
      exact g_iret (pc := 30) F hr hlk dX8_way_30
    · refine g_iload_n (pc := 14) F 3 dX8_way_14 rfl ?_
      refine g_si (pc := 15) (As := [.int a3]) (st := []) F (c_X8_isValue l D ad cs F.2.2.1 a3 M4) (va_cwS 1 F.1.2.2.2.2 gX8_way_X8_isValue rfl rfl rfl hdS_X8_isValue ⟨by decide, by decide⟩) rfl rfl (Nat.le_of_ble_eq_true rfl) dX8_way_15 ⟨Nat.zero_le _, Nat.zero_le _⟩ (fun r5 M6 => ?_)
      refine g_if_eq (pc := 18) F 29 dX8_way_18 (by decide) ?_ ?_
      · refine g_iconst (pc := 29) (v := (-1)) F dX8_way_29 (by decide) ?_
        exact g_iret (pc := 30) F hr hlk dX8_way_30
      · refine g_iload (pc := 21) F 4 dX8_way_21 rfl ?_
        refine g_si (pc := 23) (As := [.int a4]) (st := []) F (c_X8_isValue l D ad cs F.2.2.1 a4 M6) (va_cwS 1 F.1.2.2.2.2 gX8_way_X8_isValue rfl rfl rfl hdS_X8_isValue ⟨by decide, by decide⟩) rfl rfl (Nat.le_of_ble_eq_true rfl) dX8_way_23 ⟨Nat.zero_le _, Nat.zero_le _⟩ (fun r7 M8 => ?_)
        refine g_if_ne (pc := 26) F 31 dX8_way_26 (by decide) ?_ ?_
        · refine g_aload_n (pc := 31) F 0 dX8_way_31 rfl ?_
          refine g_get (pc := 32) (v := .ref (ad (1))) (k := 0) (ci := 8) (fs := (oX8 ad)) (C := RX8) (T := TX8) (N := 6) F (by decide) (fun _ => rfl) rfl kiX8_way_X8 0 (by decide) klX8_way_11 rfl rfl dX8_way_32 ?_
          refine g_iload_n (pc := 35) F 1 dX8_way_35 rfl ?_
          refine g_aald (pc := 36) F dX8_way_36 (fun hj9 => ?_)
          refine g_vr (pc := 37) (kr := 13 * a1.toNatClampNeg + 8) (k := 13 * a1.toNatClampNeg + 2) (ci := 5) (fs := (oX5 ad (a1.toNatClampNeg))) (C := RX5) (T := TX5) (N := 3) (As := []) (st := []) F (c_X5_paths l D ad cs F.2.2.1 a1.toNatClampNeg hj9 M8) (P_lt hj9 (by decide)) (sh_X5 hj9) rfl (cwV 0 F.1.2.2.2.2 gX8_way_X5_paths rfl rfl rfl hdV_X5_paths ⟨by decide, by decide⟩) rfl rfl (Nat.le_of_ble_eq_true rfl) dX8_way_37 ⟨Nat.zero_le _, Nat.zero_le _⟩ (fun r10 M11 => ?_)
          refine g_vr (pc := 40) (kr := 13 * a1.toNatClampNeg + 8) (k := 13 * a1.toNatClampNeg + 8) (ci := 4) (fs := (oX4 ad (a1.toNatClampNeg))) (C := RX4) (T := TX4) (N := 14) (As := []) (st := []) F (c_X4_searched l D ad cs F.2.2.1 fu a1.toNatClampNeg hj9 M11) (P_lt hj9 (by decide)) (sh_X4 hj9) rfl (cwV 0 F.1.2.2.2.2 gX8_way_X4_searched rfl rfl rfl hdV_X4_searched ⟨by decide, by decide⟩) rfl rfl (Nat.le_of_ble_eq_true rfl) dX8_way_40 ⟨Nat.zero_le _, Nat.zero_le _⟩ (fun r12 M13 => ?_)
          refine g_iload_n (pc := 43) F 2 dX8_way_43 rfl ?_
          refine g_iload_n (pc := 44) F 3 dX8_way_44 rfl ?_
          refine g_iload (pc := 45) F 4 dX8_way_45 rfl ?_
          refine g_iload (pc := 47) F 5 dX8_way_47 rfl ?_
          refine g_vi (pc := 49) (k := 13 * a1.toNatClampNeg + 8) (ci := 4) (fs := (oX4 ad (a1.toNatClampNeg))) (C := RX4) (T := TX4) (N := 14) (As := [.int a2, .int a3, .int a4, .int a5]) (st := []) F (c_X4_instructionTo l D ad cs F.2.2.1 fu a1.toNatClampNeg a2 a3 a4 a5 hj9 M13) (P_lt hj9 (by decide)) (sh_X4 hj9) rfl (cwV 4 F.1.2.2.2.2 gX8_way_X4_instructionTo rfl rfl rfl hdV_X4_instructionTo ⟨by decide, by decide⟩) rfl rfl (Nat.le_of_ble_eq_true rfl) dX8_way_49 ⟨Nat.zero_le _, Nat.zero_le _⟩ (fun r14 M15 => ?_)
          exact g_iret (pc := 52) F hr hlk dX8_way_52
        · refine g_iconst (pc := 29) (v := (-1)) F dX8_way_29 (by decide) ?_
          exact g_iret (pc := 30) F hr hlk dX8_way_30
-- X8_feed
def rmX8_feed : Room := { frames := 1, cells := 0, slots := 0, locals := 22 }
def f_X8_feed (fu : Nat) (a1 : Int32) (a2 : Int32) (a3 : Int32) (a4 : Int32) (a5 : Int32) (M : Mem) : Option (Int32 × Mem) := bnd (f_X7_hasRoom 20 M) (fun r1 M2 => if r1 = 0 then some ((-1), M2) else bnd (f_X7_addWord fu a1 M2) (fun r3 M4 => bnd (f_X7_addWord fu a2 M4) (fun r5 M6 => bnd (f_X7_addWord fu a3 M6) (fun r7 M8 => bnd (f_X7_addWord fu a4 M8) (fun r9 M10 => bnd (f_X7_addWord fu a5 M10) (fun r11 M12 => bnd (f_X7_size M12) (fun r13 M14 => some (r13, M14))))))))
set_option maxRecDepth 20000 in
theorem kiX8_feed_X8 : ∀ w ∈ u_ws RX8 TX8 6, w ∈ wsX8_feed := by decide +kernel
set_option maxRecDepth 20000 in
theorem klX8_feed_18 : Cond.fieldLink RX8 18 "DoorLister" "tape" "LDoorLister$Tape;" ∈ wsX8_feed := by decide +kernel
set_option maxHeartbeats 4000000 in
set_option maxRecDepth 100000 in
theorem c_X8_feed (l : Launch) (D : va_G) (ad : Nat → Nat) (cs : Cs) (hi : Inj ad) (fu : Nat) (a1 : Int32) (a2 : Int32) (a3 : Int32) (a4 : Int32) (a5 : Int32) (M : Mem) : MI l yX8_feed wsX8_feed rmX8_feed D ad cs [.ref (ad (0)), .int a1, .int a2, .int a3, .int a4, .int a5] M (f_X8_feed fu a1 a2 a3 a4 a5 M) := by
  refine Mx.of (cc := cX8_feed) (maxL := 6) (ret := (some .int)) (own := RX8) (lv := [(0, .ref (ad (0))), (1, .int a1), (2, .int a2), (3, .int a3), (4, .int a4), (5, .int a5)]) (by decide) rfl rfl (Nat.le_of_ble_eq_true rfl) rfl hi ?_
  intro p e s m below meth c F hr hlk
  unfold f_X8_feed
  refine g_aload_n (pc := 0) F 0 dX8_feed_0 rfl ?_
  refine g_get (pc := 1) (v := .ref (ad (58))) (k := 0) (ci := 8) (fs := (oX8 ad)) (C := RX8) (T := TX8) (N := 6) F (by decide) (fun _ => rfl) rfl kiX8_feed_X8 1 (by decide) klX8_feed_18 rfl rfl dX8_feed_1 ?_
  refine g_bipush (pc := 4) (v := 20) F dX8_feed_4 (by decide) ?_
  refine g_vi (pc := 6) (k := 58) (ci := 7) (fs := (oX7 ad)) (C := RX7) (T := TX7) (N := 2) (As := [.int 20]) (st := []) F (c_X7_hasRoom l D ad cs F.2.2.1 20 M) (by decide) (fun _ => rfl) rfl (cwV 1 F.1.2.2.2.2 gX8_feed_X7_hasRoom rfl rfl rfl hdV_X7_hasRoom ⟨by decide, by decide⟩) rfl rfl (Nat.le_of_ble_eq_true rfl) dX8_feed_6 ⟨Nat.zero_le _, Nat.zero_le _⟩ (fun r1 M2 => ?_)
  refine g_if_ne (pc := 9) F 14 dX8_feed_9 (by decide) ?_ ?_
  · refine g_aload_n (pc := 14) F 0 dX8_feed_14 rfl ?_
    refine g_get (pc := 15) (v := .ref (ad (58))) (k := 0) (ci := 8) (fs := (oX8 ad)) (C := RX8) (T := TX8) (N := 6) F (by decide) (fun _ => rfl) rfl kiX8_feed_X8 1 (by decide) klX8_feed_18 rfl rfl dX8_feed_15 ?_
    refine g_iload_n (pc := 18) F 1 dX8_feed_18 rfl ?_
    refine g_vv (pc := 19) (k := 58) (ci := 7) (fs := (oX7 ad)) (C := RX7) (T := TX7) (N := 2) (As := [.int a1]) (st := []) F (c_X7_addWord l D ad cs F.2.2.1 fu a1 M2) (by decide) (fun _ => rfl) rfl (cwV 1 F.1.2.2.2.2 gX8_feed_X7_addWord rfl rfl rfl hdV_X7_addWord ⟨by decide, by decide⟩) rfl rfl (Nat.le_of_ble_eq_true rfl) dX8_feed_19 ⟨Nat.zero_le _, Nat.zero_le _⟩ (fun r3 M4 => ?_)
    refine g_aload_n (pc := 22) F 0 dX8_feed_22 rfl ?_
    refine g_get (pc := 23) (v := .ref (ad (58))) (k := 0) (ci := 8) (fs := (oX8 ad)) (C := RX8) (T := TX8) (N := 6) F (by decide) (fun _ => rfl) rfl kiX8_feed_X8 1 (by decide) klX8_feed_18 rfl rfl dX8_feed_23 ?_
    refine g_iload_n (pc := 26) F 2 dX8_feed_26 rfl ?_
    refine g_vv (pc := 27) (k := 58) (ci := 7) (fs := (oX7 ad)) (C := RX7) (T := TX7) (N := 2) (As := [.int a2]) (st := []) F (c_X7_addWord l D ad cs F.2.2.1 fu a2 M4) (by decide) (fun _ => rfl) rfl (cwV 1 F.1.2.2.2.2 gX8_feed_X7_addWord rfl rfl rfl hdV_X7_addWord ⟨by decide, by decide⟩) rfl rfl (Nat.le_of_ble_eq_true rfl) dX8_feed_27 ⟨Nat.zero_le _, Nat.zero_le _⟩ (fun r5 M6 => ?_)
    refine g_aload_n (pc := 30) F 0 dX8_feed_30 rfl ?_
    refine g_get (pc := 31) (v := .ref (ad (58))) (k := 0) (ci := 8) (fs := (oX8 ad)) (C := RX8) (T := TX8) (N := 6) F (by decide) (fun _ => rfl) rfl kiX8_feed_X8 1 (by decide) klX8_feed_18 rfl rfl dX8_feed_31 ?_
    refine g_iload_n (pc := 34) F 3 dX8_feed_34 rfl ?_
    refine g_vv (pc := 35) (k := 58) (ci := 7) (fs := (oX7 ad)) (C := RX7) (T := TX7) (N := 2) (As := [.int a3]) (st := []) F (c_X7_addWord l D ad cs F.2.2.1 fu a3 M6) (by decide) (fun _ => rfl) rfl (cwV 1 F.1.2.2.2.2 gX8_feed_X7_addWord rfl rfl rfl hdV_X7_addWord ⟨by decide, by decide⟩) rfl rfl (Nat.le_of_ble_eq_true rfl) dX8_feed_35 ⟨Nat.zero_le _, Nat.zero_le _⟩ (fun r7 M8 => ?_)
    refine g_aload_n (pc := 38) F 0 dX8_feed_38 rfl ?_
    refine g_get (pc := 39) (v := .ref (ad (58))) (k := 0) (ci := 8) (fs := (oX8 ad)) (C := RX8) (T := TX8) (N := 6) F (by decide) (fun _ => rfl) rfl kiX8_feed_X8 1 (by decide) klX8_feed_18 rfl rfl dX8_feed_39 ?_
    refine g_iload (pc := 42) F 4 dX8_feed_42 rfl ?_
    refine g_vv (pc := 44) (k := 58) (ci := 7) (fs := (oX7 ad)) (C := RX7) (T := TX7) (N := 2) (As := [.int a4]) (st := []) F (c_X7_addWord l D ad cs F.2.2.1 fu a4 M8) (by decide) (fun _ => rfl) rfl (cwV 1 F.1.2.2.2.2 gX8_feed_X7_addWord rfl rfl rfl hdV_X7_addWord ⟨by decide, by decide⟩) rfl rfl (Nat.le_of_ble_eq_true rfl) dX8_feed_44 ⟨Nat.zero_le _, Nat.zero_le _⟩ (fun r9 M10 => ?_)
    refine g_aload_n (pc := 47) F 0 dX8_feed_47 rfl ?_
    refine g_get (pc := 48) (v := .ref (ad (58))) (k := 0) (ci := 8) (fs := (oX8 ad)) (C := RX8) (T := TX8) (N := 6) F (by decide) (fun _ => rfl) rfl kiX8_feed_X8 1 (by decide) klX8_feed_18 rfl rfl dX8_feed_48 ?_
    refine g_iload (pc := 51) F 5 dX8_feed_51 rfl ?_
    refine g_vv (pc := 53) (k := 58) (ci := 7) (fs := (oX7 ad)) (C := RX7) (T := TX7) (N := 2) (As := [.int a5]) (st := []) F (c_X7_addWord l D ad cs F.2.2.1 fu a5 M10) (by decide) (fun _ => rfl) rfl (cwV 1 F.1.2.2.2.2 gX8_feed_X7_addWord rfl rfl rfl hdV_X7_addWord ⟨by decide, by decide⟩) rfl rfl (Nat.le_of_ble_eq_true rfl) dX8_feed_53 ⟨Nat.zero_le _, Nat.zero_le _⟩ (fun r11 M12 => ?_)
    refine g_aload_n (pc := 56) F 0 dX8_feed_56 rfl ?_
    refine g_get (pc := 57) (v := .ref (ad (58))) (k := 0) (ci := 8) (fs := (oX8 ad)) (C := RX8) (T := TX8) (N := 6) F (by decide) (fun _ => rfl) rfl kiX8_feed_X8 1 (by decide) klX8_feed_18 rfl rfl dX8_feed_57 ?_
    refine g_vi (pc := 60) (k := 58) (ci := 7) (fs := (oX7 ad)) (C := RX7) (T := TX7) (N := 2) (As := []) (st := []) F (c_X7_size l D ad cs F.2.2.1 M12) (by decide) (fun _ => rfl) rfl (cwV 0 F.1.2.2.2.2 gX8_feed_X7_size rfl rfl rfl hdV_X7_size ⟨by decide, by decide⟩) rfl rfl (Nat.le_of_ble_eq_true rfl) dX8_feed_60 ⟨Nat.zero_le _, Nat.zero_le _⟩ (fun r13 M14 => ?_)
    exact g_iret (pc := 63) F hr hlk dX8_feed_63
  · refine g_iconst (pc := 12) (v := (-1)) F dX8_feed_12 (by decide) ?_
    exact g_iret (pc := 13) F hr hlk dX8_feed_13
-- X8_run
def rmX8_run : Room := { frames := 4, cells := 0, slots := 0, locals := 95 }
def f_X8_run (fu : Nat) (a1 : Int32) (a2 : Int32) (M : Mem) : Option (Int32 × Mem) := bnd (f_X8_isProgram a1 M) (fun r1 M2 => if r1 = 0 then some ((-1), M2) else if a2 < 0 then some ((-1), M2) else bnd (f_X7_size M2) (fun r3 M4 => if a2 ≤ r3 then if ix a1 4 then bnd (f_X5_instructions a1.toNatClampNeg M4) (fun r6 M7 => if ix a1 4 then bnd (f_X5_called a1.toNatClampNeg M7) (fun r9 M10 => bnd (f_X3_perform fu a1.toNatClampNeg a2 (13 * a1.toNatClampNeg + 13) M10) (fun r11 M12 => bnd (f_X7_empty M12) (fun r13 M14 => some (r11, M14)))) else none) else none else some ((-1), M4)))
set_option maxRecDepth 20000 in
theorem kiX8_run_X8 : ∀ w ∈ u_ws RX8 TX8 6, w ∈ wsX8_run := by decide +kernel
set_option maxRecDepth 20000 in
theorem klX8_run_18 : Cond.fieldLink RX8 18 "DoorLister" "tape" "LDoorLister$Tape;" ∈ wsX8_run := by decide +kernel
set_option maxRecDepth 20000 in
theorem klX8_run_25 : Cond.fieldLink RX8 25 "DoorLister" "machine" "LDoorLister$Machine;" ∈ wsX8_run := by decide +kernel
set_option maxRecDepth 20000 in
theorem klX8_run_11 : Cond.fieldLink RX8 11 "DoorLister" "programs" "[LDoorLister$Program;" ∈ wsX8_run := by decide +kernel
set_option maxHeartbeats 4000000 in
set_option maxRecDepth 100000 in
theorem c_X8_run (l : Launch) (D : va_G) (ad : Nat → Nat) (cs : Cs) (hi : Inj ad) (fu : Nat) (a1 : Int32) (a2 : Int32) (M : Mem) : MI l yX8_run wsX8_run rmX8_run D ad cs [.ref (ad (0)), .int a1, .int a2] M (f_X8_run fu a1 a2 M) := by
  refine Mx.of (cc := cX8_run) (maxL := 4) (ret := (some .int)) (own := RX8) (lv := [(0, .ref (ad (0))), (1, .int a1), (2, .int a2)]) (by decide) rfl rfl (Nat.le_of_ble_eq_true rfl) rfl hi ?_
  intro p e s m below meth c F hr hlk
  unfold f_X8_run
  refine g_iload_n (pc := 0) F 1 dX8_run_0 rfl ?_
  refine g_si (pc := 1) (As := [.int a1]) (st := []) F (c_X8_isProgram l D ad cs F.2.2.1 a1 M) (va_cwS 1 F.1.2.2.2.2 gX8_run_X8_isProgram rfl rfl rfl hdS_X8_isProgram ⟨by decide, by decide⟩) rfl rfl (Nat.le_of_ble_eq_true rfl) dX8_run_1 ⟨Nat.zero_le _, Nat.zero_le _⟩ (fun r1 M2 => ?_)
  refine g_if_eq (pc := 4) F 22 dX8_run_4 (by decide) ?_ ?_
  · refine g_iconst (pc := 22) (v := (-1)) F dX8_run_22 (by decide) ?_
    exact g_iret (pc := 23) F hr hlk dX8_run_23
  · refine g_iload_n (pc := 7) F 2 dX8_run_7 rfl ?_
    refine g_if_lt (pc := 8) F 22 dX8_run_8 (by decide) ?_ ?_
    · refine g_iconst (pc := 22) (v := (-1)) F dX8_run_22 (by decide) ?_
      exact g_iret (pc := 23) F hr hlk dX8_run_23
    · refine g_iload_n (pc := 11) F 2 dX8_run_11 rfl ?_
      refine g_aload_n (pc := 12) F 0 dX8_run_12 rfl ?_
      refine g_get (pc := 13) (v := .ref (ad (58))) (k := 0) (ci := 8) (fs := (oX8 ad)) (C := RX8) (T := TX8) (N := 6) F (by decide) (fun _ => rfl) rfl kiX8_run_X8 1 (by decide) klX8_run_18 rfl rfl dX8_run_13 ?_
      refine g_vi (pc := 16) (k := 58) (ci := 7) (fs := (oX7 ad)) (C := RX7) (T := TX7) (N := 2) (As := []) (st := [.int a2]) F (c_X7_size l D ad cs F.2.2.1 M2) (by decide) (fun _ => rfl) rfl (cwV 0 F.1.2.2.2.2 gX8_run_X7_size rfl rfl rfl hdV_X7_size ⟨by decide, by decide⟩) rfl rfl (Nat.le_of_ble_eq_true rfl) dX8_run_16 ⟨Nat.zero_le _, Nat.zero_le _⟩ (fun r3 M4 => ?_)
      refine g_icmp_le (pc := 19) F 24 dX8_run_19 (by decide) ?_ ?_
      · refine g_aload_n (pc := 24) F 0 dX8_run_24 rfl ?_
        refine g_get (pc := 25) (v := .ref (ad (60))) (k := 0) (ci := 8) (fs := (oX8 ad)) (C := RX8) (T := TX8) (N := 6) F (by decide) (fun _ => rfl) rfl kiX8_run_X8 2 (by decide) klX8_run_25 rfl rfl dX8_run_25 ?_
        refine g_aload_n (pc := 28) F 0 dX8_run_28 rfl ?_
        refine g_get (pc := 29) (v := .ref (ad (1))) (k := 0) (ci := 8) (fs := (oX8 ad)) (C := RX8) (T := TX8) (N := 6) F (by decide) (fun _ => rfl) rfl kiX8_run_X8 0 (by decide) klX8_run_11 rfl rfl dX8_run_29 ?_
        refine g_iload_n (pc := 32) F 1 dX8_run_32 rfl ?_
        refine g_aald (pc := 33) F dX8_run_33 (fun hj5 => ?_)
        refine g_vr (pc := 34) (kr := 13 * a1.toNatClampNeg + 3) (k := 13 * a1.toNatClampNeg + 2) (ci := 5) (fs := (oX5 ad (a1.toNatClampNeg))) (C := RX5) (T := TX5) (N := 3) (As := []) (st := [.ref (ad (60))]) F (c_X5_instructions l D ad cs F.2.2.1 a1.toNatClampNeg hj5 M4) (P_lt hj5 (by decide)) (sh_X5 hj5) rfl (cwV 0 F.1.2.2.2.2 gX8_run_X5_instructions rfl rfl rfl hdV_X5_instructions ⟨by decide, by decide⟩) rfl rfl (Nat.le_of_ble_eq_true rfl) dX8_run_34 ⟨Nat.zero_le _, Nat.zero_le _⟩ (fun r6 M7 => ?_)
        refine g_aload_n (pc := 37) F 0 dX8_run_37 rfl ?_
        refine g_get (pc := 38) (v := .ref (ad (58))) (k := 0) (ci := 8) (fs := (oX8 ad)) (C := RX8) (T := TX8) (N := 6) F (by decide) (fun _ => rfl) rfl kiX8_run_X8 1 (by decide) klX8_run_18 rfl rfl dX8_run_38 ?_
        refine g_iload_n (pc := 41) F 2 dX8_run_41 rfl ?_
        refine g_aload_n (pc := 42) F 0 dX8_run_42 rfl ?_
        refine g_get (pc := 43) (v := .ref (ad (1))) (k := 0) (ci := 8) (fs := (oX8 ad)) (C := RX8) (T := TX8) (N := 6) F (by decide) (fun _ => rfl) rfl kiX8_run_X8 0 (by decide) klX8_run_11 rfl rfl dX8_run_43 ?_
        refine g_iload_n (pc := 46) F 1 dX8_run_46 rfl ?_
        refine g_aald (pc := 47) F dX8_run_47 (fun hj8 => ?_)
        refine g_vr (pc := 48) (kr := 13 * a1.toNatClampNeg + 13) (k := 13 * a1.toNatClampNeg + 2) (ci := 5) (fs := (oX5 ad (a1.toNatClampNeg))) (C := RX5) (T := TX5) (N := 3) (As := []) (st := [.int a2, .ref (ad (58)), .ref (ad (13 * a1.toNatClampNeg + 3)), .ref (ad (60))]) F (c_X5_called l D ad cs F.2.2.1 a1.toNatClampNeg hj8 M7) (P_lt hj8 (by decide)) (sh_X5 hj8) rfl (cwV 0 F.1.2.2.2.2 gX8_run_X5_called rfl rfl rfl hdV_X5_called ⟨by decide, by decide⟩) rfl rfl (Nat.le_of_ble_eq_true rfl) dX8_run_48 ⟨Nat.zero_le _, Nat.zero_le _⟩ (fun r9 M10 => ?_)
        refine g_vi (pc := 51) (k := 60) (ci := 3) (fs := (oX3 ad)) (C := RX3) (T := TX3) (N := 6) (As := [.ref (ad (13 * a1.toNatClampNeg + 3)), .ref (ad (58)), .int a2, .ref (ad (13 * a1.toNatClampNeg + 13))]) (st := []) F (c_X3_perform l D ad cs F.2.2.1 fu a1.toNatClampNeg a2 (13 * a1.toNatClampNeg + 13) hj5 (tab_d hj8) M10) (by decide) (fun _ => rfl) rfl (cwV 4 F.1.2.2.2.2 gX8_run_X3_perform rfl rfl rfl hdV_X3_perform ⟨by decide, by decide⟩) rfl rfl (Nat.le_of_ble_eq_true rfl) dX8_run_51 ⟨Nat.zero_le _, Nat.zero_le _⟩ (fun r11 M12 => ?_)
        refine g_istore_n (pc := 54) F [(0, .ref (ad (0))), (1, .int a1), (2, .int a2), (3, .int r11)] dX8_run_54 (by decide) rfl rfl rfl ?_
        refine g_aload_n (pc := 55) F 0 dX8_run_55 rfl ?_
        refine g_get (pc := 56) (v := .ref (ad (58))) (k := 0) (ci := 8) (fs := (oX8 ad)) (C := RX8) (T := TX8) (N := 6) F (by decide) (fun _ => rfl) rfl kiX8_run_X8 1 (by decide) klX8_run_18 rfl rfl dX8_run_56 ?_
        refine g_vv (pc := 59) (k := 58) (ci := 7) (fs := (oX7 ad)) (C := RX7) (T := TX7) (N := 2) (As := []) (st := []) F (c_X7_empty l D ad cs F.2.2.1 M12) (by decide) (fun _ => rfl) rfl (cwV 0 F.1.2.2.2.2 gX8_run_X7_empty rfl rfl rfl hdV_X7_empty ⟨by decide, by decide⟩) rfl rfl (Nat.le_of_ble_eq_true rfl) dX8_run_59 ⟨Nat.zero_le _, Nat.zero_le _⟩ (fun r13 M14 => ?_)
        refine g_iload_n (pc := 62) F 3 dX8_run_62 rfl ?_
        exact g_iret (pc := 63) F hr hlk dX8_run_63
      · refine g_iconst (pc := 22) (v := (-1)) F dX8_run_22 (by decide) ?_
        exact g_iret (pc := 23) F hr hlk dX8_run_23
-- X8_ended
def rmX8_ended : Room := { frames := 1, cells := 0, slots := 0, locals := 20 }
def f_X8_ended  (M : Mem) : Option (Int32 × Mem) := bnd (f_X3_latestEnd M) (fun r1 M2 => some (r1, M2))
set_option maxRecDepth 20000 in
theorem kiX8_ended_X8 : ∀ w ∈ u_ws RX8 TX8 6, w ∈ wsX8_ended := by decide +kernel
set_option maxRecDepth 20000 in
theorem klX8_ended_25 : Cond.fieldLink RX8 25 "DoorLister" "machine" "LDoorLister$Machine;" ∈ wsX8_ended := by decide +kernel
set_option maxHeartbeats 4000000 in
set_option maxRecDepth 100000 in
theorem c_X8_ended (l : Launch) (D : va_G) (ad : Nat → Nat) (cs : Cs) (hi : Inj ad)  (M : Mem) : MI l yX8_ended wsX8_ended rmX8_ended D ad cs [.ref (ad (0))] M (f_X8_ended M) := by
  refine Mx.of (cc := cX8_ended) (maxL := 1) (ret := (some .int)) (own := RX8) (lv := [(0, .ref (ad (0)))]) (by decide) rfl rfl (Nat.le_of_ble_eq_true rfl) rfl hi ?_
  intro p e s m below meth c F hr hlk
  unfold f_X8_ended
  refine g_aload_n (pc := 0) F 0 dX8_ended_0 rfl ?_
  refine g_get (pc := 1) (v := .ref (ad (60))) (k := 0) (ci := 8) (fs := (oX8 ad)) (C := RX8) (T := TX8) (N := 6) F (by decide) (fun _ => rfl) rfl kiX8_ended_X8 2 (by decide) klX8_ended_25 rfl rfl dX8_ended_1 ?_
  refine g_vi (pc := 4) (k := 60) (ci := 3) (fs := (oX3 ad)) (C := RX3) (T := TX3) (N := 6) (As := []) (st := []) F (c_X3_latestEnd l D ad cs F.2.2.1 M) (by decide) (fun _ => rfl) rfl (cwV 0 F.1.2.2.2.2 gX8_ended_X3_latestEnd rfl rfl rfl hdV_X3_latestEnd ⟨by decide, by decide⟩) rfl rfl (Nat.le_of_ble_eq_true rfl) dX8_ended_4 ⟨Nat.zero_le _, Nat.zero_le _⟩ (fun r1 M2 => ?_)
  exact g_iret (pc := 7) F hr hlk dX8_ended_7
-- X8_seen
def rmX8_seen : Room := { frames := 1, cells := 0, slots := 0, locals := 22 }
def f_X8_seen (a1 : Int32) (a2 : Int32) (a3 : Int32) (M : Mem) : Option (Int32 × Mem) := bnd (f_X8_isProgram a1 M) (fun r1 M2 => if r1 = 0 then some (0, M2) else bnd (f_X8_isPhase a2 M2) (fun r3 M4 => if r3 = 0 then some (0, M4) else bnd (f_X8_isValue a3 M4) (fun r5 M6 => if r5 = 0 then some (0, M6) else if ix a1 4 then bnd (f_X5_called a1.toNatClampNeg M6) (fun r8 M9 => bnd (f_X0_arguments (13 * a1.toNatClampNeg + 13) a2 a3 M9) (fun r10 M11 => some (r10, M11))) else none)))
set_option maxRecDepth 20000 in
theorem kiX8_seen_X8 : ∀ w ∈ u_ws RX8 TX8 6, w ∈ wsX8_seen := by decide +kernel
set_option maxRecDepth 20000 in
theorem klX8_seen_11 : Cond.fieldLink RX8 11 "DoorLister" "programs" "[LDoorLister$Program;" ∈ wsX8_seen := by decide +kernel
set_option maxHeartbeats 4000000 in
set_option maxRecDepth 100000 in
theorem c_X8_seen (l : Launch) (D : va_G) (ad : Nat → Nat) (cs : Cs) (hi : Inj ad) (a1 : Int32) (a2 : Int32) (a3 : Int32) (M : Mem) : MI l yX8_seen wsX8_seen rmX8_seen D ad cs [.ref (ad (0)), .int a1, .int a2, .int a3] M (f_X8_seen a1 a2 a3 M) := by
  refine Mx.of (cc := cX8_seen) (maxL := 4) (ret := (some .int)) (own := RX8) (lv := [(0, .ref (ad (0))), (1, .int a1), (2, .int a2), (3, .int a3)]) (by decide) rfl rfl (Nat.le_of_ble_eq_true rfl) rfl hi ?_
  intro p e s m below meth c F hr hlk
  unfold f_X8_seen
  refine g_iload_n (pc := 0) F 1 dX8_seen_0 rfl ?_
  refine g_si (pc := 1) (As := [.int a1]) (st := []) F (c_X8_isProgram l D ad cs F.2.2.1 a1 M) (va_cwS 1 F.1.2.2.2.2 gX8_seen_X8_isProgram rfl rfl rfl hdS_X8_isProgram ⟨by decide, by decide⟩) rfl rfl (Nat.le_of_ble_eq_true rfl) dX8_seen_1 ⟨Nat.zero_le _, Nat.zero_le _⟩ (fun r1 M2 => ?_)
  refine g_if_eq (pc := 4) F 21 dX8_seen_4 (by decide) ?_ ?_
  · refine g_iconst (pc := 21) (v := 0) F dX8_seen_21 (by decide) ?_
    exact g_iret (pc := 22) F hr hlk dX8_seen_22
  · refine g_iload_n (pc := 7) F 2 dX8_seen_7 rfl ?_
    refine g_si (pc := 8) (As := [.int a2]) (st := []) F (c_X8_isPhase l D ad cs F.2.2.1 a2 M2) (va_cwS 1 F.1.2.2.2.2 gX8_seen_X8_isPhase rfl rfl rfl hdS_X8_isPhase ⟨by decide, by decide⟩) rfl rfl (Nat.le_of_ble_eq_true rfl) dX8_seen_8 ⟨Nat.zero_le _, Nat.zero_le _⟩ (fun r3 M4 => ?_)
    refine g_if_eq (pc := 11) F 21 dX8_seen_11 (by decide) ?_ ?_
    · refine g_iconst (pc := 21) (v := 0) F dX8_seen_21 (by decide) ?_
      exact g_iret (pc := 22) F hr hlk dX8_seen_22
    · refine g_iload_n (pc := 14) F 3 dX8_seen_14 rfl ?_
      refine g_si (pc := 15) (As := [.int a3]) (st := []) F (c_X8_isValue l D ad cs F.2.2.1 a3 M4) (va_cwS 1 F.1.2.2.2.2 gX8_seen_X8_isValue rfl rfl rfl hdS_X8_isValue ⟨by decide, by decide⟩) rfl rfl (Nat.le_of_ble_eq_true rfl) dX8_seen_15 ⟨Nat.zero_le _, Nat.zero_le _⟩ (fun r5 M6 => ?_)
      refine g_if_ne (pc := 18) F 23 dX8_seen_18 (by decide) ?_ ?_
      · refine g_aload_n (pc := 23) F 0 dX8_seen_23 rfl ?_
        refine g_get (pc := 24) (v := .ref (ad (1))) (k := 0) (ci := 8) (fs := (oX8 ad)) (C := RX8) (T := TX8) (N := 6) F (by decide) (fun _ => rfl) rfl kiX8_seen_X8 0 (by decide) klX8_seen_11 rfl rfl dX8_seen_24 ?_
        refine g_iload_n (pc := 27) F 1 dX8_seen_27 rfl ?_
        refine g_aald (pc := 28) F dX8_seen_28 (fun hj7 => ?_)
        refine g_vr (pc := 29) (kr := 13 * a1.toNatClampNeg + 13) (k := 13 * a1.toNatClampNeg + 2) (ci := 5) (fs := (oX5 ad (a1.toNatClampNeg))) (C := RX5) (T := TX5) (N := 3) (As := []) (st := []) F (c_X5_called l D ad cs F.2.2.1 a1.toNatClampNeg hj7 M6) (P_lt hj7 (by decide)) (sh_X5 hj7) rfl (cwV 0 F.1.2.2.2.2 gX8_seen_X5_called rfl rfl rfl hdV_X5_called ⟨by decide, by decide⟩) rfl rfl (Nat.le_of_ble_eq_true rfl) dX8_seen_29 ⟨Nat.zero_le _, Nat.zero_le _⟩ (fun r8 M9 => ?_)
        refine g_iload_n (pc := 32) F 2 dX8_seen_32 rfl ?_
        refine g_iload_n (pc := 33) F 3 dX8_seen_33 rfl ?_
        refine g_vi (pc := 34) (k := 13 * a1.toNatClampNeg + 13) (ci := 0) (fs := (oX0 ad (13 * a1.toNatClampNeg + 13))) (C := RX0) (T := TX0) (N := 1) (As := [.int a2, .int a3]) (st := []) F (c_X0_arguments l D ad cs F.2.2.1 (13 * a1.toNatClampNeg + 13) a2 a3 (tab_d hj7) M9) (tab_lt (tab_d hj7)) (sh_X0 (tab_d hj7)) rfl (cwV 2 F.1.2.2.2.2 gX8_seen_X0_arguments rfl rfl rfl hdV_X0_arguments ⟨by decide, by decide⟩) rfl rfl (Nat.le_of_ble_eq_true rfl) dX8_seen_34 ⟨Nat.zero_le _, Nat.zero_le _⟩ (fun r10 M11 => ?_)
        exact g_iret (pc := 37) F hr hlk dX8_seen_37
      · refine g_iconst (pc := 21) (v := 0) F dX8_seen_21 (by decide) ?_
        exact g_iret (pc := 22) F hr hlk dX8_seen_22
-- X8_isSet
def rmX8_isSet : Room := { frames := 0, cells := 0, slots := 0, locals := 0 }
def f_X8_isSet (a0 : Int32) (M : Mem) : Option (Int32 × Mem) := if a0 < 0 then some (0, M) else if 16 ≤ a0 then some (0, M) else some (1, M)
set_option maxHeartbeats 4000000 in
set_option maxRecDepth 100000 in
theorem c_X8_isSet (l : Launch) (D : va_G) (ad : Nat → Nat) (cs : Cs) (hi : Inj ad) (a0 : Int32) (M : Mem) : MI l yX8_isSet wsX8_isSet rmX8_isSet D ad cs [.int a0] M (f_X8_isSet a0 M) := by
  refine Mx.of (cc := cX8_isSet) (maxL := 1) (ret := (some .boolean)) (own := RX8) (lv := [(0, .int a0)]) (by decide) rfl rfl (Nat.le_of_ble_eq_true rfl) rfl hi ?_
  intro p e s m below meth c F hr hlk
  unfold f_X8_isSet
  refine g_iload_n (pc := 0) F 0 dX8_isSet_0 rfl ?_
  refine g_if_lt (pc := 1) F 14 dX8_isSet_1 (by decide) ?_ ?_
  · refine g_iconst (pc := 14) (v := 0) F dX8_isSet_14 (by decide) ?_
    exact g_zret (pc := 15) F hr hlk rfl dX8_isSet_15
  · refine g_iload_n (pc := 4) F 0 dX8_isSet_4 rfl ?_
    refine g_bipush (pc := 5) (v := 16) F dX8_isSet_5 (by decide) ?_
    refine g_icmp_ge (pc := 7) F 14 dX8_isSet_7 (by decide) ?_ ?_
    · refine g_iconst (pc := 14) (v := 0) F dX8_isSet_14 (by decide) ?_
      exact g_zret (pc := 15) F hr hlk rfl dX8_isSet_15
    · refine g_iconst (pc := 10) (v := 1) F dX8_isSet_10 (by decide) ?_
      refine g_goto (pc := 11) F 15 dX8_isSet_11 (by decide) ?_
      exact g_zret (pc := 15) F hr hlk rfl dX8_isSet_15
-- X8_melted
def rmX8_melted : Room := { frames := 5, cells := 0, slots := 0, locals := 128 }
def f_X8_melted_L29 (fu : Nat) (x1 : Int32) (x2 : Int32) (x3 : Int32) (k : Mem → Int32 → Int32 → Option (Int32 × Mem)) : Nat → Mem → Int32 → Int32 → Option (Int32 × Mem)
  | 0, _, _, _ => none
  | n + 1, M, x4, x5 => if 4 ≤ x5 then k M x4 x5 else bnd (f_X8_holds x1 x5 M) (fun r7 M8 => if r7 = 0 then f_X8_melted_L29 fu x1 x2 x3 k n M8 x4 (x5 + 1) else if ix x5 4 then bnd (f_X5_paths x5.toNatClampNeg M8) (fun r10 M11 => bnd (f_X4_searched fu x5.toNatClampNeg M11) (fun r12 M13 => bnd (f_X4_calls x5.toNatClampNeg M13) (fun r14 M15 => bnd (f_X0_arguments (13 * x5.toNatClampNeg + 11) x2 x3 M15) (fun r16 M17 => nm (x4 ||| r16) (fun v18 => f_X8_melted_L29 fu x1 x2 x3 k n M17 v18 (x5 + 1)))))) else none)
def f_X8_melted (fu : Nat) (a1 : Int32) (a2 : Int32) (a3 : Int32) (M : Mem) : Option (Int32 × Mem) := bnd (f_X8_isSet a1 M) (fun r1 M2 => if r1 = 0 then some (0, M2) else bnd (f_X8_isPhase a2 M2) (fun r3 M4 => if r3 = 0 then some (0, M4) else bnd (f_X8_isValue a3 M4) (fun r5 M6 => if r5 = 0 then some (0, M6) else f_X8_melted_L29 fu a1 a2 a3 (fun M19 y20 y21 => some (y20, M19)) fu M6 0 0)))
set_option maxRecDepth 20000 in
theorem kiX8_melted_X8 : ∀ w ∈ u_ws RX8 TX8 6, w ∈ wsX8_melted := by decide +kernel
set_option maxRecDepth 20000 in
theorem klX8_melted_11 : Cond.fieldLink RX8 11 "DoorLister" "programs" "[LDoorLister$Program;" ∈ wsX8_melted := by decide +kernel
set_option maxHeartbeats 4000000 in
set_option maxRecDepth 100000 in
theorem w_X8_melted_L29 {p : Program} {l : Launch} {e : Env} {s : State} {m : MethodId} {args : Array Value} {below : List Frame} {meth : Method} {c : Code} {D : va_G} {ad : Nat → Nat} {cs : Cs} (fu : Nat) (x1 : Int32) (x2 : Int32) (x3 : Int32) (F : Fx p m c cX8_melted 6 s args wsX8_melted RX8 D ad cs (Ad ad)) (hr : meth.sig.returnType = (some .int)) (hlk : meth.locks = false) (k : Mem → Int32 → Int32 → Option (Int32 × Mem)) (hkx : ∀ (M : Mem) (x4 x5 : Int32), GoX p l e rmX8_melted s m args below meth c 0 0 6 (fun rM => MQ below (cQi D ad cs rM) args s 0 0 (Ad ad)) D ad cs (Ad ad) M 76 [(0, .ref (ad (0))), (1, .int x1), (2, .int x2), (3, .int x3), (4, .int x4), (5, .int x5)] [] (k M x4 x5)) : ∀ (n : Nat) (M : Mem) (x4 x5 : Int32), GoX p l e rmX8_melted s m args below meth c 0 0 6 (fun rM => MQ below (cQi D ad cs rM) args s 0 0 (Ad ad)) D ad cs (Ad ad) M 29 [(0, .ref (ad (0))), (1, .int x1), (2, .int x2), (3, .int x3), (4, .int x4), (5, .int x5)] [] (f_X8_melted_L29 fu x1 x2 x3 k n M x4 x5) := by
  intro n
  induction n with
  | zero => intro M x4 x5; exact g_none
  | succ n ih =>
    intro M x4 x5
    unfold f_X8_melted_L29
    refine g_iload (pc := 29) F 5 dX8_melted_29 rfl ?_
    refine g_iconst (pc := 31) (v := 4) F dX8_melted_31 (by decide) ?_
    refine g_icmp_ge (pc := 32) F 76 dX8_melted_32 (by decide) ?_ ?_
    · exact hkx _ _ _
    · refine g_iload_n (pc := 35) F 1 dX8_melted_35 rfl ?_
      refine g_iload (pc := 36) F 5 dX8_melted_36 rfl ?_
      refine g_si (pc := 38) (As := [.int x1, .int x5]) (st := []) F (c_X8_holds l D ad cs F.2.2.1 x1 x5 M) (va_cwS 2 F.1.2.2.2.2 gX8_melted_X8_holds rfl rfl rfl hdS_X8_holds ⟨by decide, by decide⟩) rfl rfl (Nat.le_of_ble_eq_true rfl) dX8_melted_38 ⟨Nat.zero_le _, Nat.zero_le _⟩ (fun r7 M8 => ?_)
      refine g_if_eq (pc := 41) F 70 dX8_melted_41 (by decide) ?_ ?_
      · refine g_iinc (pc := 70) (v := x5 + 1) F [(0, .ref (ad (0))), (1, .int x1), (2, .int x2), (3, .int x3), (4, .int x4), (5, .int (x5 + 1))] 5 dX8_melted_70 rfl rfl (by decide) rfl rfl rfl ?_
        refine g_goto (pc := 73) F 29 dX8_melted_73 (by decide) ?_
        exact ih _ _ _
      · refine g_iload (pc := 44) F 4 dX8_melted_44 rfl ?_
        refine g_aload_n (pc := 46) F 0 dX8_melted_46 rfl ?_
        refine g_get (pc := 47) (v := .ref (ad (1))) (k := 0) (ci := 8) (fs := (oX8 ad)) (C := RX8) (T := TX8) (N := 6) F (by decide) (fun _ => rfl) rfl kiX8_melted_X8 0 (by decide) klX8_melted_11 rfl rfl dX8_melted_47 ?_
        refine g_iload (pc := 50) F 5 dX8_melted_50 rfl ?_
        refine g_aald (pc := 52) F dX8_melted_52 (fun hj9 => ?_)
        refine g_vr (pc := 53) (kr := 13 * x5.toNatClampNeg + 8) (k := 13 * x5.toNatClampNeg + 2) (ci := 5) (fs := (oX5 ad (x5.toNatClampNeg))) (C := RX5) (T := TX5) (N := 3) (As := []) (st := [.int x4]) F (c_X5_paths l D ad cs F.2.2.1 x5.toNatClampNeg hj9 M8) (P_lt hj9 (by decide)) (sh_X5 hj9) rfl (cwV 0 F.1.2.2.2.2 gX8_melted_X5_paths rfl rfl rfl hdV_X5_paths ⟨by decide, by decide⟩) rfl rfl (Nat.le_of_ble_eq_true rfl) dX8_melted_53 ⟨Nat.zero_le _, Nat.zero_le _⟩ (fun r10 M11 => ?_)
        refine g_vr (pc := 56) (kr := 13 * x5.toNatClampNeg + 8) (k := 13 * x5.toNatClampNeg + 8) (ci := 4) (fs := (oX4 ad (x5.toNatClampNeg))) (C := RX4) (T := TX4) (N := 14) (As := []) (st := [.int x4]) F (c_X4_searched l D ad cs F.2.2.1 fu x5.toNatClampNeg hj9 M11) (P_lt hj9 (by decide)) (sh_X4 hj9) rfl (cwV 0 F.1.2.2.2.2 gX8_melted_X4_searched rfl rfl rfl hdV_X4_searched ⟨by decide, by decide⟩) rfl rfl (Nat.le_of_ble_eq_true rfl) dX8_melted_56 ⟨Nat.zero_le _, Nat.zero_le _⟩ (fun r12 M13 => ?_)
        refine g_vr (pc := 59) (kr := 13 * x5.toNatClampNeg + 11) (k := 13 * x5.toNatClampNeg + 8) (ci := 4) (fs := (oX4 ad (x5.toNatClampNeg))) (C := RX4) (T := TX4) (N := 14) (As := []) (st := [.int x4]) F (c_X4_calls l D ad cs F.2.2.1 x5.toNatClampNeg hj9 M13) (P_lt hj9 (by decide)) (sh_X4 hj9) rfl (cwV 0 F.1.2.2.2.2 gX8_melted_X4_calls rfl rfl rfl hdV_X4_calls ⟨by decide, by decide⟩) rfl rfl (Nat.le_of_ble_eq_true rfl) dX8_melted_59 ⟨Nat.zero_le _, Nat.zero_le _⟩ (fun r14 M15 => ?_)
        refine g_iload_n (pc := 62) F 2 dX8_melted_62 rfl ?_
        refine g_iload_n (pc := 63) F 3 dX8_melted_63 rfl ?_
        refine g_vi (pc := 64) (k := 13 * x5.toNatClampNeg + 11) (ci := 0) (fs := (oX0 ad (13 * x5.toNatClampNeg + 11))) (C := RX0) (T := TX0) (N := 1) (As := [.int x2, .int x3]) (st := [.int x4]) F (c_X0_arguments l D ad cs F.2.2.1 (13 * x5.toNatClampNeg + 11) x2 x3 (tab_c hj9) M15) (tab_lt (tab_c hj9)) (sh_X0 (tab_c hj9)) rfl (cwV 2 F.1.2.2.2.2 gX8_melted_X0_arguments rfl rfl rfl hdV_X0_arguments ⟨by decide, by decide⟩) rfl rfl (Nat.le_of_ble_eq_true rfl) dX8_melted_64 ⟨Nat.zero_le _, Nat.zero_le _⟩ (fun r16 M17 => ?_)
        refine g_ior (pc := 67) F dX8_melted_67 ?_
        refine g_nm (fun v18 => ?_)
        refine g_istore (pc := 68) F [(0, .ref (ad (0))), (1, .int x1), (2, .int x2), (3, .int x3), (4, .int v18), (5, .int x5)] dX8_melted_68 (by decide) rfl rfl rfl ?_
        refine g_iinc (pc := 70) (v := x5 + 1) F [(0, .ref (ad (0))), (1, .int x1), (2, .int x2), (3, .int x3), (4, .int v18), (5, .int (x5 + 1))] 5 dX8_melted_70 rfl rfl (by decide) rfl rfl rfl ?_
        refine g_goto (pc := 73) F 29 dX8_melted_73 (by decide) ?_
        exact ih _ _ _
set_option maxHeartbeats 4000000 in
set_option maxRecDepth 100000 in
theorem c_X8_melted (l : Launch) (D : va_G) (ad : Nat → Nat) (cs : Cs) (hi : Inj ad) (fu : Nat) (a1 : Int32) (a2 : Int32) (a3 : Int32) (M : Mem) : MI l yX8_melted wsX8_melted rmX8_melted D ad cs [.ref (ad (0)), .int a1, .int a2, .int a3] M (f_X8_melted fu a1 a2 a3 M) := by
  refine Mx.of (cc := cX8_melted) (maxL := 6) (ret := (some .int)) (own := RX8) (lv := [(0, .ref (ad (0))), (1, .int a1), (2, .int a2), (3, .int a3)]) (by decide) rfl rfl (Nat.le_of_ble_eq_true rfl) rfl hi ?_
  intro p e s m below meth c F hr hlk
  unfold f_X8_melted
  refine g_iload_n (pc := 0) F 1 dX8_melted_0 rfl ?_
  refine g_si (pc := 1) (As := [.int a1]) (st := []) F (c_X8_isSet l D ad cs F.2.2.1 a1 M) (va_cwS 1 F.1.2.2.2.2 gX8_melted_X8_isSet rfl rfl rfl hdS_X8_isSet ⟨by decide, by decide⟩) rfl rfl (Nat.le_of_ble_eq_true rfl) dX8_melted_1 ⟨Nat.zero_le _, Nat.zero_le _⟩ (fun r1 M2 => ?_)
  refine g_if_eq (pc := 4) F 21 dX8_melted_4 (by decide) ?_ ?_
  · refine g_iconst (pc := 21) (v := 0) F dX8_melted_21 (by decide) ?_
    exact g_iret (pc := 22) F hr hlk dX8_melted_22
  · refine g_iload_n (pc := 7) F 2 dX8_melted_7 rfl ?_
    refine g_si (pc := 8) (As := [.int a2]) (st := []) F (c_X8_isPhase l D ad cs F.2.2.1 a2 M2) (va_cwS 1 F.1.2.2.2.2 gX8_melted_X8_isPhase rfl rfl rfl hdS_X8_isPhase ⟨by decide, by decide⟩) rfl rfl (Nat.le_of_ble_eq_true rfl) dX8_melted_8 ⟨Nat.zero_le _, Nat.zero_le _⟩ (fun r3 M4 => ?_)
    refine g_if_eq (pc := 11) F 21 dX8_melted_11 (by decide) ?_ ?_
    · refine g_iconst (pc := 21) (v := 0) F dX8_melted_21 (by decide) ?_
      exact g_iret (pc := 22) F hr hlk dX8_melted_22
    · refine g_iload_n (pc := 14) F 3 dX8_melted_14 rfl ?_
      refine g_si (pc := 15) (As := [.int a3]) (st := []) F (c_X8_isValue l D ad cs F.2.2.1 a3 M4) (va_cwS 1 F.1.2.2.2.2 gX8_melted_X8_isValue rfl rfl rfl hdS_X8_isValue ⟨by decide, by decide⟩) rfl rfl (Nat.le_of_ble_eq_true rfl) dX8_melted_15 ⟨Nat.zero_le _, Nat.zero_le _⟩ (fun r5 M6 => ?_)
      refine g_if_ne (pc := 18) F 23 dX8_melted_18 (by decide) ?_ ?_
      · refine g_iconst (pc := 23) (v := 0) F dX8_melted_23 (by decide) ?_
        refine g_istore (pc := 24) F [(0, .ref (ad (0))), (1, .int a1), (2, .int a2), (3, .int a3), (4, .int 0)] dX8_melted_24 (by decide) rfl rfl rfl ?_
        refine g_iconst (pc := 26) (v := 0) F dX8_melted_26 (by decide) ?_
        refine g_istore (pc := 27) F [(0, .ref (ad (0))), (1, .int a1), (2, .int a2), (3, .int a3), (4, .int 0), (5, .int 0)] dX8_melted_27 (by decide) rfl rfl rfl ?_
        refine w_X8_melted_L29 fu a1 a2 a3 F hr hlk _ (fun M19 y20 y21 => ?_) _ _ _ _
        refine g_iload (pc := 76) F 4 dX8_melted_76 rfl ?_
        exact g_iret (pc := 78) F hr hlk dX8_melted_78
      · refine g_iconst (pc := 21) (v := 0) F dX8_melted_21 (by decide) ?_
        exact g_iret (pc := 22) F hr hlk dX8_melted_22
-- X8_fresh
def rmX8_fresh : Room := { frames := 5, cells := 0, slots := 0, locals := 128 }
def f_X8_fresh (fu : Nat) (a1 : Int32) (a2 : Int32) (a3 : Int32) (a4 : Int32) (M : Mem) : Option (Int32 × Mem) := bnd (f_X8_isProgram a1 M) (fun r1 M2 => if r1 = 0 then some (0, M2) else bnd (f_X8_isProgram a2 M2) (fun r3 M4 => if r3 = 0 then some (0, M4) else bnd (f_X8_isPhase a3 M4) (fun r5 M6 => if r5 = 0 then some (0, M6) else bnd (f_X8_isValue a4 M6) (fun r7 M8 => if r7 = 0 then some (0, M8) else if ix a2 4 then bnd (f_X5_paths a2.toNatClampNeg M8) (fun r10 M11 => bnd (f_X4_searched fu a2.toNatClampNeg M11) (fun r12 M13 => bnd (f_X4_calls a2.toNatClampNeg M13) (fun r14 M15 => bnd (f_X0_arguments (13 * a2.toNatClampNeg + 11) a3 a4 M15) (fun r16 M17 => if ix a1 4 then bnd (f_X5_paths a1.toNatClampNeg M17) (fun r19 M20 => bnd (f_X4_searched fu a1.toNatClampNeg M20) (fun r21 M22 => bnd (f_X4_calls a1.toNatClampNeg M22) (fun r23 M24 => bnd (f_X0_arguments (13 * a1.toNatClampNeg + 11) a3 a4 M24) (fun r25 M26 => some (r25 &&& (r16 ^^^ (-1 : Int32)), M26))))) else none)))) else none))))
set_option maxRecDepth 20000 in
theorem kiX8_fresh_X8 : ∀ w ∈ u_ws RX8 TX8 6, w ∈ wsX8_fresh := by decide +kernel
set_option maxRecDepth 20000 in
theorem klX8_fresh_11 : Cond.fieldLink RX8 11 "DoorLister" "programs" "[LDoorLister$Program;" ∈ wsX8_fresh := by decide +kernel
set_option maxHeartbeats 4000000 in
set_option maxRecDepth 100000 in
theorem c_X8_fresh (l : Launch) (D : va_G) (ad : Nat → Nat) (cs : Cs) (hi : Inj ad) (fu : Nat) (a1 : Int32) (a2 : Int32) (a3 : Int32) (a4 : Int32) (M : Mem) : MI l yX8_fresh wsX8_fresh rmX8_fresh D ad cs [.ref (ad (0)), .int a1, .int a2, .int a3, .int a4] M (f_X8_fresh fu a1 a2 a3 a4 M) := by
  refine Mx.of (cc := cX8_fresh) (maxL := 6) (ret := (some .int)) (own := RX8) (lv := [(0, .ref (ad (0))), (1, .int a1), (2, .int a2), (3, .int a3), (4, .int a4)]) (by decide) rfl rfl (Nat.le_of_ble_eq_true rfl) rfl hi ?_
  intro p e s m below meth c F hr hlk
  unfold f_X8_fresh
  refine g_iload_n (pc := 0) F 1 dX8_fresh_0 rfl ?_
  refine g_si (pc := 1) (As := [.int a1]) (st := []) F (c_X8_isProgram l D ad cs F.2.2.1 a1 M) (va_cwS 1 F.1.2.2.2.2 gX8_fresh_X8_isProgram rfl rfl rfl hdS_X8_isProgram ⟨by decide, by decide⟩) rfl rfl (Nat.le_of_ble_eq_true rfl) dX8_fresh_1 ⟨Nat.zero_le _, Nat.zero_le _⟩ (fun r1 M2 => ?_)
  refine g_if_eq (pc := 4) F 29 dX8_fresh_4 (by decide) ?_ ?_
  · refine g_iconst (pc := 29) (v := 0) F dX8_fresh_29 (by decide) ?_
    exact g_iret (pc := 30) F hr hlk dX8_fresh_30
  · refine g_iload_n (pc := 7) F 2 dX8_fresh_7 rfl ?_
    refine g_si (pc := 8) (As := [.int a2]) (st := []) F (c_X8_isProgram l D ad cs F.2.2.1 a2 M2) (va_cwS 1 F.1.2.2.2.2 gX8_fresh_X8_isProgram rfl rfl rfl hdS_X8_isProgram ⟨by decide, by decide⟩) rfl rfl (Nat.le_of_ble_eq_true rfl) dX8_fresh_8 ⟨Nat.zero_le _, Nat.zero_le _⟩ (fun r3 M4 => ?_)
    refine g_if_eq (pc := 11) F 29 dX8_fresh_11 (by decide) ?_ ?_
    · refine g_iconst (pc := 29) (v := 0) F dX8_fresh_29 (by decide) ?_
      exact g_iret (pc := 30) F hr hlk dX8_fresh_30
    · refine g_iload_n (pc := 14) F 3 dX8_fresh_14 rfl ?_
      refine g_si (pc := 15) (As := [.int a3]) (st := []) F (c_X8_isPhase l D ad cs F.2.2.1 a3 M4) (va_cwS 1 F.1.2.2.2.2 gX8_fresh_X8_isPhase rfl rfl rfl hdS_X8_isPhase ⟨by decide, by decide⟩) rfl rfl (Nat.le_of_ble_eq_true rfl) dX8_fresh_15 ⟨Nat.zero_le _, Nat.zero_le _⟩ (fun r5 M6 => ?_)
      refine g_if_eq (pc := 18) F 29 dX8_fresh_18 (by decide) ?_ ?_
      · refine g_iconst (pc := 29) (v := 0) F dX8_fresh_29 (by decide) ?_
        exact g_iret (pc := 30) F hr hlk dX8_fresh_30
      · refine g_iload (pc := 21) F 4 dX8_fresh_21 rfl ?_
        refine g_si (pc := 23) (As := [.int a4]) (st := []) F (c_X8_isValue l D ad cs F.2.2.1 a4 M6) (va_cwS 1 F.1.2.2.2.2 gX8_fresh_X8_isValue rfl rfl rfl hdS_X8_isValue ⟨by decide, by decide⟩) rfl rfl (Nat.le_of_ble_eq_true rfl) dX8_fresh_23 ⟨Nat.zero_le _, Nat.zero_le _⟩ (fun r7 M8 => ?_)
        refine g_if_ne (pc := 26) F 31 dX8_fresh_26 (by decide) ?_ ?_
        · refine g_aload_n (pc := 31) F 0 dX8_fresh_31 rfl ?_
          refine g_get (pc := 32) (v := .ref (ad (1))) (k := 0) (ci := 8) (fs := (oX8 ad)) (C := RX8) (T := TX8) (N := 6) F (by decide) (fun _ => rfl) rfl kiX8_fresh_X8 0 (by decide) klX8_fresh_11 rfl rfl dX8_fresh_32 ?_
          refine g_iload_n (pc := 35) F 2 dX8_fresh_35 rfl ?_
          refine g_aald (pc := 36) F dX8_fresh_36 (fun hj9 => ?_)
          refine g_vr (pc := 37) (kr := 13 * a2.toNatClampNeg + 8) (k := 13 * a2.toNatClampNeg + 2) (ci := 5) (fs := (oX5 ad (a2.toNatClampNeg))) (C := RX5) (T := TX5) (N := 3) (As := []) (st := []) F (c_X5_paths l D ad cs F.2.2.1 a2.toNatClampNeg hj9 M8) (P_lt hj9 (by decide)) (sh_X5 hj9) rfl (cwV 0 F.1.2.2.2.2 gX8_fresh_X5_paths rfl rfl rfl hdV_X5_paths ⟨by decide, by decide⟩) rfl rfl (Nat.le_of_ble_eq_true rfl) dX8_fresh_37 ⟨Nat.zero_le _, Nat.zero_le _⟩ (fun r10 M11 => ?_)
          refine g_vr (pc := 40) (kr := 13 * a2.toNatClampNeg + 8) (k := 13 * a2.toNatClampNeg + 8) (ci := 4) (fs := (oX4 ad (a2.toNatClampNeg))) (C := RX4) (T := TX4) (N := 14) (As := []) (st := []) F (c_X4_searched l D ad cs F.2.2.1 fu a2.toNatClampNeg hj9 M11) (P_lt hj9 (by decide)) (sh_X4 hj9) rfl (cwV 0 F.1.2.2.2.2 gX8_fresh_X4_searched rfl rfl rfl hdV_X4_searched ⟨by decide, by decide⟩) rfl rfl (Nat.le_of_ble_eq_true rfl) dX8_fresh_40 ⟨Nat.zero_le _, Nat.zero_le _⟩ (fun r12 M13 => ?_)
          refine g_vr (pc := 43) (kr := 13 * a2.toNatClampNeg + 11) (k := 13 * a2.toNatClampNeg + 8) (ci := 4) (fs := (oX4 ad (a2.toNatClampNeg))) (C := RX4) (T := TX4) (N := 14) (As := []) (st := []) F (c_X4_calls l D ad cs F.2.2.1 a2.toNatClampNeg hj9 M13) (P_lt hj9 (by decide)) (sh_X4 hj9) rfl (cwV 0 F.1.2.2.2.2 gX8_fresh_X4_calls rfl rfl rfl hdV_X4_calls ⟨by decide, by decide⟩) rfl rfl (Nat.le_of_ble_eq_true rfl) dX8_fresh_43 ⟨Nat.zero_le _, Nat.zero_le _⟩ (fun r14 M15 => ?_)
          refine g_iload_n (pc := 46) F 3 dX8_fresh_46 rfl ?_
          refine g_iload (pc := 47) F 4 dX8_fresh_47 rfl ?_
          refine g_vi (pc := 49) (k := 13 * a2.toNatClampNeg + 11) (ci := 0) (fs := (oX0 ad (13 * a2.toNatClampNeg + 11))) (C := RX0) (T := TX0) (N := 1) (As := [.int a3, .int a4]) (st := []) F (c_X0_arguments l D ad cs F.2.2.1 (13 * a2.toNatClampNeg + 11) a3 a4 (tab_c hj9) M15) (tab_lt (tab_c hj9)) (sh_X0 (tab_c hj9)) rfl (cwV 2 F.1.2.2.2.2 gX8_fresh_X0_arguments rfl rfl rfl hdV_X0_arguments ⟨by decide, by decide⟩) rfl rfl (Nat.le_of_ble_eq_true rfl) dX8_fresh_49 ⟨Nat.zero_le _, Nat.zero_le _⟩ (fun r16 M17 => ?_)
          refine g_istore (pc := 52) F [(0, .ref (ad (0))), (1, .int a1), (2, .int a2), (3, .int a3), (4, .int a4), (5, .int r16)] dX8_fresh_52 (by decide) rfl rfl rfl ?_
          refine g_aload_n (pc := 54) F 0 dX8_fresh_54 rfl ?_
          refine g_get (pc := 55) (v := .ref (ad (1))) (k := 0) (ci := 8) (fs := (oX8 ad)) (C := RX8) (T := TX8) (N := 6) F (by decide) (fun _ => rfl) rfl kiX8_fresh_X8 0 (by decide) klX8_fresh_11 rfl rfl dX8_fresh_55 ?_
          refine g_iload_n (pc := 58) F 1 dX8_fresh_58 rfl ?_
          refine g_aald (pc := 59) F dX8_fresh_59 (fun hj18 => ?_)
          refine g_vr (pc := 60) (kr := 13 * a1.toNatClampNeg + 8) (k := 13 * a1.toNatClampNeg + 2) (ci := 5) (fs := (oX5 ad (a1.toNatClampNeg))) (C := RX5) (T := TX5) (N := 3) (As := []) (st := []) F (c_X5_paths l D ad cs F.2.2.1 a1.toNatClampNeg hj18 M17) (P_lt hj18 (by decide)) (sh_X5 hj18) rfl (cwV 0 F.1.2.2.2.2 gX8_fresh_X5_paths rfl rfl rfl hdV_X5_paths ⟨by decide, by decide⟩) rfl rfl (Nat.le_of_ble_eq_true rfl) dX8_fresh_60 ⟨Nat.zero_le _, Nat.zero_le _⟩ (fun r19 M20 => ?_)
          refine g_vr (pc := 63) (kr := 13 * a1.toNatClampNeg + 8) (k := 13 * a1.toNatClampNeg + 8) (ci := 4) (fs := (oX4 ad (a1.toNatClampNeg))) (C := RX4) (T := TX4) (N := 14) (As := []) (st := []) F (c_X4_searched l D ad cs F.2.2.1 fu a1.toNatClampNeg hj18 M20) (P_lt hj18 (by decide)) (sh_X4 hj18) rfl (cwV 0 F.1.2.2.2.2 gX8_fresh_X4_searched rfl rfl rfl hdV_X4_searched ⟨by decide, by decide⟩) rfl rfl (Nat.le_of_ble_eq_true rfl) dX8_fresh_63 ⟨Nat.zero_le _, Nat.zero_le _⟩ (fun r21 M22 => ?_)
          refine g_vr (pc := 66) (kr := 13 * a1.toNatClampNeg + 11) (k := 13 * a1.toNatClampNeg + 8) (ci := 4) (fs := (oX4 ad (a1.toNatClampNeg))) (C := RX4) (T := TX4) (N := 14) (As := []) (st := []) F (c_X4_calls l D ad cs F.2.2.1 a1.toNatClampNeg hj18 M22) (P_lt hj18 (by decide)) (sh_X4 hj18) rfl (cwV 0 F.1.2.2.2.2 gX8_fresh_X4_calls rfl rfl rfl hdV_X4_calls ⟨by decide, by decide⟩) rfl rfl (Nat.le_of_ble_eq_true rfl) dX8_fresh_66 ⟨Nat.zero_le _, Nat.zero_le _⟩ (fun r23 M24 => ?_)
          refine g_iload_n (pc := 69) F 3 dX8_fresh_69 rfl ?_
          refine g_iload (pc := 70) F 4 dX8_fresh_70 rfl ?_
          refine g_vi (pc := 72) (k := 13 * a1.toNatClampNeg + 11) (ci := 0) (fs := (oX0 ad (13 * a1.toNatClampNeg + 11))) (C := RX0) (T := TX0) (N := 1) (As := [.int a3, .int a4]) (st := []) F (c_X0_arguments l D ad cs F.2.2.1 (13 * a1.toNatClampNeg + 11) a3 a4 (tab_c hj18) M24) (tab_lt (tab_c hj18)) (sh_X0 (tab_c hj18)) rfl (cwV 2 F.1.2.2.2.2 gX8_fresh_X0_arguments rfl rfl rfl hdV_X0_arguments ⟨by decide, by decide⟩) rfl rfl (Nat.le_of_ble_eq_true rfl) dX8_fresh_72 ⟨Nat.zero_le _, Nat.zero_le _⟩ (fun r25 M26 => ?_)
          refine g_iload (pc := 75) F 5 dX8_fresh_75 rfl ?_
          refine g_iconst (pc := 77) (v := (-1)) F dX8_fresh_77 (by decide) ?_
          refine g_ixor (pc := 78) F dX8_fresh_78 ?_
          refine g_iand (pc := 79) F dX8_fresh_79 ?_
          exact g_iret (pc := 80) F hr hlk dX8_fresh_80
        · refine g_iconst (pc := 29) (v := 0) F dX8_fresh_29 (by decide) ?_
          exact g_iret (pc := 30) F hr hlk dX8_fresh_30
-- X8_isPowers
def rmX8_isPowers : Room := { frames := 0, cells := 0, slots := 0, locals := 0 }
def f_X8_isPowers (a0 : Int32) (M : Mem) : Option (Int32 × Mem) := if a0 < 0 then some (0, M) else if 256 ≤ a0 then some (0, M) else some (1, M)
set_option maxHeartbeats 4000000 in
set_option maxRecDepth 100000 in
theorem c_X8_isPowers (l : Launch) (D : va_G) (ad : Nat → Nat) (cs : Cs) (hi : Inj ad) (a0 : Int32) (M : Mem) : MI l yX8_isPowers wsX8_isPowers rmX8_isPowers D ad cs [.int a0] M (f_X8_isPowers a0 M) := by
  refine Mx.of (cc := cX8_isPowers) (maxL := 1) (ret := (some .boolean)) (own := RX8) (lv := [(0, .int a0)]) (by decide) rfl rfl (Nat.le_of_ble_eq_true rfl) rfl hi ?_
  intro p e s m below meth c F hr hlk
  unfold f_X8_isPowers
  refine g_iload_n (pc := 0) F 0 dX8_isPowers_0 rfl ?_
  refine g_if_lt (pc := 1) F 15 dX8_isPowers_1 (by decide) ?_ ?_
  · refine g_iconst (pc := 15) (v := 0) F dX8_isPowers_15 (by decide) ?_
    exact g_zret (pc := 16) F hr hlk rfl dX8_isPowers_16
  · refine g_iload_n (pc := 4) F 0 dX8_isPowers_4 rfl ?_
    refine g_sipush (pc := 5) (v := 256) F dX8_isPowers_5 (by decide) ?_
    refine g_icmp_ge (pc := 8) F 15 dX8_isPowers_8 (by decide) ?_ ?_
    · refine g_iconst (pc := 15) (v := 0) F dX8_isPowers_15 (by decide) ?_
      exact g_zret (pc := 16) F hr hlk rfl dX8_isPowers_16
    · refine g_iconst (pc := 11) (v := 1) F dX8_isPowers_11 (by decide) ?_
      refine g_goto (pc := 12) F 16 dX8_isPowers_12 (by decide) ?_
      exact g_zret (pc := 16) F hr hlk rfl dX8_isPowers_16
-- X8_side
def rmX8_side : Room := { frames := 0, cells := 0, slots := 0, locals := 0 }
def f_X8_side (a0 : Int32) (a1 : Int32) (M : Mem) : Option (Int32 × Mem) := some ((usr (-1 : Int32) ((31 : Int32) - (a1 - a0))) <<< (a0 &&& 31), M)
set_option maxHeartbeats 4000000 in
set_option maxRecDepth 100000 in
theorem c_X8_side (l : Launch) (D : va_G) (ad : Nat → Nat) (cs : Cs) (hi : Inj ad) (a0 : Int32) (a1 : Int32) (M : Mem) : MI l yX8_side wsX8_side rmX8_side D ad cs [.int a0, .int a1] M (f_X8_side a0 a1 M) := by
  refine Mx.of (cc := cX8_side) (maxL := 2) (ret := (some .int)) (own := RX8) (lv := [(0, .int a0), (1, .int a1)]) (by decide) rfl rfl (Nat.le_of_ble_eq_true rfl) rfl hi ?_
  intro p e s m below meth c F hr hlk
  unfold f_X8_side
  refine g_iconst (pc := 0) (v := (-1)) F dX8_side_0 (by decide) ?_
  refine g_bipush (pc := 1) (v := 31) F dX8_side_1 (by decide) ?_
  refine g_iload_n (pc := 3) F 1 dX8_side_3 rfl ?_
  refine g_iload_n (pc := 4) F 0 dX8_side_4 rfl ?_
  refine g_isub (pc := 5) F dX8_side_5 ?_
  refine g_isub (pc := 6) F dX8_side_6 ?_
  refine g_iushr (pc := 7) F dX8_side_7 ?_
  refine g_iload_n (pc := 8) F 0 dX8_side_8 rfl ?_
  refine g_ishl (pc := 9) F dX8_side_9 ?_
  exact g_iret (pc := 10) F hr hlk dX8_side_10
-- X8_effect
def rmX8_effect : Room := { frames := 1, cells := 0, slots := 0, locals := 24 }
def f_X8_effect (a1 : Int32) (a2 : Int32) (a3 : Int32) (a4 : Int32) (a5 : Int32) (M : Mem) : Option (Int32 × Mem) := bnd (f_X8_isValue a1 M) (fun r1 M2 => if r1 = 0 then some ((-1), M2) else bnd (f_X8_isValue a2 M2) (fun r3 M4 => if r3 = 0 then some ((-1), M4) else bnd (f_X8_isValue a3 M4) (fun r5 M6 => if r5 = 0 then some ((-1), M6) else if a2 ≤ a3 then bnd (f_X8_isPowers a4 M6) (fun r7 M8 => if r7 = 0 then some ((-1), M8) else bnd (f_X8_isPowers a5 M8) (fun r9 M10 => if r9 = 0 then some ((-1), M10) else bnd (f_X8_side a2 a3 M10) (fun r11 M12 => bnd (f_X2_append a1 r11 a4 a5 M12) (fun r13 M14 => some (r13, M14))))) else some ((-1), M6))))
set_option maxRecDepth 20000 in
theorem kiX8_effect_X8 : ∀ w ∈ u_ws RX8 TX8 6, w ∈ wsX8_effect := by decide +kernel
set_option maxRecDepth 20000 in
theorem klX8_effect_32 : Cond.fieldLink RX8 32 "DoorLister" "house" "LDoorLister$House;" ∈ wsX8_effect := by decide +kernel
set_option maxHeartbeats 4000000 in
set_option maxRecDepth 100000 in
theorem c_X8_effect (l : Launch) (D : va_G) (ad : Nat → Nat) (cs : Cs) (hi : Inj ad) (a1 : Int32) (a2 : Int32) (a3 : Int32) (a4 : Int32) (a5 : Int32) (M : Mem) : MI l yX8_effect wsX8_effect rmX8_effect D ad cs [.ref (ad (0)), .int a1, .int a2, .int a3, .int a4, .int a5] M (f_X8_effect a1 a2 a3 a4 a5 M) := by
  refine Mx.of (cc := cX8_effect) (maxL := 6) (ret := (some .int)) (own := RX8) (lv := [(0, .ref (ad (0))), (1, .int a1), (2, .int a2), (3, .int a3), (4, .int a4), (5, .int a5)]) (by decide) rfl rfl (Nat.le_of_ble_eq_true rfl) rfl hi ?_
  intro p e s m below meth c F hr hlk
  unfold f_X8_effect
  refine g_iload_n (pc := 0) F 1 dX8_effect_0 rfl ?_
  refine g_si (pc := 1) (As := [.int a1]) (st := []) F (c_X8_isValue l D ad cs F.2.2.1 a1 M) (va_cwS 1 F.1.2.2.2.2 gX8_effect_X8_isValue rfl rfl rfl hdS_X8_isValue ⟨by decide, by decide⟩) rfl rfl (Nat.le_of_ble_eq_true rfl) dX8_effect_1 ⟨Nat.zero_le _, Nat.zero_le _⟩ (fun r1 M2 => ?_)
  refine g_if_eq (pc := 4) F 26 dX8_effect_4 (by decide) ?_ ?_
  · refine g_iconst (pc := 26) (v := (-1)) F dX8_effect_26 (by decide) ?_
    exact g_iret (pc := 27) F hr hlk dX8_effect_27
  · refine g_iload_n (pc := 7) F 2 dX8_effect_7 rfl ?_
    refine g_si (pc := 8) (As := [.int a2]) (st := []) F (c_X8_isValue l D ad cs F.2.2.1 a2 M2) (va_cwS 1 F.1.2.2.2.2 gX8_effect_X8_isValue rfl rfl rfl hdS_X8_isValue ⟨by decide, by decide⟩) rfl rfl (Nat.le_of_ble_eq_true rfl) dX8_effect_8 ⟨Nat.zero_le _, Nat.zero_le _⟩ (fun r3 M4 => ?_)
    refine g_if_eq (pc := 11) F 26 dX8_effect_11 (by decide) ?_ ?_
    · refine g_iconst (pc := 26) (v := (-1)) F dX8_effect_26 (by decide) ?_
      exact g_iret (pc := 27) F hr hlk dX8_effect_27
    · refine g_iload_n (pc := 14) F 3 dX8_effect_14 rfl ?_
      refine g_si (pc := 15) (As := [.int a3]) (st := []) F (c_X8_isValue l D ad cs F.2.2.1 a3 M4) (va_cwS 1 F.1.2.2.2.2 gX8_effect_X8_isValue rfl rfl rfl hdS_X8_isValue ⟨by decide, by decide⟩) rfl rfl (Nat.le_of_ble_eq_true rfl) dX8_effect_15 ⟨Nat.zero_le _, Nat.zero_le _⟩ (fun r5 M6 => ?_)
      refine g_if_eq (pc := 18) F 26 dX8_effect_18 (by decide) ?_ ?_
      · refine g_iconst (pc := 26) (v := (-1)) F dX8_effect_26 (by decide) ?_
        exact g_iret (pc := 27) F hr hlk dX8_effect_27
      · refine g_iload_n (pc := 21) F 3 dX8_effect_21 rfl ?_
        refine g_iload_n (pc := 22) F 2 dX8_effect_22 rfl ?_
        refine g_icmp_ge (pc := 23) F 28 dX8_effect_23 (by decide) ?_ ?_
        · refine g_iload (pc := 28) F 4 dX8_effect_28 rfl ?_
          refine g_si (pc := 30) (As := [.int a4]) (st := []) F (c_X8_isPowers l D ad cs F.2.2.1 a4 M6) (va_cwS 1 F.1.2.2.2.2 gX8_effect_X8_isPowers rfl rfl rfl hdS_X8_isPowers ⟨by decide, by decide⟩) rfl rfl (Nat.le_of_ble_eq_true rfl) dX8_effect_30 ⟨Nat.zero_le _, Nat.zero_le _⟩ (fun r7 M8 => ?_)
          refine g_if_eq (pc := 33) F 44 dX8_effect_33 (by decide) ?_ ?_
          · refine g_iconst (pc := 44) (v := (-1)) F dX8_effect_44 (by decide) ?_
            exact g_iret (pc := 45) F hr hlk dX8_effect_45
          · refine g_iload (pc := 36) F 5 dX8_effect_36 rfl ?_
            refine g_si (pc := 38) (As := [.int a5]) (st := []) F (c_X8_isPowers l D ad cs F.2.2.1 a5 M8) (va_cwS 1 F.1.2.2.2.2 gX8_effect_X8_isPowers rfl rfl rfl hdS_X8_isPowers ⟨by decide, by decide⟩) rfl rfl (Nat.le_of_ble_eq_true rfl) dX8_effect_38 ⟨Nat.zero_le _, Nat.zero_le _⟩ (fun r9 M10 => ?_)
            refine g_if_ne (pc := 41) F 46 dX8_effect_41 (by decide) ?_ ?_
            · refine g_aload_n (pc := 46) F 0 dX8_effect_46 rfl ?_
              refine g_get (pc := 47) (v := .ref (ad (62))) (k := 0) (ci := 8) (fs := (oX8 ad)) (C := RX8) (T := TX8) (N := 6) F (by decide) (fun _ => rfl) rfl kiX8_effect_X8 3 (by decide) klX8_effect_32 rfl rfl dX8_effect_47 ?_
              refine g_iload_n (pc := 50) F 1 dX8_effect_50 rfl ?_
              refine g_iload_n (pc := 51) F 2 dX8_effect_51 rfl ?_
              refine g_iload_n (pc := 52) F 3 dX8_effect_52 rfl ?_
              refine g_si (pc := 53) (As := [.int a2, .int a3]) (st := [.int a1, .ref (ad (62))]) F (c_X8_side l D ad cs F.2.2.1 a2 a3 M10) (va_cwS 2 F.1.2.2.2.2 gX8_effect_X8_side rfl rfl rfl hdS_X8_side ⟨by decide, by decide⟩) rfl rfl (Nat.le_of_ble_eq_true rfl) dX8_effect_53 ⟨Nat.zero_le _, Nat.zero_le _⟩ (fun r11 M12 => ?_)
              refine g_iload (pc := 56) F 4 dX8_effect_56 rfl ?_
              refine g_iload (pc := 58) F 5 dX8_effect_58 rfl ?_
              refine g_vi (pc := 60) (k := 62) (ci := 2) (fs := (oX2 ad)) (C := RX2) (T := TX2) (N := 6) (As := [.int a1, .int r11, .int a4, .int a5]) (st := []) F (c_X2_append l D ad cs F.2.2.1 a1 r11 a4 a5 M12) (by decide) (fun _ => rfl) rfl (cwV 4 F.1.2.2.2.2 gX8_effect_X2_append rfl rfl rfl hdV_X2_append ⟨by decide, by decide⟩) rfl rfl (Nat.le_of_ble_eq_true rfl) dX8_effect_60 ⟨Nat.zero_le _, Nat.zero_le _⟩ (fun r13 M14 => ?_)
              exact g_iret (pc := 63) F hr hlk dX8_effect_63
            · refine g_iconst (pc := 44) (v := (-1)) F dX8_effect_44 (by decide) ?_
              exact g_iret (pc := 45) F hr hlk dX8_effect_45
        · refine g_iconst (pc := 26) (v := (-1)) F dX8_effect_26 (by decide) ?_
          exact g_iret (pc := 27) F hr hlk dX8_effect_27
