/-! Written by wip/whole/gen.py: pure functions of methods, and the walks that tie the bytecode to them. -/
-- X8_gather
def rmX8_gather : Room := { frames := 5, cells := 0, slots := 0, locals := 128 }
def f_X8_gather_L18 (fu : Nat) (x1 : Int32) (k : Mem → Int32 → Option (Int32 × Mem)) : Nat → Mem → Int32 → Option (Int32 × Mem)
  | 0, _, _ => none
  | n + 1, M, x2 => if 4 ≤ x2 then k M x2 else bnd (f_X8_holds x1 x2 M) (fun r5 M6 => if r5 = 0 then f_X8_gather_L18 fu x1 k n M6 (x2 + 1) else if ix x2 4 then bnd (f_X5_paths x2.toNatClampNeg M6) (fun r8 M9 => bnd (f_X4_searched fu x2.toNatClampNeg M9) (fun r10 M11 => bnd (f_X4_calls x2.toNatClampNeg M11) (fun r12 M13 => bnd (f_X0_addTo fu (13 * x2.toNatClampNeg + 11) 68 1 M13) (fun r14 M15 => if ix x2 4 then bnd (f_X5_called x2.toNatClampNeg M15) (fun r17 M18 => bnd (f_X0_addTo fu (13 * x2.toNatClampNeg + 13) 69 1 M18) (fun r19 M20 => f_X8_gather_L18 fu x1 k n M20 (x2 + 1))) else none)))) else none)
def f_X8_gather (fu : Nat) (a1 : Int32) (M : Mem) : Option (Int32 × Mem) := bnd (f_J7_fill_53178 fu 68 32 0 M) (fun r1 M2 => bnd (f_J7_fill_53178 fu 69 32 0 M2) (fun r3 M4 => f_X8_gather_L18 fu a1 (fun M21 y22 => some (0, M21)) fu M4 0))
set_option maxRecDepth 20000 in
theorem kiX8_gather_X8 : ∀ w ∈ u_ws RX8 TX8 6, w ∈ wsX8_gather := by decide +kernel
set_option maxRecDepth 20000 in
theorem klX8_gather_36 : Cond.fieldLink RX8 36 "DoorLister" "list" "[I" ∈ wsX8_gather := by decide +kernel
set_option maxRecDepth 20000 in
theorem klX8_gather_40 : Cond.fieldLink RX8 40 "DoorLister" "kept" "[I" ∈ wsX8_gather := by decide +kernel
set_option maxRecDepth 20000 in
theorem klX8_gather_11 : Cond.fieldLink RX8 11 "DoorLister" "programs" "[LDoorLister$Program;" ∈ wsX8_gather := by decide +kernel
set_option maxHeartbeats 4000000 in
set_option maxRecDepth 100000 in
theorem w_X8_gather_L18 {p : Program} {l : Launch} {e : Env} {s : State} {m : MethodId} {args : Array Value} {below : List Frame} {meth : Method} {c : Code} {D : va_G} {ad : Nat → Nat} {cs : Cs} (fu : Nat) (x1 : Int32) (F : Fx p m c cX8_gather 3 s args wsX8_gather RX8 D ad cs (Ad ad)) (hr : meth.sig.returnType = none) (hlk : meth.locks = false) (k : Mem → Int32 → Option (Int32 × Mem)) (hkx : ∀ (M : Mem) (x2 : Int32), GoX p l e rmX8_gather s m args below meth c 0 0 3 (fun rM => MQ below (cQv D ad cs rM) args s 0 0 (Ad ad)) D ad cs (Ad ad) M 77 [(0, .ref (ad (0))), (1, .int x1), (2, .int x2)] [] (k M x2)) : ∀ (n : Nat) (M : Mem) (x2 : Int32), GoX p l e rmX8_gather s m args below meth c 0 0 3 (fun rM => MQ below (cQv D ad cs rM) args s 0 0 (Ad ad)) D ad cs (Ad ad) M 18 [(0, .ref (ad (0))), (1, .int x1), (2, .int x2)] [] (f_X8_gather_L18 fu x1 k n M x2) := by
  intro n
  induction n with
  | zero => intro M x2; exact g_none
  | succ n ih =>
    intro M x2
    unfold f_X8_gather_L18
    refine g_iload_n (pc := 18) F 2 dX8_gather_18 rfl ?_
    refine g_iconst (pc := 19) (v := 4) F dX8_gather_19 (by decide) ?_
    refine g_icmp_ge (pc := 20) F 77 dX8_gather_20 (by decide) ?_ ?_
    · exact hkx _ _
    · refine g_iload_n (pc := 23) F 1 dX8_gather_23 rfl ?_
      refine g_iload_n (pc := 24) F 2 dX8_gather_24 rfl ?_
      refine g_si (pc := 25) (As := [.int x1, .int x2]) (st := []) F (c_X8_holds l D ad cs F.2.2.1 x1 x2 M) (va_cwS 2 F.1.2.2.2.2 gX8_gather_X8_holds rfl rfl rfl hdS_X8_holds ⟨by decide, by decide⟩) rfl rfl (Nat.le_of_ble_eq_true rfl) dX8_gather_25 ⟨Nat.zero_le _, Nat.zero_le _⟩ (fun r5 M6 => ?_)
      refine g_if_eq (pc := 28) F 71 dX8_gather_28 (by decide) ?_ ?_
      · refine g_iinc (pc := 71) (v := x2 + 1) F [(0, .ref (ad (0))), (1, .int x1), (2, .int (x2 + 1))] 2 dX8_gather_71 rfl rfl (by decide) rfl rfl rfl ?_
        refine g_goto (pc := 74) F 18 dX8_gather_74 (by decide) ?_
        exact ih _ _
      · refine g_aload_n (pc := 31) F 0 dX8_gather_31 rfl ?_
        refine g_get (pc := 32) (v := .ref (ad (1))) (k := 0) (ci := 8) (fs := (oX8 ad)) (C := RX8) (T := TX8) (N := 6) F (by decide) (fun _ => rfl) rfl kiX8_gather_X8 0 (by decide) klX8_gather_11 rfl rfl dX8_gather_32 ?_
        refine g_iload_n (pc := 35) F 2 dX8_gather_35 rfl ?_
        refine g_aald (pc := 36) F dX8_gather_36 (fun hj7 => ?_)
        refine g_vr (pc := 37) (kr := 13 * x2.toNatClampNeg + 8) (k := 13 * x2.toNatClampNeg + 2) (ci := 5) (fs := (oX5 ad (x2.toNatClampNeg))) (C := RX5) (T := TX5) (N := 3) (As := []) (st := []) F (c_X5_paths l D ad cs F.2.2.1 x2.toNatClampNeg hj7 M6) (P_lt hj7 (by decide)) (sh_X5 hj7) rfl (cwV 0 F.1.2.2.2.2 gX8_gather_X5_paths rfl rfl rfl hdV_X5_paths ⟨by decide, by decide⟩) rfl rfl (Nat.le_of_ble_eq_true rfl) dX8_gather_37 ⟨Nat.zero_le _, Nat.zero_le _⟩ (fun r8 M9 => ?_)
        refine g_vr (pc := 40) (kr := 13 * x2.toNatClampNeg + 8) (k := 13 * x2.toNatClampNeg + 8) (ci := 4) (fs := (oX4 ad (x2.toNatClampNeg))) (C := RX4) (T := TX4) (N := 14) (As := []) (st := []) F (c_X4_searched l D ad cs F.2.2.1 fu x2.toNatClampNeg hj7 M9) (P_lt hj7 (by decide)) (sh_X4 hj7) rfl (cwV 0 F.1.2.2.2.2 gX8_gather_X4_searched rfl rfl rfl hdV_X4_searched ⟨by decide, by decide⟩) rfl rfl (Nat.le_of_ble_eq_true rfl) dX8_gather_40 ⟨Nat.zero_le _, Nat.zero_le _⟩ (fun r10 M11 => ?_)
        refine g_vr (pc := 43) (kr := 13 * x2.toNatClampNeg + 11) (k := 13 * x2.toNatClampNeg + 8) (ci := 4) (fs := (oX4 ad (x2.toNatClampNeg))) (C := RX4) (T := TX4) (N := 14) (As := []) (st := []) F (c_X4_calls l D ad cs F.2.2.1 x2.toNatClampNeg hj7 M11) (P_lt hj7 (by decide)) (sh_X4 hj7) rfl (cwV 0 F.1.2.2.2.2 gX8_gather_X4_calls rfl rfl rfl hdV_X4_calls ⟨by decide, by decide⟩) rfl rfl (Nat.le_of_ble_eq_true rfl) dX8_gather_43 ⟨Nat.zero_le _, Nat.zero_le _⟩ (fun r12 M13 => ?_)
        refine g_aload_n (pc := 46) F 0 dX8_gather_46 rfl ?_
        refine g_get (pc := 47) (v := .ref (ad (68))) (k := 0) (ci := 8) (fs := (oX8 ad)) (C := RX8) (T := TX8) (N := 6) F (by decide) (fun _ => rfl) rfl kiX8_gather_X8 4 (by decide) klX8_gather_36 rfl rfl dX8_gather_47 ?_
        refine g_iconst (pc := 50) (v := 1) F dX8_gather_50 (by decide) ?_
        refine g_vv (pc := 51) (k := 13 * x2.toNatClampNeg + 11) (ci := 0) (fs := (oX0 ad (13 * x2.toNatClampNeg + 11))) (C := RX0) (T := TX0) (N := 1) (As := [.ref (ad (68)), .int 1]) (st := []) F (c_X0_addTo l D ad cs F.2.2.1 fu (13 * x2.toNatClampNeg + 11) 68 1 (tab_c hj7) (Or.inr (Or.inl rfl)) M13) (tab_lt (tab_c hj7)) (sh_X0 (tab_c hj7)) rfl (cwV 2 F.1.2.2.2.2 gX8_gather_X0_addTo rfl rfl rfl hdV_X0_addTo ⟨by decide, by decide⟩) rfl rfl (Nat.le_of_ble_eq_true rfl) dX8_gather_51 ⟨Nat.zero_le _, Nat.zero_le _⟩ (fun r14 M15 => ?_)
        refine g_aload_n (pc := 54) F 0 dX8_gather_54 rfl ?_
        refine g_get (pc := 55) (v := .ref (ad (1))) (k := 0) (ci := 8) (fs := (oX8 ad)) (C := RX8) (T := TX8) (N := 6) F (by decide) (fun _ => rfl) rfl kiX8_gather_X8 0 (by decide) klX8_gather_11 rfl rfl dX8_gather_55 ?_
        refine g_iload_n (pc := 58) F 2 dX8_gather_58 rfl ?_
        refine g_aald (pc := 59) F dX8_gather_59 (fun hj16 => ?_)
        refine g_vr (pc := 60) (kr := 13 * x2.toNatClampNeg + 13) (k := 13 * x2.toNatClampNeg + 2) (ci := 5) (fs := (oX5 ad (x2.toNatClampNeg))) (C := RX5) (T := TX5) (N := 3) (As := []) (st := []) F (c_X5_called l D ad cs F.2.2.1 x2.toNatClampNeg hj16 M15) (P_lt hj16 (by decide)) (sh_X5 hj16) rfl (cwV 0 F.1.2.2.2.2 gX8_gather_X5_called rfl rfl rfl hdV_X5_called ⟨by decide, by decide⟩) rfl rfl (Nat.le_of_ble_eq_true rfl) dX8_gather_60 ⟨Nat.zero_le _, Nat.zero_le _⟩ (fun r17 M18 => ?_)
        refine g_aload_n (pc := 63) F 0 dX8_gather_63 rfl ?_
        refine g_get (pc := 64) (v := .ref (ad (69))) (k := 0) (ci := 8) (fs := (oX8 ad)) (C := RX8) (T := TX8) (N := 6) F (by decide) (fun _ => rfl) rfl kiX8_gather_X8 5 (by decide) klX8_gather_40 rfl rfl dX8_gather_64 ?_
        refine g_iconst (pc := 67) (v := 1) F dX8_gather_67 (by decide) ?_
        refine g_vv (pc := 68) (k := 13 * x2.toNatClampNeg + 13) (ci := 0) (fs := (oX0 ad (13 * x2.toNatClampNeg + 13))) (C := RX0) (T := TX0) (N := 1) (As := [.ref (ad (69)), .int 1]) (st := []) F (c_X0_addTo l D ad cs F.2.2.1 fu (13 * x2.toNatClampNeg + 13) 69 1 (tab_d hj16) (Or.inr (Or.inr rfl)) M18) (tab_lt (tab_d hj16)) (sh_X0 (tab_d hj16)) rfl (cwV 2 F.1.2.2.2.2 gX8_gather_X0_addTo rfl rfl rfl hdV_X0_addTo ⟨by decide, by decide⟩) rfl rfl (Nat.le_of_ble_eq_true rfl) dX8_gather_68 ⟨Nat.zero_le _, Nat.zero_le _⟩ (fun r19 M20 => ?_)
        refine g_iinc (pc := 71) (v := x2 + 1) F [(0, .ref (ad (0))), (1, .int x1), (2, .int (x2 + 1))] 2 dX8_gather_71 rfl rfl (by decide) rfl rfl rfl ?_
        refine g_goto (pc := 74) F 18 dX8_gather_74 (by decide) ?_
        exact ih _ _
set_option maxHeartbeats 4000000 in
set_option maxRecDepth 100000 in
theorem c_X8_gather (l : Launch) (D : va_G) (ad : Nat → Nat) (cs : Cs) (hi : Inj ad) (fu : Nat) (a1 : Int32) (M : Mem) : MV l yX8_gather wsX8_gather rmX8_gather D ad cs [.ref (ad (0)), .int a1] M (f_X8_gather fu a1 M) := by
  refine Mx.of (cc := cX8_gather) (maxL := 3) (ret := none) (own := RX8) (lv := [(0, .ref (ad (0))), (1, .int a1)]) (by decide) rfl rfl (Nat.le_of_ble_eq_true rfl) rfl hi ?_
  intro p e s m below meth c F hr hlk
  unfold f_X8_gather
  refine g_aload_n (pc := 0) F 0 dX8_gather_0 rfl ?_
  refine g_get (pc := 1) (v := .ref (ad (68))) (k := 0) (ci := 8) (fs := (oX8 ad)) (C := RX8) (T := TX8) (N := 6) F (by decide) (fun _ => rfl) rfl kiX8_gather_X8 4 (by decide) klX8_gather_36 rfl rfl dX8_gather_1 ?_
  refine g_iconst (pc := 4) (v := 0) F dX8_gather_4 (by decide) ?_
  refine g_sv (pc := 5) (As := [.ref (ad (68)), .int 0]) (st := []) F (c_J7_fill_53178 l D ad cs F.2.2.1 fu 68 32 0 (row_lt (Or.inr (Or.inl rfl))) (sh_row (Or.inr (Or.inl rfl))) M) (va_cwS 2 F.1.2.2.2.2 gX8_gather_J7_fill_53178 rfl rfl rfl hdS_J7_fill_53178 ⟨by decide, by decide⟩) rfl rfl (Nat.le_of_ble_eq_true rfl) dX8_gather_5 ⟨Nat.zero_le _, Nat.zero_le _⟩ (fun r1 M2 => ?_)
  refine g_aload_n (pc := 8) F 0 dX8_gather_8 rfl ?_
  refine g_get (pc := 9) (v := .ref (ad (69))) (k := 0) (ci := 8) (fs := (oX8 ad)) (C := RX8) (T := TX8) (N := 6) F (by decide) (fun _ => rfl) rfl kiX8_gather_X8 5 (by decide) klX8_gather_40 rfl rfl dX8_gather_9 ?_
  refine g_iconst (pc := 12) (v := 0) F dX8_gather_12 (by decide) ?_
  refine g_sv (pc := 13) (As := [.ref (ad (69)), .int 0]) (st := []) F (c_J7_fill_53178 l D ad cs F.2.2.1 fu 69 32 0 (row_lt (Or.inr (Or.inr rfl))) (sh_row (Or.inr (Or.inr rfl))) M2) (va_cwS 2 F.1.2.2.2.2 gX8_gather_J7_fill_53178 rfl rfl rfl hdS_J7_fill_53178 ⟨by decide, by decide⟩) rfl rfl (Nat.le_of_ble_eq_true rfl) dX8_gather_13 ⟨Nat.zero_le _, Nat.zero_le _⟩ (fun r3 M4 => ?_)
  refine g_iconst (pc := 16) (v := 0) F dX8_gather_16 (by decide) ?_
  refine g_istore_n (pc := 17) F [(0, .ref (ad (0))), (1, .int a1), (2, .int 0)] dX8_gather_17 (by decide) rfl rfl rfl ?_
  refine w_X8_gather_L18 fu a1 F hr hlk _ (fun M21 y22 => ?_) _ _ _
  exact g_vret (pc := 77) F hr hlk dX8_gather_77
-- X8_reach
def rmX8_reach : Room := { frames := 6, cells := 0, slots := 0, locals := 150 }
def f_X8_reach (fu : Nat) (a1 : Int32) (a2 : Int32) (M : Mem) : Option (Int32 × Mem) := bnd (f_X8_isSet a1 M) (fun r1 M2 => if r1 = 0 then some ((-1), M2) else bnd (f_X8_gather fu a1 M2) (fun r3 M4 => if a2 = 0 then bnd (f_X2_powersBy fu 68 M4) (fun r5 M6 => some (r5, M6)) else bnd (f_X2_powersBy fu 69 M4) (fun r7 M8 => some (r7, M8))))
set_option maxRecDepth 20000 in
theorem kiX8_reach_X8 : ∀ w ∈ u_ws RX8 TX8 6, w ∈ wsX8_reach := by decide +kernel
set_option maxRecDepth 20000 in
theorem klX8_reach_32 : Cond.fieldLink RX8 32 "DoorLister" "house" "LDoorLister$House;" ∈ wsX8_reach := by decide +kernel
set_option maxRecDepth 20000 in
theorem klX8_reach_36 : Cond.fieldLink RX8 36 "DoorLister" "list" "[I" ∈ wsX8_reach := by decide +kernel
set_option maxRecDepth 20000 in
theorem klX8_reach_40 : Cond.fieldLink RX8 40 "DoorLister" "kept" "[I" ∈ wsX8_reach := by decide +kernel
set_option maxHeartbeats 4000000 in
set_option maxRecDepth 100000 in
theorem c_X8_reach (l : Launch) (D : va_G) (ad : Nat → Nat) (cs : Cs) (hi : Inj ad) (fu : Nat) (a1 : Int32) (a2 : Int32) (M : Mem) : MI l yX8_reach wsX8_reach rmX8_reach D ad cs [.ref (ad (0)), .int a1, .int a2] M (f_X8_reach fu a1 a2 M) := by
  refine Mx.of (cc := cX8_reach) (maxL := 3) (ret := (some .int)) (own := RX8) (lv := [(0, .ref (ad (0))), (1, .int a1), (2, .int a2)]) (by decide) rfl rfl (Nat.le_of_ble_eq_true rfl) rfl hi ?_
  intro p e s m below meth c F hr hlk
  unfold f_X8_reach
  refine g_iload_n (pc := 0) F 1 dX8_reach_0 rfl ?_
  refine g_si (pc := 1) (As := [.int a1]) (st := []) F (c_X8_isSet l D ad cs F.2.2.1 a1 M) (va_cwS 1 F.1.2.2.2.2 gX8_reach_X8_isSet rfl rfl rfl hdS_X8_isSet ⟨by decide, by decide⟩) rfl rfl (Nat.le_of_ble_eq_true rfl) dX8_reach_1 ⟨Nat.zero_le _, Nat.zero_le _⟩ (fun r1 M2 => ?_)
  refine g_if_ne (pc := 4) F 9 dX8_reach_4 (by decide) ?_ ?_
  · refine g_aload_n (pc := 9) F 0 dX8_reach_9 rfl ?_
    refine g_iload_n (pc := 10) F 1 dX8_reach_10 rfl ?_
    refine g_vv (pc := 11) (k := 0) (ci := 8) (fs := (oX8 ad)) (C := RX8) (T := TX8) (N := 6) (As := [.int a1]) (st := []) F (c_X8_gather l D ad cs F.2.2.1 fu a1 M2) (by decide) (fun _ => rfl) rfl (cwV 1 F.1.2.2.2.2 gX8_reach_X8_gather rfl rfl rfl hdV_X8_gather ⟨by decide, by decide⟩) rfl rfl (Nat.le_of_ble_eq_true rfl) dX8_reach_11 ⟨Nat.zero_le _, Nat.zero_le _⟩ (fun r3 M4 => ?_)
    refine g_aload_n (pc := 14) F 0 dX8_reach_14 rfl ?_
    refine g_get (pc := 15) (v := .ref (ad (62))) (k := 0) (ci := 8) (fs := (oX8 ad)) (C := RX8) (T := TX8) (N := 6) F (by decide) (fun _ => rfl) rfl kiX8_reach_X8 3 (by decide) klX8_reach_32 rfl rfl dX8_reach_15 ?_
    refine g_iload_n (pc := 18) F 2 dX8_reach_18 rfl ?_
    refine g_if_eq (pc := 19) F 29 dX8_reach_19 (by decide) ?_ ?_
    · refine g_aload_n (pc := 29) F 0 dX8_reach_29 rfl ?_
      refine g_get (pc := 30) (v := .ref (ad (68))) (k := 0) (ci := 8) (fs := (oX8 ad)) (C := RX8) (T := TX8) (N := 6) F (by decide) (fun _ => rfl) rfl kiX8_reach_X8 4 (by decide) klX8_reach_36 rfl rfl dX8_reach_30 ?_
      refine g_vi (pc := 33) (k := 62) (ci := 2) (fs := (oX2 ad)) (C := RX2) (T := TX2) (N := 6) (As := [.ref (ad (68))]) (st := []) F (c_X2_powersBy l D ad cs F.2.2.1 fu 68 (Or.inr (Or.inl rfl)) M4) (by decide) (fun _ => rfl) rfl (cwV 1 F.1.2.2.2.2 gX8_reach_X2_powersBy rfl rfl rfl hdV_X2_powersBy ⟨by decide, by decide⟩) rfl rfl (Nat.le_of_ble_eq_true rfl) dX8_reach_33 ⟨Nat.zero_le _, Nat.zero_le _⟩ (fun r5 M6 => ?_)
      exact g_iret (pc := 36) F hr hlk dX8_reach_36
    · refine g_aload_n (pc := 22) F 0 dX8_reach_22 rfl ?_
      refine g_get (pc := 23) (v := .ref (ad (69))) (k := 0) (ci := 8) (fs := (oX8 ad)) (C := RX8) (T := TX8) (N := 6) F (by decide) (fun _ => rfl) rfl kiX8_reach_X8 5 (by decide) klX8_reach_40 rfl rfl dX8_reach_23 ?_
      refine g_goto (pc := 26) F 33 dX8_reach_26 (by decide) ?_
      refine g_vi (pc := 33) (k := 62) (ci := 2) (fs := (oX2 ad)) (C := RX2) (T := TX2) (N := 6) (As := [.ref (ad (69))]) (st := []) F (c_X2_powersBy l D ad cs F.2.2.1 fu 69 (Or.inr (Or.inr rfl)) M4) (by decide) (fun _ => rfl) rfl (cwV 1 F.1.2.2.2.2 gX8_reach_X2_powersBy rfl rfl rfl hdV_X2_powersBy ⟨by decide, by decide⟩) rfl rfl (Nat.le_of_ble_eq_true rfl) dX8_reach_33 ⟨Nat.zero_le _, Nat.zero_le _⟩ (fun r7 M8 => ?_)
      exact g_iret (pc := 36) F hr hlk dX8_reach_36
  · refine g_iconst (pc := 7) (v := (-1)) F dX8_reach_7 (by decide) ?_
    exact g_iret (pc := 8) F hr hlk dX8_reach_8
-- X8_isPower
def rmX8_isPower : Room := { frames := 0, cells := 0, slots := 0, locals := 0 }
def f_X8_isPower (a0 : Int32) (M : Mem) : Option (Int32 × Mem) := if a0 < 0 then some (0, M) else if 8 ≤ a0 then some (0, M) else some (1, M)
set_option maxHeartbeats 4000000 in
set_option maxRecDepth 100000 in
theorem c_X8_isPower (l : Launch) (D : va_G) (ad : Nat → Nat) (cs : Cs) (hi : Inj ad) (a0 : Int32) (M : Mem) : MI l yX8_isPower wsX8_isPower rmX8_isPower D ad cs [.int a0] M (f_X8_isPower a0 M) := by
  refine Mx.of (cc := cX8_isPower) (maxL := 1) (ret := (some .boolean)) (own := RX8) (lv := [(0, .int a0)]) (by decide) rfl rfl (Nat.le_of_ble_eq_true rfl) rfl hi ?_
  intro p e s m below meth c F hr hlk
  unfold f_X8_isPower
  refine g_iload_n (pc := 0) F 0 dX8_isPower_0 rfl ?_
  refine g_if_lt (pc := 1) F 14 dX8_isPower_1 (by decide) ?_ ?_
  · refine g_iconst (pc := 14) (v := 0) F dX8_isPower_14 (by decide) ?_
    exact g_zret (pc := 15) F hr hlk rfl dX8_isPower_15
  · refine g_iload_n (pc := 4) F 0 dX8_isPower_4 rfl ?_
    refine g_bipush (pc := 5) (v := 8) F dX8_isPower_5 (by decide) ?_
    refine g_icmp_ge (pc := 7) F 14 dX8_isPower_7 (by decide) ?_ ?_
    · refine g_iconst (pc := 14) (v := 0) F dX8_isPower_14 (by decide) ?_
      exact g_zret (pc := 15) F hr hlk rfl dX8_isPower_15
    · refine g_iconst (pc := 10) (v := 1) F dX8_isPower_10 (by decide) ?_
      refine g_goto (pc := 11) F 15 dX8_isPower_11 (by decide) ?_
      exact g_zret (pc := 15) F hr hlk rfl dX8_isPower_15
-- X8_shut
def rmX8_shut : Room := { frames := 6, cells := 0, slots := 0, locals := 150 }
def f_X8_shut (fu : Nat) (a1 : Int32) (a2 : Int32) (M : Mem) : Option (Int32 × Mem) := bnd (f_X8_isSet a1 M) (fun r1 M2 => if r1 = 0 then some ((-1), M2) else bnd (f_X8_isPower a2 M2) (fun r3 M4 => if r3 = 0 then some ((-1), M4) else bnd (f_X8_gather fu a1 M4) (fun r5 M6 => bnd (f_X2_leastCut fu 68 69 a2 M6) (fun r7 M8 => if r7 = ((-1)) then some ((-1), M8) else bnd (f_X2_takeOut fu 68 r7 M8) (fun r9 M10 => some (r9, M10))))))
set_option maxRecDepth 20000 in
theorem kiX8_shut_X8 : ∀ w ∈ u_ws RX8 TX8 6, w ∈ wsX8_shut := by decide +kernel
set_option maxRecDepth 20000 in
theorem klX8_shut_32 : Cond.fieldLink RX8 32 "DoorLister" "house" "LDoorLister$House;" ∈ wsX8_shut := by decide +kernel
set_option maxRecDepth 20000 in
theorem klX8_shut_36 : Cond.fieldLink RX8 36 "DoorLister" "list" "[I" ∈ wsX8_shut := by decide +kernel
set_option maxRecDepth 20000 in
theorem klX8_shut_40 : Cond.fieldLink RX8 40 "DoorLister" "kept" "[I" ∈ wsX8_shut := by decide +kernel
set_option maxHeartbeats 4000000 in
set_option maxRecDepth 100000 in
theorem c_X8_shut (l : Launch) (D : va_G) (ad : Nat → Nat) (cs : Cs) (hi : Inj ad) (fu : Nat) (a1 : Int32) (a2 : Int32) (M : Mem) : MI l yX8_shut wsX8_shut rmX8_shut D ad cs [.ref (ad (0)), .int a1, .int a2] M (f_X8_shut fu a1 a2 M) := by
  refine Mx.of (cc := cX8_shut) (maxL := 4) (ret := (some .int)) (own := RX8) (lv := [(0, .ref (ad (0))), (1, .int a1), (2, .int a2)]) (by decide) rfl rfl (Nat.le_of_ble_eq_true rfl) rfl hi ?_
  intro p e s m below meth c F hr hlk
  unfold f_X8_shut
  refine g_iload_n (pc := 0) F 1 dX8_shut_0 rfl ?_
  refine g_si (pc := 1) (As := [.int a1]) (st := []) F (c_X8_isSet l D ad cs F.2.2.1 a1 M) (va_cwS 1 F.1.2.2.2.2 gX8_shut_X8_isSet rfl rfl rfl hdS_X8_isSet ⟨by decide, by decide⟩) rfl rfl (Nat.le_of_ble_eq_true rfl) dX8_shut_1 ⟨Nat.zero_le _, Nat.zero_le _⟩ (fun r1 M2 => ?_)
  refine g_if_eq (pc := 4) F 14 dX8_shut_4 (by decide) ?_ ?_
  · refine g_iconst (pc := 14) (v := (-1)) F dX8_shut_14 (by decide) ?_
    exact g_iret (pc := 15) F hr hlk dX8_shut_15
  · refine g_iload_n (pc := 7) F 2 dX8_shut_7 rfl ?_
    refine g_si (pc := 8) (As := [.int a2]) (st := []) F (c_X8_isPower l D ad cs F.2.2.1 a2 M2) (va_cwS 1 F.1.2.2.2.2 gX8_shut_X8_isPower rfl rfl rfl hdS_X8_isPower ⟨by decide, by decide⟩) rfl rfl (Nat.le_of_ble_eq_true rfl) dX8_shut_8 ⟨Nat.zero_le _, Nat.zero_le _⟩ (fun r3 M4 => ?_)
    refine g_if_ne (pc := 11) F 16 dX8_shut_11 (by decide) ?_ ?_
    · refine g_aload_n (pc := 16) F 0 dX8_shut_16 rfl ?_
      refine g_iload_n (pc := 17) F 1 dX8_shut_17 rfl ?_
      refine g_vv (pc := 18) (k := 0) (ci := 8) (fs := (oX8 ad)) (C := RX8) (T := TX8) (N := 6) (As := [.int a1]) (st := []) F (c_X8_gather l D ad cs F.2.2.1 fu a1 M4) (by decide) (fun _ => rfl) rfl (cwV 1 F.1.2.2.2.2 gX8_shut_X8_gather rfl rfl rfl hdV_X8_gather ⟨by decide, by decide⟩) rfl rfl (Nat.le_of_ble_eq_true rfl) dX8_shut_18 ⟨Nat.zero_le _, Nat.zero_le _⟩ (fun r5 M6 => ?_)
      refine g_aload_n (pc := 21) F 0 dX8_shut_21 rfl ?_
      refine g_get (pc := 22) (v := .ref (ad (62))) (k := 0) (ci := 8) (fs := (oX8 ad)) (C := RX8) (T := TX8) (N := 6) F (by decide) (fun _ => rfl) rfl kiX8_shut_X8 3 (by decide) klX8_shut_32 rfl rfl dX8_shut_22 ?_
      refine g_aload_n (pc := 25) F 0 dX8_shut_25 rfl ?_
      refine g_get (pc := 26) (v := .ref (ad (68))) (k := 0) (ci := 8) (fs := (oX8 ad)) (C := RX8) (T := TX8) (N := 6) F (by decide) (fun _ => rfl) rfl kiX8_shut_X8 4 (by decide) klX8_shut_36 rfl rfl dX8_shut_26 ?_
      refine g_aload_n (pc := 29) F 0 dX8_shut_29 rfl ?_
      refine g_get (pc := 30) (v := .ref (ad (69))) (k := 0) (ci := 8) (fs := (oX8 ad)) (C := RX8) (T := TX8) (N := 6) F (by decide) (fun _ => rfl) rfl kiX8_shut_X8 5 (by decide) klX8_shut_40 rfl rfl dX8_shut_30 ?_
      refine g_iload_n (pc := 33) F 2 dX8_shut_33 rfl ?_
      refine g_vi (pc := 34) (k := 62) (ci := 2) (fs := (oX2 ad)) (C := RX2) (T := TX2) (N := 6) (As := [.ref (ad (68)), .ref (ad (69)), .int a2]) (st := []) F (c_X2_leastCut l D ad cs F.2.2.1 fu 68 69 a2 (Or.inr (Or.inl rfl)) (Or.inr (Or.inr rfl)) M6) (by decide) (fun _ => rfl) rfl (cwV 3 F.1.2.2.2.2 gX8_shut_X2_leastCut rfl rfl rfl hdV_X2_leastCut ⟨by decide, by decide⟩) rfl rfl (Nat.le_of_ble_eq_true rfl) dX8_shut_34 ⟨Nat.zero_le _, Nat.zero_le _⟩ (fun r7 M8 => ?_)
      refine g_istore_n (pc := 37) F [(0, .ref (ad (0))), (1, .int a1), (2, .int a2), (3, .int r7)] dX8_shut_37 (by decide) rfl rfl rfl ?_
      refine g_iload_n (pc := 38) F 3 dX8_shut_38 rfl ?_
      refine g_iconst (pc := 39) (v := (-1)) F dX8_shut_39 (by decide) ?_
      refine g_icmp_ne (pc := 40) F 47 dX8_shut_40 (by decide) ?_ ?_
      · refine g_aload_n (pc := 47) F 0 dX8_shut_47 rfl ?_
        refine g_get (pc := 48) (v := .ref (ad (62))) (k := 0) (ci := 8) (fs := (oX8 ad)) (C := RX8) (T := TX8) (N := 6) F (by decide) (fun _ => rfl) rfl kiX8_shut_X8 3 (by decide) klX8_shut_32 rfl rfl dX8_shut_48 ?_
        refine g_aload_n (pc := 51) F 0 dX8_shut_51 rfl ?_
        refine g_get (pc := 52) (v := .ref (ad (68))) (k := 0) (ci := 8) (fs := (oX8 ad)) (C := RX8) (T := TX8) (N := 6) F (by decide) (fun _ => rfl) rfl kiX8_shut_X8 4 (by decide) klX8_shut_36 rfl rfl dX8_shut_52 ?_
        refine g_iload_n (pc := 55) F 3 dX8_shut_55 rfl ?_
        refine g_vi (pc := 56) (k := 62) (ci := 2) (fs := (oX2 ad)) (C := RX2) (T := TX2) (N := 6) (As := [.ref (ad (68)), .int r7]) (st := []) F (c_X2_takeOut l D ad cs F.2.2.1 fu 68 r7 (Or.inr (Or.inl rfl)) M8) (by decide) (fun _ => rfl) rfl (cwV 2 F.1.2.2.2.2 gX8_shut_X2_takeOut rfl rfl rfl hdV_X2_takeOut ⟨by decide, by decide⟩) rfl rfl (Nat.le_of_ble_eq_true rfl) dX8_shut_56 ⟨Nat.zero_le _, Nat.zero_le _⟩ (fun r9 M10 => ?_)
        exact g_iret (pc := 59) F hr hlk dX8_shut_59
      · refine g_iconst (pc := 43) (v := (-1)) F dX8_shut_43 (by decide) ?_
        refine g_goto (pc := 44) F 59 dX8_shut_44 (by decide) ?_
        exact g_iret (pc := 59) F hr hlk dX8_shut_59
    · refine g_iconst (pc := 14) (v := (-1)) F dX8_shut_14 (by decide) ?_
      exact g_iret (pc := 15) F hr hlk dX8_shut_15
-- X8_cuts
def rmX8_cuts : Room := { frames := 6, cells := 0, slots := 0, locals := 150 }
def f_X8_cuts (fu : Nat) (a1 : Int32) (a2 : Int32) (M : Mem) : Option (Int32 × Mem) := bnd (f_X8_isSet a1 M) (fun r1 M2 => if r1 = 0 then some ((-1), M2) else bnd (f_X8_isPower a2 M2) (fun r3 M4 => if r3 = 0 then some ((-1), M4) else bnd (f_X8_gather fu a1 M4) (fun r5 M6 => bnd (f_X2_leastCut fu 68 69 a2 M6) (fun r7 M8 => some (r7, M8)))))
set_option maxRecDepth 20000 in
theorem kiX8_cuts_X8 : ∀ w ∈ u_ws RX8 TX8 6, w ∈ wsX8_cuts := by decide +kernel
set_option maxRecDepth 20000 in
theorem klX8_cuts_32 : Cond.fieldLink RX8 32 "DoorLister" "house" "LDoorLister$House;" ∈ wsX8_cuts := by decide +kernel
set_option maxRecDepth 20000 in
theorem klX8_cuts_36 : Cond.fieldLink RX8 36 "DoorLister" "list" "[I" ∈ wsX8_cuts := by decide +kernel
set_option maxRecDepth 20000 in
theorem klX8_cuts_40 : Cond.fieldLink RX8 40 "DoorLister" "kept" "[I" ∈ wsX8_cuts := by decide +kernel
set_option maxHeartbeats 4000000 in
set_option maxRecDepth 100000 in
theorem c_X8_cuts (l : Launch) (D : va_G) (ad : Nat → Nat) (cs : Cs) (hi : Inj ad) (fu : Nat) (a1 : Int32) (a2 : Int32) (M : Mem) : MI l yX8_cuts wsX8_cuts rmX8_cuts D ad cs [.ref (ad (0)), .int a1, .int a2] M (f_X8_cuts fu a1 a2 M) := by
  refine Mx.of (cc := cX8_cuts) (maxL := 3) (ret := (some .int)) (own := RX8) (lv := [(0, .ref (ad (0))), (1, .int a1), (2, .int a2)]) (by decide) rfl rfl (Nat.le_of_ble_eq_true rfl) rfl hi ?_
  intro p e s m below meth c F hr hlk
  unfold f_X8_cuts
  refine g_iload_n (pc := 0) F 1 dX8_cuts_0 rfl ?_
  refine g_si (pc := 1) (As := [.int a1]) (st := []) F (c_X8_isSet l D ad cs F.2.2.1 a1 M) (va_cwS 1 F.1.2.2.2.2 gX8_cuts_X8_isSet rfl rfl rfl hdS_X8_isSet ⟨by decide, by decide⟩) rfl rfl (Nat.le_of_ble_eq_true rfl) dX8_cuts_1 ⟨Nat.zero_le _, Nat.zero_le _⟩ (fun r1 M2 => ?_)
  refine g_if_eq (pc := 4) F 14 dX8_cuts_4 (by decide) ?_ ?_
  · refine g_iconst (pc := 14) (v := (-1)) F dX8_cuts_14 (by decide) ?_
    exact g_iret (pc := 15) F hr hlk dX8_cuts_15
  · refine g_iload_n (pc := 7) F 2 dX8_cuts_7 rfl ?_
    refine g_si (pc := 8) (As := [.int a2]) (st := []) F (c_X8_isPower l D ad cs F.2.2.1 a2 M2) (va_cwS 1 F.1.2.2.2.2 gX8_cuts_X8_isPower rfl rfl rfl hdS_X8_isPower ⟨by decide, by decide⟩) rfl rfl (Nat.le_of_ble_eq_true rfl) dX8_cuts_8 ⟨Nat.zero_le _, Nat.zero_le _⟩ (fun r3 M4 => ?_)
    refine g_if_ne (pc := 11) F 16 dX8_cuts_11 (by decide) ?_ ?_
    · refine g_aload_n (pc := 16) F 0 dX8_cuts_16 rfl ?_
      refine g_iload_n (pc := 17) F 1 dX8_cuts_17 rfl ?_
      refine g_vv (pc := 18) (k := 0) (ci := 8) (fs := (oX8 ad)) (C := RX8) (T := TX8) (N := 6) (As := [.int a1]) (st := []) F (c_X8_gather l D ad cs F.2.2.1 fu a1 M4) (by decide) (fun _ => rfl) rfl (cwV 1 F.1.2.2.2.2 gX8_cuts_X8_gather rfl rfl rfl hdV_X8_gather ⟨by decide, by decide⟩) rfl rfl (Nat.le_of_ble_eq_true rfl) dX8_cuts_18 ⟨Nat.zero_le _, Nat.zero_le _⟩ (fun r5 M6 => ?_)
      refine g_aload_n (pc := 21) F 0 dX8_cuts_21 rfl ?_
      refine g_get (pc := 22) (v := .ref (ad (62))) (k := 0) (ci := 8) (fs := (oX8 ad)) (C := RX8) (T := TX8) (N := 6) F (by decide) (fun _ => rfl) rfl kiX8_cuts_X8 3 (by decide) klX8_cuts_32 rfl rfl dX8_cuts_22 ?_
      refine g_aload_n (pc := 25) F 0 dX8_cuts_25 rfl ?_
      refine g_get (pc := 26) (v := .ref (ad (68))) (k := 0) (ci := 8) (fs := (oX8 ad)) (C := RX8) (T := TX8) (N := 6) F (by decide) (fun _ => rfl) rfl kiX8_cuts_X8 4 (by decide) klX8_cuts_36 rfl rfl dX8_cuts_26 ?_
      refine g_aload_n (pc := 29) F 0 dX8_cuts_29 rfl ?_
      refine g_get (pc := 30) (v := .ref (ad (69))) (k := 0) (ci := 8) (fs := (oX8 ad)) (C := RX8) (T := TX8) (N := 6) F (by decide) (fun _ => rfl) rfl kiX8_cuts_X8 5 (by decide) klX8_cuts_40 rfl rfl dX8_cuts_30 ?_
      refine g_iload_n (pc := 33) F 2 dX8_cuts_33 rfl ?_
      refine g_vi (pc := 34) (k := 62) (ci := 2) (fs := (oX2 ad)) (C := RX2) (T := TX2) (N := 6) (As := [.ref (ad (68)), .ref (ad (69)), .int a2]) (st := []) F (c_X2_leastCut l D ad cs F.2.2.1 fu 68 69 a2 (Or.inr (Or.inl rfl)) (Or.inr (Or.inr rfl)) M6) (by decide) (fun _ => rfl) rfl (cwV 3 F.1.2.2.2.2 gX8_cuts_X2_leastCut rfl rfl rfl hdV_X2_leastCut ⟨by decide, by decide⟩) rfl rfl (Nat.le_of_ble_eq_true rfl) dX8_cuts_34 ⟨Nat.zero_le _, Nat.zero_le _⟩ (fun r7 M8 => ?_)
      exact g_iret (pc := 37) F hr hlk dX8_cuts_37
    · refine g_iconst (pc := 14) (v := (-1)) F dX8_cuts_14 (by decide) ?_
      exact g_iret (pc := 15) F hr hlk dX8_cuts_15
-- X8_look
def rmX8_look : Room := { frames := 5, cells := 0, slots := 0, locals := 128 }
def f_X8_look (fu : Nat) (a1 : Int32) (a2 : Int32) (a3 : Int32) (M : Mem) : Option (Int32 × Mem) := bnd (f_X8_isProgram a1 M) (fun r1 M2 => if r1 = 0 then some ((-1), M2) else if ix a1 4 then bnd (f_X5_instructions a1.toNatClampNeg M2) (fun r4 M5 => bnd (f_X1_has a1.toNatClampNeg a2 M5) (fun r6 M7 => if r6 = 0 then some ((-1), M7) else if a3 = 0 then bnd (f_X1_kind a1.toNatClampNeg a2 M7) (fun r9 M10 => some (r9, M10)) else if a3 = 1 then bnd (f_X1_x a1.toNatClampNeg a2 M7) (fun r12 M13 => some (r12, M13)) else if a3 = 2 then bnd (f_X1_n a1.toNatClampNeg a2 M7) (fun r15 M16 => some (r15, M16)) else if a3 = 3 then bnd (f_X1_to a1.toNatClampNeg a2 M7) (fun r18 M19 => some (r18, M19)) else if a3 = 4 then if ix a1 4 then bnd (f_X5_paths a1.toNatClampNeg M7) (fun r22 M23 => bnd (f_X4_searched fu a1.toNatClampNeg M23) (fun r24 M25 => bnd (f_X4_comesTo a1.toNatClampNeg a2 M25) (fun r26 M27 => if r26 = 0 then some (0, M27) else some (1, M27)))) else none else some ((-1), M7))) else none)
set_option maxRecDepth 20000 in
theorem kiX8_look_X8 : ∀ w ∈ u_ws RX8 TX8 6, w ∈ wsX8_look := by decide +kernel
set_option maxRecDepth 20000 in
theorem klX8_look_11 : Cond.fieldLink RX8 11 "DoorLister" "programs" "[LDoorLister$Program;" ∈ wsX8_look := by decide +kernel
set_option maxHeartbeats 4000000 in
set_option maxRecDepth 100000 in
theorem c_X8_look (l : Launch) (D : va_G) (ad : Nat → Nat) (cs : Cs) (hi : Inj ad) (fu : Nat) (a1 : Int32) (a2 : Int32) (a3 : Int32) (M : Mem) : MI l yX8_look wsX8_look rmX8_look D ad cs [.ref (ad (0)), .int a1, .int a2, .int a3] M (f_X8_look fu a1 a2 a3 M) := by
  refine Mx.of (cc := cX8_look) (maxL := 5) (ret := (some .int)) (own := RX8) (lv := [(0, .ref (ad (0))), (1, .int a1), (2, .int a2), (3, .int a3)]) (by decide) rfl rfl (Nat.le_of_ble_eq_true rfl) rfl hi ?_
  intro p e s m below meth c F hr hlk
  unfold f_X8_look
  refine g_iload_n (pc := 0) F 1 dX8_look_0 rfl ?_
  refine g_si (pc := 1) (As := [.int a1]) (st := []) F (c_X8_isProgram l D ad cs F.2.2.1 a1 M) (va_cwS 1 F.1.2.2.2.2 gX8_look_X8_isProgram rfl rfl rfl hdS_X8_isProgram ⟨by decide, by decide⟩) rfl rfl (Nat.le_of_ble_eq_true rfl) dX8_look_1 ⟨Nat.zero_le _, Nat.zero_le _⟩ (fun r1 M2 => ?_)
  refine g_if_ne (pc := 4) F 9 dX8_look_4 (by decide) ?_ ?_
  · refine g_aload_n (pc := 9) F 0 dX8_look_9 rfl ?_
    refine g_get (pc := 10) (v := .ref (ad (1))) (k := 0) (ci := 8) (fs := (oX8 ad)) (C := RX8) (T := TX8) (N := 6) F (by decide) (fun _ => rfl) rfl kiX8_look_X8 0 (by decide) klX8_look_11 rfl rfl dX8_look_10 ?_
    refine g_iload_n (pc := 13) F 1 dX8_look_13 rfl ?_
    refine g_aald (pc := 14) F dX8_look_14 (fun hj3 => ?_)
    refine g_vr (pc := 15) (kr := 13 * a1.toNatClampNeg + 3) (k := 13 * a1.toNatClampNeg + 2) (ci := 5) (fs := (oX5 ad (a1.toNatClampNeg))) (C := RX5) (T := TX5) (N := 3) (As := []) (st := []) F (c_X5_instructions l D ad cs F.2.2.1 a1.toNatClampNeg hj3 M2) (P_lt hj3 (by decide)) (sh_X5 hj3) rfl (cwV 0 F.1.2.2.2.2 gX8_look_X5_instructions rfl rfl rfl hdV_X5_instructions ⟨by decide, by decide⟩) rfl rfl (Nat.le_of_ble_eq_true rfl) dX8_look_15 ⟨Nat.zero_le _, Nat.zero_le _⟩ (fun r4 M5 => ?_)
    refine g_astore (pc := 18) F [(0, .ref (ad (0))), (1, .int a1), (2, .int a2), (3, .int a3), (4, .ref (ad (13 * a1.toNatClampNeg + 3)))] dX8_look_18 (by decide) rfl rfl rfl ?_
    refine g_aload (pc := 20) F 4 dX8_look_20 rfl ?_
    refine g_iload_n (pc := 22) F 2 dX8_look_22 rfl ?_
    refine g_vi (pc := 23) (k := 13 * a1.toNatClampNeg + 3) (ci := 1) (fs := (oX1 ad (a1.toNatClampNeg))) (C := RX1) (T := TX1) (N := 5) (As := [.int a2]) (st := []) F (c_X1_has l D ad cs F.2.2.1 a1.toNatClampNeg a2 hj3 M5) (P_lt hj3 (by decide)) (sh_X1 hj3) rfl (cwV 1 F.1.2.2.2.2 gX8_look_X1_has rfl rfl rfl hdV_X1_has ⟨by decide, by decide⟩) rfl rfl (Nat.le_of_ble_eq_true rfl) dX8_look_23 ⟨Nat.zero_le _, Nat.zero_le _⟩ (fun r6 M7 => ?_)
    refine g_if_ne (pc := 26) F 31 dX8_look_26 (by decide) ?_ ?_
    · refine g_iload_n (pc := 31) F 3 dX8_look_31 rfl ?_
      refine g_case (v := 0) (fun _ => ?_) (fun n8 => ?_)
      · refine g_tab (pc := 32) (off := 36) F 68 dX8_look_32 (by decide) (by decide) (by decide) (by decide) ?_
        refine g_aload (pc := 68) F 4 dX8_look_68 rfl ?_
        refine g_iload_n (pc := 70) F 2 dX8_look_70 rfl ?_
        refine g_vi (pc := 71) (k := 13 * a1.toNatClampNeg + 3) (ci := 1) (fs := (oX1 ad (a1.toNatClampNeg))) (C := RX1) (T := TX1) (N := 5) (As := [.int a2]) (st := []) F (c_X1_kind l D ad cs F.2.2.1 a1.toNatClampNeg a2 hj3 M7) (P_lt hj3 (by decide)) (sh_X1 hj3) rfl (cwV 1 F.1.2.2.2.2 gX8_look_X1_kind rfl rfl rfl hdV_X1_kind ⟨by decide, by decide⟩) rfl rfl (Nat.le_of_ble_eq_true rfl) dX8_look_71 ⟨Nat.zero_le _, Nat.zero_le _⟩ (fun r9 M10 => ?_)
        exact g_iret (pc := 74) F hr hlk dX8_look_74
      refine g_case (v := 1) (fun _ => ?_) (fun n11 => ?_)
      · refine g_tab (pc := 32) (off := 43) F 75 dX8_look_32 (by decide) (by decide) (by decide) (by decide) ?_
        refine g_aload (pc := 75) F 4 dX8_look_75 rfl ?_
        refine g_iload_n (pc := 77) F 2 dX8_look_77 rfl ?_
        refine g_vi (pc := 78) (k := 13 * a1.toNatClampNeg + 3) (ci := 1) (fs := (oX1 ad (a1.toNatClampNeg))) (C := RX1) (T := TX1) (N := 5) (As := [.int a2]) (st := []) F (c_X1_x l D ad cs F.2.2.1 a1.toNatClampNeg a2 hj3 M7) (P_lt hj3 (by decide)) (sh_X1 hj3) rfl (cwV 1 F.1.2.2.2.2 gX8_look_X1_x rfl rfl rfl hdV_X1_x ⟨by decide, by decide⟩) rfl rfl (Nat.le_of_ble_eq_true rfl) dX8_look_78 ⟨Nat.zero_le _, Nat.zero_le _⟩ (fun r12 M13 => ?_)
        exact g_iret (pc := 81) F hr hlk dX8_look_81
      refine g_case (v := 2) (fun _ => ?_) (fun n14 => ?_)
      · refine g_tab (pc := 32) (off := 50) F 82 dX8_look_32 (by decide) (by decide) (by decide) (by decide) ?_
        refine g_aload (pc := 82) F 4 dX8_look_82 rfl ?_
        refine g_iload_n (pc := 84) F 2 dX8_look_84 rfl ?_
        refine g_vi (pc := 85) (k := 13 * a1.toNatClampNeg + 3) (ci := 1) (fs := (oX1 ad (a1.toNatClampNeg))) (C := RX1) (T := TX1) (N := 5) (As := [.int a2]) (st := []) F (c_X1_n l D ad cs F.2.2.1 a1.toNatClampNeg a2 hj3 M7) (P_lt hj3 (by decide)) (sh_X1 hj3) rfl (cwV 1 F.1.2.2.2.2 gX8_look_X1_n rfl rfl rfl hdV_X1_n ⟨by decide, by decide⟩) rfl rfl (Nat.le_of_ble_eq_true rfl) dX8_look_85 ⟨Nat.zero_le _, Nat.zero_le _⟩ (fun r15 M16 => ?_)
        exact g_iret (pc := 88) F hr hlk dX8_look_88
      refine g_case (v := 3) (fun _ => ?_) (fun n17 => ?_)
      · refine g_tab (pc := 32) (off := 57) F 89 dX8_look_32 (by decide) (by decide) (by decide) (by decide) ?_
        refine g_aload (pc := 89) F 4 dX8_look_89 rfl ?_
        refine g_iload_n (pc := 91) F 2 dX8_look_91 rfl ?_
        refine g_vi (pc := 92) (k := 13 * a1.toNatClampNeg + 3) (ci := 1) (fs := (oX1 ad (a1.toNatClampNeg))) (C := RX1) (T := TX1) (N := 5) (As := [.int a2]) (st := []) F (c_X1_to l D ad cs F.2.2.1 a1.toNatClampNeg a2 hj3 M7) (P_lt hj3 (by decide)) (sh_X1 hj3) rfl (cwV 1 F.1.2.2.2.2 gX8_look_X1_to rfl rfl rfl hdV_X1_to ⟨by decide, by decide⟩) rfl rfl (Nat.le_of_ble_eq_true rfl) dX8_look_92 ⟨Nat.zero_le _, Nat.zero_le _⟩ (fun r18 M19 => ?_)
        exact g_iret (pc := 95) F hr hlk dX8_look_95
      refine g_case (v := 4) (fun _ => ?_) (fun n20 => ?_)
      · refine g_tab (pc := 32) (off := 64) F 96 dX8_look_32 (by decide) (by decide) (by decide) (by decide) ?_
        refine g_aload_n (pc := 96) F 0 dX8_look_96 rfl ?_
        refine g_get (pc := 97) (v := .ref (ad (1))) (k := 0) (ci := 8) (fs := (oX8 ad)) (C := RX8) (T := TX8) (N := 6) F (by decide) (fun _ => rfl) rfl kiX8_look_X8 0 (by decide) klX8_look_11 rfl rfl dX8_look_97 ?_
        refine g_iload_n (pc := 100) F 1 dX8_look_100 rfl ?_
        refine g_aald (pc := 101) F dX8_look_101 (fun hj21 => ?_)
        refine g_vr (pc := 102) (kr := 13 * a1.toNatClampNeg + 8) (k := 13 * a1.toNatClampNeg + 2) (ci := 5) (fs := (oX5 ad (a1.toNatClampNeg))) (C := RX5) (T := TX5) (N := 3) (As := []) (st := []) F (c_X5_paths l D ad cs F.2.2.1 a1.toNatClampNeg hj21 M7) (P_lt hj21 (by decide)) (sh_X5 hj21) rfl (cwV 0 F.1.2.2.2.2 gX8_look_X5_paths rfl rfl rfl hdV_X5_paths ⟨by decide, by decide⟩) rfl rfl (Nat.le_of_ble_eq_true rfl) dX8_look_102 ⟨Nat.zero_le _, Nat.zero_le _⟩ (fun r22 M23 => ?_)
        refine g_vr (pc := 105) (kr := 13 * a1.toNatClampNeg + 8) (k := 13 * a1.toNatClampNeg + 8) (ci := 4) (fs := (oX4 ad (a1.toNatClampNeg))) (C := RX4) (T := TX4) (N := 14) (As := []) (st := []) F (c_X4_searched l D ad cs F.2.2.1 fu a1.toNatClampNeg hj21 M23) (P_lt hj21 (by decide)) (sh_X4 hj21) rfl (cwV 0 F.1.2.2.2.2 gX8_look_X4_searched rfl rfl rfl hdV_X4_searched ⟨by decide, by decide⟩) rfl rfl (Nat.le_of_ble_eq_true rfl) dX8_look_105 ⟨Nat.zero_le _, Nat.zero_le _⟩ (fun r24 M25 => ?_)
        refine g_iload_n (pc := 108) F 2 dX8_look_108 rfl ?_
        refine g_vi (pc := 109) (k := 13 * a1.toNatClampNeg + 8) (ci := 4) (fs := (oX4 ad (a1.toNatClampNeg))) (C := RX4) (T := TX4) (N := 14) (As := [.int a2]) (st := []) F (c_X4_comesTo l D ad cs F.2.2.1 a1.toNatClampNeg a2 hj21 M25) (P_lt hj21 (by decide)) (sh_X4 hj21) rfl (cwV 1 F.1.2.2.2.2 gX8_look_X4_comesTo rfl rfl rfl hdV_X4_comesTo ⟨by decide, by decide⟩) rfl rfl (Nat.le_of_ble_eq_true rfl) dX8_look_109 ⟨Nat.zero_le _, Nat.zero_le _⟩ (fun r26 M27 => ?_)
        refine g_if_eq (pc := 112) F 119 dX8_look_112 (by decide) ?_ ?_
        · refine g_iconst (pc := 119) (v := 0) F dX8_look_119 (by decide) ?_
          exact g_iret (pc := 120) F hr hlk dX8_look_120
        · refine g_iconst (pc := 115) (v := 1) F dX8_look_115 (by decide) ?_
          refine g_goto (pc := 116) F 120 dX8_look_116 (by decide) ?_
          exact g_iret (pc := 120) F hr hlk dX8_look_120
      refine g_tabd (pc := 32) F 121 dX8_look_32 (by have e0 := ne_lit (n := 0) (by decide) n8; have e1 := ne_lit (n := 1) (by decide) n11; have e2 := ne_lit (n := 2) (by decide) n14; have e3 := ne_lit (n := 3) (by decide) n17; have e4 := ne_lit (n := 4) (by decide) n20; omega) (by decide) ?_
      refine g_iconst (pc := 121) (v := (-1)) F dX8_look_121 (by decide) ?_
      exact g_iret (pc := 122) F hr hlk dX8_look_122
    · refine g_iconst (pc := 29) (v := (-1)) F dX8_look_29 (by decide) ?_
      exact g_iret (pc := 30) F hr hlk dX8_look_30
  · refine g_iconst (pc := 7) (v := (-1)) F dX8_look_7 (by decide) ?_
    exact g_iret (pc := 8) F hr hlk dX8_look_8
-- X8_count
def rmX8_count : Room := { frames := 5, cells := 0, slots := 0, locals := 128 }
def f_X8_count (fu : Nat) (a1 : Int32) (a2 : Int32) (M : Mem) : Option (Int32 × Mem) := if a1 = ((-1)) then if a2 = 0 then bnd (f_X2_size M) (fun r43 M44 => some (r43, M44)) else if a2 = 1 then bnd (f_X7_size M) (fun r41 M42 => some (r41, M42)) else some ((-1), M) else bnd (f_X8_isProgram a1 M) (fun r1 M2 => if r1 = 0 then some ((-1), M2) else if a2 = 0 then if ix a1 4 then bnd (f_X5_instructions a1.toNatClampNeg M2) (fun r5 M6 => bnd (f_X1_length a1.toNatClampNeg M6) (fun r7 M8 => some (r7, M8))) else none else if a2 = 1 then if ix a1 4 then bnd (f_X5_paths a1.toNatClampNeg M2) (fun r11 M12 => bnd (f_X4_searched fu a1.toNatClampNeg M12) (fun r13 M14 => bnd (f_X4_calls a1.toNatClampNeg M14) (fun r15 M16 => bnd (f_X0_callsIn fu (13 * a1.toNatClampNeg + 11) (a2 - (1 : Int32)) M16) (fun r17 M18 => some (r17, M18))))) else none else if a2 = 2 then if ix a1 4 then bnd (f_X5_paths a1.toNatClampNeg M2) (fun r21 M22 => bnd (f_X4_searched fu a1.toNatClampNeg M22) (fun r23 M24 => bnd (f_X4_calls a1.toNatClampNeg M24) (fun r25 M26 => bnd (f_X0_callsIn fu (13 * a1.toNatClampNeg + 11) (a2 - (1 : Int32)) M26) (fun r27 M28 => some (r27, M28))))) else none else if a2 = 3 then if ix a1 4 then bnd (f_X5_called a1.toNatClampNeg M2) (fun r31 M32 => bnd (f_X0_callsIn fu (13 * a1.toNatClampNeg + 13) (a2 - (3 : Int32)) M32) (fun r33 M34 => some (r33, M34))) else none else if a2 = 4 then if ix a1 4 then bnd (f_X5_called a1.toNatClampNeg M2) (fun r37 M38 => bnd (f_X0_callsIn fu (13 * a1.toNatClampNeg + 13) (a2 - (3 : Int32)) M38) (fun r39 M40 => some (r39, M40))) else none else some ((-1), M2))
set_option maxRecDepth 20000 in
theorem kiX8_count_X8 : ∀ w ∈ u_ws RX8 TX8 6, w ∈ wsX8_count := by decide +kernel
set_option maxRecDepth 20000 in
theorem klX8_count_11 : Cond.fieldLink RX8 11 "DoorLister" "programs" "[LDoorLister$Program;" ∈ wsX8_count := by decide +kernel
set_option maxRecDepth 20000 in
theorem klX8_count_18 : Cond.fieldLink RX8 18 "DoorLister" "tape" "LDoorLister$Tape;" ∈ wsX8_count := by decide +kernel
set_option maxRecDepth 20000 in
theorem klX8_count_32 : Cond.fieldLink RX8 32 "DoorLister" "house" "LDoorLister$House;" ∈ wsX8_count := by decide +kernel
set_option maxHeartbeats 4000000 in
set_option maxRecDepth 100000 in
theorem c_X8_count (l : Launch) (D : va_G) (ad : Nat → Nat) (cs : Cs) (hi : Inj ad) (fu : Nat) (a1 : Int32) (a2 : Int32) (M : Mem) : MI l yX8_count wsX8_count rmX8_count D ad cs [.ref (ad (0)), .int a1, .int a2] M (f_X8_count fu a1 a2 M) := by
  refine Mx.of (cc := cX8_count) (maxL := 3) (ret := (some .int)) (own := RX8) (lv := [(0, .ref (ad (0))), (1, .int a1), (2, .int a2)]) (by decide) rfl rfl (Nat.le_of_ble_eq_true rfl) rfl hi ?_
  intro p e s m below meth c F hr hlk
  unfold f_X8_count
  refine g_iload_n (pc := 0) F 1 dX8_count_0 rfl ?_
  refine g_iconst (pc := 1) (v := (-1)) F dX8_count_1 (by decide) ?_
  refine g_icmp_ne (pc := 2) F 36 dX8_count_2 (by decide) ?_ ?_
  · refine g_iload_n (pc := 36) F 1 dX8_count_36 rfl ?_
    refine g_si (pc := 37) (As := [.int a1]) (st := []) F (c_X8_isProgram l D ad cs F.2.2.1 a1 M) (va_cwS 1 F.1.2.2.2.2 gX8_count_X8_isProgram rfl rfl rfl hdS_X8_isProgram ⟨by decide, by decide⟩) rfl rfl (Nat.le_of_ble_eq_true rfl) dX8_count_37 ⟨Nat.zero_le _, Nat.zero_le _⟩ (fun r1 M2 => ?_)
    refine g_if_ne (pc := 40) F 45 dX8_count_40 (by decide) ?_ ?_
    · refine g_iload_n (pc := 45) F 2 dX8_count_45 rfl ?_
      refine g_case (v := 0) (fun _ => ?_) (fun n3 => ?_)
      · refine g_tab (pc := 46) (off := 34) F 80 dX8_count_46 (by decide) (by decide) (by decide) (by decide) ?_
        refine g_aload_n (pc := 80) F 0 dX8_count_80 rfl ?_
        refine g_get (pc := 81) (v := .ref (ad (1))) (k := 0) (ci := 8) (fs := (oX8 ad)) (C := RX8) (T := TX8) (N := 6) F (by decide) (fun _ => rfl) rfl kiX8_count_X8 0 (by decide) klX8_count_11 rfl rfl dX8_count_81 ?_
        refine g_iload_n (pc := 84) F 1 dX8_count_84 rfl ?_
        refine g_aald (pc := 85) F dX8_count_85 (fun hj4 => ?_)
        refine g_vr (pc := 86) (kr := 13 * a1.toNatClampNeg + 3) (k := 13 * a1.toNatClampNeg + 2) (ci := 5) (fs := (oX5 ad (a1.toNatClampNeg))) (C := RX5) (T := TX5) (N := 3) (As := []) (st := []) F (c_X5_instructions l D ad cs F.2.2.1 a1.toNatClampNeg hj4 M2) (P_lt hj4 (by decide)) (sh_X5 hj4) rfl (cwV 0 F.1.2.2.2.2 gX8_count_X5_instructions rfl rfl rfl hdV_X5_instructions ⟨by decide, by decide⟩) rfl rfl (Nat.le_of_ble_eq_true rfl) dX8_count_86 ⟨Nat.zero_le _, Nat.zero_le _⟩ (fun r5 M6 => ?_)
        refine g_vi (pc := 89) (k := 13 * a1.toNatClampNeg + 3) (ci := 1) (fs := (oX1 ad (a1.toNatClampNeg))) (C := RX1) (T := TX1) (N := 5) (As := []) (st := []) F (c_X1_length l D ad cs F.2.2.1 a1.toNatClampNeg hj4 M6) (P_lt hj4 (by decide)) (sh_X1 hj4) rfl (cwV 0 F.1.2.2.2.2 gX8_count_X1_length rfl rfl rfl hdV_X1_length ⟨by decide, by decide⟩) rfl rfl (Nat.le_of_ble_eq_true rfl) dX8_count_89 ⟨Nat.zero_le _, Nat.zero_le _⟩ (fun r7 M8 => ?_)
        exact g_iret (pc := 92) F hr hlk dX8_count_92
      refine g_case (v := 1) (fun _ => ?_) (fun n9 => ?_)
      · refine g_tab (pc := 46) (off := 47) F 93 dX8_count_46 (by decide) (by decide) (by decide) (by decide) ?_
        refine g_aload_n (pc := 93) F 0 dX8_count_93 rfl ?_
        refine g_get (pc := 94) (v := .ref (ad (1))) (k := 0) (ci := 8) (fs := (oX8 ad)) (C := RX8) (T := TX8) (N := 6) F (by decide) (fun _ => rfl) rfl kiX8_count_X8 0 (by decide) klX8_count_11 rfl rfl dX8_count_94 ?_
        refine g_iload_n (pc := 97) F 1 dX8_count_97 rfl ?_
        refine g_aald (pc := 98) F dX8_count_98 (fun hj10 => ?_)
        refine g_vr (pc := 99) (kr := 13 * a1.toNatClampNeg + 8) (k := 13 * a1.toNatClampNeg + 2) (ci := 5) (fs := (oX5 ad (a1.toNatClampNeg))) (C := RX5) (T := TX5) (N := 3) (As := []) (st := []) F (c_X5_paths l D ad cs F.2.2.1 a1.toNatClampNeg hj10 M2) (P_lt hj10 (by decide)) (sh_X5 hj10) rfl (cwV 0 F.1.2.2.2.2 gX8_count_X5_paths rfl rfl rfl hdV_X5_paths ⟨by decide, by decide⟩) rfl rfl (Nat.le_of_ble_eq_true rfl) dX8_count_99 ⟨Nat.zero_le _, Nat.zero_le _⟩ (fun r11 M12 => ?_)
        refine g_vr (pc := 102) (kr := 13 * a1.toNatClampNeg + 8) (k := 13 * a1.toNatClampNeg + 8) (ci := 4) (fs := (oX4 ad (a1.toNatClampNeg))) (C := RX4) (T := TX4) (N := 14) (As := []) (st := []) F (c_X4_searched l D ad cs F.2.2.1 fu a1.toNatClampNeg hj10 M12) (P_lt hj10 (by decide)) (sh_X4 hj10) rfl (cwV 0 F.1.2.2.2.2 gX8_count_X4_searched rfl rfl rfl hdV_X4_searched ⟨by decide, by decide⟩) rfl rfl (Nat.le_of_ble_eq_true rfl) dX8_count_102 ⟨Nat.zero_le _, Nat.zero_le _⟩ (fun r13 M14 => ?_)
        refine g_vr (pc := 105) (kr := 13 * a1.toNatClampNeg + 11) (k := 13 * a1.toNatClampNeg + 8) (ci := 4) (fs := (oX4 ad (a1.toNatClampNeg))) (C := RX4) (T := TX4) (N := 14) (As := []) (st := []) F (c_X4_calls l D ad cs F.2.2.1 a1.toNatClampNeg hj10 M14) (P_lt hj10 (by decide)) (sh_X4 hj10) rfl (cwV 0 F.1.2.2.2.2 gX8_count_X4_calls rfl rfl rfl hdV_X4_calls ⟨by decide, by decide⟩) rfl rfl (Nat.le_of_ble_eq_true rfl) dX8_count_105 ⟨Nat.zero_le _, Nat.zero_le _⟩ (fun r15 M16 => ?_)
        refine g_iload_n (pc := 108) F 2 dX8_count_108 rfl ?_
        refine g_iconst (pc := 109) (v := 1) F dX8_count_109 (by decide) ?_
        refine g_isub (pc := 110) F dX8_count_110 ?_
        refine g_vi (pc := 111) (k := 13 * a1.toNatClampNeg + 11) (ci := 0) (fs := (oX0 ad (13 * a1.toNatClampNeg + 11))) (C := RX0) (T := TX0) (N := 1) (As := [.int (a2 - (1 : Int32))]) (st := []) F (c_X0_callsIn l D ad cs F.2.2.1 fu (13 * a1.toNatClampNeg + 11) (a2 - (1 : Int32)) (tab_c hj10) M16) (tab_lt (tab_c hj10)) (sh_X0 (tab_c hj10)) rfl (cwV 1 F.1.2.2.2.2 gX8_count_X0_callsIn rfl rfl rfl hdV_X0_callsIn ⟨by decide, by decide⟩) rfl rfl (Nat.le_of_ble_eq_true rfl) dX8_count_111 ⟨Nat.zero_le _, Nat.zero_le _⟩ (fun r17 M18 => ?_)
        exact g_iret (pc := 114) F hr hlk dX8_count_114
      refine g_case (v := 2) (fun _ => ?_) (fun n19 => ?_)
      · refine g_tab (pc := 46) (off := 47) F 93 dX8_count_46 (by decide) (by decide) (by decide) (by decide) ?_
        refine g_aload_n (pc := 93) F 0 dX8_count_93 rfl ?_
        refine g_get (pc := 94) (v := .ref (ad (1))) (k := 0) (ci := 8) (fs := (oX8 ad)) (C := RX8) (T := TX8) (N := 6) F (by decide) (fun _ => rfl) rfl kiX8_count_X8 0 (by decide) klX8_count_11 rfl rfl dX8_count_94 ?_
        refine g_iload_n (pc := 97) F 1 dX8_count_97 rfl ?_
        refine g_aald (pc := 98) F dX8_count_98 (fun hj20 => ?_)
        refine g_vr (pc := 99) (kr := 13 * a1.toNatClampNeg + 8) (k := 13 * a1.toNatClampNeg + 2) (ci := 5) (fs := (oX5 ad (a1.toNatClampNeg))) (C := RX5) (T := TX5) (N := 3) (As := []) (st := []) F (c_X5_paths l D ad cs F.2.2.1 a1.toNatClampNeg hj20 M2) (P_lt hj20 (by decide)) (sh_X5 hj20) rfl (cwV 0 F.1.2.2.2.2 gX8_count_X5_paths rfl rfl rfl hdV_X5_paths ⟨by decide, by decide⟩) rfl rfl (Nat.le_of_ble_eq_true rfl) dX8_count_99 ⟨Nat.zero_le _, Nat.zero_le _⟩ (fun r21 M22 => ?_)
        refine g_vr (pc := 102) (kr := 13 * a1.toNatClampNeg + 8) (k := 13 * a1.toNatClampNeg + 8) (ci := 4) (fs := (oX4 ad (a1.toNatClampNeg))) (C := RX4) (T := TX4) (N := 14) (As := []) (st := []) F (c_X4_searched l D ad cs F.2.2.1 fu a1.toNatClampNeg hj20 M22) (P_lt hj20 (by decide)) (sh_X4 hj20) rfl (cwV 0 F.1.2.2.2.2 gX8_count_X4_searched rfl rfl rfl hdV_X4_searched ⟨by decide, by decide⟩) rfl rfl (Nat.le_of_ble_eq_true rfl) dX8_count_102 ⟨Nat.zero_le _, Nat.zero_le _⟩ (fun r23 M24 => ?_)
        refine g_vr (pc := 105) (kr := 13 * a1.toNatClampNeg + 11) (k := 13 * a1.toNatClampNeg + 8) (ci := 4) (fs := (oX4 ad (a1.toNatClampNeg))) (C := RX4) (T := TX4) (N := 14) (As := []) (st := []) F (c_X4_calls l D ad cs F.2.2.1 a1.toNatClampNeg hj20 M24) (P_lt hj20 (by decide)) (sh_X4 hj20) rfl (cwV 0 F.1.2.2.2.2 gX8_count_X4_calls rfl rfl rfl hdV_X4_calls ⟨by decide, by decide⟩) rfl rfl (Nat.le_of_ble_eq_true rfl) dX8_count_105 ⟨Nat.zero_le _, Nat.zero_le _⟩ (fun r25 M26 => ?_)
        refine g_iload_n (pc := 108) F 2 dX8_count_108 rfl ?_
        refine g_iconst (pc := 109) (v := 1) F dX8_count_109 (by decide) ?_
        refine g_isub (pc := 110) F dX8_count_110 ?_
        refine g_vi (pc := 111) (k := 13 * a1.toNatClampNeg + 11) (ci := 0) (fs := (oX0 ad (13 * a1.toNatClampNeg + 11))) (C := RX0) (T := TX0) (N := 1) (As := [.int (a2 - (1 : Int32))]) (st := []) F (c_X0_callsIn l D ad cs F.2.2.1 fu (13 * a1.toNatClampNeg + 11) (a2 - (1 : Int32)) (tab_c hj20) M26) (tab_lt (tab_c hj20)) (sh_X0 (tab_c hj20)) rfl (cwV 1 F.1.2.2.2.2 gX8_count_X0_callsIn rfl rfl rfl hdV_X0_callsIn ⟨by decide, by decide⟩) rfl rfl (Nat.le_of_ble_eq_true rfl) dX8_count_111 ⟨Nat.zero_le _, Nat.zero_le _⟩ (fun r27 M28 => ?_)
        exact g_iret (pc := 114) F hr hlk dX8_count_114
      refine g_case (v := 3) (fun _ => ?_) (fun n29 => ?_)
      · refine g_tab (pc := 46) (off := 69) F 115 dX8_count_46 (by decide) (by decide) (by decide) (by decide) ?_
        refine g_aload_n (pc := 115) F 0 dX8_count_115 rfl ?_
        refine g_get (pc := 116) (v := .ref (ad (1))) (k := 0) (ci := 8) (fs := (oX8 ad)) (C := RX8) (T := TX8) (N := 6) F (by decide) (fun _ => rfl) rfl kiX8_count_X8 0 (by decide) klX8_count_11 rfl rfl dX8_count_116 ?_
        refine g_iload_n (pc := 119) F 1 dX8_count_119 rfl ?_
        refine g_aald (pc := 120) F dX8_count_120 (fun hj30 => ?_)
        refine g_vr (pc := 121) (kr := 13 * a1.toNatClampNeg + 13) (k := 13 * a1.toNatClampNeg + 2) (ci := 5) (fs := (oX5 ad (a1.toNatClampNeg))) (C := RX5) (T := TX5) (N := 3) (As := []) (st := []) F (c_X5_called l D ad cs F.2.2.1 a1.toNatClampNeg hj30 M2) (P_lt hj30 (by decide)) (sh_X5 hj30) rfl (cwV 0 F.1.2.2.2.2 gX8_count_X5_called rfl rfl rfl hdV_X5_called ⟨by decide, by decide⟩) rfl rfl (Nat.le_of_ble_eq_true rfl) dX8_count_121 ⟨Nat.zero_le _, Nat.zero_le _⟩ (fun r31 M32 => ?_)
        refine g_iload_n (pc := 124) F 2 dX8_count_124 rfl ?_
        refine g_iconst (pc := 125) (v := 3) F dX8_count_125 (by decide) ?_
        refine g_isub (pc := 126) F dX8_count_126 ?_
        refine g_vi (pc := 127) (k := 13 * a1.toNatClampNeg + 13) (ci := 0) (fs := (oX0 ad (13 * a1.toNatClampNeg + 13))) (C := RX0) (T := TX0) (N := 1) (As := [.int (a2 - (3 : Int32))]) (st := []) F (c_X0_callsIn l D ad cs F.2.2.1 fu (13 * a1.toNatClampNeg + 13) (a2 - (3 : Int32)) (tab_d hj30) M32) (tab_lt (tab_d hj30)) (sh_X0 (tab_d hj30)) rfl (cwV 1 F.1.2.2.2.2 gX8_count_X0_callsIn rfl rfl rfl hdV_X0_callsIn ⟨by decide, by decide⟩) rfl rfl (Nat.le_of_ble_eq_true rfl) dX8_count_127 ⟨Nat.zero_le _, Nat.zero_le _⟩ (fun r33 M34 => ?_)
        exact g_iret (pc := 130) F hr hlk dX8_count_130
      refine g_case (v := 4) (fun _ => ?_) (fun n35 => ?_)
      · refine g_tab (pc := 46) (off := 69) F 115 dX8_count_46 (by decide) (by decide) (by decide) (by decide) ?_
        refine g_aload_n (pc := 115) F 0 dX8_count_115 rfl ?_
        refine g_get (pc := 116) (v := .ref (ad (1))) (k := 0) (ci := 8) (fs := (oX8 ad)) (C := RX8) (T := TX8) (N := 6) F (by decide) (fun _ => rfl) rfl kiX8_count_X8 0 (by decide) klX8_count_11 rfl rfl dX8_count_116 ?_
        refine g_iload_n (pc := 119) F 1 dX8_count_119 rfl ?_
        refine g_aald (pc := 120) F dX8_count_120 (fun hj36 => ?_)
        refine g_vr (pc := 121) (kr := 13 * a1.toNatClampNeg + 13) (k := 13 * a1.toNatClampNeg + 2) (ci := 5) (fs := (oX5 ad (a1.toNatClampNeg))) (C := RX5) (T := TX5) (N := 3) (As := []) (st := []) F (c_X5_called l D ad cs F.2.2.1 a1.toNatClampNeg hj36 M2) (P_lt hj36 (by decide)) (sh_X5 hj36) rfl (cwV 0 F.1.2.2.2.2 gX8_count_X5_called rfl rfl rfl hdV_X5_called ⟨by decide, by decide⟩) rfl rfl (Nat.le_of_ble_eq_true rfl) dX8_count_121 ⟨Nat.zero_le _, Nat.zero_le _⟩ (fun r37 M38 => ?_)
        refine g_iload_n (pc := 124) F 2 dX8_count_124 rfl ?_
        refine g_iconst (pc := 125) (v := 3) F dX8_count_125 (by decide) ?_
        refine g_isub (pc := 126) F dX8_count_126 ?_
        refine g_vi (pc := 127) (k := 13 * a1.toNatClampNeg + 13) (ci := 0) (fs := (oX0 ad (13 * a1.toNatClampNeg + 13))) (C := RX0) (T := TX0) (N := 1) (As := [.int (a2 - (3 : Int32))]) (st := []) F (c_X0_callsIn l D ad cs F.2.2.1 fu (13 * a1.toNatClampNeg + 13) (a2 - (3 : Int32)) (tab_d hj36) M38) (tab_lt (tab_d hj36)) (sh_X0 (tab_d hj36)) rfl (cwV 1 F.1.2.2.2.2 gX8_count_X0_callsIn rfl rfl rfl hdV_X0_callsIn ⟨by decide, by decide⟩) rfl rfl (Nat.le_of_ble_eq_true rfl) dX8_count_127 ⟨Nat.zero_le _, Nat.zero_le _⟩ (fun r39 M40 => ?_)
        exact g_iret (pc := 130) F hr hlk dX8_count_130
      refine g_tabd (pc := 46) F 131 dX8_count_46 (by have e0 := ne_lit (n := 0) (by decide) n3; have e1 := ne_lit (n := 1) (by decide) n9; have e2 := ne_lit (n := 2) (by decide) n19; have e3 := ne_lit (n := 3) (by decide) n29; have e4 := ne_lit (n := 4) (by decide) n35; omega) (by decide) ?_
      refine g_iconst (pc := 131) (v := (-1)) F dX8_count_131 (by decide) ?_
      exact g_iret (pc := 132) F hr hlk dX8_count_132
    · refine g_iconst (pc := 43) (v := (-1)) F dX8_count_43 (by decide) ?_
      exact g_iret (pc := 44) F hr hlk dX8_count_44
  · refine g_iload_n (pc := 5) F 2 dX8_count_5 rfl ?_
    refine g_if_ne (pc := 6) F 19 dX8_count_6 (by decide) ?_ ?_
    · refine g_iload_n (pc := 19) F 2 dX8_count_19 rfl ?_
      refine g_iconst (pc := 20) (v := 1) F dX8_count_20 (by decide) ?_
      refine g_icmp_ne (pc := 21) F 34 dX8_count_21 (by decide) ?_ ?_
      · refine g_iconst (pc := 34) (v := (-1)) F dX8_count_34 (by decide) ?_
        exact g_iret (pc := 35) F hr hlk dX8_count_35
      · refine g_aload_n (pc := 24) F 0 dX8_count_24 rfl ?_
        refine g_get (pc := 25) (v := .ref (ad (58))) (k := 0) (ci := 8) (fs := (oX8 ad)) (C := RX8) (T := TX8) (N := 6) F (by decide) (fun _ => rfl) rfl kiX8_count_X8 1 (by decide) klX8_count_18 rfl rfl dX8_count_25 ?_
        refine g_vi (pc := 28) (k := 58) (ci := 7) (fs := (oX7 ad)) (C := RX7) (T := TX7) (N := 2) (As := []) (st := []) F (c_X7_size l D ad cs F.2.2.1 M) (by decide) (fun _ => rfl) rfl (cwV 0 F.1.2.2.2.2 gX8_count_X7_size rfl rfl rfl hdV_X7_size ⟨by decide, by decide⟩) rfl rfl (Nat.le_of_ble_eq_true rfl) dX8_count_28 ⟨Nat.zero_le _, Nat.zero_le _⟩ (fun r41 M42 => ?_)
        refine g_goto (pc := 31) F 35 dX8_count_31 (by decide) ?_
        exact g_iret (pc := 35) F hr hlk dX8_count_35
    · refine g_aload_n (pc := 9) F 0 dX8_count_9 rfl ?_
      refine g_get (pc := 10) (v := .ref (ad (62))) (k := 0) (ci := 8) (fs := (oX8 ad)) (C := RX8) (T := TX8) (N := 6) F (by decide) (fun _ => rfl) rfl kiX8_count_X8 3 (by decide) klX8_count_32 rfl rfl dX8_count_10 ?_
      refine g_vi (pc := 13) (k := 62) (ci := 2) (fs := (oX2 ad)) (C := RX2) (T := TX2) (N := 6) (As := []) (st := []) F (c_X2_size l D ad cs F.2.2.1 M) (by decide) (fun _ => rfl) rfl (cwV 0 F.1.2.2.2.2 gX8_count_X2_size rfl rfl rfl hdV_X2_size ⟨by decide, by decide⟩) rfl rfl (Nat.le_of_ble_eq_true rfl) dX8_count_13 ⟨Nat.zero_le _, Nat.zero_le _⟩ (fun r43 M44 => ?_)
      refine g_goto (pc := 16) F 35 dX8_count_16 (by decide) ?_
      exact g_iret (pc := 35) F hr hlk dX8_count_35
-- X9_lies
def rmX9_lies : Room := { frames := 0, cells := 0, slots := 0, locals := 0 }
def f_X9_lies (a0 : Int32) (a1 : Int32) (a2 : Int32) (M : Mem) : Option (Int32 × Mem) := if a0 < a1 then some (0, M) else if a2 < a0 then some (0, M) else some (1, M)
set_option maxHeartbeats 4000000 in
set_option maxRecDepth 100000 in
theorem c_X9_lies (l : Launch) (D : va_G) (ad : Nat → Nat) (cs : Cs) (hi : Inj ad) (a0 : Int32) (a1 : Int32) (a2 : Int32) (M : Mem) : MI l yX9_lies wsX9_lies rmX9_lies D ad cs [.int a0, .int a1, .int a2] M (f_X9_lies a0 a1 a2 M) := by
  refine Mx.of (cc := cX9_lies) (maxL := 3) (ret := (some .boolean)) (own := RX9) (lv := [(0, .int a0), (1, .int a1), (2, .int a2)]) (by decide) rfl rfl (Nat.le_of_ble_eq_true rfl) rfl hi ?_
  intro p e s m below meth c F hr hlk
  unfold f_X9_lies
  refine g_iload_n (pc := 0) F 0 dX9_lies_0 rfl ?_
  refine g_iload_n (pc := 1) F 1 dX9_lies_1 rfl ?_
  refine g_icmp_lt (pc := 2) F 14 dX9_lies_2 (by decide) ?_ ?_
  · refine g_iconst (pc := 14) (v := 0) F dX9_lies_14 (by decide) ?_
    exact g_zret (pc := 15) F hr hlk rfl dX9_lies_15
  · refine g_iload_n (pc := 5) F 0 dX9_lies_5 rfl ?_
    refine g_iload_n (pc := 6) F 2 dX9_lies_6 rfl ?_
    refine g_icmp_gt (pc := 7) F 14 dX9_lies_7 (by decide) ?_ ?_
    · refine g_iconst (pc := 14) (v := 0) F dX9_lies_14 (by decide) ?_
      exact g_zret (pc := 15) F hr hlk rfl dX9_lies_15
    · refine g_iconst (pc := 10) (v := 1) F dX9_lies_10 (by decide) ?_
      refine g_goto (pc := 11) F 15 dX9_lies_11 (by decide) ?_
      exact g_zret (pc := 15) F hr hlk rfl dX9_lies_15
-- X9_isProgram
def rmX9_isProgram : Room := { frames := 1, cells := 0, slots := 0, locals := 22 }
def f_X9_isProgram (a0 : Int32) (M : Mem) : Option (Int32 × Mem) := bnd (f_X9_lies a0 0 3 M) (fun r1 M2 => if vp_nar .boolean r1 = r1 then some (r1, M2) else none)
set_option maxHeartbeats 4000000 in
set_option maxRecDepth 100000 in
theorem c_X9_isProgram (l : Launch) (D : va_G) (ad : Nat → Nat) (cs : Cs) (hi : Inj ad) (a0 : Int32) (M : Mem) : MI l yX9_isProgram wsX9_isProgram rmX9_isProgram D ad cs [.int a0] M (f_X9_isProgram a0 M) := by
  refine Mx.of (cc := cX9_isProgram) (maxL := 1) (ret := (some .boolean)) (own := RX9) (lv := [(0, .int a0)]) (by decide) rfl rfl (Nat.le_of_ble_eq_true rfl) rfl hi ?_
  intro p e s m below meth c F hr hlk
  unfold f_X9_isProgram
  refine g_iload_n (pc := 0) F 0 dX9_isProgram_0 rfl ?_
  refine g_iconst (pc := 1) (v := 0) F dX9_isProgram_1 (by decide) ?_
  refine g_iconst (pc := 2) (v := 3) F dX9_isProgram_2 (by decide) ?_
  refine g_si (pc := 3) (As := [.int a0, .int 0, .int 3]) (st := []) F (c_X9_lies l D ad cs F.2.2.1 a0 0 3 M) (va_cwS 3 F.1.2.2.2.2 gX9_isProgram_X9_lies rfl rfl rfl hdS_X9_lies ⟨by decide, by decide⟩) rfl rfl (Nat.le_of_ble_eq_true rfl) dX9_isProgram_3 ⟨Nat.zero_le _, Nat.zero_le _⟩ (fun r1 M2 => ?_)
  exact g_zretx (pc := 6) F hr hlk dX9_isProgram_6
-- X9_isGood
def rmX9_isGood : Room := { frames := 1, cells := 0, slots := 0, locals := 22 }
def f_X9_isGood (a0 : Int32) (a1 : Int32) (a2 : Int32) (a3 : Int32) (M : Mem) : Option (Int32 × Mem) := bnd (f_X9_lies a0 0 9 M) (fun r1 M2 => if r1 = 0 then some (0, M2) else bnd (f_X9_lies a1 0 1 M2) (fun r3 M4 => if r3 = 0 then some (0, M4) else bnd (f_X9_lies a2 0 31 M4) (fun r5 M6 => if r5 = 0 then some (0, M6) else bnd (f_X9_lies a3 0 24 M6) (fun r7 M8 => if r7 = 0 then some (0, M8) else some (1, M8)))))
set_option maxHeartbeats 4000000 in
set_option maxRecDepth 100000 in
theorem c_X9_isGood (l : Launch) (D : va_G) (ad : Nat → Nat) (cs : Cs) (hi : Inj ad) (a0 : Int32) (a1 : Int32) (a2 : Int32) (a3 : Int32) (M : Mem) : MI l yX9_isGood wsX9_isGood rmX9_isGood D ad cs [.int a0, .int a1, .int a2, .int a3] M (f_X9_isGood a0 a1 a2 a3 M) := by
  refine Mx.of (cc := cX9_isGood) (maxL := 4) (ret := (some .boolean)) (own := RX9) (lv := [(0, .int a0), (1, .int a1), (2, .int a2), (3, .int a3)]) (by decide) rfl rfl (Nat.le_of_ble_eq_true rfl) rfl hi ?_
  intro p e s m below meth c F hr hlk
  unfold f_X9_isGood
  refine g_iload_n (pc := 0) F 0 dX9_isGood_0 rfl ?_
  refine g_iconst (pc := 1) (v := 0) F dX9_isGood_1 (by decide) ?_
  refine g_bipush (pc := 2) (v := 9) F dX9_isGood_2 (by decide) ?_
  refine g_si (pc := 4) (As := [.int a0, .int 0, .int 9]) (st := []) F (c_X9_lies l D ad cs F.2.2.1 a0 0 9 M) (va_cwS 3 F.1.2.2.2.2 gX9_isGood_X9_lies rfl rfl rfl hdS_X9_lies ⟨by decide, by decide⟩) rfl rfl (Nat.le_of_ble_eq_true rfl) dX9_isGood_4 ⟨Nat.zero_le _, Nat.zero_le _⟩ (fun r1 M2 => ?_)
  refine g_if_eq (pc := 7) F 43 dX9_isGood_7 (by decide) ?_ ?_
  · refine g_iconst (pc := 43) (v := 0) F dX9_isGood_43 (by decide) ?_
    exact g_zret (pc := 44) F hr hlk rfl dX9_isGood_44
  · refine g_iload_n (pc := 10) F 1 dX9_isGood_10 rfl ?_
    refine g_iconst (pc := 11) (v := 0) F dX9_isGood_11 (by decide) ?_
    refine g_iconst (pc := 12) (v := 1) F dX9_isGood_12 (by decide) ?_
    refine g_si (pc := 13) (As := [.int a1, .int 0, .int 1]) (st := []) F (c_X9_lies l D ad cs F.2.2.1 a1 0 1 M2) (va_cwS 3 F.1.2.2.2.2 gX9_isGood_X9_lies rfl rfl rfl hdS_X9_lies ⟨by decide, by decide⟩) rfl rfl (Nat.le_of_ble_eq_true rfl) dX9_isGood_13 ⟨Nat.zero_le _, Nat.zero_le _⟩ (fun r3 M4 => ?_)
    refine g_if_eq (pc := 16) F 43 dX9_isGood_16 (by decide) ?_ ?_
    · refine g_iconst (pc := 43) (v := 0) F dX9_isGood_43 (by decide) ?_
      exact g_zret (pc := 44) F hr hlk rfl dX9_isGood_44
    · refine g_iload_n (pc := 19) F 2 dX9_isGood_19 rfl ?_
      refine g_iconst (pc := 20) (v := 0) F dX9_isGood_20 (by decide) ?_
      refine g_bipush (pc := 21) (v := 31) F dX9_isGood_21 (by decide) ?_
      refine g_si (pc := 23) (As := [.int a2, .int 0, .int 31]) (st := []) F (c_X9_lies l D ad cs F.2.2.1 a2 0 31 M4) (va_cwS 3 F.1.2.2.2.2 gX9_isGood_X9_lies rfl rfl rfl hdS_X9_lies ⟨by decide, by decide⟩) rfl rfl (Nat.le_of_ble_eq_true rfl) dX9_isGood_23 ⟨Nat.zero_le _, Nat.zero_le _⟩ (fun r5 M6 => ?_)
      refine g_if_eq (pc := 26) F 43 dX9_isGood_26 (by decide) ?_ ?_
      · refine g_iconst (pc := 43) (v := 0) F dX9_isGood_43 (by decide) ?_
        exact g_zret (pc := 44) F hr hlk rfl dX9_isGood_44
      · refine g_iload_n (pc := 29) F 3 dX9_isGood_29 rfl ?_
        refine g_iconst (pc := 30) (v := 0) F dX9_isGood_30 (by decide) ?_
        refine g_bipush (pc := 31) (v := 24) F dX9_isGood_31 (by decide) ?_
        refine g_si (pc := 33) (As := [.int a3, .int 0, .int 24]) (st := []) F (c_X9_lies l D ad cs F.2.2.1 a3 0 24 M6) (va_cwS 3 F.1.2.2.2.2 gX9_isGood_X9_lies rfl rfl rfl hdS_X9_lies ⟨by decide, by decide⟩) rfl rfl (Nat.le_of_ble_eq_true rfl) dX9_isGood_33 ⟨Nat.zero_le _, Nat.zero_le _⟩ (fun r7 M8 => ?_)
        refine g_if_eq (pc := 36) F 43 dX9_isGood_36 (by decide) ?_ ?_
        · refine g_iconst (pc := 43) (v := 0) F dX9_isGood_43 (by decide) ?_
          exact g_zret (pc := 44) F hr hlk rfl dX9_isGood_44
        · refine g_iconst (pc := 39) (v := 1) F dX9_isGood_39 (by decide) ?_
          refine g_goto (pc := 40) F 44 dX9_isGood_40 (by decide) ?_
          exact g_zret (pc := 44) F hr hlk rfl dX9_isGood_44
-- X9_puts
def rmX9_puts : Room := { frames := 0, cells := 0, slots := 0, locals := 0 }
def f_X9_puts (a1 : Int32) (a2 : Int32) (a3 : Int32) (a4 : Int32) (a5 : Int32) (M : Mem) : Option (Int32 × Mem) := if ix a1 96 then wr M (73) a1.toNatClampNeg a2 (fun M1 => if ix a1 96 then wr M1 (74) a1.toNatClampNeg a3 (fun M2 => if ix a1 96 then wr M2 (75) a1.toNatClampNeg a4 (fun M3 => if ix a1 96 then wr M3 (76) a1.toNatClampNeg a5 (fun M4 => some (0, M4)) else none) else none) else none) else none
set_option maxRecDepth 20000 in
theorem kiX9_puts_X9 : ∀ w ∈ u_ws RX9 TX9 33, w ∈ wsX9_puts := by decide +kernel
set_option maxRecDepth 20000 in
theorem klX9_puts_21 : Cond.fieldLink RX9 21 "DoorListerModel" "kind" "[I" ∈ wsX9_puts := by decide +kernel
set_option maxRecDepth 20000 in
theorem klX9_puts_24 : Cond.fieldLink RX9 24 "DoorListerModel" "reg" "[I" ∈ wsX9_puts := by decide +kernel
set_option maxRecDepth 20000 in
theorem klX9_puts_27 : Cond.fieldLink RX9 27 "DoorListerModel" "num" "[I" ∈ wsX9_puts := by decide +kernel
set_option maxRecDepth 20000 in
theorem klX9_puts_30 : Cond.fieldLink RX9 30 "DoorListerModel" "to" "[I" ∈ wsX9_puts := by decide +kernel
set_option maxHeartbeats 4000000 in
set_option maxRecDepth 100000 in
theorem c_X9_puts (l : Launch) (D : va_G) (ad : Nat → Nat) (cs : Cs) (hi : Inj ad) (a1 : Int32) (a2 : Int32) (a3 : Int32) (a4 : Int32) (a5 : Int32) (M : Mem) : MV l yX9_puts wsX9_puts rmX9_puts D ad cs [.ref (ad (70)), .int a1, .int a2, .int a3, .int a4, .int a5] M (f_X9_puts a1 a2 a3 a4 a5 M) := by
  refine Mx.of (cc := cX9_puts) (maxL := 6) (ret := none) (own := RX9) (lv := [(0, .ref (ad (70))), (1, .int a1), (2, .int a2), (3, .int a3), (4, .int a4), (5, .int a5)]) (by decide) rfl rfl (Nat.le_of_ble_eq_true rfl) rfl hi ?_
  intro p e s m below meth c F hr hlk
  unfold f_X9_puts
  refine g_aload_n (pc := 0) F 0 dX9_puts_0 rfl ?_
  refine g_get (pc := 1) (v := .ref (ad (73))) (k := 70) (ci := 9) (fs := (oX9 ad)) (C := RX9) (T := TX9) (N := 33) F (by decide) (fun _ => rfl) rfl kiX9_puts_X9 4 (by decide) klX9_puts_21 rfl rfl dX9_puts_1 ?_
  refine g_iload_n (pc := 4) F 1 dX9_puts_4 rfl ?_
  refine g_iload_n (pc := 5) F 2 dX9_puts_5 rfl ?_
  refine g_iast (pc := 6) (k := 73) (n := 96) F (by decide) (fun _ => rfl) dX9_puts_6 (fun M1 => ?_)
  refine g_aload_n (pc := 7) F 0 dX9_puts_7 rfl ?_
  refine g_get (pc := 8) (v := .ref (ad (74))) (k := 70) (ci := 9) (fs := (oX9 ad)) (C := RX9) (T := TX9) (N := 33) F (by decide) (fun _ => rfl) rfl kiX9_puts_X9 5 (by decide) klX9_puts_24 rfl rfl dX9_puts_8 ?_
  refine g_iload_n (pc := 11) F 1 dX9_puts_11 rfl ?_
  refine g_iload_n (pc := 12) F 3 dX9_puts_12 rfl ?_
  refine g_iast (pc := 13) (k := 74) (n := 96) F (by decide) (fun _ => rfl) dX9_puts_13 (fun M2 => ?_)
  refine g_aload_n (pc := 14) F 0 dX9_puts_14 rfl ?_
  refine g_get (pc := 15) (v := .ref (ad (75))) (k := 70) (ci := 9) (fs := (oX9 ad)) (C := RX9) (T := TX9) (N := 33) F (by decide) (fun _ => rfl) rfl kiX9_puts_X9 6 (by decide) klX9_puts_27 rfl rfl dX9_puts_15 ?_
  refine g_iload_n (pc := 18) F 1 dX9_puts_18 rfl ?_
  refine g_iload (pc := 19) F 4 dX9_puts_19 rfl ?_
  refine g_iast (pc := 21) (k := 75) (n := 96) F (by decide) (fun _ => rfl) dX9_puts_21 (fun M3 => ?_)
  refine g_aload_n (pc := 22) F 0 dX9_puts_22 rfl ?_
  refine g_get (pc := 23) (v := .ref (ad (76))) (k := 70) (ci := 9) (fs := (oX9 ad)) (C := RX9) (T := TX9) (N := 33) F (by decide) (fun _ => rfl) rfl kiX9_puts_X9 7 (by decide) klX9_puts_30 rfl rfl dX9_puts_23 ?_
  refine g_iload_n (pc := 26) F 1 dX9_puts_26 rfl ?_
  refine g_iload (pc := 27) F 5 dX9_puts_27 rfl ?_
  refine g_iast (pc := 29) (k := 76) (n := 96) F (by decide) (fun _ => rfl) dX9_puts_29 (fun M4 => ?_)
  exact g_vret (pc := 30) F hr hlk dX9_puts_30
-- X9_changes
def rmX9_changes : Room := { frames := 0, cells := 0, slots := 0, locals := 0 }
def f_X9_changes (a1 : Int32) (M : Mem) : Option (Int32 × Mem) := if ix a1 4 then wr M (80) a1.toNatClampNeg (vp_nar .boolean 0) (fun M1 => if (M1 (70) 18) = a1 then wr M1 (70) 18 ((-1)) (fun M3 => some (0, M3)) else wr M1 (70) 18 (M1 (70) 18) (fun M2 => some (0, M2))) else none
set_option maxRecDepth 20000 in
theorem kiX9_changes_X9 : ∀ w ∈ u_ws RX9 TX9 33, w ∈ wsX9_changes := by decide +kernel
set_option maxRecDepth 20000 in
theorem klX9_changes_42 : Cond.fieldLink RX9 42 "DoorListerModel" "isFresh" "[Z" ∈ wsX9_changes := by decide +kernel
set_option maxRecDepth 20000 in
theorem klX9_changes_61 : Cond.fieldLink RX9 61 "DoorListerModel" "hand" "I" ∈ wsX9_changes := by decide +kernel
set_option maxHeartbeats 4000000 in
set_option maxRecDepth 100000 in
theorem c_X9_changes (l : Launch) (D : va_G) (ad : Nat → Nat) (cs : Cs) (hi : Inj ad) (a1 : Int32) (M : Mem) : MV l yX9_changes wsX9_changes rmX9_changes D ad cs [.ref (ad (70)), .int a1] M (f_X9_changes a1 M) := by
  refine Mx.of (cc := cX9_changes) (maxL := 2) (ret := none) (own := RX9) (lv := [(0, .ref (ad (70))), (1, .int a1)]) (by decide) rfl rfl (Nat.le_of_ble_eq_true rfl) rfl hi ?_
  intro p e s m below meth c F hr hlk
  unfold f_X9_changes
  refine g_aload_n (pc := 0) F 0 dX9_changes_0 rfl ?_
  refine g_get (pc := 1) (v := .ref (ad (80))) (k := 70) (ci := 9) (fs := (oX9 ad)) (C := RX9) (T := TX9) (N := 33) F (by decide) (fun _ => rfl) rfl kiX9_changes_X9 11 (by decide) klX9_changes_42 rfl rfl dX9_changes_1 ?_
  refine g_iload_n (pc := 4) F 1 dX9_changes_4 rfl ?_
  refine g_iconst (pc := 5) (v := 0) F dX9_changes_5 (by decide) ?_
  refine g_zast (pc := 6) (k := 80) (n := 4) F (by decide) (fun _ => rfl) dX9_changes_6 (fun M1 => ?_)
  refine g_aload_n (pc := 7) F 0 dX9_changes_7 rfl ?_
  refine g_aload_n (pc := 8) F 0 dX9_changes_8 rfl ?_
  refine g_get (pc := 9) (v := .int (M1 (70) 18)) (k := 70) (ci := 9) (fs := (oX9 ad)) (C := RX9) (T := TX9) (N := 33) F (by decide) (fun _ => rfl) rfl kiX9_changes_X9 18 (by decide) klX9_changes_61 rfl rfl dX9_changes_9 ?_
  refine g_iload_n (pc := 12) F 1 dX9_changes_12 rfl ?_
  refine g_icmp_ne (pc := 13) F 20 dX9_changes_13 (by decide) ?_ ?_
  · refine g_aload_n (pc := 20) F 0 dX9_changes_20 rfl ?_
    refine g_get (pc := 21) (v := .int (M1 (70) 18)) (k := 70) (ci := 9) (fs := (oX9 ad)) (C := RX9) (T := TX9) (N := 33) F (by decide) (fun _ => rfl) rfl kiX9_changes_X9 18 (by decide) klX9_changes_61 rfl rfl dX9_changes_21 ?_
    refine g_put (pc := 24) (k := 70) (ci := 9) (fs := (oX9 ad)) (C := RX9) (T := TX9) (N := 33) F (by decide) (fun _ => rfl) rfl kiX9_changes_X9 tyX9 tyX9_ok nmX9 18 (by decide) klX9_changes_61 rfl rfl rfl rfl (fun _ => rfl) (Nat.le_of_ble_eq_true rfl) dX9_changes_24 (fun M2 => ?_)
    exact g_vret (pc := 27) F hr hlk dX9_changes_27
  · refine g_iconst (pc := 16) (v := (-1)) F dX9_changes_16 (by decide) ?_
    refine g_goto (pc := 17) F 24 dX9_changes_17 (by decide) ?_
    refine g_put (pc := 24) (k := 70) (ci := 9) (fs := (oX9 ad)) (C := RX9) (T := TX9) (N := 33) F (by decide) (fun _ => rfl) rfl kiX9_changes_X9 tyX9 tyX9_ok nmX9 18 (by decide) klX9_changes_61 rfl rfl rfl rfl (fun _ => rfl) (Nat.le_of_ble_eq_true rfl) dX9_changes_24 (fun M3 => ?_)
    exact g_vret (pc := 27) F hr hlk dX9_changes_27
