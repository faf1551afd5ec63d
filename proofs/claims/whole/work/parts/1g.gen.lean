/-! Written by wip/whole/gen.py: pure functions of methods, and the walks that tie the bytecode to them. -/
-- X4_searched
def rmX4_searched : Room := { frames := 4, cells := 0, slots := 0, locals := 106 }
def f_X4_searched_L56 (fu : Nat) (q0 : Nat) (k : Mem → Int32 → Int32 → Option (Int32 × Mem)) : Nat → Mem → Int32 → Int32 → Option (Int32 × Mem)
  | 0, _, _, _ => none
  | n + 1, M, x1, x2 => if (M (13 * q0 + 8) 5) ≤ x2 then k M x1 x2 else if 49152 ≤ x2 then k M x1 x2 else if x2 = x1 then bnd (f_X4_groupEnd fu q0 x2 M) (fun r11 M12 => bnd (f_X4_leave fu q0 x2 r11 M12) (fun r13 M14 => f_X4_searched_L56 fu q0 k n M14 r11 (x2 + 1))) else f_X4_searched_L56 fu q0 k n M x1 (x2 + 1)
def f_X4_searched (fu : Nat) (pp : Nat) (M : Mem) : Option (Int32 × Mem) := if (M (13 * pp + 8) 8) = 0 then some (0, M) else wr M (13 * pp + 8) 8 0 (fun M1 => bnd (f_X6_clear fu M1) (fun r2 M3 => bnd (f_X0_clear fu (13 * pp + 11) M3) (fun r4 M5 => wr M5 (13 * pp + 8) 5 0 (fun M6 => wr M6 (13 * pp + 8) 6 0 (fun M7 => wr M7 (13 * pp + 8) 7 1 (fun M8 => bnd (f_X4_push pp 0 0 0 0 1 M8) (fun r9 M10 => f_X4_searched_L56 fu pp (fun M15 y16 y17 => some (0, M15)) fu M10 0 0)))))))
set_option maxRecDepth 20000 in
theorem kiX4_searched_X4 : ∀ w ∈ u_ws RX4 TX4 14, w ∈ wsX4_searched := by decide +kernel
set_option maxRecDepth 20000 in
theorem klX4_searched_34 : Cond.fieldLink RX4 34 "DoorLister$Paths" "stale" "Z" ∈ wsX4_searched := by decide +kernel
set_option maxRecDepth 20000 in
theorem klX4_searched_30 : Cond.fieldLink RX4 30 "DoorLister$Paths" "scratch" "LDoorLister$Scratch;" ∈ wsX4_searched := by decide +kernel
set_option maxRecDepth 20000 in
theorem klX4_searched_22 : Cond.fieldLink RX4 22 "DoorLister$Paths" "calls" "LDoorLister$CallTable;" ∈ wsX4_searched := by decide +kernel
set_option maxRecDepth 20000 in
theorem klX4_searched_67 : Cond.fieldLink RX4 67 "DoorLister$Paths" "size" "I" ∈ wsX4_searched := by decide +kernel
set_option maxRecDepth 20000 in
theorem klX4_searched_38 : Cond.fieldLink RX4 38 "DoorLister$Paths" "come" "I" ∈ wsX4_searched := by decide +kernel
set_option maxRecDepth 20000 in
theorem klX4_searched_70 : Cond.fieldLink RX4 70 "DoorLister$Paths" "opens" "Z" ∈ wsX4_searched := by decide +kernel
set_option maxRecDepth 20000 in
theorem kwX4_searched_c11 : Cond.constant RX4 11 49152 ∈ wsX4_searched := by decide +kernel
set_option maxHeartbeats 4000000 in
set_option maxRecDepth 100000 in
theorem w_X4_searched_L56 {p : Program} {l : Launch} {e : Env} {s : State} {m : MethodId} {args : Array Value} {below : List Frame} {meth : Method} {c : Code} {D : va_G} {ad : Nat → Nat} {cs : Cs} {pp : Nat} (fu : Nat) (q0 : Nat) (hq0 : q0 < 4) (F : Fx p m c cX4_searched 3 s args wsX4_searched RX4 D ad cs (Ad ad)) (hr : meth.sig.returnType = (some (.object "DoorLister$Paths"))) (hlk : meth.locks = false) (k : Mem → Int32 → Int32 → Option (Int32 × Mem)) (hkx : ∀ (M : Mem) (x1 x2 : Int32), GoX p l e rmX4_searched s m args below meth c 0 0 3 (fun rM => MQ below (cQr D ad cs (13 * pp + 8) rM) args s 0 0 (Ad ad)) D ad cs (Ad ad) M 93 [(0, .ref (ad (13 * q0 + 8))), (1, .int x1), (2, .int x2)] [] (k M x1 x2)) : ∀ (n : Nat) (M : Mem) (x1 x2 : Int32), GoX p l e rmX4_searched s m args below meth c 0 0 3 (fun rM => MQ below (cQr D ad cs (13 * pp + 8) rM) args s 0 0 (Ad ad)) D ad cs (Ad ad) M 56 [(0, .ref (ad (13 * q0 + 8))), (1, .int x1), (2, .int x2)] [] (f_X4_searched_L56 fu q0 k n M x1 x2) := by
  intro n
  induction n with
  | zero => intro M x1 x2; exact g_none
  | succ n ih =>
    intro M x1 x2
    unfold f_X4_searched_L56
    refine g_iload_n (pc := 56) F 2 dX4_searched_56 rfl ?_
    refine g_aload_n (pc := 57) F 0 dX4_searched_57 rfl ?_
    refine g_get (pc := 58) (v := .int (M (13 * q0 + 8) 5)) (k := 13 * q0 + 8) (ci := 4) (fs := (oX4 ad (q0))) (C := RX4) (T := TX4) (N := 14) F (P_lt hq0 (by decide)) (sh_X4 hq0) rfl kiX4_searched_X4 5 (by decide) klX4_searched_67 rfl rfl dX4_searched_58 ?_
    refine g_icmp_ge (pc := 61) F 93 dX4_searched_61 (by decide) ?_ ?_
    · exact hkx _ _ _
    · refine g_iload_n (pc := 64) F 2 dX4_searched_64 rfl ?_
      refine g_ldc (pc := 65) (v := 49152) F kwX4_searched_c11 dX4_searched_65 ?_
      refine g_icmp_ge (pc := 67) F 93 dX4_searched_67 (by decide) ?_ ?_
      · exact hkx _ _ _
      · refine g_iload_n (pc := 70) F 2 dX4_searched_70 rfl ?_
        refine g_iload_n (pc := 71) F 1 dX4_searched_71 rfl ?_
        refine g_icmp_ne (pc := 72) F 87 dX4_searched_72 (by decide) ?_ ?_
        · refine g_iinc (pc := 87) (v := x2 + 1) F [(0, .ref (ad (13 * q0 + 8))), (1, .int x1), (2, .int (x2 + 1))] 2 dX4_searched_87 rfl rfl (by decide) rfl rfl rfl ?_
          refine g_goto (pc := 90) F 56 dX4_searched_90 (by decide) ?_
          exact ih _ _ _
        · refine g_aload_n (pc := 75) F 0 dX4_searched_75 rfl ?_
          refine g_iload_n (pc := 76) F 2 dX4_searched_76 rfl ?_
          refine g_vi (pc := 77) (k := 13 * q0 + 8) (ci := 4) (fs := (oX4 ad (q0))) (C := RX4) (T := TX4) (N := 14) (As := [.int x2]) (st := []) F (c_X4_groupEnd l D ad cs F.2.2.1 fu q0 x2 hq0 M) (P_lt hq0 (by decide)) (sh_X4 hq0) rfl (cwV 1 F.1.2.2.2.2 gX4_searched_X4_groupEnd rfl rfl rfl hdV_X4_groupEnd ⟨by decide, by decide⟩) rfl rfl (Nat.le_of_ble_eq_true rfl) dX4_searched_77 ⟨Nat.zero_le _, Nat.zero_le _⟩ (fun r11 M12 => ?_)
          refine g_istore_n (pc := 80) F [(0, .ref (ad (13 * q0 + 8))), (1, .int r11), (2, .int x2)] dX4_searched_80 (by decide) rfl rfl rfl ?_
          refine g_aload_n (pc := 81) F 0 dX4_searched_81 rfl ?_
          refine g_iload_n (pc := 82) F 2 dX4_searched_82 rfl ?_
          refine g_iload_n (pc := 83) F 1 dX4_searched_83 rfl ?_
          refine g_vv (pc := 84) (k := 13 * q0 + 8) (ci := 4) (fs := (oX4 ad (q0))) (C := RX4) (T := TX4) (N := 14) (As := [.int x2, .int r11]) (st := []) F (c_X4_leave l D ad cs F.2.2.1 fu q0 x2 r11 hq0 M12) (P_lt hq0 (by decide)) (sh_X4 hq0) rfl (cwV 2 F.1.2.2.2.2 gX4_searched_X4_leave rfl rfl rfl hdV_X4_leave ⟨by decide, by decide⟩) rfl rfl (Nat.le_of_ble_eq_true rfl) dX4_searched_84 ⟨Nat.zero_le _, Nat.zero_le _⟩ (fun r13 M14 => ?_)
          refine g_iinc (pc := 87) (v := x2 + 1) F [(0, .ref (ad (13 * q0 + 8))), (1, .int r11), (2, .int (x2 + 1))] 2 dX4_searched_87 rfl rfl (by decide) rfl rfl rfl ?_
          refine g_goto (pc := 90) F 56 dX4_searched_90 (by decide) ?_
          exact ih _ _ _
set_option maxHeartbeats 4000000 in
set_option maxRecDepth 100000 in
theorem c_X4_searched (l : Launch) (D : va_G) (ad : Nat → Nat) (cs : Cs) (hi : Inj ad) (fu : Nat) (pp : Nat) (hpp : pp < 4) (M : Mem) : MR l yX4_searched wsX4_searched rmX4_searched D ad cs (13 * pp + 8) [.ref (ad (13 * pp + 8))] M (f_X4_searched fu pp M) := by
  refine Mx.of (cc := cX4_searched) (maxL := 3) (ret := (some (.object "DoorLister$Paths"))) (own := RX4) (lv := [(0, .ref (ad (13 * pp + 8)))]) (by decide) rfl rfl (Nat.le_of_ble_eq_true rfl) rfl hi ?_
  intro p e s m below meth c F hr hlk
  unfold f_X4_searched
  refine g_aload_n (pc := 0) F 0 dX4_searched_0 rfl ?_
  refine g_get (pc := 1) (v := .int (M (13 * pp + 8) 8)) (k := 13 * pp + 8) (ci := 4) (fs := (oX4 ad (pp))) (C := RX4) (T := TX4) (N := 14) F (P_lt hpp (by decide)) (sh_X4 hpp) rfl kiX4_searched_X4 8 (by decide) klX4_searched_34 rfl rfl dX4_searched_1 ?_
  refine g_if_ne (pc := 4) F 9 dX4_searched_4 (by decide) ?_ ?_
  · refine g_aload_n (pc := 9) F 0 dX4_searched_9 rfl ?_
    refine g_iconst (pc := 10) (v := 0) F dX4_searched_10 (by decide) ?_
    refine g_put (pc := 11) (k := 13 * pp + 8) (ci := 4) (fs := (oX4 ad (pp))) (C := RX4) (T := TX4) (N := 14) F (P_lt hpp (by decide)) (sh_X4 hpp) rfl kiX4_searched_X4 tyX4 tyX4_ok nmX4 8 (by decide) klX4_searched_34 rfl rfl rfl rfl (fun _ => rfl) (Nat.le_of_ble_eq_true rfl) dX4_searched_11 (fun M1 => ?_)
    refine g_aload_n (pc := 14) F 0 dX4_searched_14 rfl ?_
    refine g_get (pc := 15) (v := .ref (ad (54))) (k := 13 * pp + 8) (ci := 4) (fs := (oX4 ad (pp))) (C := RX4) (T := TX4) (N := 14) F (P_lt hpp (by decide)) (sh_X4 hpp) rfl kiX4_searched_X4 1 (by decide) klX4_searched_30 rfl rfl dX4_searched_15 ?_
    refine g_vv (pc := 18) (k := 54) (ci := 6) (fs := (oX6 ad)) (C := RX6) (T := TX6) (N := 3) (As := []) (st := []) F (c_X6_clear l D ad cs F.2.2.1 fu M1) (by decide) (fun _ => rfl) rfl (cwV 0 F.1.2.2.2.2 gX4_searched_X6_clear rfl rfl rfl hdV_X6_clear ⟨by decide, by decide⟩) rfl rfl (Nat.le_of_ble_eq_true rfl) dX4_searched_18 ⟨Nat.zero_le _, Nat.zero_le _⟩ (fun r2 M3 => ?_)
    refine g_aload_n (pc := 21) F 0 dX4_searched_21 rfl ?_
    refine g_get (pc := 22) (v := .ref (ad (13 * pp + 11))) (k := 13 * pp + 8) (ci := 4) (fs := (oX4 ad (pp))) (C := RX4) (T := TX4) (N := 14) F (P_lt hpp (by decide)) (sh_X4 hpp) rfl kiX4_searched_X4 4 (by decide) klX4_searched_22 rfl rfl dX4_searched_22 ?_
    refine g_vv (pc := 25) (k := 13 * pp + 11) (ci := 0) (fs := (oX0 ad (13 * pp + 11))) (C := RX0) (T := TX0) (N := 1) (As := []) (st := []) F (c_X0_clear l D ad cs F.2.2.1 fu (13 * pp + 11) (tab_c hpp) M3) (tab_lt (tab_c hpp)) (sh_X0 (tab_c hpp)) rfl (cwV 0 F.1.2.2.2.2 gX4_searched_X0_clear rfl rfl rfl hdV_X0_clear ⟨by decide, by decide⟩) rfl rfl (Nat.le_of_ble_eq_true rfl) dX4_searched_25 ⟨Nat.zero_le _, Nat.zero_le _⟩ (fun r4 M5 => ?_)
    refine g_aload_n (pc := 28) F 0 dX4_searched_28 rfl ?_
    refine g_iconst (pc := 29) (v := 0) F dX4_searched_29 (by decide) ?_
    refine g_put (pc := 30) (k := 13 * pp + 8) (ci := 4) (fs := (oX4 ad (pp))) (C := RX4) (T := TX4) (N := 14) F (P_lt hpp (by decide)) (sh_X4 hpp) rfl kiX4_searched_X4 tyX4 tyX4_ok nmX4 5 (by decide) klX4_searched_67 rfl rfl rfl rfl (fun _ => rfl) (Nat.le_of_ble_eq_true rfl) dX4_searched_30 (fun M6 => ?_)
    refine g_aload_n (pc := 33) F 0 dX4_searched_33 rfl ?_
    refine g_iconst (pc := 34) (v := 0) F dX4_searched_34 (by decide) ?_
    refine g_put (pc := 35) (k := 13 * pp + 8) (ci := 4) (fs := (oX4 ad (pp))) (C := RX4) (T := TX4) (N := 14) F (P_lt hpp (by decide)) (sh_X4 hpp) rfl kiX4_searched_X4 tyX4 tyX4_ok nmX4 6 (by decide) klX4_searched_38 rfl rfl rfl rfl (fun _ => rfl) (Nat.le_of_ble_eq_true rfl) dX4_searched_35 (fun M7 => ?_)
    refine g_aload_n (pc := 38) F 0 dX4_searched_38 rfl ?_
    refine g_iconst (pc := 39) (v := 1) F dX4_searched_39 (by decide) ?_
    refine g_put (pc := 40) (k := 13 * pp + 8) (ci := 4) (fs := (oX4 ad (pp))) (C := RX4) (T := TX4) (N := 14) F (P_lt hpp (by decide)) (sh_X4 hpp) rfl kiX4_searched_X4 tyX4 tyX4_ok nmX4 7 (by decide) klX4_searched_70 rfl rfl rfl rfl (fun _ => rfl) (Nat.le_of_ble_eq_true rfl) dX4_searched_40 (fun M8 => ?_)
    refine g_aload_n (pc := 43) F 0 dX4_searched_43 rfl ?_
    refine g_iconst (pc := 44) (v := 0) F dX4_searched_44 (by decide) ?_
    refine g_iconst (pc := 45) (v := 0) F dX4_searched_45 (by decide) ?_
    refine g_iconst (pc := 46) (v := 0) F dX4_searched_46 (by decide) ?_
    refine g_iconst (pc := 47) (v := 0) F dX4_searched_47 (by decide) ?_
    refine g_iconst (pc := 48) (v := 1) F dX4_searched_48 (by decide) ?_
    refine g_vv (pc := 49) (k := 13 * pp + 8) (ci := 4) (fs := (oX4 ad (pp))) (C := RX4) (T := TX4) (N := 14) (As := [.int 0, .int 0, .int 0, .int 0, .int 1]) (st := []) F (c_X4_push l D ad cs F.2.2.1 pp 0 0 0 0 1 hpp M8) (P_lt hpp (by decide)) (sh_X4 hpp) rfl (cwV 5 F.1.2.2.2.2 gX4_searched_X4_push rfl rfl rfl hdV_X4_push ⟨by decide, by decide⟩) rfl rfl (Nat.le_of_ble_eq_true rfl) dX4_searched_49 ⟨Nat.zero_le _, Nat.zero_le _⟩ (fun r9 M10 => ?_)
    refine g_iconst (pc := 52) (v := 0) F dX4_searched_52 (by decide) ?_
    refine g_istore_n (pc := 53) F [(0, .ref (ad (13 * pp + 8))), (1, .int 0)] dX4_searched_53 (by decide) rfl rfl rfl ?_
    refine g_iconst (pc := 54) (v := 0) F dX4_searched_54 (by decide) ?_
    refine g_istore_n (pc := 55) F [(0, .ref (ad (13 * pp + 8))), (1, .int 0), (2, .int 0)] dX4_searched_55 (by decide) rfl rfl rfl ?_
    refine w_X4_searched_L56 fu pp hpp F hr hlk _ (fun M15 y16 y17 => ?_) _ _ _ _
    refine g_aload_n (pc := 93) F 0 dX4_searched_93 rfl ?_
    exact g_aret (pc := 94) F hr hlk dX4_searched_94
  · refine g_aload_n (pc := 7) F 0 dX4_searched_7 rfl ?_
    exact g_aret (pc := 8) F hr hlk dX4_searched_8
-- X5_instructions
def rmX5_instructions : Room := { frames := 0, cells := 0, slots := 0, locals := 0 }
def f_X5_instructions (pp : Nat) (M : Mem) : Option (Int32 × Mem) := some (0, M)
set_option maxRecDepth 20000 in
theorem kiX5_instructions_X5 : ∀ w ∈ u_ws RX5 TX5 3, w ∈ wsX5_instructions := by decide +kernel
set_option maxRecDepth 20000 in
theorem klX5_instructions_18 : Cond.fieldLink RX5 18 "DoorLister$Program" "code" "LDoorLister$Code;" ∈ wsX5_instructions := by decide +kernel
set_option maxHeartbeats 4000000 in
set_option maxRecDepth 100000 in
theorem c_X5_instructions (l : Launch) (D : va_G) (ad : Nat → Nat) (cs : Cs) (hi : Inj ad) (pp : Nat) (hpp : pp < 4) (M : Mem) : MR l yX5_instructions wsX5_instructions rmX5_instructions D ad cs (13 * pp + 3) [.ref (ad (13 * pp + 2))] M (f_X5_instructions pp M) := by
  refine Mx.of (cc := cX5_instructions) (maxL := 1) (ret := (some (.object "DoorLister$Code"))) (own := RX5) (lv := [(0, .ref (ad (13 * pp + 2)))]) (by decide) rfl rfl (Nat.le_of_ble_eq_true rfl) rfl hi ?_
  intro p e s m below meth c F hr hlk
  unfold f_X5_instructions
  refine g_aload_n (pc := 0) F 0 dX5_instructions_0 rfl ?_
  refine g_get (pc := 1) (v := .ref (ad (13 * pp + 3))) (k := 13 * pp + 2) (ci := 5) (fs := (oX5 ad (pp))) (C := RX5) (T := TX5) (N := 3) F (P_lt hpp (by decide)) (sh_X5 hpp) rfl kiX5_instructions_X5 0 (by decide) klX5_instructions_18 rfl rfl dX5_instructions_1 ?_
  exact g_aret (pc := 4) F hr hlk dX5_instructions_4
-- X5_called
def rmX5_called : Room := { frames := 0, cells := 0, slots := 0, locals := 0 }
def f_X5_called (pp : Nat) (M : Mem) : Option (Int32 × Mem) := some (0, M)
set_option maxRecDepth 20000 in
theorem kiX5_called_X5 : ∀ w ∈ u_ws RX5 TX5 3, w ∈ wsX5_called := by decide +kernel
set_option maxRecDepth 20000 in
theorem klX5_called_12 : Cond.fieldLink RX5 12 "DoorLister$Program" "called" "LDoorLister$CallTable;" ∈ wsX5_called := by decide +kernel
set_option maxHeartbeats 4000000 in
set_option maxRecDepth 100000 in
theorem c_X5_called (l : Launch) (D : va_G) (ad : Nat → Nat) (cs : Cs) (hi : Inj ad) (pp : Nat) (hpp : pp < 4) (M : Mem) : MR l yX5_called wsX5_called rmX5_called D ad cs (13 * pp + 13) [.ref (ad (13 * pp + 2))] M (f_X5_called pp M) := by
  refine Mx.of (cc := cX5_called) (maxL := 1) (ret := (some (.object "DoorLister$CallTable"))) (own := RX5) (lv := [(0, .ref (ad (13 * pp + 2)))]) (by decide) rfl rfl (Nat.le_of_ble_eq_true rfl) rfl hi ?_
  intro p e s m below meth c F hr hlk
  unfold f_X5_called
  refine g_aload_n (pc := 0) F 0 dX5_called_0 rfl ?_
  refine g_get (pc := 1) (v := .ref (ad (13 * pp + 13))) (k := 13 * pp + 2) (ci := 5) (fs := (oX5 ad (pp))) (C := RX5) (T := TX5) (N := 3) F (P_lt hpp (by decide)) (sh_X5 hpp) rfl kiX5_called_X5 2 (by decide) klX5_called_12 rfl rfl dX5_called_1 ?_
  exact g_aret (pc := 4) F hr hlk dX5_called_4
-- X5_paths
def rmX5_paths : Room := { frames := 0, cells := 0, slots := 0, locals := 0 }
def f_X5_paths (pp : Nat) (M : Mem) : Option (Int32 × Mem) := some (0, M)
set_option maxRecDepth 20000 in
theorem kiX5_paths_X5 : ∀ w ∈ u_ws RX5 TX5 3, w ∈ wsX5_paths := by decide +kernel
set_option maxRecDepth 20000 in
theorem klX5_paths_22 : Cond.fieldLink RX5 22 "DoorLister$Program" "paths" "LDoorLister$Paths;" ∈ wsX5_paths := by decide +kernel
set_option maxHeartbeats 4000000 in
set_option maxRecDepth 100000 in
theorem c_X5_paths (l : Launch) (D : va_G) (ad : Nat → Nat) (cs : Cs) (hi : Inj ad) (pp : Nat) (hpp : pp < 4) (M : Mem) : MR l yX5_paths wsX5_paths rmX5_paths D ad cs (13 * pp + 8) [.ref (ad (13 * pp + 2))] M (f_X5_paths pp M) := by
  refine Mx.of (cc := cX5_paths) (maxL := 1) (ret := (some (.object "DoorLister$Paths"))) (own := RX5) (lv := [(0, .ref (ad (13 * pp + 2)))]) (by decide) rfl rfl (Nat.le_of_ble_eq_true rfl) rfl hi ?_
  intro p e s m below meth c F hr hlk
  unfold f_X5_paths
  refine g_aload_n (pc := 0) F 0 dX5_paths_0 rfl ?_
  refine g_get (pc := 1) (v := .ref (ad (13 * pp + 8))) (k := 13 * pp + 2) (ci := 5) (fs := (oX5 ad (pp))) (C := RX5) (T := TX5) (N := 3) F (P_lt hpp (by decide)) (sh_X5 hpp) rfl kiX5_paths_X5 1 (by decide) klX5_paths_22 rfl rfl dX5_paths_1 ?_
  exact g_aret (pc := 4) F hr hlk dX5_paths_4
-- X5_replace
def rmX5_replace : Room := { frames := 1, cells := 0, slots := 0, locals := 25 }
def f_X5_replace (pp : Nat) (a1 : Int32) (a2 : Int32) (a3 : Int32) (a4 : Int32) (a5 : Int32) (M : Mem) : Option (Int32 × Mem) := bnd (f_X1_has pp a1 M) (fun r1 M2 => if r1 = 0 then some (0, M2) else bnd (f_X1_put pp a1 a2 a3 a4 a5 M2) (fun r3 M4 => bnd (f_X4_forget pp M4) (fun r5 M6 => some (1, M6))))
set_option maxRecDepth 20000 in
theorem kiX5_replace_X5 : ∀ w ∈ u_ws RX5 TX5 3, w ∈ wsX5_replace := by decide +kernel
set_option maxRecDepth 20000 in
theorem klX5_replace_18 : Cond.fieldLink RX5 18 "DoorLister$Program" "code" "LDoorLister$Code;" ∈ wsX5_replace := by decide +kernel
set_option maxRecDepth 20000 in
theorem klX5_replace_22 : Cond.fieldLink RX5 22 "DoorLister$Program" "paths" "LDoorLister$Paths;" ∈ wsX5_replace := by decide +kernel
set_option maxHeartbeats 4000000 in
set_option maxRecDepth 100000 in
theorem c_X5_replace (l : Launch) (D : va_G) (ad : Nat → Nat) (cs : Cs) (hi : Inj ad) (pp : Nat) (a1 : Int32) (a2 : Int32) (a3 : Int32) (a4 : Int32) (a5 : Int32) (hpp : pp < 4) (M : Mem) : MI l yX5_replace wsX5_replace rmX5_replace D ad cs [.ref (ad (13 * pp + 2)), .int a1, .int a2, .int a3, .int a4, .int a5] M (f_X5_replace pp a1 a2 a3 a4 a5 M) := by
  refine Mx.of (cc := cX5_replace) (maxL := 6) (ret := (some .boolean)) (own := RX5) (lv := [(0, .ref (ad (13 * pp + 2))), (1, .int a1), (2, .int a2), (3, .int a3), (4, .int a4), (5, .int a5)]) (by decide) rfl rfl (Nat.le_of_ble_eq_true rfl) rfl hi ?_
  intro p e s m below meth c F hr hlk
  unfold f_X5_replace
  refine g_aload_n (pc := 0) F 0 dX5_replace_0 rfl ?_
  refine g_get (pc := 1) (v := .ref (ad (13 * pp + 3))) (k := 13 * pp + 2) (ci := 5) (fs := (oX5 ad (pp))) (C := RX5) (T := TX5) (N := 3) F (P_lt hpp (by decide)) (sh_X5 hpp) rfl kiX5_replace_X5 0 (by decide) klX5_replace_18 rfl rfl dX5_replace_1 ?_
  refine g_iload_n (pc := 4) F 1 dX5_replace_4 rfl ?_
  refine g_vi (pc := 5) (k := 13 * pp + 3) (ci := 1) (fs := (oX1 ad (pp))) (C := RX1) (T := TX1) (N := 5) (As := [.int a1]) (st := []) F (c_X1_has l D ad cs F.2.2.1 pp a1 hpp M) (P_lt hpp (by decide)) (sh_X1 hpp) rfl (cwV 1 F.1.2.2.2.2 gX5_replace_X1_has rfl rfl rfl hdV_X1_has ⟨by decide, by decide⟩) rfl rfl (Nat.le_of_ble_eq_true rfl) dX5_replace_5 ⟨Nat.zero_le _, Nat.zero_le _⟩ (fun r1 M2 => ?_)
  refine g_if_ne (pc := 8) F 13 dX5_replace_8 (by decide) ?_ ?_
  · refine g_aload_n (pc := 13) F 0 dX5_replace_13 rfl ?_
    refine g_get (pc := 14) (v := .ref (ad (13 * pp + 3))) (k := 13 * pp + 2) (ci := 5) (fs := (oX5 ad (pp))) (C := RX5) (T := TX5) (N := 3) F (P_lt hpp (by decide)) (sh_X5 hpp) rfl kiX5_replace_X5 0 (by decide) klX5_replace_18 rfl rfl dX5_replace_14 ?_
    refine g_iload_n (pc := 17) F 1 dX5_replace_17 rfl ?_
    refine g_iload_n (pc := 18) F 2 dX5_replace_18 rfl ?_
    refine g_iload_n (pc := 19) F 3 dX5_replace_19 rfl ?_
    refine g_iload (pc := 20) F 4 dX5_replace_20 rfl ?_
    refine g_iload (pc := 22) F 5 dX5_replace_22 rfl ?_
    refine g_vv (pc := 24) (k := 13 * pp + 3) (ci := 1) (fs := (oX1 ad (pp))) (C := RX1) (T := TX1) (N := 5) (As := [.int a1, .int a2, .int a3, .int a4, .int a5]) (st := []) F (c_X1_put l D ad cs F.2.2.1 pp a1 a2 a3 a4 a5 hpp M2) (P_lt hpp (by decide)) (sh_X1 hpp) rfl (cwV 5 F.1.2.2.2.2 gX5_replace_X1_put rfl rfl rfl hdV_X1_put ⟨by decide, by decide⟩) rfl rfl (Nat.le_of_ble_eq_true rfl) dX5_replace_24 ⟨Nat.zero_le _, Nat.zero_le _⟩ (fun r3 M4 => ?_)
    refine g_aload_n (pc := 27) F 0 dX5_replace_27 rfl ?_
    refine g_get (pc := 28) (v := .ref (ad (13 * pp + 8))) (k := 13 * pp + 2) (ci := 5) (fs := (oX5 ad (pp))) (C := RX5) (T := TX5) (N := 3) F (P_lt hpp (by decide)) (sh_X5 hpp) rfl kiX5_replace_X5 1 (by decide) klX5_replace_22 rfl rfl dX5_replace_28 ?_
    refine g_vv (pc := 31) (k := 13 * pp + 8) (ci := 4) (fs := (oX4 ad (pp))) (C := RX4) (T := TX4) (N := 14) (As := []) (st := []) F (c_X4_forget l D ad cs F.2.2.1 pp hpp M4) (P_lt hpp (by decide)) (sh_X4 hpp) rfl (cwV 0 F.1.2.2.2.2 gX5_replace_X4_forget rfl rfl rfl hdV_X4_forget ⟨by decide, by decide⟩) rfl rfl (Nat.le_of_ble_eq_true rfl) dX5_replace_31 ⟨Nat.zero_le _, Nat.zero_le _⟩ (fun r5 M6 => ?_)
    refine g_iconst (pc := 34) (v := 1) F dX5_replace_34 (by decide) ?_
    exact g_zret (pc := 35) F hr hlk rfl dX5_replace_35
  · refine g_iconst (pc := 11) (v := 0) F dX5_replace_11 (by decide) ?_
    exact g_zret (pc := 12) F hr hlk rfl dX5_replace_12
-- X5_append
def rmX5_append : Room := { frames := 2, cells := 0, slots := 0, locals := 50 }
def f_X5_append (pp : Nat) (a1 : Int32) (a2 : Int32) (a3 : Int32) (a4 : Int32) (M : Mem) : Option (Int32 × Mem) := bnd (f_X1_grow pp M) (fun r1 M2 => if r1 = 0 then some ((-1), M2) else bnd (f_X1_length pp M2) (fun r3 M4 => nm (r3 - (1 : Int32)) (fun v5 => bnd (f_X5_replace pp v5 a1 a2 a3 a4 M4) (fun r6 M7 => some (v5, M7)))))
set_option maxRecDepth 20000 in
theorem kiX5_append_X5 : ∀ w ∈ u_ws RX5 TX5 3, w ∈ wsX5_append := by decide +kernel
set_option maxRecDepth 20000 in
theorem klX5_append_18 : Cond.fieldLink RX5 18 "DoorLister$Program" "code" "LDoorLister$Code;" ∈ wsX5_append := by decide +kernel
set_option maxHeartbeats 4000000 in
set_option maxRecDepth 100000 in
theorem c_X5_append (l : Launch) (D : va_G) (ad : Nat → Nat) (cs : Cs) (hi : Inj ad) (pp : Nat) (a1 : Int32) (a2 : Int32) (a3 : Int32) (a4 : Int32) (hpp : pp < 4) (M : Mem) : MI l yX5_append wsX5_append rmX5_append D ad cs [.ref (ad (13 * pp + 2)), .int a1, .int a2, .int a3, .int a4] M (f_X5_append pp a1 a2 a3 a4 M) := by
  refine Mx.of (cc := cX5_append) (maxL := 6) (ret := (some .int)) (own := RX5) (lv := [(0, .ref (ad (13 * pp + 2))), (1, .int a1), (2, .int a2), (3, .int a3), (4, .int a4)]) (by decide) rfl rfl (Nat.le_of_ble_eq_true rfl) rfl hi ?_
  intro p e s m below meth c F hr hlk
  unfold f_X5_append
  refine g_aload_n (pc := 0) F 0 dX5_append_0 rfl ?_
  refine g_get (pc := 1) (v := .ref (ad (13 * pp + 3))) (k := 13 * pp + 2) (ci := 5) (fs := (oX5 ad (pp))) (C := RX5) (T := TX5) (N := 3) F (P_lt hpp (by decide)) (sh_X5 hpp) rfl kiX5_append_X5 0 (by decide) klX5_append_18 rfl rfl dX5_append_1 ?_
  refine g_vi (pc := 4) (k := 13 * pp + 3) (ci := 1) (fs := (oX1 ad (pp))) (C := RX1) (T := TX1) (N := 5) (As := []) (st := []) F (c_X1_grow l D ad cs F.2.2.1 pp hpp M) (P_lt hpp (by decide)) (sh_X1 hpp) rfl (cwV 0 F.1.2.2.2.2 gX5_append_X1_grow rfl rfl rfl hdV_X1_grow ⟨by decide, by decide⟩) rfl rfl (Nat.le_of_ble_eq_true rfl) dX5_append_4 ⟨Nat.zero_le _, Nat.zero_le _⟩ (fun r1 M2 => ?_)
  refine g_if_ne (pc := 7) F 12 dX5_append_7 (by decide) ?_ ?_
  · refine g_aload_n (pc := 12) F 0 dX5_append_12 rfl ?_
    refine g_get (pc := 13) (v := .ref (ad (13 * pp + 3))) (k := 13 * pp + 2) (ci := 5) (fs := (oX5 ad (pp))) (C := RX5) (T := TX5) (N := 3) F (P_lt hpp (by decide)) (sh_X5 hpp) rfl kiX5_append_X5 0 (by decide) klX5_append_18 rfl rfl dX5_append_13 ?_
    refine g_vi (pc := 16) (k := 13 * pp + 3) (ci := 1) (fs := (oX1 ad (pp))) (C := RX1) (T := TX1) (N := 5) (As := []) (st := []) F (c_X1_length l D ad cs F.2.2.1 pp hpp M2) (P_lt hpp (by decide)) (sh_X1 hpp) rfl (cwV 0 F.1.2.2.2.2 gX5_append_X1_length rfl rfl rfl hdV_X1_length ⟨by decide, by decide⟩) rfl rfl (Nat.le_of_ble_eq_true rfl) dX5_append_16 ⟨Nat.zero_le _, Nat.zero_le _⟩ (fun r3 M4 => ?_)
    refine g_iconst (pc := 19) (v := 1) F dX5_append_19 (by decide) ?_
    refine g_isub (pc := 20) F dX5_append_20 ?_
    refine g_nm (fun v5 => ?_)
    refine g_istore (pc := 21) F [(0, .ref (ad (13 * pp + 2))), (1, .int a1), (2, .int a2), (3, .int a3), (4, .int a4), (5, .int v5)] dX5_append_21 (by decide) rfl rfl rfl ?_
    refine g_aload_n (pc := 23) F 0 dX5_append_23 rfl ?_
    refine g_iload (pc := 24) F 5 dX5_append_24 rfl ?_
    refine g_iload_n (pc := 26) F 1 dX5_append_26 rfl ?_
    refine g_iload_n (pc := 27) F 2 dX5_append_27 rfl ?_
    refine g_iload_n (pc := 28) F 3 dX5_append_28 rfl ?_
    refine g_iload (pc := 29) F 4 dX5_append_29 rfl ?_
    refine g_vi (pc := 31) (k := 13 * pp + 2) (ci := 5) (fs := (oX5 ad (pp))) (C := RX5) (T := TX5) (N := 3) (As := [.int v5, .int a1, .int a2, .int a3, .int a4]) (st := []) F (c_X5_replace l D ad cs F.2.2.1 pp v5 a1 a2 a3 a4 hpp M4) (P_lt hpp (by decide)) (sh_X5 hpp) rfl (cwV 5 F.1.2.2.2.2 gX5_append_X5_replace rfl rfl rfl hdV_X5_replace ⟨by decide, by decide⟩) rfl rfl (Nat.le_of_ble_eq_true rfl) dX5_append_31 ⟨Nat.zero_le _, Nat.zero_le _⟩ (fun r6 M7 => ?_)
    refine g_pop (pc := 34) F rfl dX5_append_34 ?_
    refine g_iload (pc := 35) F 5 dX5_append_35 rfl ?_
    exact g_iret (pc := 37) F hr hlk dX5_append_37
  · refine g_iconst (pc := 10) (v := (-1)) F dX5_append_10 (by decide) ?_
    exact g_iret (pc := 11) F hr hlk dX5_append_11
-- X5_takeCodeOf
def rmX5_takeCodeOf : Room := { frames := 2, cells := 0, slots := 0, locals := 47 }
def f_X5_takeCodeOf (fu : Nat) (pp : Nat) (p1 : Nat) (M : Mem) : Option (Int32 × Mem) := bnd (f_X1_become fu pp p1 M) (fun r1 M2 => bnd (f_X4_forget pp M2) (fun r3 M4 => some (0, M4)))
set_option maxRecDepth 20000 in
theorem kiX5_takeCodeOf_X5 : ∀ w ∈ u_ws RX5 TX5 3, w ∈ wsX5_takeCodeOf := by decide +kernel
set_option maxRecDepth 20000 in
theorem klX5_takeCodeOf_18 : Cond.fieldLink RX5 18 "DoorLister$Program" "code" "LDoorLister$Code;" ∈ wsX5_takeCodeOf := by decide +kernel
set_option maxRecDepth 20000 in
theorem klX5_takeCodeOf_22 : Cond.fieldLink RX5 22 "DoorLister$Program" "paths" "LDoorLister$Paths;" ∈ wsX5_takeCodeOf := by decide +kernel
set_option maxHeartbeats 4000000 in
set_option maxRecDepth 100000 in
theorem c_X5_takeCodeOf (l : Launch) (D : va_G) (ad : Nat → Nat) (cs : Cs) (hi : Inj ad) (fu : Nat) (pp : Nat) (p1 : Nat) (hpp : pp < 4) (h1 : p1 < 4) (M : Mem) : MV l yX5_takeCodeOf wsX5_takeCodeOf rmX5_takeCodeOf D ad cs [.ref (ad (13 * pp + 2)), .ref (ad (13 * p1 + 2))] M (f_X5_takeCodeOf fu pp p1 M) := by
  refine Mx.of (cc := cX5_takeCodeOf) (maxL := 2) (ret := none) (own := RX5) (lv := [(0, .ref (ad (13 * pp + 2))), (1, .ref (ad (13 * p1 + 2)))]) (by decide) rfl rfl (Nat.le_of_ble_eq_true rfl) rfl hi ?_
  intro p e s m below meth c F hr hlk
  unfold f_X5_takeCodeOf
  refine g_aload_n (pc := 0) F 0 dX5_takeCodeOf_0 rfl ?_
  refine g_get (pc := 1) (v := .ref (ad (13 * pp + 3))) (k := 13 * pp + 2) (ci := 5) (fs := (oX5 ad (pp))) (C := RX5) (T := TX5) (N := 3) F (P_lt hpp (by decide)) (sh_X5 hpp) rfl kiX5_takeCodeOf_X5 0 (by decide) klX5_takeCodeOf_18 rfl rfl dX5_takeCodeOf_1 ?_
  refine g_aload_n (pc := 4) F 1 dX5_takeCodeOf_4 rfl ?_
  refine g_get (pc := 5) (v := .ref (ad (13 * p1 + 3))) (k := 13 * p1 + 2) (ci := 5) (fs := (oX5 ad (p1))) (C := RX5) (T := TX5) (N := 3) F (P_lt h1 (by decide)) (sh_X5 h1) rfl kiX5_takeCodeOf_X5 0 (by decide) klX5_takeCodeOf_18 rfl rfl dX5_takeCodeOf_5 ?_
  refine g_vv (pc := 8) (k := 13 * pp + 3) (ci := 1) (fs := (oX1 ad (pp))) (C := RX1) (T := TX1) (N := 5) (As := [.ref (ad (13 * p1 + 3))]) (st := []) F (c_X1_become l D ad cs F.2.2.1 fu pp p1 hpp h1 M) (P_lt hpp (by decide)) (sh_X1 hpp) rfl (cwV 1 F.1.2.2.2.2 gX5_takeCodeOf_X1_become rfl rfl rfl hdV_X1_become ⟨by decide, by decide⟩) rfl rfl (Nat.le_of_ble_eq_true rfl) dX5_takeCodeOf_8 ⟨Nat.zero_le _, Nat.zero_le _⟩ (fun r1 M2 => ?_)
  refine g_aload_n (pc := 11) F 0 dX5_takeCodeOf_11 rfl ?_
  refine g_get (pc := 12) (v := .ref (ad (13 * pp + 8))) (k := 13 * pp + 2) (ci := 5) (fs := (oX5 ad (pp))) (C := RX5) (T := TX5) (N := 3) F (P_lt hpp (by decide)) (sh_X5 hpp) rfl kiX5_takeCodeOf_X5 1 (by decide) klX5_takeCodeOf_22 rfl rfl dX5_takeCodeOf_12 ?_
  refine g_vv (pc := 15) (k := 13 * pp + 8) (ci := 4) (fs := (oX4 ad (pp))) (C := RX4) (T := TX4) (N := 14) (As := []) (st := []) F (c_X4_forget l D ad cs F.2.2.1 pp hpp M2) (P_lt hpp (by decide)) (sh_X4 hpp) rfl (cwV 0 F.1.2.2.2.2 gX5_takeCodeOf_X4_forget rfl rfl rfl hdV_X4_forget ⟨by decide, by decide⟩) rfl rfl (Nat.le_of_ble_eq_true rfl) dX5_takeCodeOf_15 ⟨Nat.zero_le _, Nat.zero_le _⟩ (fun r3 M4 => ?_)
  exact g_vret (pc := 18) F hr hlk dX5_takeCodeOf_18
-- X7_size
def rmX7_size : Room := { frames := 0, cells := 0, slots := 0, locals := 0 }
def f_X7_size  (M : Mem) : Option (Int32 × Mem) := some (M (58) 1, M)
set_option maxRecDepth 20000 in
theorem kiX7_size_X7 : ∀ w ∈ u_ws RX7 TX7 2, w ∈ wsX7_size := by decide +kernel
set_option maxRecDepth 20000 in
theorem klX7_size_15 : Cond.fieldLink RX7 15 "DoorLister$Tape" "size" "I" ∈ wsX7_size := by decide +kernel
set_option maxHeartbeats 4000000 in
set_option maxRecDepth 100000 in
theorem c_X7_size (l : Launch) (D : va_G) (ad : Nat → Nat) (cs : Cs) (hi : Inj ad)  (M : Mem) : MI l yX7_size wsX7_size rmX7_size D ad cs [.ref (ad (58))] M (f_X7_size M) := by
  refine Mx.of (cc := cX7_size) (maxL := 1) (ret := (some .int)) (own := RX7) (lv := [(0, .ref (ad (58)))]) (by decide) rfl rfl (Nat.le_of_ble_eq_true rfl) rfl hi ?_
  intro p e s m below meth c F hr hlk
  unfold f_X7_size
  refine g_aload_n (pc := 0) F 0 dX7_size_0 rfl ?_
  refine g_get (pc := 1) (v := .int (M (58) 1)) (k := 58) (ci := 7) (fs := (oX7 ad)) (C := RX7) (T := TX7) (N := 2) F (by decide) (fun _ => rfl) rfl kiX7_size_X7 1 (by decide) klX7_size_15 rfl rfl dX7_size_1 ?_
  exact g_iret (pc := 4) F hr hlk dX7_size_4
-- X7_hasRoom
def rmX7_hasRoom : Room := { frames := 0, cells := 0, slots := 0, locals := 0 }
def f_X7_hasRoom (a1 : Int32) (M : Mem) : Option (Int32 × Mem) := if 80 < ((M (58) 1) + a1) then some (0, M) else some (1, M)
set_option maxRecDepth 20000 in
theorem kiX7_hasRoom_X7 : ∀ w ∈ u_ws RX7 TX7 2, w ∈ wsX7_hasRoom := by decide +kernel
set_option maxRecDepth 20000 in
theorem klX7_hasRoom_15 : Cond.fieldLink RX7 15 "DoorLister$Tape" "size" "I" ∈ wsX7_hasRoom := by decide +kernel
set_option maxHeartbeats 4000000 in
set_option maxRecDepth 100000 in
theorem c_X7_hasRoom (l : Launch) (D : va_G) (ad : Nat → Nat) (cs : Cs) (hi : Inj ad) (a1 : Int32) (M : Mem) : MI l yX7_hasRoom wsX7_hasRoom rmX7_hasRoom D ad cs [.ref (ad (58)), .int a1] M (f_X7_hasRoom a1 M) := by
  refine Mx.of (cc := cX7_hasRoom) (maxL := 2) (ret := (some .boolean)) (own := RX7) (lv := [(0, .ref (ad (58))), (1, .int a1)]) (by decide) rfl rfl (Nat.le_of_ble_eq_true rfl) rfl hi ?_
  intro p e s m below meth c F hr hlk
  unfold f_X7_hasRoom
  refine g_aload_n (pc := 0) F 0 dX7_hasRoom_0 rfl ?_
  refine g_get (pc := 1) (v := .int (M (58) 1)) (k := 58) (ci := 7) (fs := (oX7 ad)) (C := RX7) (T := TX7) (N := 2) F (by decide) (fun _ => rfl) rfl kiX7_hasRoom_X7 1 (by decide) klX7_hasRoom_15 rfl rfl dX7_hasRoom_1 ?_
  refine g_iload_n (pc := 4) F 1 dX7_hasRoom_4 rfl ?_
  refine g_iadd (pc := 5) F dX7_hasRoom_5 ?_
  refine g_bipush (pc := 6) (v := 80) F dX7_hasRoom_6 (by decide) ?_
  refine g_icmp_gt (pc := 8) F 15 dX7_hasRoom_8 (by decide) ?_ ?_
  · refine g_iconst (pc := 15) (v := 0) F dX7_hasRoom_15 (by decide) ?_
    exact g_zret (pc := 16) F hr hlk rfl dX7_hasRoom_16
  · refine g_iconst (pc := 11) (v := 1) F dX7_hasRoom_11 (by decide) ?_
    refine g_goto (pc := 12) F 16 dX7_hasRoom_12 (by decide) ?_
    exact g_zret (pc := 16) F hr hlk rfl dX7_hasRoom_16
-- X7_addWord
def rmX7_addWord : Room := { frames := 0, cells := 0, slots := 0, locals := 0 }
def f_X7_addWord_L3 (x1 : Int32) (k : Mem → Int32 → Option (Int32 × Mem)) : Nat → Mem → Int32 → Option (Int32 × Mem)
  | 0, _, _ => none
  | n + 1, M, x2 => if x2 < 0 then k M x2 else if 80 ≤ (M (58) 1) then k M x2 else if ix (M (58) 1) 80 then wr M (59) (M (58) 1).toNatClampNeg ((usr x1 x2) &&& (255 : Int32)) (fun M1 => wr M1 (58) 1 ((M1 (58) 1) + (1 : Int32)) (fun M2 => f_X7_addWord_L3 x1 k n M2 (x2 + (-8)))) else none
def f_X7_addWord (fu : Nat) (a1 : Int32) (M : Mem) : Option (Int32 × Mem) := f_X7_addWord_L3 a1 (fun M3 y4 => some (0, M3)) fu M 24
set_option maxRecDepth 20000 in
theorem kiX7_addWord_X7 : ∀ w ∈ u_ws RX7 TX7 2, w ∈ wsX7_addWord := by decide +kernel
set_option maxRecDepth 20000 in
theorem klX7_addWord_15 : Cond.fieldLink RX7 15 "DoorLister$Tape" "size" "I" ∈ wsX7_addWord := by decide +kernel
set_option maxRecDepth 20000 in
theorem klX7_addWord_9 : Cond.fieldLink RX7 9 "DoorLister$Tape" "bytes" "[I" ∈ wsX7_addWord := by decide +kernel
set_option maxHeartbeats 4000000 in
set_option maxRecDepth 100000 in
theorem w_X7_addWord_L3 {p : Program} {l : Launch} {e : Env} {s : State} {m : MethodId} {args : Array Value} {below : List Frame} {meth : Method} {c : Code} {D : va_G} {ad : Nat → Nat} {cs : Cs}  (x1 : Int32) (F : Fx p m c cX7_addWord 3 s args wsX7_addWord RX7 D ad cs (Ad ad)) (hr : meth.sig.returnType = none) (hlk : meth.locks = false) (k : Mem → Int32 → Option (Int32 × Mem)) (hkx : ∀ (M : Mem) (x2 : Int32), GoX p l e rmX7_addWord s m args below meth c 0 0 3 (fun rM => MQ below (cQv D ad cs rM) args s 0 0 (Ad ad)) D ad cs (Ad ad) M 48 [(0, .ref (ad (58))), (1, .int x1), (2, .int x2)] [] (k M x2)) : ∀ (n : Nat) (M : Mem) (x2 : Int32), GoX p l e rmX7_addWord s m args below meth c 0 0 3 (fun rM => MQ below (cQv D ad cs rM) args s 0 0 (Ad ad)) D ad cs (Ad ad) M 3 [(0, .ref (ad (58))), (1, .int x1), (2, .int x2)] [] (f_X7_addWord_L3 x1 k n M x2) := by
  intro n
  induction n with
  | zero => intro M x2; exact g_none
  | succ n ih =>
    intro M x2
    unfold f_X7_addWord_L3
    refine g_iload_n (pc := 3) F 2 dX7_addWord_3 rfl ?_
    refine g_if_lt (pc := 4) F 48 dX7_addWord_4 (by decide) ?_ ?_
    · exact hkx _ _
    · refine g_aload_n (pc := 7) F 0 dX7_addWord_7 rfl ?_
      refine g_get (pc := 8) (v := .int (M (58) 1)) (k := 58) (ci := 7) (fs := (oX7 ad)) (C := RX7) (T := TX7) (N := 2) F (by decide) (fun _ => rfl) rfl kiX7_addWord_X7 1 (by decide) klX7_addWord_15 rfl rfl dX7_addWord_8 ?_
      refine g_bipush (pc := 11) (v := 80) F dX7_addWord_11 (by decide) ?_
      refine g_icmp_ge (pc := 13) F 48 dX7_addWord_13 (by decide) ?_ ?_
      · exact hkx _ _
      · refine g_aload_n (pc := 16) F 0 dX7_addWord_16 rfl ?_
        refine g_get (pc := 17) (v := .ref (ad (59))) (k := 58) (ci := 7) (fs := (oX7 ad)) (C := RX7) (T := TX7) (N := 2) F (by decide) (fun _ => rfl) rfl kiX7_addWord_X7 0 (by decide) klX7_addWord_9 rfl rfl dX7_addWord_17 ?_
        refine g_aload_n (pc := 20) F 0 dX7_addWord_20 rfl ?_
        refine g_get (pc := 21) (v := .int (M (58) 1)) (k := 58) (ci := 7) (fs := (oX7 ad)) (C := RX7) (T := TX7) (N := 2) F (by decide) (fun _ => rfl) rfl kiX7_addWord_X7 1 (by decide) klX7_addWord_15 rfl rfl dX7_addWord_21 ?_
        refine g_iload_n (pc := 24) F 1 dX7_addWord_24 rfl ?_
        refine g_iload_n (pc := 25) F 2 dX7_addWord_25 rfl ?_
        refine g_iushr (pc := 26) F dX7_addWord_26 ?_
        refine g_sipush (pc := 27) (v := 255) F dX7_addWord_27 (by decide) ?_
        refine g_iand (pc := 30) F dX7_addWord_30 ?_
        refine g_iast (pc := 31) (k := 59) (n := 80) F (by decide) (fun _ => rfl) dX7_addWord_31 (fun M1 => ?_)
        refine g_aload_n (pc := 32) F 0 dX7_addWord_32 rfl ?_
        refine g_dup (pc := 33) F rfl dX7_addWord_33 ?_
        refine g_get (pc := 34) (v := .int (M1 (58) 1)) (k := 58) (ci := 7) (fs := (oX7 ad)) (C := RX7) (T := TX7) (N := 2) F (by decide) (fun _ => rfl) rfl kiX7_addWord_X7 1 (by decide) klX7_addWord_15 rfl rfl dX7_addWord_34 ?_
        refine g_iconst (pc := 37) (v := 1) F dX7_addWord_37 (by decide) ?_
        refine g_iadd (pc := 38) F dX7_addWord_38 ?_
        refine g_put (pc := 39) (k := 58) (ci := 7) (fs := (oX7 ad)) (C := RX7) (T := TX7) (N := 2) F (by decide) (fun _ => rfl) rfl kiX7_addWord_X7 tyX7 tyX7_ok nmX7 1 (by decide) klX7_addWord_15 rfl rfl rfl rfl (fun _ => rfl) (Nat.le_of_ble_eq_true rfl) dX7_addWord_39 (fun M2 => ?_)
        refine g_iinc (pc := 42) (v := x2 + (-8)) F [(0, .ref (ad (58))), (1, .int x1), (2, .int (x2 + (-8)))] 2 dX7_addWord_42 rfl rfl (by decide) rfl rfl rfl ?_
        refine g_goto (pc := 45) F 3 dX7_addWord_45 (by decide) ?_
        exact ih _ _
set_option maxHeartbeats 4000000 in
set_option maxRecDepth 100000 in
theorem c_X7_addWord (l : Launch) (D : va_G) (ad : Nat → Nat) (cs : Cs) (hi : Inj ad) (fu : Nat) (a1 : Int32) (M : Mem) : MV l yX7_addWord wsX7_addWord rmX7_addWord D ad cs [.ref (ad (58)), .int a1] M (f_X7_addWord fu a1 M) := by
  refine Mx.of (cc := cX7_addWord) (maxL := 3) (ret := none) (own := RX7) (lv := [(0, .ref (ad (58))), (1, .int a1)]) (by decide) rfl rfl (Nat.le_of_ble_eq_true rfl) rfl hi ?_
  intro p e s m below meth c F hr hlk
  unfold f_X7_addWord
  refine g_bipush (pc := 0) (v := 24) F dX7_addWord_0 (by decide) ?_
  refine g_istore_n (pc := 2) F [(0, .ref (ad (58))), (1, .int a1), (2, .int 24)] dX7_addWord_2 (by decide) rfl rfl rfl ?_
  refine w_X7_addWord_L3 a1 F hr hlk _ (fun M3 y4 => ?_) _ _ _
  exact g_vret (pc := 48) F hr hlk dX7_addWord_48
-- X7_empty
def rmX7_empty : Room := { frames := 0, cells := 0, slots := 0, locals := 0 }
def f_X7_empty  (M : Mem) : Option (Int32 × Mem) := wr M (58) 1 0 (fun M1 => some (0, M1))
set_option maxRecDepth 20000 in
theorem kiX7_empty_X7 : ∀ w ∈ u_ws RX7 TX7 2, w ∈ wsX7_empty := by decide +kernel
set_option maxRecDepth 20000 in
theorem klX7_empty_15 : Cond.fieldLink RX7 15 "DoorLister$Tape" "size" "I" ∈ wsX7_empty := by decide +kernel
set_option maxHeartbeats 4000000 in
set_option maxRecDepth 100000 in
theorem c_X7_empty (l : Launch) (D : va_G) (ad : Nat → Nat) (cs : Cs) (hi : Inj ad)  (M : Mem) : MV l yX7_empty wsX7_empty rmX7_empty D ad cs [.ref (ad (58))] M (f_X7_empty M) := by
  refine Mx.of (cc := cX7_empty) (maxL := 1) (ret := none) (own := RX7) (lv := [(0, .ref (ad (58)))]) (by decide) rfl rfl (Nat.le_of_ble_eq_true rfl) rfl hi ?_
  intro p e s m below meth c F hr hlk
  unfold f_X7_empty
  refine g_aload_n (pc := 0) F 0 dX7_empty_0 rfl ?_
  refine g_iconst (pc := 1) (v := 0) F dX7_empty_1 (by decide) ?_
  refine g_put (pc := 2) (k := 58) (ci := 7) (fs := (oX7 ad)) (C := RX7) (T := TX7) (N := 2) F (by decide) (fun _ => rfl) rfl kiX7_empty_X7 tyX7 tyX7_ok nmX7 1 (by decide) klX7_empty_15 rfl rfl rfl rfl (fun _ => rfl) (Nat.le_of_ble_eq_true rfl) dX7_empty_2 (fun M1 => ?_)
  exact g_vret (pc := 5) F hr hlk dX7_empty_5
-- X8_isValue
def rmX8_isValue : Room := { frames := 0, cells := 0, slots := 0, locals := 0 }
def f_X8_isValue (a0 : Int32) (M : Mem) : Option (Int32 × Mem) := if a0 < 0 then some (0, M) else if 32 ≤ a0 then some (0, M) else some (1, M)
set_option maxHeartbeats 4000000 in
set_option maxRecDepth 100000 in
theorem c_X8_isValue (l : Launch) (D : va_G) (ad : Nat → Nat) (cs : Cs) (hi : Inj ad) (a0 : Int32) (M : Mem) : MI l yX8_isValue wsX8_isValue rmX8_isValue D ad cs [.int a0] M (f_X8_isValue a0 M) := by
  refine Mx.of (cc := cX8_isValue) (maxL := 1) (ret := (some .boolean)) (own := RX8) (lv := [(0, .int a0)]) (by decide) rfl rfl (Nat.le_of_ble_eq_true rfl) rfl hi ?_
  intro p e s m below meth c F hr hlk
  unfold f_X8_isValue
  refine g_iload_n (pc := 0) F 0 dX8_isValue_0 rfl ?_
  refine g_if_lt (pc := 1) F 14 dX8_isValue_1 (by decide) ?_ ?_
  · refine g_iconst (pc := 14) (v := 0) F dX8_isValue_14 (by decide) ?_
    exact g_zret (pc := 15) F hr hlk rfl dX8_isValue_15
  · refine g_iload_n (pc := 4) F 0 dX8_isValue_4 rfl ?_
    refine g_bipush (pc := 5) (v := 32) F dX8_isValue_5 (by decide) ?_
    refine g_icmp_ge (pc := 7) F 14 dX8_isValue_7 (by decide) ?_ ?_
    · refine g_iconst (pc := 14) (v := 0) F dX8_isValue_14 (by decide) ?_
      exact g_zret (pc := 15) F hr hlk rfl dX8_isValue_15
    · refine g_iconst (pc := 10) (v := 1) F dX8_isValue_10 (by decide) ?_
      refine g_goto (pc := 11) F 15 dX8_isValue_11 (by decide) ?_
      exact g_zret (pc := 15) F hr hlk rfl dX8_isValue_15
-- X8_isInstruction
def rmX8_isInstruction : Room := { frames := 1, cells := 0, slots := 0, locals := 20 }
def f_X8_isInstruction (a0 : Int32) (a1 : Int32) (a2 : Int32) (a3 : Int32) (M : Mem) : Option (Int32 × Mem) := if a0 < 0 then some (0, M) else if 9 < a0 then some (0, M) else if a1 < 0 then some (0, M) else if 2 ≤ a1 then some (0, M) else bnd (f_X8_isValue a2 M) (fun r1 M2 => if r1 = 0 then some (0, M2) else if a3 < 0 then some (0, M2) else if 24 < a3 then some (0, M2) else some (1, M2))
set_option maxHeartbeats 4000000 in
set_option maxRecDepth 100000 in
theorem c_X8_isInstruction (l : Launch) (D : va_G) (ad : Nat → Nat) (cs : Cs) (hi : Inj ad) (a0 : Int32) (a1 : Int32) (a2 : Int32) (a3 : Int32) (M : Mem) : MI l yX8_isInstruction wsX8_isInstruction rmX8_isInstruction D ad cs [.int a0, .int a1, .int a2, .int a3] M (f_X8_isInstruction a0 a1 a2 a3 M) := by
  refine Mx.of (cc := cX8_isInstruction) (maxL := 4) (ret := (some .boolean)) (own := RX8) (lv := [(0, .int a0), (1, .int a1), (2, .int a2), (3, .int a3)]) (by decide) rfl rfl (Nat.le_of_ble_eq_true rfl) rfl hi ?_
  intro p e s m below meth c F hr hlk
  unfold f_X8_isInstruction
  refine g_iload_n (pc := 0) F 0 dX8_isInstruction_0 rfl ?_
  refine g_if_lt (pc := 1) F 40 dX8_isInstruction_1 (by decide) ?_ ?_
  · refine g_iconst (pc := 40) (v := 0) F dX8_isInstruction_40 (by decide) ?_
    exact g_zret (pc := 41) F hr hlk rfl dX8_isInstruction_41
  · refine g_iload_n (pc := 4) F 0 dX8_isInstruction_4 rfl ?_
    refine g_bipush (pc := 5) (v := 9) F dX8_isInstruction_5 (by decide) ?_
    refine g_icmp_gt (pc := 7) F 40 dX8_isInstruction_7 (by decide) ?_ ?_
    · refine g_iconst (pc := 40) (v := 0) F dX8_isInstruction_40 (by decide) ?_
      exact g_zret (pc := 41) F hr hlk rfl dX8_isInstruction_41
    · refine g_iload_n (pc := 10) F 1 dX8_isInstruction_10 rfl ?_
      refine g_if_lt (pc := 11) F 40 dX8_isInstruction_11 (by decide) ?_ ?_
      · refine g_iconst (pc := 40) (v := 0) F dX8_isInstruction_40 (by decide) ?_
        exact g_zret (pc := 41) F hr hlk rfl dX8_isInstruction_41
      · refine g_iload_n (pc := 14) F 1 dX8_isInstruction_14 rfl ?_
        refine g_iconst (pc := 15) (v := 2) F dX8_isInstruction_15 (by decide) ?_
        refine g_icmp_ge (pc := 16) F 40 dX8_isInstruction_16 (by decide) ?_ ?_
        · refine g_iconst (pc := 40) (v := 0) F dX8_isInstruction_40 (by decide) ?_
          exact g_zret (pc := 41) F hr hlk rfl dX8_isInstruction_41
        · refine g_iload_n (pc := 19) F 2 dX8_isInstruction_19 rfl ?_
          refine g_si (pc := 20) (As := [.int a2]) (st := []) F (c_X8_isValue l D ad cs F.2.2.1 a2 M) (va_cwS 1 F.1.2.2.2.2 gX8_isInstruction_X8_isValue rfl rfl rfl hdS_X8_isValue ⟨by decide, by decide⟩) rfl rfl (Nat.le_of_ble_eq_true rfl) dX8_isInstruction_20 ⟨Nat.zero_le _, Nat.zero_le _⟩ (fun r1 M2 => ?_)
          refine g_if_eq (pc := 23) F 40 dX8_isInstruction_23 (by decide) ?_ ?_
          · refine g_iconst (pc := 40) (v := 0) F dX8_isInstruction_40 (by decide) ?_
            exact g_zret (pc := 41) F hr hlk rfl dX8_isInstruction_41
          · refine g_iload_n (pc := 26) F 3 dX8_isInstruction_26 rfl ?_
            refine g_if_lt (pc := 27) F 40 dX8_isInstruction_27 (by decide) ?_ ?_
            · refine g_iconst (pc := 40) (v := 0) F dX8_isInstruction_40 (by decide) ?_
              exact g_zret (pc := 41) F hr hlk rfl dX8_isInstruction_41
            · refine g_iload_n (pc := 30) F 3 dX8_isInstruction_30 rfl ?_
              refine g_bipush (pc := 31) (v := 24) F dX8_isInstruction_31 (by decide) ?_
              refine g_icmp_gt (pc := 33) F 40 dX8_isInstruction_33 (by decide) ?_ ?_
              · refine g_iconst (pc := 40) (v := 0) F dX8_isInstruction_40 (by decide) ?_
                exact g_zret (pc := 41) F hr hlk rfl dX8_isInstruction_41
              · refine g_iconst (pc := 36) (v := 1) F dX8_isInstruction_36 (by decide) ?_
                refine g_goto (pc := 37) F 41 dX8_isInstruction_37 (by decide) ?_
                exact g_zret (pc := 41) F hr hlk rfl dX8_isInstruction_41
-- X8_isProgram
def rmX8_isProgram : Room := { frames := 0, cells := 0, slots := 0, locals := 0 }
def f_X8_isProgram (a0 : Int32) (M : Mem) : Option (Int32 × Mem) := if a0 < 0 then some (0, M) else if 4 ≤ a0 then some (0, M) else some (1, M)
set_option maxHeartbeats 4000000 in
set_option maxRecDepth 100000 in
theorem c_X8_isProgram (l : Launch) (D : va_G) (ad : Nat → Nat) (cs : Cs) (hi : Inj ad) (a0 : Int32) (M : Mem) : MI l yX8_isProgram wsX8_isProgram rmX8_isProgram D ad cs [.int a0] M (f_X8_isProgram a0 M) := by
  refine Mx.of (cc := cX8_isProgram) (maxL := 1) (ret := (some .boolean)) (own := RX8) (lv := [(0, .int a0)]) (by decide) rfl rfl (Nat.le_of_ble_eq_true rfl) rfl hi ?_
  intro p e s m below meth c F hr hlk
  unfold f_X8_isProgram
  refine g_iload_n (pc := 0) F 0 dX8_isProgram_0 rfl ?_
  refine g_if_lt (pc := 1) F 13 dX8_isProgram_1 (by decide) ?_ ?_
  · refine g_iconst (pc := 13) (v := 0) F dX8_isProgram_13 (by decide) ?_
    exact g_zret (pc := 14) F hr hlk rfl dX8_isProgram_14
  · refine g_iload_n (pc := 4) F 0 dX8_isProgram_4 rfl ?_
    refine g_iconst (pc := 5) (v := 4) F dX8_isProgram_5 (by decide) ?_
    refine g_icmp_ge (pc := 6) F 13 dX8_isProgram_6 (by decide) ?_ ?_
    · refine g_iconst (pc := 13) (v := 0) F dX8_isProgram_13 (by decide) ?_
      exact g_zret (pc := 14) F hr hlk rfl dX8_isProgram_14
    · refine g_iconst (pc := 9) (v := 1) F dX8_isProgram_9 (by decide) ?_
      refine g_goto (pc := 10) F 14 dX8_isProgram_10 (by decide) ?_
      exact g_zret (pc := 14) F hr hlk rfl dX8_isProgram_14
-- X8_code
def rmX8_code : Room := { frames := 3, cells := 0, slots := 0, locals := 75 }
def f_X8_code (a1 : Int32) (a2 : Int32) (a3 : Int32) (a4 : Int32) (a5 : Int32) (M : Mem) : Option (Int32 × Mem) := bnd (f_X8_isProgram a1 M) (fun r1 M2 => if r1 = 0 then some ((-1), M2) else bnd (f_X8_isInstruction a2 a3 a4 a5 M2) (fun r3 M4 => if r3 = 0 then some ((-1), M4) else if ix a1 4 then bnd (f_X5_append a1.toNatClampNeg a2 a3 a4 a5 M4) (fun r6 M7 => some (r6, M7)) else none))
set_option maxRecDepth 20000 in
theorem kiX8_code_X8 : ∀ w ∈ u_ws RX8 TX8 6, w ∈ wsX8_code := by decide +kernel
set_option maxRecDepth 20000 in
theorem klX8_code_11 : Cond.fieldLink RX8 11 "DoorLister" "programs" "[LDoorLister$Program;" ∈ wsX8_code := by decide +kernel
set_option maxHeartbeats 4000000 in
set_option maxRecDepth 100000 in
theorem c_X8_code (l : Launch) (D : va_G) (ad : Nat → Nat) (cs : Cs) (hi : Inj ad) (a1 : Int32) (a2 : Int32) (a3 : Int32) (a4 : Int32) (a5 : Int32) (M : Mem) : MI l yX8_code wsX8_code rmX8_code D ad cs [.ref (ad (0)), .int a1, .int a2, .int a3, .int a4, .int a5] M (f_X8_code a1 a2 a3 a4 a5 M) := by
  refine Mx.of (cc := cX8_code) (maxL := 6) (ret := (some .int)) (own := RX8) (lv := [(0, .ref (ad (0))), (1, .int a1), (2, .int a2), (3, .int a3), (4, .int a4), (5, .int a5)]) (by decide) rfl rfl (Nat.le_of_ble_eq_true rfl) rfl hi ?_
  intro p e s m below meth c F hr hlk
  unfold f_X8_code
  refine g_iload_n (pc := 0) F 1 dX8_code_0 rfl ?_
  refine g_si (pc := 1) (As := [.int a1]) (st := []) F (c_X8_isProgram l D ad cs F.2.2.1 a1 M) (va_cwS 1 F.1.2.2.2.2 gX8_code_X8_isProgram rfl rfl rfl hdS_X8_isProgram ⟨by decide, by decide⟩) rfl rfl (Nat.le_of_ble_eq_true rfl) dX8_code_1 ⟨Nat.zero_le _, Nat.zero_le _⟩ (fun r1 M2 => ?_)
  refine g_if_eq (pc := 4) F 19 dX8_code_4 (by decide) ?_ ?_
  · refine g_iconst (pc := 19) (v := (-1)) F dX8_code_19 (by decide) ?_
    exact g_iret (pc := 20) F hr hlk dX8_code_20
  · refine g_iload_n (pc := 7) F 2 dX8_code_7 rfl ?_
    refine g_iload_n (pc := 8) F 3 dX8_code_8 rfl ?_
    refine g_iload (pc := 9) F 4 dX8_code_9 rfl ?_
    refine g_iload (pc := 11) F 5 dX8_code_11 rfl ?_
    refine g_si (pc := 13) (As := [.int a2, .int a3, .int a4, .int a5]) (st := []) F (c_X8_isInstruction l D ad cs F.2.2.1 a2 a3 a4 a5 M2) (va_cwS 4 F.1.2.2.2.2 gX8_code_X8_isInstruction rfl rfl rfl hdS_X8_isInstruction ⟨by decide, by decide⟩) rfl rfl (Nat.le_of_ble_eq_true rfl) dX8_code_13 ⟨Nat.zero_le _, Nat.zero_le _⟩ (fun r3 M4 => ?_)
    refine g_if_ne (pc := 16) F 21 dX8_code_16 (by decide) ?_ ?_
    · refine g_aload_n (pc := 21) F 0 dX8_code_21 rfl ?_
      refine g_get (pc := 22) (v := .ref (ad (1))) (k := 0) (ci := 8) (fs := (oX8 ad)) (C := RX8) (T := TX8) (N := 6) F (by decide) (fun _ => rfl) rfl kiX8_code_X8 0 (by decide) klX8_code_11 rfl rfl dX8_code_22 ?_
      refine g_iload_n (pc := 25) F 1 dX8_code_25 rfl ?_
      refine g_aald (pc := 26) F dX8_code_26 (fun hj5 => ?_)
      refine g_iload_n (pc := 27) F 2 dX8_code_27 rfl ?_
      refine g_iload_n (pc := 28) F 3 dX8_code_28 rfl ?_
      refine g_iload (pc := 29) F 4 dX8_code_29 rfl ?_
      refine g_iload (pc := 31) F 5 dX8_code_31 rfl ?_
      refine g_vi (pc := 33) (k := 13 * a1.toNatClampNeg + 2) (ci := 5) (fs := (oX5 ad (a1.toNatClampNeg))) (C := RX5) (T := TX5) (N := 3) (As := [.int a2, .int a3, .int a4, .int a5]) (st := []) F (c_X5_append l D ad cs F.2.2.1 a1.toNatClampNeg a2 a3 a4 a5 hj5 M4) (P_lt hj5 (by decide)) (sh_X5 hj5) rfl (cwV 4 F.1.2.2.2.2 gX8_code_X5_append rfl rfl rfl hdV_X5_append ⟨by decide, by decide⟩) rfl rfl (Nat.le_of_ble_eq_true rfl) dX8_code_33 ⟨Nat.zero_le _, Nat.zero_le _⟩ (fun r6 M7 => ?_)
      exact g_iret (pc := 36) F hr hlk dX8_code_36
    · refine g_iconst (pc := 19) (v := (-1)) F dX8_code_19 (by decide) ?_
      exact g_iret (pc := 20) F hr hlk dX8_code_20
-- X8_change
def rmX8_change : Room := { frames := 2, cells := 0, slots := 0, locals := 50 }
def f_X8_change (a1 : Int32) (a2 : Int32) (a3 : Int32) (a4 : Int32) (a5 : Int32) (a6 : Int32) (M : Mem) : Option (Int32 × Mem) := bnd (f_X8_isProgram a1 M) (fun r1 M2 => if r1 = 0 then some (0, M2) else bnd (f_X8_isInstruction a3 a4 a5 a6 M2) (fun r3 M4 => if r3 = 0 then some (0, M4) else if ix a1 4 then bnd (f_X5_replace a1.toNatClampNeg a2 a3 a4 a5 a6 M4) (fun r6 M7 => if vp_nar .boolean r6 = r6 then some (r6, M7) else none) else none))
set_option maxRecDepth 20000 in
theorem kiX8_change_X8 : ∀ w ∈ u_ws RX8 TX8 6, w ∈ wsX8_change := by decide +kernel
set_option maxRecDepth 20000 in
theorem klX8_change_11 : Cond.fieldLink RX8 11 "DoorLister" "programs" "[LDoorLister$Program;" ∈ wsX8_change := by decide +kernel
set_option maxHeartbeats 4000000 in
set_option maxRecDepth 100000 in
theorem c_X8_change (l : Launch) (D : va_G) (ad : Nat → Nat) (cs : Cs) (hi : Inj ad) (a1 : Int32) (a2 : Int32) (a3 : Int32) (a4 : Int32) (a5 : Int32) (a6 : Int32) (M : Mem) : MI l yX8_change wsX8_change rmX8_change D ad cs [.ref (ad (0)), .int a1, .int a2, .int a3, .int a4, .int a5, .int a6] M (f_X8_change a1 a2 a3 a4 a5 a6 M) := by
  refine Mx.of (cc := cX8_change) (maxL := 7) (ret := (some .boolean)) (own := RX8) (lv := [(0, .ref (ad (0))), (1, .int a1), (2, .int a2), (3, .int a3), (4, .int a4), (5, .int a5), (6, .int a6)]) (by decide) rfl rfl (Nat.le_of_ble_eq_true rfl) rfl hi ?_
  intro p e s m below meth c F hr hlk
  unfold f_X8_change
  refine g_iload_n (pc := 0) F 1 dX8_change_0 rfl ?_
  refine g_si (pc := 1) (As := [.int a1]) (st := []) F (c_X8_isProgram l D ad cs F.2.2.1 a1 M) (va_cwS 1 F.1.2.2.2.2 gX8_change_X8_isProgram rfl rfl rfl hdS_X8_isProgram ⟨by decide, by decide⟩) rfl rfl (Nat.le_of_ble_eq_true rfl) dX8_change_1 ⟨Nat.zero_le _, Nat.zero_le _⟩ (fun r1 M2 => ?_)
  refine g_if_eq (pc := 4) F 20 dX8_change_4 (by decide) ?_ ?_
  · refine g_iconst (pc := 20) (v := 0) F dX8_change_20 (by decide) ?_
    exact g_zret (pc := 21) F hr hlk rfl dX8_change_21
  · refine g_iload_n (pc := 7) F 3 dX8_change_7 rfl ?_
    refine g_iload (pc := 8) F 4 dX8_change_8 rfl ?_
    refine g_iload (pc := 10) F 5 dX8_change_10 rfl ?_
    refine g_iload (pc := 12) F 6 dX8_change_12 rfl ?_
    refine g_si (pc := 14) (As := [.int a3, .int a4, .int a5, .int a6]) (st := []) F (c_X8_isInstruction l D ad cs F.2.2.1 a3 a4 a5 a6 M2) (va_cwS 4 F.1.2.2.2.2 gX8_change_X8_isInstruction rfl rfl rfl hdS_X8_isInstruction ⟨by decide, by decide⟩) rfl rfl (Nat.le_of_ble_eq_true rfl) dX8_change_14 ⟨Nat.zero_le _, Nat.zero_le _⟩ (fun r3 M4 => ?_)
    refine g_if_ne (pc := 17) F 22 dX8_change_17 (by decide) ?_ ?_
    · refine g_aload_n (pc := 22) F 0 dX8_change_22 rfl ?_
      refine g_get (pc := 23) (v := .ref (ad (1))) (k := 0) (ci := 8) (fs := (oX8 ad)) (C := RX8) (T := TX8) (N := 6) F (by decide) (fun _ => rfl) rfl kiX8_change_X8 0 (by decide) klX8_change_11 rfl rfl dX8_change_23 ?_
      refine g_iload_n (pc := 26) F 1 dX8_change_26 rfl ?_
      refine g_aald (pc := 27) F dX8_change_27 (fun hj5 => ?_)
      refine g_iload_n (pc := 28) F 2 dX8_change_28 rfl ?_
      refine g_iload_n (pc := 29) F 3 dX8_change_29 rfl ?_
      refine g_iload (pc := 30) F 4 dX8_change_30 rfl ?_
      refine g_iload (pc := 32) F 5 dX8_change_32 rfl ?_
      refine g_iload (pc := 34) F 6 dX8_change_34 rfl ?_
      refine g_vi (pc := 36) (k := 13 * a1.toNatClampNeg + 2) (ci := 5) (fs := (oX5 ad (a1.toNatClampNeg))) (C := RX5) (T := TX5) (N := 3) (As := [.int a2, .int a3, .int a4, .int a5, .int a6]) (st := []) F (c_X5_replace l D ad cs F.2.2.1 a1.toNatClampNeg a2 a3 a4 a5 a6 hj5 M4) (P_lt hj5 (by decide)) (sh_X5 hj5) rfl (cwV 5 F.1.2.2.2.2 gX8_change_X5_replace rfl rfl rfl hdV_X5_replace ⟨by decide, by decide⟩) rfl rfl (Nat.le_of_ble_eq_true rfl) dX8_change_36 ⟨Nat.zero_le _, Nat.zero_le _⟩ (fun r6 M7 => ?_)
      exact g_zretx (pc := 39) F hr hlk dX8_change_39
    · refine g_iconst (pc := 20) (v := 0) F dX8_change_20 (by decide) ?_
      exact g_zret (pc := 21) F hr hlk rfl dX8_change_21
-- X8_copy
def rmX8_copy : Room := { frames := 3, cells := 0, slots := 0, locals := 68 }
def f_X8_copy (fu : Nat) (a1 : Int32) (a2 : Int32) (M : Mem) : Option (Int32 × Mem) := bnd (f_X8_isProgram a1 M) (fun r1 M2 => if r1 = 0 then some (0, M2) else bnd (f_X8_isProgram a2 M2) (fun r3 M4 => if r3 = 0 then some (0, M4) else if a1 = a2 then some (0, M4) else if ix a1 4 then if ix a2 4 then bnd (f_X5_takeCodeOf fu a1.toNatClampNeg a2.toNatClampNeg M4) (fun r7 M8 => some (1, M8)) else none else none))
set_option maxRecDepth 20000 in
theorem kiX8_copy_X8 : ∀ w ∈ u_ws RX8 TX8 6, w ∈ wsX8_copy := by decide +kernel
set_option maxRecDepth 20000 in
theorem klX8_copy_11 : Cond.fieldLink RX8 11 "DoorLister" "programs" "[LDoorLister$Program;" ∈ wsX8_copy := by decide +kernel
set_option maxHeartbeats 4000000 in
set_option maxRecDepth 100000 in
theorem c_X8_copy (l : Launch) (D : va_G) (ad : Nat → Nat) (cs : Cs) (hi : Inj ad) (fu : Nat) (a1 : Int32) (a2 : Int32) (M : Mem) : MI l yX8_copy wsX8_copy rmX8_copy D ad cs [.ref (ad (0)), .int a1, .int a2] M (f_X8_copy fu a1 a2 M) := by
  refine Mx.of (cc := cX8_copy) (maxL := 3) (ret := (some .boolean)) (own := RX8) (lv := [(0, .ref (ad (0))), (1, .int a1), (2, .int a2)]) (by decide) rfl rfl (Nat.le_of_ble_eq_true rfl) rfl hi ?_
  intro p e s m below meth c F hr hlk
  unfold f_X8_copy
  refine g_iload_n (pc := 0) F 1 dX8_copy_0 rfl ?_
  refine g_si (pc := 1) (As := [.int a1]) (st := []) F (c_X8_isProgram l D ad cs F.2.2.1 a1 M) (va_cwS 1 F.1.2.2.2.2 gX8_copy_X8_isProgram rfl rfl rfl hdS_X8_isProgram ⟨by decide, by decide⟩) rfl rfl (Nat.le_of_ble_eq_true rfl) dX8_copy_1 ⟨Nat.zero_le _, Nat.zero_le _⟩ (fun r1 M2 => ?_)
  refine g_if_eq (pc := 4) F 19 dX8_copy_4 (by decide) ?_ ?_
  · refine g_iconst (pc := 19) (v := 0) F dX8_copy_19 (by decide) ?_
    exact g_zret (pc := 20) F hr hlk rfl dX8_copy_20
  · refine g_iload_n (pc := 7) F 2 dX8_copy_7 rfl ?_
    refine g_si (pc := 8) (As := [.int a2]) (st := []) F (c_X8_isProgram l D ad cs F.2.2.1 a2 M2) (va_cwS 1 F.1.2.2.2.2 gX8_copy_X8_isProgram rfl rfl rfl hdS_X8_isProgram ⟨by decide, by decide⟩) rfl rfl (Nat.le_of_ble_eq_true rfl) dX8_copy_8 ⟨Nat.zero_le _, Nat.zero_le _⟩ (fun r3 M4 => ?_)
    refine g_if_eq (pc := 11) F 19 dX8_copy_11 (by decide) ?_ ?_
    · refine g_iconst (pc := 19) (v := 0) F dX8_copy_19 (by decide) ?_
      exact g_zret (pc := 20) F hr hlk rfl dX8_copy_20
    · refine g_iload_n (pc := 14) F 1 dX8_copy_14 rfl ?_
      refine g_iload_n (pc := 15) F 2 dX8_copy_15 rfl ?_
      refine g_icmp_ne (pc := 16) F 21 dX8_copy_16 (by decide) ?_ ?_
      · refine g_aload_n (pc := 21) F 0 dX8_copy_21 rfl ?_
        refine g_get (pc := 22) (v := .ref (ad (1))) (k := 0) (ci := 8) (fs := (oX8 ad)) (C := RX8) (T := TX8) (N := 6) F (by decide) (fun _ => rfl) rfl kiX8_copy_X8 0 (by decide) klX8_copy_11 rfl rfl dX8_copy_22 ?_
        refine g_iload_n (pc := 25) F 1 dX8_copy_25 rfl ?_
        refine g_aald (pc := 26) F dX8_copy_26 (fun hj5 => ?_)
        refine g_aload_n (pc := 27) F 0 dX8_copy_27 rfl ?_
        refine g_get (pc := 28) (v := .ref (ad (1))) (k := 0) (ci := 8) (fs := (oX8 ad)) (C := RX8) (T := TX8) (N := 6) F (by decide) (fun _ => rfl) rfl kiX8_copy_X8 0 (by decide) klX8_copy_11 rfl rfl dX8_copy_28 ?_
        refine g_iload_n (pc := 31) F 2 dX8_copy_31 rfl ?_
        refine g_aald (pc := 32) F dX8_copy_32 (fun hj6 => ?_)
        refine g_vv (pc := 33) (k := 13 * a1.toNatClampNeg + 2) (ci := 5) (fs := (oX5 ad (a1.toNatClampNeg))) (C := RX5) (T := TX5) (N := 3) (As := [.ref (ad (13 * a2.toNatClampNeg + 2))]) (st := []) F (c_X5_takeCodeOf l D ad cs F.2.2.1 fu a1.toNatClampNeg a2.toNatClampNeg hj5 hj6 M4) (P_lt hj5 (by decide)) (sh_X5 hj5) rfl (cwV 1 F.1.2.2.2.2 gX8_copy_X5_takeCodeOf rfl rfl rfl hdV_X5_takeCodeOf ⟨by decide, by decide⟩) rfl rfl (Nat.le_of_ble_eq_true rfl) dX8_copy_33 ⟨Nat.zero_le _, Nat.zero_le _⟩ (fun r7 M8 => ?_)
        refine g_iconst (pc := 36) (v := 1) F dX8_copy_36 (by decide) ?_
        exact g_zret (pc := 37) F hr hlk rfl dX8_copy_37
      · refine g_iconst (pc := 19) (v := 0) F dX8_copy_19 (by decide) ?_
        exact g_zret (pc := 20) F hr hlk rfl dX8_copy_20
-- X8_isPhase
def rmX8_isPhase : Room := { frames := 0, cells := 0, slots := 0, locals := 0 }
def f_X8_isPhase (a0 : Int32) (M : Mem) : Option (Int32 × Mem) := if a0 < 0 then some (0, M) else if 2 ≤ a0 then some (0, M) else some (1, M)
set_option maxHeartbeats 4000000 in
set_option maxRecDepth 100000 in
theorem c_X8_isPhase (l : Launch) (D : va_G) (ad : Nat → Nat) (cs : Cs) (hi : Inj ad) (a0 : Int32) (M : Mem) : MI l yX8_isPhase wsX8_isPhase rmX8_isPhase D ad cs [.int a0] M (f_X8_isPhase a0 M) := by
  refine Mx.of (cc := cX8_isPhase) (maxL := 1) (ret := (some .boolean)) (own := RX8) (lv := [(0, .int a0)]) (by decide) rfl rfl (Nat.le_of_ble_eq_true rfl) rfl hi ?_
  intro p e s m below meth c F hr hlk
  unfold f_X8_isPhase
  refine g_iload_n (pc := 0) F 0 dX8_isPhase_0 rfl ?_
  refine g_if_lt (pc := 1) F 13 dX8_isPhase_1 (by decide) ?_ ?_
  · refine g_iconst (pc := 13) (v := 0) F dX8_isPhase_13 (by decide) ?_
    exact g_zret (pc := 14) F hr hlk rfl dX8_isPhase_14
  · refine g_iload_n (pc := 4) F 0 dX8_isPhase_4 rfl ?_
    refine g_iconst (pc := 5) (v := 2) F dX8_isPhase_5 (by decide) ?_
    refine g_icmp_ge (pc := 6) F 13 dX8_isPhase_6 (by decide) ?_ ?_
    · refine g_iconst (pc := 13) (v := 0) F dX8_isPhase_13 (by decide) ?_
      exact g_zret (pc := 14) F hr hlk rfl dX8_isPhase_14
    · refine g_iconst (pc := 9) (v := 1) F dX8_isPhase_9 (by decide) ?_
      refine g_goto (pc := 10) F 14 dX8_isPhase_10 (by decide) ?_
      exact g_zret (pc := 14) F hr hlk rfl dX8_isPhase_14
-- X8_needed
def rmX8_needed : Room := { frames := 5, cells := 0, slots := 0, locals := 128 }
def f_X8_needed (fu : Nat) (a1 : Int32) (a2 : Int32) (a3 : Int32) (M : Mem) : Option (Int32 × Mem) := bnd (f_X8_isProgram a1 M) (fun r1 M2 => if r1 = 0 then some (0, M2) else bnd (f_X8_isPhase a2 M2) (fun r3 M4 => if r3 = 0 then some (0, M4) else bnd (f_X8_isValue a3 M4) (fun r5 M6 => if r5 = 0 then some (0, M6) else if ix a1 4 then bnd (f_X5_paths a1.toNatClampNeg M6) (fun r8 M9 => bnd (f_X4_searched fu a1.toNatClampNeg M9) (fun r10 M11 => bnd (f_X4_calls a1.toNatClampNeg M11) (fun r12 M13 => bnd (f_X0_arguments (13 * a1.toNatClampNeg + 11) a2 a3 M13) (fun r14 M15 => some (r14, M15))))) else none)))
set_option maxRecDepth 20000 in
theorem kiX8_needed_X8 : ∀ w ∈ u_ws RX8 TX8 6, w ∈ wsX8_needed := by decide +kernel
set_option maxRecDepth 20000 in
theorem klX8_needed_11 : Cond.fieldLink RX8 11 "DoorLister" "programs" "[LDoorLister$Program;" ∈ wsX8_needed := by decide +kernel
set_option maxHeartbeats 4000000 in
set_option maxRecDepth 100000 in
theorem c_X8_needed (l : Launch) (D : va_G) (ad : Nat → Nat) (cs : Cs) (hi : Inj ad) (fu : Nat) (a1 : Int32) (a2 : Int32) (a3 : Int32) (M : Mem) : MI l yX8_needed wsX8_needed rmX8_needed D ad cs [.ref (ad (0)), .int a1, .int a2, .int a3] M (f_X8_needed fu a1 a2 a3 M) := by
  refine Mx.of (cc := cX8_needed) (maxL := 4) (ret := (some .int)) (own := RX8) (lv := [(0, .ref (ad (0))), (1, .int a1), (2, .int a2), (3, .int a3)]) (by decide) rfl rfl (Nat.le_of_ble_eq_true rfl) rfl hi ?_
  intro p e s m below meth c F hr hlk
  unfold f_X8_needed
  refine g_iload_n (pc := 0) F 1 dX8_needed_0 rfl ?_
  refine g_si (pc := 1) (As := [.int a1]) (st := []) F (c_X8_isProgram l D ad cs F.2.2.1 a1 M) (va_cwS 1 F.1.2.2.2.2 gX8_needed_X8_isProgram rfl rfl rfl hdS_X8_isProgram ⟨by decide, by decide⟩) rfl rfl (Nat.le_of_ble_eq_true rfl) dX8_needed_1 ⟨Nat.zero_le _, Nat.zero_le _⟩ (fun r1 M2 => ?_)
  refine g_if_eq (pc := 4) F 21 dX8_needed_4 (by decide) ?_ ?_
  · refine g_iconst (pc := 21) (v := 0) F dX8_needed_21 (by decide) ?_
    exact g_iret (pc := 22) F hr hlk dX8_needed_22
  · refine g_iload_n (pc := 7) F 2 dX8_needed_7 rfl ?_
    refine g_si (pc := 8) (As := [.int a2]) (st := []) F (c_X8_isPhase l D ad cs F.2.2.1 a2 M2) (va_cwS 1 F.1.2.2.2.2 gX8_needed_X8_isPhase rfl rfl rfl hdS_X8_isPhase ⟨by decide, by decide⟩) rfl rfl (Nat.le_of_ble_eq_true rfl) dX8_needed_8 ⟨Nat.zero_le _, Nat.zero_le _⟩ (fun r3 M4 => ?_)
    refine g_if_eq (pc := 11) F 21 dX8_needed_11 (by decide) ?_ ?_
    · refine g_iconst (pc := 21) (v := 0) F dX8_needed_21 (by decide) ?_
      exact g_iret (pc := 22) F hr hlk dX8_needed_22
    · refine g_iload_n (pc := 14) F 3 dX8_needed_14 rfl ?_
      refine g_si (pc := 15) (As := [.int a3]) (st := []) F (c_X8_isValue l D ad cs F.2.2.1 a3 M4) (va_cwS 1 F.1.2.2.2.2 gX8_needed_X8_isValue rfl rfl rfl hdS_X8_isValue ⟨by decide, by decide⟩) rfl rfl (Nat.le_of_ble_eq_true rfl) dX8_needed_15 ⟨Nat.zero_le _, Nat.zero_le _⟩ (fun r5 M6 => ?_)
      refine g_if_ne (pc := 18) F 23 dX8_needed_18 (by decide) ?_ ?_
      · refine g_aload_n (pc := 23) F 0 dX8_needed_23 rfl ?_
        refine g_get (pc := 24) (v := .ref (ad (1))) (k := 0) (ci := 8) (fs := (oX8 ad)) (C := RX8) (T := TX8) (N := 6) F (by decide) (fun _ => rfl) rfl kiX8_needed_X8 0 (by decide) klX8_needed_11 rfl rfl dX8_needed_24 ?_
        refine g_iload_n (pc := 27) F 1 dX8_needed_27 rfl ?_
        refine g_aald (pc := 28) F dX8_needed_28 (fun hj7 => ?_)
        refine g_vr (pc := 29) (kr := 13 * a1.toNatClampNeg + 8) (k := 13 * a1.toNatClampNeg + 2) (ci := 5) (fs := (oX5 ad (a1.toNatClampNeg))) (C := RX5) (T := TX5) (N := 3) (As := []) (st := []) F (c_X5_paths l D ad cs F.2.2.1 a1.toNatClampNeg hj7 M6) (P_lt hj7 (by decide)) (sh_X5 hj7) rfl (cwV 0 F.1.2.2.2.2 gX8_needed_X5_paths rfl rfl rfl hdV_X5_paths ⟨by decide, by decide⟩) rfl rfl (Nat.le_of_ble_eq_true rfl) dX8_needed_29 ⟨Nat.zero_le _, Nat.zero_le _⟩ (fun r8 M9 => ?_)
        refine g_vr (pc := 32) (kr := 13 * a1.toNatClampNeg + 8) (k := 13 * a1.toNatClampNeg + 8) (ci := 4) (fs := (oX4 ad (a1.toNatClampNeg))) (C := RX4) (T := TX4) (N := 14) (As := []) (st := []) F (c_X4_searched l D ad cs F.2.2.1 fu a1.toNatClampNeg hj7 M9) (P_lt hj7 (by decide)) (sh_X4 hj7) rfl (cwV 0 F.1.2.2.2.2 gX8_needed_X4_searched rfl rfl rfl hdV_X4_searched ⟨by decide, by decide⟩) rfl rfl (Nat.le_of_ble_eq_true rfl) dX8_needed_32 ⟨Nat.zero_le _, Nat.zero_le _⟩ (fun r10 M11 => ?_)
        refine g_vr (pc := 35) (kr := 13 * a1.toNatClampNeg + 11) (k := 13 * a1.toNatClampNeg + 8) (ci := 4) (fs := (oX4 ad (a1.toNatClampNeg))) (C := RX4) (T := TX4) (N := 14) (As := []) (st := []) F (c_X4_calls l D ad cs F.2.2.1 a1.toNatClampNeg hj7 M11) (P_lt hj7 (by decide)) (sh_X4 hj7) rfl (cwV 0 F.1.2.2.2.2 gX8_needed_X4_calls rfl rfl rfl hdV_X4_calls ⟨by decide, by decide⟩) rfl rfl (Nat.le_of_ble_eq_true rfl) dX8_needed_35 ⟨Nat.zero_le _, Nat.zero_le _⟩ (fun r12 M13 => ?_)
        refine g_iload_n (pc := 38) F 2 dX8_needed_38 rfl ?_
        refine g_iload_n (pc := 39) F 3 dX8_needed_39 rfl ?_
        refine g_vi (pc := 40) (k := 13 * a1.toNatClampNeg + 11) (ci := 0) (fs := (oX0 ad (13 * a1.toNatClampNeg + 11))) (C := RX0) (T := TX0) (N := 1) (As := [.int a2, .int a3]) (st := []) F (c_X0_arguments l D ad cs F.2.2.1 (13 * a1.toNatClampNeg + 11) a2 a3 (tab_c hj7) M13) (tab_lt (tab_c hj7)) (sh_X0 (tab_c hj7)) rfl (cwV 2 F.1.2.2.2.2 gX8_needed_X0_arguments rfl rfl rfl hdV_X0_arguments ⟨by decide, by decide⟩) rfl rfl (Nat.le_of_ble_eq_true rfl) dX8_needed_40 ⟨Nat.zero_le _, Nat.zero_le _⟩ (fun r14 M15 => ?_)
        exact g_iret (pc := 43) F hr hlk dX8_needed_43
      · refine g_iconst (pc := 21) (v := 0) F dX8_needed_21 (by decide) ?_
        exact g_iret (pc := 22) F hr hlk dX8_needed_22
-- X8_spans
def rmX8_spans : Room := { frames := 5, cells := 0, slots := 0, locals := 128 }
def f_X8_spans (fu : Nat) (a1 : Int32) (a2 : Int32) (M : Mem) : Option (Int32 × Mem) := bnd (f_X8_isProgram a1 M) (fun r1 M2 => if r1 = 0 then some ((-1), M2) else bnd (f_X8_isPhase a2 M2) (fun r3 M4 => if r3 = 0 then some ((-1), M4) else if ix a1 4 then bnd (f_X5_paths a1.toNatClampNeg M4) (fun r6 M7 => bnd (f_X4_searched fu a1.toNatClampNeg M7) (fun r8 M9 => bnd (f_X4_calls a1.toNatClampNeg M9) (fun r10 M11 => bnd (f_X0_spansIn fu (13 * a1.toNatClampNeg + 11) a2 M11) (fun r12 M13 => some (r12, M13))))) else none))
set_option maxRecDepth 20000 in
theorem kiX8_spans_X8 : ∀ w ∈ u_ws RX8 TX8 6, w ∈ wsX8_spans := by decide +kernel
set_option maxRecDepth 20000 in
theorem klX8_spans_11 : Cond.fieldLink RX8 11 "DoorLister" "programs" "[LDoorLister$Program;" ∈ wsX8_spans := by decide +kernel
set_option maxHeartbeats 4000000 in
set_option maxRecDepth 100000 in
theorem c_X8_spans (l : Launch) (D : va_G) (ad : Nat → Nat) (cs : Cs) (hi : Inj ad) (fu : Nat) (a1 : Int32) (a2 : Int32) (M : Mem) : MI l yX8_spans wsX8_spans rmX8_spans D ad cs [.ref (ad (0)), .int a1, .int a2] M (f_X8_spans fu a1 a2 M) := by
  refine Mx.of (cc := cX8_spans) (maxL := 3) (ret := (some .int)) (own := RX8) (lv := [(0, .ref (ad (0))), (1, .int a1), (2, .int a2)]) (by decide) rfl rfl (Nat.le_of_ble_eq_true rfl) rfl hi ?_
  intro p e s m below meth c F hr hlk
  unfold f_X8_spans
  refine g_iload_n (pc := 0) F 1 dX8_spans_0 rfl ?_
  refine g_si (pc := 1) (As := [.int a1]) (st := []) F (c_X8_isProgram l D ad cs F.2.2.1 a1 M) (va_cwS 1 F.1.2.2.2.2 gX8_spans_X8_isProgram rfl rfl rfl hdS_X8_isProgram ⟨by decide, by decide⟩) rfl rfl (Nat.le_of_ble_eq_true rfl) dX8_spans_1 ⟨Nat.zero_le _, Nat.zero_le _⟩ (fun r1 M2 => ?_)
  refine g_if_eq (pc := 4) F 14 dX8_spans_4 (by decide) ?_ ?_
  · refine g_iconst (pc := 14) (v := (-1)) F dX8_spans_14 (by decide) ?_
    exact g_iret (pc := 15) F hr hlk dX8_spans_15
  · refine g_iload_n (pc := 7) F 2 dX8_spans_7 rfl ?_
    refine g_si (pc := 8) (As := [.int a2]) (st := []) F (c_X8_isPhase l D ad cs F.2.2.1 a2 M2) (va_cwS 1 F.1.2.2.2.2 gX8_spans_X8_isPhase rfl rfl rfl hdS_X8_isPhase ⟨by decide, by decide⟩) rfl rfl (Nat.le_of_ble_eq_true rfl) dX8_spans_8 ⟨Nat.zero_le _, Nat.zero_le _⟩ (fun r3 M4 => ?_)
    refine g_if_ne (pc := 11) F 16 dX8_spans_11 (by decide) ?_ ?_
    · refine g_aload_n (pc := 16) F 0 dX8_spans_16 rfl ?_
      refine g_get (pc := 17) (v := .ref (ad (1))) (k := 0) (ci := 8) (fs := (oX8 ad)) (C := RX8) (T := TX8) (N := 6) F (by decide) (fun _ => rfl) rfl kiX8_spans_X8 0 (by decide) klX8_spans_11 rfl rfl dX8_spans_17 ?_
      refine g_iload_n (pc := 20) F 1 dX8_spans_20 rfl ?_
      refine g_aald (pc := 21) F dX8_spans_21 (fun hj5 => ?_)
      refine g_vr (pc := 22) (kr := 13 * a1.toNatClampNeg + 8) (k := 13 * a1.toNatClampNeg + 2) (ci := 5) (fs := (oX5 ad (a1.toNatClampNeg))) (C := RX5) (T := TX5) (N := 3) (As := []) (st := []) F (c_X5_paths l D ad cs F.2.2.1 a1.toNatClampNeg hj5 M4) (P_lt hj5 (by decide)) (sh_X5 hj5) rfl (cwV 0 F.1.2.2.2.2 gX8_spans_X5_paths rfl rfl rfl hdV_X5_paths ⟨by decide, by decide⟩) rfl rfl (Nat.le_of_ble_eq_true rfl) dX8_spans_22 ⟨Nat.zero_le _, Nat.zero_le _⟩ (fun r6 M7 => ?_)
      refine g_vr (pc := 25) (kr := 13 * a1.toNatClampNeg + 8) (k := 13 * a1.toNatClampNeg + 8) (ci := 4) (fs := (oX4 ad (a1.toNatClampNeg))) (C := RX4) (T := TX4) (N := 14) (As := []) (st := []) F (c_X4_searched l D ad cs F.2.2.1 fu a1.toNatClampNeg hj5 M7) (P_lt hj5 (by decide)) (sh_X4 hj5) rfl (cwV 0 F.1.2.2.2.2 gX8_spans_X4_searched rfl rfl rfl hdV_X4_searched ⟨by decide, by decide⟩) rfl rfl (Nat.le_of_ble_eq_true rfl) dX8_spans_25 ⟨Nat.zero_le _, Nat.zero_le _⟩ (fun r8 M9 => ?_)
      refine g_vr (pc := 28) (kr := 13 * a1.toNatClampNeg + 11) (k := 13 * a1.toNatClampNeg + 8) (ci := 4) (fs := (oX4 ad (a1.toNatClampNeg))) (C := RX4) (T := TX4) (N := 14) (As := []) (st := []) F (c_X4_calls l D ad cs F.2.2.1 a1.toNatClampNeg hj5 M9) (P_lt hj5 (by decide)) (sh_X4 hj5) rfl (cwV 0 F.1.2.2.2.2 gX8_spans_X4_calls rfl rfl rfl hdV_X4_calls ⟨by decide, by decide⟩) rfl rfl (Nat.le_of_ble_eq_true rfl) dX8_spans_28 ⟨Nat.zero_le _, Nat.zero_le _⟩ (fun r10 M11 => ?_)
      refine g_iload_n (pc := 31) F 2 dX8_spans_31 rfl ?_
      refine g_vi (pc := 32) (k := 13 * a1.toNatClampNeg + 11) (ci := 0) (fs := (oX0 ad (13 * a1.toNatClampNeg + 11))) (C := RX0) (T := TX0) (N := 1) (As := [.int a2]) (st := []) F (c_X0_spansIn l D ad cs F.2.2.1 fu (13 * a1.toNatClampNeg + 11) a2 (tab_c hj5) M11) (tab_lt (tab_c hj5)) (sh_X0 (tab_c hj5)) rfl (cwV 1 F.1.2.2.2.2 gX8_spans_X0_spansIn rfl rfl rfl hdV_X0_spansIn ⟨by decide, by decide⟩) rfl rfl (Nat.le_of_ble_eq_true rfl) dX8_spans_32 ⟨Nat.zero_le _, Nat.zero_le _⟩ (fun r12 M13 => ?_)
      exact g_iret (pc := 35) F hr hlk dX8_spans_35
    · refine g_iconst (pc := 14) (v := (-1)) F dX8_spans_14 (by decide) ?_
      exact g_iret (pc := 15) F hr hlk dX8_spans_15
