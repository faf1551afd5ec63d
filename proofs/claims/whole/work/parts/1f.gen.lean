/-! Written by wip/whole/gen.py: pure functions of methods, and the walks that tie the bytecode to them. -/
-- X4_step
def rmX4_step : Room := { frames := 2, cells := 0, slots := 0, locals := 53 }
def f_X4_step_L198 (q0 : Nat) (x1 : Int32) (x2 : Int32) (x4 : Int32) (x7 : Int32) (k : Mem → Int32 → Option (Int32 × Mem)) : Nat → Mem → Int32 → Option (Int32 × Mem)
  | 0, _, _ => none
  | n + 1, M, x8 => if 32 ≤ x8 then k M x8 else if x7 = 0 then k M x8 else if (M (13 * q0 + 8) 10) = 3 then bnd (f_X4_push q0 x1 x4 x2 x8 x7 M) (fun r27 M28 => f_X4_step_L198 q0 x1 x2 x4 x7 k n M28 (x8 + 1)) else bnd (f_X4_push q0 x1 x4 x2 x8 (x7 &&& ((1 : Int32) <<< (x8 &&& 31))) M) (fun r25 M26 => f_X4_step_L198 q0 x1 x2 x4 x7 k n M26 (x8 + 1))
def f_X4_step (fu : Nat) (pp : Nat) (a1 : Int32) (a2 : Int32) (M : Mem) : Option (Int32 × Mem) := if ix a1 49152 then nm (M (13 * pp + 9) a1.toNatClampNeg) (fun v1 => nm ((usr v1 (10 : Int32)) &&& (1 : Int32)) (fun v2 => nm (v1 &&& (31 : Int32)) (fun v3 => bnd (f_X6_mask a1 M) (fun r4 M5 => nm (M5 (13 * pp + 8) 10) (fun v6 => if v6 = 5 then bnd (f_X4_goingTo pp a2 v3 r4 M5) (fun r8 M9 => bnd (f_X4_push pp a1 v2 a2 v3 r8 M9) (fun r10 M11 => some (0, M11))) else if v6 = 6 then bnd (f_X4_push pp a1 v2 a2 v3 r4 M5) (fun r13 M14 => some (0, M14)) else if v6 = 7 then bnd (f_X4_note fu pp a1 v2 v3 r4 M5) (fun r16 M17 => bnd (f_X4_push pp a1 v2 a2 v3 r4 M17) (fun r18 M19 => some (0, M19))) else if v6 = 8 then bnd (f_X4_push pp a1 1 a2 v3 r4 M5) (fun r21 M22 => some (0, M22)) else if (M5 (13 * pp + 8) 11) = 1 then bnd (f_X4_secondAfter fu pp v3 r4 M5) (fun r39 M40 => bnd (f_X4_push pp a1 v2 a2 v3 r39 M40) (fun r41 M42 => some (0, M42))) else if (M5 (13 * pp + 8) 10) = 3 then bnd (f_X6_give v2 (M5 (13 * pp + 8) 9) r4 M5) (fun r23 M24 => f_X4_step_L198 pp a1 a2 v2 r23 (fun M29 y30 => some (0, M29)) fu M24 0) else if (M5 (13 * pp + 8) 10) = 2 then bnd (f_X6_give v2 (M5 (13 * pp + 8) 9) r4 M5) (fun r35 M36 => f_X4_step_L198 pp a1 a2 v2 r35 (fun M37 y38 => some (0, M37)) fu M36 0) else bnd (f_X4_firstAfter pp v3 M5) (fun r31 M32 => bnd (f_X4_push pp a1 v2 a2 r31 r4 M32) (fun r33 M34 => some (0, M34)))))))) else none
set_option maxRecDepth 20000 in
theorem kiX4_step_X4 : ∀ w ∈ u_ws RX4 TX4 14, w ∈ wsX4_step := by decide +kernel
set_option maxRecDepth 20000 in
theorem klX4_step_12 : Cond.fieldLink RX4 12 "DoorLister$Paths" "links" "[I" ∈ wsX4_step := by decide +kernel
set_option maxRecDepth 20000 in
theorem klX4_step_30 : Cond.fieldLink RX4 30 "DoorLister$Paths" "scratch" "LDoorLister$Scratch;" ∈ wsX4_step := by decide +kernel
set_option maxRecDepth 20000 in
theorem klX4_step_88 : Cond.fieldLink RX4 88 "DoorLister$Paths" "kind" "I" ∈ wsX4_step := by decide +kernel
set_option maxRecDepth 20000 in
theorem klX4_step_115 : Cond.fieldLink RX4 115 "DoorLister$Paths" "x" "I" ∈ wsX4_step := by decide +kernel
set_option maxRecDepth 20000 in
theorem klX4_step_94 : Cond.fieldLink RX4 94 "DoorLister$Paths" "at" "I" ∈ wsX4_step := by decide +kernel
set_option maxHeartbeats 4000000 in
set_option maxRecDepth 100000 in
theorem w_X4_step_L198 {p : Program} {l : Launch} {e : Env} {s : State} {m : MethodId} {args : Array Value} {below : List Frame} {meth : Method} {c : Code} {D : va_G} {ad : Nat → Nat} {cs : Cs}  (q0 : Nat) (x1 : Int32) (x2 : Int32) (x4 : Int32) (x7 : Int32) (hq0 : q0 < 4) (F : Fx p m c cX4_step 9 s args wsX4_step RX4 D ad cs (Ad ad)) (hr : meth.sig.returnType = none) (hlk : meth.locks = false) (k : Mem → Int32 → Option (Int32 × Mem)) (hkx : ∀ (M : Mem) (x8 : Int32), GoX p l e rmX4_step s m args below meth c 0 0 9 (fun rM => MQ below (cQv D ad cs rM) args s 0 0 (Ad ad)) D ad cs (Ad ad) M 246 [(0, .ref (ad (13 * q0 + 8))), (1, .int x1), (2, .int x2), (4, .int x4), (7, .int x7), (8, .int x8)] [] (k M x8)) : ∀ (n : Nat) (M : Mem) (x8 : Int32), GoX p l e rmX4_step s m args below meth c 0 0 9 (fun rM => MQ below (cQv D ad cs rM) args s 0 0 (Ad ad)) D ad cs (Ad ad) M 198 [(0, .ref (ad (13 * q0 + 8))), (1, .int x1), (2, .int x2), (4, .int x4), (7, .int x7), (8, .int x8)] [] (f_X4_step_L198 q0 x1 x2 x4 x7 k n M x8) := by
  intro n
  induction n with
  | zero => intro M x8; exact g_none
  | succ n ih =>
    intro M x8
    unfold f_X4_step_L198
    refine g_iload (pc := 198) F 5 dX4_step_198 rfl ?_
    refine g_bipush (pc := 200) (v := 32) F dX4_step_200 (by decide) ?_
    refine g_icmp_ge (pc := 202) F 246 dX4_step_202 (by decide) ?_ ?_
    · exact hkx _ _
    · refine g_iload (pc := 205) F 4 dX4_step_205 rfl ?_
      refine g_if_eq (pc := 207) F 246 dX4_step_207 (by decide) ?_ ?_
      · exact hkx _ _
      · refine g_aload_n (pc := 210) F 0 dX4_step_210 rfl ?_
        refine g_iload_n (pc := 211) F 1 dX4_step_211 rfl ?_
        refine g_iload (pc := 212) F 3 dX4_step_212 rfl ?_
        refine g_iload_n (pc := 214) F 2 dX4_step_214 rfl ?_
        refine g_iload (pc := 215) F 5 dX4_step_215 rfl ?_
        refine g_aload_n (pc := 217) F 0 dX4_step_217 rfl ?_
        refine g_get (pc := 218) (v := .int (M (13 * q0 + 8) 10)) (k := 13 * q0 + 8) (ci := 4) (fs := (oX4 ad (q0))) (C := RX4) (T := TX4) (N := 14) F (P_lt hq0 (by decide)) (sh_X4 hq0) rfl kiX4_step_X4 10 (by decide) klX4_step_88 rfl rfl dX4_step_218 ?_
        refine g_iconst (pc := 221) (v := 3) F dX4_step_221 (by decide) ?_
        refine g_icmp_ne (pc := 222) F 230 dX4_step_222 (by decide) ?_ ?_
        · refine g_iload (pc := 230) F 4 dX4_step_230 rfl ?_
          refine g_iconst (pc := 232) (v := 1) F dX4_step_232 (by decide) ?_
          refine g_iload (pc := 233) F 5 dX4_step_233 rfl ?_
          refine g_ishl (pc := 235) F dX4_step_235 ?_
          refine g_iand (pc := 236) F dX4_step_236 ?_
          refine g_vv (pc := 237) (k := 13 * q0 + 8) (ci := 4) (fs := (oX4 ad (q0))) (C := RX4) (T := TX4) (N := 14) (As := [.int x1, .int x4, .int x2, .int x8, .int (x7 &&& ((1 : Int32) <<< (x8 &&& 31)))]) (st := []) F (c_X4_push l D ad cs F.2.2.1 q0 x1 x4 x2 x8 (x7 &&& ((1 : Int32) <<< (x8 &&& 31))) hq0 M) (P_lt hq0 (by decide)) (sh_X4 hq0) rfl (cwV 5 F.1.2.2.2.2 gX4_step_X4_push rfl rfl rfl hdV_X4_push ⟨by decide, by decide⟩) rfl rfl (Nat.le_of_ble_eq_true rfl) dX4_step_237 ⟨Nat.zero_le _, Nat.zero_le _⟩ (fun r25 M26 => ?_)
          refine g_iinc (pc := 240) (v := x8 + 1) F [(0, .ref (ad (13 * q0 + 8))), (1, .int x1), (2, .int x2), (4, .int x4), (7, .int x7), (8, .int (x8 + 1))] 5 dX4_step_240 rfl rfl (by decide) rfl rfl rfl ?_
          refine g_goto (pc := 243) F 198 dX4_step_243 (by decide) ?_
          exact ih _ _
        · refine g_iload (pc := 225) F 4 dX4_step_225 rfl ?_
          refine g_goto (pc := 227) F 237 dX4_step_227 (by decide) ?_
          refine g_vv (pc := 237) (k := 13 * q0 + 8) (ci := 4) (fs := (oX4 ad (q0))) (C := RX4) (T := TX4) (N := 14) (As := [.int x1, .int x4, .int x2, .int x8, .int x7]) (st := []) F (c_X4_push l D ad cs F.2.2.1 q0 x1 x4 x2 x8 x7 hq0 M) (P_lt hq0 (by decide)) (sh_X4 hq0) rfl (cwV 5 F.1.2.2.2.2 gX4_step_X4_push rfl rfl rfl hdV_X4_push ⟨by decide, by decide⟩) rfl rfl (Nat.le_of_ble_eq_true rfl) dX4_step_237 ⟨Nat.zero_le _, Nat.zero_le _⟩ (fun r27 M28 => ?_)
          refine g_iinc (pc := 240) (v := x8 + 1) F [(0, .ref (ad (13 * q0 + 8))), (1, .int x1), (2, .int x2), (4, .int x4), (7, .int x7), (8, .int (x8 + 1))] 5 dX4_step_240 rfl rfl (by decide) rfl rfl rfl ?_
          refine g_goto (pc := 243) F 198 dX4_step_243 (by decide) ?_
          exact ih _ _
set_option maxHeartbeats 4000000 in
set_option maxRecDepth 100000 in
theorem c_X4_step (l : Launch) (D : va_G) (ad : Nat → Nat) (cs : Cs) (hi : Inj ad) (fu : Nat) (pp : Nat) (a1 : Int32) (a2 : Int32) (hpp : pp < 4) (M : Mem) : MV l yX4_step wsX4_step rmX4_step D ad cs [.ref (ad (13 * pp + 8)), .int a1, .int a2] M (f_X4_step fu pp a1 a2 M) := by
  refine Mx.of (cc := cX4_step) (maxL := 9) (ret := none) (own := RX4) (lv := [(0, .ref (ad (13 * pp + 8))), (1, .int a1), (2, .int a2)]) (by decide) rfl rfl (Nat.le_of_ble_eq_true rfl) rfl hi ?_
  intro p e s m below meth c F hr hlk
  unfold f_X4_step
  refine g_aload_n (pc := 0) F 0 dX4_step_0 rfl ?_
  refine g_get (pc := 1) (v := .ref (ad (13 * pp + 9))) (k := 13 * pp + 8) (ci := 4) (fs := (oX4 ad (pp))) (C := RX4) (T := TX4) (N := 14) F (P_lt hpp (by decide)) (sh_X4 hpp) rfl kiX4_step_X4 2 (by decide) klX4_step_12 rfl rfl dX4_step_1 ?_
  refine g_iload_n (pc := 4) F 1 dX4_step_4 rfl ?_
  refine g_iald (pc := 5) (k := 13 * pp + 9) (n := 49152) F (P_lt hpp (by decide)) (sh_a9 hpp) dX4_step_5 ?_
  refine g_nm (fun v1 => ?_)
  refine g_istore_n (pc := 6) F [(0, .ref (ad (13 * pp + 8))), (1, .int a1), (2, .int a2), (3, .int v1)] dX4_step_6 (by decide) rfl rfl rfl ?_
  refine g_iload_n (pc := 7) F 3 dX4_step_7 rfl ?_
  refine g_bipush (pc := 8) (v := 10) F dX4_step_8 (by decide) ?_
  refine g_iushr (pc := 10) F dX4_step_10 ?_
  refine g_iconst (pc := 11) (v := 1) F dX4_step_11 (by decide) ?_
  refine g_iand (pc := 12) F dX4_step_12 ?_
  refine g_nm (fun v2 => ?_)
  refine g_istore (pc := 13) F [(0, .ref (ad (13 * pp + 8))), (1, .int a1), (2, .int a2), (3, .int v1), (4, .int v2)] dX4_step_13 (by decide) rfl rfl rfl ?_
  refine g_iload_n (pc := 15) F 3 dX4_step_15 rfl ?_
  refine g_bipush (pc := 16) (v := 31) F dX4_step_16 (by decide) ?_
  refine g_iand (pc := 18) F dX4_step_18 ?_
  refine g_nm (fun v3 => ?_)
  refine g_istore (pc := 19) F [(0, .ref (ad (13 * pp + 8))), (1, .int a1), (2, .int a2), (3, .int v1), (4, .int v2), (5, .int v3)] dX4_step_19 (by decide) rfl rfl rfl ?_
  refine g_aload_n (pc := 21) F 0 dX4_step_21 rfl ?_
  refine g_get (pc := 22) (v := .ref (ad (54))) (k := 13 * pp + 8) (ci := 4) (fs := (oX4 ad (pp))) (C := RX4) (T := TX4) (N := 14) F (P_lt hpp (by decide)) (sh_X4 hpp) rfl kiX4_step_X4 1 (by decide) klX4_step_30 rfl rfl dX4_step_22 ?_
  refine g_iload_n (pc := 25) F 1 dX4_step_25 rfl ?_
  refine g_vi (pc := 26) (k := 54) (ci := 6) (fs := (oX6 ad)) (C := RX6) (T := TX6) (N := 3) (As := [.int a1]) (st := []) F (c_X6_mask l D ad cs F.2.2.1 a1 M) (by decide) (fun _ => rfl) rfl (cwV 1 F.1.2.2.2.2 gX4_step_X6_mask rfl rfl rfl hdV_X6_mask ⟨by decide, by decide⟩) rfl rfl (Nat.le_of_ble_eq_true rfl) dX4_step_26 ⟨Nat.zero_le _, Nat.zero_le _⟩ (fun r4 M5 => ?_)
  refine g_istore (pc := 29) F [(0, .ref (ad (13 * pp + 8))), (1, .int a1), (2, .int a2), (3, .int v1), (4, .int v2), (5, .int v3), (6, .int r4)] dX4_step_29 (by decide) rfl rfl rfl ?_
  refine g_aload_n (pc := 31) F 0 dX4_step_31 rfl ?_
  refine g_get (pc := 32) (v := .int (M5 (13 * pp + 8) 10)) (k := 13 * pp + 8) (ci := 4) (fs := (oX4 ad (pp))) (C := RX4) (T := TX4) (N := 14) F (P_lt hpp (by decide)) (sh_X4 hpp) rfl kiX4_step_X4 10 (by decide) klX4_step_88 rfl rfl dX4_step_32 ?_
  refine g_nm (fun v6 => ?_)
  refine g_case (v := 5) (fun _ => ?_) (fun n7 => ?_)
  · refine g_tab (pc := 35) (off := 29) F 64 dX4_step_35 (by decide) (by decide) (by decide) (by decide) ?_
    refine g_aload_n (pc := 64) F 0 dX4_step_64 rfl ?_
    refine g_iload_n (pc := 65) F 1 dX4_step_65 rfl ?_
    refine g_iload (pc := 66) F 4 dX4_step_66 rfl ?_
    refine g_iload_n (pc := 68) F 2 dX4_step_68 rfl ?_
    refine g_iload (pc := 69) F 5 dX4_step_69 rfl ?_
    refine g_aload_n (pc := 71) F 0 dX4_step_71 rfl ?_
    refine g_iload_n (pc := 72) F 2 dX4_step_72 rfl ?_
    refine g_iload (pc := 73) F 5 dX4_step_73 rfl ?_
    refine g_iload (pc := 75) F 6 dX4_step_75 rfl ?_
    refine g_vi (pc := 77) (k := 13 * pp + 8) (ci := 4) (fs := (oX4 ad (pp))) (C := RX4) (T := TX4) (N := 14) (As := [.int a2, .int v3, .int r4]) (st := [.int v3, .int a2, .int v2, .int a1, .ref (ad (13 * pp + 8))]) F (c_X4_goingTo l D ad cs F.2.2.1 pp a2 v3 r4 hpp M5) (P_lt hpp (by decide)) (sh_X4 hpp) rfl (cwV 3 F.1.2.2.2.2 gX4_step_X4_goingTo rfl rfl rfl hdV_X4_goingTo ⟨by decide, by decide⟩) rfl rfl (Nat.le_of_ble_eq_true rfl) dX4_step_77 ⟨Nat.zero_le _, Nat.zero_le _⟩ (fun r8 M9 => ?_)
    refine g_vv (pc := 80) (k := 13 * pp + 8) (ci := 4) (fs := (oX4 ad (pp))) (C := RX4) (T := TX4) (N := 14) (As := [.int a1, .int v2, .int a2, .int v3, .int r8]) (st := []) F (c_X4_push l D ad cs F.2.2.1 pp a1 v2 a2 v3 r8 hpp M9) (P_lt hpp (by decide)) (sh_X4 hpp) rfl (cwV 5 F.1.2.2.2.2 gX4_step_X4_push rfl rfl rfl hdV_X4_push ⟨by decide, by decide⟩) rfl rfl (Nat.le_of_ble_eq_true rfl) dX4_step_80 ⟨Nat.zero_le _, Nat.zero_le _⟩ (fun r10 M11 => ?_)
    exact g_vret (pc := 83) F hr hlk dX4_step_83
  refine g_case (v := 6) (fun _ => ?_) (fun n12 => ?_)
  · refine g_tab (pc := 35) (off := 49) F 84 dX4_step_35 (by decide) (by decide) (by decide) (by decide) ?_
    refine g_aload_n (pc := 84) F 0 dX4_step_84 rfl ?_
    refine g_iload_n (pc := 85) F 1 dX4_step_85 rfl ?_
    refine g_iload (pc := 86) F 4 dX4_step_86 rfl ?_
    refine g_iload_n (pc := 88) F 2 dX4_step_88 rfl ?_
    refine g_iload (pc := 89) F 5 dX4_step_89 rfl ?_
    refine g_iload (pc := 91) F 6 dX4_step_91 rfl ?_
    refine g_vv (pc := 93) (k := 13 * pp + 8) (ci := 4) (fs := (oX4 ad (pp))) (C := RX4) (T := TX4) (N := 14) (As := [.int a1, .int v2, .int a2, .int v3, .int r4]) (st := []) F (c_X4_push l D ad cs F.2.2.1 pp a1 v2 a2 v3 r4 hpp M5) (P_lt hpp (by decide)) (sh_X4 hpp) rfl (cwV 5 F.1.2.2.2.2 gX4_step_X4_push rfl rfl rfl hdV_X4_push ⟨by decide, by decide⟩) rfl rfl (Nat.le_of_ble_eq_true rfl) dX4_step_93 ⟨Nat.zero_le _, Nat.zero_le _⟩ (fun r13 M14 => ?_)
    exact g_vret (pc := 96) F hr hlk dX4_step_96
  refine g_case (v := 7) (fun _ => ?_) (fun n15 => ?_)
  · refine g_tab (pc := 35) (off := 62) F 97 dX4_step_35 (by decide) (by decide) (by decide) (by decide) ?_
    refine g_aload_n (pc := 97) F 0 dX4_step_97 rfl ?_
    refine g_iload_n (pc := 98) F 1 dX4_step_98 rfl ?_
    refine g_iload (pc := 99) F 4 dX4_step_99 rfl ?_
    refine g_iload (pc := 101) F 5 dX4_step_101 rfl ?_
    refine g_iload (pc := 103) F 6 dX4_step_103 rfl ?_
    refine g_vv (pc := 105) (k := 13 * pp + 8) (ci := 4) (fs := (oX4 ad (pp))) (C := RX4) (T := TX4) (N := 14) (As := [.int a1, .int v2, .int v3, .int r4]) (st := []) F (c_X4_note l D ad cs F.2.2.1 fu pp a1 v2 v3 r4 hpp M5) (P_lt hpp (by decide)) (sh_X4 hpp) rfl (cwV 4 F.1.2.2.2.2 gX4_step_X4_note rfl rfl rfl hdV_X4_note ⟨by decide, by decide⟩) rfl rfl (Nat.le_of_ble_eq_true rfl) dX4_step_105 ⟨Nat.zero_le _, Nat.zero_le _⟩ (fun r16 M17 => ?_)
    refine g_aload_n (pc := 108) F 0 dX4_step_108 rfl ?_
    refine g_iload_n (pc := 109) F 1 dX4_step_109 rfl ?_
    refine g_iload (pc := 110) F 4 dX4_step_110 rfl ?_
    refine g_iload_n (pc := 112) F 2 dX4_step_112 rfl ?_
    refine g_iload (pc := 113) F 5 dX4_step_113 rfl ?_
    refine g_iload (pc := 115) F 6 dX4_step_115 rfl ?_
    refine g_vv (pc := 117) (k := 13 * pp + 8) (ci := 4) (fs := (oX4 ad (pp))) (C := RX4) (T := TX4) (N := 14) (As := [.int a1, .int v2, .int a2, .int v3, .int r4]) (st := []) F (c_X4_push l D ad cs F.2.2.1 pp a1 v2 a2 v3 r4 hpp M17) (P_lt hpp (by decide)) (sh_X4 hpp) rfl (cwV 5 F.1.2.2.2.2 gX4_step_X4_push rfl rfl rfl hdV_X4_push ⟨by decide, by decide⟩) rfl rfl (Nat.le_of_ble_eq_true rfl) dX4_step_117 ⟨Nat.zero_le _, Nat.zero_le _⟩ (fun r18 M19 => ?_)
    exact g_vret (pc := 120) F hr hlk dX4_step_120
  refine g_case (v := 8) (fun _ => ?_) (fun n20 => ?_)
  · refine g_tab (pc := 35) (off := 86) F 121 dX4_step_35 (by decide) (by decide) (by decide) (by decide) ?_
    refine g_aload_n (pc := 121) F 0 dX4_step_121 rfl ?_
    refine g_iload_n (pc := 122) F 1 dX4_step_122 rfl ?_
    refine g_iconst (pc := 123) (v := 1) F dX4_step_123 (by decide) ?_
    refine g_iload_n (pc := 124) F 2 dX4_step_124 rfl ?_
    refine g_iload (pc := 125) F 5 dX4_step_125 rfl ?_
    refine g_iload (pc := 127) F 6 dX4_step_127 rfl ?_
    refine g_vv (pc := 129) (k := 13 * pp + 8) (ci := 4) (fs := (oX4 ad (pp))) (C := RX4) (T := TX4) (N := 14) (As := [.int a1, .int 1, .int a2, .int v3, .int r4]) (st := []) F (c_X4_push l D ad cs F.2.2.1 pp a1 1 a2 v3 r4 hpp M5) (P_lt hpp (by decide)) (sh_X4 hpp) rfl (cwV 5 F.1.2.2.2.2 gX4_step_X4_push rfl rfl rfl hdV_X4_push ⟨by decide, by decide⟩) rfl rfl (Nat.le_of_ble_eq_true rfl) dX4_step_129 ⟨Nat.zero_le _, Nat.zero_le _⟩ (fun r21 M22 => ?_)
    exact g_vret (pc := 132) F hr hlk dX4_step_132
  refine g_tabd (pc := 35) F 133 dX4_step_35 (by have e0 := ne_lit (n := 5) (by decide) n7; have e1 := ne_lit (n := 6) (by decide) n12; have e2 := ne_lit (n := 7) (by decide) n15; have e3 := ne_lit (n := 8) (by decide) n20; omega) (by decide) ?_
  refine g_aload_n (pc := 133) F 0 dX4_step_133 rfl ?_
  refine g_get (pc := 134) (v := .int (M5 (13 * pp + 8) 11)) (k := 13 * pp + 8) (ci := 4) (fs := (oX4 ad (pp))) (C := RX4) (T := TX4) (N := 14) F (P_lt hpp (by decide)) (sh_X4 hpp) rfl kiX4_step_X4 11 (by decide) klX4_step_115 rfl rfl dX4_step_134 ?_
  refine g_iconst (pc := 137) (v := 1) F dX4_step_137 (by decide) ?_
  refine g_icmp_ne (pc := 138) F 162 dX4_step_138 (by decide) ?_ ?_
  · refine g_aload_n (pc := 162) F 0 dX4_step_162 rfl ?_
    refine g_get (pc := 163) (v := .int (M5 (13 * pp + 8) 10)) (k := 13 * pp + 8) (ci := 4) (fs := (oX4 ad (pp))) (C := RX4) (T := TX4) (N := 14) F (P_lt hpp (by decide)) (sh_X4 hpp) rfl kiX4_step_X4 10 (by decide) klX4_step_88 rfl rfl dX4_step_163 ?_
    refine g_iconst (pc := 166) (v := 3) F dX4_step_166 (by decide) ?_
    refine g_icmp_eq (pc := 167) F 178 dX4_step_167 (by decide) ?_ ?_
    · refine g_aload_n (pc := 178) F 0 dX4_step_178 rfl ?_
      refine g_get (pc := 179) (v := .ref (ad (54))) (k := 13 * pp + 8) (ci := 4) (fs := (oX4 ad (pp))) (C := RX4) (T := TX4) (N := 14) F (P_lt hpp (by decide)) (sh_X4 hpp) rfl kiX4_step_X4 1 (by decide) klX4_step_30 rfl rfl dX4_step_179 ?_
      refine g_iload (pc := 182) F 4 dX4_step_182 rfl ?_
      refine g_aload_n (pc := 184) F 0 dX4_step_184 rfl ?_
      refine g_get (pc := 185) (v := .int (M5 (13 * pp + 8) 9)) (k := 13 * pp + 8) (ci := 4) (fs := (oX4 ad (pp))) (C := RX4) (T := TX4) (N := 14) F (P_lt hpp (by decide)) (sh_X4 hpp) rfl kiX4_step_X4 9 (by decide) klX4_step_94 rfl rfl dX4_step_185 ?_
      refine g_iload (pc := 188) F 6 dX4_step_188 rfl ?_
      refine g_vi (pc := 190) (k := 54) (ci := 6) (fs := (oX6 ad)) (C := RX6) (T := TX6) (N := 3) (As := [.int v2, .int (M5 (13 * pp + 8) 9), .int r4]) (st := []) F (c_X6_give l D ad cs F.2.2.1 v2 (M5 (13 * pp + 8) 9) r4 M5) (by decide) (fun _ => rfl) rfl (cwV 3 F.1.2.2.2.2 gX4_step_X6_give rfl rfl rfl hdV_X6_give ⟨by decide, by decide⟩) rfl rfl (Nat.le_of_ble_eq_true rfl) dX4_step_190 ⟨Nat.zero_le _, Nat.zero_le _⟩ (fun r23 M24 => ?_)
      refine g_istore (pc := 193) F [(0, .ref (ad (13 * pp + 8))), (1, .int a1), (2, .int a2), (3, .int v1), (4, .int v2), (5, .int v3), (6, .int r4), (7, .int r23)] dX4_step_193 (by decide) rfl rfl rfl ?_
      refine g_iconst (pc := 195) (v := 0) F dX4_step_195 (by decide) ?_
      refine g_istore (pc := 196) F [(0, .ref (ad (13 * pp + 8))), (1, .int a1), (2, .int a2), (3, .int v1), (4, .int v2), (5, .int v3), (6, .int r4), (7, .int r23), (8, .int 0)] dX4_step_196 (by decide) rfl rfl rfl ?_
      refine g_sub [0, 1, 2, 4, 7, 8] [(0, .ref (ad (13 * pp + 8))), (1, .int a1), (2, .int a2), (4, .int v2), (7, .int r23), (8, .int 0)] rfl ?_
      refine w_X4_step_L198 pp a1 a2 v2 r23 hpp F hr hlk _ (fun M29 y30 => ?_) _ _ _
      refine g_goto (pc := 246) F 265 dX4_step_246 (by decide) ?_
      exact g_vret (pc := 265) F hr hlk dX4_step_265
    · refine g_aload_n (pc := 170) F 0 dX4_step_170 rfl ?_
      refine g_get (pc := 171) (v := .int (M5 (13 * pp + 8) 10)) (k := 13 * pp + 8) (ci := 4) (fs := (oX4 ad (pp))) (C := RX4) (T := TX4) (N := 14) F (P_lt hpp (by decide)) (sh_X4 hpp) rfl kiX4_step_X4 10 (by decide) klX4_step_88 rfl rfl dX4_step_171 ?_
      refine g_iconst (pc := 174) (v := 2) F dX4_step_174 (by decide) ?_
      refine g_icmp_ne (pc := 175) F 249 dX4_step_175 (by decide) ?_ ?_
      · refine g_aload_n (pc := 249) F 0 dX4_step_249 rfl ?_
        refine g_iload_n (pc := 250) F 1 dX4_step_250 rfl ?_
        refine g_iload (pc := 251) F 4 dX4_step_251 rfl ?_
        refine g_iload_n (pc := 253) F 2 dX4_step_253 rfl ?_
        refine g_aload_n (pc := 254) F 0 dX4_step_254 rfl ?_
        refine g_iload (pc := 255) F 5 dX4_step_255 rfl ?_
        refine g_vi (pc := 257) (k := 13 * pp + 8) (ci := 4) (fs := (oX4 ad (pp))) (C := RX4) (T := TX4) (N := 14) (As := [.int v3]) (st := [.int a2, .int v2, .int a1, .ref (ad (13 * pp + 8))]) F (c_X4_firstAfter l D ad cs F.2.2.1 pp v3 hpp M5) (P_lt hpp (by decide)) (sh_X4 hpp) rfl (cwV 1 F.1.2.2.2.2 gX4_step_X4_firstAfter rfl rfl rfl hdV_X4_firstAfter ⟨by decide, by decide⟩) rfl rfl (Nat.le_of_ble_eq_true rfl) dX4_step_257 ⟨Nat.zero_le _, Nat.zero_le _⟩ (fun r31 M32 => ?_)
        refine g_iload (pc := 260) F 6 dX4_step_260 rfl ?_
        refine g_vv (pc := 262) (k := 13 * pp + 8) (ci := 4) (fs := (oX4 ad (pp))) (C := RX4) (T := TX4) (N := 14) (As := [.int a1, .int v2, .int a2, .int r31, .int r4]) (st := []) F (c_X4_push l D ad cs F.2.2.1 pp a1 v2 a2 r31 r4 hpp M32) (P_lt hpp (by decide)) (sh_X4 hpp) rfl (cwV 5 F.1.2.2.2.2 gX4_step_X4_push rfl rfl rfl hdV_X4_push ⟨by decide, by decide⟩) rfl rfl (Nat.le_of_ble_eq_true rfl) dX4_step_262 ⟨Nat.zero_le _, Nat.zero_le _⟩ (fun r33 M34 => ?_)
        exact g_vret (pc := 265) F hr hlk dX4_step_265
      · refine g_aload_n (pc := 178) F 0 dX4_step_178 rfl ?_
        refine g_get (pc := 179) (v := .ref (ad (54))) (k := 13 * pp + 8) (ci := 4) (fs := (oX4 ad (pp))) (C := RX4) (T := TX4) (N := 14) F (P_lt hpp (by decide)) (sh_X4 hpp) rfl kiX4_step_X4 1 (by decide) klX4_step_30 rfl rfl dX4_step_179 ?_
        refine g_iload (pc := 182) F 4 dX4_step_182 rfl ?_
        refine g_aload_n (pc := 184) F 0 dX4_step_184 rfl ?_
        refine g_get (pc := 185) (v := .int (M5 (13 * pp + 8) 9)) (k := 13 * pp + 8) (ci := 4) (fs := (oX4 ad (pp))) (C := RX4) (T := TX4) (N := 14) F (P_lt hpp (by decide)) (sh_X4 hpp) rfl kiX4_step_X4 9 (by decide) klX4_step_94 rfl rfl dX4_step_185 ?_
        refine g_iload (pc := 188) F 6 dX4_step_188 rfl ?_
        refine g_vi (pc := 190) (k := 54) (ci := 6) (fs := (oX6 ad)) (C := RX6) (T := TX6) (N := 3) (As := [.int v2, .int (M5 (13 * pp + 8) 9), .int r4]) (st := []) F (c_X6_give l D ad cs F.2.2.1 v2 (M5 (13 * pp + 8) 9) r4 M5) (by decide) (fun _ => rfl) rfl (cwV 3 F.1.2.2.2.2 gX4_step_X6_give rfl rfl rfl hdV_X6_give ⟨by decide, by decide⟩) rfl rfl (Nat.le_of_ble_eq_true rfl) dX4_step_190 ⟨Nat.zero_le _, Nat.zero_le _⟩ (fun r35 M36 => ?_)
        refine g_istore (pc := 193) F [(0, .ref (ad (13 * pp + 8))), (1, .int a1), (2, .int a2), (3, .int v1), (4, .int v2), (5, .int v3), (6, .int r4), (7, .int r35)] dX4_step_193 (by decide) rfl rfl rfl ?_
        refine g_iconst (pc := 195) (v := 0) F dX4_step_195 (by decide) ?_
        refine g_istore (pc := 196) F [(0, .ref (ad (13 * pp + 8))), (1, .int a1), (2, .int a2), (3, .int v1), (4, .int v2), (5, .int v3), (6, .int r4), (7, .int r35), (8, .int 0)] dX4_step_196 (by decide) rfl rfl rfl ?_
        refine g_sub [0, 1, 2, 4, 7, 8] [(0, .ref (ad (13 * pp + 8))), (1, .int a1), (2, .int a2), (4, .int v2), (7, .int r35), (8, .int 0)] rfl ?_
        refine w_X4_step_L198 pp a1 a2 v2 r35 hpp F hr hlk _ (fun M37 y38 => ?_) _ _ _
        refine g_goto (pc := 246) F 265 dX4_step_246 (by decide) ?_
        exact g_vret (pc := 265) F hr hlk dX4_step_265
  · refine g_aload_n (pc := 141) F 0 dX4_step_141 rfl ?_
    refine g_iload_n (pc := 142) F 1 dX4_step_142 rfl ?_
    refine g_iload (pc := 143) F 4 dX4_step_143 rfl ?_
    refine g_iload_n (pc := 145) F 2 dX4_step_145 rfl ?_
    refine g_iload (pc := 146) F 5 dX4_step_146 rfl ?_
    refine g_aload_n (pc := 148) F 0 dX4_step_148 rfl ?_
    refine g_iload (pc := 149) F 5 dX4_step_149 rfl ?_
    refine g_iload (pc := 151) F 6 dX4_step_151 rfl ?_
    refine g_vi (pc := 153) (k := 13 * pp + 8) (ci := 4) (fs := (oX4 ad (pp))) (C := RX4) (T := TX4) (N := 14) (As := [.int v3, .int r4]) (st := [.int v3, .int a2, .int v2, .int a1, .ref (ad (13 * pp + 8))]) F (c_X4_secondAfter l D ad cs F.2.2.1 fu pp v3 r4 hpp M5) (P_lt hpp (by decide)) (sh_X4 hpp) rfl (cwV 2 F.1.2.2.2.2 gX4_step_X4_secondAfter rfl rfl rfl hdV_X4_secondAfter ⟨by decide, by decide⟩) rfl rfl (Nat.le_of_ble_eq_true rfl) dX4_step_153 ⟨Nat.zero_le _, Nat.zero_le _⟩ (fun r39 M40 => ?_)
    refine g_vv (pc := 156) (k := 13 * pp + 8) (ci := 4) (fs := (oX4 ad (pp))) (C := RX4) (T := TX4) (N := 14) (As := [.int a1, .int v2, .int a2, .int v3, .int r39]) (st := []) F (c_X4_push l D ad cs F.2.2.1 pp a1 v2 a2 v3 r39 hpp M40) (P_lt hpp (by decide)) (sh_X4 hpp) rfl (cwV 5 F.1.2.2.2.2 gX4_step_X4_push rfl rfl rfl hdV_X4_push ⟨by decide, by decide⟩) rfl rfl (Nat.le_of_ble_eq_true rfl) dX4_step_156 ⟨Nat.zero_le _, Nat.zero_le _⟩ (fun r41 M42 => ?_)
    refine g_goto (pc := 159) F 265 dX4_step_159 (by decide) ?_
    exact g_vret (pc := 265) F hr hlk dX4_step_265
-- X4_leave
def rmX4_leave : Room := { frames := 3, cells := 0, slots := 0, locals := 81 }
def f_X4_leave_L107 (fu : Nat) (q0 : Nat) (x1 : Int32) (x2 : Int32) (x3 : Int32) (x4 : Int32) (k : Mem → Int32 → Option (Int32 × Mem)) : Nat → Mem → Int32 → Option (Int32 × Mem)
  | 0, _, _ => none
  | n + 1, M, x5 => if x2 ≤ x5 then k M x5 else bnd (f_X4_step fu q0 x5 x3 M) (fun r5 M6 => f_X4_leave_L107 fu q0 x1 x2 x3 x4 k n M6 (x5 + 1))
def f_X4_leave_L134 (fu : Nat) (q0 : Nat) (x2 : Int32) (x3 : Int32) (x4 : Int32) (k : Mem → Int32 → Option (Int32 × Mem)) : Nat → Mem → Int32 → Option (Int32 × Mem)
  | 0, _, _ => none
  | n + 1, M, x5 => if x2 ≤ x5 then k M x5 else if x3 = x4 then k M x5 else bnd (f_X4_step fu q0 x5 x4 M) (fun r10 M11 => f_X4_leave_L134 fu q0 x2 x3 x4 k n M11 (x5 + 1))
def f_X4_leave (fu : Nat) (pp : Nat) (a1 : Int32) (a2 : Int32) (M : Mem) : Option (Int32 × Mem) := if ix a1 49152 then bnd (f_X4_fetch pp ((usr (M (13 * pp + 9) a1.toNatClampNeg) (5 : Int32)) &&& (31 : Int32)) M) (fun r1 M2 => if (M2 (13 * pp + 8) 10) = 9 then some (0, M2) else if (M2 (13 * pp + 8) 10) = 6 then nm (M2 (13 * pp + 8) 13) (fun v35 => if (M2 (13 * pp + 8) 10) = 5 then nm (if ((M2 (13 * pp + 8) 9) + (1 : Int32)) < (M2 (13 * pp + 8) 13) then (M2 (13 * pp + 8) 13) else ((M2 (13 * pp + 8) 9) + (1 : Int32))) (fun v42 => wr M2 (13 * pp + 8) 7 1 (fun M43 => f_X4_leave_L107 fu pp a1 a2 v35 v42 (fun M44 y45 => wr M44 (13 * pp + 8) 7 1 (fun M46 => f_X4_leave_L134 fu pp a2 v35 v42 (fun M47 y48 => some (0, M47)) fu M46 a1)) fu M43 a1)) else wr M2 (13 * pp + 8) 7 1 (fun M36 => f_X4_leave_L107 fu pp a1 a2 v35 v35 (fun M37 y38 => wr M37 (13 * pp + 8) 7 1 (fun M39 => f_X4_leave_L134 fu pp a2 v35 v35 (fun M40 y41 => some (0, M40)) fu M39 a1)) fu M36 a1)) else if (M2 (13 * pp + 8) 10) = 5 then nm (if (M2 (13 * pp + 8) 13) < ((M2 (13 * pp + 8) 9) + (1 : Int32)) then (M2 (13 * pp + 8) 13) else ((M2 (13 * pp + 8) 9) + (1 : Int32))) (fun v21 => if (M2 (13 * pp + 8) 10) = 5 then nm (if ((M2 (13 * pp + 8) 9) + (1 : Int32)) < (M2 (13 * pp + 8) 13) then (M2 (13 * pp + 8) 13) else ((M2 (13 * pp + 8) 9) + (1 : Int32))) (fun v28 => wr M2 (13 * pp + 8) 7 1 (fun M29 => f_X4_leave_L107 fu pp a1 a2 v21 v28 (fun M30 y31 => wr M30 (13 * pp + 8) 7 1 (fun M32 => f_X4_leave_L134 fu pp a2 v21 v28 (fun M33 y34 => some (0, M33)) fu M32 a1)) fu M29 a1)) else wr M2 (13 * pp + 8) 7 1 (fun M22 => f_X4_leave_L107 fu pp a1 a2 v21 v21 (fun M23 y24 => wr M23 (13 * pp + 8) 7 1 (fun M25 => f_X4_leave_L134 fu pp a2 v21 v21 (fun M26 y27 => some (0, M26)) fu M25 a1)) fu M22 a1)) else nm ((M2 (13 * pp + 8) 9) + (1 : Int32)) (fun v3 => if (M2 (13 * pp + 8) 10) = 5 then nm (if ((M2 (13 * pp + 8) 9) + (1 : Int32)) < (M2 (13 * pp + 8) 13) then (M2 (13 * pp + 8) 13) else ((M2 (13 * pp + 8) 9) + (1 : Int32))) (fun v14 => wr M2 (13 * pp + 8) 7 1 (fun M15 => f_X4_leave_L107 fu pp a1 a2 v3 v14 (fun M16 y17 => wr M16 (13 * pp + 8) 7 1 (fun M18 => f_X4_leave_L134 fu pp a2 v3 v14 (fun M19 y20 => some (0, M19)) fu M18 a1)) fu M15 a1)) else wr M2 (13 * pp + 8) 7 1 (fun M4 => f_X4_leave_L107 fu pp a1 a2 v3 v3 (fun M7 y8 => wr M7 (13 * pp + 8) 7 1 (fun M9 => f_X4_leave_L134 fu pp a2 v3 v3 (fun M12 y13 => some (0, M12)) fu M9 a1)) fu M4 a1))) else none
set_option maxRecDepth 20000 in
theorem kiX4_leave_X4 : ∀ w ∈ u_ws RX4 TX4 14, w ∈ wsX4_leave := by decide +kernel
set_option maxRecDepth 20000 in
theorem klX4_leave_12 : Cond.fieldLink RX4 12 "DoorLister$Paths" "links" "[I" ∈ wsX4_leave := by decide +kernel
set_option maxRecDepth 20000 in
theorem klX4_leave_88 : Cond.fieldLink RX4 88 "DoorLister$Paths" "kind" "I" ∈ wsX4_leave := by decide +kernel
set_option maxRecDepth 20000 in
theorem klX4_leave_94 : Cond.fieldLink RX4 94 "DoorLister$Paths" "at" "I" ∈ wsX4_leave := by decide +kernel
set_option maxRecDepth 20000 in
theorem klX4_leave_70 : Cond.fieldLink RX4 70 "DoorLister$Paths" "opens" "Z" ∈ wsX4_leave := by decide +kernel
set_option maxRecDepth 20000 in
theorem klX4_leave_91 : Cond.fieldLink RX4 91 "DoorLister$Paths" "to" "I" ∈ wsX4_leave := by decide +kernel
set_option maxRecDepth 20000 in
theorem kwX4_leave_max0 : Cond.methodLink RX4 102 Lib.Math.max.name ∈ wsX4_leave := by decide +kernel
set_option maxRecDepth 20000 in
theorem kwX4_leave_max1 : Cond.static Lib.Math.max.name ∈ wsX4_leave := by decide +kernel
set_option maxRecDepth 20000 in
theorem kwX4_leave_m2 : Cond.initialized "java/lang/Math" ∈ wsX4_leave := by decide +kernel
set_option maxRecDepth 20000 in
theorem kwX4_leave_max3 : Cond.code Lib.Math.max.name Lib.Math.max.code 2 (some .int) ∈ wsX4_leave := by decide +kernel
set_option maxRecDepth 20000 in
theorem kwX4_leave_min0 : Cond.methodLink RX4 97 Lib.Math.min.name ∈ wsX4_leave := by decide +kernel
set_option maxRecDepth 20000 in
theorem kwX4_leave_min1 : Cond.static Lib.Math.min.name ∈ wsX4_leave := by decide +kernel
set_option maxRecDepth 20000 in
theorem kwX4_leave_min3 : Cond.code Lib.Math.min.name Lib.Math.min.code 2 (some .int) ∈ wsX4_leave := by decide +kernel
set_option maxHeartbeats 4000000 in
set_option maxRecDepth 100000 in
theorem w_X4_leave_L107 {p : Program} {l : Launch} {e : Env} {s : State} {m : MethodId} {args : Array Value} {below : List Frame} {meth : Method} {c : Code} {D : va_G} {ad : Nat → Nat} {cs : Cs} (fu : Nat) (q0 : Nat) (x1 : Int32) (x2 : Int32) (x3 : Int32) (x4 : Int32) (hq0 : q0 < 4) (F : Fx p m c cX4_leave 6 s args wsX4_leave RX4 D ad cs (Ad ad)) (hr : meth.sig.returnType = none) (hlk : meth.locks = false) (k : Mem → Int32 → Option (Int32 × Mem)) (hkx : ∀ (M : Mem) (x5 : Int32), GoX p l e rmX4_leave s m args below meth c 0 0 6 (fun rM => MQ below (cQv D ad cs rM) args s 0 0 (Ad ad)) D ad cs (Ad ad) M 126 [(0, .ref (ad (13 * q0 + 8))), (1, .int x1), (2, .int x2), (3, .int x3), (4, .int x4), (5, .int x5)] [] (k M x5)) : ∀ (n : Nat) (M : Mem) (x5 : Int32), GoX p l e rmX4_leave s m args below meth c 0 0 6 (fun rM => MQ below (cQv D ad cs rM) args s 0 0 (Ad ad)) D ad cs (Ad ad) M 107 [(0, .ref (ad (13 * q0 + 8))), (1, .int x1), (2, .int x2), (3, .int x3), (4, .int x4), (5, .int x5)] [] (f_X4_leave_L107 fu q0 x1 x2 x3 x4 k n M x5) := by
  intro n
  induction n with
  | zero => intro M x5; exact g_none
  | succ n ih =>
    intro M x5
    unfold f_X4_leave_L107
    refine g_iload (pc := 107) F 5 dX4_leave_107 rfl ?_
    refine g_iload_n (pc := 109) F 2 dX4_leave_109 rfl ?_
    refine g_icmp_ge (pc := 110) F 126 dX4_leave_110 (by decide) ?_ ?_
    · exact hkx _ _
    · refine g_aload_n (pc := 113) F 0 dX4_leave_113 rfl ?_
      refine g_iload (pc := 114) F 5 dX4_leave_114 rfl ?_
      refine g_iload_n (pc := 116) F 3 dX4_leave_116 rfl ?_
      refine g_vv (pc := 117) (k := 13 * q0 + 8) (ci := 4) (fs := (oX4 ad (q0))) (C := RX4) (T := TX4) (N := 14) (As := [.int x5, .int x3]) (st := []) F (c_X4_step l D ad cs F.2.2.1 fu q0 x5 x3 hq0 M) (P_lt hq0 (by decide)) (sh_X4 hq0) rfl (cwV 2 F.1.2.2.2.2 gX4_leave_X4_step rfl rfl rfl hdV_X4_step ⟨by decide, by decide⟩) rfl rfl (Nat.le_of_ble_eq_true rfl) dX4_leave_117 ⟨Nat.zero_le _, Nat.zero_le _⟩ (fun r5 M6 => ?_)
      refine g_iinc (pc := 120) (v := x5 + 1) F [(0, .ref (ad (13 * q0 + 8))), (1, .int x1), (2, .int x2), (3, .int x3), (4, .int x4), (5, .int (x5 + 1))] 5 dX4_leave_120 rfl rfl (by decide) rfl rfl rfl ?_
      refine g_goto (pc := 123) F 107 dX4_leave_123 (by decide) ?_
      exact ih _ _
set_option maxHeartbeats 4000000 in
set_option maxRecDepth 100000 in
theorem w_X4_leave_L134 {p : Program} {l : Launch} {e : Env} {s : State} {m : MethodId} {args : Array Value} {below : List Frame} {meth : Method} {c : Code} {D : va_G} {ad : Nat → Nat} {cs : Cs} (fu : Nat) (q0 : Nat) (x2 : Int32) (x3 : Int32) (x4 : Int32) (hq0 : q0 < 4) (F : Fx p m c cX4_leave 6 s args wsX4_leave RX4 D ad cs (Ad ad)) (hr : meth.sig.returnType = none) (hlk : meth.locks = false) (k : Mem → Int32 → Option (Int32 × Mem)) (hkx : ∀ (M : Mem) (x5 : Int32), GoX p l e rmX4_leave s m args below meth c 0 0 6 (fun rM => MQ below (cQv D ad cs rM) args s 0 0 (Ad ad)) D ad cs (Ad ad) M 160 [(0, .ref (ad (13 * q0 + 8))), (2, .int x2), (3, .int x3), (4, .int x4), (5, .int x5)] [] (k M x5)) : ∀ (n : Nat) (M : Mem) (x5 : Int32), GoX p l e rmX4_leave s m args below meth c 0 0 6 (fun rM => MQ below (cQv D ad cs rM) args s 0 0 (Ad ad)) D ad cs (Ad ad) M 134 [(0, .ref (ad (13 * q0 + 8))), (2, .int x2), (3, .int x3), (4, .int x4), (5, .int x5)] [] (f_X4_leave_L134 fu q0 x2 x3 x4 k n M x5) := by
  intro n
  induction n with
  | zero => intro M x5; exact g_none
  | succ n ih =>
    intro M x5
    unfold f_X4_leave_L134
    refine g_iload (pc := 134) F 4 dX4_leave_134 rfl ?_
    refine g_iload_n (pc := 136) F 1 dX4_leave_136 rfl ?_
    refine g_icmp_ge (pc := 137) F 160 dX4_leave_137 (by decide) ?_ ?_
    · exact hkx _ _
    · refine g_iload_n (pc := 140) F 2 dX4_leave_140 rfl ?_
      refine g_iload (pc := 141) F 3 dX4_leave_141 rfl ?_
      refine g_icmp_eq (pc := 143) F 160 dX4_leave_143 (by decide) ?_ ?_
      · exact hkx _ _
      · refine g_aload_n (pc := 146) F 0 dX4_leave_146 rfl ?_
        refine g_iload (pc := 147) F 4 dX4_leave_147 rfl ?_
        refine g_iload (pc := 149) F 3 dX4_leave_149 rfl ?_
        refine g_vv (pc := 151) (k := 13 * q0 + 8) (ci := 4) (fs := (oX4 ad (q0))) (C := RX4) (T := TX4) (N := 14) (As := [.int x5, .int x4]) (st := []) F (c_X4_step l D ad cs F.2.2.1 fu q0 x5 x4 hq0 M) (P_lt hq0 (by decide)) (sh_X4 hq0) rfl (cwV 2 F.1.2.2.2.2 gX4_leave_X4_step rfl rfl rfl hdV_X4_step ⟨by decide, by decide⟩) rfl rfl (Nat.le_of_ble_eq_true rfl) dX4_leave_151 ⟨Nat.zero_le _, Nat.zero_le _⟩ (fun r10 M11 => ?_)
        refine g_iinc (pc := 154) (v := x5 + 1) F [(0, .ref (ad (13 * q0 + 8))), (2, .int x2), (3, .int x3), (4, .int x4), (5, .int (x5 + 1))] 4 dX4_leave_154 rfl rfl (by decide) rfl rfl rfl ?_
        refine g_goto (pc := 157) F 134 dX4_leave_157 (by decide) ?_
        exact ih _ _
set_option maxHeartbeats 4000000 in
set_option maxRecDepth 100000 in
theorem c_X4_leave (l : Launch) (D : va_G) (ad : Nat → Nat) (cs : Cs) (hi : Inj ad) (fu : Nat) (pp : Nat) (a1 : Int32) (a2 : Int32) (hpp : pp < 4) (M : Mem) : MV l yX4_leave wsX4_leave rmX4_leave D ad cs [.ref (ad (13 * pp + 8)), .int a1, .int a2] M (f_X4_leave fu pp a1 a2 M) := by
  refine Mx.of (cc := cX4_leave) (maxL := 6) (ret := none) (own := RX4) (lv := [(0, .ref (ad (13 * pp + 8))), (1, .int a1), (2, .int a2)]) (by decide) rfl rfl (Nat.le_of_ble_eq_true rfl) rfl hi ?_
  intro p e s m below meth c F hr hlk
  unfold f_X4_leave
  refine g_aload_n (pc := 0) F 0 dX4_leave_0 rfl ?_
  refine g_aload_n (pc := 1) F 0 dX4_leave_1 rfl ?_
  refine g_get (pc := 2) (v := .ref (ad (13 * pp + 9))) (k := 13 * pp + 8) (ci := 4) (fs := (oX4 ad (pp))) (C := RX4) (T := TX4) (N := 14) F (P_lt hpp (by decide)) (sh_X4 hpp) rfl kiX4_leave_X4 2 (by decide) klX4_leave_12 rfl rfl dX4_leave_2 ?_
  refine g_iload_n (pc := 5) F 1 dX4_leave_5 rfl ?_
  refine g_iald (pc := 6) (k := 13 * pp + 9) (n := 49152) F (P_lt hpp (by decide)) (sh_a9 hpp) dX4_leave_6 ?_
  refine g_iconst (pc := 7) (v := 5) F dX4_leave_7 (by decide) ?_
  refine g_iushr (pc := 8) F dX4_leave_8 ?_
  refine g_bipush (pc := 9) (v := 31) F dX4_leave_9 (by decide) ?_
  refine g_iand (pc := 11) F dX4_leave_11 ?_
  refine g_vv (pc := 12) (k := 13 * pp + 8) (ci := 4) (fs := (oX4 ad (pp))) (C := RX4) (T := TX4) (N := 14) (As := [.int ((usr (M (13 * pp + 9) a1.toNatClampNeg) (5 : Int32)) &&& (31 : Int32))]) (st := []) F (c_X4_fetch l D ad cs F.2.2.1 pp ((usr (M (13 * pp + 9) a1.toNatClampNeg) (5 : Int32)) &&& (31 : Int32)) hpp M) (P_lt hpp (by decide)) (sh_X4 hpp) rfl (cwV 1 F.1.2.2.2.2 gX4_leave_X4_fetch rfl rfl rfl hdV_X4_fetch ⟨by decide, by decide⟩) rfl rfl (Nat.le_of_ble_eq_true rfl) dX4_leave_12 ⟨Nat.zero_le _, Nat.zero_le _⟩ (fun r1 M2 => ?_)
  refine g_aload_n (pc := 15) F 0 dX4_leave_15 rfl ?_
  refine g_get (pc := 16) (v := .int (M2 (13 * pp + 8) 10)) (k := 13 * pp + 8) (ci := 4) (fs := (oX4 ad (pp))) (C := RX4) (T := TX4) (N := 14) F (P_lt hpp (by decide)) (sh_X4 hpp) rfl kiX4_leave_X4 10 (by decide) klX4_leave_88 rfl rfl dX4_leave_16 ?_
  refine g_bipush (pc := 19) (v := 9) F dX4_leave_19 (by decide) ?_
  refine g_icmp_ne (pc := 21) F 25 dX4_leave_21 (by decide) ?_ ?_
  · refine g_aload_n (pc := 25) F 0 dX4_leave_25 rfl ?_
    refine g_get (pc := 26) (v := .int (M2 (13 * pp + 8) 10)) (k := 13 * pp + 8) (ci := 4) (fs := (oX4 ad (pp))) (C := RX4) (T := TX4) (N := 14) F (P_lt hpp (by decide)) (sh_X4 hpp) rfl kiX4_leave_X4 10 (by decide) klX4_leave_88 rfl rfl dX4_leave_26 ?_
    refine g_bipush (pc := 29) (v := 6) F dX4_leave_29 (by decide) ?_
    refine g_icmp_ne (pc := 31) F 41 dX4_leave_31 (by decide) ?_ ?_
    · refine g_aload_n (pc := 41) F 0 dX4_leave_41 rfl ?_
      refine g_get (pc := 42) (v := .int (M2 (13 * pp + 8) 10)) (k := 13 * pp + 8) (ci := 4) (fs := (oX4 ad (pp))) (C := RX4) (T := TX4) (N := 14) F (P_lt hpp (by decide)) (sh_X4 hpp) rfl kiX4_leave_X4 10 (by decide) klX4_leave_88 rfl rfl dX4_leave_42 ?_
      refine g_iconst (pc := 45) (v := 5) F dX4_leave_45 (by decide) ?_
      refine g_icmp_ne (pc := 46) F 65 dX4_leave_46 (by decide) ?_ ?_
      · refine g_aload_n (pc := 65) F 0 dX4_leave_65 rfl ?_
        refine g_get (pc := 66) (v := .int (M2 (13 * pp + 8) 9)) (k := 13 * pp + 8) (ci := 4) (fs := (oX4 ad (pp))) (C := RX4) (T := TX4) (N := 14) F (P_lt hpp (by decide)) (sh_X4 hpp) rfl kiX4_leave_X4 9 (by decide) klX4_leave_94 rfl rfl dX4_leave_66 ?_
        refine g_iconst (pc := 69) (v := 1) F dX4_leave_69 (by decide) ?_
        refine g_iadd (pc := 70) F dX4_leave_70 ?_
        refine g_nm (fun v3 => ?_)
        refine g_istore_n (pc := 71) F [(0, .ref (ad (13 * pp + 8))), (1, .int a1), (2, .int a2), (3, .int v3)] dX4_leave_71 (by decide) rfl rfl rfl ?_
        refine g_aload_n (pc := 72) F 0 dX4_leave_72 rfl ?_
        refine g_get (pc := 73) (v := .int (M2 (13 * pp + 8) 10)) (k := 13 * pp + 8) (ci := 4) (fs := (oX4 ad (pp))) (C := RX4) (T := TX4) (N := 14) F (P_lt hpp (by decide)) (sh_X4 hpp) rfl kiX4_leave_X4 10 (by decide) klX4_leave_88 rfl rfl dX4_leave_73 ?_
        refine g_iconst (pc := 76) (v := 5) F dX4_leave_76 (by decide) ?_
        refine g_icmp_ne (pc := 77) F 96 dX4_leave_77 (by decide) ?_ ?_
        · refine g_iload_n (pc := 96) F 3 dX4_leave_96 rfl ?_
          refine g_istore (pc := 97) F [(0, .ref (ad (13 * pp + 8))), (1, .int a1), (2, .int a2), (3, .int v3), (4, .int v3)] dX4_leave_97 (by decide) rfl rfl rfl ?_
          refine g_aload_n (pc := 99) F 0 dX4_leave_99 rfl ?_
          refine g_iconst (pc := 100) (v := 1) F dX4_leave_100 (by decide) ?_
          refine g_put (pc := 101) (k := 13 * pp + 8) (ci := 4) (fs := (oX4 ad (pp))) (C := RX4) (T := TX4) (N := 14) F (P_lt hpp (by decide)) (sh_X4 hpp) rfl kiX4_leave_X4 tyX4 tyX4_ok nmX4 7 (by decide) klX4_leave_70 rfl rfl rfl rfl (fun _ => rfl) (Nat.le_of_ble_eq_true rfl) dX4_leave_101 (fun M4 => ?_)
          refine g_iload_n (pc := 104) F 1 dX4_leave_104 rfl ?_
          refine g_istore (pc := 105) F [(0, .ref (ad (13 * pp + 8))), (1, .int a1), (2, .int a2), (3, .int v3), (4, .int v3), (5, .int a1)] dX4_leave_105 (by decide) rfl rfl rfl ?_
          refine w_X4_leave_L107 fu pp a1 a2 v3 v3 hpp F hr hlk _ (fun M7 y8 => ?_) _ _ _
          refine g_aload_n (pc := 126) F 0 dX4_leave_126 rfl ?_
          refine g_iconst (pc := 127) (v := 1) F dX4_leave_127 (by decide) ?_
          refine g_put (pc := 128) (k := 13 * pp + 8) (ci := 4) (fs := (oX4 ad (pp))) (C := RX4) (T := TX4) (N := 14) F (P_lt hpp (by decide)) (sh_X4 hpp) rfl kiX4_leave_X4 tyX4 tyX4_ok nmX4 7 (by decide) klX4_leave_70 rfl rfl rfl rfl (fun _ => rfl) (Nat.le_of_ble_eq_true rfl) dX4_leave_128 (fun M9 => ?_)
          refine g_iload_n (pc := 131) F 1 dX4_leave_131 rfl ?_
          refine g_istore (pc := 132) F [(0, .ref (ad (13 * pp + 8))), (1, .int a1), (2, .int a2), (3, .int v3), (4, .int v3), (5, .int a1)] dX4_leave_132 (by decide) rfl rfl rfl ?_
          refine g_sub [0, 2, 3, 4, 5] [(0, .ref (ad (13 * pp + 8))), (2, .int a2), (3, .int v3), (4, .int v3), (5, .int a1)] rfl ?_
          refine w_X4_leave_L134 fu pp a2 v3 v3 hpp F hr hlk _ (fun M12 y13 => ?_) _ _ _
          exact g_vret (pc := 160) F hr hlk dX4_leave_160
        · refine g_aload_n (pc := 80) F 0 dX4_leave_80 rfl ?_
          refine g_get (pc := 81) (v := .int (M2 (13 * pp + 8) 9)) (k := 13 * pp + 8) (ci := 4) (fs := (oX4 ad (pp))) (C := RX4) (T := TX4) (N := 14) F (P_lt hpp (by decide)) (sh_X4 hpp) rfl kiX4_leave_X4 9 (by decide) klX4_leave_94 rfl rfl dX4_leave_81 ?_
          refine g_iconst (pc := 84) (v := 1) F dX4_leave_84 (by decide) ?_
          refine g_iadd (pc := 85) F dX4_leave_85 ?_
          refine g_aload_n (pc := 86) F 0 dX4_leave_86 rfl ?_
          refine g_get (pc := 87) (v := .int (M2 (13 * pp + 8) 13)) (k := 13 * pp + 8) (ci := 4) (fs := (oX4 ad (pp))) (C := RX4) (T := TX4) (N := 14) F (P_lt hpp (by decide)) (sh_X4 hpp) rfl kiX4_leave_X4 13 (by decide) klX4_leave_91 rfl rfl dX4_leave_87 ?_
          refine g_mmax (pc := 90) (x := (M2 (13 * pp + 8) 9) + (1 : Int32)) (y := M2 (13 * pp + 8) 13) (st := []) F kwX4_leave_max0 kwX4_leave_max1 kwX4_leave_m2 kwX4_leave_max3 (by decide) (Nat.le_of_ble_eq_true rfl) ⟨Nat.zero_le _, Nat.zero_le _⟩ dX4_leave_90 ?_
          refine g_goto (pc := 93) F 97 dX4_leave_93 (by decide) ?_
          refine g_nm (fun v14 => ?_)
          refine g_istore (pc := 97) F [(0, .ref (ad (13 * pp + 8))), (1, .int a1), (2, .int a2), (3, .int v3), (4, .int v14)] dX4_leave_97 (by decide) rfl rfl rfl ?_
          refine g_aload_n (pc := 99) F 0 dX4_leave_99 rfl ?_
          refine g_iconst (pc := 100) (v := 1) F dX4_leave_100 (by decide) ?_
          refine g_put (pc := 101) (k := 13 * pp + 8) (ci := 4) (fs := (oX4 ad (pp))) (C := RX4) (T := TX4) (N := 14) F (P_lt hpp (by decide)) (sh_X4 hpp) rfl kiX4_leave_X4 tyX4 tyX4_ok nmX4 7 (by decide) klX4_leave_70 rfl rfl rfl rfl (fun _ => rfl) (Nat.le_of_ble_eq_true rfl) dX4_leave_101 (fun M15 => ?_)
          refine g_iload_n (pc := 104) F 1 dX4_leave_104 rfl ?_
          refine g_istore (pc := 105) F [(0, .ref (ad (13 * pp + 8))), (1, .int a1), (2, .int a2), (3, .int v3), (4, .int v14), (5, .int a1)] dX4_leave_105 (by decide) rfl rfl rfl ?_
          refine w_X4_leave_L107 fu pp a1 a2 v3 v14 hpp F hr hlk _ (fun M16 y17 => ?_) _ _ _
          refine g_aload_n (pc := 126) F 0 dX4_leave_126 rfl ?_
          refine g_iconst (pc := 127) (v := 1) F dX4_leave_127 (by decide) ?_
          refine g_put (pc := 128) (k := 13 * pp + 8) (ci := 4) (fs := (oX4 ad (pp))) (C := RX4) (T := TX4) (N := 14) F (P_lt hpp (by decide)) (sh_X4 hpp) rfl kiX4_leave_X4 tyX4 tyX4_ok nmX4 7 (by decide) klX4_leave_70 rfl rfl rfl rfl (fun _ => rfl) (Nat.le_of_ble_eq_true rfl) dX4_leave_128 (fun M18 => ?_)
          refine g_iload_n (pc := 131) F 1 dX4_leave_131 rfl ?_
          refine g_istore (pc := 132) F [(0, .ref (ad (13 * pp + 8))), (1, .int a1), (2, .int a2), (3, .int v3), (4, .int v14), (5, .int a1)] dX4_leave_132 (by decide) rfl rfl rfl ?_
          refine g_sub [0, 2, 3, 4, 5] [(0, .ref (ad (13 * pp + 8))), (2, .int a2), (3, .int v3), (4, .int v14), (5, .int a1)] rfl ?_
          refine w_X4_leave_L134 fu pp a2 v3 v14 hpp F hr hlk _ (fun M19 y20 => ?_) _ _ _
          exact g_vret (pc := 160) F hr hlk dX4_leave_160
      · refine g_aload_n (pc := 49) F 0 dX4_leave_49 rfl ?_
        refine g_get (pc := 50) (v := .int (M2 (13 * pp + 8) 9)) (k := 13 * pp + 8) (ci := 4) (fs := (oX4 ad (pp))) (C := RX4) (T := TX4) (N := 14) F (P_lt hpp (by decide)) (sh_X4 hpp) rfl kiX4_leave_X4 9 (by decide) klX4_leave_94 rfl rfl dX4_leave_50 ?_
        refine g_iconst (pc := 53) (v := 1) F dX4_leave_53 (by decide) ?_
        refine g_iadd (pc := 54) F dX4_leave_54 ?_
        refine g_aload_n (pc := 55) F 0 dX4_leave_55 rfl ?_
        refine g_get (pc := 56) (v := .int (M2 (13 * pp + 8) 13)) (k := 13 * pp + 8) (ci := 4) (fs := (oX4 ad (pp))) (C := RX4) (T := TX4) (N := 14) F (P_lt hpp (by decide)) (sh_X4 hpp) rfl kiX4_leave_X4 13 (by decide) klX4_leave_91 rfl rfl dX4_leave_56 ?_
        refine g_mmin (pc := 59) (x := (M2 (13 * pp + 8) 9) + (1 : Int32)) (y := M2 (13 * pp + 8) 13) (st := []) F kwX4_leave_min0 kwX4_leave_min1 kwX4_leave_m2 kwX4_leave_min3 (by decide) (Nat.le_of_ble_eq_true rfl) ⟨Nat.zero_le _, Nat.zero_le _⟩ dX4_leave_59 ?_
        refine g_goto (pc := 62) F 71 dX4_leave_62 (by decide) ?_
        refine g_nm (fun v21 => ?_)
        refine g_istore_n (pc := 71) F [(0, .ref (ad (13 * pp + 8))), (1, .int a1), (2, .int a2), (3, .int v21)] dX4_leave_71 (by decide) rfl rfl rfl ?_
        refine g_aload_n (pc := 72) F 0 dX4_leave_72 rfl ?_
        refine g_get (pc := 73) (v := .int (M2 (13 * pp + 8) 10)) (k := 13 * pp + 8) (ci := 4) (fs := (oX4 ad (pp))) (C := RX4) (T := TX4) (N := 14) F (P_lt hpp (by decide)) (sh_X4 hpp) rfl kiX4_leave_X4 10 (by decide) klX4_leave_88 rfl rfl dX4_leave_73 ?_
        refine g_iconst (pc := 76) (v := 5) F dX4_leave_76 (by decide) ?_
        refine g_icmp_ne (pc := 77) F 96 dX4_leave_77 (by decide) ?_ ?_
        · refine g_iload_n (pc := 96) F 3 dX4_leave_96 rfl ?_
          refine g_istore (pc := 97) F [(0, .ref (ad (13 * pp + 8))), (1, .int a1), (2, .int a2), (3, .int v21), (4, .int v21)] dX4_leave_97 (by decide) rfl rfl rfl ?_
          refine g_aload_n (pc := 99) F 0 dX4_leave_99 rfl ?_
          refine g_iconst (pc := 100) (v := 1) F dX4_leave_100 (by decide) ?_
          refine g_put (pc := 101) (k := 13 * pp + 8) (ci := 4) (fs := (oX4 ad (pp))) (C := RX4) (T := TX4) (N := 14) F (P_lt hpp (by decide)) (sh_X4 hpp) rfl kiX4_leave_X4 tyX4 tyX4_ok nmX4 7 (by decide) klX4_leave_70 rfl rfl rfl rfl (fun _ => rfl) (Nat.le_of_ble_eq_true rfl) dX4_leave_101 (fun M22 => ?_)
          refine g_iload_n (pc := 104) F 1 dX4_leave_104 rfl ?_
          refine g_istore (pc := 105) F [(0, .ref (ad (13 * pp + 8))), (1, .int a1), (2, .int a2), (3, .int v21), (4, .int v21), (5, .int a1)] dX4_leave_105 (by decide) rfl rfl rfl ?_
          refine w_X4_leave_L107 fu pp a1 a2 v21 v21 hpp F hr hlk _ (fun M23 y24 => ?_) _ _ _
          refine g_aload_n (pc := 126) F 0 dX4_leave_126 rfl ?_
          refine g_iconst (pc := 127) (v := 1) F dX4_leave_127 (by decide) ?_
          refine g_put (pc := 128) (k := 13 * pp + 8) (ci := 4) (fs := (oX4 ad (pp))) (C := RX4) (T := TX4) (N := 14) F (P_lt hpp (by decide)) (sh_X4 hpp) rfl kiX4_leave_X4 tyX4 tyX4_ok nmX4 7 (by decide) klX4_leave_70 rfl rfl rfl rfl (fun _ => rfl) (Nat.le_of_ble_eq_true rfl) dX4_leave_128 (fun M25 => ?_)
          refine g_iload_n (pc := 131) F 1 dX4_leave_131 rfl ?_
          refine g_istore (pc := 132) F [(0, .ref (ad (13 * pp + 8))), (1, .int a1), (2, .int a2), (3, .int v21), (4, .int v21), (5, .int a1)] dX4_leave_132 (by decide) rfl rfl rfl ?_
          refine g_sub [0, 2, 3, 4, 5] [(0, .ref (ad (13 * pp + 8))), (2, .int a2), (3, .int v21), (4, .int v21), (5, .int a1)] rfl ?_
          refine w_X4_leave_L134 fu pp a2 v21 v21 hpp F hr hlk _ (fun M26 y27 => ?_) _ _ _
          exact g_vret (pc := 160) F hr hlk dX4_leave_160
        · refine g_aload_n (pc := 80) F 0 dX4_leave_80 rfl ?_
          refine g_get (pc := 81) (v := .int (M2 (13 * pp + 8) 9)) (k := 13 * pp + 8) (ci := 4) (fs := (oX4 ad (pp))) (C := RX4) (T := TX4) (N := 14) F (P_lt hpp (by decide)) (sh_X4 hpp) rfl kiX4_leave_X4 9 (by decide) klX4_leave_94 rfl rfl dX4_leave_81 ?_
          refine g_iconst (pc := 84) (v := 1) F dX4_leave_84 (by decide) ?_
          refine g_iadd (pc := 85) F dX4_leave_85 ?_
          refine g_aload_n (pc := 86) F 0 dX4_leave_86 rfl ?_
          refine g_get (pc := 87) (v := .int (M2 (13 * pp + 8) 13)) (k := 13 * pp + 8) (ci := 4) (fs := (oX4 ad (pp))) (C := RX4) (T := TX4) (N := 14) F (P_lt hpp (by decide)) (sh_X4 hpp) rfl kiX4_leave_X4 13 (by decide) klX4_leave_91 rfl rfl dX4_leave_87 ?_
          refine g_mmax (pc := 90) (x := (M2 (13 * pp + 8) 9) + (1 : Int32)) (y := M2 (13 * pp + 8) 13) (st := []) F kwX4_leave_max0 kwX4_leave_max1 kwX4_leave_m2 kwX4_leave_max3 (by decide) (Nat.le_of_ble_eq_true rfl) ⟨Nat.zero_le _, Nat.zero_le _⟩ dX4_leave_90 ?_
          refine g_goto (pc := 93) F 97 dX4_leave_93 (by decide) ?_
          refine g_nm (fun v28 => ?_)
          refine g_istore (pc := 97) F [(0, .ref (ad (13 * pp + 8))), (1, .int a1), (2, .int a2), (3, .int v21), (4, .int v28)] dX4_leave_97 (by decide) rfl rfl rfl ?_
          refine g_aload_n (pc := 99) F 0 dX4_leave_99 rfl ?_
          refine g_iconst (pc := 100) (v := 1) F dX4_leave_100 (by decide) ?_
          refine g_put (pc := 101) (k := 13 * pp + 8) (ci := 4) (fs := (oX4 ad (pp))) (C := RX4) (T := TX4) (N := 14) F (P_lt hpp (by decide)) (sh_X4 hpp) rfl kiX4_leave_X4 tyX4 tyX4_ok nmX4 7 (by decide) klX4_leave_70 rfl rfl rfl rfl (fun _ => rfl) (Nat.le_of_ble_eq_true rfl) dX4_leave_101 (fun M29 => ?_)
          refine g_iload_n (pc := 104) F 1 dX4_leave_104 rfl ?_
          refine g_istore (pc := 105) F [(0, .ref (ad (13 * pp + 8))), (1, .int a1), (2, .int a2), (3, .int v21), (4, .int v28), (5, .int a1)] dX4_leave_105 (by decide) rfl rfl rfl ?_
          refine w_X4_leave_L107 fu pp a1 a2 v21 v28 hpp F hr hlk _ (fun M30 y31 => ?_) _ _ _
          refine g_aload_n (pc := 126) F 0 dX4_leave_126 rfl ?_
          refine g_iconst (pc := 127) (v := 1) F dX4_leave_127 (by decide) ?_
          refine g_put (pc := 128) (k := 13 * pp + 8) (ci := 4) (fs := (oX4 ad (pp))) (C := RX4) (T := TX4) (N := 14) F (P_lt hpp (by decide)) (sh_X4 hpp) rfl kiX4_leave_X4 tyX4 tyX4_ok nmX4 7 (by decide) klX4_leave_70 rfl rfl rfl rfl (fun _ => rfl) (Nat.le_of_ble_eq_true rfl) dX4_leave_128 (fun M32 => ?_)
          refine g_iload_n (pc := 131) F 1 dX4_leave_131 rfl ?_
          refine g_istore (pc := 132) F [(0, .ref (ad (13 * pp + 8))), (1, .int a1), (2, .int a2), (3, .int v21), (4, .int v28), (5, .int a1)] dX4_leave_132 (by decide) rfl rfl rfl ?_
          refine g_sub [0, 2, 3, 4, 5] [(0, .ref (ad (13 * pp + 8))), (2, .int a2), (3, .int v21), (4, .int v28), (5, .int a1)] rfl ?_
          refine w_X4_leave_L134 fu pp a2 v21 v28 hpp F hr hlk _ (fun M33 y34 => ?_) _ _ _
          exact g_vret (pc := 160) F hr hlk dX4_leave_160
    · refine g_aload_n (pc := 34) F 0 dX4_leave_34 rfl ?_
      refine g_get (pc := 35) (v := .int (M2 (13 * pp + 8) 13)) (k := 13 * pp + 8) (ci := 4) (fs := (oX4 ad (pp))) (C := RX4) (T := TX4) (N := 14) F (P_lt hpp (by decide)) (sh_X4 hpp) rfl kiX4_leave_X4 13 (by decide) klX4_leave_91 rfl rfl dX4_leave_35 ?_
      refine g_goto (pc := 38) F 71 dX4_leave_38 (by decide) ?_
      refine g_nm (fun v35 => ?_)
      refine g_istore_n (pc := 71) F [(0, .ref (ad (13 * pp + 8))), (1, .int a1), (2, .int a2), (3, .int v35)] dX4_leave_71 (by decide) rfl rfl rfl ?_
      refine g_aload_n (pc := 72) F 0 dX4_leave_72 rfl ?_
      refine g_get (pc := 73) (v := .int (M2 (13 * pp + 8) 10)) (k := 13 * pp + 8) (ci := 4) (fs := (oX4 ad (pp))) (C := RX4) (T := TX4) (N := 14) F (P_lt hpp (by decide)) (sh_X4 hpp) rfl kiX4_leave_X4 10 (by decide) klX4_leave_88 rfl rfl dX4_leave_73 ?_
      refine g_iconst (pc := 76) (v := 5) F dX4_leave_76 (by decide) ?_
      refine g_icmp_ne (pc := 77) F 96 dX4_leave_77 (by decide) ?_ ?_
      · refine g_iload_n (pc := 96) F 3 dX4_leave_96 rfl ?_
        refine g_istore (pc := 97) F [(0, .ref (ad (13 * pp + 8))), (1, .int a1), (2, .int a2), (3, .int v35), (4, .int v35)] dX4_leave_97 (by decide) rfl rfl rfl ?_
        refine g_aload_n (pc := 99) F 0 dX4_leave_99 rfl ?_
        refine g_iconst (pc := 100) (v := 1) F dX4_leave_100 (by decide) ?_
        refine g_put (pc := 101) (k := 13 * pp + 8) (ci := 4) (fs := (oX4 ad (pp))) (C := RX4) (T := TX4) (N := 14) F (P_lt hpp (by decide)) (sh_X4 hpp) rfl kiX4_leave_X4 tyX4 tyX4_ok nmX4 7 (by decide) klX4_leave_70 rfl rfl rfl rfl (fun _ => rfl) (Nat.le_of_ble_eq_true rfl) dX4_leave_101 (fun M36 => ?_)
        refine g_iload_n (pc := 104) F 1 dX4_leave_104 rfl ?_
        refine g_istore (pc := 105) F [(0, .ref (ad (13 * pp + 8))), (1, .int a1), (2, .int a2), (3, .int v35), (4, .int v35), (5, .int a1)] dX4_leave_105 (by decide) rfl rfl rfl ?_
        refine w_X4_leave_L107 fu pp a1 a2 v35 v35 hpp F hr hlk _ (fun M37 y38 => ?_) _ _ _
        refine g_aload_n (pc := 126) F 0 dX4_leave_126 rfl ?_
        refine g_iconst (pc := 127) (v := 1) F dX4_leave_127 (by decide) ?_
        refine g_put (pc := 128) (k := 13 * pp + 8) (ci := 4) (fs := (oX4 ad (pp))) (C := RX4) (T := TX4) (N := 14) F (P_lt hpp (by decide)) (sh_X4 hpp) rfl kiX4_leave_X4 tyX4 tyX4_ok nmX4 7 (by decide) klX4_leave_70 rfl rfl rfl rfl (fun _ => rfl) (Nat.le_of_ble_eq_true rfl) dX4_leave_128 (fun M39 => ?_)
        refine g_iload_n (pc := 131) F 1 dX4_leave_131 rfl ?_
        refine g_istore (pc := 132) F [(0, .ref (ad (13 * pp + 8))), (1, .int a1), (2, .int a2), (3, .int v35), (4, .int v35), (5, .int a1)] dX4_leave_132 (by decide) rfl rfl rfl ?_
        refine g_sub [0, 2, 3, 4, 5] [(0, .ref (ad (13 * pp + 8))), (2, .int a2), (3, .int v35), (4, .int v35), (5, .int a1)] rfl ?_
        refine w_X4_leave_L134 fu pp a2 v35 v35 hpp F hr hlk _ (fun M40 y41 => ?_) _ _ _
        exact g_vret (pc := 160) F hr hlk dX4_leave_160
      · refine g_aload_n (pc := 80) F 0 dX4_leave_80 rfl ?_
        refine g_get (pc := 81) (v := .int (M2 (13 * pp + 8) 9)) (k := 13 * pp + 8) (ci := 4) (fs := (oX4 ad (pp))) (C := RX4) (T := TX4) (N := 14) F (P_lt hpp (by decide)) (sh_X4 hpp) rfl kiX4_leave_X4 9 (by decide) klX4_leave_94 rfl rfl dX4_leave_81 ?_
        refine g_iconst (pc := 84) (v := 1) F dX4_leave_84 (by decide) ?_
        refine g_iadd (pc := 85) F dX4_leave_85 ?_
        refine g_aload_n (pc := 86) F 0 dX4_leave_86 rfl ?_
        refine g_get (pc := 87) (v := .int (M2 (13 * pp + 8) 13)) (k := 13 * pp + 8) (ci := 4) (fs := (oX4 ad (pp))) (C := RX4) (T := TX4) (N := 14) F (P_lt hpp (by decide)) (sh_X4 hpp) rfl kiX4_leave_X4 13 (by decide) klX4_leave_91 rfl rfl dX4_leave_87 ?_
        refine g_mmax (pc := 90) (x := (M2 (13 * pp + 8) 9) + (1 : Int32)) (y := M2 (13 * pp + 8) 13) (st := []) F kwX4_leave_max0 kwX4_leave_max1 kwX4_leave_m2 kwX4_leave_max3 (by decide) (Nat.le_of_ble_eq_true rfl) ⟨Nat.zero_le _, Nat.zero_le _⟩ dX4_leave_90 ?_
        refine g_goto (pc := 93) F 97 dX4_leave_93 (by decide) ?_
        refine g_nm (fun v42 => ?_)
        refine g_istore (pc := 97) F [(0, .ref (ad (13 * pp + 8))), (1, .int a1), (2, .int a2), (3, .int v35), (4, .int v42)] dX4_leave_97 (by decide) rfl rfl rfl ?_
        refine g_aload_n (pc := 99) F 0 dX4_leave_99 rfl ?_
        refine g_iconst (pc := 100) (v := 1) F dX4_leave_100 (by decide) ?_
        refine g_put (pc := 101) (k := 13 * pp + 8) (ci := 4) (fs := (oX4 ad (pp))) (C := RX4) (T := TX4) (N := 14) F (P_lt hpp (by decide)) (sh_X4 hpp) rfl kiX4_leave_X4 tyX4 tyX4_ok nmX4 7 (by decide) klX4_leave_70 rfl rfl rfl rfl (fun _ => rfl) (Nat.le_of_ble_eq_true rfl) dX4_leave_101 (fun M43 => ?_)
        refine g_iload_n (pc := 104) F 1 dX4_leave_104 rfl ?_
        refine g_istore (pc := 105) F [(0, .ref (ad (13 * pp + 8))), (1, .int a1), (2, .int a2), (3, .int v35), (4, .int v42), (5, .int a1)] dX4_leave_105 (by decide) rfl rfl rfl ?_
        refine w_X4_leave_L107 fu pp a1 a2 v35 v42 hpp F hr hlk _ (fun M44 y45 => ?_) _ _ _
        refine g_aload_n (pc := 126) F 0 dX4_leave_126 rfl ?_
        refine g_iconst (pc := 127) (v := 1) F dX4_leave_127 (by decide) ?_
        refine g_put (pc := 128) (k := 13 * pp + 8) (ci := 4) (fs := (oX4 ad (pp))) (C := RX4) (T := TX4) (N := 14) F (P_lt hpp (by decide)) (sh_X4 hpp) rfl kiX4_leave_X4 tyX4 tyX4_ok nmX4 7 (by decide) klX4_leave_70 rfl rfl rfl rfl (fun _ => rfl) (Nat.le_of_ble_eq_true rfl) dX4_leave_128 (fun M46 => ?_)
        refine g_iload_n (pc := 131) F 1 dX4_leave_131 rfl ?_
        refine g_istore (pc := 132) F [(0, .ref (ad (13 * pp + 8))), (1, .int a1), (2, .int a2), (3, .int v35), (4, .int v42), (5, .int a1)] dX4_leave_132 (by decide) rfl rfl rfl ?_
        refine g_sub [0, 2, 3, 4, 5] [(0, .ref (ad (13 * pp + 8))), (2, .int a2), (3, .int v35), (4, .int v42), (5, .int a1)] rfl ?_
        refine w_X4_leave_L134 fu pp a2 v35 v42 hpp F hr hlk _ (fun M47 y48 => ?_) _ _ _
        exact g_vret (pc := 160) F hr hlk dX4_leave_160
  · exact g_vret (pc := 24) F hr hlk dX4_leave_24
-- X6_clear
def rmX6_clear : Room := { frames := 1, cells := 0, slots := 0, locals := 23 }
def f_X6_clear (fu : Nat) (M : Mem) : Option (Int32 × Mem) := bnd (f_J7_fill_53178 fu 56 1536 0 M) (fun r1 M2 => bnd (f_J7_fill_53178 fu 57 48 0 M2) (fun r3 M4 => some (0, M4)))
set_option maxRecDepth 20000 in
theorem kiX6_clear_X6 : ∀ w ∈ u_ws RX6 TX6 3, w ∈ wsX6_clear := by decide +kernel
set_option maxRecDepth 20000 in
theorem klX6_clear_18 : Cond.fieldLink RX6 18 "DoorLister$Scratch" "gone" "[I" ∈ wsX6_clear := by decide +kernel
set_option maxRecDepth 20000 in
theorem klX6_clear_21 : Cond.fieldLink RX6 21 "DoorLister$Scratch" "given" "[I" ∈ wsX6_clear := by decide +kernel
set_option maxHeartbeats 4000000 in
set_option maxRecDepth 100000 in
theorem c_X6_clear (l : Launch) (D : va_G) (ad : Nat → Nat) (cs : Cs) (hi : Inj ad) (fu : Nat) (M : Mem) : MV l yX6_clear wsX6_clear rmX6_clear D ad cs [.ref (ad (54))] M (f_X6_clear fu M) := by
  refine Mx.of (cc := cX6_clear) (maxL := 1) (ret := none) (own := RX6) (lv := [(0, .ref (ad (54)))]) (by decide) rfl rfl (Nat.le_of_ble_eq_true rfl) rfl hi ?_
  intro p e s m below meth c F hr hlk
  unfold f_X6_clear
  refine g_aload_n (pc := 0) F 0 dX6_clear_0 rfl ?_
  refine g_get (pc := 1) (v := .ref (ad (56))) (k := 54) (ci := 6) (fs := (oX6 ad)) (C := RX6) (T := TX6) (N := 3) F (by decide) (fun _ => rfl) rfl kiX6_clear_X6 1 (by decide) klX6_clear_18 rfl rfl dX6_clear_1 ?_
  refine g_iconst (pc := 4) (v := 0) F dX6_clear_4 (by decide) ?_
  refine g_sv (pc := 5) (As := [.ref (ad (56)), .int 0]) (st := []) F (c_J7_fill_53178 l D ad cs F.2.2.1 fu 56 1536 0 (by decide) (fun _ => rfl) M) (va_cwS 2 F.1.2.2.2.2 gX6_clear_J7_fill_53178 rfl rfl rfl hdS_J7_fill_53178 ⟨by decide, by decide⟩) rfl rfl (Nat.le_of_ble_eq_true rfl) dX6_clear_5 ⟨Nat.zero_le _, Nat.zero_le _⟩ (fun r1 M2 => ?_)
  refine g_aload_n (pc := 8) F 0 dX6_clear_8 rfl ?_
  refine g_get (pc := 9) (v := .ref (ad (57))) (k := 54) (ci := 6) (fs := (oX6 ad)) (C := RX6) (T := TX6) (N := 3) F (by decide) (fun _ => rfl) rfl kiX6_clear_X6 2 (by decide) klX6_clear_21 rfl rfl dX6_clear_9 ?_
  refine g_iconst (pc := 12) (v := 0) F dX6_clear_12 (by decide) ?_
  refine g_sv (pc := 13) (As := [.ref (ad (57)), .int 0]) (st := []) F (c_J7_fill_53178 l D ad cs F.2.2.1 fu 57 48 0 (by decide) (fun _ => rfl) M2) (va_cwS 2 F.1.2.2.2.2 gX6_clear_J7_fill_53178 rfl rfl rfl hdS_J7_fill_53178 ⟨by decide, by decide⟩) rfl rfl (Nat.le_of_ble_eq_true rfl) dX6_clear_13 ⟨Nat.zero_le _, Nat.zero_le _⟩ (fun r3 M4 => ?_)
  exact g_vret (pc := 16) F hr hlk dX6_clear_16
