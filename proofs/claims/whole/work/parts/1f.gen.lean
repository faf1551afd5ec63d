/-! Written by wip/whole/gen.py: pure functions of methods, and the walks that tie the bytecode to them. -/
-- X4_step
def rmX4_step : Room := { frames := 3, cells := 0, slots := 0, locals := 78 }
def f_X4_step (fu : Nat) (pp : Nat) (a1 : Int32) (a2 : Int32) (M : Mem) : Option (Int32 × Mem) := if ix a1 49152 then nm (M (13 * pp + 9) a1.toNatClampNeg) (fun v1 => nm ((usr v1 (10 : Int32)) &&& (1 : Int32)) (fun v2 => nm (v1 &&& (31 : Int32)) (fun v3 => bnd (f_X6_mask a1 M) (fun r4 M5 => nm (M5 (13 * pp + 8) 10) (fun v6 => if v6 = 5 then bnd (f_X4_goingTo pp a2 v3 r4 M5) (fun r8 M9 => bnd (f_X4_push pp a1 v2 a2 v3 r8 M9) (fun r10 M11 => some (0, M11))) else if v6 = 6 then bnd (f_X4_push pp a1 v2 a2 v3 r4 M5) (fun r13 M14 => some (0, M14)) else if v6 = 7 then bnd (f_X4_note fu pp a1 v2 v3 r4 M5) (fun r16 M17 => bnd (f_X4_push pp a1 v2 a2 v3 r4 M17) (fun r18 M19 => some (0, M19))) else if v6 = 8 then bnd (f_X4_push pp a1 1 a2 v3 r4 M5) (fun r21 M22 => some (0, M22)) else if (M5 (13 * pp + 8) 11) = 1 then bnd (f_X4_secondAfter fu pp v3 r4 M5) (fun r33 M34 => bnd (f_X4_push pp a1 v2 a2 v3 r33 M34) (fun r35 M36 => some (0, M36))) else if (M5 (13 * pp + 8) 10) = 3 then bnd (f_X6_give v2 (M5 (13 * pp + 8) 9) r4 M5) (fun r29 M30 => bnd (f_X4_pushAll fu pp a1 v2 a2 r29 M30) (fun r31 M32 => some (0, M32))) else if (M5 (13 * pp + 8) 10) = 2 then bnd (f_X4_pushEqual fu pp a1 v2 a2 r4 M5) (fun r27 M28 => some (0, M28)) else bnd (f_X4_firstAfter pp v3 M5) (fun r23 M24 => bnd (f_X4_push pp a1 v2 a2 r23 r4 M24) (fun r25 M26 => some (0, M26)))))))) else none
set_option maxRecDepth 20000 in
theorem kiX4_step_X4 : ∀ w ∈ u_ws RX4 TX4 14, w ∈ wsX4_step := by decide +kernel
set_option maxRecDepth 20000 in
theorem klX4_step_12 : Cond.fieldLink RX4 12 "DoorLister$Paths" "links" "[I" ∈ wsX4_step := by decide +kernel
set_option maxRecDepth 20000 in
theorem klX4_step_30 : Cond.fieldLink RX4 30 "DoorLister$Paths" "scratch" "LDoorLister$Scratch;" ∈ wsX4_step := by decide +kernel
set_option maxRecDepth 20000 in
theorem klX4_step_88 : Cond.fieldLink RX4 88 "DoorLister$Paths" "kind" "I" ∈ wsX4_step := by decide +kernel
set_option maxRecDepth 20000 in
theorem klX4_step_115 : Cond.fieldLink RX4 115 "DoorLister$Paths" "x" "I" ∈ wsX4_step := by decide +kernel
set_option maxRecDepth 20000 in
theorem klX4_step_94 : Cond.fieldLink RX4 94 "DoorLister$Paths" "at" "I" ∈ wsX4_step := by decide +kernel
set_option maxHeartbeats 4000000 in
set_option maxRecDepth 100000 in
theorem c_X4_step (l : Launch) (D : va_G) (ad : Nat → Nat) (cs : Cs) (hi : Inj ad) (fu : Nat) (pp : Nat) (a1 : Int32) (a2 : Int32) (hpp : pp < 4) (M : Mem) : MV l yX4_step wsX4_step rmX4_step D ad cs [.ref (ad (13 * pp + 8)), .int a1, .int a2] M (f_X4_step fu pp a1 a2 M) := by
  refine Mx.of (cc := cX4_step) (maxL := 7) (ret := none) (own := RX4) (lv := [(0, .ref (ad (13 * pp + 8))), (1, .int a1), (2, .int a2)]) (by decide) rfl rfl (Nat.le_of_ble_eq_true rfl) rfl hi ?_
  intro p e s m below meth c F hr hlk
  unfold f_X4_step
  refine g_aload_n (pc := 0) F 0 dX4_step_0 rfl ?_
  refine g_get (pc := 1) (v := .ref (ad (13 * pp + 9))) (k := 13 * pp + 8) (ci := 4) (fs := (oX4 ad (pp))) (C := RX4) (T := TX4) (N := 14) F (P_lt hpp (by decide)) (sh_X4 hpp) rfl kiX4_step_X4 2 (by decide) klX4_step_12 rfl rfl dX4_step_1 ?_
  refine g_iload_n (pc := 4) F 1 dX4_step_4 rfl ?_
  refine g_iald (pc := 5) (k := 13 * pp + 9) (n := 49152) F (P_lt hpp (by decide)) (sh_a9 hpp) dX4_step_5 ?_
  refine g_nm (fun v1 => ?_)
  refine g_istore_n (pc := 6) F [(0, .ref (ad (13 * pp + 8))), (1, .int a1), (2, .int a2), (3, .int v1)] dX4_step_6 (by decide) rfl rfl rfl ?_
  refine g_iload_n (pc := 7) F 3 dX4_step_7 rfl ?_
  refine g_bipush (pc := 8) (v := 10) F dX4_step_8 (by decide) ?_
  refine g_iushr (pc := 10) F dX4_step_10 ?_
  refine g_iconst (pc := 11) (v := 1) F dX4_step_11 (by decide) ?_
  refine g_iand (pc := 12) F dX4_step_12 ?_
  refine g_nm (fun v2 => ?_)
  refine g_istore (pc := 13) F [(0, .ref (ad (13 * pp + 8))), (1, .int a1), (2, .int a2), (3, .int v1), (4, .int v2)] dX4_step_13 (by decide) rfl rfl rfl ?_
  refine g_iload_n (pc := 15) F 3 dX4_step_15 rfl ?_
  refine g_bipush (pc := 16) (v := 31) F dX4_step_16 (by decide) ?_
  refine g_iand (pc := 18) F dX4_step_18 ?_
  refine g_nm (fun v3 => ?_)
  refine g_istore (pc := 19) F [(0, .ref (ad (13 * pp + 8))), (1, .int a1), (2, .int a2), (3, .int v1), (4, .int v2), (5, .int v3)] dX4_step_19 (by decide) rfl rfl rfl ?_
  refine g_aload_n (pc := 21) F 0 dX4_step_21 rfl ?_
  refine g_get (pc := 22) (v := .ref (ad (54))) (k := 13 * pp + 8) (ci := 4) (fs := (oX4 ad (pp))) (C := RX4) (T := TX4) (N := 14) F (P_lt hpp (by decide)) (sh_X4 hpp) rfl kiX4_step_X4 1 (by decide) klX4_step_30 rfl rfl dX4_step_22 ?_
  refine g_iload_n (pc := 25) F 1 dX4_step_25 rfl ?_
  refine g_vi (pc := 26) (k := 54) (ci := 6) (fs := (oX6 ad)) (C := RX6) (T := TX6) (N := 3) (As := [.int a1]) (st := []) F (c_X6_mask l D ad cs F.2.2.1 a1 M) (by decide) (fun _ => rfl) rfl (cwV 1 F.1.2.2.2.2 gX4_step_X6_mask rfl rfl rfl hdV_X6_mask ⟨by decide, by decide⟩) rfl rfl (Nat.le_of_ble_eq_true rfl) dX4_step_26 ⟨Nat.zero_le _, Nat.zero_le _⟩ (fun r4 M5 => ?_)
  refine g_istore (pc := 29) F [(0, .ref (ad (13 * pp + 8))), (1, .int a1), (2, .int a2), (3, .int v1), (4, .int v2), (5, .int v3), (6, .int r4)] dX4_step_29 (by decide) rfl rfl rfl ?_
  refine g_aload_n (pc := 31) F 0 dX4_step_31 rfl ?_
  refine g_get (pc := 32) (v := .int (M5 (13 * pp + 8) 10)) (k := 13 * pp + 8) (ci := 4) (fs := (oX4 ad (pp))) (C := RX4) (T := TX4) (N := 14) F (P_lt hpp (by decide)) (sh_X4 hpp) rfl kiX4_step_X4 10 (by decide) klX4_step_88 rfl rfl dX4_step_32 ?_
  refine g_nm (fun v6 => ?_)
  refine g_case (v := 5) (fun _ => ?_) (fun n7 => ?_)
  · refine g_tab (pc := 35) (off := 29) F 64 dX4_step_35 (by decide) (by decide) (by decide) (by decide) ?_
    refine g_aload_n (pc := 64) F 0 dX4_step_64 rfl ?_
    refine g_iload_n (pc := 65) F 1 dX4_step_65 rfl ?_
    refine g_iload (pc := 66) F 4 dX4_step_66 rfl ?_
    refine g_iload_n (pc := 68) F 2 dX4_step_68 rfl ?_
    refine g_iload (pc := 69) F 5 dX4_step_69 rfl ?_
    refine g_aload_n (pc := 71) F 0 dX4_step_71 rfl ?_
    refine g_iload_n (pc := 72) F 2 dX4_step_72 rfl ?_
    refine g_iload (pc := 73) F 5 dX4_step_73 rfl ?_
    refine g_iload (pc := 75) F 6 dX4_step_75 rfl ?_
    refine g_vi (pc := 77) (k := 13 * pp + 8) (ci := 4) (fs := (oX4 ad (pp))) (C := RX4) (T := TX4) (N := 14) (As := [.int a2, .int v3, .int r4]) (st := [.int v3, .int a2, .int v2, .int a1, .ref (ad (13 * pp + 8))]) F (c_X4_goingTo l D ad cs F.2.2.1 pp a2 v3 r4 hpp M5) (P_lt hpp (by decide)) (sh_X4 hpp) rfl (cwV 3 F.1.2.2.2.2 gX4_step_X4_goingTo rfl rfl rfl hdV_X4_goingTo ⟨by decide, by decide⟩) rfl rfl (Nat.le_of_ble_eq_true rfl) dX4_step_77 ⟨Nat.zero_le _, Nat.zero_le _⟩ (fun r8 M9 => ?_)
    refine g_vv (pc := 80) (k := 13 * pp + 8) (ci := 4) (fs := (oX4 ad (pp))) (C := RX4) (T := TX4) (N := 14) (As := [.int a1, .int v2, .int a2, .int v3, .int r8]) (st := []) F (c_X4_push l D ad cs F.2.2.1 pp a1 v2 a2 v3 r8 hpp M9) (P_lt hpp (by decide)) (sh_X4 hpp) rfl (cwV 5 F.1.2.2.2.2 gX4_step_X4_push rfl rfl rfl hdV_X4_push ⟨by decide, by decide⟩) rfl rfl (Nat.le_of_ble_eq_true rfl) dX4_step_80 ⟨Nat.zero_le _, Nat.zero_le _⟩ (fun r10 M11 => ?_)
    exact g_vret (pc := 83) F hr hlk dX4_step_83
  refine g_case (v := 6) (fun _ => ?_) (fun n12 => ?_)
  · refine g_tab (pc := 35) (off := 49) F 84 dX4_step_35 (by decide) (by decide) (by decide) (by decide) ?_
    refine g_aload_n (pc := 84) F 0 dX4_step_84 rfl ?_
    refine g_iload_n (pc := 85) F 1 dX4_step_85 rfl ?_
    refine g_iload (pc := 86) F 4 dX4_step_86 rfl ?_
    refine g_iload_n (pc := 88) F 2 dX4_step_88 rfl ?_
    refine g_iload (pc := 89) F 5 dX4_step_89 rfl ?_
    refine g_iload (pc := 91) F 6 dX4_step_91 rfl ?_
    refine g_vv (pc := 93) (k := 13 * pp + 8) (ci := 4) (fs := (oX4 ad (pp))) (C := RX4) (T := TX4) (N := 14) (As := [.int a1, .int v2, .int a2, .int v3, .int r4]) (st := []) F (c_X4_push l D ad cs F.2.2.1 pp a1 v2 a2 v3 r4 hpp M5) (P_lt hpp (by decide)) (sh_X4 hpp) rfl (cwV 5 F.1.2.2.2.2 gX4_step_X4_push rfl rfl rfl hdV_X4_push ⟨by decide, by decide⟩) rfl rfl (Nat.le_of_ble_eq_true rfl) dX4_step_93 ⟨Nat.zero_le _, Nat.zero_le _⟩ (fun r13 M14 => ?_)
    exact g_vret (pc := 96) F hr hlk dX4_step_96
  refine g_case (v := 7) (fun _ => ?_) (fun n15 => ?_)
  · refine g_tab (pc := 35) (off := 62) F 97 dX4_step_35 (by decide) (by decide) (by decide) (by decide) ?_
    refine g_aload_n (pc := 97) F 0 dX4_step_97 rfl ?_
    refine g_iload_n (pc := 98) F 1 dX4_step_98 rfl ?_
    refine g_iload (pc := 99) F 4 dX4_step_99 rfl ?_
    refine g_iload (pc := 101) F 5 dX4_step_101 rfl ?_
    refine g_iload (pc := 103) F 6 dX4_step_103 rfl ?_
    refine g_vv (pc := 105) (k := 13 * pp + 8) (ci := 4) (fs := (oX4 ad (pp))) (C := RX4) (T := TX4) (N := 14) (As := [.int a1, .int v2, .int v3, .int r4]) (st := []) F (c_X4_note l D ad cs F.2.2.1 fu pp a1 v2 v3 r4 hpp M5) (P_lt hpp (by decide)) (sh_X4 hpp) rfl (cwV 4 F.1.2.2.2.2 gX4_step_X4_note rfl rfl rfl hdV_X4_note ⟨by decide, by decide⟩) rfl rfl (Nat.le_of_ble_eq_true rfl) dX4_step_105 ⟨Nat.zero_le _, Nat.zero_le _⟩ (fun r16 M17 => ?_)
    refine g_aload_n (pc := 108) F 0 dX4_step_108 rfl ?_
    refine g_iload_n (pc := 109) F 1 dX4_step_109 rfl ?_
    refine g_iload (pc := 110) F 4 dX4_step_110 rfl ?_
    refine g_iload_n (pc := 112) F 2 dX4_step_112 rfl ?_
    refine g_iload (pc := 113) F 5 dX4_step_113 rfl ?_
    refine g_iload (pc := 115) F 6 dX4_step_115 rfl ?_
    refine g_vv (pc := 117) (k := 13 * pp + 8) (ci := 4) (fs := (oX4 ad (pp))) (C := RX4) (T := TX4) (N := 14) (As := [.int a1, .int v2, .int a2, .int v3, .int r4]) (st := []) F (c_X4_push l D ad cs F.2.2.1 pp a1 v2 a2 v3 r4 hpp M17) (P_lt hpp (by decide)) (sh_X4 hpp) rfl (cwV 5 F.1.2.2.2.2 gX4_step_X4_push rfl rfl rfl hdV_X4_push ⟨by decide, by decide⟩) rfl rfl (Nat.le_of_ble_eq_true rfl) dX4_step_117 ⟨Nat.zero_le _, Nat.zero_le _⟩ (fun r18 M19 => ?_)
    exact g_vret (pc := 120) F hr hlk dX4_step_120
  refine g_case (v := 8) (fun _ => ?_) (fun n20 => ?_)
  · refine g_tab (pc := 35) (off := 86) F 121 dX4_step_35 (by decide) (by decide) (by decide) (by decide) ?_
    refine g_aload_n (pc := 121) F 0 dX4_step_121 rfl ?_
    refine g_iload_n (pc := 122) F 1 dX4_step_122 rfl ?_
    refine g_iconst (pc := 123) (v := 1) F dX4_step_123 (by decide) ?_
    refine g_iload_n (pc := 124) F 2 dX4_step_124 rfl ?_
    refine g_iload (pc := 125) F 5 dX4_step_125 rfl ?_
    refine g_iload (pc := 127) F 6 dX4_step_127 rfl ?_
    refine g_vv (pc := 129) (k := 13 * pp + 8) (ci := 4) (fs := (oX4 ad (pp))) (C := RX4) (T := TX4) (N := 14) (As := [.int a1, .int 1, .int a2, .int v3, .int r4]) (st := []) F (c_X4_push l D ad cs F.2.2.1 pp a1 1 a2 v3 r4 hpp M5) (P_lt hpp (by decide)) (sh_X4 hpp) rfl (cwV 5 F.1.2.2.2.2 gX4_step_X4_push rfl rfl rfl hdV_X4_push ⟨by decide, by decide⟩) rfl rfl (Nat.le_of_ble_eq_true rfl) dX4_step_129 ⟨Nat.zero_le _, Nat.zero_le _⟩ (fun r21 M22 => ?_)
    exact g_vret (pc := 132) F hr hlk dX4_step_132
  refine g_tabd (pc := 35) F 133 dX4_step_35 (by have e0 := ne_lit (n := 5) (by decide) n7; have e1 := ne_lit (n := 6) (by decide) n12; have e2 := ne_lit (n := 7) (by decide) n15; have e3 := ne_lit (n := 8) (by decide) n20; omega) (by decide) ?_
  refine g_aload_n (pc := 133) F 0 dX4_step_133 rfl ?_
  refine g_get (pc := 134) (v := .int (M5 (13 * pp + 8) 11)) (k := 13 * pp + 8) (ci := 4) (fs := (oX4 ad (pp))) (C := RX4) (T := TX4) (N := 14) F (P_lt hpp (by decide)) (sh_X4 hpp) rfl kiX4_step_X4 11 (by decide) klX4_step_115 rfl rfl dX4_step_134 ?_
  refine g_iconst (pc := 137) (v := 1) F dX4_step_137 (by decide) ?_
  refine g_icmp_ne (pc := 138) F 162 dX4_step_138 (by decide) ?_ ?_
  · refine g_aload_n (pc := 162) F 0 dX4_step_162 rfl ?_
    refine g_get (pc := 163) (v := .int (M5 (13 * pp + 8) 10)) (k := 13 * pp + 8) (ci := 4) (fs := (oX4 ad (pp))) (C := RX4) (T := TX4) (N := 14) F (P_lt hpp (by decide)) (sh_X4 hpp) rfl kiX4_step_X4 10 (by decide) klX4_step_88 rfl rfl dX4_step_163 ?_
    refine g_iconst (pc := 166) (v := 3) F dX4_step_166 (by decide) ?_
    refine g_icmp_ne (pc := 167) F 196 dX4_step_167 (by decide) ?_ ?_
    · refine g_aload_n (pc := 196) F 0 dX4_step_196 rfl ?_
      refine g_get (pc := 197) (v := .int (M5 (13 * pp + 8) 10)) (k := 13 * pp + 8) (ci := 4) (fs := (oX4 ad (pp))) (C := RX4) (T := TX4) (N := 14) F (P_lt hpp (by decide)) (sh_X4 hpp) rfl kiX4_step_X4 10 (by decide) klX4_step_88 rfl rfl dX4_step_197 ?_
      refine g_iconst (pc := 200) (v := 2) F dX4_step_200 (by decide) ?_
      refine g_icmp_ne (pc := 201) F 217 dX4_step_201 (by decide) ?_ ?_
      · refine g_aload_n (pc := 217) F 0 dX4_step_217 rfl ?_
        refine g_iload_n (pc := 218) F 1 dX4_step_218 rfl ?_
        refine g_iload (pc := 219) F 4 dX4_step_219 rfl ?_
        refine g_iload_n (pc := 221) F 2 dX4_step_221 rfl ?_
        refine g_aload_n (pc := 222) F 0 dX4_step_222 rfl ?_
        refine g_iload (pc := 223) F 5 dX4_step_223 rfl ?_
        refine g_vi (pc := 225) (k := 13 * pp + 8) (ci := 4) (fs := (oX4 ad (pp))) (C := RX4) (T := TX4) (N := 14) (As := [.int v3]) (st := [.int a2, .int v2, .int a1, .ref (ad (13 * pp + 8))]) F (c_X4_firstAfter l D ad cs F.2.2.1 pp v3 hpp M5) (P_lt hpp (by decide)) (sh_X4 hpp) rfl (cwV 1 F.1.2.2.2.2 gX4_step_X4_firstAfter rfl rfl rfl hdV_X4_firstAfter ⟨by decide, by decide⟩) rfl rfl (Nat.le_of_ble_eq_true rfl) dX4_step_225 ⟨Nat.zero_le _, Nat.zero_le _⟩ (fun r23 M24 => ?_)
        refine g_iload (pc := 228) F 6 dX4_step_228 rfl ?_
        refine g_vv (pc := 230) (k := 13 * pp + 8) (ci := 4) (fs := (oX4 ad (pp))) (C := RX4) (T := TX4) (N := 14) (As := [.int a1, .int v2, .int a2, .int r23, .int r4]) (st := []) F (c_X4_push l D ad cs F.2.2.1 pp a1 v2 a2 r23 r4 hpp M24) (P_lt hpp (by decide)) (sh_X4 hpp) rfl (cwV 5 F.1.2.2.2.2 gX4_step_X4_push rfl rfl rfl hdV_X4_push ⟨by decide, by decide⟩) rfl rfl (Nat.le_of_ble_eq_true rfl) dX4_step_230 ⟨Nat.zero_le _, Nat.zero_le _⟩ (fun r25 M26 => ?_)
        exact g_vret (pc := 233) F hr hlk dX4_step_233
      · refine g_aload_n (pc := 204) F 0 dX4_step_204 rfl ?_
        refine g_iload_n (pc := 205) F 1 dX4_step_205 rfl ?_
        refine g_iload (pc := 206) F 4 dX4_step_206 rfl ?_
        refine g_iload_n (pc := 208) F 2 dX4_step_208 rfl ?_
        refine g_iload (pc := 209) F 6 dX4_step_209 rfl ?_
        refine g_vv (pc := 211) (k := 13 * pp + 8) (ci := 4) (fs := (oX4 ad (pp))) (C := RX4) (T := TX4) (N := 14) (As := [.int a1, .int v2, .int a2, .int r4]) (st := []) F (c_X4_pushEqual l D ad cs F.2.2.1 fu pp a1 v2 a2 r4 hpp M5) (P_lt hpp (by decide)) (sh_X4 hpp) rfl (cwV 4 F.1.2.2.2.2 gX4_step_X4_pushEqual rfl rfl rfl hdV_X4_pushEqual ⟨by decide, by decide⟩) rfl rfl (Nat.le_of_ble_eq_true rfl) dX4_step_211 ⟨Nat.zero_le _, Nat.zero_le _⟩ (fun r27 M28 => ?_)
        refine g_goto (pc := 214) F 233 dX4_step_214 (by decide) ?_
        exact g_vret (pc := 233) F hr hlk dX4_step_233
    · refine g_aload_n (pc := 170) F 0 dX4_step_170 rfl ?_
      refine g_iload_n (pc := 171) F 1 dX4_step_171 rfl ?_
      refine g_iload (pc := 172) F 4 dX4_step_172 rfl ?_
      refine g_iload_n (pc := 174) F 2 dX4_step_174 rfl ?_
      refine g_aload_n (pc := 175) F 0 dX4_step_175 rfl ?_
      refine g_get (pc := 176) (v := .ref (ad (54))) (k := 13 * pp + 8) (ci := 4) (fs := (oX4 ad (pp))) (C := RX4) (T := TX4) (N := 14) F (P_lt hpp (by decide)) (sh_X4 hpp) rfl kiX4_step_X4 1 (by decide) klX4_step_30 rfl rfl dX4_step_176 ?_
      refine g_iload (pc := 179) F 4 dX4_step_179 rfl ?_
      refine g_aload_n (pc := 181) F 0 dX4_step_181 rfl ?_
      refine g_get (pc := 182) (v := .int (M5 (13 * pp + 8) 9)) (k := 13 * pp + 8) (ci := 4) (fs := (oX4 ad (pp))) (C := RX4) (T := TX4) (N := 14) F (P_lt hpp (by decide)) (sh_X4 hpp) rfl kiX4_step_X4 9 (by decide) klX4_step_94 rfl rfl dX4_step_182 ?_
      refine g_iload (pc := 185) F 6 dX4_step_185 rfl ?_
      refine g_vi (pc := 187) (k := 54) (ci := 6) (fs := (oX6 ad)) (C := RX6) (T := TX6) (N := 3) (As := [.int v2, .int (M5 (13 * pp + 8) 9), .int r4]) (st := [.int a2, .int v2, .int a1, .ref (ad (13 * pp + 8))]) F (c_X6_give l D ad cs F.2.2.1 v2 (M5 (13 * pp + 8) 9) r4 M5) (by decide) (fun _ => rfl) rfl (cwV 3 F.1.2.2.2.2 gX4_step_X6_give rfl rfl rfl hdV_X6_give ⟨by decide, by decide⟩) rfl rfl (Nat.le_of_ble_eq_true rfl) dX4_step_187 ⟨Nat.zero_le _, Nat.zero_le _⟩ (fun r29 M30 => ?_)
      refine g_vv (pc := 190) (k := 13 * pp + 8) (ci := 4) (fs := (oX4 ad (pp))) (C := RX4) (T := TX4) (N := 14) (As := [.int a1, .int v2, .int a2, .int r29]) (st := []) F (c_X4_pushAll l D ad cs F.2.2.1 fu pp a1 v2 a2 r29 hpp M30) (P_lt hpp (by decide)) (sh_X4 hpp) rfl (cwV 4 F.1.2.2.2.2 gX4_step_X4_pushAll rfl rfl rfl hdV_X4_pushAll ⟨by decide, by decide⟩) rfl rfl (Nat.le_of_ble_eq_true rfl) dX4_step_190 ⟨Nat.zero_le _, Nat.zero_le _⟩ (fun r31 M32 => ?_)
      refine g_goto (pc := 193) F 233 dX4_step_193 (by decide) ?_
      exact g_vret (pc := 233) F hr hlk dX4_step_233
  · refine g_aload_n (pc := 141) F 0 dX4_step_141 rfl ?_
    refine g_iload_n (pc := 142) F 1 dX4_step_142 rfl ?_
    refine g_iload (pc := 143) F 4 dX4_step_143 rfl ?_
    refine g_iload_n (pc := 145) F 2 dX4_step_145 rfl ?_
    refine g_iload (pc := 146) F 5 dX4_step_146 rfl ?_
    refine g_aload_n (pc := 148) F 0 dX4_step_148 rfl ?_
    refine g_iload (pc := 149) F 5 dX4_step_149 rfl ?_
    refine g_iload (pc := 151) F 6 dX4_step_151 rfl ?_
    refine g_vi (pc := 153) (k := 13 * pp + 8) (ci := 4) (fs := (oX4 ad (pp))) (C := RX4) (T := TX4) (N := 14) (As := [.int v3, .int r4]) (st := [.int v3, .int a2, .int v2, .int a1, .ref (ad (13 * pp + 8))]) F (c_X4_secondAfter l D ad cs F.2.2.1 fu pp v3 r4 hpp M5) (P_lt hpp (by decide)) (sh_X4 hpp) rfl (cwV 2 F.1.2.2.2.2 gX4_step_X4_secondAfter rfl rfl rfl hdV_X4_secondAfter ⟨by decide, by decide⟩) rfl rfl (Nat.le_of_ble_eq_true rfl) dX4_step_153 ⟨Nat.zero_le _, Nat.zero_le _⟩ (fun r33 M34 => ?_)
    refine g_vv (pc := 156) (k := 13 * pp + 8) (ci := 4) (fs := (oX4 ad (pp))) (C := RX4) (T := TX4) (N := 14) (As := [.int a1, .int v2, .int a2, .int v3, .int r33]) (st := []) F (c_X4_push l D ad cs F.2.2.1 pp a1 v2 a2 v3 r33 hpp M34) (P_lt hpp (by decide)) (sh_X4 hpp) rfl (cwV 5 F.1.2.2.2.2 gX4_step_X4_push rfl rfl rfl hdV_X4_push ⟨by decide, by decide⟩) rfl rfl (Nat.le_of_ble_eq_true rfl) dX4_step_156 ⟨Nat.zero_le _, Nat.zero_le _⟩ (fun r35 M36 => ?_)
    refine g_goto (pc := 159) F 233 dX4_step_159 (by decide) ?_
    exact g_vret (pc := 233) F hr hlk dX4_step_233
-- X4_leave
def rmX4_leave : Room := { frames := 4, cells := 0, slots := 0, locals := 104 }
def f_X4_leave_L107 (fu : Nat) (q0 : Nat) (x1 : Int32) (x2 : Int32) (x3 : Int32) (x4 : Int32) (k : Mem → Int32 → Option (Int32 × Mem)) : Nat → Mem → Int32 → Option (Int32 × Mem)
  | 0, _, _ => none
  | n + 1, M, x5 => if x2 ≤ x5 then k M x5 else bnd (f_X4_step fu q0 x5 x3 M) (fun r5 M6 => f_X4_leave_L107 fu q0 x1 x2 x3 x4 k n M6 (x5 + 1))
def f_X4_leave_L134 (fu : Nat) (q0 : Nat) (x2 : Int32) (x3 : Int32) (x4 : Int32) (k : Mem → Int32 → Option (Int32 × Mem)) : Nat → Mem → Int32 → Option (Int32 × Mem)
  | 0, _, _ => none
  | n + 1, M, x5 => if x2 ≤ x5 then k M x5 else if x3 = x4 then k M x5 else bnd (f_X4_step fu q0 x5 x4 M) (fun r10 M11 => f_X4_leave_L134 fu q0 x2 x3 x4 k n M11 (x5 + 1))
def f_X4_leave (fu : Nat) (pp : Nat) (a1 : Int32) (a2 : Int32) (M : Mem) : Option (Int32 × Mem) := if ix a1 49152 then bnd (f_X4_fetch pp ((usr (M (13 * pp + 9) a1.toNatClampNeg) (5 : Int32)) &&& (31 : Int32)) M) (fun r1 M2 => if (M2 (13 * pp + 8) 10) = 9 then some (0, M2) else if (M2 (13 * pp + 8) 10) = 6 then nm (M2 (13 * pp + 8) 13) (fun v35 => if (M2 (13 * pp + 8) 10) = 5 then nm (if ((M2 (13 * pp + 8) 9) + (1 : Int32)) < (M2 (13 * pp + 8) 13) then (M2 (13 * pp + 8) 13) else ((M2 (13 * pp + 8) 9) + (1 : Int32))) (fun v42 => wr M2 (13 * pp + 8) 7 1 (fun M43 => f_X4_leave_L107 fu pp a1 a2 v35 v42 (fun M44 y45 => wr M44 (13 * pp + 8) 7 1 (fun M46 => f_X4_leave_L134 fu pp a2 v35 v42 (fun M47 y48 => some (0, M47)) fu M46 a1)) fu M43 a1)) else wr M2 (13 * pp + 8) 7 1 (fun M36 => f_X4_leave_L107 fu pp a1 a2 v35 v35 (fun M37 y38 => wr M37 (13 * pp + 8) 7 1 (fun M39 => f_X4_leave_L134 fu pp a2 v35 v35 (fun M40 y41 => some (0, M40)) fu M39 a1)) fu M36 a1)) else if (M2 (13 * pp + 8) 10) = 5 then nm (if (M2 (13 * pp + 8) 13) < ((M2 (13 * pp + 8) 9) + (1 : Int32)) then (M2 (13 * pp + 8) 13) else ((M2 (13 * pp + 8) 9) + (1 : Int32))) (fun v21 => if (M2 (13 * pp + 8) 10) = 5 then nm (if ((M2 (13 * pp + 8) 9) + (1 : Int32)) < (M2 (13 * pp + 8) 13) then (M2 (13 * pp + 8) 13) else ((M2 (13 * pp + 8) 9) + (1 : Int32))) (fun v28 => wr M2 (13 * pp + 8) 7 1 (fun M29 => f_X4_leave_L107 fu pp a1 a2 v21 v28 (fun M30 y31 => wr M30 (13 * pp + 8) 7 1 (fun M32 => f_X4_leave_L134 fu pp a2 v21 v28 (fun M33 y34 => some (0, M33)) fu M32 a1)) fu M29 a1)) else wr M2 (13 * pp + 8) 7 1 (fun M22 => f_X4_leave_L107 fu pp a1 a2 v21 v21 (fun M23 y24 => wr M23 (13 * pp + 8) 7 1 (fun M25 => f_X4_leave_L134 fu pp a2 v21 v21 (fun M26 y27 => some (0, M26)) fu M25 a1)) fu M22 a1)) else nm ((M2 (13 * pp + 8) 9) + (1 : Int32)) (fun v3 => if (M2 (13 * pp + 8) 10) = 5 then nm (if ((M2 (13 * pp + 8) 9) + (1 : Int32)) < (M2 (13 * pp + 8) 13) then (M2 (13 * pp + 8) 13) else ((M2 (13 * pp + 8) 9) + (1 : Int32))) (fun v14 => wr M2 (13 * pp + 8) 7 1 (fun M15 => f_X4_leave_L107 fu pp a1 a2 v3 v14 (fun M16 y17 => wr M16 (13 * pp + 8) 7 1 (fun M18 => f_X4_leave_L134 fu pp a2 v3 v14 (fun M19 y20 => some (0, M19)) fu M18 a1)) fu M15 a1)) else wr M2 (13 * pp + 8) 7 1 (fun M4 => f_X4_leave_L107 fu pp a1 a2 v3 v3 (fun M7 y8 => wr M7 (13 * pp + 8) 7 1 (fun M9 => f_X4_leave_L134 fu pp a2 v3 v3 (fun M12 y13 => some (0, M12)) fu M9 a1)) fu M4 a1))) else none
set_option maxRecDepth 20000 in
theorem kiX4_leave_X4 : ∀ w ∈ u_ws RX4 TX4 14, w ∈ wsX4_leave := by decide +kernel
set_option maxRecDepth 20000 in
theorem klX4_leave_12 : Cond.fieldLink RX4 12 "DoorLister$Paths" "links" "[I" ∈ wsX4_leave := by decide +kernel
set_option maxRecDepth 20000 in
theorem klX4_leave_88 : Cond.fieldLink RX4 88 "DoorLister$Paths" "kind" "I" ∈ wsX4_leave := by decide +kernel
set_option maxRecDepth 20000 in
theorem klX4_leave_94 : Cond.fieldLink RX4 94 "DoorLister$Paths" "at" "I" ∈ wsX4_leave := by decide +kernel
set_option maxRecDepth 20000 in
theorem klX4_leave_70 : Cond.fieldLink RX4 70 "DoorLister$Paths" "opens" "Z" ∈ wsX4_leave := by decide +kernel
set_option maxRecDepth 20000 in
theorem klX4_leave_91 : Cond.fieldLink RX4 91 "DoorLister$Paths" "to" "I" ∈ wsX4_leave := by decide +kernel
set_option maxRecDepth 20000 in
theorem kwX4_leave_max0 : Cond.methodLink RX4 102 Lib.Math.max.name ∈ wsX4_leave := by decide +kernel
set_option maxRecDepth 20000 in
theorem kwX4_leave_max1 : Cond.static Lib.Math.max.name ∈ wsX4_leave := by decide +kernel
set_option maxRecDepth 20000 in
theorem kwX4_leave_m2 : Cond.initialized "java/lang/Math" ∈ wsX4_leave := by decide +kernel
set_option maxRecDepth 20000 in
theorem kwX4_leave_max3 : Cond.code Lib.Math.max.name Lib.Math.max.code 2 (some .int) ∈ wsX4_leave := by decide +kernel
set_option maxRecDepth 20000 in
theorem kwX4_leave_min0 : Cond.methodLink RX4 97 Lib.Math.min.name ∈ wsX4_leave := by decide +kernel
set_option maxRecDepth 20000 in
theorem kwX4_leave_min1 : Cond.static Lib.Math.min.name ∈ wsX4_leave := by decide +kernel
set_option maxRecDepth 20000 in
theorem kwX4_leave_min3 : Cond.code Lib.Math.min.name Lib.Math.min.code 2 (some .int) ∈ wsX4_leave := by decide +kernel
set_option maxHeartbeats 4000000 in
set_option maxRecDepth 100000 in
theorem w_X4_leave_L107 {p : Program} {l : Launch} {e : Env} {s : State} {m : MethodId} {args : Array Value} {below : List Frame} {meth : Method} {c : Code} {D : va_G} {ad : Nat → Nat} {cs : Cs} (fu : Nat) (q0 : Nat) (x1 : Int32) (x2 : Int32) (x3 : Int32) (x4 : Int32) (hq0 : q0 < 4) (F : Fx p m c cX4_leave 6 s args wsX4_leave RX4 D ad cs (Ad ad)) (hr : meth.sig.returnType = none) (hlk : meth.locks = false) (k : Mem → Int32 → Option (Int32 × Mem)) (hkx : ∀ (M : Mem) (x5 : Int32), GoX p l e rmX4_leave s m args below meth c 0 0 6 (fun rM => MQ below (cQv D ad cs rM) args s 0 0 (Ad ad)) D ad cs (Ad ad) M 126 [(0, .ref (ad (13 * q0 + 8))), (1, .int x1), (2, .int x2), (3, .int x3), (4, .int x4), (5, .int x5)] [] (k M x5)) : ∀ (n : Nat) (M : Mem) (x5 : Int32), GoX p l e rmX4_leave s m args below meth c 0 0 6 (fun rM => MQ below (cQv D ad cs rM) args s 0 0 (Ad ad)) D ad cs (Ad ad) M 107 [(0, .ref (ad (13 * q0 + 8))), (1, .int x1), (2, .int x2), (3, .int x3), (4, .int x4), (5, .int x5)] [] (f_X4_leave_L107 fu q0 x1 x2 x3 x4 k n M x5) := by
  intro n
  induction n with
  | zero => intro M x5; exact g_none
  | succ n ih =>
    intro M x5
    unfold f_X4_leave_L107
    refine g_iload (pc := 107) F 5 dX4_leave_107 rfl ?_
    refine g_iload_n (pc := 109) F 2 dX4_leave_109 rfl ?_
    refine g_icmp_ge (pc := 110) F 126 dX4_leave_110 (by decide) ?_ ?_
    · exact hkx _ _
    · refine g_aload_n (pc := 113) F 0 dX4_leave_113 rfl ?_
      refine g_iload (pc := 114) F 5 dX4_leave_114 rfl ?_
      refine g_iload_n (pc := 116) F 3 dX4_leave_116 rfl ?_
      refine g_vv (pc := 117) (k := 13 * q0 + 8) (ci := 4) (fs := (oX4 ad (q0))) (C := RX4) (T := TX4) (N := 14) (As := [.int x5, .int x3]) (st := []) F (c_X4_step l D ad cs F.2.2.1 fu q0 x5 x3 hq0 M) (P_lt hq0 (by decide)) (sh_X4 hq0) rfl (cwV 2 F.1.2.2.2.2 gX4_leave_X4_step rfl rfl rfl hdV_X4_step ⟨by decide, by decide⟩) rfl rfl (Nat.le_of_ble_eq_true rfl) dX4_leave_117 ⟨Nat.zero_le _, Nat.zero_le _⟩ (fun r5 M6 => ?_)
      refine g_iinc (pc := 120) (v := x5 + 1) F [(0, .ref (ad (13 * q0 + 8))), (1, .int x1), (2, .int x2), (3, .int x3), (4, .int x4), (5, .int (x5 + 1))] 5 dX4_leave_120 rfl rfl (by decide) rfl rfl rfl ?_
      refine g_goto (pc := 123) F 107 dX4_leave_123 (by decide) ?_
      exact ih _ _
set_option maxHeartbeats 4000000 in
set_option maxRecDepth 100000 in
theorem w_X4_leave_L134 {p : Program} {l : Launch} {e : Env} {s : State} {m : MethodId} {args : Array Value} {below : List Frame} {meth : Method} {c : Code} {D : va_G} {ad : Nat → Nat} {cs : Cs} (fu : Nat) (q0 : Nat) (x2 : Int32) (x3 : Int32) (x4 : Int32) (hq0 : q0 < 4) (F : Fx p m c cX4_leave 6 s args wsX4_leave RX4 D ad cs (Ad ad)) (hr : meth.sig.returnType = none) (hlk : meth.locks = false) (k : Mem → Int32 → Option (Int32 × Mem)) (hkx : ∀ (M : Mem) (x5 : Int32), GoX p l e rmX4_leave s m args below meth c 0 0 6 (fun rM => MQ below (cQv D ad cs rM) args s 0 0 (Ad ad)) D ad cs (Ad ad) M 160 [(0, .ref (ad (13 * q0 + 8))), (2, .int x2), (3, .int x3), (4, .int x4), (5, .int x5)] [] (k M x5)) : ∀ (n : Nat) (M : Mem) (x5 : Int32), GoX p l e rmX4_leave s m args below meth c 0 0 6 (fun rM => MQ below (cQv D ad cs rM) args s 0 0 (Ad ad)) D ad cs (Ad ad) M 134 [(0, .ref (ad (13 * q0 + 8))), (2, .int x2), (3, .int x3), (4, .int x4), (5, .int x5)] [] (f_X4_leave_L134 fu q0 x2 x3 x4 k n M x5) := by
  intro n
  induction n with
  | zero => intro M x5; exact g_none
  | succ n ih =>
    intro M x5
    unfold f_X4_leave_L134
    refine g_iload (pc := 134) F 4 dX4_leave_134 rfl ?_
    refine g_iload_n (pc := 136) F 1 dX4_leave_136 rfl ?_
    refine g_icmp_ge (pc := 137) F 160 dX4_leave_137 (by decide) ?_ ?_
    · exact hkx _ _
    · refine g_iload_n (pc := 140) F 2 dX4_leave_140 rfl ?_
      refine g_iload (pc := 141) F 3 dX4_leave_141 rfl ?_
      refine g_icmp_eq (pc := 143) F 160 dX4_leave_143 (by decide) ?_ ?_
      · exact hkx _ _
      · refine g_aload_n (pc := 146) F 0 dX4_leave_146 rfl ?_
        refine g_iload (pc := 147) F 4 dX4_leave_147 rfl ?_
        refine g_iload (pc := 149) F 3 dX4_leave_149 rfl ?_
        refine g_vv (pc := 151) (k := 13 * q0 + 8) (ci := 4) (fs := (oX4 ad (q0))) (C := RX4) (T := TX4) (N := 14) (As := [.int x5, .int x4]) (st := []) F (c_X4_step l D ad cs F.2.2.1 fu q0 x5 x4 hq0 M) (P_lt hq0 (by decide)) (sh_X4 hq0) rfl (cwV 2 F.1.2.2.2.2 gX4_leave_X4_step rfl rfl rfl hdV_X4_step ⟨by decide, by decide⟩) rfl rfl (Nat.le_of_ble_eq_true rfl) dX4_leave_151 ⟨Nat.zero_le _, Nat.zero_le _⟩ (fun r10 M11 => ?_)
        refine g_iinc (pc := 154) (v := x5 + 1) F [(0, .ref (ad (13 * q0 + 8))), (2, .int x2), (3, .int x3), (4, .int x4), (5, .int (x5 + 1))] 4 dX4_leave_154 rfl rfl (by decide) rfl rfl rfl ?_
        refine g_goto (pc := 157) F 134 dX4_leave_157 (by decide) ?_
        exact ih _ _
set_option maxHeartbeats 4000000 in
set_option maxRecDepth 100000 in
theorem c_X4_leave (l : Launch) (D : va_G) (ad : Nat → Nat) (cs : Cs) (hi : Inj ad) (fu : Nat) (pp : Nat) (a1 : Int32) (a2 : Int32) (hpp : pp < 4) (M : Mem) : MV l yX4_leave wsX4_leave rmX4_leave D ad cs [.ref (ad (13 * pp + 8)), .int a1, .int a2] M (f_X4_leave fu pp a1 a2 M) := by
  refine Mx.of (cc := cX4_leave) (maxL := 6) (ret := none) (own := RX4) (lv := [(0, .ref (ad (13 * pp + 8))), (1, .int a1), (2, .int a2)]) (by decide) rfl rfl (Nat.le_of_ble_eq_true rfl) rfl hi ?_
  intro p e s m below meth c F hr hlk
  unfold f_X4_leave
  refine g_aload_n (pc := 0) F 0 dX4_leave_0 rfl ?_
  refine g_aload_n (pc := 1) F 0 dX4_leave_1 rfl ?_
  refine g_get (pc := 2) (v := .ref (ad (13 * pp + 9))) (k := 13 * pp + 8) (ci := 4) (fs := (oX4 ad (pp))) (C := RX4) (T := TX4) (N := 14) F (P_lt hpp (by decide)) (sh_X4 hpp) rfl kiX4_leave_X4 2 (by decide) klX4_leave_12 rfl rfl dX4_leave_2 ?_
  refine g_iload_n (pc := 5) F 1 dX4_leave_5 rfl ?_
  refine g_iald (pc := 6) (k := 13 * pp + 9) (n := 49152) F (P_lt hpp (by decide)) (sh_a9 hpp) dX4_leave_6 ?_
  refine g_iconst (pc := 7) (v := 5) F dX4_leave_7 (by decide) ?_
  refine g_iushr (pc := 8) F dX4_leave_8 ?_
  refine g_bipush (pc := 9) (v := 31) F dX4_leave_9 (by decide) ?_
  refine g_iand (pc := 11) F dX4_leave_11 ?_
  refine g_vv (pc := 12) (k := 13 * pp + 8) (ci := 4) (fs := (oX4 ad (pp))) (C := RX4) (T := TX4) (N := 14) (As := [.int ((usr (M (13 * pp + 9) a1.toNatClampNeg) (5 : Int32)) &&& (31 : Int32))]) (st := []) F (c_X4_fetch l D ad cs F.2.2.1 pp ((usr (M (13 * pp + 9) a1.toNatClampNeg) (5 : Int32)) &&& (31 : Int32)) hpp M) (P_lt hpp (by decide)) (sh_X4 hpp) rfl (cwV 1 F.1.2.2.2.2 gX4_leave_X4_fetch rfl rfl rfl hdV_X4_fetch ⟨by decide, by decide⟩) rfl rfl (Nat.le_of_ble_eq_true rfl) dX4_leave_12 ⟨Nat.zero_le _, Nat.zero_le _⟩ (fun r1 M2 => ?_)
  refine g_aload_n (pc := 15) F 0 dX4_leave_15 rfl ?_
  refine g_get (pc := 16) (v := .int (M2 (13 * pp + 8) 10)) (k := 13 * pp + 8) (ci := 4) (fs := (oX4 ad (pp))) (C := RX4) (T := TX4) (N := 14) F (P_lt hpp (by decide)) (sh_X4 hpp) rfl kiX4_leave_X4 10 (by decide) klX4_leave_88 rfl rfl dX4_leave_16 ?_
  refine g_bipush (pc := 19) (v := 9) F dX4_leave_19 (by decide) ?_
  refine g_icmp_ne (pc := 21) F 25 dX4_leave_21 (by decide) ?_ ?_
  · refine g_aload_n (pc := 25) F 0 dX4_leave_25 rfl ?_
    refine g_get (pc := 26) (v := .int (M2 (13 * pp + 8) 10)) (k := 13 * pp + 8) (ci := 4) (fs := (oX4 ad (pp))) (C := RX4) (T := TX4) (N := 14) F (P_lt hpp (by decide)) (sh_X4 hpp) rfl kiX4_leave_X4 10 (by decide) klX4_leave_88 rfl rfl dX4_leave_26 ?_
    refine g_bipush (pc := 29) (v := 6) F dX4_leave_29 (by decide) ?_
    refine g_icmp_ne (pc := 31) F 41 dX4_leave_31 (by decide) ?_ ?_
    · refine g_aload_n (pc := 41) F 0 dX4_leave_41 rfl ?_
      refine g_get (pc := 42) (v := .int (M2 (13 * pp + 8) 10)) (k := 13 * pp + 8) (ci := 4) (fs := (oX4 ad (pp))) (C := RX4) (T := TX4) (N := 14) F (P_lt hpp (by decide)) (sh_X4 hpp) rfl kiX4_leave_X4 10 (by decide) klX4_leave_88 rfl rfl dX4_leave_42 ?_
      refine g_iconst (pc := 45) (v := 5) F dX4_leave_45 (by decide) ?_
      refine g_icmp_ne (pc := 46) F 65 dX4_leave_46 (by decide) ?_ ?_
      · refine g_aload_n (pc := 65) F 0 dX4_leave_65 rfl ?_
        refine g_get (pc := 66) (v := .int (M2 (13 * pp + 8) 9)) (k := 13 * pp + 8) (ci := 4) (fs := (oX4 ad (pp))) (C := RX4) (T := TX4) (N := 14) F (P_lt hpp (by decide)) (sh_X4 hpp) rfl kiX4_leave_X4 9 (by decide) klX4_leave_94 rfl rfl dX4_leave_66 ?_
        refine g_iconst (pc := 69) (v := 1) F dX4_leave_69 (by decide) ?_
        refine g_iadd (pc := 70) F dX4_leave_70 ?_
        refine g_nm (fun v3 => ?_)
        refine g_istore_n (pc := 71) F [(0, .ref (ad (13 * pp + 8))), (1, .int a1), (2, .int a2), (3, .int v3)] dX4_leave_71 (by decide) rfl rfl rfl ?_
        refine g_aload_n (pc := 72) F 0 dX4_leave_72 rfl ?_
        refine g_get (pc := 73) (v := .int (M2 (13 * pp + 8) 10)) (k := 13 * pp + 8) (ci := 4) (fs := (oX4 ad (pp))) (C := RX4) (T := TX4) (N := 14) F (P_lt hpp (by decide)) (sh_X4 hpp) rfl kiX4_leave_X4 10 (by decide) klX4_leave_88 rfl rfl dX4_leave_73 ?_
        refine g_iconst (pc := 76) (v := 5) F dX4_leave_76 (by decide) ?_
        refine g_icmp_ne (pc := 77) F 96 dX4_leave_77 (by decide) ?_ ?_
        · refine g_iload_n (pc := 96) F 3 dX4_leave_96 rfl ?_
          refine g_istore (pc := 97) F [(0, .ref (ad (13 * pp + 8))), (1, .int a1), (2, .int a2), (3, .int v3), (4, .int v3)] dX4_leave_97 (by decide) rfl rfl rfl ?_
          refine g_aload_n (pc := 99) F 0 dX4_leave_99 rfl ?_
          refine g_iconst (pc := 100) (v := 1) F dX4_leave_100 (by decide) ?_
          refine g_put (pc := 101) (k := 13 * pp + 8) (ci := 4) (fs := (oX4 ad (pp))) (C := RX4) (T := TX4) (N := 14) F (P_lt hpp (by decide)) (sh_X4 hpp) rfl kiX4_leave_X4 tyX4 tyX4_ok nmX4 7 (by decide) klX4_leave_70 rfl rfl rfl rfl (fun _ => rfl) (Nat.le_of_ble_eq_true rfl) dX4_leave_101 (fun M4 => ?_)
          refine g_iload_n (pc := 104) F 1 dX4_leave_104 rfl ?_
          refine g_istore (pc := 105) F [(0, .ref (ad (13 * pp + 8))), (1, .int a1), (2, .int a2), (3, .int v3), (4, .int v3), (5, .int a1)] dX4_leave_105 (by decide) rfl rfl rfl ?_
          refine w_X4_leave_L107 fu pp a1 a2 v3 v3 hpp F hr hlk _ (fun M7 y8 => ?_) _ _ _
          refine g_aload_n (pc := 126) F 0 dX4_leave_126 rfl ?_
          refine g_iconst (pc := 127) (v := 1) F dX4_leave_127 (by decide) ?_
          refine g_put (pc := 128) (k := 13 * pp + 8) (ci := 4) (fs := (oX4 ad (pp))) (C := RX4) (T := TX4) (N := 14) F (P_lt hpp (by decide)) (sh_X4 hpp) rfl kiX4_leave_X4 tyX4 tyX4_ok nmX4 7 (by decide) klX4_leave_70 rfl rfl rfl rfl (fun _ => rfl) (Nat.le_of_ble_eq_true rfl) dX4_leave_128 (fun M9 => ?_)
          refine g_iload_n (pc := 131) F 1 dX4_leave_131 rfl ?_
          refine g_istore (pc := 132) F [(0, .ref (ad (13 * pp + 8))), (1, .int a1), (2, .int a2), (3, .int v3), (4, .int v3), (5, .int a1)] dX4_leave_132 (by decide) rfl rfl rfl ?_
          refine g_sub [0, 2, 3, 4, 5] [(0, .ref (ad (13 * pp + 8))), (2, .int a2), (3, .int v3), (4, .int v3), (5, .int a1)] rfl ?_
          refine w_X4_leave_L134 fu pp a2 v3 v3 hpp F hr hlk _ (fun M12 y13 => ?_) _ _ _
          exact g_vret (pc := 160) F hr hlk dX4_leave_160
        · refine g_aload_n (pc := 80) F 0 dX4_leave_80 rfl ?_
          refine g_get (pc := 81) (v := .int (M2 (13 * pp + 8) 9)) (k := 13 * pp + 8) (ci := 4) (fs := (oX4 ad (pp))) (C := RX4) (T := TX4) (N := 14) F (P_lt hpp (by decide)) (sh_X4 hpp) rfl kiX4_leave_X4 9 (by decide) klX4_leave_94 rfl rfl dX4_leave_81 ?_
          refine g_iconst (pc := 84) (v := 1) F dX4_leave_84 (by decide) ?_
          refine g_iadd (pc := 85) F dX4_leave_85 ?_
          refine g_aload_n (pc := 86) F 0 dX4_leave_86 rfl ?_
          refine g_get (pc := 87) (v := .int (M2 (13 * pp + 8) 13)) (k := 13 * pp + 8) (ci := 4) (fs := (oX4 ad (pp))) (C := RX4) (T := TX4) (N := 14) F (P_lt hpp (by decide)) (sh_X4 hpp) rfl kiX4_leave_X4 13 (by decide) klX4_leave_91 rfl rfl dX4_leave_87 ?_
          refine g_mmax (pc := 90) (x := (M2 (13 * pp + 8) 9) + (1 : Int32)) (y := M2 (13 * pp + 8) 13) (st := []) F kwX4_leave_max0 kwX4_leave_max1 kwX4_leave_m2 kwX4_leave_max3 (by decide) (Nat.le_of_ble_eq_true rfl) ⟨Nat.zero_le _, Nat.zero_le _⟩ dX4_leave_90 ?_
          refine g_goto (pc := 93) F 97 dX4_leave_93 (by decide) ?_
          refine g_nm (fun v14 => ?_)
          refine g_istore (pc := 97) F [(0, .ref (ad (13 * pp + 8))), (1, .int a1), (2, .int a2), (3, .int v3), (4, .int v14)] dX4_leave_97 (by decide) rfl rfl rfl ?_
          refine g_aload_n (pc := 99) F 0 dX4_leave_99 rfl ?_
          refine g_iconst (pc := 100) (v := 1) F dX4_leave_100 (by decide) ?_
          refine g_put (pc := 101) (k := 13 * pp + 8) (ci := 4) (fs := (oX4 ad (pp))) (C := RX4) (T := TX4) (N := 14) F (P_lt hpp (by decide)) (sh_X4 hpp) rfl kiX4_leave_X4 tyX4 tyX4_ok nmX4 7 (by decide) klX4_leave_70 rfl rfl rfl rfl (fun _ => rfl) (Nat.le_of_ble_eq_true rfl) dX4_leave_101 (fun M15 => ?_)
          refine g_iload_n (pc := 104) F 1 dX4_leave_104 rfl ?_
          refine g_istore (pc := 105) F [(0, .ref (ad (13 * pp + 8))), (1, .int a1), (2, .int a2), (3, .int v3), (4, .int v14), (5, .int a1)] dX4_leave_105 (by decide) rfl rfl rfl ?_
          refine w_X4_leave_L107 fu pp a1 a2 v3 v14 hpp F hr hlk _ (fun M16 y17 => ?_) _ _ _
          refine g_aload_n (pc := 126) F 0 dX4_leave_126 rfl ?_
          refine g_iconst (pc := 127) (v := 1) F dX4_leave_127 (by decide) ?_
          refine g_put (pc := 128) (k := 13 * pp + 8) (ci := 4) (fs := (oX4 ad (pp))) (C := RX4) (T := TX4) (N := 14) F (P_lt hpp (by decide)) (sh_X4 hpp) rfl kiX4_leave_X4 tyX4 tyX4_ok nmX4 7 (by decide) klX4_leave_70 rfl rfl rfl rfl (fun _ => rfl) (Nat.le_of_ble_eq_true rfl) dX4_leave_128 (fun M18 => ?_)
          refine g_iload_n (pc := 131) F 1 dX4_leave_131 rfl ?_
          refine g_istore (pc := 132) F [(0, .ref (ad (13 * pp + 8))), (1, .int a1), (2, .int a2), (3, .int v3), (4, .int v14), (5, .int a1)] dX4_leave_132 (by decide) rfl rfl rfl ?_
          refine g_sub [0, 2, 3, 4, 5] [(0, .ref (ad (13 * pp + 8))), (2, .int a2), (3, .int v3), (4, .int v14), (5, .int a1)] rfl ?_
          refine w_X4_leave_L134 fu pp a2 v3 v14 hpp F hr hlk _ (fun M19 y20 => ?_) _ _ _
          exact g_vret (pc := 160) F hr hlk dX4_leave_160
      · refine g_aload_n (pc := 49) F 0 dX4_leave_49 rfl ?_
        refine g_get (pc := 50) (v := .int (M2 (13 * pp + 8) 9)) (k := 13 * pp + 8) (ci := 4) (fs := (oX4 ad (pp))) (C := RX4) (T := TX4) (N := 14) F (P_lt hpp (by decide)) (sh_X4 hpp) rfl kiX4_leave_X4 9 (by decide) klX4_leave_94 rfl rfl dX4_leave_50 ?_
        refine g_iconst (pc := 53) (v := 1) F dX4_leave_53 (by decide) ?_
        refine g_iadd (pc := 54) F dX4_leave_54 ?_
        refine g_aload_n (pc := 55) F 0 dX4_leave_55 rfl ?_
        refine g_get (pc := 56) (v := .int (M2 (13 * pp + 8) 13)) (k := 13 * pp + 8) (ci := 4) (fs := (oX4 ad (pp))) (C := RX4) (T := TX4) (N := 14) F (P_lt hpp (by decide)) (sh_X4 hpp) rfl kiX4_leave_X4 13 (by decide) klX4_leave_91 rfl rfl dX4_leave_56 ?_
        refine g_mmin (pc := 59) (x := (M2 (13 * pp + 8) 9) + (1 : Int32)) (y := M2 (13 * pp + 8) 13) (st := []) F kwX4_leave_min0 kwX4_leave_min1 kwX4_leave_m2 kwX4_leave_min3 (by decide) (Nat.le_of_ble_eq_true rfl) ⟨Nat.zero_le _, Nat.zero_le _⟩ dX4_leave_59 ?_
        refine g_goto (pc := 62) F 71 dX4_leave_62 (by decide) ?_
        refine g_nm (fun v21 => ?_)
        refine g_istore_n (pc := 71) F [(0, .ref (ad (13 * pp + 8))), (1, .int a1), (2, .int a2), (3, .int v21)] dX4_leave_71 (by decide) rfl rfl rfl ?_
        refine g_aload_n (pc := 72) F 0 dX4_leave_72 rfl ?_
        refine g_get (pc := 73) (v := .int (M2 (13 * pp + 8) 10)) (k := 13 * pp + 8) (ci := 4) (fs := (oX4 ad (pp))) (C := RX4) (T := TX4) (N := 14) F (P_lt hpp (by decide)) (sh_X4 hpp) rfl kiX4_leave_X4 10 (by decide) klX4_leave_88 rfl rfl dX4_leave_73 ?_
        refine g_iconst (pc := 76) (v := 5) F dX4_leave_76 (by decide) ?_
        refine g_icmp_ne (pc := 77) F 96 dX4_leave_77 (by decide) ?_ ?_
        · refine g_iload_n (pc := 96) F 3 dX4_leave_96 rfl ?_
          refine g_istore (pc := 97) F [(0, .ref (ad (13 * pp + 8))), (1, .int a1), (2, .int a2), (3, .int v21), (4, .int v21)] dX4_leave_97 (by decide) rfl rfl rfl ?_
          refine g_aload_n (pc := 99) F 0 dX4_leave_99 rfl ?_
          refine g_iconst (pc := 100) (v := 1) F dX4_leave_100 (by decide) ?_
          refine g_put (pc := 101) (k := 13 * pp + 8) (ci := 4) (fs := (oX4 ad (pp))) (C := RX4) (T := TX4) (N := 14) F (P_lt hpp (by decide)) (sh_X4 hpp) rfl kiX4_leave_X4 tyX4 tyX4_ok nmX4 7 (by decide) klX4_leave_70 rfl rfl rfl rfl (fun _ => rfl) (Nat.le_of_ble_eq_true rfl) dX4_leave_101 (fun M22 => ?_)
          refine g_iload_n (pc := 104) F 1 dX4_leave_104 rfl ?_
          refine g_istore (pc := 105) F [(0, .ref (ad (13 * pp + 8))), (1, .int a1), (2, .int a2), (3, .int v21), (4, .int v21), (5, .int a1)] dX4_leave_105 (by decide) rfl rfl rfl ?_
          refine w_X4_leave_L107 fu pp a1 a2 v21 v21 hpp F hr hlk _ (fun M23 y24 => ?_) _ _ _
          refine g_aload_n (pc := 126) F 0 dX4_leave_126 rfl ?_
          refine g_iconst (pc := 127) (v := 1) F dX4_leave_127 (by decide) ?_
          refine g_put (pc := 128) (k := 13 * pp + 8) (ci := 4) (fs := (oX4 ad (pp))) (C := RX4) (T := TX4) (N := 14) F (P_lt hpp (by decide)) (sh_X4 hpp) rfl kiX4_leave_X4 tyX4 tyX4_ok nmX4 7 (by decide) klX4_leave_70 rfl rfl rfl rfl (fun _ => rfl) (Nat.le_of_ble_eq_true rfl) dX4_leave_128 (fun M25 => ?_)
          refine g_iload_n (pc := 131) F 1 dX4_leave_131 rfl ?_
          refine g_istore (pc := 132) F [(0, .ref (ad (13 * pp + 8))), (1, .int a1), (2, .int a2), (3, .int v21), (4, .int v21), (5, .int a1)] dX4_leave_132 (by decide) rfl rfl rfl ?_
          refine g_sub [0, 2, 3, 4, 5] [(0, .ref (ad (13 * pp + 8))), (2, .int a2), (3, .int v21), (4, .int v21), (5, .int a1)] rfl ?_
          refine w_X4_leave_L134 fu pp a2 v21 v21 hpp F hr hlk _ (fun M26 y27 => ?_) _ _ _
          exact g_vret (pc := 160) F hr hlk dX4_leave_160
        · refine g_aload_n (pc := 80) F 0 dX4_leave_80 rfl ?_
          refine g_get (pc := 81) (v := .int (M2 (13 * pp + 8) 9)) (k := 13 * pp + 8) (ci := 4) (fs := (oX4 ad (pp))) (C := RX4) (T := TX4) (N := 14) F (P_lt hpp (by decide)) (sh_X4 hpp) rfl kiX4_leave_X4 9 (by decide) klX4_leave_94 rfl rfl dX4_leave_81 ?_
          refine g_iconst (pc := 84) (v := 1) F dX4_leave_84 (by decide) ?_
          refine g_iadd (pc := 85) F dX4_leave_85 ?_
          refine g_aload_n (pc := 86) F 0 dX4_leave_86 rfl ?_
          refine g_get (pc := 87) (v := .int (M2 (13 * pp + 8) 13)) (k := 13 * pp + 8) (ci := 4) (fs := (oX4 ad (pp))) (C := RX4) (T := TX4) (N := 14) F (P_lt hpp (by decide)) (sh_X4 hpp) rfl kiX4_leave_X4 13 (by decide) klX4_leave_91 rfl rfl dX4_leave_87 ?_
          refine g_mmax (pc := 90) (x := (M2 (13 * pp + 8) 9) + (1 : Int32)) (y := M2 (13 * pp + 8) 13) (st := []) F kwX4_leave_max0 kwX4_leave_max1 kwX4_leave_m2 kwX4_leave_max3 (by decide) (Nat.le_of_ble_eq_true rfl) ⟨Nat.zero_le _, Nat.zero_le _⟩ dX4_leave_90 ?_
          refine g_goto (pc := 93) F 97 dX4_leave_93 (by decide) ?_
          refine g_nm (fun v28 => ?_)
          refine g_istore (pc := 97) F [(0, .ref (ad (13 * pp + 8))), (1, .int a1), (2, .int a2), (3, .int v21), (4, .int v28)] dX4_leave_97 (by decide) rfl rfl rfl ?_
          refine g_aload_n (pc := 99) F 0 dX4_leave_99 rfl ?_
          refine g_iconst (pc := 100) (v := 1) F dX4_leave_100 (by decide) ?_
          refine g_put (pc := 101) (k := 13 * pp + 8) (ci := 4) (fs := (oX4 ad (pp))) (C := RX4) (T := TX4) (N := 14) F (P_lt hpp (by decide)) (sh_X4 hpp) rfl kiX4_leave_X4 tyX4 tyX4_ok nmX4 7 (by decide) klX4_leave_70 rfl rfl rfl rfl (fun _ => rfl) (Nat.le_of_ble_eq_true rfl) dX4_leave_101 (fun M29 => ?_)
          refine g_iload_n (pc := 104) F 1 dX4_leave_104 rfl ?_
          refine g_istore (pc := 105) F [(0, .ref (ad (13 * pp + 8))), (1, .int a1), (2, .int a2), (3, .int v21), (4, .int v28), (5, .int a1)] dX4_leave_105 (by decide) rfl rfl rfl ?_
          refine w_X4_leave_L107 fu pp a1 a2 v21 v28 hpp F hr hlk _ (fun M30 y31 => ?_) _ _ _
          refine g_aload_n (pc := 126) F 0 dX4_leave_126 rfl ?_
          refine g_iconst (pc := 127) (v := 1) F dX4_leave_127 (by decide) ?_
          refine g_put (pc := 128) (k := 13 * pp + 8) (ci := 4) (fs := (oX4 ad (pp))) (C := RX4) (T := TX4) (N := 14) F (P_lt hpp (by decide)) (sh_X4 hpp) rfl kiX4_leave_X4 tyX4 tyX4_ok nmX4 7 (by decide) klX4_leave_70 rfl rfl rfl rfl (fun _ => rfl) (Nat.le_of_ble_eq_true rfl) dX4_leave_128 (fun M32 => ?_)
          refine g_iload_n (pc := 131) F 1 dX4_leave_131 rfl ?_
          refine g_istore (pc := 132) F [(0, .ref (ad (13 * pp + 8))), (1, .int a1), (2, .int a2), (3, .int v21), (4, .int v28), (5, .int a1)] dX4_leave_132 (by decide) rfl rfl rfl ?_
          refine g_sub [0, 2, 3, 4, 5] [(0, .ref (ad (13 * pp + 8))), (2, .int a2), (3, .int v21), (4, .int v28), (5, .int a1)] rfl ?_
          refine w_X4_leave_L134 fu pp a2 v21 v28 hpp F hr hlk _ (fun M33 y34 => ?_) _ _ _
          exact g_vret (pc := 160) F hr hlk dX4_leave_160
    · refine g_aload_n (pc := 34) F 0 dX4_leave_34 rfl ?_
      refine g_get (pc := 35) (v := .int (M2 (13 * pp + 8) 13)) (k := 13 * pp + 8) (ci := 4) (fs := (oX4 ad (pp))) (C := RX4) (T := TX4) (N := 14) F (P_lt hpp (by decide)) (sh_X4 hpp) rfl kiX4_leave_X4 13 (by decide) klX4_leave_91 rfl rfl dX4_leave_35 ?_
      refine g_goto (pc := 38) F 71 dX4_leave_38 (by decide) ?_
      refine g_nm (fun v35 => ?_)
      refine g_istore_n (pc := 71) F [(0, .ref (ad (13 * pp + 8))), (1, .int a1), (2, .int a2), (3, .int v35)] dX4_leave_71 (by decide) rfl rfl rfl ?_
      refine g_aload_n (pc := 72) F 0 dX4_leave_72 rfl ?_
      refine g_get (pc := 73) (v := .int (M2 (13 * pp + 8) 10)) (k := 13 * pp + 8) (ci := 4) (fs := (oX4 ad (pp))) (C := RX4) (T := TX4) (N := 14) F (P_lt hpp (by decide)) (sh_X4 hpp) rfl kiX4_leave_X4 10 (by decide) klX4_leave_88 rfl rfl dX4_leave_73 ?_
      refine g_iconst (pc := 76) (v := 5) F dX4_leave_76 (by decide) ?_
      refine g_icmp_ne (pc := 77) F 96 dX4_leave_77 (by decide) ?_ ?_
      · refine g_iload_n (pc := 96) F 3 dX4_leave_96 rfl ?_
        refine g_istore (pc := 97) F [(0, .ref (ad (13 * pp + 8))), (1, .int a1), (2, .int a2), (3, .int v35), (4, .int v35)] dX4_leave_97 (by decide) rfl rfl rfl ?_
        refine g_aload_n (pc := 99) F 0 dX4_leave_99 rfl ?_
        refine g_iconst (pc := 100) (v := 1) F dX4_leave_100 (by decide) ?_
        refine g_put (pc := 101) (k := 13 * pp + 8) (ci := 4) (fs := (oX4 ad (pp))) (C := RX4) (T := TX4) (N := 14) F (P_lt hpp (by decide)) (sh_X4 hpp) rfl kiX4_leave_X4 tyX4 tyX4_ok nmX4 7 (by decide) klX4_leave_70 rfl rfl rfl rfl (fun _ => rfl) (Nat.le_of_ble_eq_true rfl) dX4_leave_101 (fun M36 => ?_)
        refine g_iload_n (pc := 104) F 1 dX4_leave_104 rfl ?_
        refine g_istore (pc := 105) F [(0, .ref (ad (13 * pp + 8))), (1, .int a1), (2, .int a2), (3, .int v35), (4, .int v35), (5, .int a1)] dX4_leave_105 (by decide) rfl rfl rfl ?_
        refine w_X4_leave_L107 fu pp a1 a2 v35 v35 hpp F hr hlk _ (fun M37 y38 => ?_) _ _ _
        refine g_aload_n (pc := 126) F 0 dX4_leave_126 rfl ?_
        refine g_iconst (pc := 127) (v := 1) F dX4_leave_127 (by decide) ?_
        refine g_put (pc := 128) (k := 13 * pp + 8) (ci := 4) (fs := (oX4 ad (pp))) (C := RX4) (T := TX4) (N := 14) F (P_lt hpp (by decide)) (sh_X4 hpp) rfl kiX4_leave_X4 tyX4 tyX4_ok nmX4 7 (by decide) klX4_leave_70 rfl rfl rfl rfl (fun _ => rfl) (Nat.le_of_ble_eq_true rfl) dX4_leave_128 (fun M39 => ?_)
        refine g_iload_n (pc := 131) F 1 dX4_leave_131 rfl ?_
        refine g_istore (pc := 132) F [(0, .ref (ad (13 * pp + 8))), (1, .int a1), (2, .int a2), (3, .int v35), (4, .int v35), (5, .int a1)] dX4_leave_132 (by decide) rfl rfl rfl ?_
        refine g_sub [0, 2, 3, 4, 5] [(0, .ref (ad (13 * pp + 8))), (2, .int a2), (3, .int v35), (4, .int v35), (5, .int a1)] rfl ?_
        refine w_X4_leave_L134 fu pp a2 v35 v35 hpp F hr hlk _ (fun M40 y41 => ?_) _ _ _
        exact g_vret (pc := 160) F hr hlk dX4_leave_160
      · refine g_aload_n (pc := 80) F 0 dX4_leave_80 rfl ?_
        refine g_get (pc := 81) (v := .int (M2 (13 * pp + 8) 9)) (k := 13 * pp + 8) (ci := 4) (fs := (oX4 ad (pp))) (C := RX4) (T := TX4) (N := 14) F (P_lt hpp (by decide)) (sh_X4 hpp) rfl kiX4_leave_X4 9 (by decide) klX4_leave_94 rfl rfl dX4_leave_81 ?_
        refine g_iconst (pc := 84) (v := 1) F dX4_leave_84 (by decide) ?_
        refine g_iadd (pc := 85) F dX4_leave_85 ?_
        refine g_aload_n (pc := 86) F 0 dX4_leave_86 rfl ?_
        refine g_get (pc := 87) (v := .int (M2 (13 * pp + 8) 13)) (k := 13 * pp + 8) (ci := 4) (fs := (oX4 ad (pp))) (C := RX4) (T := TX4) (N := 14) F (P_lt hpp (by decide)) (sh_X4 hpp) rfl kiX4_leave_X4 13 (by decide) klX4_leave_91 rfl rfl dX4_leave_87 ?_
        refine g_mmax (pc := 90) (x := (M2 (13 * pp + 8) 9) + (1 : Int32)) (y := M2 (13 * pp + 8) 13) (st := []) F kwX4_leave_max0 kwX4_leave_max1 kwX4_leave_m2 kwX4_leave_max3 (by decide) (Nat.le_of_ble_eq_true rfl) ⟨Nat.zero_le _, Nat.zero_le _⟩ dX4_leave_90 ?_
        refine g_goto (pc := 93) F 97 dX4_leave_93 (by decide) ?_
        refine g_nm (fun v42 => ?_)
        refine g_istore (pc := 97) F [(0, .ref (ad (13 * pp + 8))), (1, .int a1), (2, .int a2), (3, .int v35), (4, .int v42)] dX4_leave_97 (by decide) rfl rfl rfl ?_
        refine g_aload_n (pc := 99) F 0 dX4_leave_99 rfl ?_
        refine g_iconst (pc := 100) (v := 1) F dX4_leave_100 (by decide) ?_
        refine g_put (pc := 101) (k := 13 * pp + 8) (ci := 4) (fs := (oX4 ad (pp))) (C := RX4) (T := TX4) (N := 14) F (P_lt hpp (by decide)) (sh_X4 hpp) rfl kiX4_leave_X4 tyX4 tyX4_ok nmX4 7 (by decide) klX4_leave_70 rfl rfl rfl rfl (fun _ => rfl) (Nat.le_of_ble_eq_true rfl) dX4_leave_101 (fun M43 => ?_)
        refine g_iload_n (pc := 104) F 1 dX4_leave_104 rfl ?_
        refine g_istore (pc := 105) F [(0, .ref (ad (13 * pp + 8))), (1, .int a1), (2, .int a2), (3, .int v35), (4, .int v42), (5, .int a1)] dX4_leave_105 (by decide) rfl rfl rfl ?_
        refine w_X4_leave_L107 fu pp a1 a2 v35 v42 hpp F hr hlk _ (fun M44 y45 => ?_) _ _ _
        refine g_aload_n (pc := 126) F 0 dX4_leave_126 rfl ?_
        refine g_iconst (pc := 127) (v := 1) F dX4_leave_127 (by decide) ?_
        refine g_put (pc := 128) (k := 13 * pp + 8) (ci := 4) (fs := (oX4 ad (pp))) (C := RX4) (T := TX4) (N := 14) F (P_lt hpp (by decide)) (sh_X4 hpp) rfl kiX4_leave_X4 tyX4 tyX4_ok nmX4 7 (by decide) klX4_leave_70 rfl rfl rfl rfl (fun _ => rfl) (Nat.le_of_ble_eq_true rfl) dX4_leave_128 (fun M46 => ?_)
        refine g_iload_n (pc := 131) F 1 dX4_leave_131 rfl ?_
        refine g_istore (pc := 132) F [(0, .ref (ad (13 * pp + 8))), (1, .int a1), (2, .int a2), (3, .int v35), (4, .int v42), (5, .int a1)] dX4_leave_132 (by decide) rfl rfl rfl ?_
        refine g_sub [0, 2, 3, 4, 5] [(0, .ref (ad (13 * pp + 8))), (2, .int a2), (3, .int v35), (4, .int v42), (5, .int a1)] rfl ?_
        refine w_X4_leave_L134 fu pp a2 v35 v42 hpp F hr hlk _ (fun M47 y48 => ?_) _ _ _
        exact g_vret (pc := 160) F hr hlk dX4_leave_160
  · exact g_vret (pc := 24) F hr hlk dX4_leave_24
-- X6_clear
def rmX6_clear : Room := { frames := 1, cells := 0, slots := 0, locals := 23 }
def f_X6_clear (fu : Nat) (M : Mem) : Option (Int32 × Mem) := bnd (f_J7_fill_53178 fu 56 1536 0 M) (fun r1 M2 => bnd (f_J7_fill_53178 fu 57 48 0 M2) (fun r3 M4 => some (0, M4)))
set_option maxRecDepth 20000 in
theorem kiX6_clear_X6 : ∀ w ∈ u_ws RX6 TX6 3, w ∈ wsX6_clear := by decide +kernel
set_option maxRecDepth 20000 in
theorem klX6_clear_18 : Cond.fieldLink RX6 18 "DoorLister$Scratch" "gone" "[I" ∈ wsX6_clear := by decide +kernel
set_option maxRecDepth 20000 in
theorem klX6_clear_21 : Cond.fieldLink RX6 21 "DoorLister$Scratch" "given" "[I" ∈ wsX6_clear := by decide +kernel
set_option maxHeartbeats 4000000 in
set_option maxRecDepth 100000 in
theorem c_X6_clear (l : Launch) (D : va_G) (ad : Nat → Nat) (cs : Cs) (hi : Inj ad) (fu : Nat) (M : Mem) : MV l yX6_clear wsX6_clear rmX6_clear D ad cs [.ref (ad (54))] M (f_X6_clear fu M) := by
  refine Mx.of (cc := cX6_clear) (maxL := 1) (ret := none) (own := RX6) (lv := [(0, .ref (ad (54)))]) (by decide) rfl rfl (Nat.le_of_ble_eq_true rfl) rfl hi ?_
  intro p e s m below meth c F hr hlk
  unfold f_X6_clear
  refine g_aload_n (pc := 0) F 0 dX6_clear_0 rfl ?_
  refine g_get (pc := 1) (v := .ref (ad (56))) (k := 54) (ci := 6) (fs := (oX6 ad)) (C := RX6) (T := TX6) (N := 3) F (by decide) (fun _ => rfl) rfl kiX6_clear_X6 1 (by decide) klX6_clear_18 rfl rfl dX6_clear_1 ?_
  refine g_iconst (pc := 4) (v := 0) F dX6_clear_4 (by decide) ?_
  refine g_sv (pc := 5) (As := [.ref (ad (56)), .int 0]) (st := []) F (c_J7_fill_53178 l D ad cs F.2.2.1 fu 56 1536 0 (by decide) (fun _ => rfl) M) (va_cwS 2 F.1.2.2.2.2 gX6_clear_J7_fill_53178 rfl rfl rfl hdS_J7_fill_53178 ⟨by decide, by decide⟩) rfl rfl (Nat.le_of_ble_eq_true rfl) dX6_clear_5 ⟨Nat.zero_le _, Nat.zero_le _⟩ (fun r1 M2 => ?_)
  refine g_aload_n (pc := 8) F 0 dX6_clear_8 rfl ?_
  refine g_get (pc := 9) (v := .ref (ad (57))) (k := 54) (ci := 6) (fs := (oX6 ad)) (C := RX6) (T := TX6) (N := 3) F (by decide) (fun _ => rfl) rfl kiX6_clear_X6 2 (by decide) klX6_clear_21 rfl rfl dX6_clear_9 ?_
  refine g_iconst (pc := 12) (v := 0) F dX6_clear_12 (by decide) ?_
  refine g_sv (pc := 13) (As := [.ref (ad (57)), .int 0]) (st := []) F (c_J7_fill_53178 l D ad cs F.2.2.1 fu 57 48 0 (by decide) (fun _ => rfl) M2) (va_cwS 2 F.1.2.2.2.2 gX6_clear_J7_fill_53178 rfl rfl rfl hdS_J7_fill_53178 ⟨by decide, by decide⟩) rfl rfl (Nat.le_of_ble_eq_true rfl) dX6_clear_13 ⟨Nat.zero_le _, Nat.zero_le _⟩ (fun r3 M4 => ?_)
  exact g_vret (pc := 16) F hr hlk dX6_clear_16
-- X4_searched
def rmX4_searched : Room := { frames := 5, cells := 0, slots := 0, locals := 129 }
def f_X4_searched_L56 (fu : Nat) (q0 : Nat) (k : Mem → Int32 → Int32 → Option (Int32 × Mem)) : Nat → Mem → Int32 → Int32 → Option (Int32 × Mem)
  | 0, _, _, _ => none
  | n + 1, M, x1, x2 => if (M (13 * q0 + 8) 5) ≤ x2 then k M x1 x2 else if 49152 ≤ x2 then k M x1 x2 else if x2 = x1 then bnd (f_X4_groupEnd fu q0 x2 M) (fun r11 M12 => bnd (f_X4_leave fu q0 x2 r11 M12) (fun r13 M14 => f_X4_searched_L56 fu q0 k n M14 r11 (x2 + 1))) else f_X4_searched_L56 fu q0 k n M x1 (x2 + 1)
def f_X4_searched (fu : Nat) (pp : Nat) (M : Mem) : Option (Int32 × Mem) := if (M (13 * pp + 8) 8) = 0 then some (0, M) else wr M (13 * pp + 8) 8 0 (fun M1 => bnd (f_X6_clear fu M1) (fun r2 M3 => bnd (f_X0_clear fu (13 * pp + 11) M3) (fun r4 M5 => wr M5 (13 * pp + 8) 5 0 (fun M6 => wr M6 (13 * pp + 8) 6 0 (fun M7 => wr M7 (13 * pp + 8) 7 1 (fun M8 => bnd (f_X4_push pp 0 0 0 0 1 M8) (fun r9 M10 => f_X4_searched_L56 fu pp (fun M15 y16 y17 => some (0, M15)) fu M10 0 0)))))))
set_option maxRecDepth 20000 in
theorem kiX4_searched_X4 : ∀ w ∈ u_ws RX4 TX4 14, w ∈ wsX4_searched := by decide +kernel
set_option maxRecDepth 20000 in
theorem klX4_searched_34 : Cond.fieldLink RX4 34 "DoorLister$Paths" "stale" "Z" ∈ wsX4_searched := by decide +kernel
set_option maxRecDepth 20000 in
theorem klX4_searched_30 : Cond.fieldLink RX4 30 "DoorLister$Paths" "scratch" "LDoorLister$Scratch;" ∈ wsX4_searched := by decide +kernel
set_option maxRecDepth 20000 in
theorem klX4_searched_22 : Cond.fieldLink RX4 22 "DoorLister$Paths" "calls" "LDoorLister$CallTable;" ∈ wsX4_searched := by decide +kernel
set_option maxRecDepth 20000 in
theorem klX4_searched_67 : Cond.fieldLink RX4 67 "DoorLister$Paths" "size" "I" ∈ wsX4_searched := by decide +kernel
set_option maxRecDepth 20000 in
theorem klX4_searched_38 : Cond.fieldLink RX4 38 "DoorLister$Paths" "come" "I" ∈ wsX4_searched := by decide +kernel
set_option maxRecDepth 20000 in
theorem klX4_searched_70 : Cond.fieldLink RX4 70 "DoorLister$Paths" "opens" "Z" ∈ wsX4_searched := by decide +kernel
set_option maxRecDepth 20000 in
theorem kwX4_searched_c11 : Cond.constant RX4 11 49152 ∈ wsX4_searched := by decide +kernel
set_option maxHeartbeats 4000000 in
set_option maxRecDepth 100000 in
theorem w_X4_searched_L56 {p : Program} {l : Launch} {e : Env} {s : State} {m : MethodId} {args : Array Value} {below : List Frame} {meth : Method} {c : Code} {D : va_G} {ad : Nat → Nat} {cs : Cs} {pp : Nat} (fu : Nat) (q0 : Nat) (hq0 : q0 < 4) (F : Fx p m c cX4_searched 3 s args wsX4_searched RX4 D ad cs (Ad ad)) (hr : meth.sig.returnType = (some (.object "DoorLister$Paths"))) (hlk : meth.locks = false) (k : Mem → Int32 → Int32 → Option (Int32 × Mem)) (hkx : ∀ (M : Mem) (x1 x2 : Int32), GoX p l e rmX4_searched s m args below meth c 0 0 3 (fun rM => MQ below (cQr D ad cs (13 * pp + 8) rM) args s 0 0 (Ad ad)) D ad cs (Ad ad) M 93 [(0, .ref (ad (13 * q0 + 8))), (1, .int x1), (2, .int x2)] [] (k M x1 x2)) : ∀ (n : Nat) (M : Mem) (x1 x2 : Int32), GoX p l e rmX4_searched s m args below meth c 0 0 3 (fun rM => MQ below (cQr D ad cs (13 * pp + 8) rM) args s 0 0 (Ad ad)) D ad cs (Ad ad) M 56 [(0, .ref (ad (13 * q0 + 8))), (1, .int x1), (2, .int x2)] [] (f_X4_searched_L56 fu q0 k n M x1 x2) := by
  intro n
  induction n with
  | zero => intro M x1 x2; exact g_none
  | succ n ih =>
    intro M x1 x2
    unfold f_X4_searched_L56
    refine g_iload_n (pc := 56) F 2 dX4_searched_56 rfl ?_
    refine g_aload_n (pc := 57) F 0 dX4_searched_57 rfl ?_
    refine g_get (pc := 58) (v := .int (M (13 * q0 + 8) 5)) (k := 13 * q0 + 8) (ci := 4) (fs := (oX4 ad (q0))) (C := RX4) (T := TX4) (N := 14) F (P_lt hq0 (by decide)) (sh_X4 hq0) rfl kiX4_searched_X4 5 (by decide) klX4_searched_67 rfl rfl dX4_searched_58 ?_
    refine g_icmp_ge (pc := 61) F 93 dX4_searched_61 (by decide) ?_ ?_
    · exact hkx _ _ _
    · refine g_iload_n (pc := 64) F 2 dX4_searched_64 rfl ?_
      refine g_ldc (pc := 65) (v := 49152) F kwX4_searched_c11 dX4_searched_65 ?_
      refine g_icmp_ge (pc := 67) F 93 dX4_searched_67 (by decide) ?_ ?_
      · exact hkx _ _ _
      · refine g_iload_n (pc := 70) F 2 dX4_searched_70 rfl ?_
        refine g_iload_n (pc := 71) F 1 dX4_searched_71 rfl ?_
        refine g_icmp_ne (pc := 72) F 87 dX4_searched_72 (by decide) ?_ ?_
        · refine g_iinc (pc := 87) (v := x2 + 1) F [(0, .ref (ad (13 * q0 + 8))), (1, .int x1), (2, .int (x2 + 1))] 2 dX4_searched_87 rfl rfl (by decide) rfl rfl rfl ?_
          refine g_goto (pc := 90) F 56 dX4_searched_90 (by decide) ?_
          exact ih _ _ _
        · refine g_aload_n (pc := 75) F 0 dX4_searched_75 rfl ?_
          refine g_iload_n (pc := 76) F 2 dX4_searched_76 rfl ?_
          refine g_vi (pc := 77) (k := 13 * q0 + 8) (ci := 4) (fs := (oX4 ad (q0))) (C := RX4) (T := TX4) (N := 14) (As := [.int x2]) (st := []) F (c_X4_groupEnd l D ad cs F.2.2.1 fu q0 x2 hq0 M) (P_lt hq0 (by decide)) (sh_X4 hq0) rfl (cwV 1 F.1.2.2.2.2 gX4_searched_X4_groupEnd rfl rfl rfl hdV_X4_groupEnd ⟨by decide, by decide⟩) rfl rfl (Nat.le_of_ble_eq_true rfl) dX4_searched_77 ⟨Nat.zero_le _, Nat.zero_le _⟩ (fun r11 M12 => ?_)
          refine g_istore_n (pc := 80) F [(0, .ref (ad (13 * q0 + 8))), (1, .int r11), (2, .int x2)] dX4_searched_80 (by decide) rfl rfl rfl ?_
          refine g_aload_n (pc := 81) F 0 dX4_searched_81 rfl ?_
          refine g_iload_n (pc := 82) F 2 dX4_searched_82 rfl ?_
          refine g_iload_n (pc := 83) F 1 dX4_searched_83 rfl ?_
          refine g_vv (pc := 84) (k := 13 * q0 + 8) (ci := 4) (fs := (oX4 ad (q0))) (C := RX4) (T := TX4) (N := 14) (As := [.int x2, .int r11]) (st := []) F (c_X4_leave l D ad cs F.2.2.1 fu q0 x2 r11 hq0 M12) (P_lt hq0 (by decide)) (sh_X4 hq0) rfl (cwV 2 F.1.2.2.2.2 gX4_searched_X4_leave rfl rfl rfl hdV_X4_leave ⟨by decide, by decide⟩) rfl rfl (Nat.le_of_ble_eq_true rfl) dX4_searched_84 ⟨Nat.zero_le _, Nat.zero_le _⟩ (fun r13 M14 => ?_)
          refine g_iinc (pc := 87) (v := x2 + 1) F [(0, .ref (ad (13 * q0 + 8))), (1, .int r11), (2, .int (x2 + 1))] 2 dX4_searched_87 rfl rfl (by decide) rfl rfl rfl ?_
          refine g_goto (pc := 90) F 56 dX4_searched_90 (by decide) ?_
          exact ih _ _ _
set_option maxHeartbeats 4000000 in
set_option maxRecDepth 100000 in
theorem c_X4_searched (l : Launch) (D : va_G) (ad : Nat → Nat) (cs : Cs) (hi : Inj ad) (fu : Nat) (pp : Nat) (hpp : pp < 4) (M : Mem) : MR l yX4_searched wsX4_searched rmX4_searched D ad cs (13 * pp + 8) [.ref (ad (13 * pp + 8))] M (f_X4_searched fu pp M) := by
  refine Mx.of (cc := cX4_searched) (maxL := 3) (ret := (some (.object "DoorLister$Paths"))) (own := RX4) (lv := [(0, .ref (ad (13 * pp + 8)))]) (by decide) rfl rfl (Nat.le_of_ble_eq_true rfl) rfl hi ?_
  intro p e s m below meth c F hr hlk
  unfold f_X4_searched
  refine g_aload_n (pc := 0) F 0 dX4_searched_0 rfl ?_
  refine g_get (pc := 1) (v := .int (M (13 * pp + 8) 8)) (k := 13 * pp + 8) (ci := 4) (fs := (oX4 ad (pp))) (C := RX4) (T := TX4) (N := 14) F (P_lt hpp (by decide)) (sh_X4 hpp) rfl kiX4_searched_X4 8 (by decide) klX4_searched_34 rfl rfl dX4_searched_1 ?_
  refine g_if_ne (pc := 4) F 9 dX4_searched_4 (by decide) ?_ ?_
  · refine g_aload_n (pc := 9) F 0 dX4_searched_9 rfl ?_
    refine g_iconst (pc := 10) (v := 0) F dX4_searched_10 (by decide) ?_
    refine g_put (pc := 11) (k := 13 * pp + 8) (ci := 4) (fs := (oX4 ad (pp))) (C := RX4) (T := TX4) (N := 14) F (P_lt hpp (by decide)) (sh_X4 hpp) rfl kiX4_searched_X4 tyX4 tyX4_ok nmX4 8 (by decide) klX4_searched_34 rfl rfl rfl rfl (fun _ => rfl) (Nat.le_of_ble_eq_true rfl) dX4_searched_11 (fun M1 => ?_)
    refine g_aload_n (pc := 14) F 0 dX4_searched_14 rfl ?_
    refine g_get (pc := 15) (v := .ref (ad (54))) (k := 13 * pp + 8) (ci := 4) (fs := (oX4 ad (pp))) (C := RX4) (T := TX4) (N := 14) F (P_lt hpp (by decide)) (sh_X4 hpp) rfl kiX4_searched_X4 1 (by decide) klX4_searched_30 rfl rfl dX4_searched_15 ?_
    refine g_vv (pc := 18) (k := 54) (ci := 6) (fs := (oX6 ad)) (C := RX6) (T := TX6) (N := 3) (As := []) (st := []) F (c_X6_clear l D ad cs F.2.2.1 fu M1) (by decide) (fun _ => rfl) rfl (cwV 0 F.1.2.2.2.2 gX4_searched_X6_clear rfl rfl rfl hdV_X6_clear ⟨by decide, by decide⟩) rfl rfl (Nat.le_of_ble_eq_true rfl) dX4_searched_18 ⟨Nat.zero_le _, Nat.zero_le _⟩ (fun r2 M3 => ?_)
    refine g_aload_n (pc := 21) F 0 dX4_searched_21 rfl ?_
    refine g_get (pc := 22) (v := .ref (ad (13 * pp + 11))) (k := 13 * pp + 8) (ci := 4) (fs := (oX4 ad (pp))) (C := RX4) (T := TX4) (N := 14) F (P_lt hpp (by decide)) (sh_X4 hpp) rfl kiX4_searched_X4 4 (by decide) klX4_searched_22 rfl rfl dX4_searched_22 ?_
    refine g_vv (pc := 25) (k := 13 * pp + 11) (ci := 0) (fs := (oX0 ad (13 * pp + 11))) (C := RX0) (T := TX0) (N := 1) (As := []) (st := []) F (c_X0_clear l D ad cs F.2.2.1 fu (13 * pp + 11) (tab_c hpp) M3) (tab_lt (tab_c hpp)) (sh_X0 (tab_c hpp)) rfl (cwV 0 F.1.2.2.2.2 gX4_searched_X0_clear rfl rfl rfl hdV_X0_clear ⟨by decide, by decide⟩) rfl rfl (Nat.le_of_ble_eq_true rfl) dX4_searched_25 ⟨Nat.zero_le _, Nat.zero_le _⟩ (fun r4 M5 => ?_)
    refine g_aload_n (pc := 28) F 0 dX4_searched_28 rfl ?_
    refine g_iconst (pc := 29) (v := 0) F dX4_searched_29 (by decide) ?_
    refine g_put (pc := 30) (k := 13 * pp + 8) (ci := 4) (fs := (oX4 ad (pp))) (C := RX4) (T := TX4) (N := 14) F (P_lt hpp (by decide)) (sh_X4 hpp) rfl kiX4_searched_X4 tyX4 tyX4_ok nmX4 5 (by decide) klX4_searched_67 rfl rfl rfl rfl (fun _ => rfl) (Nat.le_of_ble_eq_true rfl) dX4_searched_30 (fun M6 => ?_)
    refine g_aload_n (pc := 33) F 0 dX4_searched_33 rfl ?_
    refine g_iconst (pc := 34) (v := 0) F dX4_searched_34 (by decide) ?_
    refine g_put (pc := 35) (k := 13 * pp + 8) (ci := 4) (fs := (oX4 ad (pp))) (C := RX4) (T := TX4) (N := 14) F (P_lt hpp (by decide)) (sh_X4 hpp) rfl kiX4_searched_X4 tyX4 tyX4_ok nmX4 6 (by decide) klX4_searched_38 rfl rfl rfl rfl (fun _ => rfl) (Nat.le_of_ble_eq_true rfl) dX4_searched_35 (fun M7 => ?_)
    refine g_aload_n (pc := 38) F 0 dX4_searched_38 rfl ?_
    refine g_iconst (pc := 39) (v := 1) F dX4_searched_39 (by decide) ?_
    refine g_put (pc := 40) (k := 13 * pp + 8) (ci := 4) (fs := (oX4 ad (pp))) (C := RX4) (T := TX4) (N := 14) F (P_lt hpp (by decide)) (sh_X4 hpp) rfl kiX4_searched_X4 tyX4 tyX4_ok nmX4 7 (by decide) klX4_searched_70 rfl rfl rfl rfl (fun _ => rfl) (Nat.le_of_ble_eq_true rfl) dX4_searched_40 (fun M8 => ?_)
    refine g_aload_n (pc := 43) F 0 dX4_searched_43 rfl ?_
    refine g_iconst (pc := 44) (v := 0) F dX4_searched_44 (by decide) ?_
    refine g_iconst (pc := 45) (v := 0) F dX4_searched_45 (by decide) ?_
    refine g_iconst (pc := 46) (v := 0) F dX4_searched_46 (by decide) ?_
    refine g_iconst (pc := 47) (v := 0) F dX4_searched_47 (by decide) ?_
    refine g_iconst (pc := 48) (v := 1) F dX4_searched_48 (by decide) ?_
    refine g_vv (pc := 49) (k := 13 * pp + 8) (ci := 4) (fs := (oX4 ad (pp))) (C := RX4) (T := TX4) (N := 14) (As := [.int 0, .int 0, .int 0, .int 0, .int 1]) (st := []) F (c_X4_push l D ad cs F.2.2.1 pp 0 0 0 0 1 hpp M8) (P_lt hpp (by decide)) (sh_X4 hpp) rfl (cwV 5 F.1.2.2.2.2 gX4_searched_X4_push rfl rfl rfl hdV_X4_push ⟨by decide, by decide⟩) rfl rfl (Nat.le_of_ble_eq_true rfl) dX4_searched_49 ⟨Nat.zero_le _, Nat.zero_le _⟩ (fun r9 M10 => ?_)
    refine g_iconst (pc := 52) (v := 0) F dX4_searched_52 (by decide) ?_
    refine g_istore_n (pc := 53) F [(0, .ref (ad (13 * pp + 8))), (1, .int 0)] dX4_searched_53 (by decide) rfl rfl rfl ?_
    refine g_iconst (pc := 54) (v := 0) F dX4_searched_54 (by decide) ?_
    refine g_istore_n (pc := 55) F [(0, .ref (ad (13 * pp + 8))), (1, .int 0), (2, .int 0)] dX4_searched_55 (by decide) rfl rfl rfl ?_
    refine w_X4_searched_L56 fu pp hpp F hr hlk _ (fun M15 y16 y17 => ?_) _ _ _ _
    refine g_aload_n (pc := 93) F 0 dX4_searched_93 rfl ?_
    exact g_aret (pc := 94) F hr hlk dX4_searched_94
  · refine g_aload_n (pc := 7) F 0 dX4_searched_7 rfl ?_
    exact g_aret (pc := 8) F hr hlk dX4_searched_8
-- X5_instructions
def rmX5_instructions : Room := { frames := 0, cells := 0, slots := 0, locals := 0 }
def f_X5_instructions (pp : Nat) (M : Mem) : Option (Int32 × Mem) := some (0, M)
set_option maxRecDepth 20000 in
theorem kiX5_instructions_X5 : ∀ w ∈ u_ws RX5 TX5 3, w ∈ wsX5_instructions := by decide +kernel
set_option maxRecDepth 20000 in
theorem klX5_instructions_18 : Cond.fieldLink RX5 18 "DoorLister$Program" "code" "LDoorLister$Code;" ∈ wsX5_instructions := by decide +kernel
set_option maxHeartbeats 4000000 in
set_option maxRecDepth 100000 in
theorem c_X5_instructions (l : Launch) (D : va_G) (ad : Nat → Nat) (cs : Cs) (hi : Inj ad) (pp : Nat) (hpp : pp < 4) (M : Mem) : MR l yX5_instructions wsX5_instructions rmX5_instructions D ad cs (13 * pp + 3) [.ref (ad (13 * pp + 2))] M (f_X5_instructions pp M) := by
  refine Mx.of (cc := cX5_instructions) (maxL := 1) (ret := (some (.object "DoorLister$Code"))) (own := RX5) (lv := [(0, .ref (ad (13 * pp + 2)))]) (by decide) rfl rfl (Nat.le_of_ble_eq_true rfl) rfl hi ?_
  intro p e s m below meth c F hr hlk
  unfold f_X5_instructions
  refine g_aload_n (pc := 0) F 0 dX5_instructions_0 rfl ?_
  refine g_get (pc := 1) (v := .ref (ad (13 * pp + 3))) (k := 13 * pp + 2) (ci := 5) (fs := (oX5 ad (pp))) (C := RX5) (T := TX5) (N := 3) F (P_lt hpp (by decide)) (sh_X5 hpp) rfl kiX5_instructions_X5 0 (by decide) klX5_instructions_18 rfl rfl dX5_instructions_1 ?_
  exact g_aret (pc := 4) F hr hlk dX5_instructions_4
-- X5_called
def rmX5_called : Room := { frames := 0, cells := 0, slots := 0, locals := 0 }
def f_X5_called (pp : Nat) (M : Mem) : Option (Int32 × Mem) := some (0, M)
set_option maxRecDepth 20000 in
theorem kiX5_called_X5 : ∀ w ∈ u_ws RX5 TX5 3, w ∈ wsX5_called := by decide +kernel
set_option maxRecDepth 20000 in
theorem klX5_called_12 : Cond.fieldLink RX5 12 "DoorLister$Program" "called" "LDoorLister$CallTable;" ∈ wsX5_called := by decide +kernel
set_option maxHeartbeats 4000000 in
set_option maxRecDepth 100000 in
theorem c_X5_called (l : Launch) (D : va_G) (ad : Nat → Nat) (cs : Cs) (hi : Inj ad) (pp : Nat) (hpp : pp < 4) (M : Mem) : MR l yX5_called wsX5_called rmX5_called D ad cs (13 * pp + 13) [.ref (ad (13 * pp + 2))] M (f_X5_called pp M) := by
  refine Mx.of (cc := cX5_called) (maxL := 1) (ret := (some (.object "DoorLister$CallTable"))) (own := RX5) (lv := [(0, .ref (ad (13 * pp + 2)))]) (by decide) rfl rfl (Nat.le_of_ble_eq_true rfl) rfl hi ?_
  intro p e s m below meth c F hr hlk
  unfold f_X5_called
  refine g_aload_n (pc := 0) F 0 dX5_called_0 rfl ?_
  refine g_get (pc := 1) (v := .ref (ad (13 * pp + 13))) (k := 13 * pp + 2) (ci := 5) (fs := (oX5 ad (pp))) (C := RX5) (T := TX5) (N := 3) F (P_lt hpp (by decide)) (sh_X5 hpp) rfl kiX5_called_X5 2 (by decide) klX5_called_12 rfl rfl dX5_called_1 ?_
  exact g_aret (pc := 4) F hr hlk dX5_called_4
-- X5_paths
def rmX5_paths : Room := { frames := 0, cells := 0, slots := 0, locals := 0 }
def f_X5_paths (pp : Nat) (M : Mem) : Option (Int32 × Mem) := some (0, M)
set_option maxRecDepth 20000 in
theorem kiX5_paths_X5 : ∀ w ∈ u_ws RX5 TX5 3, w ∈ wsX5_paths := by decide +kernel
set_option maxRecDepth 20000 in
theorem klX5_paths_22 : Cond.fieldLink RX5 22 "DoorLister$Program" "paths" "LDoorLister$Paths;" ∈ wsX5_paths := by decide +kernel
set_option maxHeartbeats 4000000 in
set_option maxRecDepth 100000 in
theorem c_X5_paths (l : Launch) (D : va_G) (ad : Nat → Nat) (cs : Cs) (hi : Inj ad) (pp : Nat) (hpp : pp < 4) (M : Mem) : MR l yX5_paths wsX5_paths rmX5_paths D ad cs (13 * pp + 8) [.ref (ad (13 * pp + 2))] M (f_X5_paths pp M) := by
  refine Mx.of (cc := cX5_paths) (maxL := 1) (ret := (some (.object "DoorLister$Paths"))) (own := RX5) (lv := [(0, .ref (ad (13 * pp + 2)))]) (by decide) rfl rfl (Nat.le_of_ble_eq_true rfl) rfl hi ?_
  intro p e s m below meth c F hr hlk
  unfold f_X5_paths
  refine g_aload_n (pc := 0) F 0 dX5_paths_0 rfl ?_
  refine g_get (pc := 1) (v := .ref (ad (13 * pp + 8))) (k := 13 * pp + 2) (ci := 5) (fs := (oX5 ad (pp))) (C := RX5) (T := TX5) (N := 3) F (P_lt hpp (by decide)) (sh_X5 hpp) rfl kiX5_paths_X5 1 (by decide) klX5_paths_22 rfl rfl dX5_paths_1 ?_
  exact g_aret (pc := 4) F hr hlk dX5_paths_4
