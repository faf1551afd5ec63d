/-! Written by wip/whole/gen.py: pure functions of methods, and the walks that tie the bytecode to them. -/
-- X2_leastCut
def rmX2_leastCut : Room := { frames := 2, cells := 0, slots := 0, locals := 89 }
def f_X2_leastCut_L45 (fu : Nat) (q1 : Nat) (x3 : Int32) (x4 : Int32) (k : Mem → Int32 → Int32 → Int32 → Option (Int32 × Mem)) : Nat → Mem → Int32 → Int32 → Int32 → Option (Int32 × Mem)
  | 0, _, _, _, _ => none
  | n + 1, M, x5, x6, x7 => if x4 < x7 then k M x5 x6 x7 else if x6 ≤ 0 then k M x5 x6 x7 else if (x7 &&& (x4 ^^^ (-1 : Int32))) = 0 then bnd (f_X2_takeOut fu q1 x7 M) (fun r9 M10 => if r9 < x6 then if (1 : Int32) = 0 then f_X2_leastCut_L45 fu q1 x3 x4 k n M10 x5 x6 (x7 + 1) else bnd (f_X2_powersBy fu 67 M10) (fun r11 M12 => bnd (f_X8_holds r11 x3 M12) (fun r13 M14 => if r13 = 0 then f_X2_leastCut_L45 fu q1 x3 x4 k n M14 x7 r9 (x7 + 1) else f_X2_leastCut_L45 fu q1 x3 x4 k n M14 x5 x6 (x7 + 1))) else if r9 = x6 then bnd (f_J6_bitCount_0f7a4 x7 M10) (fun r19 M20 => bnd (f_J6_bitCount_0f7a4 x5 M20) (fun r21 M22 => if r21 ≤ r19 then if (0 : Int32) = 0 then f_X2_leastCut_L45 fu q1 x3 x4 k n M22 x5 x6 (x7 + 1) else bnd (f_X2_powersBy fu 67 M22) (fun r23 M24 => bnd (f_X8_holds r23 x3 M24) (fun r25 M26 => if r25 = 0 then f_X2_leastCut_L45 fu q1 x3 x4 k n M26 x7 r9 (x7 + 1) else f_X2_leastCut_L45 fu q1 x3 x4 k n M26 x5 x6 (x7 + 1))) else if (1 : Int32) = 0 then f_X2_leastCut_L45 fu q1 x3 x4 k n M22 x5 x6 (x7 + 1) else bnd (f_X2_powersBy fu 67 M22) (fun r27 M28 => bnd (f_X8_holds r27 x3 M28) (fun r29 M30 => if r29 = 0 then f_X2_leastCut_L45 fu q1 x3 x4 k n M30 x7 r9 (x7 + 1) else f_X2_leastCut_L45 fu q1 x3 x4 k n M30 x5 x6 (x7 + 1))))) else if (0 : Int32) = 0 then f_X2_leastCut_L45 fu q1 x3 x4 k n M10 x5 x6 (x7 + 1) else bnd (f_X2_powersBy fu 67 M10) (fun r15 M16 => bnd (f_X8_holds r15 x3 M16) (fun r17 M18 => if r17 = 0 then f_X2_leastCut_L45 fu q1 x3 x4 k n M18 x7 r9 (x7 + 1) else f_X2_leastCut_L45 fu q1 x3 x4 k n M18 x5 x6 (x7 + 1)))) else f_X2_leastCut_L45 fu q1 x3 x4 k n M x5 x6 (x7 + 1)
def f_X2_leastCut (fu : Nat) (k1 : Nat) (k2 : Nat) (a3 : Int32) (M : Mem) : Option (Int32 × Mem) := bnd (f_X2_cuttable fu k1 k2 M) (fun r1 M2 => bnd (f_X2_takeOut fu k1 r1 M2) (fun r3 M4 => bnd (f_X2_powersBy fu 67 M4) (fun r5 M6 => bnd (f_X8_holds r5 a3 M6) (fun r7 M8 => if r7 = 0 then f_X2_leastCut_L45 fu k1 a3 r1 (fun M31 y32 y33 y34 => some (y32, M31)) fu M8 r1 1025 0 else some ((-1), M8)))))
set_option maxRecDepth 20000 in
theorem kiX2_leastCut_X2 : ∀ w ∈ u_ws RX2 TX2 6, w ∈ wsX2_leastCut := by decide +kernel
set_option maxRecDepth 20000 in
theorem klX2_leastCut_24 : Cond.fieldLink RX2 24 "DoorLister$House" "left" "[I" ∈ wsX2_leastCut := by decide +kernel
set_option maxRecDepth 20000 in
theorem kwX2_leastCut_iX8_holds : Cond.initialized yX8_holds.cls ∈ wsX2_leastCut := by decide +kernel
set_option maxRecDepth 20000 in
theorem kwX2_leastCut_sX8_holds : Cond.static yX8_holds ∈ wsX2_leastCut := by decide +kernel
set_option maxHeartbeats 4000000 in
set_option maxRecDepth 100000 in
theorem w_X2_leastCut_L45 {p : Program} {l : Launch} {e : Env} {s : State} {m : MethodId} {args : Array Value} {below : List Frame} {meth : Method} {c : Code} {D : va_G} {ad : Nat → Nat} {cs : Cs} (fu : Nat) (q1 : Nat) (x3 : Int32) (x4 : Int32) (hq1 : Row q1) (F : Fx p m c cX2_leastCut 10 s args wsX2_leastCut RX2 D ad cs (Ad ad)) (hr : meth.sig.returnType = (some .int)) (hlk : meth.locks = false) (k : Mem → Int32 → Int32 → Int32 → Option (Int32 × Mem)) (hkx : ∀ (M : Mem) (x5 x6 x7 : Int32), GoX p l e rmX2_leastCut s m args below meth c 0 0 10 (fun rM => MQ below (cQi D ad cs rM) args s 0 0 (Ad ad)) D ad cs (Ad ad) M 144 [(0, .ref (ad (62))), (1, .ref (ad (q1))), (3, .int x3), (4, .int x4), (5, .int x5), (6, .int x6), (7, .int x7)] [] (k M x5 x6 x7)) : ∀ (n : Nat) (M : Mem) (x5 x6 x7 : Int32), GoX p l e rmX2_leastCut s m args below meth c 0 0 10 (fun rM => MQ below (cQi D ad cs rM) args s 0 0 (Ad ad)) D ad cs (Ad ad) M 45 [(0, .ref (ad (62))), (1, .ref (ad (q1))), (3, .int x3), (4, .int x4), (5, .int x5), (6, .int x6), (7, .int x7)] [] (f_X2_leastCut_L45 fu q1 x3 x4 k n M x5 x6 x7) := by
  intro n
  induction n with
  | zero => intro M x5 x6 x7; exact g_none
  | succ n ih =>
    intro M x5 x6 x7
    unfold f_X2_leastCut_L45
    refine g_iload (pc := 45) F 6 dX2_leastCut_45 rfl ?_
    refine g_iload (pc := 47) F 3 dX2_leastCut_47 rfl ?_
    refine g_icmp_gt (pc := 49) F 144 dX2_leastCut_49 (by decide) ?_ ?_
    · exact hkx _ _ _ _
    · refine g_iload (pc := 52) F 5 dX2_leastCut_52 rfl ?_
      refine g_if_le (pc := 54) F 144 dX2_leastCut_54 (by decide) ?_ ?_
      · exact hkx _ _ _ _
      · refine g_iload (pc := 57) F 6 dX2_leastCut_57 rfl ?_
        refine g_iload (pc := 59) F 3 dX2_leastCut_59 rfl ?_
        refine g_iconst (pc := 61) (v := (-1)) F dX2_leastCut_61 (by decide) ?_
        refine g_ixor (pc := 62) F dX2_leastCut_62 ?_
        refine g_iand (pc := 63) F dX2_leastCut_63 ?_
        refine g_if_ne (pc := 64) F 138 dX2_leastCut_64 (by decide) ?_ ?_
        · refine g_iinc (pc := 138) (v := x7 + 1) F [(0, .ref (ad (62))), (1, .ref (ad (q1))), (3, .int x3), (4, .int x4), (5, .int x5), (6, .int x6), (7, .int (x7 + 1))] 6 dX2_leastCut_138 rfl rfl (by decide) rfl rfl rfl ?_
          refine g_goto (pc := 141) F 45 dX2_leastCut_141 (by decide) ?_
          exact ih _ _ _ _
        · refine g_aload_n (pc := 67) F 0 dX2_leastCut_67 rfl ?_
          refine g_aload_n (pc := 68) F 1 dX2_leastCut_68 rfl ?_
          refine g_iload (pc := 69) F 6 dX2_leastCut_69 rfl ?_
          refine g_vi (pc := 71) (k := 62) (ci := 2) (fs := (oX2 ad)) (C := RX2) (T := TX2) (N := 6) (As := [.ref (ad (q1)), .int x7]) (st := []) F (c_X2_takeOut l D ad cs F.2.2.1 fu q1 x7 hq1 M) (by decide) (fun _ => rfl) rfl (cwV 2 F.1.2.2.2.2 gX2_leastCut_X2_takeOut rfl rfl rfl hdV_X2_takeOut ⟨by decide, by decide⟩) rfl rfl (Nat.le_of_ble_eq_true rfl) dX2_leastCut_71 ⟨Nat.zero_le _, Nat.zero_le _⟩ (fun r9 M10 => ?_)
          refine g_istore (pc := 74) F [(0, .ref (ad (62))), (1, .ref (ad (q1))), (3, .int x3), (4, .int x4), (5, .int x5), (6, .int x6), (7, .int x7), (8, .int r9)] dX2_leastCut_74 (by decide) rfl rfl rfl ?_
          refine g_iload (pc := 76) F 7 dX2_leastCut_76 rfl ?_
          refine g_iload (pc := 78) F 5 dX2_leastCut_78 rfl ?_
          refine g_icmp_lt (pc := 80) F 103 dX2_leastCut_80 (by decide) ?_ ?_
          · refine g_iconst (pc := 103) (v := 1) F dX2_leastCut_103 (by decide) ?_
            refine g_goto (pc := 104) F 108 dX2_leastCut_104 (by decide) ?_
            refine g_istore (pc := 108) F [(0, .ref (ad (62))), (1, .ref (ad (q1))), (3, .int x3), (4, .int x4), (5, .int x5), (6, .int x6), (7, .int x7), (8, .int r9), (9, .int 1)] dX2_leastCut_108 (by decide) rfl rfl rfl ?_
            refine g_iload (pc := 110) F 8 dX2_leastCut_110 rfl ?_
            refine g_if_eq (pc := 112) F 138 dX2_leastCut_112 (by decide) ?_ ?_
            · refine g_iinc (pc := 138) (v := x7 + 1) F [(0, .ref (ad (62))), (1, .ref (ad (q1))), (3, .int x3), (4, .int x4), (5, .int x5), (6, .int x6), (7, .int (x7 + 1)), (8, .int r9), (9, .int 1)] 6 dX2_leastCut_138 rfl rfl (by decide) rfl rfl rfl ?_
              refine g_goto (pc := 141) F 45 dX2_leastCut_141 (by decide) ?_
              refine g_sub [0, 1, 2, 3, 4, 5, 6] [(0, .ref (ad (62))), (1, .ref (ad (q1))), (3, .int x3), (4, .int x4), (5, .int x5), (6, .int x6), (7, .int (x7 + 1))] rfl ?_
              exact ih _ _ _ _
            · refine g_aload_n (pc := 115) F 0 dX2_leastCut_115 rfl ?_
              refine g_aload_n (pc := 116) F 0 dX2_leastCut_116 rfl ?_
              refine g_get (pc := 117) (v := .ref (ad (67))) (k := 62) (ci := 2) (fs := (oX2 ad)) (C := RX2) (T := TX2) (N := 6) F (by decide) (fun _ => rfl) rfl kiX2_leastCut_X2 4 (by decide) klX2_leastCut_24 rfl rfl dX2_leastCut_117 ?_
              refine g_vi (pc := 120) (k := 62) (ci := 2) (fs := (oX2 ad)) (C := RX2) (T := TX2) (N := 6) (As := [.ref (ad (67))]) (st := []) F (c_X2_powersBy l D ad cs F.2.2.1 fu 67 (Or.inl rfl) M10) (by decide) (fun _ => rfl) rfl (cwV 1 F.1.2.2.2.2 gX2_leastCut_X2_powersBy rfl rfl rfl hdV_X2_powersBy ⟨by decide, by decide⟩) rfl rfl (Nat.le_of_ble_eq_true rfl) dX2_leastCut_120 ⟨Nat.zero_le _, Nat.zero_le _⟩ (fun r11 M12 => ?_)
              refine g_iload_n (pc := 123) F 2 dX2_leastCut_123 rfl ?_
              refine g_ni (pc := 124) (As := [.int r11, .int x3]) (st := []) F (c_X8_holds l D ad cs F.2.2.1 r11 x3 M12) ⟨va_cnB 2 F.1.2.2.2.2 gX2_leastCut_X8_holds_n47 rfl rfl rfl F.2.1.2.2.1 (F.1.2.2.2.2 _ kwX2_leastCut_iX8_holds) hdS_X8_holds ⟨by decide, by decide⟩, F.1.2.2.2.2 _ kwX2_leastCut_sX8_holds, trivial⟩ rfl rfl (Nat.le_of_ble_eq_true rfl) dX2_leastCut_124 ⟨Nat.zero_le _, Nat.zero_le _⟩ (fun r13 M14 => ?_)
              refine g_if_ne (pc := 127) F 138 dX2_leastCut_127 (by decide) ?_ ?_
              · refine g_iinc (pc := 138) (v := x7 + 1) F [(0, .ref (ad (62))), (1, .ref (ad (q1))), (3, .int x3), (4, .int x4), (5, .int x5), (6, .int x6), (7, .int (x7 + 1)), (8, .int r9), (9, .int 1)] 6 dX2_leastCut_138 rfl rfl (by decide) rfl rfl rfl ?_
                refine g_goto (pc := 141) F 45 dX2_leastCut_141 (by decide) ?_
                refine g_sub [0, 1, 2, 3, 4, 5, 6] [(0, .ref (ad (62))), (1, .ref (ad (q1))), (3, .int x3), (4, .int x4), (5, .int x5), (6, .int x6), (7, .int (x7 + 1))] rfl ?_
                exact ih _ _ _ _
              · refine g_iload (pc := 130) F 6 dX2_leastCut_130 rfl ?_
                refine g_istore (pc := 132) F [(0, .ref (ad (62))), (1, .ref (ad (q1))), (3, .int x3), (4, .int x4), (5, .int x7), (6, .int x6), (7, .int x7), (8, .int r9), (9, .int 1)] dX2_leastCut_132 (by decide) rfl rfl rfl ?_
                refine g_iload (pc := 134) F 7 dX2_leastCut_134 rfl ?_
                refine g_istore (pc := 136) F [(0, .ref (ad (62))), (1, .ref (ad (q1))), (3, .int x3), (4, .int x4), (5, .int x7), (6, .int r9), (7, .int x7), (8, .int r9), (9, .int 1)] dX2_leastCut_136 (by decide) rfl rfl rfl ?_
                refine g_iinc (pc := 138) (v := x7 + 1) F [(0, .ref (ad (62))), (1, .ref (ad (q1))), (3, .int x3), (4, .int x4), (5, .int x7), (6, .int r9), (7, .int (x7 + 1)), (8, .int r9), (9, .int 1)] 6 dX2_leastCut_138 rfl rfl (by decide) rfl rfl rfl ?_
                refine g_goto (pc := 141) F 45 dX2_leastCut_141 (by decide) ?_
                refine g_sub [0, 1, 2, 3, 4, 5, 6] [(0, .ref (ad (62))), (1, .ref (ad (q1))), (3, .int x3), (4, .int x4), (5, .int x7), (6, .int r9), (7, .int (x7 + 1))] rfl ?_
                exact ih _ _ _ _
          · refine g_iload (pc := 83) F 7 dX2_leastCut_83 rfl ?_
            refine g_iload (pc := 85) F 5 dX2_leastCut_85 rfl ?_
            refine g_icmp_ne (pc := 87) F 107 dX2_leastCut_87 (by decide) ?_ ?_
            · refine g_iconst (pc := 107) (v := 0) F dX2_leastCut_107 (by decide) ?_
              refine g_istore (pc := 108) F [(0, .ref (ad (62))), (1, .ref (ad (q1))), (3, .int x3), (4, .int x4), (5, .int x5), (6, .int x6), (7, .int x7), (8, .int r9), (9, .int 0)] dX2_leastCut_108 (by decide) rfl rfl rfl ?_
              refine g_iload (pc := 110) F 8 dX2_leastCut_110 rfl ?_
              refine g_if_eq (pc := 112) F 138 dX2_leastCut_112 (by decide) ?_ ?_
              · refine g_iinc (pc := 138) (v := x7 + 1) F [(0, .ref (ad (62))), (1, .ref (ad (q1))), (3, .int x3), (4, .int x4), (5, .int x5), (6, .int x6), (7, .int (x7 + 1)), (8, .int r9), (9, .int 0)] 6 dX2_leastCut_138 rfl rfl (by decide) rfl rfl rfl ?_
                refine g_goto (pc := 141) F 45 dX2_leastCut_141 (by decide) ?_
                refine g_sub [0, 1, 2, 3, 4, 5, 6] [(0, .ref (ad (62))), (1, .ref (ad (q1))), (3, .int x3), (4, .int x4), (5, .int x5), (6, .int x6), (7, .int (x7 + 1))] rfl ?_
                exact ih _ _ _ _
              · refine g_aload_n (pc := 115) F 0 dX2_leastCut_115 rfl ?_
                refine g_aload_n (pc := 116) F 0 dX2_leastCut_116 rfl ?_
                refine g_get (pc := 117) (v := .ref (ad (67))) (k := 62) (ci := 2) (fs := (oX2 ad)) (C := RX2) (T := TX2) (N := 6) F (by decide) (fun _ => rfl) rfl kiX2_leastCut_X2 4 (by decide) klX2_leastCut_24 rfl rfl dX2_leastCut_117 ?_
                refine g_vi (pc := 120) (k := 62) (ci := 2) (fs := (oX2 ad)) (C := RX2) (T := TX2) (N := 6) (As := [.ref (ad (67))]) (st := []) F (c_X2_powersBy l D ad cs F.2.2.1 fu 67 (Or.inl rfl) M10) (by decide) (fun _ => rfl) rfl (cwV 1 F.1.2.2.2.2 gX2_leastCut_X2_powersBy rfl rfl rfl hdV_X2_powersBy ⟨by decide, by decide⟩) rfl rfl (Nat.le_of_ble_eq_true rfl) dX2_leastCut_120 ⟨Nat.zero_le _, Nat.zero_le _⟩ (fun r15 M16 => ?_)
                refine g_iload_n (pc := 123) F 2 dX2_leastCut_123 rfl ?_
                refine g_ni (pc := 124) (As := [.int r15, .int x3]) (st := []) F (c_X8_holds l D ad cs F.2.2.1 r15 x3 M16) ⟨va_cnB 2 F.1.2.2.2.2 gX2_leastCut_X8_holds_n47 rfl rfl rfl F.2.1.2.2.1 (F.1.2.2.2.2 _ kwX2_leastCut_iX8_holds) hdS_X8_holds ⟨by decide, by decide⟩, F.1.2.2.2.2 _ kwX2_leastCut_sX8_holds, trivial⟩ rfl rfl (Nat.le_of_ble_eq_true rfl) dX2_leastCut_124 ⟨Nat.zero_le _, Nat.zero_le _⟩ (fun r17 M18 => ?_)
                refine g_if_ne (pc := 127) F 138 dX2_leastCut_127 (by decide) ?_ ?_
                · refine g_iinc (pc := 138) (v := x7 + 1) F [(0, .ref (ad (62))), (1, .ref (ad (q1))), (3, .int x3), (4, .int x4), (5, .int x5), (6, .int x6), (7, .int (x7 + 1)), (8, .int r9), (9, .int 0)] 6 dX2_leastCut_138 rfl rfl (by decide) rfl rfl rfl ?_
                  refine g_goto (pc := 141) F 45 dX2_leastCut_141 (by decide) ?_
                  refine g_sub [0, 1, 2, 3, 4, 5, 6] [(0, .ref (ad (62))), (1, .ref (ad (q1))), (3, .int x3), (4, .int x4), (5, .int x5), (6, .int x6), (7, .int (x7 + 1))] rfl ?_
                  exact ih _ _ _ _
                · refine g_iload (pc := 130) F 6 dX2_leastCut_130 rfl ?_
                  refine g_istore (pc := 132) F [(0, .ref (ad (62))), (1, .ref (ad (q1))), (3, .int x3), (4, .int x4), (5, .int x7), (6, .int x6), (7, .int x7), (8, .int r9), (9, .int 0)] dX2_leastCut_132 (by decide) rfl rfl rfl ?_
                  refine g_iload (pc := 134) F 7 dX2_leastCut_134 rfl ?_
                  refine g_istore (pc := 136) F [(0, .ref (ad (62))), (1, .ref (ad (q1))), (3, .int x3), (4, .int x4), (5, .int x7), (6, .int r9), (7, .int x7), (8, .int r9), (9, .int 0)] dX2_leastCut_136 (by decide) rfl rfl rfl ?_
                  refine g_iinc (pc := 138) (v := x7 + 1) F [(0, .ref (ad (62))), (1, .ref (ad (q1))), (3, .int x3), (4, .int x4), (5, .int x7), (6, .int r9), (7, .int (x7 + 1)), (8, .int r9), (9, .int 0)] 6 dX2_leastCut_138 rfl rfl (by decide) rfl rfl rfl ?_
                  refine g_goto (pc := 141) F 45 dX2_leastCut_141 (by decide) ?_
                  refine g_sub [0, 1, 2, 3, 4, 5, 6] [(0, .ref (ad (62))), (1, .ref (ad (q1))), (3, .int x3), (4, .int x4), (5, .int x7), (6, .int r9), (7, .int (x7 + 1))] rfl ?_
                  exact ih _ _ _ _
            · refine g_iload (pc := 90) F 6 dX2_leastCut_90 rfl ?_
              refine g_si (pc := 92) (As := [.int x7]) (st := []) F (c_J6_bitCount_0f7a4 l D ad cs F.2.2.1 x7 M10) (va_cwS 1 F.1.2.2.2.2 gX2_leastCut_J6_bitCount_0f7a4 rfl rfl rfl hdS_J6_bitCount_0f7a4 ⟨by decide, by decide⟩) rfl rfl (Nat.le_of_ble_eq_true rfl) dX2_leastCut_92 ⟨Nat.zero_le _, Nat.zero_le _⟩ (fun r19 M20 => ?_)
              refine g_iload (pc := 95) F 4 dX2_leastCut_95 rfl ?_
              refine g_si (pc := 97) (As := [.int x5]) (st := [.int r19]) F (c_J6_bitCount_0f7a4 l D ad cs F.2.2.1 x5 M20) (va_cwS 1 F.1.2.2.2.2 gX2_leastCut_J6_bitCount_0f7a4 rfl rfl rfl hdS_J6_bitCount_0f7a4 ⟨by decide, by decide⟩) rfl rfl (Nat.le_of_ble_eq_true rfl) dX2_leastCut_97 ⟨Nat.zero_le _, Nat.zero_le _⟩ (fun r21 M22 => ?_)
              refine g_icmp_ge (pc := 100) F 107 dX2_leastCut_100 (by decide) ?_ ?_
              · refine g_iconst (pc := 107) (v := 0) F dX2_leastCut_107 (by decide) ?_
                refine g_istore (pc := 108) F [(0, .ref (ad (62))), (1, .ref (ad (q1))), (3, .int x3), (4, .int x4), (5, .int x5), (6, .int x6), (7, .int x7), (8, .int r9), (9, .int 0)] dX2_leastCut_108 (by decide) rfl rfl rfl ?_
                refine g_iload (pc := 110) F 8 dX2_leastCut_110 rfl ?_
                refine g_if_eq (pc := 112) F 138 dX2_leastCut_112 (by decide) ?_ ?_
                · refine g_iinc (pc := 138) (v := x7 + 1) F [(0, .ref (ad (62))), (1, .ref (ad (q1))), (3, .int x3), (4, .int x4), (5, .int x5), (6, .int x6), (7, .int (x7 + 1)), (8, .int r9), (9, .int 0)] 6 dX2_leastCut_138 rfl rfl (by decide) rfl rfl rfl ?_
                  refine g_goto (pc := 141) F 45 dX2_leastCut_141 (by decide) ?_
                  refine g_sub [0, 1, 2, 3, 4, 5, 6] [(0, .ref (ad (62))), (1, .ref (ad (q1))), (3, .int x3), (4, .int x4), (5, .int x5), (6, .int x6), (7, .int (x7 + 1))] rfl ?_
                  exact ih _ _ _ _
                · refine g_aload_n (pc := 115) F 0 dX2_leastCut_115 rfl ?_
                  refine g_aload_n (pc := 116) F 0 dX2_leastCut_116 rfl ?_
                  refine g_get (pc := 117) (v := .ref (ad (67))) (k := 62) (ci := 2) (fs := (oX2 ad)) (C := RX2) (T := TX2) (N := 6) F (by decide) (fun _ => rfl) rfl kiX2_leastCut_X2 4 (by decide) klX2_leastCut_24 rfl rfl dX2_leastCut_117 ?_
                  refine g_vi (pc := 120) (k := 62) (ci := 2) (fs := (oX2 ad)) (C := RX2) (T := TX2) (N := 6) (As := [.ref (ad (67))]) (st := []) F (c_X2_powersBy l D ad cs F.2.2.1 fu 67 (Or.inl rfl) M22) (by decide) (fun _ => rfl) rfl (cwV 1 F.1.2.2.2.2 gX2_leastCut_X2_powersBy rfl rfl rfl hdV_X2_powersBy ⟨by decide, by decide⟩) rfl rfl (Nat.le_of_ble_eq_true rfl) dX2_leastCut_120 ⟨Nat.zero_le _, Nat.zero_le _⟩ (fun r23 M24 => ?_)
                  refine g_iload_n (pc := 123) F 2 dX2_leastCut_123 rfl ?_
                  refine g_ni (pc := 124) (As := [.int r23, .int x3]) (st := []) F (c_X8_holds l D ad cs F.2.2.1 r23 x3 M24) ⟨va_cnB 2 F.1.2.2.2.2 gX2_leastCut_X8_holds_n47 rfl rfl rfl F.2.1.2.2.1 (F.1.2.2.2.2 _ kwX2_leastCut_iX8_holds) hdS_X8_holds ⟨by decide, by decide⟩, F.1.2.2.2.2 _ kwX2_leastCut_sX8_holds, trivial⟩ rfl rfl (Nat.le_of_ble_eq_true rfl) dX2_leastCut_124 ⟨Nat.zero_le _, Nat.zero_le _⟩ (fun r25 M26 => ?_)
                  refine g_if_ne (pc := 127) F 138 dX2_leastCut_127 (by decide) ?_ ?_
                  · refine g_iinc (pc := 138) (v := x7 + 1) F [(0, .ref (ad (62))), (1, .ref (ad (q1))), (3, .int x3), (4, .int x4), (5, .int x5), (6, .int x6), (7, .int (x7 + 1)), (8, .int r9), (9, .int 0)] 6 dX2_leastCut_138 rfl rfl (by decide) rfl rfl rfl ?_
                    refine g_goto (pc := 141) F 45 dX2_leastCut_141 (by decide) ?_
                    refine g_sub [0, 1, 2, 3, 4, 5, 6] [(0, .ref (ad (62))), (1, .ref (ad (q1))), (3, .int x3), (4, .int x4), (5, .int x5), (6, .int x6), (7, .int (x7 + 1))] rfl ?_
                    exact ih _ _ _ _
                  · refine g_iload (pc := 130) F 6 dX2_leastCut_130 rfl ?_
                    refine g_istore (pc := 132) F [(0, .ref (ad (62))), (1, .ref (ad (q1))), (3, .int x3), (4, .int x4), (5, .int x7), (6, .int x6), (7, .int x7), (8, .int r9), (9, .int 0)] dX2_leastCut_132 (by decide) rfl rfl rfl ?_
                    refine g_iload (pc := 134) F 7 dX2_leastCut_134 rfl ?_
                    refine g_istore (pc := 136) F [(0, .ref (ad (62))), (1, .ref (ad (q1))), (3, .int x3), (4, .int x4), (5, .int x7), (6, .int r9), (7, .int x7), (8, .int r9), (9, .int 0)] dX2_leastCut_136 (by decide) rfl rfl rfl ?_
                    refine g_iinc (pc := 138) (v := x7 + 1) F [(0, .ref (ad (62))), (1, .ref (ad (q1))), (3, .int x3), (4, .int x4), (5, .int x7), (6, .int r9), (7, .int (x7 + 1)), (8, .int r9), (9, .int 0)] 6 dX2_leastCut_138 rfl rfl (by decide) rfl rfl rfl ?_
                    refine g_goto (pc := 141) F 45 dX2_leastCut_141 (by decide) ?_
                    refine g_sub [0, 1, 2, 3, 4, 5, 6] [(0, .ref (ad (62))), (1, .ref (ad (q1))), (3, .int x3), (4, .int x4), (5, .int x7), (6, .int r9), (7, .int (x7 + 1))] rfl ?_
                    exact ih _ _ _ _
              · refine g_iconst (pc := 103) (v := 1) F dX2_leastCut_103 (by decide) ?_
                refine g_goto (pc := 104) F 108 dX2_leastCut_104 (by decide) ?_
                refine g_istore (pc := 108) F [(0, .ref (ad (62))), (1, .ref (ad (q1))), (3, .int x3), (4, .int x4), (5, .int x5), (6, .int x6), (7, .int x7), (8, .int r9), (9, .int 1)] dX2_leastCut_108 (by decide) rfl rfl rfl ?_
                refine g_iload (pc := 110) F 8 dX2_leastCut_110 rfl ?_
                refine g_if_eq (pc := 112) F 138 dX2_leastCut_112 (by decide) ?_ ?_
                · refine g_iinc (pc := 138) (v := x7 + 1) F [(0, .ref (ad (62))), (1, .ref (ad (q1))), (3, .int x3), (4, .int x4), (5, .int x5), (6, .int x6), (7, .int (x7 + 1)), (8, .int r9), (9, .int 1)] 6 dX2_leastCut_138 rfl rfl (by decide) rfl rfl rfl ?_
                  refine g_goto (pc := 141) F 45 dX2_leastCut_141 (by decide) ?_
                  refine g_sub [0, 1, 2, 3, 4, 5, 6] [(0, .ref (ad (62))), (1, .ref (ad (q1))), (3, .int x3), (4, .int x4), (5, .int x5), (6, .int x6), (7, .int (x7 + 1))] rfl ?_
                  exact ih _ _ _ _
                · refine g_aload_n (pc := 115) F 0 dX2_leastCut_115 rfl ?_
                  refine g_aload_n (pc := 116) F 0 dX2_leastCut_116 rfl ?_
                  refine g_get (pc := 117) (v := .ref (ad (67))) (k := 62) (ci := 2) (fs := (oX2 ad)) (C := RX2) (T := TX2) (N := 6) F (by decide) (fun _ => rfl) rfl kiX2_leastCut_X2 4 (by decide) klX2_leastCut_24 rfl rfl dX2_leastCut_117 ?_
                  refine g_vi (pc := 120) (k := 62) (ci := 2) (fs := (oX2 ad)) (C := RX2) (T := TX2) (N := 6) (As := [.ref (ad (67))]) (st := []) F (c_X2_powersBy l D ad cs F.2.2.1 fu 67 (Or.inl rfl) M22) (by decide) (fun _ => rfl) rfl (cwV 1 F.1.2.2.2.2 gX2_leastCut_X2_powersBy rfl rfl rfl hdV_X2_powersBy ⟨by decide, by decide⟩) rfl rfl (Nat.le_of_ble_eq_true rfl) dX2_leastCut_120 ⟨Nat.zero_le _, Nat.zero_le _⟩ (fun r27 M28 => ?_)
                  refine g_iload_n (pc := 123) F 2 dX2_leastCut_123 rfl ?_
                  refine g_ni (pc := 124) (As := [.int r27, .int x3]) (st := []) F (c_X8_holds l D ad cs F.2.2.1 r27 x3 M28) ⟨va_cnB 2 F.1.2.2.2.2 gX2_leastCut_X8_holds_n47 rfl rfl rfl F.2.1.2.2.1 (F.1.2.2.2.2 _ kwX2_leastCut_iX8_holds) hdS_X8_holds ⟨by decide, by decide⟩, F.1.2.2.2.2 _ kwX2_leastCut_sX8_holds, trivial⟩ rfl rfl (Nat.le_of_ble_eq_true rfl) dX2_leastCut_124 ⟨Nat.zero_le _, Nat.zero_le _⟩ (fun r29 M30 => ?_)
                  refine g_if_ne (pc := 127) F 138 dX2_leastCut_127 (by decide) ?_ ?_
                  · refine g_iinc (pc := 138) (v := x7 + 1) F [(0, .ref (ad (62))), (1, .ref (ad (q1))), (3, .int x3), (4, .int x4), (5, .int x5), (6, .int x6), (7, .int (x7 + 1)), (8, .int r9), (9, .int 1)] 6 dX2_leastCut_138 rfl rfl (by decide) rfl rfl rfl ?_
                    refine g_goto (pc := 141) F 45 dX2_leastCut_141 (by decide) ?_
                    refine g_sub [0, 1, 2, 3, 4, 5, 6] [(0, .ref (ad (62))), (1, .ref (ad (q1))), (3, .int x3), (4, .int x4), (5, .int x5), (6, .int x6), (7, .int (x7 + 1))] rfl ?_
                    exact ih _ _ _ _
                  · refine g_iload (pc := 130) F 6 dX2_leastCut_130 rfl ?_
                    refine g_istore (pc := 132) F [(0, .ref (ad (62))), (1, .ref (ad (q1))), (3, .int x3), (4, .int x4), (5, .int x7), (6, .int x6), (7, .int x7), (8, .int r9), (9, .int 1)] dX2_leastCut_132 (by decide) rfl rfl rfl ?_
                    refine g_iload (pc := 134) F 7 dX2_leastCut_134 rfl ?_
                    refine g_istore (pc := 136) F [(0, .ref (ad (62))), (1, .ref (ad (q1))), (3, .int x3), (4, .int x4), (5, .int x7), (6, .int r9), (7, .int x7), (8, .int r9), (9, .int 1)] dX2_leastCut_136 (by decide) rfl rfl rfl ?_
                    refine g_iinc (pc := 138) (v := x7 + 1) F [(0, .ref (ad (62))), (1, .ref (ad (q1))), (3, .int x3), (4, .int x4), (5, .int x7), (6, .int r9), (7, .int (x7 + 1)), (8, .int r9), (9, .int 1)] 6 dX2_leastCut_138 rfl rfl (by decide) rfl rfl rfl ?_
                    refine g_goto (pc := 141) F 45 dX2_leastCut_141 (by decide) ?_
                    refine g_sub [0, 1, 2, 3, 4, 5, 6] [(0, .ref (ad (62))), (1, .ref (ad (q1))), (3, .int x3), (4, .int x4), (5, .int x7), (6, .int r9), (7, .int (x7 + 1))] rfl ?_
                    exact ih _ _ _ _
set_option maxHeartbeats 4000000 in
set_option maxRecDepth 100000 in
theorem c_X2_leastCut (l : Launch) (D : va_G) (ad : Nat → Nat) (cs : Cs) (hi : Inj ad) (fu : Nat) (k1 : Nat) (k2 : Nat) (a3 : Int32) (h1 : Row k1) (h2 : Row k2) (M : Mem) : MI l yX2_leastCut wsX2_leastCut rmX2_leastCut D ad cs [.ref (ad (62)), .ref (ad (k1)), .ref (ad (k2)), .int a3] M (f_X2_leastCut fu k1 k2 a3 M) := by
  refine Mx.of (cc := cX2_leastCut) (maxL := 10) (ret := (some .int)) (own := RX2) (lv := [(0, .ref (ad (62))), (1, .ref (ad (k1))), (2, .ref (ad (k2))), (3, .int a3)]) (by decide) rfl rfl (Nat.le_of_ble_eq_true rfl) rfl hi ?_
  intro p e s m below meth c F hr hlk
  unfold f_X2_leastCut
  refine g_aload_n (pc := 0) F 0 dX2_leastCut_0 rfl ?_
  refine g_aload_n (pc := 1) F 1 dX2_leastCut_1 rfl ?_
  refine g_aload_n (pc := 2) F 2 dX2_leastCut_2 rfl ?_
  refine g_vi (pc := 3) (k := 62) (ci := 2) (fs := (oX2 ad)) (C := RX2) (T := TX2) (N := 6) (As := [.ref (ad (k1)), .ref (ad (k2))]) (st := []) F (c_X2_cuttable l D ad cs F.2.2.1 fu k1 k2 h1 h2 M) (by decide) (fun _ => rfl) rfl (cwV 2 F.1.2.2.2.2 gX2_leastCut_X2_cuttable rfl rfl rfl hdV_X2_cuttable ⟨by decide, by decide⟩) rfl rfl (Nat.le_of_ble_eq_true rfl) dX2_leastCut_3 ⟨Nat.zero_le _, Nat.zero_le _⟩ (fun r1 M2 => ?_)
  refine g_istore (pc := 6) F [(0, .ref (ad (62))), (1, .ref (ad (k1))), (2, .ref (ad (k2))), (3, .int a3), (4, .int r1)] dX2_leastCut_6 (by decide) rfl rfl rfl ?_
  refine g_aload_n (pc := 8) F 0 dX2_leastCut_8 rfl ?_
  refine g_aload_n (pc := 9) F 1 dX2_leastCut_9 rfl ?_
  refine g_iload (pc := 10) F 4 dX2_leastCut_10 rfl ?_
  refine g_vi (pc := 12) (k := 62) (ci := 2) (fs := (oX2 ad)) (C := RX2) (T := TX2) (N := 6) (As := [.ref (ad (k1)), .int r1]) (st := []) F (c_X2_takeOut l D ad cs F.2.2.1 fu k1 r1 h1 M2) (by decide) (fun _ => rfl) rfl (cwV 2 F.1.2.2.2.2 gX2_leastCut_X2_takeOut rfl rfl rfl hdV_X2_takeOut ⟨by decide, by decide⟩) rfl rfl (Nat.le_of_ble_eq_true rfl) dX2_leastCut_12 ⟨Nat.zero_le _, Nat.zero_le _⟩ (fun r3 M4 => ?_)
  refine g_pop (pc := 15) F rfl dX2_leastCut_15 ?_
  refine g_aload_n (pc := 16) F 0 dX2_leastCut_16 rfl ?_
  refine g_aload_n (pc := 17) F 0 dX2_leastCut_17 rfl ?_
  refine g_get (pc := 18) (v := .ref (ad (67))) (k := 62) (ci := 2) (fs := (oX2 ad)) (C := RX2) (T := TX2) (N := 6) F (by decide) (fun _ => rfl) rfl kiX2_leastCut_X2 4 (by decide) klX2_leastCut_24 rfl rfl dX2_leastCut_18 ?_
  refine g_vi (pc := 21) (k := 62) (ci := 2) (fs := (oX2 ad)) (C := RX2) (T := TX2) (N := 6) (As := [.ref (ad (67))]) (st := []) F (c_X2_powersBy l D ad cs F.2.2.1 fu 67 (Or.inl rfl) M4) (by decide) (fun _ => rfl) rfl (cwV 1 F.1.2.2.2.2 gX2_leastCut_X2_powersBy rfl rfl rfl hdV_X2_powersBy ⟨by decide, by decide⟩) rfl rfl (Nat.le_of_ble_eq_true rfl) dX2_leastCut_21 ⟨Nat.zero_le _, Nat.zero_le _⟩ (fun r5 M6 => ?_)
  refine g_iload_n (pc := 24) F 3 dX2_leastCut_24 rfl ?_
  refine g_ni (pc := 25) (As := [.int r5, .int a3]) (st := []) F (c_X8_holds l D ad cs F.2.2.1 r5 a3 M6) ⟨va_cnB 2 F.1.2.2.2.2 gX2_leastCut_X8_holds_n47 rfl rfl rfl F.2.1.2.2.1 (F.1.2.2.2.2 _ kwX2_leastCut_iX8_holds) hdS_X8_holds ⟨by decide, by decide⟩, F.1.2.2.2.2 _ kwX2_leastCut_sX8_holds, trivial⟩ rfl rfl (Nat.le_of_ble_eq_true rfl) dX2_leastCut_25 ⟨Nat.zero_le _, Nat.zero_le _⟩ (fun r7 M8 => ?_)
  refine g_if_eq (pc := 28) F 33 dX2_leastCut_28 (by decide) ?_ ?_
  · refine g_iload (pc := 33) F 4 dX2_leastCut_33 rfl ?_
    refine g_istore (pc := 35) F [(0, .ref (ad (62))), (1, .ref (ad (k1))), (2, .ref (ad (k2))), (3, .int a3), (4, .int r1), (5, .int r1)] dX2_leastCut_35 (by decide) rfl rfl rfl ?_
    refine g_sipush (pc := 37) (v := 1025) F dX2_leastCut_37 (by decide) ?_
    refine g_istore (pc := 40) F [(0, .ref (ad (62))), (1, .ref (ad (k1))), (2, .ref (ad (k2))), (3, .int a3), (4, .int r1), (5, .int r1), (6, .int 1025)] dX2_leastCut_40 (by decide) rfl rfl rfl ?_
    refine g_iconst (pc := 42) (v := 0) F dX2_leastCut_42 (by decide) ?_
    refine g_istore (pc := 43) F [(0, .ref (ad (62))), (1, .ref (ad (k1))), (2, .ref (ad (k2))), (3, .int a3), (4, .int r1), (5, .int r1), (6, .int 1025), (7, .int 0)] dX2_leastCut_43 (by decide) rfl rfl rfl ?_
    refine g_sub [0, 1, 3, 4, 5, 6, 7] [(0, .ref (ad (62))), (1, .ref (ad (k1))), (3, .int a3), (4, .int r1), (5, .int r1), (6, .int 1025), (7, .int 0)] rfl ?_
    refine w_X2_leastCut_L45 fu k1 a3 r1 h1 F hr hlk _ (fun M31 y32 y33 y34 => ?_) _ _ _ _ _
    refine g_iload (pc := 144) F 4 dX2_leastCut_144 rfl ?_
    exact g_iret (pc := 146) F hr hlk dX2_leastCut_146
  · refine g_iconst (pc := 31) (v := (-1)) F dX2_leastCut_31 (by decide) ?_
    exact g_iret (pc := 32) F hr hlk dX2_leastCut_32
-- X3_latestEnd
def rmX3_latestEnd : Room := { frames := 0, cells := 0, slots := 0, locals := 0 }
def f_X3_latestEnd  (M : Mem) : Option (Int32 × Mem) := some (M (60) 5, M)
set_option maxRecDepth 20000 in
theorem kiX3_latestEnd_X3 : ∀ w ∈ u_ws RX3 TX3 6, w ∈ wsX3_latestEnd := by decide +kernel
set_option maxRecDepth 20000 in
theorem klX3_latestEnd_15 : Cond.fieldLink RX3 15 "DoorLister$Machine" "latestEnd" "I" ∈ wsX3_latestEnd := by decide +kernel
set_option maxHeartbeats 4000000 in
set_option maxRecDepth 100000 in
theorem c_X3_latestEnd (l : Launch) (D : va_G) (ad : Nat → Nat) (cs : Cs) (hi : Inj ad)  (M : Mem) : MI l yX3_latestEnd wsX3_latestEnd rmX3_latestEnd D ad cs [.ref (ad (60))] M (f_X3_latestEnd M) := by
  refine Mx.of (cc := cX3_latestEnd) (maxL := 1) (ret := (some .int)) (own := RX3) (lv := [(0, .ref (ad (60)))]) (by decide) rfl rfl (Nat.le_of_ble_eq_true rfl) rfl hi ?_
  intro p e s m below meth c F hr hlk
  unfold f_X3_latestEnd
  refine g_aload_n (pc := 0) F 0 dX3_latestEnd_0 rfl ?_
  refine g_get (pc := 1) (v := .int (M (60) 5)) (k := 60) (ci := 3) (fs := (oX3 ad)) (C := RX3) (T := TX3) (N := 6) F (by decide) (fun _ => rfl) rfl kiX3_latestEnd_X3 5 (by decide) klX3_latestEnd_15 rfl rfl dX3_latestEnd_1 ?_
  exact g_iret (pc := 4) F hr hlk dX3_latestEnd_4
-- X3_endAfter
def rmX3_endAfter : Room := { frames := 2, cells := 0, slots := 0, locals := 42 }
def f_X3_endAfter (a1 : Int32) (p2 : Nat) (a3 : Int32) (M : Mem) : Option (Int32 × Mem) := bnd (f_X1_isEnd p2 (M (60) 1) M) (fun r1 M2 => if r1 = 0 then if a1 < 500 then bnd (f_X1_kind p2 (M2 (60) 1) M2) (fun r3 M4 => if r3 = 3 then if (M4 (60) 3) < a3 then some ((-1), M4) else some (1, M4) else some ((-1), M4)) else some (2, M2) else some (0, M2))
set_option maxRecDepth 20000 in
theorem kiX3_endAfter_X3 : ∀ w ∈ u_ws RX3 TX3 6, w ∈ wsX3_endAfter := by decide +kernel
set_option maxRecDepth 20000 in
theorem klX3_endAfter_25 : Cond.fieldLink RX3 25 "DoorLister$Machine" "at" "I" ∈ wsX3_endAfter := by decide +kernel
set_option maxRecDepth 20000 in
theorem klX3_endAfter_31 : Cond.fieldLink RX3 31 "DoorLister$Machine" "taken" "I" ∈ wsX3_endAfter := by decide +kernel
set_option maxHeartbeats 4000000 in
set_option maxRecDepth 100000 in
theorem c_X3_endAfter (l : Launch) (D : va_G) (ad : Nat → Nat) (cs : Cs) (hi : Inj ad) (a1 : Int32) (p2 : Nat) (a3 : Int32) (h2 : p2 < 4) (M : Mem) : MI l yX3_endAfter wsX3_endAfter rmX3_endAfter D ad cs [.ref (ad (60)), .int a1, .ref (ad (13 * p2 + 3)), .int a3] M (f_X3_endAfter a1 p2 a3 M) := by
  refine Mx.of (cc := cX3_endAfter) (maxL := 4) (ret := (some .int)) (own := RX3) (lv := [(0, .ref (ad (60))), (1, .int a1), (2, .ref (ad (13 * p2 + 3))), (3, .int a3)]) (by decide) rfl rfl (Nat.le_of_ble_eq_true rfl) rfl hi ?_
  intro p e s m below meth c F hr hlk
  unfold f_X3_endAfter
  refine g_aload_n (pc := 0) F 2 dX3_endAfter_0 rfl ?_
  refine g_aload_n (pc := 1) F 0 dX3_endAfter_1 rfl ?_
  refine g_get (pc := 2) (v := .int (M (60) 1)) (k := 60) (ci := 3) (fs := (oX3 ad)) (C := RX3) (T := TX3) (N := 6) F (by decide) (fun _ => rfl) rfl kiX3_endAfter_X3 1 (by decide) klX3_endAfter_25 rfl rfl dX3_endAfter_2 ?_
  refine g_vi (pc := 5) (k := 13 * p2 + 3) (ci := 1) (fs := (oX1 ad (p2))) (C := RX1) (T := TX1) (N := 5) (As := [.int (M (60) 1)]) (st := []) F (c_X1_isEnd l D ad cs F.2.2.1 p2 (M (60) 1) h2 M) (P_lt h2 (by decide)) (sh_X1 h2) rfl (cwV 1 F.1.2.2.2.2 gX3_endAfter_X1_isEnd rfl rfl rfl hdV_X1_isEnd ⟨by decide, by decide⟩) rfl rfl (Nat.le_of_ble_eq_true rfl) dX3_endAfter_5 ⟨Nat.zero_le _, Nat.zero_le _⟩ (fun r1 M2 => ?_)
  refine g_if_eq (pc := 8) F 13 dX3_endAfter_8 (by decide) ?_ ?_
  · refine g_iload_n (pc := 13) F 1 dX3_endAfter_13 rfl ?_
    refine g_sipush (pc := 14) (v := 500) F dX3_endAfter_14 (by decide) ?_
    refine g_icmp_lt (pc := 17) F 22 dX3_endAfter_17 (by decide) ?_ ?_
    · refine g_aload_n (pc := 22) F 2 dX3_endAfter_22 rfl ?_
      refine g_aload_n (pc := 23) F 0 dX3_endAfter_23 rfl ?_
      refine g_get (pc := 24) (v := .int (M2 (60) 1)) (k := 60) (ci := 3) (fs := (oX3 ad)) (C := RX3) (T := TX3) (N := 6) F (by decide) (fun _ => rfl) rfl kiX3_endAfter_X3 1 (by decide) klX3_endAfter_25 rfl rfl dX3_endAfter_24 ?_
      refine g_vi (pc := 27) (k := 13 * p2 + 3) (ci := 1) (fs := (oX1 ad (p2))) (C := RX1) (T := TX1) (N := 5) (As := [.int (M2 (60) 1)]) (st := []) F (c_X1_kind l D ad cs F.2.2.1 p2 (M2 (60) 1) h2 M2) (P_lt h2 (by decide)) (sh_X1 h2) rfl (cwV 1 F.1.2.2.2.2 gX3_endAfter_X1_kind rfl rfl rfl hdV_X1_kind ⟨by decide, by decide⟩) rfl rfl (Nat.le_of_ble_eq_true rfl) dX3_endAfter_27 ⟨Nat.zero_le _, Nat.zero_le _⟩ (fun r3 M4 => ?_)
      refine g_iconst (pc := 30) (v := 3) F dX3_endAfter_30 (by decide) ?_
      refine g_icmp_ne (pc := 31) F 46 dX3_endAfter_31 (by decide) ?_ ?_
      · refine g_iconst (pc := 46) (v := (-1)) F dX3_endAfter_46 (by decide) ?_
        exact g_iret (pc := 47) F hr hlk dX3_endAfter_47
      · refine g_aload_n (pc := 34) F 0 dX3_endAfter_34 rfl ?_
        refine g_get (pc := 35) (v := .int (M4 (60) 3)) (k := 60) (ci := 3) (fs := (oX3 ad)) (C := RX3) (T := TX3) (N := 6) F (by decide) (fun _ => rfl) rfl kiX3_endAfter_X3 3 (by decide) klX3_endAfter_31 rfl rfl dX3_endAfter_35 ?_
        refine g_iload_n (pc := 38) F 3 dX3_endAfter_38 rfl ?_
        refine g_icmp_lt (pc := 39) F 46 dX3_endAfter_39 (by decide) ?_ ?_
        · refine g_iconst (pc := 46) (v := (-1)) F dX3_endAfter_46 (by decide) ?_
          exact g_iret (pc := 47) F hr hlk dX3_endAfter_47
        · refine g_iconst (pc := 42) (v := 1) F dX3_endAfter_42 (by decide) ?_
          refine g_goto (pc := 43) F 47 dX3_endAfter_43 (by decide) ?_
          exact g_iret (pc := 47) F hr hlk dX3_endAfter_47
    · refine g_iconst (pc := 20) (v := 2) F dX3_endAfter_20 (by decide) ?_
      exact g_iret (pc := 21) F hr hlk dX3_endAfter_21
  · refine g_iconst (pc := 11) (v := 0) F dX3_endAfter_11 (by decide) ?_
    exact g_iret (pc := 12) F hr hlk dX3_endAfter_12
-- X7_valueAt
def rmX7_valueAt : Room := { frames := 0, cells := 0, slots := 0, locals := 0 }
def f_X7_valueAt (a1 : Int32) (M : Mem) : Option (Int32 × Mem) := if a1 < 0 then some (0, M) else if (M (58) 1) ≤ a1 then some (0, M) else if ix a1 80 then some ((M (59) a1.toNatClampNeg) &&& (31 : Int32), M) else none
set_option maxRecDepth 20000 in
theorem kiX7_valueAt_X7 : ∀ w ∈ u_ws RX7 TX7 2, w ∈ wsX7_valueAt := by decide +kernel
set_option maxRecDepth 20000 in
theorem klX7_valueAt_15 : Cond.fieldLink RX7 15 "DoorLister$Tape" "size" "I" ∈ wsX7_valueAt := by decide +kernel
set_option maxRecDepth 20000 in
theorem klX7_valueAt_9 : Cond.fieldLink RX7 9 "DoorLister$Tape" "bytes" "[I" ∈ wsX7_valueAt := by decide +kernel
set_option maxHeartbeats 4000000 in
set_option maxRecDepth 100000 in
theorem c_X7_valueAt (l : Launch) (D : va_G) (ad : Nat → Nat) (cs : Cs) (hi : Inj ad) (a1 : Int32) (M : Mem) : MI l yX7_valueAt wsX7_valueAt rmX7_valueAt D ad cs [.ref (ad (58)), .int a1] M (f_X7_valueAt a1 M) := by
  refine Mx.of (cc := cX7_valueAt) (maxL := 2) (ret := (some .int)) (own := RX7) (lv := [(0, .ref (ad (58))), (1, .int a1)]) (by decide) rfl rfl (Nat.le_of_ble_eq_true rfl) rfl hi ?_
  intro p e s m below meth c F hr hlk
  unfold f_X7_valueAt
  refine g_iload_n (pc := 0) F 1 dX7_valueAt_0 rfl ?_
  refine g_if_lt (pc := 1) F 24 dX7_valueAt_1 (by decide) ?_ ?_
  · refine g_iconst (pc := 24) (v := 0) F dX7_valueAt_24 (by decide) ?_
    exact g_iret (pc := 25) F hr hlk dX7_valueAt_25
  · refine g_iload_n (pc := 4) F 1 dX7_valueAt_4 rfl ?_
    refine g_aload_n (pc := 5) F 0 dX7_valueAt_5 rfl ?_
    refine g_get (pc := 6) (v := .int (M (58) 1)) (k := 58) (ci := 7) (fs := (oX7 ad)) (C := RX7) (T := TX7) (N := 2) F (by decide) (fun _ => rfl) rfl kiX7_valueAt_X7 1 (by decide) klX7_valueAt_15 rfl rfl dX7_valueAt_6 ?_
    refine g_icmp_ge (pc := 9) F 24 dX7_valueAt_9 (by decide) ?_ ?_
    · refine g_iconst (pc := 24) (v := 0) F dX7_valueAt_24 (by decide) ?_
      exact g_iret (pc := 25) F hr hlk dX7_valueAt_25
    · refine g_aload_n (pc := 12) F 0 dX7_valueAt_12 rfl ?_
      refine g_get (pc := 13) (v := .ref (ad (59))) (k := 58) (ci := 7) (fs := (oX7 ad)) (C := RX7) (T := TX7) (N := 2) F (by decide) (fun _ => rfl) rfl kiX7_valueAt_X7 0 (by decide) klX7_valueAt_9 rfl rfl dX7_valueAt_13 ?_
      refine g_iload_n (pc := 16) F 1 dX7_valueAt_16 rfl ?_
      refine g_iald (pc := 17) (k := 59) (n := 80) F (by decide) (fun _ => rfl) dX7_valueAt_17 ?_
      refine g_bipush (pc := 18) (v := 31) F dX7_valueAt_18 (by decide) ?_
      refine g_iand (pc := 20) F dX7_valueAt_20 ?_
      refine g_goto (pc := 21) F 25 dX7_valueAt_21 (by decide) ?_
      exact g_iret (pc := 25) F hr hlk dX7_valueAt_25
-- X3_write
def rmX3_write : Room := { frames := 1, cells := 0, slots := 0, locals := 21 }
def f_X3_write (p1 : Nat) (M : Mem) : Option (Int32 × Mem) := bnd (f_X1_x p1 (M (60) 1) M) (fun r1 M2 => bnd (f_X1_n p1 (M2 (60) 1) M2) (fun r3 M4 => bnd (f_X1_kind p1 (M4 (60) 1) M4) (fun r5 M6 => if r5 = 0 then if ix r1 2 then wr M6 (61) r1.toNatClampNeg r3 (fun M8 => some (0, M8)) else none else if r5 = 1 then if ix r1 2 then if ix r1 2 then wr M6 (61) r1.toNatClampNeg (((M6 (61) r1.toNatClampNeg) + r3) &&& (31 : Int32)) (fun M10 => some (0, M10)) else none else none else if r5 = 2 then nm ((1 : Int32) - r1) (fun v12 => if ix v12 2 then if ix r1 2 then wr M6 (61) r1.toNatClampNeg (M6 (61) v12.toNatClampNeg) (fun M13 => some (0, M13)) else none else none) else if r5 = 3 then bnd (f_X7_valueAt (M6 (60) 3) M6) (fun r15 M16 => if ix r1 2 then wr M16 (61) r1.toNatClampNeg r15 (fun M17 => wr M17 (60) 3 ((M17 (60) 3) + (1 : Int32)) (fun M18 => some (0, M18))) else none) else if r5 = 4 then if ix r1 2 then if ix r1 2 then wr M6 (61) r1.toNatClampNeg ((M6 (61) r1.toNatClampNeg) &&& r3) (fun M20 => some (0, M20)) else none else none else bnd (f_X7_valueAt (M6 (60) 3) M6) (fun r21 M22 => if ix r1 2 then wr M22 (61) r1.toNatClampNeg r21 (fun M23 => wr M23 (60) 3 ((M23 (60) 3) + (1 : Int32)) (fun M24 => some (0, M24))) else none))))
set_option maxRecDepth 20000 in
theorem kiX3_write_X3 : ∀ w ∈ u_ws RX3 TX3 6, w ∈ wsX3_write := by decide +kernel
set_option maxRecDepth 20000 in
theorem klX3_write_25 : Cond.fieldLink RX3 25 "DoorLister$Machine" "at" "I" ∈ wsX3_write := by decide +kernel
set_option maxRecDepth 20000 in
theorem klX3_write_9 : Cond.fieldLink RX3 9 "DoorLister$Machine" "registers" "[I" ∈ wsX3_write := by decide +kernel
set_option maxRecDepth 20000 in
theorem klX3_write_31 : Cond.fieldLink RX3 31 "DoorLister$Machine" "taken" "I" ∈ wsX3_write := by decide +kernel
set_option maxHeartbeats 4000000 in
set_option maxRecDepth 100000 in
theorem c_X3_write (l : Launch) (D : va_G) (ad : Nat → Nat) (cs : Cs) (hi : Inj ad) (p1 : Nat) (h1 : p1 < 4) (M : Mem) : MV l yX3_write wsX3_write rmX3_write D ad cs [.ref (ad (60)), .ref (ad (13 * p1 + 3)), .ref (ad (58))] M (f_X3_write p1 M) := by
  refine Mx.of (cc := cX3_write) (maxL := 5) (ret := none) (own := RX3) (lv := [(0, .ref (ad (60))), (1, .ref (ad (13 * p1 + 3))), (2, .ref (ad (58)))]) (by decide) rfl rfl (Nat.le_of_ble_eq_true rfl) rfl hi ?_
  intro p e s m below meth c F hr hlk
  unfold f_X3_write
  refine g_aload_n (pc := 0) F 1 dX3_write_0 rfl ?_
  refine g_aload_n (pc := 1) F 0 dX3_write_1 rfl ?_
  refine g_get (pc := 2) (v := .int (M (60) 1)) (k := 60) (ci := 3) (fs := (oX3 ad)) (C := RX3) (T := TX3) (N := 6) F (by decide) (fun _ => rfl) rfl kiX3_write_X3 1 (by decide) klX3_write_25 rfl rfl dX3_write_2 ?_
  refine g_vi (pc := 5) (k := 13 * p1 + 3) (ci := 1) (fs := (oX1 ad (p1))) (C := RX1) (T := TX1) (N := 5) (As := [.int (M (60) 1)]) (st := []) F (c_X1_x l D ad cs F.2.2.1 p1 (M (60) 1) h1 M) (P_lt h1 (by decide)) (sh_X1 h1) rfl (cwV 1 F.1.2.2.2.2 gX3_write_X1_x rfl rfl rfl hdV_X1_x ⟨by decide, by decide⟩) rfl rfl (Nat.le_of_ble_eq_true rfl) dX3_write_5 ⟨Nat.zero_le _, Nat.zero_le _⟩ (fun r1 M2 => ?_)
  refine g_istore_n (pc := 8) F [(0, .ref (ad (60))), (1, .ref (ad (13 * p1 + 3))), (2, .ref (ad (58))), (3, .int r1)] dX3_write_8 (by decide) rfl rfl rfl ?_
  refine g_aload_n (pc := 9) F 1 dX3_write_9 rfl ?_
  refine g_aload_n (pc := 10) F 0 dX3_write_10 rfl ?_
  refine g_get (pc := 11) (v := .int (M2 (60) 1)) (k := 60) (ci := 3) (fs := (oX3 ad)) (C := RX3) (T := TX3) (N := 6) F (by decide) (fun _ => rfl) rfl kiX3_write_X3 1 (by decide) klX3_write_25 rfl rfl dX3_write_11 ?_
  refine g_vi (pc := 14) (k := 13 * p1 + 3) (ci := 1) (fs := (oX1 ad (p1))) (C := RX1) (T := TX1) (N := 5) (As := [.int (M2 (60) 1)]) (st := []) F (c_X1_n l D ad cs F.2.2.1 p1 (M2 (60) 1) h1 M2) (P_lt h1 (by decide)) (sh_X1 h1) rfl (cwV 1 F.1.2.2.2.2 gX3_write_X1_n rfl rfl rfl hdV_X1_n ⟨by decide, by decide⟩) rfl rfl (Nat.le_of_ble_eq_true rfl) dX3_write_14 ⟨Nat.zero_le _, Nat.zero_le _⟩ (fun r3 M4 => ?_)
  refine g_istore (pc := 17) F [(0, .ref (ad (60))), (1, .ref (ad (13 * p1 + 3))), (2, .ref (ad (58))), (3, .int r1), (4, .int r3)] dX3_write_17 (by decide) rfl rfl rfl ?_
  refine g_aload_n (pc := 19) F 1 dX3_write_19 rfl ?_
  refine g_aload_n (pc := 20) F 0 dX3_write_20 rfl ?_
  refine g_get (pc := 21) (v := .int (M4 (60) 1)) (k := 60) (ci := 3) (fs := (oX3 ad)) (C := RX3) (T := TX3) (N := 6) F (by decide) (fun _ => rfl) rfl kiX3_write_X3 1 (by decide) klX3_write_25 rfl rfl dX3_write_21 ?_
  refine g_vi (pc := 24) (k := 13 * p1 + 3) (ci := 1) (fs := (oX1 ad (p1))) (C := RX1) (T := TX1) (N := 5) (As := [.int (M4 (60) 1)]) (st := []) F (c_X1_kind l D ad cs F.2.2.1 p1 (M4 (60) 1) h1 M4) (P_lt h1 (by decide)) (sh_X1 h1) rfl (cwV 1 F.1.2.2.2.2 gX3_write_X1_kind rfl rfl rfl hdV_X1_kind ⟨by decide, by decide⟩) rfl rfl (Nat.le_of_ble_eq_true rfl) dX3_write_24 ⟨Nat.zero_le _, Nat.zero_le _⟩ (fun r5 M6 => ?_)
  refine g_case (v := 0) (fun _ => ?_) (fun n7 => ?_)
  · refine g_tab (pc := 27) (off := 33) F 60 dX3_write_27 (by decide) (by decide) (by decide) (by decide) ?_
    refine g_aload_n (pc := 60) F 0 dX3_write_60 rfl ?_
    refine g_get (pc := 61) (v := .ref (ad (61))) (k := 60) (ci := 3) (fs := (oX3 ad)) (C := RX3) (T := TX3) (N := 6) F (by decide) (fun _ => rfl) rfl kiX3_write_X3 0 (by decide) klX3_write_9 rfl rfl dX3_write_61 ?_
    refine g_iload_n (pc := 64) F 3 dX3_write_64 rfl ?_
    refine g_iload (pc := 65) F 4 dX3_write_65 rfl ?_
    refine g_iast (pc := 67) (k := 61) (n := 2) F (by decide) (fun _ => rfl) dX3_write_67 (fun M8 => ?_)
    refine g_goto (pc := 68) F 147 dX3_write_68 (by decide) ?_
    exact g_vret (pc := 147) F hr hlk dX3_write_147
  refine g_case (v := 1) (fun _ => ?_) (fun n9 => ?_)
  · refine g_tab (pc := 27) (off := 44) F 71 dX3_write_27 (by decide) (by decide) (by decide) (by decide) ?_
    refine g_aload_n (pc := 71) F 0 dX3_write_71 rfl ?_
    refine g_get (pc := 72) (v := .ref (ad (61))) (k := 60) (ci := 3) (fs := (oX3 ad)) (C := RX3) (T := TX3) (N := 6) F (by decide) (fun _ => rfl) rfl kiX3_write_X3 0 (by decide) klX3_write_9 rfl rfl dX3_write_72 ?_
    refine g_iload_n (pc := 75) F 3 dX3_write_75 rfl ?_
    refine g_aload_n (pc := 76) F 0 dX3_write_76 rfl ?_
    refine g_get (pc := 77) (v := .ref (ad (61))) (k := 60) (ci := 3) (fs := (oX3 ad)) (C := RX3) (T := TX3) (N := 6) F (by decide) (fun _ => rfl) rfl kiX3_write_X3 0 (by decide) klX3_write_9 rfl rfl dX3_write_77 ?_
    refine g_iload_n (pc := 80) F 3 dX3_write_80 rfl ?_
    refine g_iald (pc := 81) (k := 61) (n := 2) F (by decide) (fun _ => rfl) dX3_write_81 ?_
    refine g_iload (pc := 82) F 4 dX3_write_82 rfl ?_
    refine g_iadd (pc := 84) F dX3_write_84 ?_
    refine g_bipush (pc := 85) (v := 31) F dX3_write_85 (by decide) ?_
    refine g_iand (pc := 87) F dX3_write_87 ?_
    refine g_iast (pc := 88) (k := 61) (n := 2) F (by decide) (fun _ => rfl) dX3_write_88 (fun M10 => ?_)
    refine g_goto (pc := 89) F 147 dX3_write_89 (by decide) ?_
    exact g_vret (pc := 147) F hr hlk dX3_write_147
  refine g_case (v := 2) (fun _ => ?_) (fun n11 => ?_)
  · refine g_tab (pc := 27) (off := 65) F 92 dX3_write_27 (by decide) (by decide) (by decide) (by decide) ?_
    refine g_aload_n (pc := 92) F 0 dX3_write_92 rfl ?_
    refine g_get (pc := 93) (v := .ref (ad (61))) (k := 60) (ci := 3) (fs := (oX3 ad)) (C := RX3) (T := TX3) (N := 6) F (by decide) (fun _ => rfl) rfl kiX3_write_X3 0 (by decide) klX3_write_9 rfl rfl dX3_write_93 ?_
    refine g_iload_n (pc := 96) F 3 dX3_write_96 rfl ?_
    refine g_aload_n (pc := 97) F 0 dX3_write_97 rfl ?_
    refine g_get (pc := 98) (v := .ref (ad (61))) (k := 60) (ci := 3) (fs := (oX3 ad)) (C := RX3) (T := TX3) (N := 6) F (by decide) (fun _ => rfl) rfl kiX3_write_X3 0 (by decide) klX3_write_9 rfl rfl dX3_write_98 ?_
    refine g_iconst (pc := 101) (v := 1) F dX3_write_101 (by decide) ?_
    refine g_iload_n (pc := 102) F 3 dX3_write_102 rfl ?_
    refine g_isub (pc := 103) F dX3_write_103 ?_
    refine g_nm (fun v12 => ?_)
    refine g_iald (pc := 104) (k := 61) (n := 2) F (by decide) (fun _ => rfl) dX3_write_104 ?_
    refine g_iast (pc := 105) (k := 61) (n := 2) F (by decide) (fun _ => rfl) dX3_write_105 (fun M13 => ?_)
    refine g_goto (pc := 106) F 147 dX3_write_106 (by decide) ?_
    exact g_vret (pc := 147) F hr hlk dX3_write_147
  refine g_case (v := 3) (fun _ => ?_) (fun n14 => ?_)
  · refine g_tab (pc := 27) (off := 96) F 123 dX3_write_27 (by decide) (by decide) (by decide) (by decide) ?_
    refine g_aload_n (pc := 123) F 0 dX3_write_123 rfl ?_
    refine g_get (pc := 124) (v := .ref (ad (61))) (k := 60) (ci := 3) (fs := (oX3 ad)) (C := RX3) (T := TX3) (N := 6) F (by decide) (fun _ => rfl) rfl kiX3_write_X3 0 (by decide) klX3_write_9 rfl rfl dX3_write_124 ?_
    refine g_iload_n (pc := 127) F 3 dX3_write_127 rfl ?_
    refine g_aload_n (pc := 128) F 2 dX3_write_128 rfl ?_
    refine g_aload_n (pc := 129) F 0 dX3_write_129 rfl ?_
    refine g_get (pc := 130) (v := .int (M6 (60) 3)) (k := 60) (ci := 3) (fs := (oX3 ad)) (C := RX3) (T := TX3) (N := 6) F (by decide) (fun _ => rfl) rfl kiX3_write_X3 3 (by decide) klX3_write_31 rfl rfl dX3_write_130 ?_
    refine g_vi (pc := 133) (k := 58) (ci := 7) (fs := (oX7 ad)) (C := RX7) (T := TX7) (N := 2) (As := [.int (M6 (60) 3)]) (st := [.int r1, .ref (ad (61))]) F (c_X7_valueAt l D ad cs F.2.2.1 (M6 (60) 3) M6) (by decide) (fun _ => rfl) rfl (cwV 1 F.1.2.2.2.2 gX3_write_X7_valueAt rfl rfl rfl hdV_X7_valueAt ⟨by decide, by decide⟩) rfl rfl (Nat.le_of_ble_eq_true rfl) dX3_write_133 ⟨Nat.zero_le _, Nat.zero_le _⟩ (fun r15 M16 => ?_)
    refine g_iast (pc := 136) (k := 61) (n := 2) F (by decide) (fun _ => rfl) dX3_write_136 (fun M17 => ?_)
    refine g_aload_n (pc := 137) F 0 dX3_write_137 rfl ?_
    refine g_dup (pc := 138) F rfl dX3_write_138 ?_
    refine g_get (pc := 139) (v := .int (M17 (60) 3)) (k := 60) (ci := 3) (fs := (oX3 ad)) (C := RX3) (T := TX3) (N := 6) F (by decide) (fun _ => rfl) rfl kiX3_write_X3 3 (by decide) klX3_write_31 rfl rfl dX3_write_139 ?_
    refine g_iconst (pc := 142) (v := 1) F dX3_write_142 (by decide) ?_
    refine g_iadd (pc := 143) F dX3_write_143 ?_
    refine g_put (pc := 144) (k := 60) (ci := 3) (fs := (oX3 ad)) (C := RX3) (T := TX3) (N := 6) F (by decide) (fun _ => rfl) rfl kiX3_write_X3 tyX3 tyX3_ok nmX3 3 (by decide) klX3_write_31 rfl rfl rfl rfl (fun _ => rfl) (Nat.le_of_ble_eq_true rfl) dX3_write_144 (fun M18 => ?_)
    exact g_vret (pc := 147) F hr hlk dX3_write_147
  refine g_case (v := 4) (fun _ => ?_) (fun n19 => ?_)
  · refine g_tab (pc := 27) (off := 82) F 109 dX3_write_27 (by decide) (by decide) (by decide) (by decide) ?_
    refine g_aload_n (pc := 109) F 0 dX3_write_109 rfl ?_
    refine g_get (pc := 110) (v := .ref (ad (61))) (k := 60) (ci := 3) (fs := (oX3 ad)) (C := RX3) (T := TX3) (N := 6) F (by decide) (fun _ => rfl) rfl kiX3_write_X3 0 (by decide) klX3_write_9 rfl rfl dX3_write_110 ?_
    refine g_iload_n (pc := 113) F 3 dX3_write_113 rfl ?_
    refine g_dup2 (pc := 114) F rfl rfl dX3_write_114 ?_
    refine g_iald (pc := 115) (k := 61) (n := 2) F (by decide) (fun _ => rfl) dX3_write_115 ?_
    refine g_iload (pc := 116) F 4 dX3_write_116 rfl ?_
    refine g_iand (pc := 118) F dX3_write_118 ?_
    refine g_iast (pc := 119) (k := 61) (n := 2) F (by decide) (fun _ => rfl) dX3_write_119 (fun M20 => ?_)
    refine g_goto (pc := 120) F 147 dX3_write_120 (by decide) ?_
    exact g_vret (pc := 147) F hr hlk dX3_write_147
  refine g_tabd (pc := 27) F 123 dX3_write_27 (by have e0 := ne_lit (n := 0) (by decide) n7; have e1 := ne_lit (n := 1) (by decide) n9; have e2 := ne_lit (n := 2) (by decide) n11; have e3 := ne_lit (n := 3) (by decide) n14; have e4 := ne_lit (n := 4) (by decide) n19; omega) (by decide) ?_
  refine g_aload_n (pc := 123) F 0 dX3_write_123 rfl ?_
  refine g_get (pc := 124) (v := .ref (ad (61))) (k := 60) (ci := 3) (fs := (oX3 ad)) (C := RX3) (T := TX3) (N := 6) F (by decide) (fun _ => rfl) rfl kiX3_write_X3 0 (by decide) klX3_write_9 rfl rfl dX3_write_124 ?_
  refine g_iload_n (pc := 127) F 3 dX3_write_127 rfl ?_
  refine g_aload_n (pc := 128) F 2 dX3_write_128 rfl ?_
  refine g_aload_n (pc := 129) F 0 dX3_write_129 rfl ?_
  refine g_get (pc := 130) (v := .int (M6 (60) 3)) (k := 60) (ci := 3) (fs := (oX3 ad)) (C := RX3) (T := TX3) (N := 6) F (by decide) (fun _ => rfl) rfl kiX3_write_X3 3 (by decide) klX3_write_31 rfl rfl dX3_write_130 ?_
  refine g_vi (pc := 133) (k := 58) (ci := 7) (fs := (oX7 ad)) (C := RX7) (T := TX7) (N := 2) (As := [.int (M6 (60) 3)]) (st := [.int r1, .ref (ad (61))]) F (c_X7_valueAt l D ad cs F.2.2.1 (M6 (60) 3) M6) (by decide) (fun _ => rfl) rfl (cwV 1 F.1.2.2.2.2 gX3_write_X7_valueAt rfl rfl rfl hdV_X7_valueAt ⟨by decide, by decide⟩) rfl rfl (Nat.le_of_ble_eq_true rfl) dX3_write_133 ⟨Nat.zero_le _, Nat.zero_le _⟩ (fun r21 M22 => ?_)
  refine g_iast (pc := 136) (k := 61) (n := 2) F (by decide) (fun _ => rfl) dX3_write_136 (fun M23 => ?_)
  refine g_aload_n (pc := 137) F 0 dX3_write_137 rfl ?_
  refine g_dup (pc := 138) F rfl dX3_write_138 ?_
  refine g_get (pc := 139) (v := .int (M23 (60) 3)) (k := 60) (ci := 3) (fs := (oX3 ad)) (C := RX3) (T := TX3) (N := 6) F (by decide) (fun _ => rfl) rfl kiX3_write_X3 3 (by decide) klX3_write_31 rfl rfl dX3_write_139 ?_
  refine g_iconst (pc := 142) (v := 1) F dX3_write_142 (by decide) ?_
  refine g_iadd (pc := 143) F dX3_write_143 ?_
  refine g_put (pc := 144) (k := 60) (ci := 3) (fs := (oX3 ad)) (C := RX3) (T := TX3) (N := 6) F (by decide) (fun _ => rfl) rfl kiX3_write_X3 tyX3 tyX3_ok nmX3 3 (by decide) klX3_write_31 rfl rfl rfl rfl (fun _ => rfl) (Nat.le_of_ble_eq_true rfl) dX3_write_144 (fun M24 => ?_)
  exact g_vret (pc := 147) F hr hlk dX3_write_147
-- X3_step
def rmX3_step : Room := { frames := 2, cells := 0, slots := 0, locals := 45 }
def f_X3_step (p1 : Nat) (k3 : Nat) (M : Mem) : Option (Int32 × Mem) := nm ((M (60) 1) + (1 : Int32)) (fun v1 => bnd (f_X1_kind p1 (M (60) 1) M) (fun r2 M3 => if r2 = 5 then bnd (f_X1_x p1 (M3 (60) 1) M3) (fun r5 M6 => if ix r5 2 then bnd (f_X1_n p1 (M6 (60) 1) M6) (fun r7 M8 => if r7 ≤ (M6 (61) r5.toNatClampNeg) then wr M8 (60) 1 v1 (fun M9 => some (0, M9)) else bnd (f_X1_to p1 (M8 (60) 1) M8) (fun r10 M11 => wr M11 (60) 1 r10 (fun M12 => some (0, M12)))) else none) else if r2 = 6 then bnd (f_X1_to p1 (M3 (60) 1) M3) (fun r14 M15 => wr M15 (60) 1 r14 (fun M16 => some (0, M16))) else if r2 = 7 then if ix 0 2 then if ix 1 2 then bnd (f_X0_add k3 (M3 (60) 2) (M3 (61) (0 : Int32).toNatClampNeg) ((1 : Int32) <<< ((M3 (61) (1 : Int32).toNatClampNeg) &&& 31)) M3) (fun r18 M19 => wr M19 (60) 4 ((M19 (60) 4) + (1 : Int32)) (fun M20 => wr M20 (60) 1 v1 (fun M21 => some (0, M21)))) else none else none else if r2 = 8 then wr M3 (60) 2 1 (fun M23 => wr M23 (60) 1 v1 (fun M24 => some (0, M24))) else bnd (f_X3_write p1 M3) (fun r25 M26 => wr M26 (60) 1 v1 (fun M27 => some (0, M27)))))
set_option maxRecDepth 20000 in
theorem kiX3_step_X3 : ∀ w ∈ u_ws RX3 TX3 6, w ∈ wsX3_step := by decide +kernel
set_option maxRecDepth 20000 in
theorem klX3_step_25 : Cond.fieldLink RX3 25 "DoorLister$Machine" "at" "I" ∈ wsX3_step := by decide +kernel
set_option maxRecDepth 20000 in
theorem klX3_step_9 : Cond.fieldLink RX3 9 "DoorLister$Machine" "registers" "[I" ∈ wsX3_step := by decide +kernel
set_option maxRecDepth 20000 in
theorem klX3_step_28 : Cond.fieldLink RX3 28 "DoorLister$Machine" "phase" "I" ∈ wsX3_step := by decide +kernel
set_option maxRecDepth 20000 in
theorem klX3_step_34 : Cond.fieldLink RX3 34 "DoorLister$Machine" "calls" "I" ∈ wsX3_step := by decide +kernel
set_option maxHeartbeats 4000000 in
set_option maxRecDepth 100000 in
theorem c_X3_step (l : Launch) (D : va_G) (ad : Nat → Nat) (cs : Cs) (hi : Inj ad) (p1 : Nat) (k3 : Nat) (h1 : p1 < 4) (h3 : Tab k3) (M : Mem) : MV l yX3_step wsX3_step rmX3_step D ad cs [.ref (ad (60)), .ref (ad (13 * p1 + 3)), .ref (ad (58)), .ref (ad (k3))] M (f_X3_step p1 k3 M) := by
  refine Mx.of (cc := cX3_step) (maxL := 5) (ret := none) (own := RX3) (lv := [(0, .ref (ad (60))), (1, .ref (ad (13 * p1 + 3))), (2, .ref (ad (58))), (3, .ref (ad (k3)))]) (by decide) rfl rfl (Nat.le_of_ble_eq_true rfl) rfl hi ?_
  intro p e s m below meth c F hr hlk
  unfold f_X3_step
  refine g_aload_n (pc := 0) F 0 dX3_step_0 rfl ?_
  refine g_get (pc := 1) (v := .int (M (60) 1)) (k := 60) (ci := 3) (fs := (oX3 ad)) (C := RX3) (T := TX3) (N := 6) F (by decide) (fun _ => rfl) rfl kiX3_step_X3 1 (by decide) klX3_step_25 rfl rfl dX3_step_1 ?_
  refine g_iconst (pc := 4) (v := 1) F dX3_step_4 (by decide) ?_
  refine g_iadd (pc := 5) F dX3_step_5 ?_
  refine g_nm (fun v1 => ?_)
  refine g_istore (pc := 6) F [(0, .ref (ad (60))), (1, .ref (ad (13 * p1 + 3))), (2, .ref (ad (58))), (3, .ref (ad (k3))), (4, .int v1)] dX3_step_6 (by decide) rfl rfl rfl ?_
  refine g_aload_n (pc := 8) F 1 dX3_step_8 rfl ?_
  refine g_aload_n (pc := 9) F 0 dX3_step_9 rfl ?_
  refine g_get (pc := 10) (v := .int (M (60) 1)) (k := 60) (ci := 3) (fs := (oX3 ad)) (C := RX3) (T := TX3) (N := 6) F (by decide) (fun _ => rfl) rfl kiX3_step_X3 1 (by decide) klX3_step_25 rfl rfl dX3_step_10 ?_
  refine g_vi (pc := 13) (k := 13 * p1 + 3) (ci := 1) (fs := (oX1 ad (p1))) (C := RX1) (T := TX1) (N := 5) (As := [.int (M (60) 1)]) (st := []) F (c_X1_kind l D ad cs F.2.2.1 p1 (M (60) 1) h1 M) (P_lt h1 (by decide)) (sh_X1 h1) rfl (cwV 1 F.1.2.2.2.2 gX3_step_X1_kind rfl rfl rfl hdV_X1_kind ⟨by decide, by decide⟩) rfl rfl (Nat.le_of_ble_eq_true rfl) dX3_step_13 ⟨Nat.zero_le _, Nat.zero_le _⟩ (fun r2 M3 => ?_)
  refine g_case (v := 5) (fun _ => ?_) (fun n4 => ?_)
  · refine g_tab (pc := 16) (off := 32) F 48 dX3_step_16 (by decide) (by decide) (by decide) (by decide) ?_
    refine g_aload_n (pc := 48) F 0 dX3_step_48 rfl ?_
    refine g_aload_n (pc := 49) F 0 dX3_step_49 rfl ?_
    refine g_get (pc := 50) (v := .ref (ad (61))) (k := 60) (ci := 3) (fs := (oX3 ad)) (C := RX3) (T := TX3) (N := 6) F (by decide) (fun _ => rfl) rfl kiX3_step_X3 0 (by decide) klX3_step_9 rfl rfl dX3_step_50 ?_
    refine g_aload_n (pc := 53) F 1 dX3_step_53 rfl ?_
    refine g_aload_n (pc := 54) F 0 dX3_step_54 rfl ?_
    refine g_get (pc := 55) (v := .int (M3 (60) 1)) (k := 60) (ci := 3) (fs := (oX3 ad)) (C := RX3) (T := TX3) (N := 6) F (by decide) (fun _ => rfl) rfl kiX3_step_X3 1 (by decide) klX3_step_25 rfl rfl dX3_step_55 ?_
    refine g_vi (pc := 58) (k := 13 * p1 + 3) (ci := 1) (fs := (oX1 ad (p1))) (C := RX1) (T := TX1) (N := 5) (As := [.int (M3 (60) 1)]) (st := [.ref (ad (61)), .ref (ad (60))]) F (c_X1_x l D ad cs F.2.2.1 p1 (M3 (60) 1) h1 M3) (P_lt h1 (by decide)) (sh_X1 h1) rfl (cwV 1 F.1.2.2.2.2 gX3_step_X1_x rfl rfl rfl hdV_X1_x ⟨by decide, by decide⟩) rfl rfl (Nat.le_of_ble_eq_true rfl) dX3_step_58 ⟨Nat.zero_le _, Nat.zero_le _⟩ (fun r5 M6 => ?_)
    refine g_iald (pc := 61) (k := 61) (n := 2) F (by decide) (fun _ => rfl) dX3_step_61 ?_
    refine g_aload_n (pc := 62) F 1 dX3_step_62 rfl ?_
    refine g_aload_n (pc := 63) F 0 dX3_step_63 rfl ?_
    refine g_get (pc := 64) (v := .int (M6 (60) 1)) (k := 60) (ci := 3) (fs := (oX3 ad)) (C := RX3) (T := TX3) (N := 6) F (by decide) (fun _ => rfl) rfl kiX3_step_X3 1 (by decide) klX3_step_25 rfl rfl dX3_step_64 ?_
    refine g_vi (pc := 67) (k := 13 * p1 + 3) (ci := 1) (fs := (oX1 ad (p1))) (C := RX1) (T := TX1) (N := 5) (As := [.int (M6 (60) 1)]) (st := [.int (M6 (61) r5.toNatClampNeg), .ref (ad (60))]) F (c_X1_n l D ad cs F.2.2.1 p1 (M6 (60) 1) h1 M6) (P_lt h1 (by decide)) (sh_X1 h1) rfl (cwV 1 F.1.2.2.2.2 gX3_step_X1_n rfl rfl rfl hdV_X1_n ⟨by decide, by decide⟩) rfl rfl (Nat.le_of_ble_eq_true rfl) dX3_step_67 ⟨Nat.zero_le _, Nat.zero_le _⟩ (fun r7 M8 => ?_)
    refine g_icmp_ge (pc := 70) F 84 dX3_step_70 (by decide) ?_ ?_
    · refine g_iload (pc := 84) F 4 dX3_step_84 rfl ?_
      refine g_put (pc := 86) (k := 60) (ci := 3) (fs := (oX3 ad)) (C := RX3) (T := TX3) (N := 6) F (by decide) (fun _ => rfl) rfl kiX3_step_X3 tyX3 tyX3_ok nmX3 1 (by decide) klX3_step_25 rfl rfl rfl rfl (fun _ => rfl) (Nat.le_of_ble_eq_true rfl) dX3_step_86 (fun M9 => ?_)
      exact g_vret (pc := 89) F hr hlk dX3_step_89
    · refine g_aload_n (pc := 73) F 1 dX3_step_73 rfl ?_
      refine g_aload_n (pc := 74) F 0 dX3_step_74 rfl ?_
      refine g_get (pc := 75) (v := .int (M8 (60) 1)) (k := 60) (ci := 3) (fs := (oX3 ad)) (C := RX3) (T := TX3) (N := 6) F (by decide) (fun _ => rfl) rfl kiX3_step_X3 1 (by decide) klX3_step_25 rfl rfl dX3_step_75 ?_
      refine g_vi (pc := 78) (k := 13 * p1 + 3) (ci := 1) (fs := (oX1 ad (p1))) (C := RX1) (T := TX1) (N := 5) (As := [.int (M8 (60) 1)]) (st := [.ref (ad (60))]) F (c_X1_to l D ad cs F.2.2.1 p1 (M8 (60) 1) h1 M8) (P_lt h1 (by decide)) (sh_X1 h1) rfl (cwV 1 F.1.2.2.2.2 gX3_step_X1_to rfl rfl rfl hdV_X1_to ⟨by decide, by decide⟩) rfl rfl (Nat.le_of_ble_eq_true rfl) dX3_step_78 ⟨Nat.zero_le _, Nat.zero_le _⟩ (fun r10 M11 => ?_)
      refine g_goto (pc := 81) F 86 dX3_step_81 (by decide) ?_
      refine g_put (pc := 86) (k := 60) (ci := 3) (fs := (oX3 ad)) (C := RX3) (T := TX3) (N := 6) F (by decide) (fun _ => rfl) rfl kiX3_step_X3 tyX3 tyX3_ok nmX3 1 (by decide) klX3_step_25 rfl rfl rfl rfl (fun _ => rfl) (Nat.le_of_ble_eq_true rfl) dX3_step_86 (fun M12 => ?_)
      exact g_vret (pc := 89) F hr hlk dX3_step_89
  refine g_case (v := 6) (fun _ => ?_) (fun n13 => ?_)
  · refine g_tab (pc := 16) (off := 74) F 90 dX3_step_16 (by decide) (by decide) (by decide) (by decide) ?_
    refine g_aload_n (pc := 90) F 0 dX3_step_90 rfl ?_
    refine g_aload_n (pc := 91) F 1 dX3_step_91 rfl ?_
    refine g_aload_n (pc := 92) F 0 dX3_step_92 rfl ?_
    refine g_get (pc := 93) (v := .int (M3 (60) 1)) (k := 60) (ci := 3) (fs := (oX3 ad)) (C := RX3) (T := TX3) (N := 6) F (by decide) (fun _ => rfl) rfl kiX3_step_X3 1 (by decide) klX3_step_25 rfl rfl dX3_step_93 ?_
    refine g_vi (pc := 96) (k := 13 * p1 + 3) (ci := 1) (fs := (oX1 ad (p1))) (C := RX1) (T := TX1) (N := 5) (As := [.int (M3 (60) 1)]) (st := [.ref (ad (60))]) F (c_X1_to l D ad cs F.2.2.1 p1 (M3 (60) 1) h1 M3) (P_lt h1 (by decide)) (sh_X1 h1) rfl (cwV 1 F.1.2.2.2.2 gX3_step_X1_to rfl rfl rfl hdV_X1_to ⟨by decide, by decide⟩) rfl rfl (Nat.le_of_ble_eq_true rfl) dX3_step_96 ⟨Nat.zero_le _, Nat.zero_le _⟩ (fun r14 M15 => ?_)
    refine g_put (pc := 99) (k := 60) (ci := 3) (fs := (oX3 ad)) (C := RX3) (T := TX3) (N := 6) F (by decide) (fun _ => rfl) rfl kiX3_step_X3 tyX3 tyX3_ok nmX3 1 (by decide) klX3_step_25 rfl rfl rfl rfl (fun _ => rfl) (Nat.le_of_ble_eq_true rfl) dX3_step_99 (fun M16 => ?_)
    exact g_vret (pc := 102) F hr hlk dX3_step_102
  refine g_case (v := 7) (fun _ => ?_) (fun n17 => ?_)
  · refine g_tab (pc := 16) (off := 87) F 103 dX3_step_16 (by decide) (by decide) (by decide) (by decide) ?_
    refine g_aload_n (pc := 103) F 3 dX3_step_103 rfl ?_
    refine g_aload_n (pc := 104) F 0 dX3_step_104 rfl ?_
    refine g_get (pc := 105) (v := .int (M3 (60) 2)) (k := 60) (ci := 3) (fs := (oX3 ad)) (C := RX3) (T := TX3) (N := 6) F (by decide) (fun _ => rfl) rfl kiX3_step_X3 2 (by decide) klX3_step_28 rfl rfl dX3_step_105 ?_
    refine g_aload_n (pc := 108) F 0 dX3_step_108 rfl ?_
    refine g_get (pc := 109) (v := .ref (ad (61))) (k := 60) (ci := 3) (fs := (oX3 ad)) (C := RX3) (T := TX3) (N := 6) F (by decide) (fun _ => rfl) rfl kiX3_step_X3 0 (by decide) klX3_step_9 rfl rfl dX3_step_109 ?_
    refine g_iconst (pc := 112) (v := 0) F dX3_step_112 (by decide) ?_
    refine g_iald (pc := 113) (k := 61) (n := 2) F (by decide) (fun _ => rfl) dX3_step_113 ?_
    refine g_iconst (pc := 114) (v := 1) F dX3_step_114 (by decide) ?_
    refine g_aload_n (pc := 115) F 0 dX3_step_115 rfl ?_
    refine g_get (pc := 116) (v := .ref (ad (61))) (k := 60) (ci := 3) (fs := (oX3 ad)) (C := RX3) (T := TX3) (N := 6) F (by decide) (fun _ => rfl) rfl kiX3_step_X3 0 (by decide) klX3_step_9 rfl rfl dX3_step_116 ?_
    refine g_iconst (pc := 119) (v := 1) F dX3_step_119 (by decide) ?_
    refine g_iald (pc := 120) (k := 61) (n := 2) F (by decide) (fun _ => rfl) dX3_step_120 ?_
    refine g_ishl (pc := 121) F dX3_step_121 ?_
    refine g_vv (pc := 122) (k := k3) (ci := 0) (fs := (oX0 ad (k3))) (C := RX0) (T := TX0) (N := 1) (As := [.int (M3 (60) 2), .int (M3 (61) (0 : Int32).toNatClampNeg), .int ((1 : Int32) <<< ((M3 (61) (1 : Int32).toNatClampNeg) &&& 31))]) (st := []) F (c_X0_add l D ad cs F.2.2.1 k3 (M3 (60) 2) (M3 (61) (0 : Int32).toNatClampNeg) ((1 : Int32) <<< ((M3 (61) (1 : Int32).toNatClampNeg) &&& 31)) h3 M3) (tab_lt h3) (sh_X0 h3) rfl (cwV 3 F.1.2.2.2.2 gX3_step_X0_add rfl rfl rfl hdV_X0_add ⟨by decide, by decide⟩) rfl rfl (Nat.le_of_ble_eq_true rfl) dX3_step_122 ⟨Nat.zero_le _, Nat.zero_le _⟩ (fun r18 M19 => ?_)
    refine g_aload_n (pc := 125) F 0 dX3_step_125 rfl ?_
    refine g_dup (pc := 126) F rfl dX3_step_126 ?_
    refine g_get (pc := 127) (v := .int (M19 (60) 4)) (k := 60) (ci := 3) (fs := (oX3 ad)) (C := RX3) (T := TX3) (N := 6) F (by decide) (fun _ => rfl) rfl kiX3_step_X3 4 (by decide) klX3_step_34 rfl rfl dX3_step_127 ?_
    refine g_iconst (pc := 130) (v := 1) F dX3_step_130 (by decide) ?_
    refine g_iadd (pc := 131) F dX3_step_131 ?_
    refine g_put (pc := 132) (k := 60) (ci := 3) (fs := (oX3 ad)) (C := RX3) (T := TX3) (N := 6) F (by decide) (fun _ => rfl) rfl kiX3_step_X3 tyX3 tyX3_ok nmX3 4 (by decide) klX3_step_34 rfl rfl rfl rfl (fun _ => rfl) (Nat.le_of_ble_eq_true rfl) dX3_step_132 (fun M20 => ?_)
    refine g_goto (pc := 135) F 152 dX3_step_135 (by decide) ?_
    refine g_aload_n (pc := 152) F 0 dX3_step_152 rfl ?_
    refine g_iload (pc := 153) F 4 dX3_step_153 rfl ?_
    refine g_put (pc := 155) (k := 60) (ci := 3) (fs := (oX3 ad)) (C := RX3) (T := TX3) (N := 6) F (by decide) (fun _ => rfl) rfl kiX3_step_X3 tyX3 tyX3_ok nmX3 1 (by decide) klX3_step_25 rfl rfl rfl rfl (fun _ => rfl) (Nat.le_of_ble_eq_true rfl) dX3_step_155 (fun M21 => ?_)
    exact g_vret (pc := 158) F hr hlk dX3_step_158
  refine g_case (v := 8) (fun _ => ?_) (fun n22 => ?_)
  · refine g_tab (pc := 16) (off := 122) F 138 dX3_step_16 (by decide) (by decide) (by decide) (by decide) ?_
    refine g_aload_n (pc := 138) F 0 dX3_step_138 rfl ?_
    refine g_iconst (pc := 139) (v := 1) F dX3_step_139 (by decide) ?_
    refine g_put (pc := 140) (k := 60) (ci := 3) (fs := (oX3 ad)) (C := RX3) (T := TX3) (N := 6) F (by decide) (fun _ => rfl) rfl kiX3_step_X3 tyX3 tyX3_ok nmX3 2 (by decide) klX3_step_28 rfl rfl rfl rfl (fun _ => rfl) (Nat.le_of_ble_eq_true rfl) dX3_step_140 (fun M23 => ?_)
    refine g_goto (pc := 143) F 152 dX3_step_143 (by decide) ?_
    refine g_aload_n (pc := 152) F 0 dX3_step_152 rfl ?_
    refine g_iload (pc := 153) F 4 dX3_step_153 rfl ?_
    refine g_put (pc := 155) (k := 60) (ci := 3) (fs := (oX3 ad)) (C := RX3) (T := TX3) (N := 6) F (by decide) (fun _ => rfl) rfl kiX3_step_X3 tyX3 tyX3_ok nmX3 1 (by decide) klX3_step_25 rfl rfl rfl rfl (fun _ => rfl) (Nat.le_of_ble_eq_true rfl) dX3_step_155 (fun M24 => ?_)
    exact g_vret (pc := 158) F hr hlk dX3_step_158
  refine g_tabd (pc := 16) F 146 dX3_step_16 (by have e0 := ne_lit (n := 5) (by decide) n4; have e1 := ne_lit (n := 6) (by decide) n13; have e2 := ne_lit (n := 7) (by decide) n17; have e3 := ne_lit (n := 8) (by decide) n22; omega) (by decide) ?_
  refine g_aload_n (pc := 146) F 0 dX3_step_146 rfl ?_
  refine g_aload_n (pc := 147) F 1 dX3_step_147 rfl ?_
  refine g_aload_n (pc := 148) F 2 dX3_step_148 rfl ?_
  refine g_vv (pc := 149) (k := 60) (ci := 3) (fs := (oX3 ad)) (C := RX3) (T := TX3) (N := 6) (As := [.ref (ad (13 * p1 + 3)), .ref (ad (58))]) (st := []) F (c_X3_write l D ad cs F.2.2.1 p1 h1 M3) (by decide) (fun _ => rfl) rfl (cwV 2 F.1.2.2.2.2 gX3_step_X3_write rfl rfl rfl hdV_X3_write ⟨by decide, by decide⟩) rfl rfl (Nat.le_of_ble_eq_true rfl) dX3_step_149 ⟨Nat.zero_le _, Nat.zero_le _⟩ (fun r25 M26 => ?_)
  refine g_aload_n (pc := 152) F 0 dX3_step_152 rfl ?_
  refine g_iload (pc := 153) F 4 dX3_step_153 rfl ?_
  refine g_put (pc := 155) (k := 60) (ci := 3) (fs := (oX3 ad)) (C := RX3) (T := TX3) (N := 6) F (by decide) (fun _ => rfl) rfl kiX3_step_X3 tyX3 tyX3_ok nmX3 1 (by decide) klX3_step_25 rfl rfl rfl rfl (fun _ => rfl) (Nat.le_of_ble_eq_true rfl) dX3_step_155 (fun M27 => ?_)
  exact g_vret (pc := 158) F hr hlk dX3_step_158
