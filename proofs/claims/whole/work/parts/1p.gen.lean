/-! Written by wip/whole/gen.py: pure functions of methods, and the walks that tie the bytecode to them. -/
-- X9_best
def rmX9_best : Room := { frames := 9, cells := 0, slots := 0, locals := 220 }
def f_X9_best_L59 (x1 : Int32) (x2 : Int32) (x3 : Int32) (x4 : Int32) (x5 : Int32) (x6 : Int32) (k : Mem → Int32 → Int32 → Option (Int32 × Mem)) : Nat → Mem → Int32 → Int32 → Option (Int32 × Mem)
  | 0, _, _, _ => none
  | n + 1, M, x7, x8 => if (M (70) 12) ≤ x8 then k M x7 x8 else bnd (f_X9_has x5 x8 M) (fun r8 M9 => if r8 = 0 then nm (x7 + (0 : Int32)) (fun v10 => f_X9_best_L59 x1 x2 x3 x4 x5 x6 k n M9 v10 (x8 + 1)) else nm (x7 + (1 : Int32)) (fun v11 => f_X9_best_L59 x1 x2 x3 x4 x5 x6 k n M9 v11 (x8 + 1)))
def f_X9_best_L13 (fu : Nat) (x1 : Int32) (x2 : Int32) (k : Mem → Int32 → Int32 → Int32 → Option (Int32 × Mem)) : Nat → Mem → Int32 → Int32 → Int32 → Option (Int32 × Mem)
  | 0, _, _, _, _ => none
  | n + 1, M, x3, x4, x5 => if ((1 : Int32) <<< ((M (70) 12) &&& 31)) ≤ x5 then k M x3 x4 x5 else bnd (f_X9_takesOut fu x1 x5 M) (fun r2 M3 => if r2 = ((-1)) then f_X9_best_L13 fu x1 x2 k n M3 x3 x4 (x5 + 1) else bnd (f_X9_reachNow fu M3) (fun r4 M5 => bnd (f_X9_has r4 x2 M5) (fun r6 M7 => if r6 = 0 then f_X9_best_L59 x1 x2 x3 x4 x5 r2 (fun M12 y13 y14 => if x3 = ((-1)) then wr M12 (70) 32 r2 (fun M15 => f_X9_best_L13 fu x1 x2 k n M15 x5 y13 (x5 + 1)) else if (M12 (70) 32) < r2 then f_X9_best_L13 fu x1 x2 k n M12 x3 x4 (x5 + 1) else if r2 = (M12 (70) 32) then if y13 < x4 then wr M12 (70) 32 r2 (fun M17 => f_X9_best_L13 fu x1 x2 k n M17 x5 y13 (x5 + 1)) else f_X9_best_L13 fu x1 x2 k n M12 x3 x4 (x5 + 1) else wr M12 (70) 32 r2 (fun M16 => f_X9_best_L13 fu x1 x2 k n M16 x5 y13 (x5 + 1))) fu M7 0 0 else f_X9_best_L13 fu x1 x2 k n M7 x3 x4 (x5 + 1))))
def f_X9_best (fu : Nat) (a1 : Int32) (a2 : Int32) (M : Mem) : Option (Int32 × Mem) := wr M (70) 32 ((-1)) (fun M1 => f_X9_best_L13 fu a1 a2 (fun M18 y19 y20 y21 => some (y19, M18)) fu M1 ((-1)) 0 0)
set_option maxRecDepth 20000 in
theorem kiX9_best_X9 : ∀ w ∈ u_ws RX9 TX9 33, w ∈ wsX9_best := by decide +kernel
set_option maxRecDepth 20000 in
theorem klX9_best_199 : Cond.fieldLink RX9 199 "DoorListerModel" "fewest" "I" ∈ wsX9_best := by decide +kernel
set_option maxRecDepth 20000 in
theorem klX9_best_181 : Cond.fieldLink RX9 181 "DoorListerModel" "effects" "I" ∈ wsX9_best := by decide +kernel
set_option maxHeartbeats 4000000 in
set_option maxRecDepth 100000 in
theorem w_X9_best_L59 {p : Program} {l : Launch} {e : Env} {s : State} {m : MethodId} {args : Array Value} {below : List Frame} {meth : Method} {c : Code} {D : va_G} {ad : Nat → Nat} {cs : Cs}  (x1 : Int32) (x2 : Int32) (x3 : Int32) (x4 : Int32) (x5 : Int32) (x6 : Int32) (F : Fx p m c cX9_best 9 s args wsX9_best RX9 D ad cs (Ad ad)) (hr : meth.sig.returnType = (some .int)) (hlk : meth.locks = false) (k : Mem → Int32 → Int32 → Option (Int32 × Mem)) (hkx : ∀ (M : Mem) (x7 x8 : Int32), GoX p l e rmX9_best s m args below meth c 0 0 9 (fun rM => MQ below (cQi D ad cs rM) args s 0 0 (Ad ad)) D ad cs (Ad ad) M 94 [(0, .ref (ad (70))), (1, .int x1), (2, .int x2), (3, .int x3), (4, .int x4), (5, .int x5), (6, .int x6), (7, .int x7), (8, .int x8)] [] (k M x7 x8)) : ∀ (n : Nat) (M : Mem) (x7 x8 : Int32), GoX p l e rmX9_best s m args below meth c 0 0 9 (fun rM => MQ below (cQi D ad cs rM) args s 0 0 (Ad ad)) D ad cs (Ad ad) M 59 [(0, .ref (ad (70))), (1, .int x1), (2, .int x2), (3, .int x3), (4, .int x4), (5, .int x5), (6, .int x6), (7, .int x7), (8, .int x8)] [] (f_X9_best_L59 x1 x2 x3 x4 x5 x6 k n M x7 x8) := by
  intro n
  induction n with
  | zero => intro M x7 x8; exact g_none
  | succ n ih =>
    intro M x7 x8
    unfold f_X9_best_L59
    refine g_iload (pc := 59) F 8 dX9_best_59 rfl ?_
    refine g_aload_n (pc := 61) F 0 dX9_best_61 rfl ?_
    refine g_get (pc := 62) (v := .int (M (70) 12)) (k := 70) (ci := 9) (fs := (oX9 ad)) (C := RX9) (T := TX9) (N := 33) F (by decide) (fun _ => rfl) rfl kiX9_best_X9 12 (by decide) klX9_best_181 rfl rfl dX9_best_62 ?_
    refine g_icmp_ge (pc := 65) F 94 dX9_best_65 (by decide) ?_ ?_
    · exact hkx _ _ _
    · refine g_iload (pc := 68) F 7 dX9_best_68 rfl ?_
      refine g_iload (pc := 70) F 5 dX9_best_70 rfl ?_
      refine g_iload (pc := 72) F 8 dX9_best_72 rfl ?_
      refine g_si (pc := 74) (As := [.int x5, .int x8]) (st := [.int x7]) F (c_X9_has l D ad cs F.2.2.1 x5 x8 M) (va_cwS 2 F.1.2.2.2.2 gX9_best_X9_has rfl rfl rfl hdS_X9_has ⟨by decide, by decide⟩) rfl rfl (Nat.le_of_ble_eq_true rfl) dX9_best_74 ⟨Nat.zero_le _, Nat.zero_le _⟩ (fun r8 M9 => ?_)
      refine g_if_eq (pc := 77) F 84 dX9_best_77 (by decide) ?_ ?_
      · refine g_iconst (pc := 84) (v := 0) F dX9_best_84 (by decide) ?_
        refine g_iadd (pc := 85) F dX9_best_85 ?_
        refine g_nm (fun v10 => ?_)
        refine g_istore (pc := 86) F [(0, .ref (ad (70))), (1, .int x1), (2, .int x2), (3, .int x3), (4, .int x4), (5, .int x5), (6, .int x6), (7, .int v10), (8, .int x8)] dX9_best_86 (by decide) rfl rfl rfl ?_
        refine g_iinc (pc := 88) (v := x8 + 1) F [(0, .ref (ad (70))), (1, .int x1), (2, .int x2), (3, .int x3), (4, .int x4), (5, .int x5), (6, .int x6), (7, .int v10), (8, .int (x8 + 1))] 8 dX9_best_88 rfl rfl (by decide) rfl rfl rfl ?_
        refine g_goto (pc := 91) F 59 dX9_best_91 (by decide) ?_
        exact ih _ _ _
      · refine g_iconst (pc := 80) (v := 1) F dX9_best_80 (by decide) ?_
        refine g_goto (pc := 81) F 85 dX9_best_81 (by decide) ?_
        refine g_iadd (pc := 85) F dX9_best_85 ?_
        refine g_nm (fun v11 => ?_)
        refine g_istore (pc := 86) F [(0, .ref (ad (70))), (1, .int x1), (2, .int x2), (3, .int x3), (4, .int x4), (5, .int x5), (6, .int x6), (7, .int v11), (8, .int x8)] dX9_best_86 (by decide) rfl rfl rfl ?_
        refine g_iinc (pc := 88) (v := x8 + 1) F [(0, .ref (ad (70))), (1, .int x1), (2, .int x2), (3, .int x3), (4, .int x4), (5, .int x5), (6, .int x6), (7, .int v11), (8, .int (x8 + 1))] 8 dX9_best_88 rfl rfl (by decide) rfl rfl rfl ?_
        refine g_goto (pc := 91) F 59 dX9_best_91 (by decide) ?_
        exact ih _ _ _
set_option maxHeartbeats 4000000 in
set_option maxRecDepth 100000 in
theorem w_X9_best_L13 {p : Program} {l : Launch} {e : Env} {s : State} {m : MethodId} {args : Array Value} {below : List Frame} {meth : Method} {c : Code} {D : va_G} {ad : Nat → Nat} {cs : Cs} (fu : Nat) (x1 : Int32) (x2 : Int32) (F : Fx p m c cX9_best 9 s args wsX9_best RX9 D ad cs (Ad ad)) (hr : meth.sig.returnType = (some .int)) (hlk : meth.locks = false) (k : Mem → Int32 → Int32 → Int32 → Option (Int32 × Mem)) (hkx : ∀ (M : Mem) (x3 x4 x5 : Int32), GoX p l e rmX9_best s m args below meth c 0 0 9 (fun rM => MQ below (cQi D ad cs rM) args s 0 0 (Ad ad)) D ad cs (Ad ad) M 146 [(0, .ref (ad (70))), (1, .int x1), (2, .int x2), (3, .int x3), (4, .int x4), (5, .int x5)] [] (k M x3 x4 x5)) : ∀ (n : Nat) (M : Mem) (x3 x4 x5 : Int32), GoX p l e rmX9_best s m args below meth c 0 0 9 (fun rM => MQ below (cQi D ad cs rM) args s 0 0 (Ad ad)) D ad cs (Ad ad) M 13 [(0, .ref (ad (70))), (1, .int x1), (2, .int x2), (3, .int x3), (4, .int x4), (5, .int x5)] [] (f_X9_best_L13 fu x1 x2 k n M x3 x4 x5) := by
  intro n
  induction n with
  | zero => intro M x3 x4 x5; exact g_none
  | succ n ih =>
    intro M x3 x4 x5
    unfold f_X9_best_L13
    refine g_iload (pc := 13) F 5 dX9_best_13 rfl ?_
    refine g_iconst (pc := 15) (v := 1) F dX9_best_15 (by decide) ?_
    refine g_aload_n (pc := 16) F 0 dX9_best_16 rfl ?_
    refine g_get (pc := 17) (v := .int (M (70) 12)) (k := 70) (ci := 9) (fs := (oX9 ad)) (C := RX9) (T := TX9) (N := 33) F (by decide) (fun _ => rfl) rfl kiX9_best_X9 12 (by decide) klX9_best_181 rfl rfl dX9_best_17 ?_
    refine g_ishl (pc := 20) F dX9_best_20 ?_
    refine g_icmp_ge (pc := 21) F 146 dX9_best_21 (by decide) ?_ ?_
    · exact hkx _ _ _ _
    · refine g_aload_n (pc := 24) F 0 dX9_best_24 rfl ?_
      refine g_iload_n (pc := 25) F 1 dX9_best_25 rfl ?_
      refine g_iload (pc := 26) F 5 dX9_best_26 rfl ?_
      refine g_vi (pc := 28) (k := 70) (ci := 9) (fs := (oX9 ad)) (C := RX9) (T := TX9) (N := 33) (As := [.int x1, .int x5]) (st := []) F (c_X9_takesOut l D ad cs F.2.2.1 fu x1 x5 M) (by decide) (fun _ => rfl) rfl (cwV 2 F.1.2.2.2.2 gX9_best_X9_takesOut rfl rfl rfl hdV_X9_takesOut ⟨by decide, by decide⟩) rfl rfl (Nat.le_of_ble_eq_true rfl) dX9_best_28 ⟨Nat.zero_le _, Nat.zero_le _⟩ (fun r2 M3 => ?_)
      refine g_istore (pc := 31) F [(0, .ref (ad (70))), (1, .int x1), (2, .int x2), (3, .int x3), (4, .int x4), (5, .int x5), (6, .int r2)] dX9_best_31 (by decide) rfl rfl rfl ?_
      refine g_iload (pc := 33) F 6 dX9_best_33 rfl ?_
      refine g_iconst (pc := 35) (v := (-1)) F dX9_best_35 (by decide) ?_
      refine g_icmp_eq (pc := 36) F 140 dX9_best_36 (by decide) ?_ ?_
      · refine g_iinc (pc := 140) (v := x5 + 1) F [(0, .ref (ad (70))), (1, .int x1), (2, .int x2), (3, .int x3), (4, .int x4), (5, .int (x5 + 1)), (6, .int r2)] 5 dX9_best_140 rfl rfl (by decide) rfl rfl rfl ?_
        refine g_goto (pc := 143) F 13 dX9_best_143 (by decide) ?_
        refine g_sub [0, 1, 2, 3, 4, 5] [(0, .ref (ad (70))), (1, .int x1), (2, .int x2), (3, .int x3), (4, .int x4), (5, .int (x5 + 1))] rfl ?_
        exact ih _ _ _ _
      · refine g_aload_n (pc := 39) F 0 dX9_best_39 rfl ?_
        refine g_vi (pc := 40) (k := 70) (ci := 9) (fs := (oX9 ad)) (C := RX9) (T := TX9) (N := 33) (As := []) (st := []) F (c_X9_reachNow l D ad cs F.2.2.1 fu M3) (by decide) (fun _ => rfl) rfl (cwV 0 F.1.2.2.2.2 gX9_best_X9_reachNow rfl rfl rfl hdV_X9_reachNow ⟨by decide, by decide⟩) rfl rfl (Nat.le_of_ble_eq_true rfl) dX9_best_40 ⟨Nat.zero_le _, Nat.zero_le _⟩ (fun r4 M5 => ?_)
        refine g_iload_n (pc := 43) F 2 dX9_best_43 rfl ?_
        refine g_si (pc := 44) (As := [.int r4, .int x2]) (st := []) F (c_X9_has l D ad cs F.2.2.1 r4 x2 M5) (va_cwS 2 F.1.2.2.2.2 gX9_best_X9_has rfl rfl rfl hdS_X9_has ⟨by decide, by decide⟩) rfl rfl (Nat.le_of_ble_eq_true rfl) dX9_best_44 ⟨Nat.zero_le _, Nat.zero_le _⟩ (fun r6 M7 => ?_)
        refine g_if_eq (pc := 47) F 53 dX9_best_47 (by decide) ?_ ?_
        · refine g_iconst (pc := 53) (v := 0) F dX9_best_53 (by decide) ?_
          refine g_istore (pc := 54) F [(0, .ref (ad (70))), (1, .int x1), (2, .int x2), (3, .int x3), (4, .int x4), (5, .int x5), (6, .int r2), (7, .int 0)] dX9_best_54 (by decide) rfl rfl rfl ?_
          refine g_iconst (pc := 56) (v := 0) F dX9_best_56 (by decide) ?_
          refine g_istore (pc := 57) F [(0, .ref (ad (70))), (1, .int x1), (2, .int x2), (3, .int x3), (4, .int x4), (5, .int x5), (6, .int r2), (7, .int 0), (8, .int 0)] dX9_best_57 (by decide) rfl rfl rfl ?_
          refine w_X9_best_L59 x1 x2 x3 x4 x5 r2 F hr hlk _ (fun M12 y13 y14 => ?_) _ _ _ _
          refine g_iload_n (pc := 94) F 3 dX9_best_94 rfl ?_
          refine g_iconst (pc := 95) (v := (-1)) F dX9_best_95 (by decide) ?_
          refine g_icmp_eq (pc := 96) F 127 dX9_best_96 (by decide) ?_ ?_
          · refine g_iload (pc := 127) F 5 dX9_best_127 rfl ?_
            refine g_istore_n (pc := 129) F [(0, .ref (ad (70))), (1, .int x1), (2, .int x2), (3, .int x5), (4, .int x4), (5, .int x5), (6, .int r2), (7, .int y13), (8, .int y14)] dX9_best_129 (by decide) rfl rfl rfl ?_
            refine g_iload (pc := 130) F 7 dX9_best_130 rfl ?_
            refine g_istore (pc := 132) F [(0, .ref (ad (70))), (1, .int x1), (2, .int x2), (3, .int x5), (4, .int y13), (5, .int x5), (6, .int r2), (7, .int y13), (8, .int y14)] dX9_best_132 (by decide) rfl rfl rfl ?_
            refine g_aload_n (pc := 134) F 0 dX9_best_134 rfl ?_
            refine g_iload (pc := 135) F 6 dX9_best_135 rfl ?_
            refine g_put (pc := 137) (k := 70) (ci := 9) (fs := (oX9 ad)) (C := RX9) (T := TX9) (N := 33) F (by decide) (fun _ => rfl) rfl kiX9_best_X9 tyX9 tyX9_ok nmX9 32 (by decide) klX9_best_199 rfl rfl rfl rfl (fun _ => rfl) (Nat.le_of_ble_eq_true rfl) dX9_best_137 (fun M15 => ?_)
            refine g_iinc (pc := 140) (v := x5 + 1) F [(0, .ref (ad (70))), (1, .int x1), (2, .int x2), (3, .int x5), (4, .int y13), (5, .int (x5 + 1)), (6, .int r2), (7, .int y13), (8, .int y14)] 5 dX9_best_140 rfl rfl (by decide) rfl rfl rfl ?_
            refine g_goto (pc := 143) F 13 dX9_best_143 (by decide) ?_
            refine g_sub [0, 1, 2, 3, 4, 5] [(0, .ref (ad (70))), (1, .int x1), (2, .int x2), (3, .int x5), (4, .int y13), (5, .int (x5 + 1))] rfl ?_
            exact ih _ _ _ _
          · refine g_iload (pc := 99) F 6 dX9_best_99 rfl ?_
            refine g_aload_n (pc := 101) F 0 dX9_best_101 rfl ?_
            refine g_get (pc := 102) (v := .int (M12 (70) 32)) (k := 70) (ci := 9) (fs := (oX9 ad)) (C := RX9) (T := TX9) (N := 33) F (by decide) (fun _ => rfl) rfl kiX9_best_X9 32 (by decide) klX9_best_199 rfl rfl dX9_best_102 ?_
            refine g_icmp_gt (pc := 105) F 140 dX9_best_105 (by decide) ?_ ?_
            · refine g_iinc (pc := 140) (v := x5 + 1) F [(0, .ref (ad (70))), (1, .int x1), (2, .int x2), (3, .int x3), (4, .int x4), (5, .int (x5 + 1)), (6, .int r2), (7, .int y13), (8, .int y14)] 5 dX9_best_140 rfl rfl (by decide) rfl rfl rfl ?_
              refine g_goto (pc := 143) F 13 dX9_best_143 (by decide) ?_
              refine g_sub [0, 1, 2, 3, 4, 5] [(0, .ref (ad (70))), (1, .int x1), (2, .int x2), (3, .int x3), (4, .int x4), (5, .int (x5 + 1))] rfl ?_
              exact ih _ _ _ _
            · refine g_iload (pc := 108) F 6 dX9_best_108 rfl ?_
              refine g_aload_n (pc := 110) F 0 dX9_best_110 rfl ?_
              refine g_get (pc := 111) (v := .int (M12 (70) 32)) (k := 70) (ci := 9) (fs := (oX9 ad)) (C := RX9) (T := TX9) (N := 33) F (by decide) (fun _ => rfl) rfl kiX9_best_X9 32 (by decide) klX9_best_199 rfl rfl dX9_best_111 ?_
              refine g_icmp_ne (pc := 114) F 127 dX9_best_114 (by decide) ?_ ?_
              · refine g_iload (pc := 127) F 5 dX9_best_127 rfl ?_
                refine g_istore_n (pc := 129) F [(0, .ref (ad (70))), (1, .int x1), (2, .int x2), (3, .int x5), (4, .int x4), (5, .int x5), (6, .int r2), (7, .int y13), (8, .int y14)] dX9_best_129 (by decide) rfl rfl rfl ?_
                refine g_iload (pc := 130) F 7 dX9_best_130 rfl ?_
                refine g_istore (pc := 132) F [(0, .ref (ad (70))), (1, .int x1), (2, .int x2), (3, .int x5), (4, .int y13), (5, .int x5), (6, .int r2), (7, .int y13), (8, .int y14)] dX9_best_132 (by decide) rfl rfl rfl ?_
                refine g_aload_n (pc := 134) F 0 dX9_best_134 rfl ?_
                refine g_iload (pc := 135) F 6 dX9_best_135 rfl ?_
                refine g_put (pc := 137) (k := 70) (ci := 9) (fs := (oX9 ad)) (C := RX9) (T := TX9) (N := 33) F (by decide) (fun _ => rfl) rfl kiX9_best_X9 tyX9 tyX9_ok nmX9 32 (by decide) klX9_best_199 rfl rfl rfl rfl (fun _ => rfl) (Nat.le_of_ble_eq_true rfl) dX9_best_137 (fun M16 => ?_)
                refine g_iinc (pc := 140) (v := x5 + 1) F [(0, .ref (ad (70))), (1, .int x1), (2, .int x2), (3, .int x5), (4, .int y13), (5, .int (x5 + 1)), (6, .int r2), (7, .int y13), (8, .int y14)] 5 dX9_best_140 rfl rfl (by decide) rfl rfl rfl ?_
                refine g_goto (pc := 143) F 13 dX9_best_143 (by decide) ?_
                refine g_sub [0, 1, 2, 3, 4, 5] [(0, .ref (ad (70))), (1, .int x1), (2, .int x2), (3, .int x5), (4, .int y13), (5, .int (x5 + 1))] rfl ?_
                exact ih _ _ _ _
              · refine g_iload (pc := 117) F 7 dX9_best_117 rfl ?_
                refine g_iload (pc := 119) F 4 dX9_best_119 rfl ?_
                refine g_icmp_lt (pc := 121) F 127 dX9_best_121 (by decide) ?_ ?_
                · refine g_iload (pc := 127) F 5 dX9_best_127 rfl ?_
                  refine g_istore_n (pc := 129) F [(0, .ref (ad (70))), (1, .int x1), (2, .int x2), (3, .int x5), (4, .int x4), (5, .int x5), (6, .int r2), (7, .int y13), (8, .int y14)] dX9_best_129 (by decide) rfl rfl rfl ?_
                  refine g_iload (pc := 130) F 7 dX9_best_130 rfl ?_
                  refine g_istore (pc := 132) F [(0, .ref (ad (70))), (1, .int x1), (2, .int x2), (3, .int x5), (4, .int y13), (5, .int x5), (6, .int r2), (7, .int y13), (8, .int y14)] dX9_best_132 (by decide) rfl rfl rfl ?_
                  refine g_aload_n (pc := 134) F 0 dX9_best_134 rfl ?_
                  refine g_iload (pc := 135) F 6 dX9_best_135 rfl ?_
                  refine g_put (pc := 137) (k := 70) (ci := 9) (fs := (oX9 ad)) (C := RX9) (T := TX9) (N := 33) F (by decide) (fun _ => rfl) rfl kiX9_best_X9 tyX9 tyX9_ok nmX9 32 (by decide) klX9_best_199 rfl rfl rfl rfl (fun _ => rfl) (Nat.le_of_ble_eq_true rfl) dX9_best_137 (fun M17 => ?_)
                  refine g_iinc (pc := 140) (v := x5 + 1) F [(0, .ref (ad (70))), (1, .int x1), (2, .int x2), (3, .int x5), (4, .int y13), (5, .int (x5 + 1)), (6, .int r2), (7, .int y13), (8, .int y14)] 5 dX9_best_140 rfl rfl (by decide) rfl rfl rfl ?_
                  refine g_goto (pc := 143) F 13 dX9_best_143 (by decide) ?_
                  refine g_sub [0, 1, 2, 3, 4, 5] [(0, .ref (ad (70))), (1, .int x1), (2, .int x2), (3, .int x5), (4, .int y13), (5, .int (x5 + 1))] rfl ?_
                  exact ih _ _ _ _
                · refine g_goto (pc := 124) F 140 dX9_best_124 (by decide) ?_
                  refine g_iinc (pc := 140) (v := x5 + 1) F [(0, .ref (ad (70))), (1, .int x1), (2, .int x2), (3, .int x3), (4, .int x4), (5, .int (x5 + 1)), (6, .int r2), (7, .int y13), (8, .int y14)] 5 dX9_best_140 rfl rfl (by decide) rfl rfl rfl ?_
                  refine g_goto (pc := 143) F 13 dX9_best_143 (by decide) ?_
                  refine g_sub [0, 1, 2, 3, 4, 5] [(0, .ref (ad (70))), (1, .int x1), (2, .int x2), (3, .int x3), (4, .int x4), (5, .int (x5 + 1))] rfl ?_
                  exact ih _ _ _ _
        · refine g_goto (pc := 50) F 140 dX9_best_50 (by decide) ?_
          refine g_iinc (pc := 140) (v := x5 + 1) F [(0, .ref (ad (70))), (1, .int x1), (2, .int x2), (3, .int x3), (4, .int x4), (5, .int (x5 + 1)), (6, .int r2)] 5 dX9_best_140 rfl rfl (by decide) rfl rfl rfl ?_
          refine g_goto (pc := 143) F 13 dX9_best_143 (by decide) ?_
          refine g_sub [0, 1, 2, 3, 4, 5] [(0, .ref (ad (70))), (1, .int x1), (2, .int x2), (3, .int x3), (4, .int x4), (5, .int (x5 + 1))] rfl ?_
          exact ih _ _ _ _
set_option maxHeartbeats 4000000 in
set_option maxRecDepth 100000 in
theorem c_X9_best (l : Launch) (D : va_G) (ad : Nat → Nat) (cs : Cs) (hi : Inj ad) (fu : Nat) (a1 : Int32) (a2 : Int32) (M : Mem) : MI l yX9_best wsX9_best rmX9_best D ad cs [.ref (ad (70)), .int a1, .int a2] M (f_X9_best fu a1 a2 M) := by
  refine Mx.of (cc := cX9_best) (maxL := 9) (ret := (some .int)) (own := RX9) (lv := [(0, .ref (ad (70))), (1, .int a1), (2, .int a2)]) (by decide) rfl rfl (Nat.le_of_ble_eq_true rfl) rfl hi ?_
  intro p e s m below meth c F hr hlk
  unfold f_X9_best
  refine g_iconst (pc := 0) (v := (-1)) F dX9_best_0 (by decide) ?_
  refine g_istore_n (pc := 1) F [(0, .ref (ad (70))), (1, .int a1), (2, .int a2), (3, .int ((-1)))] dX9_best_1 (by decide) rfl rfl rfl ?_
  refine g_iconst (pc := 2) (v := 0) F dX9_best_2 (by decide) ?_
  refine g_istore (pc := 3) F [(0, .ref (ad (70))), (1, .int a1), (2, .int a2), (3, .int ((-1))), (4, .int 0)] dX9_best_3 (by decide) rfl rfl rfl ?_
  refine g_aload_n (pc := 5) F 0 dX9_best_5 rfl ?_
  refine g_iconst (pc := 6) (v := (-1)) F dX9_best_6 (by decide) ?_
  refine g_put (pc := 7) (k := 70) (ci := 9) (fs := (oX9 ad)) (C := RX9) (T := TX9) (N := 33) F (by decide) (fun _ => rfl) rfl kiX9_best_X9 tyX9 tyX9_ok nmX9 32 (by decide) klX9_best_199 rfl rfl rfl rfl (fun _ => rfl) (Nat.le_of_ble_eq_true rfl) dX9_best_7 (fun M1 => ?_)
  refine g_iconst (pc := 10) (v := 0) F dX9_best_10 (by decide) ?_
  refine g_istore (pc := 11) F [(0, .ref (ad (70))), (1, .int a1), (2, .int a2), (3, .int ((-1))), (4, .int 0), (5, .int 0)] dX9_best_11 (by decide) rfl rfl rfl ?_
  refine w_X9_best_L13 fu a1 a2 F hr hlk _ (fun M18 y19 y20 y21 => ?_) _ _ _ _ _
  refine g_iload_n (pc := 146) F 3 dX9_best_146 rfl ?_
  exact g_iret (pc := 147) F hr hlk dX9_best_147
-- X9_shut
def rmX9_shut : Room := { frames := 10, cells := 0, slots := 0, locals := 248 }
def f_X9_shut (fu : Nat) (a1 : Int32) (a2 : Int32) (M : Mem) : Option (Int32 × Mem) := bnd (f_X9_isSet a1 M) (fun r1 M2 => if r1 = 0 then some ((-1), M2) else bnd (f_X9_lies a2 0 7 M2) (fun r3 M4 => if r3 = 0 then some ((-1), M4) else bnd (f_X9_best fu a1 a2 M4) (fun r5 M6 => some (M6 (70) 32, M6))))
set_option maxRecDepth 20000 in
theorem kiX9_shut_X9 : ∀ w ∈ u_ws RX9 TX9 33, w ∈ wsX9_shut := by decide +kernel
set_option maxRecDepth 20000 in
theorem klX9_shut_199 : Cond.fieldLink RX9 199 "DoorListerModel" "fewest" "I" ∈ wsX9_shut := by decide +kernel
set_option maxHeartbeats 4000000 in
set_option maxRecDepth 100000 in
theorem c_X9_shut (l : Launch) (D : va_G) (ad : Nat → Nat) (cs : Cs) (hi : Inj ad) (fu : Nat) (a1 : Int32) (a2 : Int32) (M : Mem) : MI l yX9_shut wsX9_shut rmX9_shut D ad cs [.ref (ad (70)), .int a1, .int a2] M (f_X9_shut fu a1 a2 M) := by
  refine Mx.of (cc := cX9_shut) (maxL := 4) (ret := (some .int)) (own := RX9) (lv := [(0, .ref (ad (70))), (1, .int a1), (2, .int a2)]) (by decide) rfl rfl (Nat.le_of_ble_eq_true rfl) rfl hi ?_
  intro p e s m below meth c F hr hlk
  unfold f_X9_shut
  refine g_iload_n (pc := 0) F 1 dX9_shut_0 rfl ?_
  refine g_si (pc := 1) (As := [.int a1]) (st := []) F (c_X9_isSet l D ad cs F.2.2.1 a1 M) (va_cwS 1 F.1.2.2.2.2 gX9_shut_X9_isSet rfl rfl rfl hdS_X9_isSet ⟨by decide, by decide⟩) rfl rfl (Nat.le_of_ble_eq_true rfl) dX9_shut_1 ⟨Nat.zero_le _, Nat.zero_le _⟩ (fun r1 M2 => ?_)
  refine g_if_eq (pc := 4) F 17 dX9_shut_4 (by decide) ?_ ?_
  · refine g_iconst (pc := 17) (v := (-1)) F dX9_shut_17 (by decide) ?_
    exact g_iret (pc := 18) F hr hlk dX9_shut_18
  · refine g_iload_n (pc := 7) F 2 dX9_shut_7 rfl ?_
    refine g_iconst (pc := 8) (v := 0) F dX9_shut_8 (by decide) ?_
    refine g_bipush (pc := 9) (v := 7) F dX9_shut_9 (by decide) ?_
    refine g_si (pc := 11) (As := [.int a2, .int 0, .int 7]) (st := []) F (c_X9_lies l D ad cs F.2.2.1 a2 0 7 M2) (va_cwS 3 F.1.2.2.2.2 gX9_shut_X9_lies rfl rfl rfl hdS_X9_lies ⟨by decide, by decide⟩) rfl rfl (Nat.le_of_ble_eq_true rfl) dX9_shut_11 ⟨Nat.zero_le _, Nat.zero_le _⟩ (fun r3 M4 => ?_)
    refine g_if_ne (pc := 14) F 19 dX9_shut_14 (by decide) ?_ ?_
    · refine g_aload_n (pc := 19) F 0 dX9_shut_19 rfl ?_
      refine g_iload_n (pc := 20) F 1 dX9_shut_20 rfl ?_
      refine g_iload_n (pc := 21) F 2 dX9_shut_21 rfl ?_
      refine g_vi (pc := 22) (k := 70) (ci := 9) (fs := (oX9 ad)) (C := RX9) (T := TX9) (N := 33) (As := [.int a1, .int a2]) (st := []) F (c_X9_best l D ad cs F.2.2.1 fu a1 a2 M4) (by decide) (fun _ => rfl) rfl (cwV 2 F.1.2.2.2.2 gX9_shut_X9_best rfl rfl rfl hdV_X9_best ⟨by decide, by decide⟩) rfl rfl (Nat.le_of_ble_eq_true rfl) dX9_shut_22 ⟨Nat.zero_le _, Nat.zero_le _⟩ (fun r5 M6 => ?_)
      refine g_istore_n (pc := 25) F [(0, .ref (ad (70))), (1, .int a1), (2, .int a2), (3, .int r5)] dX9_shut_25 (by decide) rfl rfl rfl ?_
      refine g_aload_n (pc := 26) F 0 dX9_shut_26 rfl ?_
      refine g_get (pc := 27) (v := .int (M6 (70) 32)) (k := 70) (ci := 9) (fs := (oX9 ad)) (C := RX9) (T := TX9) (N := 33) F (by decide) (fun _ => rfl) rfl kiX9_shut_X9 32 (by decide) klX9_shut_199 rfl rfl dX9_shut_27 ?_
      exact g_iret (pc := 30) F hr hlk dX9_shut_30
    · refine g_iconst (pc := 17) (v := (-1)) F dX9_shut_17 (by decide) ?_
      exact g_iret (pc := 18) F hr hlk dX9_shut_18
-- X9_cuts
def rmX9_cuts : Room := { frames := 10, cells := 0, slots := 0, locals := 248 }
def f_X9_cuts (fu : Nat) (a1 : Int32) (a2 : Int32) (M : Mem) : Option (Int32 × Mem) := bnd (f_X9_isSet a1 M) (fun r1 M2 => if r1 = 0 then some ((-1), M2) else bnd (f_X9_lies a2 0 7 M2) (fun r3 M4 => if r3 = 0 then some ((-1), M4) else bnd (f_X9_best fu a1 a2 M4) (fun r5 M6 => some (r5, M6))))
set_option maxHeartbeats 4000000 in
set_option maxRecDepth 100000 in
theorem c_X9_cuts (l : Launch) (D : va_G) (ad : Nat → Nat) (cs : Cs) (hi : Inj ad) (fu : Nat) (a1 : Int32) (a2 : Int32) (M : Mem) : MI l yX9_cuts wsX9_cuts rmX9_cuts D ad cs [.ref (ad (70)), .int a1, .int a2] M (f_X9_cuts fu a1 a2 M) := by
  refine Mx.of (cc := cX9_cuts) (maxL := 3) (ret := (some .int)) (own := RX9) (lv := [(0, .ref (ad (70))), (1, .int a1), (2, .int a2)]) (by decide) rfl rfl (Nat.le_of_ble_eq_true rfl) rfl hi ?_
  intro p e s m below meth c F hr hlk
  unfold f_X9_cuts
  refine g_iload_n (pc := 0) F 1 dX9_cuts_0 rfl ?_
  refine g_si (pc := 1) (As := [.int a1]) (st := []) F (c_X9_isSet l D ad cs F.2.2.1 a1 M) (va_cwS 1 F.1.2.2.2.2 gX9_cuts_X9_isSet rfl rfl rfl hdS_X9_isSet ⟨by decide, by decide⟩) rfl rfl (Nat.le_of_ble_eq_true rfl) dX9_cuts_1 ⟨Nat.zero_le _, Nat.zero_le _⟩ (fun r1 M2 => ?_)
  refine g_if_eq (pc := 4) F 26 dX9_cuts_4 (by decide) ?_ ?_
  · refine g_iconst (pc := 26) (v := (-1)) F dX9_cuts_26 (by decide) ?_
    exact g_iret (pc := 27) F hr hlk dX9_cuts_27
  · refine g_iload_n (pc := 7) F 2 dX9_cuts_7 rfl ?_
    refine g_iconst (pc := 8) (v := 0) F dX9_cuts_8 (by decide) ?_
    refine g_bipush (pc := 9) (v := 7) F dX9_cuts_9 (by decide) ?_
    refine g_si (pc := 11) (As := [.int a2, .int 0, .int 7]) (st := []) F (c_X9_lies l D ad cs F.2.2.1 a2 0 7 M2) (va_cwS 3 F.1.2.2.2.2 gX9_cuts_X9_lies rfl rfl rfl hdS_X9_lies ⟨by decide, by decide⟩) rfl rfl (Nat.le_of_ble_eq_true rfl) dX9_cuts_11 ⟨Nat.zero_le _, Nat.zero_le _⟩ (fun r3 M4 => ?_)
    refine g_if_eq (pc := 14) F 26 dX9_cuts_14 (by decide) ?_ ?_
    · refine g_iconst (pc := 26) (v := (-1)) F dX9_cuts_26 (by decide) ?_
      exact g_iret (pc := 27) F hr hlk dX9_cuts_27
    · refine g_aload_n (pc := 17) F 0 dX9_cuts_17 rfl ?_
      refine g_iload_n (pc := 18) F 1 dX9_cuts_18 rfl ?_
      refine g_iload_n (pc := 19) F 2 dX9_cuts_19 rfl ?_
      refine g_vi (pc := 20) (k := 70) (ci := 9) (fs := (oX9 ad)) (C := RX9) (T := TX9) (N := 33) (As := [.int a1, .int a2]) (st := []) F (c_X9_best l D ad cs F.2.2.1 fu a1 a2 M4) (by decide) (fun _ => rfl) rfl (cwV 2 F.1.2.2.2.2 gX9_cuts_X9_best rfl rfl rfl hdV_X9_best ⟨by decide, by decide⟩) rfl rfl (Nat.le_of_ble_eq_true rfl) dX9_cuts_20 ⟨Nat.zero_le _, Nat.zero_le _⟩ (fun r5 M6 => ?_)
      refine g_goto (pc := 23) F 27 dX9_cuts_23 (by decide) ?_
      exact g_iret (pc := 27) F hr hlk dX9_cuts_27
-- X9_look
def rmX9_look : Room := { frames := 5, cells := 0, slots := 0, locals := 123 }
def f_X9_look (fu : Nat) (a1 : Int32) (a2 : Int32) (a3 : Int32) (M : Mem) : Option (Int32 × Mem) := bnd (f_X9_isProgram a1 M) (fun r1 M2 => if r1 = 0 then some ((-1), M2) else if ix a1 4 then bnd (f_X9_lies a2 0 ((M2 (72) a1.toNatClampNeg) - (1 : Int32)) M2) (fun r3 M4 => if r3 = 0 then some ((-1), M4) else nm (((24 : Int32) * a1) + a2) (fun v5 => if a3 = 0 then if ix v5 96 then some (M4 (73) v5.toNatClampNeg, M4) else none else if a3 = 1 then if ix v5 96 then some (M4 (74) v5.toNatClampNeg, M4) else none else if a3 = 2 then if ix v5 96 then some (M4 (75) v5.toNatClampNeg, M4) else none else if a3 = 3 then if ix v5 96 then some (M4 (76) v5.toNatClampNeg, M4) else none else if a3 = 4 then bnd (f_X9_knows fu a1 M4) (fun r11 M12 => if ix a1 4 then bnd (f_X9_has (M12 (79) a1.toNatClampNeg) a2 M12) (fun r13 M14 => if r13 = 0 then some (0, M14) else some (1, M14)) else none) else some ((-1), M4))) else none)
set_option maxRecDepth 20000 in
theorem kiX9_look_X9 : ∀ w ∈ u_ws RX9 TX9 33, w ∈ wsX9_look := by decide +kernel
set_option maxRecDepth 20000 in
theorem klX9_look_17 : Cond.fieldLink RX9 17 "DoorListerModel" "size" "[I" ∈ wsX9_look := by decide +kernel
set_option maxRecDepth 20000 in
theorem klX9_look_21 : Cond.fieldLink RX9 21 "DoorListerModel" "kind" "[I" ∈ wsX9_look := by decide +kernel
set_option maxRecDepth 20000 in
theorem klX9_look_24 : Cond.fieldLink RX9 24 "DoorListerModel" "reg" "[I" ∈ wsX9_look := by decide +kernel
set_option maxRecDepth 20000 in
theorem klX9_look_27 : Cond.fieldLink RX9 27 "DoorListerModel" "num" "[I" ∈ wsX9_look := by decide +kernel
set_option maxRecDepth 20000 in
theorem klX9_look_30 : Cond.fieldLink RX9 30 "DoorListerModel" "to" "[I" ∈ wsX9_look := by decide +kernel
set_option maxRecDepth 20000 in
theorem klX9_look_39 : Cond.fieldLink RX9 39 "DoorListerModel" "comes" "[I" ∈ wsX9_look := by decide +kernel
set_option maxHeartbeats 4000000 in
set_option maxRecDepth 100000 in
theorem c_X9_look (l : Launch) (D : va_G) (ad : Nat → Nat) (cs : Cs) (hi : Inj ad) (fu : Nat) (a1 : Int32) (a2 : Int32) (a3 : Int32) (M : Mem) : MI l yX9_look wsX9_look rmX9_look D ad cs [.ref (ad (70)), .int a1, .int a2, .int a3] M (f_X9_look fu a1 a2 a3 M) := by
  refine Mx.of (cc := cX9_look) (maxL := 5) (ret := (some .int)) (own := RX9) (lv := [(0, .ref (ad (70))), (1, .int a1), (2, .int a2), (3, .int a3)]) (by decide) rfl rfl (Nat.le_of_ble_eq_true rfl) rfl hi ?_
  intro p e s m below meth c F hr hlk
  unfold f_X9_look
  refine g_iload_n (pc := 0) F 1 dX9_look_0 rfl ?_
  refine g_si (pc := 1) (As := [.int a1]) (st := []) F (c_X9_isProgram l D ad cs F.2.2.1 a1 M) (va_cwS 1 F.1.2.2.2.2 gX9_look_X9_isProgram rfl rfl rfl hdS_X9_isProgram ⟨by decide, by decide⟩) rfl rfl (Nat.le_of_ble_eq_true rfl) dX9_look_1 ⟨Nat.zero_le _, Nat.zero_le _⟩ (fun r1 M2 => ?_)
  refine g_if_eq (pc := 4) F 23 dX9_look_4 (by decide) ?_ ?_
  · refine g_iconst (pc := 23) (v := (-1)) F dX9_look_23 (by decide) ?_
    exact g_iret (pc := 24) F hr hlk dX9_look_24
  · refine g_iload_n (pc := 7) F 2 dX9_look_7 rfl ?_
    refine g_iconst (pc := 8) (v := 0) F dX9_look_8 (by decide) ?_
    refine g_aload_n (pc := 9) F 0 dX9_look_9 rfl ?_
    refine g_get (pc := 10) (v := .ref (ad (72))) (k := 70) (ci := 9) (fs := (oX9 ad)) (C := RX9) (T := TX9) (N := 33) F (by decide) (fun _ => rfl) rfl kiX9_look_X9 3 (by decide) klX9_look_17 rfl rfl dX9_look_10 ?_
    refine g_iload_n (pc := 13) F 1 dX9_look_13 rfl ?_
    refine g_iald (pc := 14) (k := 72) (n := 4) F (by decide) (fun _ => rfl) dX9_look_14 ?_
    refine g_iconst (pc := 15) (v := 1) F dX9_look_15 (by decide) ?_
    refine g_isub (pc := 16) F dX9_look_16 ?_
    refine g_si (pc := 17) (As := [.int a2, .int 0, .int ((M2 (72) a1.toNatClampNeg) - (1 : Int32))]) (st := []) F (c_X9_lies l D ad cs F.2.2.1 a2 0 ((M2 (72) a1.toNatClampNeg) - (1 : Int32)) M2) (va_cwS 3 F.1.2.2.2.2 gX9_look_X9_lies rfl rfl rfl hdS_X9_lies ⟨by decide, by decide⟩) rfl rfl (Nat.le_of_ble_eq_true rfl) dX9_look_17 ⟨Nat.zero_le _, Nat.zero_le _⟩ (fun r3 M4 => ?_)
    refine g_if_ne (pc := 20) F 25 dX9_look_20 (by decide) ?_ ?_
    · refine g_bipush (pc := 25) (v := 24) F dX9_look_25 (by decide) ?_
      refine g_iload_n (pc := 27) F 1 dX9_look_27 rfl ?_
      refine g_imul (pc := 28) F dX9_look_28 ?_
      refine g_iload_n (pc := 29) F 2 dX9_look_29 rfl ?_
      refine g_iadd (pc := 30) F dX9_look_30 ?_
      refine g_nm (fun v5 => ?_)
      refine g_istore (pc := 31) F [(0, .ref (ad (70))), (1, .int a1), (2, .int a2), (3, .int a3), (4, .int v5)] dX9_look_31 (by decide) rfl rfl rfl ?_
      refine g_iload_n (pc := 33) F 3 dX9_look_33 rfl ?_
      refine g_case (v := 0) (fun _ => ?_) (fun n6 => ?_)
      · refine g_tab (pc := 34) (off := 34) F 68 dX9_look_34 (by decide) (by decide) (by decide) (by decide) ?_
        refine g_aload_n (pc := 68) F 0 dX9_look_68 rfl ?_
        refine g_get (pc := 69) (v := .ref (ad (73))) (k := 70) (ci := 9) (fs := (oX9 ad)) (C := RX9) (T := TX9) (N := 33) F (by decide) (fun _ => rfl) rfl kiX9_look_X9 4 (by decide) klX9_look_21 rfl rfl dX9_look_69 ?_
        refine g_iload (pc := 72) F 4 dX9_look_72 rfl ?_
        refine g_iald (pc := 74) (k := 73) (n := 96) F (by decide) (fun _ => rfl) dX9_look_74 ?_
        exact g_iret (pc := 75) F hr hlk dX9_look_75
      refine g_case (v := 1) (fun _ => ?_) (fun n7 => ?_)
      · refine g_tab (pc := 34) (off := 42) F 76 dX9_look_34 (by decide) (by decide) (by decide) (by decide) ?_
        refine g_aload_n (pc := 76) F 0 dX9_look_76 rfl ?_
        refine g_get (pc := 77) (v := .ref (ad (74))) (k := 70) (ci := 9) (fs := (oX9 ad)) (C := RX9) (T := TX9) (N := 33) F (by decide) (fun _ => rfl) rfl kiX9_look_X9 5 (by decide) klX9_look_24 rfl rfl dX9_look_77 ?_
        refine g_iload (pc := 80) F 4 dX9_look_80 rfl ?_
        refine g_iald (pc := 82) (k := 74) (n := 96) F (by decide) (fun _ => rfl) dX9_look_82 ?_
        exact g_iret (pc := 83) F hr hlk dX9_look_83
      refine g_case (v := 2) (fun _ => ?_) (fun n8 => ?_)
      · refine g_tab (pc := 34) (off := 50) F 84 dX9_look_34 (by decide) (by decide) (by decide) (by decide) ?_
        refine g_aload_n (pc := 84) F 0 dX9_look_84 rfl ?_
        refine g_get (pc := 85) (v := .ref (ad (75))) (k := 70) (ci := 9) (fs := (oX9 ad)) (C := RX9) (T := TX9) (N := 33) F (by decide) (fun _ => rfl) rfl kiX9_look_X9 6 (by decide) klX9_look_27 rfl rfl dX9_look_85 ?_
        refine g_iload (pc := 88) F 4 dX9_look_88 rfl ?_
        refine g_iald (pc := 90) (k := 75) (n := 96) F (by decide) (fun _ => rfl) dX9_look_90 ?_
        exact g_iret (pc := 91) F hr hlk dX9_look_91
      refine g_case (v := 3) (fun _ => ?_) (fun n9 => ?_)
      · refine g_tab (pc := 34) (off := 58) F 92 dX9_look_34 (by decide) (by decide) (by decide) (by decide) ?_
        refine g_aload_n (pc := 92) F 0 dX9_look_92 rfl ?_
        refine g_get (pc := 93) (v := .ref (ad (76))) (k := 70) (ci := 9) (fs := (oX9 ad)) (C := RX9) (T := TX9) (N := 33) F (by decide) (fun _ => rfl) rfl kiX9_look_X9 7 (by decide) klX9_look_30 rfl rfl dX9_look_93 ?_
        refine g_iload (pc := 96) F 4 dX9_look_96 rfl ?_
        refine g_iald (pc := 98) (k := 76) (n := 96) F (by decide) (fun _ => rfl) dX9_look_98 ?_
        exact g_iret (pc := 99) F hr hlk dX9_look_99
      refine g_case (v := 4) (fun _ => ?_) (fun n10 => ?_)
      · refine g_tab (pc := 34) (off := 66) F 100 dX9_look_34 (by decide) (by decide) (by decide) (by decide) ?_
        refine g_aload_n (pc := 100) F 0 dX9_look_100 rfl ?_
        refine g_iload_n (pc := 101) F 1 dX9_look_101 rfl ?_
        refine g_vv (pc := 102) (k := 70) (ci := 9) (fs := (oX9 ad)) (C := RX9) (T := TX9) (N := 33) (As := [.int a1]) (st := []) F (c_X9_knows l D ad cs F.2.2.1 fu a1 M4) (by decide) (fun _ => rfl) rfl (cwV 1 F.1.2.2.2.2 gX9_look_X9_knows rfl rfl rfl hdV_X9_knows ⟨by decide, by decide⟩) rfl rfl (Nat.le_of_ble_eq_true rfl) dX9_look_102 ⟨Nat.zero_le _, Nat.zero_le _⟩ (fun r11 M12 => ?_)
        refine g_aload_n (pc := 105) F 0 dX9_look_105 rfl ?_
        refine g_get (pc := 106) (v := .ref (ad (79))) (k := 70) (ci := 9) (fs := (oX9 ad)) (C := RX9) (T := TX9) (N := 33) F (by decide) (fun _ => rfl) rfl kiX9_look_X9 10 (by decide) klX9_look_39 rfl rfl dX9_look_106 ?_
        refine g_iload_n (pc := 109) F 1 dX9_look_109 rfl ?_
        refine g_iald (pc := 110) (k := 79) (n := 4) F (by decide) (fun _ => rfl) dX9_look_110 ?_
        refine g_iload_n (pc := 111) F 2 dX9_look_111 rfl ?_
        refine g_si (pc := 112) (As := [.int (M12 (79) a1.toNatClampNeg), .int a2]) (st := []) F (c_X9_has l D ad cs F.2.2.1 (M12 (79) a1.toNatClampNeg) a2 M12) (va_cwS 2 F.1.2.2.2.2 gX9_look_X9_has rfl rfl rfl hdS_X9_has ⟨by decide, by decide⟩) rfl rfl (Nat.le_of_ble_eq_true rfl) dX9_look_112 ⟨Nat.zero_le _, Nat.zero_le _⟩ (fun r13 M14 => ?_)
        refine g_if_eq (pc := 115) F 122 dX9_look_115 (by decide) ?_ ?_
        · refine g_iconst (pc := 122) (v := 0) F dX9_look_122 (by decide) ?_
          exact g_iret (pc := 123) F hr hlk dX9_look_123
        · refine g_iconst (pc := 118) (v := 1) F dX9_look_118 (by decide) ?_
          refine g_goto (pc := 119) F 123 dX9_look_119 (by decide) ?_
          exact g_iret (pc := 123) F hr hlk dX9_look_123
      refine g_tabd (pc := 34) F 124 dX9_look_34 (by have e0 := ne_lit (n := 0) (by decide) n6; have e1 := ne_lit (n := 1) (by decide) n7; have e2 := ne_lit (n := 2) (by decide) n8; have e3 := ne_lit (n := 3) (by decide) n9; have e4 := ne_lit (n := 4) (by decide) n10; omega) (by decide) ?_
      refine g_iconst (pc := 124) (v := (-1)) F dX9_look_124 (by decide) ?_
      exact g_iret (pc := 125) F hr hlk dX9_look_125
    · refine g_iconst (pc := 23) (v := (-1)) F dX9_look_23 (by decide) ?_
      exact g_iret (pc := 24) F hr hlk dX9_look_24
-- X9_callsOf
def rmX9_callsOf : Room := { frames := 6, cells := 0, slots := 0, locals := 146 }
def f_X9_callsOf_L16 (fu : Nat) (x1 : Int32) (x2 : Int32) (x3 : Int32) (x5 : Int32) (k : Mem → Int32 → Int32 → Option (Int32 × Mem)) : Nat → Mem → Int32 → Int32 → Option (Int32 × Mem)
  | 0, _, _, _ => none
  | n + 1, M, x4, x6 => if 32 ≤ x6 then k M x4 x6 else if x3 = 0 then bnd (f_X9_needOf fu x1 x2 x5 M) (fun r1 M2 => bnd (f_X9_has r1 x6 M2) (fun r3 M4 => if r3 = 0 then nm (x4 + (0 : Int32)) (fun v5 => f_X9_callsOf_L16 fu x1 x2 x3 x5 k n M4 v5 (x6 + 1)) else nm (x4 + (1 : Int32)) (fun v6 => f_X9_callsOf_L16 fu x1 x2 x3 x5 k n M4 v6 (x6 + 1)))) else nm ((((64 : Int32) * x1) + ((32 : Int32) * x2)) + x5) (fun v7 => if ix v7 256 then bnd (f_X9_has (M (78) v7.toNatClampNeg) x6 M) (fun r8 M9 => if r8 = 0 then nm (x4 + (0 : Int32)) (fun v10 => f_X9_callsOf_L16 fu x1 x2 x3 x5 k n M9 v10 (x6 + 1)) else nm (x4 + (1 : Int32)) (fun v11 => f_X9_callsOf_L16 fu x1 x2 x3 x5 k n M9 v11 (x6 + 1))) else none)
def f_X9_callsOf_L6 (fu : Nat) (x1 : Int32) (x2 : Int32) (x3 : Int32) (k : Mem → Int32 → Int32 → Option (Int32 × Mem)) : Nat → Mem → Int32 → Int32 → Option (Int32 × Mem)
  | 0, _, _, _ => none
  | n + 1, M, x4, x5 => if 32 ≤ x5 then k M x4 x5 else f_X9_callsOf_L16 fu x1 x2 x3 x5 (fun M12 y13 y14 => f_X9_callsOf_L6 fu x1 x2 x3 k n M12 y13 (x5 + 1)) fu M x4 0
def f_X9_callsOf (fu : Nat) (a1 : Int32) (a2 : Int32) (a3 : Int32) (M : Mem) : Option (Int32 × Mem) := f_X9_callsOf_L6 fu a1 a2 a3 (fun M15 y16 y17 => some (y16, M15)) fu M 0 0
set_option maxRecDepth 20000 in
theorem kiX9_callsOf_X9 : ∀ w ∈ u_ws RX9 TX9 33, w ∈ wsX9_callsOf := by decide +kernel
set_option maxRecDepth 20000 in
theorem klX9_callsOf_36 : Cond.fieldLink RX9 36 "DoorListerModel" "saw" "[I" ∈ wsX9_callsOf := by decide +kernel
set_option maxHeartbeats 4000000 in
set_option maxRecDepth 100000 in
theorem w_X9_callsOf_L16 {p : Program} {l : Launch} {e : Env} {s : State} {m : MethodId} {args : Array Value} {below : List Frame} {meth : Method} {c : Code} {D : va_G} {ad : Nat → Nat} {cs : Cs} (fu : Nat) (x1 : Int32) (x2 : Int32) (x3 : Int32) (x5 : Int32) (F : Fx p m c cX9_callsOf 7 s args wsX9_callsOf RX9 D ad cs (Ad ad)) (hr : meth.sig.returnType = (some .int)) (hlk : meth.locks = false) (k : Mem → Int32 → Int32 → Option (Int32 × Mem)) (hkx : ∀ (M : Mem) (x4 x6 : Int32), GoX p l e rmX9_callsOf s m args below meth c 0 0 7 (fun rM => MQ below (cQi D ad cs rM) args s 0 0 (Ad ad)) D ad cs (Ad ad) M 79 [(0, .ref (ad (70))), (1, .int x1), (2, .int x2), (3, .int x3), (4, .int x4), (5, .int x5), (6, .int x6)] [] (k M x4 x6)) : ∀ (n : Nat) (M : Mem) (x4 x6 : Int32), GoX p l e rmX9_callsOf s m args below meth c 0 0 7 (fun rM => MQ below (cQi D ad cs rM) args s 0 0 (Ad ad)) D ad cs (Ad ad) M 16 [(0, .ref (ad (70))), (1, .int x1), (2, .int x2), (3, .int x3), (4, .int x4), (5, .int x5), (6, .int x6)] [] (f_X9_callsOf_L16 fu x1 x2 x3 x5 k n M x4 x6) := by
  intro n
  induction n with
  | zero => intro M x4 x6; exact g_none
  | succ n ih =>
    intro M x4 x6
    unfold f_X9_callsOf_L16
    refine g_iload (pc := 16) F 6 dX9_callsOf_16 rfl ?_
    refine g_bipush (pc := 18) (v := 32) F dX9_callsOf_18 (by decide) ?_
    refine g_icmp_ge (pc := 20) F 79 dX9_callsOf_20 (by decide) ?_ ?_
    · exact hkx _ _ _
    · refine g_iload (pc := 23) F 4 dX9_callsOf_23 rfl ?_
      refine g_iload_n (pc := 25) F 3 dX9_callsOf_25 rfl ?_
      refine g_if_eq (pc := 26) F 49 dX9_callsOf_26 (by decide) ?_ ?_
      · refine g_aload_n (pc := 49) F 0 dX9_callsOf_49 rfl ?_
        refine g_iload_n (pc := 50) F 1 dX9_callsOf_50 rfl ?_
        refine g_iload_n (pc := 51) F 2 dX9_callsOf_51 rfl ?_
        refine g_iload (pc := 52) F 5 dX9_callsOf_52 rfl ?_
        refine g_vi (pc := 54) (k := 70) (ci := 9) (fs := (oX9 ad)) (C := RX9) (T := TX9) (N := 33) (As := [.int x1, .int x2, .int x5]) (st := [.int x4]) F (c_X9_needOf l D ad cs F.2.2.1 fu x1 x2 x5 M) (by decide) (fun _ => rfl) rfl (cwV 3 F.1.2.2.2.2 gX9_callsOf_X9_needOf rfl rfl rfl hdV_X9_needOf ⟨by decide, by decide⟩) rfl rfl (Nat.le_of_ble_eq_true rfl) dX9_callsOf_54 ⟨Nat.zero_le _, Nat.zero_le _⟩ (fun r1 M2 => ?_)
        refine g_iload (pc := 57) F 6 dX9_callsOf_57 rfl ?_
        refine g_si (pc := 59) (As := [.int r1, .int x6]) (st := [.int x4]) F (c_X9_has l D ad cs F.2.2.1 r1 x6 M2) (va_cwS 2 F.1.2.2.2.2 gX9_callsOf_X9_has rfl rfl rfl hdS_X9_has ⟨by decide, by decide⟩) rfl rfl (Nat.le_of_ble_eq_true rfl) dX9_callsOf_59 ⟨Nat.zero_le _, Nat.zero_le _⟩ (fun r3 M4 => ?_)
        refine g_if_eq (pc := 62) F 69 dX9_callsOf_62 (by decide) ?_ ?_
        · refine g_iconst (pc := 69) (v := 0) F dX9_callsOf_69 (by decide) ?_
          refine g_iadd (pc := 70) F dX9_callsOf_70 ?_
          refine g_nm (fun v5 => ?_)
          refine g_istore (pc := 71) F [(0, .ref (ad (70))), (1, .int x1), (2, .int x2), (3, .int x3), (4, .int v5), (5, .int x5), (6, .int x6)] dX9_callsOf_71 (by decide) rfl rfl rfl ?_
          refine g_iinc (pc := 73) (v := x6 + 1) F [(0, .ref (ad (70))), (1, .int x1), (2, .int x2), (3, .int x3), (4, .int v5), (5, .int x5), (6, .int (x6 + 1))] 6 dX9_callsOf_73 rfl rfl (by decide) rfl rfl rfl ?_
          refine g_goto (pc := 76) F 16 dX9_callsOf_76 (by decide) ?_
          exact ih _ _ _
        · refine g_iconst (pc := 65) (v := 1) F dX9_callsOf_65 (by decide) ?_
          refine g_goto (pc := 66) F 70 dX9_callsOf_66 (by decide) ?_
          refine g_iadd (pc := 70) F dX9_callsOf_70 ?_
          refine g_nm (fun v6 => ?_)
          refine g_istore (pc := 71) F [(0, .ref (ad (70))), (1, .int x1), (2, .int x2), (3, .int x3), (4, .int v6), (5, .int x5), (6, .int x6)] dX9_callsOf_71 (by decide) rfl rfl rfl ?_
          refine g_iinc (pc := 73) (v := x6 + 1) F [(0, .ref (ad (70))), (1, .int x1), (2, .int x2), (3, .int x3), (4, .int v6), (5, .int x5), (6, .int (x6 + 1))] 6 dX9_callsOf_73 rfl rfl (by decide) rfl rfl rfl ?_
          refine g_goto (pc := 76) F 16 dX9_callsOf_76 (by decide) ?_
          exact ih _ _ _
      · refine g_aload_n (pc := 29) F 0 dX9_callsOf_29 rfl ?_
        refine g_get (pc := 30) (v := .ref (ad (78))) (k := 70) (ci := 9) (fs := (oX9 ad)) (C := RX9) (T := TX9) (N := 33) F (by decide) (fun _ => rfl) rfl kiX9_callsOf_X9 9 (by decide) klX9_callsOf_36 rfl rfl dX9_callsOf_30 ?_
        refine g_bipush (pc := 33) (v := 64) F dX9_callsOf_33 (by decide) ?_
        refine g_iload_n (pc := 35) F 1 dX9_callsOf_35 rfl ?_
        refine g_imul (pc := 36) F dX9_callsOf_36 ?_
        refine g_bipush (pc := 37) (v := 32) F dX9_callsOf_37 (by decide) ?_
        refine g_iload_n (pc := 39) F 2 dX9_callsOf_39 rfl ?_
        refine g_imul (pc := 40) F dX9_callsOf_40 ?_
        refine g_iadd (pc := 41) F dX9_callsOf_41 ?_
        refine g_iload (pc := 42) F 5 dX9_callsOf_42 rfl ?_
        refine g_iadd (pc := 44) F dX9_callsOf_44 ?_
        refine g_nm (fun v7 => ?_)
        refine g_iald (pc := 45) (k := 78) (n := 256) F (by decide) (fun _ => rfl) dX9_callsOf_45 ?_
        refine g_goto (pc := 46) F 57 dX9_callsOf_46 (by decide) ?_
        refine g_iload (pc := 57) F 6 dX9_callsOf_57 rfl ?_
        refine g_si (pc := 59) (As := [.int (M (78) v7.toNatClampNeg), .int x6]) (st := [.int x4]) F (c_X9_has l D ad cs F.2.2.1 (M (78) v7.toNatClampNeg) x6 M) (va_cwS 2 F.1.2.2.2.2 gX9_callsOf_X9_has rfl rfl rfl hdS_X9_has ⟨by decide, by decide⟩) rfl rfl (Nat.le_of_ble_eq_true rfl) dX9_callsOf_59 ⟨Nat.zero_le _, Nat.zero_le _⟩ (fun r8 M9 => ?_)
        refine g_if_eq (pc := 62) F 69 dX9_callsOf_62 (by decide) ?_ ?_
        · refine g_iconst (pc := 69) (v := 0) F dX9_callsOf_69 (by decide) ?_
          refine g_iadd (pc := 70) F dX9_callsOf_70 ?_
          refine g_nm (fun v10 => ?_)
          refine g_istore (pc := 71) F [(0, .ref (ad (70))), (1, .int x1), (2, .int x2), (3, .int x3), (4, .int v10), (5, .int x5), (6, .int x6)] dX9_callsOf_71 (by decide) rfl rfl rfl ?_
          refine g_iinc (pc := 73) (v := x6 + 1) F [(0, .ref (ad (70))), (1, .int x1), (2, .int x2), (3, .int x3), (4, .int v10), (5, .int x5), (6, .int (x6 + 1))] 6 dX9_callsOf_73 rfl rfl (by decide) rfl rfl rfl ?_
          refine g_goto (pc := 76) F 16 dX9_callsOf_76 (by decide) ?_
          exact ih _ _ _
        · refine g_iconst (pc := 65) (v := 1) F dX9_callsOf_65 (by decide) ?_
          refine g_goto (pc := 66) F 70 dX9_callsOf_66 (by decide) ?_
          refine g_iadd (pc := 70) F dX9_callsOf_70 ?_
          refine g_nm (fun v11 => ?_)
          refine g_istore (pc := 71) F [(0, .ref (ad (70))), (1, .int x1), (2, .int x2), (3, .int x3), (4, .int v11), (5, .int x5), (6, .int x6)] dX9_callsOf_71 (by decide) rfl rfl rfl ?_
          refine g_iinc (pc := 73) (v := x6 + 1) F [(0, .ref (ad (70))), (1, .int x1), (2, .int x2), (3, .int x3), (4, .int v11), (5, .int x5), (6, .int (x6 + 1))] 6 dX9_callsOf_73 rfl rfl (by decide) rfl rfl rfl ?_
          refine g_goto (pc := 76) F 16 dX9_callsOf_76 (by decide) ?_
          exact ih _ _ _
set_option maxHeartbeats 4000000 in
set_option maxRecDepth 100000 in
theorem w_X9_callsOf_L6 {p : Program} {l : Launch} {e : Env} {s : State} {m : MethodId} {args : Array Value} {below : List Frame} {meth : Method} {c : Code} {D : va_G} {ad : Nat → Nat} {cs : Cs} (fu : Nat) (x1 : Int32) (x2 : Int32) (x3 : Int32) (F : Fx p m c cX9_callsOf 7 s args wsX9_callsOf RX9 D ad cs (Ad ad)) (hr : meth.sig.returnType = (some .int)) (hlk : meth.locks = false) (k : Mem → Int32 → Int32 → Option (Int32 × Mem)) (hkx : ∀ (M : Mem) (x4 x5 : Int32), GoX p l e rmX9_callsOf s m args below meth c 0 0 7 (fun rM => MQ below (cQi D ad cs rM) args s 0 0 (Ad ad)) D ad cs (Ad ad) M 85 [(0, .ref (ad (70))), (1, .int x1), (2, .int x2), (3, .int x3), (4, .int x4), (5, .int x5)] [] (k M x4 x5)) : ∀ (n : Nat) (M : Mem) (x4 x5 : Int32), GoX p l e rmX9_callsOf s m args below meth c 0 0 7 (fun rM => MQ below (cQi D ad cs rM) args s 0 0 (Ad ad)) D ad cs (Ad ad) M 6 [(0, .ref (ad (70))), (1, .int x1), (2, .int x2), (3, .int x3), (4, .int x4), (5, .int x5)] [] (f_X9_callsOf_L6 fu x1 x2 x3 k n M x4 x5) := by
  intro n
  induction n with
  | zero => intro M x4 x5; exact g_none
  | succ n ih =>
    intro M x4 x5
    unfold f_X9_callsOf_L6
    refine g_iload (pc := 6) F 5 dX9_callsOf_6 rfl ?_
    refine g_bipush (pc := 8) (v := 32) F dX9_callsOf_8 (by decide) ?_
    refine g_icmp_ge (pc := 10) F 85 dX9_callsOf_10 (by decide) ?_ ?_
    · exact hkx _ _ _
    · refine g_iconst (pc := 13) (v := 0) F dX9_callsOf_13 (by decide) ?_
      refine g_istore (pc := 14) F [(0, .ref (ad (70))), (1, .int x1), (2, .int x2), (3, .int x3), (4, .int x4), (5, .int x5), (6, .int 0)] dX9_callsOf_14 (by decide) rfl rfl rfl ?_
      refine w_X9_callsOf_L16 fu x1 x2 x3 x5 F hr hlk _ (fun M12 y13 y14 => ?_) _ _ _ _
      refine g_iinc (pc := 79) (v := x5 + 1) F [(0, .ref (ad (70))), (1, .int x1), (2, .int x2), (3, .int x3), (4, .int y13), (5, .int (x5 + 1)), (6, .int y14)] 5 dX9_callsOf_79 rfl rfl (by decide) rfl rfl rfl ?_
      refine g_goto (pc := 82) F 6 dX9_callsOf_82 (by decide) ?_
      refine g_sub [0, 1, 2, 3, 4, 5] [(0, .ref (ad (70))), (1, .int x1), (2, .int x2), (3, .int x3), (4, .int y13), (5, .int (x5 + 1))] rfl ?_
      exact ih _ _ _
set_option maxHeartbeats 4000000 in
set_option maxRecDepth 100000 in
theorem c_X9_callsOf (l : Launch) (D : va_G) (ad : Nat → Nat) (cs : Cs) (hi : Inj ad) (fu : Nat) (a1 : Int32) (a2 : Int32) (a3 : Int32) (M : Mem) : MI l yX9_callsOf wsX9_callsOf rmX9_callsOf D ad cs [.ref (ad (70)), .int a1, .int a2, .int a3] M (f_X9_callsOf fu a1 a2 a3 M) := by
  refine Mx.of (cc := cX9_callsOf) (maxL := 7) (ret := (some .int)) (own := RX9) (lv := [(0, .ref (ad (70))), (1, .int a1), (2, .int a2), (3, .int a3)]) (by decide) rfl rfl (Nat.le_of_ble_eq_true rfl) rfl hi ?_
  intro p e s m below meth c F hr hlk
  unfold f_X9_callsOf
  refine g_iconst (pc := 0) (v := 0) F dX9_callsOf_0 (by decide) ?_
  refine g_istore (pc := 1) F [(0, .ref (ad (70))), (1, .int a1), (2, .int a2), (3, .int a3), (4, .int 0)] dX9_callsOf_1 (by decide) rfl rfl rfl ?_
  refine g_iconst (pc := 3) (v := 0) F dX9_callsOf_3 (by decide) ?_
  refine g_istore (pc := 4) F [(0, .ref (ad (70))), (1, .int a1), (2, .int a2), (3, .int a3), (4, .int 0), (5, .int 0)] dX9_callsOf_4 (by decide) rfl rfl rfl ?_
  refine w_X9_callsOf_L6 fu a1 a2 a3 F hr hlk _ (fun M15 y16 y17 => ?_) _ _ _ _
  refine g_iload (pc := 85) F 4 dX9_callsOf_85 rfl ?_
  exact g_iret (pc := 87) F hr hlk dX9_callsOf_87
-- X9_count
def rmX9_count : Room := { frames := 7, cells := 0, slots := 0, locals := 172 }
def f_X9_count (fu : Nat) (a1 : Int32) (a2 : Int32) (M : Mem) : Option (Int32 × Mem) := if a1 = ((-1)) then if a2 = 0 then some (M (70) 12, M) else if a2 = 1 then some (M (70) 1, M) else some ((-1), M) else bnd (f_X9_isProgram a1 M) (fun r1 M2 => if r1 = 0 then some ((-1), M2) else bnd (f_X9_lies a2 0 4 M2) (fun r3 M4 => if r3 = 0 then some ((-1), M4) else if a2 = 0 then if ix a1 4 then some (M4 (72) a1.toNatClampNeg, M4) else none else if a2 ≤ 2 then bnd (f_X9_callsOf fu a1 ((a2 - (1 : Int32)) - (a2 - (1 : Int32)) / 2 * 2) 0 M4) (fun r5 M6 => some (r5, M6)) else bnd (f_X9_callsOf fu a1 ((a2 - (1 : Int32)) - (a2 - (1 : Int32)) / 2 * 2) 1 M4) (fun r7 M8 => some (r7, M8))))
set_option maxRecDepth 20000 in
theorem kiX9_count_X9 : ∀ w ∈ u_ws RX9 TX9 33, w ∈ wsX9_count := by decide +kernel
set_option maxRecDepth 20000 in
theorem klX9_count_17 : Cond.fieldLink RX9 17 "DoorListerModel" "size" "[I" ∈ wsX9_count := by decide +kernel
set_option maxRecDepth 20000 in
theorem klX9_count_169 : Cond.fieldLink RX9 169 "DoorListerModel" "taped" "I" ∈ wsX9_count := by decide +kernel
set_option maxRecDepth 20000 in
theorem klX9_count_181 : Cond.fieldLink RX9 181 "DoorListerModel" "effects" "I" ∈ wsX9_count := by decide +kernel
set_option maxHeartbeats 4000000 in
set_option maxRecDepth 100000 in
theorem c_X9_count (l : Launch) (D : va_G) (ad : Nat → Nat) (cs : Cs) (hi : Inj ad) (fu : Nat) (a1 : Int32) (a2 : Int32) (M : Mem) : MI l yX9_count wsX9_count rmX9_count D ad cs [.ref (ad (70)), .int a1, .int a2] M (f_X9_count fu a1 a2 M) := by
  refine Mx.of (cc := cX9_count) (maxL := 3) (ret := (some .int)) (own := RX9) (lv := [(0, .ref (ad (70))), (1, .int a1), (2, .int a2)]) (by decide) rfl rfl (Nat.le_of_ble_eq_true rfl) rfl hi ?_
  intro p e s m below meth c F hr hlk
  unfold f_X9_count
  refine g_iload_n (pc := 0) F 1 dX9_count_0 rfl ?_
  refine g_iconst (pc := 1) (v := (-1)) F dX9_count_1 (by decide) ?_
  refine g_icmp_ne (pc := 2) F 30 dX9_count_2 (by decide) ?_ ?_
  · refine g_iload_n (pc := 30) F 1 dX9_count_30 rfl ?_
    refine g_si (pc := 31) (As := [.int a1]) (st := []) F (c_X9_isProgram l D ad cs F.2.2.1 a1 M) (va_cwS 1 F.1.2.2.2.2 gX9_count_X9_isProgram rfl rfl rfl hdS_X9_isProgram ⟨by decide, by decide⟩) rfl rfl (Nat.le_of_ble_eq_true rfl) dX9_count_31 ⟨Nat.zero_le _, Nat.zero_le _⟩ (fun r1 M2 => ?_)
    refine g_if_eq (pc := 34) F 46 dX9_count_34 (by decide) ?_ ?_
    · refine g_iconst (pc := 46) (v := (-1)) F dX9_count_46 (by decide) ?_
      exact g_iret (pc := 47) F hr hlk dX9_count_47
    · refine g_iload_n (pc := 37) F 2 dX9_count_37 rfl ?_
      refine g_iconst (pc := 38) (v := 0) F dX9_count_38 (by decide) ?_
      refine g_iconst (pc := 39) (v := 4) F dX9_count_39 (by decide) ?_
      refine g_si (pc := 40) (As := [.int a2, .int 0, .int 4]) (st := []) F (c_X9_lies l D ad cs F.2.2.1 a2 0 4 M2) (va_cwS 3 F.1.2.2.2.2 gX9_count_X9_lies rfl rfl rfl hdS_X9_lies ⟨by decide, by decide⟩) rfl rfl (Nat.le_of_ble_eq_true rfl) dX9_count_40 ⟨Nat.zero_le _, Nat.zero_le _⟩ (fun r3 M4 => ?_)
      refine g_if_ne (pc := 43) F 48 dX9_count_43 (by decide) ?_ ?_
      · refine g_iload_n (pc := 48) F 2 dX9_count_48 rfl ?_
        refine g_if_ne (pc := 49) F 61 dX9_count_49 (by decide) ?_ ?_
        · refine g_aload_n (pc := 61) F 0 dX9_count_61 rfl ?_
          refine g_iload_n (pc := 62) F 1 dX9_count_62 rfl ?_
          refine g_iload_n (pc := 63) F 2 dX9_count_63 rfl ?_
          refine g_iconst (pc := 64) (v := 1) F dX9_count_64 (by decide) ?_
          refine g_isub (pc := 65) F dX9_count_65 ?_
          refine g_iconst (pc := 66) (v := 2) F dX9_count_66 (by decide) ?_
          refine g_irem (pc := 67) F (by decide) dX9_count_67 ?_
          refine g_iload_n (pc := 68) F 2 dX9_count_68 rfl ?_
          refine g_iconst (pc := 69) (v := 2) F dX9_count_69 (by decide) ?_
          refine g_icmp_le (pc := 70) F 77 dX9_count_70 (by decide) ?_ ?_
          · refine g_iconst (pc := 77) (v := 0) F dX9_count_77 (by decide) ?_
            refine g_vi (pc := 78) (k := 70) (ci := 9) (fs := (oX9 ad)) (C := RX9) (T := TX9) (N := 33) (As := [.int a1, .int ((a2 - (1 : Int32)) - (a2 - (1 : Int32)) / 2 * 2), .int 0]) (st := []) F (c_X9_callsOf l D ad cs F.2.2.1 fu a1 ((a2 - (1 : Int32)) - (a2 - (1 : Int32)) / 2 * 2) 0 M4) (by decide) (fun _ => rfl) rfl (cwV 3 F.1.2.2.2.2 gX9_count_X9_callsOf rfl rfl rfl hdV_X9_callsOf ⟨by decide, by decide⟩) rfl rfl (Nat.le_of_ble_eq_true rfl) dX9_count_78 ⟨Nat.zero_le _, Nat.zero_le _⟩ (fun r5 M6 => ?_)
            exact g_iret (pc := 81) F hr hlk dX9_count_81
          · refine g_iconst (pc := 73) (v := 1) F dX9_count_73 (by decide) ?_
            refine g_goto (pc := 74) F 78 dX9_count_74 (by decide) ?_
            refine g_vi (pc := 78) (k := 70) (ci := 9) (fs := (oX9 ad)) (C := RX9) (T := TX9) (N := 33) (As := [.int a1, .int ((a2 - (1 : Int32)) - (a2 - (1 : Int32)) / 2 * 2), .int 1]) (st := []) F (c_X9_callsOf l D ad cs F.2.2.1 fu a1 ((a2 - (1 : Int32)) - (a2 - (1 : Int32)) / 2 * 2) 1 M4) (by decide) (fun _ => rfl) rfl (cwV 3 F.1.2.2.2.2 gX9_count_X9_callsOf rfl rfl rfl hdV_X9_callsOf ⟨by decide, by decide⟩) rfl rfl (Nat.le_of_ble_eq_true rfl) dX9_count_78 ⟨Nat.zero_le _, Nat.zero_le _⟩ (fun r7 M8 => ?_)
            exact g_iret (pc := 81) F hr hlk dX9_count_81
        · refine g_aload_n (pc := 52) F 0 dX9_count_52 rfl ?_
          refine g_get (pc := 53) (v := .ref (ad (72))) (k := 70) (ci := 9) (fs := (oX9 ad)) (C := RX9) (T := TX9) (N := 33) F (by decide) (fun _ => rfl) rfl kiX9_count_X9 3 (by decide) klX9_count_17 rfl rfl dX9_count_53 ?_
          refine g_iload_n (pc := 56) F 1 dX9_count_56 rfl ?_
          refine g_iald (pc := 57) (k := 72) (n := 4) F (by decide) (fun _ => rfl) dX9_count_57 ?_
          refine g_goto (pc := 58) F 81 dX9_count_58 (by decide) ?_
          exact g_iret (pc := 81) F hr hlk dX9_count_81
      · refine g_iconst (pc := 46) (v := (-1)) F dX9_count_46 (by decide) ?_
        exact g_iret (pc := 47) F hr hlk dX9_count_47
  · refine g_iload_n (pc := 5) F 2 dX9_count_5 rfl ?_
    refine g_if_ne (pc := 6) F 16 dX9_count_6 (by decide) ?_ ?_
    · refine g_iload_n (pc := 16) F 2 dX9_count_16 rfl ?_
      refine g_iconst (pc := 17) (v := 1) F dX9_count_17 (by decide) ?_
      refine g_icmp_ne (pc := 18) F 28 dX9_count_18 (by decide) ?_ ?_
      · refine g_iconst (pc := 28) (v := (-1)) F dX9_count_28 (by decide) ?_
        exact g_iret (pc := 29) F hr hlk dX9_count_29
      · refine g_aload_n (pc := 21) F 0 dX9_count_21 rfl ?_
        refine g_get (pc := 22) (v := .int (M (70) 1)) (k := 70) (ci := 9) (fs := (oX9 ad)) (C := RX9) (T := TX9) (N := 33) F (by decide) (fun _ => rfl) rfl kiX9_count_X9 1 (by decide) klX9_count_169 rfl rfl dX9_count_22 ?_
        refine g_goto (pc := 25) F 29 dX9_count_25 (by decide) ?_
        exact g_iret (pc := 29) F hr hlk dX9_count_29
    · refine g_aload_n (pc := 9) F 0 dX9_count_9 rfl ?_
      refine g_get (pc := 10) (v := .int (M (70) 12)) (k := 70) (ci := 9) (fs := (oX9 ad)) (C := RX9) (T := TX9) (N := 33) F (by decide) (fun _ => rfl) rfl kiX9_count_X9 12 (by decide) klX9_count_181 rfl rfl dX9_count_10 ?_
      refine g_goto (pc := 13) F 29 dX9_count_13 (by decide) ?_
      exact g_iret (pc := 29) F hr hlk dX9_count_29
