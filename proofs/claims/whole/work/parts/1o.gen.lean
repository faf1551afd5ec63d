/-! Written by wip/whole/gen.py: pure functions of methods, and the walks that tie the bytecode to them. -/
-- X9_effect
def rmX9_effect : Room := { frames := 1, cells := 0, slots := 0, locals := 22 }
def f_X9_effect (a1 : Int32) (a2 : Int32) (a3 : Int32) (a4 : Int32) (a5 : Int32) (M : Mem) : Option (Int32 × Mem) := if (M (70) 12) = 10 then some ((-1), M) else bnd (f_X9_lies a1 0 31 M) (fun r1 M2 => if r1 = 0 then some ((-1), M2) else bnd (f_X9_lies a2 0 31 M2) (fun r3 M4 => if r3 = 0 then some ((-1), M4) else bnd (f_X9_lies a3 a2 31 M4) (fun r5 M6 => if r5 = 0 then some ((-1), M6) else bnd (f_X9_lies a4 0 255 M6) (fun r7 M8 => if r7 = 0 then some ((-1), M8) else bnd (f_X9_lies a5 0 255 M8) (fun r9 M10 => if r9 = 0 then some ((-1), M10) else if ix (M10 (70) 12) 10 then wr M10 (81) (M10 (70) 12).toNatClampNeg a1 (fun M11 => if ix (M11 (70) 12) 10 then wr M11 (82) (M11 (70) 12).toNatClampNeg a2 (fun M12 => if ix (M12 (70) 12) 10 then wr M12 (83) (M12 (70) 12).toNatClampNeg a3 (fun M13 => if ix (M13 (70) 12) 10 then wr M13 (84) (M13 (70) 12).toNatClampNeg a4 (fun M14 => if ix (M14 (70) 12) 10 then wr M14 (85) (M14 (70) 12).toNatClampNeg a5 (fun M15 => wr M15 (70) 12 ((M15 (70) 12) + (1 : Int32)) (fun M16 => some ((M16 (70) 12) - (1 : Int32), M16))) else none) else none) else none) else none) else none)))))
set_option maxRecDepth 20000 in
theorem kiX9_effect_X9 : ∀ w ∈ u_ws RX9 TX9 33, w ∈ wsX9_effect := by decide +kernel
set_option maxRecDepth 20000 in
theorem klX9_effect_181 : Cond.fieldLink RX9 181 "DoorListerModel" "effects" "I" ∈ wsX9_effect := by decide +kernel
set_option maxRecDepth 20000 in
theorem klX9_effect_46 : Cond.fieldLink RX9 46 "DoorListerModel" "door" "[I" ∈ wsX9_effect := by decide +kernel
set_option maxRecDepth 20000 in
theorem klX9_effect_49 : Cond.fieldLink RX9 49 "DoorListerModel" "first" "[I" ∈ wsX9_effect := by decide +kernel
set_option maxRecDepth 20000 in
theorem klX9_effect_52 : Cond.fieldLink RX9 52 "DoorListerModel" "last" "[I" ∈ wsX9_effect := by decide +kernel
set_option maxRecDepth 20000 in
theorem klX9_effect_55 : Cond.fieldLink RX9 55 "DoorListerModel" "takes" "[I" ∈ wsX9_effect := by decide +kernel
set_option maxRecDepth 20000 in
theorem klX9_effect_58 : Cond.fieldLink RX9 58 "DoorListerModel" "gives" "[I" ∈ wsX9_effect := by decide +kernel
set_option maxHeartbeats 4000000 in
set_option maxRecDepth 100000 in
theorem c_X9_effect (l : Launch) (D : va_G) (ad : Nat → Nat) (cs : Cs) (hi : Inj ad) (a1 : Int32) (a2 : Int32) (a3 : Int32) (a4 : Int32) (a5 : Int32) (M : Mem) : MI l yX9_effect wsX9_effect rmX9_effect D ad cs [.ref (ad (70)), .int a1, .int a2, .int a3, .int a4, .int a5] M (f_X9_effect a1 a2 a3 a4 a5 M) := by
  refine Mx.of (cc := cX9_effect) (maxL := 6) (ret := (some .int)) (own := RX9) (lv := [(0, .ref (ad (70))), (1, .int a1), (2, .int a2), (3, .int a3), (4, .int a4), (5, .int a5)]) (by decide) rfl rfl (Nat.le_of_ble_eq_true rfl) rfl hi ?_
  intro p e s m below meth c F hr hlk
  unfold f_X9_effect
  refine g_aload_n (pc := 0) F 0 dX9_effect_0 rfl ?_
  refine g_get (pc := 1) (v := .int (M (70) 12)) (k := 70) (ci := 9) (fs := (oX9 ad)) (C := RX9) (T := TX9) (N := 33) F (by decide) (fun _ => rfl) rfl kiX9_effect_X9 12 (by decide) klX9_effect_181 rfl rfl dX9_effect_1 ?_
  refine g_bipush (pc := 4) (v := 10) F dX9_effect_4 (by decide) ?_
  refine g_icmp_eq (pc := 6) F 63 dX9_effect_6 (by decide) ?_ ?_
  · refine g_iconst (pc := 63) (v := (-1)) F dX9_effect_63 (by decide) ?_
    exact g_iret (pc := 64) F hr hlk dX9_effect_64
  · refine g_iload_n (pc := 9) F 1 dX9_effect_9 rfl ?_
    refine g_iconst (pc := 10) (v := 0) F dX9_effect_10 (by decide) ?_
    refine g_bipush (pc := 11) (v := 31) F dX9_effect_11 (by decide) ?_
    refine g_si (pc := 13) (As := [.int a1, .int 0, .int 31]) (st := []) F (c_X9_lies l D ad cs F.2.2.1 a1 0 31 M) (va_cwS 3 F.1.2.2.2.2 gX9_effect_X9_lies rfl rfl rfl hdS_X9_lies ⟨by decide, by decide⟩) rfl rfl (Nat.le_of_ble_eq_true rfl) dX9_effect_13 ⟨Nat.zero_le _, Nat.zero_le _⟩ (fun r1 M2 => ?_)
    refine g_if_eq (pc := 16) F 63 dX9_effect_16 (by decide) ?_ ?_
    · refine g_iconst (pc := 63) (v := (-1)) F dX9_effect_63 (by decide) ?_
      exact g_iret (pc := 64) F hr hlk dX9_effect_64
    · refine g_iload_n (pc := 19) F 2 dX9_effect_19 rfl ?_
      refine g_iconst (pc := 20) (v := 0) F dX9_effect_20 (by decide) ?_
      refine g_bipush (pc := 21) (v := 31) F dX9_effect_21 (by decide) ?_
      refine g_si (pc := 23) (As := [.int a2, .int 0, .int 31]) (st := []) F (c_X9_lies l D ad cs F.2.2.1 a2 0 31 M2) (va_cwS 3 F.1.2.2.2.2 gX9_effect_X9_lies rfl rfl rfl hdS_X9_lies ⟨by decide, by decide⟩) rfl rfl (Nat.le_of_ble_eq_true rfl) dX9_effect_23 ⟨Nat.zero_le _, Nat.zero_le _⟩ (fun r3 M4 => ?_)
      refine g_if_eq (pc := 26) F 63 dX9_effect_26 (by decide) ?_ ?_
      · refine g_iconst (pc := 63) (v := (-1)) F dX9_effect_63 (by decide) ?_
        exact g_iret (pc := 64) F hr hlk dX9_effect_64
      · refine g_iload_n (pc := 29) F 3 dX9_effect_29 rfl ?_
        refine g_iload_n (pc := 30) F 2 dX9_effect_30 rfl ?_
        refine g_bipush (pc := 31) (v := 31) F dX9_effect_31 (by decide) ?_
        refine g_si (pc := 33) (As := [.int a3, .int a2, .int 31]) (st := []) F (c_X9_lies l D ad cs F.2.2.1 a3 a2 31 M4) (va_cwS 3 F.1.2.2.2.2 gX9_effect_X9_lies rfl rfl rfl hdS_X9_lies ⟨by decide, by decide⟩) rfl rfl (Nat.le_of_ble_eq_true rfl) dX9_effect_33 ⟨Nat.zero_le _, Nat.zero_le _⟩ (fun r5 M6 => ?_)
        refine g_if_eq (pc := 36) F 63 dX9_effect_36 (by decide) ?_ ?_
        · refine g_iconst (pc := 63) (v := (-1)) F dX9_effect_63 (by decide) ?_
          exact g_iret (pc := 64) F hr hlk dX9_effect_64
        · refine g_iload (pc := 39) F 4 dX9_effect_39 rfl ?_
          refine g_iconst (pc := 41) (v := 0) F dX9_effect_41 (by decide) ?_
          refine g_sipush (pc := 42) (v := 255) F dX9_effect_42 (by decide) ?_
          refine g_si (pc := 45) (As := [.int a4, .int 0, .int 255]) (st := []) F (c_X9_lies l D ad cs F.2.2.1 a4 0 255 M6) (va_cwS 3 F.1.2.2.2.2 gX9_effect_X9_lies rfl rfl rfl hdS_X9_lies ⟨by decide, by decide⟩) rfl rfl (Nat.le_of_ble_eq_true rfl) dX9_effect_45 ⟨Nat.zero_le _, Nat.zero_le _⟩ (fun r7 M8 => ?_)
          refine g_if_eq (pc := 48) F 63 dX9_effect_48 (by decide) ?_ ?_
          · refine g_iconst (pc := 63) (v := (-1)) F dX9_effect_63 (by decide) ?_
            exact g_iret (pc := 64) F hr hlk dX9_effect_64
          · refine g_iload (pc := 51) F 5 dX9_effect_51 rfl ?_
            refine g_iconst (pc := 53) (v := 0) F dX9_effect_53 (by decide) ?_
            refine g_sipush (pc := 54) (v := 255) F dX9_effect_54 (by decide) ?_
            refine g_si (pc := 57) (As := [.int a5, .int 0, .int 255]) (st := []) F (c_X9_lies l D ad cs F.2.2.1 a5 0 255 M8) (va_cwS 3 F.1.2.2.2.2 gX9_effect_X9_lies rfl rfl rfl hdS_X9_lies ⟨by decide, by decide⟩) rfl rfl (Nat.le_of_ble_eq_true rfl) dX9_effect_57 ⟨Nat.zero_le _, Nat.zero_le _⟩ (fun r9 M10 => ?_)
            refine g_if_ne (pc := 60) F 65 dX9_effect_60 (by decide) ?_ ?_
            · refine g_aload_n (pc := 65) F 0 dX9_effect_65 rfl ?_
              refine g_get (pc := 66) (v := .ref (ad (81))) (k := 70) (ci := 9) (fs := (oX9 ad)) (C := RX9) (T := TX9) (N := 33) F (by decide) (fun _ => rfl) rfl kiX9_effect_X9 13 (by decide) klX9_effect_46 rfl rfl dX9_effect_66 ?_
              refine g_aload_n (pc := 69) F 0 dX9_effect_69 rfl ?_
              refine g_get (pc := 70) (v := .int (M10 (70) 12)) (k := 70) (ci := 9) (fs := (oX9 ad)) (C := RX9) (T := TX9) (N := 33) F (by decide) (fun _ => rfl) rfl kiX9_effect_X9 12 (by decide) klX9_effect_181 rfl rfl dX9_effect_70 ?_
              refine g_iload_n (pc := 73) F 1 dX9_effect_73 rfl ?_
              refine g_iast (pc := 74) (k := 81) (n := 10) F (by decide) (fun _ => rfl) dX9_effect_74 (fun M11 => ?_)
              refine g_aload_n (pc := 75) F 0 dX9_effect_75 rfl ?_
              refine g_get (pc := 76) (v := .ref (ad (82))) (k := 70) (ci := 9) (fs := (oX9 ad)) (C := RX9) (T := TX9) (N := 33) F (by decide) (fun _ => rfl) rfl kiX9_effect_X9 14 (by decide) klX9_effect_49 rfl rfl dX9_effect_76 ?_
              refine g_aload_n (pc := 79) F 0 dX9_effect_79 rfl ?_
              refine g_get (pc := 80) (v := .int (M11 (70) 12)) (k := 70) (ci := 9) (fs := (oX9 ad)) (C := RX9) (T := TX9) (N := 33) F (by decide) (fun _ => rfl) rfl kiX9_effect_X9 12 (by decide) klX9_effect_181 rfl rfl dX9_effect_80 ?_
              refine g_iload_n (pc := 83) F 2 dX9_effect_83 rfl ?_
              refine g_iast (pc := 84) (k := 82) (n := 10) F (by decide) (fun _ => rfl) dX9_effect_84 (fun M12 => ?_)
              refine g_aload_n (pc := 85) F 0 dX9_effect_85 rfl ?_
              refine g_get (pc := 86) (v := .ref (ad (83))) (k := 70) (ci := 9) (fs := (oX9 ad)) (C := RX9) (T := TX9) (N := 33) F (by decide) (fun _ => rfl) rfl kiX9_effect_X9 15 (by decide) klX9_effect_52 rfl rfl dX9_effect_86 ?_
              refine g_aload_n (pc := 89) F 0 dX9_effect_89 rfl ?_
              refine g_get (pc := 90) (v := .int (M12 (70) 12)) (k := 70) (ci := 9) (fs := (oX9 ad)) (C := RX9) (T := TX9) (N := 33) F (by decide) (fun _ => rfl) rfl kiX9_effect_X9 12 (by decide) klX9_effect_181 rfl rfl dX9_effect_90 ?_
              refine g_iload_n (pc := 93) F 3 dX9_effect_93 rfl ?_
              refine g_iast (pc := 94) (k := 83) (n := 10) F (by decide) (fun _ => rfl) dX9_effect_94 (fun M13 => ?_)
              refine g_aload_n (pc := 95) F 0 dX9_effect_95 rfl ?_
              refine g_get (pc := 96) (v := .ref (ad (84))) (k := 70) (ci := 9) (fs := (oX9 ad)) (C := RX9) (T := TX9) (N := 33) F (by decide) (fun _ => rfl) rfl kiX9_effect_X9 16 (by decide) klX9_effect_55 rfl rfl dX9_effect_96 ?_
              refine g_aload_n (pc := 99) F 0 dX9_effect_99 rfl ?_
              refine g_get (pc := 100) (v := .int (M13 (70) 12)) (k := 70) (ci := 9) (fs := (oX9 ad)) (C := RX9) (T := TX9) (N := 33) F (by decide) (fun _ => rfl) rfl kiX9_effect_X9 12 (by decide) klX9_effect_181 rfl rfl dX9_effect_100 ?_
              refine g_iload (pc := 103) F 4 dX9_effect_103 rfl ?_
              refine g_iast (pc := 105) (k := 84) (n := 10) F (by decide) (fun _ => rfl) dX9_effect_105 (fun M14 => ?_)
              refine g_aload_n (pc := 106) F 0 dX9_effect_106 rfl ?_
              refine g_get (pc := 107) (v := .ref (ad (85))) (k := 70) (ci := 9) (fs := (oX9 ad)) (C := RX9) (T := TX9) (N := 33) F (by decide) (fun _ => rfl) rfl kiX9_effect_X9 17 (by decide) klX9_effect_58 rfl rfl dX9_effect_107 ?_
              refine g_aload_n (pc := 110) F 0 dX9_effect_110 rfl ?_
              refine g_get (pc := 111) (v := .int (M14 (70) 12)) (k := 70) (ci := 9) (fs := (oX9 ad)) (C := RX9) (T := TX9) (N := 33) F (by decide) (fun _ => rfl) rfl kiX9_effect_X9 12 (by decide) klX9_effect_181 rfl rfl dX9_effect_111 ?_
              refine g_iload (pc := 114) F 5 dX9_effect_114 rfl ?_
              refine g_iast (pc := 116) (k := 85) (n := 10) F (by decide) (fun _ => rfl) dX9_effect_116 (fun M15 => ?_)
              refine g_aload_n (pc := 117) F 0 dX9_effect_117 rfl ?_
              refine g_dup (pc := 118) F rfl dX9_effect_118 ?_
              refine g_get (pc := 119) (v := .int (M15 (70) 12)) (k := 70) (ci := 9) (fs := (oX9 ad)) (C := RX9) (T := TX9) (N := 33) F (by decide) (fun _ => rfl) rfl kiX9_effect_X9 12 (by decide) klX9_effect_181 rfl rfl dX9_effect_119 ?_
              refine g_iconst (pc := 122) (v := 1) F dX9_effect_122 (by decide) ?_
              refine g_iadd (pc := 123) F dX9_effect_123 ?_
              refine g_put (pc := 124) (k := 70) (ci := 9) (fs := (oX9 ad)) (C := RX9) (T := TX9) (N := 33) F (by decide) (fun _ => rfl) rfl kiX9_effect_X9 tyX9 tyX9_ok nmX9 12 (by decide) klX9_effect_181 rfl rfl rfl rfl (fun _ => rfl) (Nat.le_of_ble_eq_true rfl) dX9_effect_124 (fun M16 => ?_)
              refine g_aload_n (pc := 127) F 0 dX9_effect_127 rfl ?_
              refine g_get (pc := 128) (v := .int (M16 (70) 12)) (k := 70) (ci := 9) (fs := (oX9 ad)) (C := RX9) (T := TX9) (N := 33) F (by decide) (fun _ => rfl) rfl kiX9_effect_X9 12 (by decide) klX9_effect_181 rfl rfl dX9_effect_128 ?_
              refine g_iconst (pc := 131) (v := 1) F dX9_effect_131 (by decide) ?_
              refine g_isub (pc := 132) F dX9_effect_132 ?_
              exact g_iret (pc := 133) F hr hlk dX9_effect_133
            · refine g_iconst (pc := 63) (v := (-1)) F dX9_effect_63 (by decide) ?_
              exact g_iret (pc := 64) F hr hlk dX9_effect_64
-- X9_spanOf
def rmX9_spanOf : Room := { frames := 0, cells := 0, slots := 0, locals := 0 }
def f_X9_spanOf_L9 (x1 : Int32) (k : Mem → Int32 → Int32 → Option (Int32 × Mem)) : Nat → Mem → Int32 → Int32 → Option (Int32 × Mem)
  | 0, _, _, _ => none
  | n + 1, M, x2, x3 => if ix x1 10 then if (M (83) x1.toNatClampNeg) < x3 then k M x2 x3 else nm (x2 ||| ((1 : Int32) <<< (x3 &&& 31))) (fun v2 => f_X9_spanOf_L9 x1 k n M v2 (x3 + 1)) else none
def f_X9_spanOf (fu : Nat) (a1 : Int32) (M : Mem) : Option (Int32 × Mem) := if ix a1 10 then nm (M (82) a1.toNatClampNeg) (fun v1 => f_X9_spanOf_L9 a1 (fun M3 y4 y5 => some (y4, M3)) fu M 0 v1) else none
set_option maxRecDepth 20000 in
theorem kiX9_spanOf_X9 : ∀ w ∈ u_ws RX9 TX9 33, w ∈ wsX9_spanOf := by decide +kernel
set_option maxRecDepth 20000 in
theorem klX9_spanOf_49 : Cond.fieldLink RX9 49 "DoorListerModel" "first" "[I" ∈ wsX9_spanOf := by decide +kernel
set_option maxRecDepth 20000 in
theorem klX9_spanOf_52 : Cond.fieldLink RX9 52 "DoorListerModel" "last" "[I" ∈ wsX9_spanOf := by decide +kernel
set_option maxHeartbeats 4000000 in
set_option maxRecDepth 100000 in
theorem w_X9_spanOf_L9 {p : Program} {l : Launch} {e : Env} {s : State} {m : MethodId} {args : Array Value} {below : List Frame} {meth : Method} {c : Code} {D : va_G} {ad : Nat → Nat} {cs : Cs}  (x1 : Int32) (F : Fx p m c cX9_spanOf 4 s args wsX9_spanOf RX9 D ad cs (Ad ad)) (hr : meth.sig.returnType = (some .int)) (hlk : meth.locks = false) (k : Mem → Int32 → Int32 → Option (Int32 × Mem)) (hkx : ∀ (M : Mem) (x2 x3 : Int32), GoX p l e rmX9_spanOf s m args below meth c 0 0 4 (fun rM => MQ below (cQi D ad cs rM) args s 0 0 (Ad ad)) D ad cs (Ad ad) M 31 [(0, .ref (ad (70))), (1, .int x1), (2, .int x2), (3, .int x3)] [] (k M x2 x3)) : ∀ (n : Nat) (M : Mem) (x2 x3 : Int32), GoX p l e rmX9_spanOf s m args below meth c 0 0 4 (fun rM => MQ below (cQi D ad cs rM) args s 0 0 (Ad ad)) D ad cs (Ad ad) M 9 [(0, .ref (ad (70))), (1, .int x1), (2, .int x2), (3, .int x3)] [] (f_X9_spanOf_L9 x1 k n M x2 x3) := by
  intro n
  induction n with
  | zero => intro M x2 x3; exact g_none
  | succ n ih =>
    intro M x2 x3
    unfold f_X9_spanOf_L9
    refine g_iload_n (pc := 9) F 3 dX9_spanOf_9 rfl ?_
    refine g_aload_n (pc := 10) F 0 dX9_spanOf_10 rfl ?_
    refine g_get (pc := 11) (v := .ref (ad (83))) (k := 70) (ci := 9) (fs := (oX9 ad)) (C := RX9) (T := TX9) (N := 33) F (by decide) (fun _ => rfl) rfl kiX9_spanOf_X9 15 (by decide) klX9_spanOf_52 rfl rfl dX9_spanOf_11 ?_
    refine g_iload_n (pc := 14) F 1 dX9_spanOf_14 rfl ?_
    refine g_iald (pc := 15) (k := 83) (n := 10) F (by decide) (fun _ => rfl) dX9_spanOf_15 ?_
    refine g_icmp_gt (pc := 16) F 31 dX9_spanOf_16 (by decide) ?_ ?_
    · exact hkx _ _ _
    · refine g_iload_n (pc := 19) F 2 dX9_spanOf_19 rfl ?_
      refine g_iconst (pc := 20) (v := 1) F dX9_spanOf_20 (by decide) ?_
      refine g_iload_n (pc := 21) F 3 dX9_spanOf_21 rfl ?_
      refine g_ishl (pc := 22) F dX9_spanOf_22 ?_
      refine g_ior (pc := 23) F dX9_spanOf_23 ?_
      refine g_nm (fun v2 => ?_)
      refine g_istore_n (pc := 24) F [(0, .ref (ad (70))), (1, .int x1), (2, .int v2), (3, .int x3)] dX9_spanOf_24 (by decide) rfl rfl rfl ?_
      refine g_iinc (pc := 25) (v := x3 + 1) F [(0, .ref (ad (70))), (1, .int x1), (2, .int v2), (3, .int (x3 + 1))] 3 dX9_spanOf_25 rfl rfl (by decide) rfl rfl rfl ?_
      refine g_goto (pc := 28) F 9 dX9_spanOf_28 (by decide) ?_
      exact ih _ _ _
set_option maxHeartbeats 4000000 in
set_option maxRecDepth 100000 in
theorem c_X9_spanOf (l : Launch) (D : va_G) (ad : Nat → Nat) (cs : Cs) (hi : Inj ad) (fu : Nat) (a1 : Int32) (M : Mem) : MI l yX9_spanOf wsX9_spanOf rmX9_spanOf D ad cs [.ref (ad (70)), .int a1] M (f_X9_spanOf fu a1 M) := by
  refine Mx.of (cc := cX9_spanOf) (maxL := 4) (ret := (some .int)) (own := RX9) (lv := [(0, .ref (ad (70))), (1, .int a1)]) (by decide) rfl rfl (Nat.le_of_ble_eq_true rfl) rfl hi ?_
  intro p e s m below meth c F hr hlk
  unfold f_X9_spanOf
  refine g_iconst (pc := 0) (v := 0) F dX9_spanOf_0 (by decide) ?_
  refine g_istore_n (pc := 1) F [(0, .ref (ad (70))), (1, .int a1), (2, .int 0)] dX9_spanOf_1 (by decide) rfl rfl rfl ?_
  refine g_aload_n (pc := 2) F 0 dX9_spanOf_2 rfl ?_
  refine g_get (pc := 3) (v := .ref (ad (82))) (k := 70) (ci := 9) (fs := (oX9 ad)) (C := RX9) (T := TX9) (N := 33) F (by decide) (fun _ => rfl) rfl kiX9_spanOf_X9 14 (by decide) klX9_spanOf_49 rfl rfl dX9_spanOf_3 ?_
  refine g_iload_n (pc := 6) F 1 dX9_spanOf_6 rfl ?_
  refine g_iald (pc := 7) (k := 82) (n := 10) F (by decide) (fun _ => rfl) dX9_spanOf_7 ?_
  refine g_nm (fun v1 => ?_)
  refine g_istore_n (pc := 8) F [(0, .ref (ad (70))), (1, .int a1), (2, .int 0), (3, .int v1)] dX9_spanOf_8 (by decide) rfl rfl rfl ?_
  refine w_X9_spanOf_L9 a1 F hr hlk _ (fun M3 y4 y5 => ?_) _ _ _ _
  refine g_iload_n (pc := 31) F 2 dX9_spanOf_31 rfl ?_
  exact g_iret (pc := 32) F hr hlk dX9_spanOf_32
-- X9_reachNow
def rmX9_reachNow : Room := { frames := 1, cells := 0, slots := 0, locals := 23 }
def f_X9_reachNow_L13 (fu : Nat) (x2 : Int32) (k : Mem → Int32 → Int32 → Option (Int32 × Mem)) : Nat → Mem → Int32 → Int32 → Option (Int32 × Mem)
  | 0, _, _, _ => none
  | n + 1, M, x1, x3 => if (M (70) 12) ≤ x3 then k M x1 x3 else if ix x3 10 then nm (M (81) x3.toNatClampNeg) (fun v1 => if ix v1 32 then bnd (f_X9_spanOf fu x3 M) (fun r2 M3 => if ((M (92) v1.toNatClampNeg) &&& r2) = 0 then f_X9_reachNow_L13 fu x2 k n M3 x1 (x3 + 1) else if ix x3 10 then if ((M3 (84) x3.toNatClampNeg) &&& (x1 ^^^ (-1 : Int32))) = 0 then if ix x3 10 then nm (x1 ||| (M3 (85) x3.toNatClampNeg)) (fun v4 => f_X9_reachNow_L13 fu x2 k n M3 v4 (x3 + 1)) else none else f_X9_reachNow_L13 fu x2 k n M3 x1 (x3 + 1) else none) else none) else none
def f_X9_reachNow_L4 (fu : Nat) (k : Mem → Int32 → Int32 → Option (Int32 × Mem)) : Nat → Mem → Int32 → Int32 → Option (Int32 × Mem)
  | 0, _, _, _ => none
  | n + 1, M, x1, x2 => if x2 = x1 then k M x1 x2 else f_X9_reachNow_L13 fu x1 (fun M5 y6 y7 => f_X9_reachNow_L4 fu k n M5 y6 x1) fu M x1 0
def f_X9_reachNow (fu : Nat) (M : Mem) : Option (Int32 × Mem) := f_X9_reachNow_L4 fu (fun M8 y9 y10 => some (y9, M8)) fu M 0 ((-1))
set_option maxRecDepth 20000 in
theorem kiX9_reachNow_X9 : ∀ w ∈ u_ws RX9 TX9 33, w ∈ wsX9_reachNow := by decide +kernel
set_option maxRecDepth 20000 in
theorem klX9_reachNow_181 : Cond.fieldLink RX9 181 "DoorListerModel" "effects" "I" ∈ wsX9_reachNow := by decide +kernel
set_option maxRecDepth 20000 in
theorem klX9_reachNow_83 : Cond.fieldLink RX9 83 "DoorListerModel" "calls" "[I" ∈ wsX9_reachNow := by decide +kernel
set_option maxRecDepth 20000 in
theorem klX9_reachNow_46 : Cond.fieldLink RX9 46 "DoorListerModel" "door" "[I" ∈ wsX9_reachNow := by decide +kernel
set_option maxRecDepth 20000 in
theorem klX9_reachNow_55 : Cond.fieldLink RX9 55 "DoorListerModel" "takes" "[I" ∈ wsX9_reachNow := by decide +kernel
set_option maxRecDepth 20000 in
theorem klX9_reachNow_58 : Cond.fieldLink RX9 58 "DoorListerModel" "gives" "[I" ∈ wsX9_reachNow := by decide +kernel
set_option maxHeartbeats 4000000 in
set_option maxRecDepth 100000 in
theorem w_X9_reachNow_L13 {p : Program} {l : Launch} {e : Env} {s : State} {m : MethodId} {args : Array Value} {below : List Frame} {meth : Method} {c : Code} {D : va_G} {ad : Nat → Nat} {cs : Cs} (fu : Nat) (x2 : Int32) (F : Fx p m c cX9_reachNow 4 s args wsX9_reachNow RX9 D ad cs (Ad ad)) (hr : meth.sig.returnType = (some .int)) (hlk : meth.locks = false) (k : Mem → Int32 → Int32 → Option (Int32 × Mem)) (hkx : ∀ (M : Mem) (x1 x3 : Int32), GoX p l e rmX9_reachNow s m args below meth c 0 0 4 (fun rM => MQ below (cQi D ad cs rM) args s 0 0 (Ad ad)) D ad cs (Ad ad) M 69 [(0, .ref (ad (70))), (1, .int x1), (2, .int x2), (3, .int x3)] [] (k M x1 x3)) : ∀ (n : Nat) (M : Mem) (x1 x3 : Int32), GoX p l e rmX9_reachNow s m args below meth c 0 0 4 (fun rM => MQ below (cQi D ad cs rM) args s 0 0 (Ad ad)) D ad cs (Ad ad) M 13 [(0, .ref (ad (70))), (1, .int x1), (2, .int x2), (3, .int x3)] [] (f_X9_reachNow_L13 fu x2 k n M x1 x3) := by
  intro n
  induction n with
  | zero => intro M x1 x3; exact g_none
  | succ n ih =>
    intro M x1 x3
    unfold f_X9_reachNow_L13
    refine g_iload_n (pc := 13) F 3 dX9_reachNow_13 rfl ?_
    refine g_aload_n (pc := 14) F 0 dX9_reachNow_14 rfl ?_
    refine g_get (pc := 15) (v := .int (M (70) 12)) (k := 70) (ci := 9) (fs := (oX9 ad)) (C := RX9) (T := TX9) (N := 33) F (by decide) (fun _ => rfl) rfl kiX9_reachNow_X9 12 (by decide) klX9_reachNow_181 rfl rfl dX9_reachNow_15 ?_
    refine g_icmp_ge (pc := 18) F 69 dX9_reachNow_18 (by decide) ?_ ?_
    · exact hkx _ _ _
    · refine g_aload_n (pc := 21) F 0 dX9_reachNow_21 rfl ?_
      refine g_get (pc := 22) (v := .ref (ad (92))) (k := 70) (ci := 9) (fs := (oX9 ad)) (C := RX9) (T := TX9) (N := 33) F (by decide) (fun _ => rfl) rfl kiX9_reachNow_X9 31 (by decide) klX9_reachNow_83 rfl rfl dX9_reachNow_22 ?_
      refine g_aload_n (pc := 25) F 0 dX9_reachNow_25 rfl ?_
      refine g_get (pc := 26) (v := .ref (ad (81))) (k := 70) (ci := 9) (fs := (oX9 ad)) (C := RX9) (T := TX9) (N := 33) F (by decide) (fun _ => rfl) rfl kiX9_reachNow_X9 13 (by decide) klX9_reachNow_46 rfl rfl dX9_reachNow_26 ?_
      refine g_iload_n (pc := 29) F 3 dX9_reachNow_29 rfl ?_
      refine g_iald (pc := 30) (k := 81) (n := 10) F (by decide) (fun _ => rfl) dX9_reachNow_30 ?_
      refine g_nm (fun v1 => ?_)
      refine g_iald (pc := 31) (k := 92) (n := 32) F (by decide) (fun _ => rfl) dX9_reachNow_31 ?_
      refine g_aload_n (pc := 32) F 0 dX9_reachNow_32 rfl ?_
      refine g_iload_n (pc := 33) F 3 dX9_reachNow_33 rfl ?_
      refine g_vi (pc := 34) (k := 70) (ci := 9) (fs := (oX9 ad)) (C := RX9) (T := TX9) (N := 33) (As := [.int x3]) (st := [.int (M (92) v1.toNatClampNeg)]) F (c_X9_spanOf l D ad cs F.2.2.1 fu x3 M) (by decide) (fun _ => rfl) rfl (cwV 1 F.1.2.2.2.2 gX9_reachNow_X9_spanOf rfl rfl rfl hdV_X9_spanOf ⟨by decide, by decide⟩) rfl rfl (Nat.le_of_ble_eq_true rfl) dX9_reachNow_34 ⟨Nat.zero_le _, Nat.zero_le _⟩ (fun r2 M3 => ?_)
      refine g_iand (pc := 37) F dX9_reachNow_37 ?_
      refine g_if_eq (pc := 38) F 63 dX9_reachNow_38 (by decide) ?_ ?_
      · refine g_iinc (pc := 63) (v := x3 + 1) F [(0, .ref (ad (70))), (1, .int x1), (2, .int x2), (3, .int (x3 + 1))] 3 dX9_reachNow_63 rfl rfl (by decide) rfl rfl rfl ?_
        refine g_goto (pc := 66) F 13 dX9_reachNow_66 (by decide) ?_
        exact ih _ _ _
      · refine g_aload_n (pc := 41) F 0 dX9_reachNow_41 rfl ?_
        refine g_get (pc := 42) (v := .ref (ad (84))) (k := 70) (ci := 9) (fs := (oX9 ad)) (C := RX9) (T := TX9) (N := 33) F (by decide) (fun _ => rfl) rfl kiX9_reachNow_X9 16 (by decide) klX9_reachNow_55 rfl rfl dX9_reachNow_42 ?_
        refine g_iload_n (pc := 45) F 3 dX9_reachNow_45 rfl ?_
        refine g_iald (pc := 46) (k := 84) (n := 10) F (by decide) (fun _ => rfl) dX9_reachNow_46 ?_
        refine g_iload_n (pc := 47) F 1 dX9_reachNow_47 rfl ?_
        refine g_iconst (pc := 48) (v := (-1)) F dX9_reachNow_48 (by decide) ?_
        refine g_ixor (pc := 49) F dX9_reachNow_49 ?_
        refine g_iand (pc := 50) F dX9_reachNow_50 ?_
        refine g_if_ne (pc := 51) F 63 dX9_reachNow_51 (by decide) ?_ ?_
        · refine g_iinc (pc := 63) (v := x3 + 1) F [(0, .ref (ad (70))), (1, .int x1), (2, .int x2), (3, .int (x3 + 1))] 3 dX9_reachNow_63 rfl rfl (by decide) rfl rfl rfl ?_
          refine g_goto (pc := 66) F 13 dX9_reachNow_66 (by decide) ?_
          exact ih _ _ _
        · refine g_iload_n (pc := 54) F 1 dX9_reachNow_54 rfl ?_
          refine g_aload_n (pc := 55) F 0 dX9_reachNow_55 rfl ?_
          refine g_get (pc := 56) (v := .ref (ad (85))) (k := 70) (ci := 9) (fs := (oX9 ad)) (C := RX9) (T := TX9) (N := 33) F (by decide) (fun _ => rfl) rfl kiX9_reachNow_X9 17 (by decide) klX9_reachNow_58 rfl rfl dX9_reachNow_56 ?_
          refine g_iload_n (pc := 59) F 3 dX9_reachNow_59 rfl ?_
          refine g_iald (pc := 60) (k := 85) (n := 10) F (by decide) (fun _ => rfl) dX9_reachNow_60 ?_
          refine g_ior (pc := 61) F dX9_reachNow_61 ?_
          refine g_nm (fun v4 => ?_)
          refine g_istore_n (pc := 62) F [(0, .ref (ad (70))), (1, .int v4), (2, .int x2), (3, .int x3)] dX9_reachNow_62 (by decide) rfl rfl rfl ?_
          refine g_iinc (pc := 63) (v := x3 + 1) F [(0, .ref (ad (70))), (1, .int v4), (2, .int x2), (3, .int (x3 + 1))] 3 dX9_reachNow_63 rfl rfl (by decide) rfl rfl rfl ?_
          refine g_goto (pc := 66) F 13 dX9_reachNow_66 (by decide) ?_
          exact ih _ _ _
set_option maxHeartbeats 4000000 in
set_option maxRecDepth 100000 in
theorem w_X9_reachNow_L4 {p : Program} {l : Launch} {e : Env} {s : State} {m : MethodId} {args : Array Value} {below : List Frame} {meth : Method} {c : Code} {D : va_G} {ad : Nat → Nat} {cs : Cs} (fu : Nat)  (F : Fx p m c cX9_reachNow 4 s args wsX9_reachNow RX9 D ad cs (Ad ad)) (hr : meth.sig.returnType = (some .int)) (hlk : meth.locks = false) (k : Mem → Int32 → Int32 → Option (Int32 × Mem)) (hkx : ∀ (M : Mem) (x1 x2 : Int32), GoX p l e rmX9_reachNow s m args below meth c 0 0 4 (fun rM => MQ below (cQi D ad cs rM) args s 0 0 (Ad ad)) D ad cs (Ad ad) M 72 [(0, .ref (ad (70))), (1, .int x1), (2, .int x2)] [] (k M x1 x2)) : ∀ (n : Nat) (M : Mem) (x1 x2 : Int32), GoX p l e rmX9_reachNow s m args below meth c 0 0 4 (fun rM => MQ below (cQi D ad cs rM) args s 0 0 (Ad ad)) D ad cs (Ad ad) M 4 [(0, .ref (ad (70))), (1, .int x1), (2, .int x2)] [] (f_X9_reachNow_L4 fu k n M x1 x2) := by
  intro n
  induction n with
  | zero => intro M x1 x2; exact g_none
  | succ n ih =>
    intro M x1 x2
    unfold f_X9_reachNow_L4
    refine g_iload_n (pc := 4) F 2 dX9_reachNow_4 rfl ?_
    refine g_iload_n (pc := 5) F 1 dX9_reachNow_5 rfl ?_
    refine g_icmp_eq (pc := 6) F 72 dX9_reachNow_6 (by decide) ?_ ?_
    · exact hkx _ _ _
    · refine g_iload_n (pc := 9) F 1 dX9_reachNow_9 rfl ?_
      refine g_istore_n (pc := 10) F [(0, .ref (ad (70))), (1, .int x1), (2, .int x1)] dX9_reachNow_10 (by decide) rfl rfl rfl ?_
      refine g_iconst (pc := 11) (v := 0) F dX9_reachNow_11 (by decide) ?_
      refine g_istore_n (pc := 12) F [(0, .ref (ad (70))), (1, .int x1), (2, .int x1), (3, .int 0)] dX9_reachNow_12 (by decide) rfl rfl rfl ?_
      refine w_X9_reachNow_L13 fu x1 F hr hlk _ (fun M5 y6 y7 => ?_) _ _ _ _
      refine g_goto (pc := 69) F 4 dX9_reachNow_69 (by decide) ?_
      refine g_sub [0, 1, 2] [(0, .ref (ad (70))), (1, .int y6), (2, .int x1)] rfl ?_
      exact ih _ _ _
set_option maxHeartbeats 4000000 in
set_option maxRecDepth 100000 in
theorem c_X9_reachNow (l : Launch) (D : va_G) (ad : Nat → Nat) (cs : Cs) (hi : Inj ad) (fu : Nat) (M : Mem) : MI l yX9_reachNow wsX9_reachNow rmX9_reachNow D ad cs [.ref (ad (70))] M (f_X9_reachNow fu M) := by
  refine Mx.of (cc := cX9_reachNow) (maxL := 4) (ret := (some .int)) (own := RX9) (lv := [(0, .ref (ad (70)))]) (by decide) rfl rfl (Nat.le_of_ble_eq_true rfl) rfl hi ?_
  intro p e s m below meth c F hr hlk
  unfold f_X9_reachNow
  refine g_iconst (pc := 0) (v := 0) F dX9_reachNow_0 (by decide) ?_
  refine g_istore_n (pc := 1) F [(0, .ref (ad (70))), (1, .int 0)] dX9_reachNow_1 (by decide) rfl rfl rfl ?_
  refine g_iconst (pc := 2) (v := (-1)) F dX9_reachNow_2 (by decide) ?_
  refine g_istore_n (pc := 3) F [(0, .ref (ad (70))), (1, .int 0), (2, .int ((-1)))] dX9_reachNow_3 (by decide) rfl rfl rfl ?_
  refine w_X9_reachNow_L4 fu F hr hlk _ (fun M8 y9 y10 => ?_) _ _ _ _
  refine g_iload_n (pc := 72) F 1 dX9_reachNow_72 rfl ?_
  exact g_iret (pc := 73) F hr hlk dX9_reachNow_73
-- X9_lists
def rmX9_lists : Room := { frames := 7, cells := 0, slots := 0, locals := 171 }
def f_X9_lists_L2 (fu : Nat) (x1 : Int32) (x2 : Int32) (k : Mem → Int32 → Option (Int32 × Mem)) : Nat → Mem → Int32 → Option (Int32 × Mem)
  | 0, _, _ => none
  | n + 1, M, x3 => if 32 ≤ x3 then k M x3 else if x2 = 0 then bnd (f_X9_meltedOf fu x1 1 x3 M) (fun r1 M2 => if ix x3 32 then wr M2 (92) x3.toNatClampNeg r1 (fun M3 => f_X9_lists_L2 fu x1 x2 k n M3 (x3 + 1)) else none) else bnd (f_X9_seenOf fu x1 x3 M) (fun r4 M5 => if ix x3 32 then wr M5 (92) x3.toNatClampNeg r4 (fun M6 => f_X9_lists_L2 fu x1 x2 k n M6 (x3 + 1)) else none)
def f_X9_lists (fu : Nat) (a1 : Int32) (a2 : Int32) (M : Mem) : Option (Int32 × Mem) := f_X9_lists_L2 fu a1 a2 (fun M7 y8 => some (0, M7)) fu M 0
set_option maxRecDepth 20000 in
theorem kiX9_lists_X9 : ∀ w ∈ u_ws RX9 TX9 33, w ∈ wsX9_lists := by decide +kernel
set_option maxRecDepth 20000 in
theorem klX9_lists_83 : Cond.fieldLink RX9 83 "DoorListerModel" "calls" "[I" ∈ wsX9_lists := by decide +kernel
set_option maxHeartbeats 4000000 in
set_option maxRecDepth 100000 in
theorem w_X9_lists_L2 {p : Program} {l : Launch} {e : Env} {s : State} {m : MethodId} {args : Array Value} {below : List Frame} {meth : Method} {c : Code} {D : va_G} {ad : Nat → Nat} {cs : Cs} (fu : Nat) (x1 : Int32) (x2 : Int32) (F : Fx p m c cX9_lists 4 s args wsX9_lists RX9 D ad cs (Ad ad)) (hr : meth.sig.returnType = none) (hlk : meth.locks = false) (k : Mem → Int32 → Option (Int32 × Mem)) (hkx : ∀ (M : Mem) (x3 : Int32), GoX p l e rmX9_lists s m args below meth c 0 0 4 (fun rM => MQ below (cQv D ad cs rM) args s 0 0 (Ad ad)) D ad cs (Ad ad) M 40 [(0, .ref (ad (70))), (1, .int x1), (2, .int x2), (3, .int x3)] [] (k M x3)) : ∀ (n : Nat) (M : Mem) (x3 : Int32), GoX p l e rmX9_lists s m args below meth c 0 0 4 (fun rM => MQ below (cQv D ad cs rM) args s 0 0 (Ad ad)) D ad cs (Ad ad) M 2 [(0, .ref (ad (70))), (1, .int x1), (2, .int x2), (3, .int x3)] [] (f_X9_lists_L2 fu x1 x2 k n M x3) := by
  intro n
  induction n with
  | zero => intro M x3; exact g_none
  | succ n ih =>
    intro M x3
    unfold f_X9_lists_L2
    refine g_iload_n (pc := 2) F 3 dX9_lists_2 rfl ?_
    refine g_bipush (pc := 3) (v := 32) F dX9_lists_3 (by decide) ?_
    refine g_icmp_ge (pc := 5) F 40 dX9_lists_5 (by decide) ?_ ?_
    · exact hkx _ _
    · refine g_aload_n (pc := 8) F 0 dX9_lists_8 rfl ?_
      refine g_get (pc := 9) (v := .ref (ad (92))) (k := 70) (ci := 9) (fs := (oX9 ad)) (C := RX9) (T := TX9) (N := 33) F (by decide) (fun _ => rfl) rfl kiX9_lists_X9 31 (by decide) klX9_lists_83 rfl rfl dX9_lists_9 ?_
      refine g_iload_n (pc := 12) F 3 dX9_lists_12 rfl ?_
      refine g_iload_n (pc := 13) F 2 dX9_lists_13 rfl ?_
      refine g_if_eq (pc := 14) F 26 dX9_lists_14 (by decide) ?_ ?_
      · refine g_aload_n (pc := 26) F 0 dX9_lists_26 rfl ?_
        refine g_iload_n (pc := 27) F 1 dX9_lists_27 rfl ?_
        refine g_iconst (pc := 28) (v := 1) F dX9_lists_28 (by decide) ?_
        refine g_iload_n (pc := 29) F 3 dX9_lists_29 rfl ?_
        refine g_vi (pc := 30) (k := 70) (ci := 9) (fs := (oX9 ad)) (C := RX9) (T := TX9) (N := 33) (As := [.int x1, .int 1, .int x3]) (st := [.int x3, .ref (ad (92))]) F (c_X9_meltedOf l D ad cs F.2.2.1 fu x1 1 x3 M) (by decide) (fun _ => rfl) rfl (cwV 3 F.1.2.2.2.2 gX9_lists_X9_meltedOf rfl rfl rfl hdV_X9_meltedOf ⟨by decide, by decide⟩) rfl rfl (Nat.le_of_ble_eq_true rfl) dX9_lists_30 ⟨Nat.zero_le _, Nat.zero_le _⟩ (fun r1 M2 => ?_)
        refine g_iast (pc := 33) (k := 92) (n := 32) F (by decide) (fun _ => rfl) dX9_lists_33 (fun M3 => ?_)
        refine g_iinc (pc := 34) (v := x3 + 1) F [(0, .ref (ad (70))), (1, .int x1), (2, .int x2), (3, .int (x3 + 1))] 3 dX9_lists_34 rfl rfl (by decide) rfl rfl rfl ?_
        refine g_goto (pc := 37) F 2 dX9_lists_37 (by decide) ?_
        exact ih _ _
      · refine g_aload_n (pc := 17) F 0 dX9_lists_17 rfl ?_
        refine g_iload_n (pc := 18) F 1 dX9_lists_18 rfl ?_
        refine g_iload_n (pc := 19) F 3 dX9_lists_19 rfl ?_
        refine g_vi (pc := 20) (k := 70) (ci := 9) (fs := (oX9 ad)) (C := RX9) (T := TX9) (N := 33) (As := [.int x1, .int x3]) (st := [.int x3, .ref (ad (92))]) F (c_X9_seenOf l D ad cs F.2.2.1 fu x1 x3 M) (by decide) (fun _ => rfl) rfl (cwV 2 F.1.2.2.2.2 gX9_lists_X9_seenOf rfl rfl rfl hdV_X9_seenOf ⟨by decide, by decide⟩) rfl rfl (Nat.le_of_ble_eq_true rfl) dX9_lists_20 ⟨Nat.zero_le _, Nat.zero_le _⟩ (fun r4 M5 => ?_)
        refine g_goto (pc := 23) F 33 dX9_lists_23 (by decide) ?_
        refine g_iast (pc := 33) (k := 92) (n := 32) F (by decide) (fun _ => rfl) dX9_lists_33 (fun M6 => ?_)
        refine g_iinc (pc := 34) (v := x3 + 1) F [(0, .ref (ad (70))), (1, .int x1), (2, .int x2), (3, .int (x3 + 1))] 3 dX9_lists_34 rfl rfl (by decide) rfl rfl rfl ?_
        refine g_goto (pc := 37) F 2 dX9_lists_37 (by decide) ?_
        exact ih _ _
set_option maxHeartbeats 4000000 in
set_option maxRecDepth 100000 in
theorem c_X9_lists (l : Launch) (D : va_G) (ad : Nat → Nat) (cs : Cs) (hi : Inj ad) (fu : Nat) (a1 : Int32) (a2 : Int32) (M : Mem) : MV l yX9_lists wsX9_lists rmX9_lists D ad cs [.ref (ad (70)), .int a1, .int a2] M (f_X9_lists fu a1 a2 M) := by
  refine Mx.of (cc := cX9_lists) (maxL := 4) (ret := none) (own := RX9) (lv := [(0, .ref (ad (70))), (1, .int a1), (2, .int a2)]) (by decide) rfl rfl (Nat.le_of_ble_eq_true rfl) rfl hi ?_
  intro p e s m below meth c F hr hlk
  unfold f_X9_lists
  refine g_iconst (pc := 0) (v := 0) F dX9_lists_0 (by decide) ?_
  refine g_istore_n (pc := 1) F [(0, .ref (ad (70))), (1, .int a1), (2, .int a2), (3, .int 0)] dX9_lists_1 (by decide) rfl rfl rfl ?_
  refine w_X9_lists_L2 fu a1 a2 F hr hlk _ (fun M7 y8 => ?_) _ _ _
  exact g_vret (pc := 40) F hr hlk dX9_lists_40
-- X9_reach
def rmX9_reach : Room := { frames := 8, cells := 0, slots := 0, locals := 194 }
def f_X9_reach (fu : Nat) (a1 : Int32) (a2 : Int32) (M : Mem) : Option (Int32 × Mem) := bnd (f_X9_isSet a1 M) (fun r1 M2 => if r1 = 0 then some ((-1), M2) else bnd (f_X9_lists fu a1 a2 M2) (fun r3 M4 => bnd (f_X9_reachNow fu M4) (fun r5 M6 => some (r5, M6))))
set_option maxHeartbeats 4000000 in
set_option maxRecDepth 100000 in
theorem c_X9_reach (l : Launch) (D : va_G) (ad : Nat → Nat) (cs : Cs) (hi : Inj ad) (fu : Nat) (a1 : Int32) (a2 : Int32) (M : Mem) : MI l yX9_reach wsX9_reach rmX9_reach D ad cs [.ref (ad (70)), .int a1, .int a2] M (f_X9_reach fu a1 a2 M) := by
  refine Mx.of (cc := cX9_reach) (maxL := 3) (ret := (some .int)) (own := RX9) (lv := [(0, .ref (ad (70))), (1, .int a1), (2, .int a2)]) (by decide) rfl rfl (Nat.le_of_ble_eq_true rfl) rfl hi ?_
  intro p e s m below meth c F hr hlk
  unfold f_X9_reach
  refine g_iload_n (pc := 0) F 1 dX9_reach_0 rfl ?_
  refine g_si (pc := 1) (As := [.int a1]) (st := []) F (c_X9_isSet l D ad cs F.2.2.1 a1 M) (va_cwS 1 F.1.2.2.2.2 gX9_reach_X9_isSet rfl rfl rfl hdS_X9_isSet ⟨by decide, by decide⟩) rfl rfl (Nat.le_of_ble_eq_true rfl) dX9_reach_1 ⟨Nat.zero_le _, Nat.zero_le _⟩ (fun r1 M2 => ?_)
  refine g_if_ne (pc := 4) F 9 dX9_reach_4 (by decide) ?_ ?_
  · refine g_aload_n (pc := 9) F 0 dX9_reach_9 rfl ?_
    refine g_iload_n (pc := 10) F 1 dX9_reach_10 rfl ?_
    refine g_iload_n (pc := 11) F 2 dX9_reach_11 rfl ?_
    refine g_vv (pc := 12) (k := 70) (ci := 9) (fs := (oX9 ad)) (C := RX9) (T := TX9) (N := 33) (As := [.int a1, .int a2]) (st := []) F (c_X9_lists l D ad cs F.2.2.1 fu a1 a2 M2) (by decide) (fun _ => rfl) rfl (cwV 2 F.1.2.2.2.2 gX9_reach_X9_lists rfl rfl rfl hdV_X9_lists ⟨by decide, by decide⟩) rfl rfl (Nat.le_of_ble_eq_true rfl) dX9_reach_12 ⟨Nat.zero_le _, Nat.zero_le _⟩ (fun r3 M4 => ?_)
    refine g_aload_n (pc := 15) F 0 dX9_reach_15 rfl ?_
    refine g_vi (pc := 16) (k := 70) (ci := 9) (fs := (oX9 ad)) (C := RX9) (T := TX9) (N := 33) (As := []) (st := []) F (c_X9_reachNow l D ad cs F.2.2.1 fu M4) (by decide) (fun _ => rfl) rfl (cwV 0 F.1.2.2.2.2 gX9_reach_X9_reachNow rfl rfl rfl hdV_X9_reachNow ⟨by decide, by decide⟩) rfl rfl (Nat.le_of_ble_eq_true rfl) dX9_reach_16 ⟨Nat.zero_le _, Nat.zero_le _⟩ (fun r5 M6 => ?_)
    exact g_iret (pc := 19) F hr hlk dX9_reach_19
  · refine g_iconst (pc := 7) (v := (-1)) F dX9_reach_7 (by decide) ?_
    exact g_iret (pc := 8) F hr hlk dX9_reach_8
-- X9_takesOut
def rmX9_takesOut : Room := { frames := 8, cells := 0, slots := 0, locals := 194 }
def f_X9_takesOut_L76 (x1 : Int32) (x2 : Int32) (x4 : Int32) (x5 : Int32) (k : Mem → Int32 → Int32 → Option (Int32 × Mem)) : Nat → Mem → Int32 → Int32 → Option (Int32 × Mem)
  | 0, _, _, _ => none
  | n + 1, M, x3, x6 => if 32 ≤ x6 then k M x3 x6 else bnd (f_X9_has x5 x6 M) (fun r11 M12 => if r11 = 0 then nm (x3 + (0 : Int32)) (fun v13 => f_X9_takesOut_L76 x1 x2 x4 x5 k n M12 v13 (x6 + 1)) else nm (x3 + (1 : Int32)) (fun v14 => f_X9_takesOut_L76 x1 x2 x4 x5 k n M12 v14 (x6 + 1)))
def f_X9_takesOut_L11 (fu : Nat) (x1 : Int32) (x2 : Int32) (k : Mem → Int32 → Int32 → Option (Int32 × Mem)) : Nat → Mem → Int32 → Int32 → Option (Int32 × Mem)
  | 0, _, _, _ => none
  | n + 1, M, x3, x4 => if (M (70) 12) ≤ x4 then k M x3 x4 else bnd (f_X9_has x2 x4 M) (fun r3 M4 => if r3 = 0 then f_X9_takesOut_L11 fu x1 x2 k n M4 x3 (x4 + 1) else if ix x4 10 then nm (M4 (81) x4.toNatClampNeg) (fun v5 => if ix v5 32 then bnd (f_X9_spanOf fu x4 M4) (fun r6 M7 => nm ((M4 (92) v5.toNatClampNeg) &&& r6) (fun v8 => if ix x4 10 then bnd (f_X9_seenOf fu x1 (M7 (81) x4.toNatClampNeg) M7) (fun r9 M10 => if (v8 &&& r9) = 0 then f_X9_takesOut_L76 x1 x2 x4 v8 (fun M15 y16 y17 => if ix x4 10 then nm (M15 (81) x4.toNatClampNeg) (fun v18 => if ix v18 32 then if ix v18 32 then wr M15 (92) v18.toNatClampNeg ((M15 (92) v18.toNatClampNeg) &&& (v8 ^^^ (-1 : Int32))) (fun M19 => f_X9_takesOut_L11 fu x1 x2 k n M19 y16 (x4 + 1)) else none else none) else none) fu M10 x3 0 else some ((-1), M10)) else none)) else none) else none)
def f_X9_takesOut (fu : Nat) (a1 : Int32) (a2 : Int32) (M : Mem) : Option (Int32 × Mem) := bnd (f_X9_lists fu a1 0 M) (fun r1 M2 => f_X9_takesOut_L11 fu a1 a2 (fun M20 y21 y22 => some (y21, M20)) fu M2 0 0)
set_option maxRecDepth 20000 in
theorem kiX9_takesOut_X9 : ∀ w ∈ u_ws RX9 TX9 33, w ∈ wsX9_takesOut := by decide +kernel
set_option maxRecDepth 20000 in
theorem klX9_takesOut_181 : Cond.fieldLink RX9 181 "DoorListerModel" "effects" "I" ∈ wsX9_takesOut := by decide +kernel
set_option maxRecDepth 20000 in
theorem klX9_takesOut_83 : Cond.fieldLink RX9 83 "DoorListerModel" "calls" "[I" ∈ wsX9_takesOut := by decide +kernel
set_option maxRecDepth 20000 in
theorem klX9_takesOut_46 : Cond.fieldLink RX9 46 "DoorListerModel" "door" "[I" ∈ wsX9_takesOut := by decide +kernel
set_option maxHeartbeats 4000000 in
set_option maxRecDepth 100000 in
theorem w_X9_takesOut_L76 {p : Program} {l : Launch} {e : Env} {s : State} {m : MethodId} {args : Array Value} {below : List Frame} {meth : Method} {c : Code} {D : va_G} {ad : Nat → Nat} {cs : Cs}  (x1 : Int32) (x2 : Int32) (x4 : Int32) (x5 : Int32) (F : Fx p m c cX9_takesOut 7 s args wsX9_takesOut RX9 D ad cs (Ad ad)) (hr : meth.sig.returnType = (some .int)) (hlk : meth.locks = false) (k : Mem → Int32 → Int32 → Option (Int32 × Mem)) (hkx : ∀ (M : Mem) (x3 x6 : Int32), GoX p l e rmX9_takesOut s m args below meth c 0 0 7 (fun rM => MQ below (cQi D ad cs rM) args s 0 0 (Ad ad)) D ad cs (Ad ad) M 107 [(0, .ref (ad (70))), (1, .int x1), (2, .int x2), (3, .int x3), (4, .int x4), (5, .int x5), (6, .int x6)] [] (k M x3 x6)) : ∀ (n : Nat) (M : Mem) (x3 x6 : Int32), GoX p l e rmX9_takesOut s m args below meth c 0 0 7 (fun rM => MQ below (cQi D ad cs rM) args s 0 0 (Ad ad)) D ad cs (Ad ad) M 76 [(0, .ref (ad (70))), (1, .int x1), (2, .int x2), (3, .int x3), (4, .int x4), (5, .int x5), (6, .int x6)] [] (f_X9_takesOut_L76 x1 x2 x4 x5 k n M x3 x6) := by
  intro n
  induction n with
  | zero => intro M x3 x6; exact g_none
  | succ n ih =>
    intro M x3 x6
    unfold f_X9_takesOut_L76
    refine g_iload (pc := 76) F 6 dX9_takesOut_76 rfl ?_
    refine g_bipush (pc := 78) (v := 32) F dX9_takesOut_78 (by decide) ?_
    refine g_icmp_ge (pc := 80) F 107 dX9_takesOut_80 (by decide) ?_ ?_
    · exact hkx _ _ _
    · refine g_iload_n (pc := 83) F 3 dX9_takesOut_83 rfl ?_
      refine g_iload (pc := 84) F 5 dX9_takesOut_84 rfl ?_
      refine g_iload (pc := 86) F 6 dX9_takesOut_86 rfl ?_
      refine g_si (pc := 88) (As := [.int x5, .int x6]) (st := [.int x3]) F (c_X9_has l D ad cs F.2.2.1 x5 x6 M) (va_cwS 2 F.1.2.2.2.2 gX9_takesOut_X9_has rfl rfl rfl hdS_X9_has ⟨by decide, by decide⟩) rfl rfl (Nat.le_of_ble_eq_true rfl) dX9_takesOut_88 ⟨Nat.zero_le _, Nat.zero_le _⟩ (fun r11 M12 => ?_)
      refine g_if_eq (pc := 91) F 98 dX9_takesOut_91 (by decide) ?_ ?_
      · refine g_iconst (pc := 98) (v := 0) F dX9_takesOut_98 (by decide) ?_
        refine g_iadd (pc := 99) F dX9_takesOut_99 ?_
        refine g_nm (fun v13 => ?_)
        refine g_istore_n (pc := 100) F [(0, .ref (ad (70))), (1, .int x1), (2, .int x2), (3, .int v13), (4, .int x4), (5, .int x5), (6, .int x6)] dX9_takesOut_100 (by decide) rfl rfl rfl ?_
        refine g_iinc (pc := 101) (v := x6 + 1) F [(0, .ref (ad (70))), (1, .int x1), (2, .int x2), (3, .int v13), (4, .int x4), (5, .int x5), (6, .int (x6 + 1))] 6 dX9_takesOut_101 rfl rfl (by decide) rfl rfl rfl ?_
        refine g_goto (pc := 104) F 76 dX9_takesOut_104 (by decide) ?_
        exact ih _ _ _
      · refine g_iconst (pc := 94) (v := 1) F dX9_takesOut_94 (by decide) ?_
        refine g_goto (pc := 95) F 99 dX9_takesOut_95 (by decide) ?_
        refine g_iadd (pc := 99) F dX9_takesOut_99 ?_
        refine g_nm (fun v14 => ?_)
        refine g_istore_n (pc := 100) F [(0, .ref (ad (70))), (1, .int x1), (2, .int x2), (3, .int v14), (4, .int x4), (5, .int x5), (6, .int x6)] dX9_takesOut_100 (by decide) rfl rfl rfl ?_
        refine g_iinc (pc := 101) (v := x6 + 1) F [(0, .ref (ad (70))), (1, .int x1), (2, .int x2), (3, .int v14), (4, .int x4), (5, .int x5), (6, .int (x6 + 1))] 6 dX9_takesOut_101 rfl rfl (by decide) rfl rfl rfl ?_
        refine g_goto (pc := 104) F 76 dX9_takesOut_104 (by decide) ?_
        exact ih _ _ _
set_option maxHeartbeats 4000000 in
set_option maxRecDepth 100000 in
theorem w_X9_takesOut_L11 {p : Program} {l : Launch} {e : Env} {s : State} {m : MethodId} {args : Array Value} {below : List Frame} {meth : Method} {c : Code} {D : va_G} {ad : Nat → Nat} {cs : Cs} (fu : Nat) (x1 : Int32) (x2 : Int32) (F : Fx p m c cX9_takesOut 7 s args wsX9_takesOut RX9 D ad cs (Ad ad)) (hr : meth.sig.returnType = (some .int)) (hlk : meth.locks = false) (k : Mem → Int32 → Int32 → Option (Int32 × Mem)) (hkx : ∀ (M : Mem) (x3 x4 : Int32), GoX p l e rmX9_takesOut s m args below meth c 0 0 7 (fun rM => MQ below (cQi D ad cs rM) args s 0 0 (Ad ad)) D ad cs (Ad ad) M 132 [(0, .ref (ad (70))), (1, .int x1), (2, .int x2), (3, .int x3), (4, .int x4)] [] (k M x3 x4)) : ∀ (n : Nat) (M : Mem) (x3 x4 : Int32), GoX p l e rmX9_takesOut s m args below meth c 0 0 7 (fun rM => MQ below (cQi D ad cs rM) args s 0 0 (Ad ad)) D ad cs (Ad ad) M 11 [(0, .ref (ad (70))), (1, .int x1), (2, .int x2), (3, .int x3), (4, .int x4)] [] (f_X9_takesOut_L11 fu x1 x2 k n M x3 x4) := by
  intro n
  induction n with
  | zero => intro M x3 x4; exact g_none
  | succ n ih =>
    intro M x3 x4
    unfold f_X9_takesOut_L11
    refine g_iload (pc := 11) F 4 dX9_takesOut_11 rfl ?_
    refine g_aload_n (pc := 13) F 0 dX9_takesOut_13 rfl ?_
    refine g_get (pc := 14) (v := .int (M (70) 12)) (k := 70) (ci := 9) (fs := (oX9 ad)) (C := RX9) (T := TX9) (N := 33) F (by decide) (fun _ => rfl) rfl kiX9_takesOut_X9 12 (by decide) klX9_takesOut_181 rfl rfl dX9_takesOut_14 ?_
    refine g_icmp_ge (pc := 17) F 132 dX9_takesOut_17 (by decide) ?_ ?_
    · exact hkx _ _ _
    · refine g_iload_n (pc := 20) F 2 dX9_takesOut_20 rfl ?_
      refine g_iload (pc := 21) F 4 dX9_takesOut_21 rfl ?_
      refine g_si (pc := 23) (As := [.int x2, .int x4]) (st := []) F (c_X9_has l D ad cs F.2.2.1 x2 x4 M) (va_cwS 2 F.1.2.2.2.2 gX9_takesOut_X9_has rfl rfl rfl hdS_X9_has ⟨by decide, by decide⟩) rfl rfl (Nat.le_of_ble_eq_true rfl) dX9_takesOut_23 ⟨Nat.zero_le _, Nat.zero_le _⟩ (fun r3 M4 => ?_)
      refine g_if_ne (pc := 26) F 32 dX9_takesOut_26 (by decide) ?_ ?_
      · refine g_aload_n (pc := 32) F 0 dX9_takesOut_32 rfl ?_
        refine g_get (pc := 33) (v := .ref (ad (92))) (k := 70) (ci := 9) (fs := (oX9 ad)) (C := RX9) (T := TX9) (N := 33) F (by decide) (fun _ => rfl) rfl kiX9_takesOut_X9 31 (by decide) klX9_takesOut_83 rfl rfl dX9_takesOut_33 ?_
        refine g_aload_n (pc := 36) F 0 dX9_takesOut_36 rfl ?_
        refine g_get (pc := 37) (v := .ref (ad (81))) (k := 70) (ci := 9) (fs := (oX9 ad)) (C := RX9) (T := TX9) (N := 33) F (by decide) (fun _ => rfl) rfl kiX9_takesOut_X9 13 (by decide) klX9_takesOut_46 rfl rfl dX9_takesOut_37 ?_
        refine g_iload (pc := 40) F 4 dX9_takesOut_40 rfl ?_
        refine g_iald (pc := 42) (k := 81) (n := 10) F (by decide) (fun _ => rfl) dX9_takesOut_42 ?_
        refine g_nm (fun v5 => ?_)
        refine g_iald (pc := 43) (k := 92) (n := 32) F (by decide) (fun _ => rfl) dX9_takesOut_43 ?_
        refine g_aload_n (pc := 44) F 0 dX9_takesOut_44 rfl ?_
        refine g_iload (pc := 45) F 4 dX9_takesOut_45 rfl ?_
        refine g_vi (pc := 47) (k := 70) (ci := 9) (fs := (oX9 ad)) (C := RX9) (T := TX9) (N := 33) (As := [.int x4]) (st := [.int (M4 (92) v5.toNatClampNeg)]) F (c_X9_spanOf l D ad cs F.2.2.1 fu x4 M4) (by decide) (fun _ => rfl) rfl (cwV 1 F.1.2.2.2.2 gX9_takesOut_X9_spanOf rfl rfl rfl hdV_X9_spanOf ⟨by decide, by decide⟩) rfl rfl (Nat.le_of_ble_eq_true rfl) dX9_takesOut_47 ⟨Nat.zero_le _, Nat.zero_le _⟩ (fun r6 M7 => ?_)
        refine g_iand (pc := 50) F dX9_takesOut_50 ?_
        refine g_nm (fun v8 => ?_)
        refine g_istore (pc := 51) F [(0, .ref (ad (70))), (1, .int x1), (2, .int x2), (3, .int x3), (4, .int x4), (5, .int v8)] dX9_takesOut_51 (by decide) rfl rfl rfl ?_
        refine g_iload (pc := 53) F 5 dX9_takesOut_53 rfl ?_
        refine g_aload_n (pc := 55) F 0 dX9_takesOut_55 rfl ?_
        refine g_iload_n (pc := 56) F 1 dX9_takesOut_56 rfl ?_
        refine g_aload_n (pc := 57) F 0 dX9_takesOut_57 rfl ?_
        refine g_get (pc := 58) (v := .ref (ad (81))) (k := 70) (ci := 9) (fs := (oX9 ad)) (C := RX9) (T := TX9) (N := 33) F (by decide) (fun _ => rfl) rfl kiX9_takesOut_X9 13 (by decide) klX9_takesOut_46 rfl rfl dX9_takesOut_58 ?_
        refine g_iload (pc := 61) F 4 dX9_takesOut_61 rfl ?_
        refine g_iald (pc := 63) (k := 81) (n := 10) F (by decide) (fun _ => rfl) dX9_takesOut_63 ?_
        refine g_vi (pc := 64) (k := 70) (ci := 9) (fs := (oX9 ad)) (C := RX9) (T := TX9) (N := 33) (As := [.int x1, .int (M7 (81) x4.toNatClampNeg)]) (st := [.int v8]) F (c_X9_seenOf l D ad cs F.2.2.1 fu x1 (M7 (81) x4.toNatClampNeg) M7) (by decide) (fun _ => rfl) rfl (cwV 2 F.1.2.2.2.2 gX9_takesOut_X9_seenOf rfl rfl rfl hdV_X9_seenOf ⟨by decide, by decide⟩) rfl rfl (Nat.le_of_ble_eq_true rfl) dX9_takesOut_64 ⟨Nat.zero_le _, Nat.zero_le _⟩ (fun r9 M10 => ?_)
        refine g_iand (pc := 67) F dX9_takesOut_67 ?_
        refine g_if_eq (pc := 68) F 73 dX9_takesOut_68 (by decide) ?_ ?_
        · refine g_iconst (pc := 73) (v := 0) F dX9_takesOut_73 (by decide) ?_
          refine g_istore (pc := 74) F [(0, .ref (ad (70))), (1, .int x1), (2, .int x2), (3, .int x3), (4, .int x4), (5, .int v8), (6, .int 0)] dX9_takesOut_74 (by decide) rfl rfl rfl ?_
          refine w_X9_takesOut_L76 x1 x2 x4 v8 F hr hlk _ (fun M15 y16 y17 => ?_) _ _ _ _
          refine g_aload_n (pc := 107) F 0 dX9_takesOut_107 rfl ?_
          refine g_get (pc := 108) (v := .ref (ad (92))) (k := 70) (ci := 9) (fs := (oX9 ad)) (C := RX9) (T := TX9) (N := 33) F (by decide) (fun _ => rfl) rfl kiX9_takesOut_X9 31 (by decide) klX9_takesOut_83 rfl rfl dX9_takesOut_108 ?_
          refine g_aload_n (pc := 111) F 0 dX9_takesOut_111 rfl ?_
          refine g_get (pc := 112) (v := .ref (ad (81))) (k := 70) (ci := 9) (fs := (oX9 ad)) (C := RX9) (T := TX9) (N := 33) F (by decide) (fun _ => rfl) rfl kiX9_takesOut_X9 13 (by decide) klX9_takesOut_46 rfl rfl dX9_takesOut_112 ?_
          refine g_iload (pc := 115) F 4 dX9_takesOut_115 rfl ?_
          refine g_iald (pc := 117) (k := 81) (n := 10) F (by decide) (fun _ => rfl) dX9_takesOut_117 ?_
          refine g_nm (fun v18 => ?_)
          refine g_dup2 (pc := 118) F rfl rfl dX9_takesOut_118 ?_
          refine g_iald (pc := 119) (k := 92) (n := 32) F (by decide) (fun _ => rfl) dX9_takesOut_119 ?_
          refine g_iload (pc := 120) F 5 dX9_takesOut_120 rfl ?_
          refine g_iconst (pc := 122) (v := (-1)) F dX9_takesOut_122 (by decide) ?_
          refine g_ixor (pc := 123) F dX9_takesOut_123 ?_
          refine g_iand (pc := 124) F dX9_takesOut_124 ?_
          refine g_iast (pc := 125) (k := 92) (n := 32) F (by decide) (fun _ => rfl) dX9_takesOut_125 (fun M19 => ?_)
          refine g_iinc (pc := 126) (v := x4 + 1) F [(0, .ref (ad (70))), (1, .int x1), (2, .int x2), (3, .int y16), (4, .int (x4 + 1)), (5, .int v8), (6, .int y17)] 4 dX9_takesOut_126 rfl rfl (by decide) rfl rfl rfl ?_
          refine g_goto (pc := 129) F 11 dX9_takesOut_129 (by decide) ?_
          refine g_sub [0, 1, 2, 3, 4] [(0, .ref (ad (70))), (1, .int x1), (2, .int x2), (3, .int y16), (4, .int (x4 + 1))] rfl ?_
          exact ih _ _ _
        · refine g_iconst (pc := 71) (v := (-1)) F dX9_takesOut_71 (by decide) ?_
          exact g_iret (pc := 72) F hr hlk dX9_takesOut_72
      · refine g_goto (pc := 29) F 126 dX9_takesOut_29 (by decide) ?_
        refine g_iinc (pc := 126) (v := x4 + 1) F [(0, .ref (ad (70))), (1, .int x1), (2, .int x2), (3, .int x3), (4, .int (x4 + 1))] 4 dX9_takesOut_126 rfl rfl (by decide) rfl rfl rfl ?_
        refine g_goto (pc := 129) F 11 dX9_takesOut_129 (by decide) ?_
        exact ih _ _ _
set_option maxHeartbeats 4000000 in
set_option maxRecDepth 100000 in
theorem c_X9_takesOut (l : Launch) (D : va_G) (ad : Nat → Nat) (cs : Cs) (hi : Inj ad) (fu : Nat) (a1 : Int32) (a2 : Int32) (M : Mem) : MI l yX9_takesOut wsX9_takesOut rmX9_takesOut D ad cs [.ref (ad (70)), .int a1, .int a2] M (f_X9_takesOut fu a1 a2 M) := by
  refine Mx.of (cc := cX9_takesOut) (maxL := 7) (ret := (some .int)) (own := RX9) (lv := [(0, .ref (ad (70))), (1, .int a1), (2, .int a2)]) (by decide) rfl rfl (Nat.le_of_ble_eq_true rfl) rfl hi ?_
  intro p e s m below meth c F hr hlk
  unfold f_X9_takesOut
  refine g_aload_n (pc := 0) F 0 dX9_takesOut_0 rfl ?_
  refine g_iload_n (pc := 1) F 1 dX9_takesOut_1 rfl ?_
  refine g_iconst (pc := 2) (v := 0) F dX9_takesOut_2 (by decide) ?_
  refine g_vv (pc := 3) (k := 70) (ci := 9) (fs := (oX9 ad)) (C := RX9) (T := TX9) (N := 33) (As := [.int a1, .int 0]) (st := []) F (c_X9_lists l D ad cs F.2.2.1 fu a1 0 M) (by decide) (fun _ => rfl) rfl (cwV 2 F.1.2.2.2.2 gX9_takesOut_X9_lists rfl rfl rfl hdV_X9_lists ⟨by decide, by decide⟩) rfl rfl (Nat.le_of_ble_eq_true rfl) dX9_takesOut_3 ⟨Nat.zero_le _, Nat.zero_le _⟩ (fun r1 M2 => ?_)
  refine g_iconst (pc := 6) (v := 0) F dX9_takesOut_6 (by decide) ?_
  refine g_istore_n (pc := 7) F [(0, .ref (ad (70))), (1, .int a1), (2, .int a2), (3, .int 0)] dX9_takesOut_7 (by decide) rfl rfl rfl ?_
  refine g_iconst (pc := 8) (v := 0) F dX9_takesOut_8 (by decide) ?_
  refine g_istore (pc := 9) F [(0, .ref (ad (70))), (1, .int a1), (2, .int a2), (3, .int 0), (4, .int 0)] dX9_takesOut_9 (by decide) rfl rfl rfl ?_
  refine w_X9_takesOut_L11 fu a1 a2 F hr hlk _ (fun M20 y21 y22 => ?_) _ _ _ _
  refine g_iload_n (pc := 132) F 3 dX9_takesOut_132 rfl ?_
  exact g_iret (pc := 133) F hr hlk dX9_takesOut_133
