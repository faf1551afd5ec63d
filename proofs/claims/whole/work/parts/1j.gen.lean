/-! Written by wip/whole/gen.py: pure functions of methods, and the walks that tie the bytecode to them. -/
-- X9_code
def rmX9_code : Room := { frames := 2, cells := 0, slots := 0, locals := 45 }
def f_X9_code (a1 : Int32) (a2 : Int32) (a3 : Int32) (a4 : Int32) (a5 : Int32) (M : Mem) : Option (Int32 × Mem) := bnd (f_X9_isProgram a1 M) (fun r1 M2 => if r1 = 0 then some ((-1), M2) else if ix a1 4 then if (M2 (72) a1.toNatClampNeg) = 24 then some ((-1), M2) else bnd (f_X9_isGood a2 a3 a4 a5 M2) (fun r3 M4 => if r3 = 0 then some ((-1), M4) else if ix a1 4 then bnd (f_X9_puts (((24 : Int32) * a1) + (M4 (72) a1.toNatClampNeg)) a2 a3 a4 a5 M4) (fun r5 M6 => if ix a1 4 then if ix a1 4 then wr M6 (72) a1.toNatClampNeg ((M6 (72) a1.toNatClampNeg) + (1 : Int32)) (fun M7 => bnd (f_X9_changes a1 M7) (fun r8 M9 => if ix a1 4 then some ((M9 (72) a1.toNatClampNeg) - (1 : Int32), M9) else none)) else none else none) else none) else none)
set_option maxRecDepth 20000 in
theorem kiX9_code_X9 : ∀ w ∈ u_ws RX9 TX9 33, w ∈ wsX9_code := by decide +kernel
set_option maxRecDepth 20000 in
theorem klX9_code_17 : Cond.fieldLink RX9 17 "DoorListerModel" "size" "[I" ∈ wsX9_code := by decide +kernel
set_option maxHeartbeats 4000000 in
set_option maxRecDepth 100000 in
theorem c_X9_code (l : Launch) (D : va_G) (ad : Nat → Nat) (cs : Cs) (hi : Inj ad) (a1 : Int32) (a2 : Int32) (a3 : Int32) (a4 : Int32) (a5 : Int32) (M : Mem) : MI l yX9_code wsX9_code rmX9_code D ad cs [.ref (ad (70)), .int a1, .int a2, .int a3, .int a4, .int a5] M (f_X9_code a1 a2 a3 a4 a5 M) := by
  refine Mx.of (cc := cX9_code) (maxL := 6) (ret := (some .int)) (own := RX9) (lv := [(0, .ref (ad (70))), (1, .int a1), (2, .int a2), (3, .int a3), (4, .int a4), (5, .int a5)]) (by decide) rfl rfl (Nat.le_of_ble_eq_true rfl) rfl hi ?_
  intro p e s m below meth c F hr hlk
  unfold f_X9_code
  refine g_iload_n (pc := 0) F 1 dX9_code_0 rfl ?_
  refine g_si (pc := 1) (As := [.int a1]) (st := []) F (c_X9_isProgram l D ad cs F.2.2.1 a1 M) (va_cwS 1 F.1.2.2.2.2 gX9_code_X9_isProgram rfl rfl rfl hdS_X9_isProgram ⟨by decide, by decide⟩) rfl rfl (Nat.le_of_ble_eq_true rfl) dX9_code_1 ⟨Nat.zero_le _, Nat.zero_le _⟩ (fun r1 M2 => ?_)
  refine g_if_eq (pc := 4) F 30 dX9_code_4 (by decide) ?_ ?_
  · refine g_iconst (pc := 30) (v := (-1)) F dX9_code_30 (by decide) ?_
    exact g_iret (pc := 31) F hr hlk dX9_code_31
  · refine g_aload_n (pc := 7) F 0 dX9_code_7 rfl ?_
    refine g_get (pc := 8) (v := .ref (ad (72))) (k := 70) (ci := 9) (fs := (oX9 ad)) (C := RX9) (T := TX9) (N := 33) F (by decide) (fun _ => rfl) rfl kiX9_code_X9 3 (by decide) klX9_code_17 rfl rfl dX9_code_8 ?_
    refine g_iload_n (pc := 11) F 1 dX9_code_11 rfl ?_
    refine g_iald (pc := 12) (k := 72) (n := 4) F (by decide) (fun _ => rfl) dX9_code_12 ?_
    refine g_bipush (pc := 13) (v := 24) F dX9_code_13 (by decide) ?_
    refine g_icmp_eq (pc := 15) F 30 dX9_code_15 (by decide) ?_ ?_
    · refine g_iconst (pc := 30) (v := (-1)) F dX9_code_30 (by decide) ?_
      exact g_iret (pc := 31) F hr hlk dX9_code_31
    · refine g_iload_n (pc := 18) F 2 dX9_code_18 rfl ?_
      refine g_iload_n (pc := 19) F 3 dX9_code_19 rfl ?_
      refine g_iload (pc := 20) F 4 dX9_code_20 rfl ?_
      refine g_iload (pc := 22) F 5 dX9_code_22 rfl ?_
      refine g_si (pc := 24) (As := [.int a2, .int a3, .int a4, .int a5]) (st := []) F (c_X9_isGood l D ad cs F.2.2.1 a2 a3 a4 a5 M2) (va_cwS 4 F.1.2.2.2.2 gX9_code_X9_isGood rfl rfl rfl hdS_X9_isGood ⟨by decide, by decide⟩) rfl rfl (Nat.le_of_ble_eq_true rfl) dX9_code_24 ⟨Nat.zero_le _, Nat.zero_le _⟩ (fun r3 M4 => ?_)
      refine g_if_ne (pc := 27) F 32 dX9_code_27 (by decide) ?_ ?_
      · refine g_aload_n (pc := 32) F 0 dX9_code_32 rfl ?_
        refine g_bipush (pc := 33) (v := 24) F dX9_code_33 (by decide) ?_
        refine g_iload_n (pc := 35) F 1 dX9_code_35 rfl ?_
        refine g_imul (pc := 36) F dX9_code_36 ?_
        refine g_aload_n (pc := 37) F 0 dX9_code_37 rfl ?_
        refine g_get (pc := 38) (v := .ref (ad (72))) (k := 70) (ci := 9) (fs := (oX9 ad)) (C := RX9) (T := TX9) (N := 33) F (by decide) (fun _ => rfl) rfl kiX9_code_X9 3 (by decide) klX9_code_17 rfl rfl dX9_code_38 ?_
        refine g_iload_n (pc := 41) F 1 dX9_code_41 rfl ?_
        refine g_iald (pc := 42) (k := 72) (n := 4) F (by decide) (fun _ => rfl) dX9_code_42 ?_
        refine g_iadd (pc := 43) F dX9_code_43 ?_
        refine g_iload_n (pc := 44) F 2 dX9_code_44 rfl ?_
        refine g_iload_n (pc := 45) F 3 dX9_code_45 rfl ?_
        refine g_iload (pc := 46) F 4 dX9_code_46 rfl ?_
        refine g_iload (pc := 48) F 5 dX9_code_48 rfl ?_
        refine g_vv (pc := 50) (k := 70) (ci := 9) (fs := (oX9 ad)) (C := RX9) (T := TX9) (N := 33) (As := [.int (((24 : Int32) * a1) + (M4 (72) a1.toNatClampNeg)), .int a2, .int a3, .int a4, .int a5]) (st := []) F (c_X9_puts l D ad cs F.2.2.1 (((24 : Int32) * a1) + (M4 (72) a1.toNatClampNeg)) a2 a3 a4 a5 M4) (by decide) (fun _ => rfl) rfl (cwV 5 F.1.2.2.2.2 gX9_code_X9_puts rfl rfl rfl hdV_X9_puts ⟨by decide, by decide⟩) rfl rfl (Nat.le_of_ble_eq_true rfl) dX9_code_50 ⟨Nat.zero_le _, Nat.zero_le _⟩ (fun r5 M6 => ?_)
        refine g_aload_n (pc := 53) F 0 dX9_code_53 rfl ?_
        refine g_get (pc := 54) (v := .ref (ad (72))) (k := 70) (ci := 9) (fs := (oX9 ad)) (C := RX9) (T := TX9) (N := 33) F (by decide) (fun _ => rfl) rfl kiX9_code_X9 3 (by decide) klX9_code_17 rfl rfl dX9_code_54 ?_
        refine g_iload_n (pc := 57) F 1 dX9_code_57 rfl ?_
        refine g_dup2 (pc := 58) F rfl rfl dX9_code_58 ?_
        refine g_iald (pc := 59) (k := 72) (n := 4) F (by decide) (fun _ => rfl) dX9_code_59 ?_
        refine g_iconst (pc := 60) (v := 1) F dX9_code_60 (by decide) ?_
        refine g_iadd (pc := 61) F dX9_code_61 ?_
        refine g_iast (pc := 62) (k := 72) (n := 4) F (by decide) (fun _ => rfl) dX9_code_62 (fun M7 => ?_)
        refine g_aload_n (pc := 63) F 0 dX9_code_63 rfl ?_
        refine g_iload_n (pc := 64) F 1 dX9_code_64 rfl ?_
        refine g_vv (pc := 65) (k := 70) (ci := 9) (fs := (oX9 ad)) (C := RX9) (T := TX9) (N := 33) (As := [.int a1]) (st := []) F (c_X9_changes l D ad cs F.2.2.1 a1 M7) (by decide) (fun _ => rfl) rfl (cwV 1 F.1.2.2.2.2 gX9_code_X9_changes rfl rfl rfl hdV_X9_changes ⟨by decide, by decide⟩) rfl rfl (Nat.le_of_ble_eq_true rfl) dX9_code_65 ⟨Nat.zero_le _, Nat.zero_le _⟩ (fun r8 M9 => ?_)
        refine g_aload_n (pc := 68) F 0 dX9_code_68 rfl ?_
        refine g_get (pc := 69) (v := .ref (ad (72))) (k := 70) (ci := 9) (fs := (oX9 ad)) (C := RX9) (T := TX9) (N := 33) F (by decide) (fun _ => rfl) rfl kiX9_code_X9 3 (by decide) klX9_code_17 rfl rfl dX9_code_69 ?_
        refine g_iload_n (pc := 72) F 1 dX9_code_72 rfl ?_
        refine g_iald (pc := 73) (k := 72) (n := 4) F (by decide) (fun _ => rfl) dX9_code_73 ?_
        refine g_iconst (pc := 74) (v := 1) F dX9_code_74 (by decide) ?_
        refine g_isub (pc := 75) F dX9_code_75 ?_
        exact g_iret (pc := 76) F hr hlk dX9_code_76
      · refine g_iconst (pc := 30) (v := (-1)) F dX9_code_30 (by decide) ?_
        exact g_iret (pc := 31) F hr hlk dX9_code_31
-- X9_change
def rmX9_change : Room := { frames := 2, cells := 0, slots := 0, locals := 45 }
def f_X9_change (a1 : Int32) (a2 : Int32) (a3 : Int32) (a4 : Int32) (a5 : Int32) (a6 : Int32) (M : Mem) : Option (Int32 × Mem) := bnd (f_X9_isProgram a1 M) (fun r1 M2 => if r1 = 0 then some (0, M2) else if ix a1 4 then bnd (f_X9_lies a2 0 ((M2 (72) a1.toNatClampNeg) - (1 : Int32)) M2) (fun r3 M4 => if r3 = 0 then some (0, M4) else bnd (f_X9_isGood a3 a4 a5 a6 M4) (fun r5 M6 => if r5 = 0 then some (0, M6) else bnd (f_X9_puts (((24 : Int32) * a1) + a2) a3 a4 a5 a6 M6) (fun r7 M8 => bnd (f_X9_changes a1 M8) (fun r9 M10 => some (1, M10))))) else none)
set_option maxRecDepth 20000 in
theorem kiX9_change_X9 : ∀ w ∈ u_ws RX9 TX9 33, w ∈ wsX9_change := by decide +kernel
set_option maxRecDepth 20000 in
theorem klX9_change_17 : Cond.fieldLink RX9 17 "DoorListerModel" "size" "[I" ∈ wsX9_change := by decide +kernel
set_option maxHeartbeats 4000000 in
set_option maxRecDepth 100000 in
theorem c_X9_change (l : Launch) (D : va_G) (ad : Nat → Nat) (cs : Cs) (hi : Inj ad) (a1 : Int32) (a2 : Int32) (a3 : Int32) (a4 : Int32) (a5 : Int32) (a6 : Int32) (M : Mem) : MI l yX9_change wsX9_change rmX9_change D ad cs [.ref (ad (70)), .int a1, .int a2, .int a3, .int a4, .int a5, .int a6] M (f_X9_change a1 a2 a3 a4 a5 a6 M) := by
  refine Mx.of (cc := cX9_change) (maxL := 7) (ret := (some .boolean)) (own := RX9) (lv := [(0, .ref (ad (70))), (1, .int a1), (2, .int a2), (3, .int a3), (4, .int a4), (5, .int a5), (6, .int a6)]) (by decide) rfl rfl (Nat.le_of_ble_eq_true rfl) rfl hi ?_
  intro p e s m below meth c F hr hlk
  unfold f_X9_change
  refine g_iload_n (pc := 0) F 1 dX9_change_0 rfl ?_
  refine g_si (pc := 1) (As := [.int a1]) (st := []) F (c_X9_isProgram l D ad cs F.2.2.1 a1 M) (va_cwS 1 F.1.2.2.2.2 gX9_change_X9_isProgram rfl rfl rfl hdS_X9_isProgram ⟨by decide, by decide⟩) rfl rfl (Nat.le_of_ble_eq_true rfl) dX9_change_1 ⟨Nat.zero_le _, Nat.zero_le _⟩ (fun r1 M2 => ?_)
  refine g_if_eq (pc := 4) F 36 dX9_change_4 (by decide) ?_ ?_
  · refine g_iconst (pc := 36) (v := 0) F dX9_change_36 (by decide) ?_
    exact g_zret (pc := 37) F hr hlk rfl dX9_change_37
  · refine g_iload_n (pc := 7) F 2 dX9_change_7 rfl ?_
    refine g_iconst (pc := 8) (v := 0) F dX9_change_8 (by decide) ?_
    refine g_aload_n (pc := 9) F 0 dX9_change_9 rfl ?_
    refine g_get (pc := 10) (v := .ref (ad (72))) (k := 70) (ci := 9) (fs := (oX9 ad)) (C := RX9) (T := TX9) (N := 33) F (by decide) (fun _ => rfl) rfl kiX9_change_X9 3 (by decide) klX9_change_17 rfl rfl dX9_change_10 ?_
    refine g_iload_n (pc := 13) F 1 dX9_change_13 rfl ?_
    refine g_iald (pc := 14) (k := 72) (n := 4) F (by decide) (fun _ => rfl) dX9_change_14 ?_
    refine g_iconst (pc := 15) (v := 1) F dX9_change_15 (by decide) ?_
    refine g_isub (pc := 16) F dX9_change_16 ?_
    refine g_si (pc := 17) (As := [.int a2, .int 0, .int ((M2 (72) a1.toNatClampNeg) - (1 : Int32))]) (st := []) F (c_X9_lies l D ad cs F.2.2.1 a2 0 ((M2 (72) a1.toNatClampNeg) - (1 : Int32)) M2) (va_cwS 3 F.1.2.2.2.2 gX9_change_X9_lies rfl rfl rfl hdS_X9_lies ⟨by decide, by decide⟩) rfl rfl (Nat.le_of_ble_eq_true rfl) dX9_change_17 ⟨Nat.zero_le _, Nat.zero_le _⟩ (fun r3 M4 => ?_)
    refine g_if_eq (pc := 20) F 36 dX9_change_20 (by decide) ?_ ?_
    · refine g_iconst (pc := 36) (v := 0) F dX9_change_36 (by decide) ?_
      exact g_zret (pc := 37) F hr hlk rfl dX9_change_37
    · refine g_iload_n (pc := 23) F 3 dX9_change_23 rfl ?_
      refine g_iload (pc := 24) F 4 dX9_change_24 rfl ?_
      refine g_iload (pc := 26) F 5 dX9_change_26 rfl ?_
      refine g_iload (pc := 28) F 6 dX9_change_28 rfl ?_
      refine g_si (pc := 30) (As := [.int a3, .int a4, .int a5, .int a6]) (st := []) F (c_X9_isGood l D ad cs F.2.2.1 a3 a4 a5 a6 M4) (va_cwS 4 F.1.2.2.2.2 gX9_change_X9_isGood rfl rfl rfl hdS_X9_isGood ⟨by decide, by decide⟩) rfl rfl (Nat.le_of_ble_eq_true rfl) dX9_change_30 ⟨Nat.zero_le _, Nat.zero_le _⟩ (fun r5 M6 => ?_)
      refine g_if_ne (pc := 33) F 38 dX9_change_33 (by decide) ?_ ?_
      · refine g_aload_n (pc := 38) F 0 dX9_change_38 rfl ?_
        refine g_bipush (pc := 39) (v := 24) F dX9_change_39 (by decide) ?_
        refine g_iload_n (pc := 41) F 1 dX9_change_41 rfl ?_
        refine g_imul (pc := 42) F dX9_change_42 ?_
        refine g_iload_n (pc := 43) F 2 dX9_change_43 rfl ?_
        refine g_iadd (pc := 44) F dX9_change_44 ?_
        refine g_iload_n (pc := 45) F 3 dX9_change_45 rfl ?_
        refine g_iload (pc := 46) F 4 dX9_change_46 rfl ?_
        refine g_iload (pc := 48) F 5 dX9_change_48 rfl ?_
        refine g_iload (pc := 50) F 6 dX9_change_50 rfl ?_
        refine g_vv (pc := 52) (k := 70) (ci := 9) (fs := (oX9 ad)) (C := RX9) (T := TX9) (N := 33) (As := [.int (((24 : Int32) * a1) + a2), .int a3, .int a4, .int a5, .int a6]) (st := []) F (c_X9_puts l D ad cs F.2.2.1 (((24 : Int32) * a1) + a2) a3 a4 a5 a6 M6) (by decide) (fun _ => rfl) rfl (cwV 5 F.1.2.2.2.2 gX9_change_X9_puts rfl rfl rfl hdV_X9_puts ⟨by decide, by decide⟩) rfl rfl (Nat.le_of_ble_eq_true rfl) dX9_change_52 ⟨Nat.zero_le _, Nat.zero_le _⟩ (fun r7 M8 => ?_)
        refine g_aload_n (pc := 55) F 0 dX9_change_55 rfl ?_
        refine g_iload_n (pc := 56) F 1 dX9_change_56 rfl ?_
        refine g_vv (pc := 57) (k := 70) (ci := 9) (fs := (oX9 ad)) (C := RX9) (T := TX9) (N := 33) (As := [.int a1]) (st := []) F (c_X9_changes l D ad cs F.2.2.1 a1 M8) (by decide) (fun _ => rfl) rfl (cwV 1 F.1.2.2.2.2 gX9_change_X9_changes rfl rfl rfl hdV_X9_changes ⟨by decide, by decide⟩) rfl rfl (Nat.le_of_ble_eq_true rfl) dX9_change_57 ⟨Nat.zero_le _, Nat.zero_le _⟩ (fun r9 M10 => ?_)
        refine g_iconst (pc := 60) (v := 1) F dX9_change_60 (by decide) ?_
        exact g_zret (pc := 61) F hr hlk rfl dX9_change_61
      · refine g_iconst (pc := 36) (v := 0) F dX9_change_36 (by decide) ?_
        exact g_zret (pc := 37) F hr hlk rfl dX9_change_37
-- X9_copy
def rmX9_copy : Room := { frames := 2, cells := 0, slots := 0, locals := 42 }
def f_X9_copy_L23 (x1 : Int32) (x2 : Int32) (k : Mem → Int32 → Option (Int32 × Mem)) : Nat → Mem → Int32 → Option (Int32 × Mem)
  | 0, _, _ => none
  | n + 1, M, x3 => if ix x2 4 then if (M (72) x2.toNatClampNeg) ≤ x3 then k M x3 else nm (((24 : Int32) * x2) + x3) (fun v5 => if ix v5 96 then nm (((24 : Int32) * x2) + x3) (fun v6 => if ix v6 96 then nm (((24 : Int32) * x2) + x3) (fun v7 => if ix v7 96 then nm (((24 : Int32) * x2) + x3) (fun v8 => if ix v8 96 then bnd (f_X9_puts (((24 : Int32) * x1) + x3) (M (73) v5.toNatClampNeg) (M (74) v6.toNatClampNeg) (M (75) v7.toNatClampNeg) (M (76) v8.toNatClampNeg) M) (fun r9 M10 => f_X9_copy_L23 x1 x2 k n M10 (x3 + 1)) else none) else none) else none) else none) else none
def f_X9_copy (fu : Nat) (a1 : Int32) (a2 : Int32) (M : Mem) : Option (Int32 × Mem) := bnd (f_X9_isProgram a1 M) (fun r1 M2 => if r1 = 0 then some (0, M2) else bnd (f_X9_isProgram a2 M2) (fun r3 M4 => if r3 = 0 then some (0, M4) else if a1 = a2 then some (0, M4) else f_X9_copy_L23 a1 a2 (fun M11 y12 => if ix a2 4 then if ix a1 4 then wr M11 (72) a1.toNatClampNeg (M11 (72) a2.toNatClampNeg) (fun M13 => bnd (f_X9_changes a1 M13) (fun r14 M15 => some (1, M15))) else none else none) fu M4 0))
set_option maxRecDepth 20000 in
theorem kiX9_copy_X9 : ∀ w ∈ u_ws RX9 TX9 33, w ∈ wsX9_copy := by decide +kernel
set_option maxRecDepth 20000 in
theorem klX9_copy_17 : Cond.fieldLink RX9 17 "DoorListerModel" "size" "[I" ∈ wsX9_copy := by decide +kernel
set_option maxRecDepth 20000 in
theorem klX9_copy_21 : Cond.fieldLink RX9 21 "DoorListerModel" "kind" "[I" ∈ wsX9_copy := by decide +kernel
set_option maxRecDepth 20000 in
theorem klX9_copy_24 : Cond.fieldLink RX9 24 "DoorListerModel" "reg" "[I" ∈ wsX9_copy := by decide +kernel
set_option maxRecDepth 20000 in
theorem klX9_copy_27 : Cond.fieldLink RX9 27 "DoorListerModel" "num" "[I" ∈ wsX9_copy := by decide +kernel
set_option maxRecDepth 20000 in
theorem klX9_copy_30 : Cond.fieldLink RX9 30 "DoorListerModel" "to" "[I" ∈ wsX9_copy := by decide +kernel
set_option maxHeartbeats 4000000 in
set_option maxRecDepth 100000 in
theorem w_X9_copy_L23 {p : Program} {l : Launch} {e : Env} {s : State} {m : MethodId} {args : Array Value} {below : List Frame} {meth : Method} {c : Code} {D : va_G} {ad : Nat → Nat} {cs : Cs}  (x1 : Int32) (x2 : Int32) (F : Fx p m c cX9_copy 4 s args wsX9_copy RX9 D ad cs (Ad ad)) (hr : meth.sig.returnType = (some .boolean)) (hlk : meth.locks = false) (k : Mem → Int32 → Option (Int32 × Mem)) (hkx : ∀ (M : Mem) (x3 : Int32), GoX p l e rmX9_copy s m args below meth c 0 0 4 (fun rM => MQ below (cQi D ad cs rM) args s 0 0 (Ad ad)) D ad cs (Ad ad) M 93 [(0, .ref (ad (70))), (1, .int x1), (2, .int x2), (3, .int x3)] [] (k M x3)) : ∀ (n : Nat) (M : Mem) (x3 : Int32), GoX p l e rmX9_copy s m args below meth c 0 0 4 (fun rM => MQ below (cQi D ad cs rM) args s 0 0 (Ad ad)) D ad cs (Ad ad) M 23 [(0, .ref (ad (70))), (1, .int x1), (2, .int x2), (3, .int x3)] [] (f_X9_copy_L23 x1 x2 k n M x3) := by
  intro n
  induction n with
  | zero => intro M x3; exact g_none
  | succ n ih =>
    intro M x3
    unfold f_X9_copy_L23
    refine g_iload_n (pc := 23) F 3 dX9_copy_23 rfl ?_
    refine g_aload_n (pc := 24) F 0 dX9_copy_24 rfl ?_
    refine g_get (pc := 25) (v := .ref (ad (72))) (k := 70) (ci := 9) (fs := (oX9 ad)) (C := RX9) (T := TX9) (N := 33) F (by decide) (fun _ => rfl) rfl kiX9_copy_X9 3 (by decide) klX9_copy_17 rfl rfl dX9_copy_25 ?_
    refine g_iload_n (pc := 28) F 2 dX9_copy_28 rfl ?_
    refine g_iald (pc := 29) (k := 72) (n := 4) F (by decide) (fun _ => rfl) dX9_copy_29 ?_
    refine g_icmp_ge (pc := 30) F 93 dX9_copy_30 (by decide) ?_ ?_
    · exact hkx _ _
    · refine g_aload_n (pc := 33) F 0 dX9_copy_33 rfl ?_
      refine g_bipush (pc := 34) (v := 24) F dX9_copy_34 (by decide) ?_
      refine g_iload_n (pc := 36) F 1 dX9_copy_36 rfl ?_
      refine g_imul (pc := 37) F dX9_copy_37 ?_
      refine g_iload_n (pc := 38) F 3 dX9_copy_38 rfl ?_
      refine g_iadd (pc := 39) F dX9_copy_39 ?_
      refine g_aload_n (pc := 40) F 0 dX9_copy_40 rfl ?_
      refine g_get (pc := 41) (v := .ref (ad (73))) (k := 70) (ci := 9) (fs := (oX9 ad)) (C := RX9) (T := TX9) (N := 33) F (by decide) (fun _ => rfl) rfl kiX9_copy_X9 4 (by decide) klX9_copy_21 rfl rfl dX9_copy_41 ?_
      refine g_bipush (pc := 44) (v := 24) F dX9_copy_44 (by decide) ?_
      refine g_iload_n (pc := 46) F 2 dX9_copy_46 rfl ?_
      refine g_imul (pc := 47) F dX9_copy_47 ?_
      refine g_iload_n (pc := 48) F 3 dX9_copy_48 rfl ?_
      refine g_iadd (pc := 49) F dX9_copy_49 ?_
      refine g_nm (fun v5 => ?_)
      refine g_iald (pc := 50) (k := 73) (n := 96) F (by decide) (fun _ => rfl) dX9_copy_50 ?_
      refine g_aload_n (pc := 51) F 0 dX9_copy_51 rfl ?_
      refine g_get (pc := 52) (v := .ref (ad (74))) (k := 70) (ci := 9) (fs := (oX9 ad)) (C := RX9) (T := TX9) (N := 33) F (by decide) (fun _ => rfl) rfl kiX9_copy_X9 5 (by decide) klX9_copy_24 rfl rfl dX9_copy_52 ?_
      refine g_bipush (pc := 55) (v := 24) F dX9_copy_55 (by decide) ?_
      refine g_iload_n (pc := 57) F 2 dX9_copy_57 rfl ?_
      refine g_imul (pc := 58) F dX9_copy_58 ?_
      refine g_iload_n (pc := 59) F 3 dX9_copy_59 rfl ?_
      refine g_iadd (pc := 60) F dX9_copy_60 ?_
      refine g_nm (fun v6 => ?_)
      refine g_iald (pc := 61) (k := 74) (n := 96) F (by decide) (fun _ => rfl) dX9_copy_61 ?_
      refine g_aload_n (pc := 62) F 0 dX9_copy_62 rfl ?_
      refine g_get (pc := 63) (v := .ref (ad (75))) (k := 70) (ci := 9) (fs := (oX9 ad)) (C := RX9) (T := TX9) (N := 33) F (by decide) (fun _ => rfl) rfl kiX9_copy_X9 6 (by decide) klX9_copy_27 rfl rfl dX9_copy_63 ?_
      refine g_bipush (pc := 66) (v := 24) F dX9_copy_66 (by decide) ?_
      refine g_iload_n (pc := 68) F 2 dX9_copy_68 rfl ?_
      refine g_imul (pc := 69) F dX9_copy_69 ?_
      refine g_iload_n (pc := 70) F 3 dX9_copy_70 rfl ?_
      refine g_iadd (pc := 71) F dX9_copy_71 ?_
      refine g_nm (fun v7 => ?_)
      refine g_iald (pc := 72) (k := 75) (n := 96) F (by decide) (fun _ => rfl) dX9_copy_72 ?_
      refine g_aload_n (pc := 73) F 0 dX9_copy_73 rfl ?_
      refine g_get (pc := 74) (v := .ref (ad (76))) (k := 70) (ci := 9) (fs := (oX9 ad)) (C := RX9) (T := TX9) (N := 33) F (by decide) (fun _ => rfl) rfl kiX9_copy_X9 7 (by decide) klX9_copy_30 rfl rfl dX9_copy_74 ?_
      refine g_bipush (pc := 77) (v := 24) F dX9_copy_77 (by decide) ?_
      refine g_iload_n (pc := 79) F 2 dX9_copy_79 rfl ?_
      refine g_imul (pc := 80) F dX9_copy_80 ?_
      refine g_iload_n (pc := 81) F 3 dX9_copy_81 rfl ?_
      refine g_iadd (pc := 82) F dX9_copy_82 ?_
      refine g_nm (fun v8 => ?_)
      refine g_iald (pc := 83) (k := 76) (n := 96) F (by decide) (fun _ => rfl) dX9_copy_83 ?_
      refine g_vv (pc := 84) (k := 70) (ci := 9) (fs := (oX9 ad)) (C := RX9) (T := TX9) (N := 33) (As := [.int (((24 : Int32) * x1) + x3), .int (M (73) v5.toNatClampNeg), .int (M (74) v6.toNatClampNeg), .int (M (75) v7.toNatClampNeg), .int (M (76) v8.toNatClampNeg)]) (st := []) F (c_X9_puts l D ad cs F.2.2.1 (((24 : Int32) * x1) + x3) (M (73) v5.toNatClampNeg) (M (74) v6.toNatClampNeg) (M (75) v7.toNatClampNeg) (M (76) v8.toNatClampNeg) M) (by decide) (fun _ => rfl) rfl (cwV 5 F.1.2.2.2.2 gX9_copy_X9_puts rfl rfl rfl hdV_X9_puts ⟨by decide, by decide⟩) rfl rfl (Nat.le_of_ble_eq_true rfl) dX9_copy_84 ⟨Nat.zero_le _, Nat.zero_le _⟩ (fun r9 M10 => ?_)
      refine g_iinc (pc := 87) (v := x3 + 1) F [(0, .ref (ad (70))), (1, .int x1), (2, .int x2), (3, .int (x3 + 1))] 3 dX9_copy_87 rfl rfl (by decide) rfl rfl rfl ?_
      refine g_goto (pc := 90) F 23 dX9_copy_90 (by decide) ?_
      exact ih _ _
set_option maxHeartbeats 4000000 in
set_option maxRecDepth 100000 in
theorem c_X9_copy (l : Launch) (D : va_G) (ad : Nat → Nat) (cs : Cs) (hi : Inj ad) (fu : Nat) (a1 : Int32) (a2 : Int32) (M : Mem) : MI l yX9_copy wsX9_copy rmX9_copy D ad cs [.ref (ad (70)), .int a1, .int a2] M (f_X9_copy fu a1 a2 M) := by
  refine Mx.of (cc := cX9_copy) (maxL := 4) (ret := (some .boolean)) (own := RX9) (lv := [(0, .ref (ad (70))), (1, .int a1), (2, .int a2)]) (by decide) rfl rfl (Nat.le_of_ble_eq_true rfl) rfl hi ?_
  intro p e s m below meth c F hr hlk
  unfold f_X9_copy
  refine g_iload_n (pc := 0) F 1 dX9_copy_0 rfl ?_
  refine g_si (pc := 1) (As := [.int a1]) (st := []) F (c_X9_isProgram l D ad cs F.2.2.1 a1 M) (va_cwS 1 F.1.2.2.2.2 gX9_copy_X9_isProgram rfl rfl rfl hdS_X9_isProgram ⟨by decide, by decide⟩) rfl rfl (Nat.le_of_ble_eq_true rfl) dX9_copy_1 ⟨Nat.zero_le _, Nat.zero_le _⟩ (fun r1 M2 => ?_)
  refine g_if_eq (pc := 4) F 19 dX9_copy_4 (by decide) ?_ ?_
  · refine g_iconst (pc := 19) (v := 0) F dX9_copy_19 (by decide) ?_
    exact g_zret (pc := 20) F hr hlk rfl dX9_copy_20
  · refine g_iload_n (pc := 7) F 2 dX9_copy_7 rfl ?_
    refine g_si (pc := 8) (As := [.int a2]) (st := []) F (c_X9_isProgram l D ad cs F.2.2.1 a2 M2) (va_cwS 1 F.1.2.2.2.2 gX9_copy_X9_isProgram rfl rfl rfl hdS_X9_isProgram ⟨by decide, by decide⟩) rfl rfl (Nat.le_of_ble_eq_true rfl) dX9_copy_8 ⟨Nat.zero_le _, Nat.zero_le _⟩ (fun r3 M4 => ?_)
    refine g_if_eq (pc := 11) F 19 dX9_copy_11 (by decide) ?_ ?_
    · refine g_iconst (pc := 19) (v := 0) F dX9_copy_19 (by decide) ?_
      exact g_zret (pc := 20) F hr hlk rfl dX9_copy_20
    · refine g_iload_n (pc := 14) F 1 dX9_copy_14 rfl ?_
      refine g_iload_n (pc := 15) F 2 dX9_copy_15 rfl ?_
      refine g_icmp_ne (pc := 16) F 21 dX9_copy_16 (by decide) ?_ ?_
      · refine g_iconst (pc := 21) (v := 0) F dX9_copy_21 (by decide) ?_
        refine g_istore_n (pc := 22) F [(0, .ref (ad (70))), (1, .int a1), (2, .int a2), (3, .int 0)] dX9_copy_22 (by decide) rfl rfl rfl ?_
        refine w_X9_copy_L23 a1 a2 F hr hlk _ (fun M11 y12 => ?_) _ _ _
        refine g_aload_n (pc := 93) F 0 dX9_copy_93 rfl ?_
        refine g_get (pc := 94) (v := .ref (ad (72))) (k := 70) (ci := 9) (fs := (oX9 ad)) (C := RX9) (T := TX9) (N := 33) F (by decide) (fun _ => rfl) rfl kiX9_copy_X9 3 (by decide) klX9_copy_17 rfl rfl dX9_copy_94 ?_
        refine g_iload_n (pc := 97) F 1 dX9_copy_97 rfl ?_
        refine g_aload_n (pc := 98) F 0 dX9_copy_98 rfl ?_
        refine g_get (pc := 99) (v := .ref (ad (72))) (k := 70) (ci := 9) (fs := (oX9 ad)) (C := RX9) (T := TX9) (N := 33) F (by decide) (fun _ => rfl) rfl kiX9_copy_X9 3 (by decide) klX9_copy_17 rfl rfl dX9_copy_99 ?_
        refine g_iload_n (pc := 102) F 2 dX9_copy_102 rfl ?_
        refine g_iald (pc := 103) (k := 72) (n := 4) F (by decide) (fun _ => rfl) dX9_copy_103 ?_
        refine g_iast (pc := 104) (k := 72) (n := 4) F (by decide) (fun _ => rfl) dX9_copy_104 (fun M13 => ?_)
        refine g_aload_n (pc := 105) F 0 dX9_copy_105 rfl ?_
        refine g_iload_n (pc := 106) F 1 dX9_copy_106 rfl ?_
        refine g_vv (pc := 107) (k := 70) (ci := 9) (fs := (oX9 ad)) (C := RX9) (T := TX9) (N := 33) (As := [.int a1]) (st := []) F (c_X9_changes l D ad cs F.2.2.1 a1 M13) (by decide) (fun _ => rfl) rfl (cwV 1 F.1.2.2.2.2 gX9_copy_X9_changes rfl rfl rfl hdV_X9_changes ⟨by decide, by decide⟩) rfl rfl (Nat.le_of_ble_eq_true rfl) dX9_copy_107 ⟨Nat.zero_le _, Nat.zero_le _⟩ (fun r14 M15 => ?_)
        refine g_iconst (pc := 110) (v := 1) F dX9_copy_110 (by decide) ?_
        exact g_zret (pc := 111) F hr hlk rfl dX9_copy_111
      · refine g_iconst (pc := 19) (v := 0) F dX9_copy_19 (by decide) ?_
        exact g_zret (pc := 20) F hr hlk rfl dX9_copy_20
-- X9_stateOf
def rmX9_stateOf : Room := { frames := 0, cells := 0, slots := 0, locals := 0 }
def f_X9_stateOf (a0 : Int32) (a1 : Int32) (a2 : Int32) (a3 : Int32) (M : Mem) : Option (Int32 × Mem) := some (((((2048 : Int32) * a0) + ((1024 : Int32) * a1)) + ((32 : Int32) * a2)) + a3, M)
set_option maxHeartbeats 4000000 in
set_option maxRecDepth 100000 in
theorem c_X9_stateOf (l : Launch) (D : va_G) (ad : Nat → Nat) (cs : Cs) (hi : Inj ad) (a0 : Int32) (a1 : Int32) (a2 : Int32) (a3 : Int32) (M : Mem) : MI l yX9_stateOf wsX9_stateOf rmX9_stateOf D ad cs [.int a0, .int a1, .int a2, .int a3] M (f_X9_stateOf a0 a1 a2 a3 M) := by
  refine Mx.of (cc := cX9_stateOf) (maxL := 4) (ret := (some .int)) (own := RX9) (lv := [(0, .int a0), (1, .int a1), (2, .int a2), (3, .int a3)]) (by decide) rfl rfl (Nat.le_of_ble_eq_true rfl) rfl hi ?_
  intro p e s m below meth c F hr hlk
  unfold f_X9_stateOf
  refine g_sipush (pc := 0) (v := 2048) F dX9_stateOf_0 (by decide) ?_
  refine g_iload_n (pc := 3) F 0 dX9_stateOf_3 rfl ?_
  refine g_imul (pc := 4) F dX9_stateOf_4 ?_
  refine g_sipush (pc := 5) (v := 1024) F dX9_stateOf_5 (by decide) ?_
  refine g_iload_n (pc := 8) F 1 dX9_stateOf_8 rfl ?_
  refine g_imul (pc := 9) F dX9_stateOf_9 ?_
  refine g_iadd (pc := 10) F dX9_stateOf_10 ?_
  refine g_bipush (pc := 11) (v := 32) F dX9_stateOf_11 (by decide) ?_
  refine g_iload_n (pc := 13) F 2 dX9_stateOf_13 rfl ?_
  refine g_imul (pc := 14) F dX9_stateOf_14 ?_
  refine g_iadd (pc := 15) F dX9_stateOf_15 ?_
  refine g_iload_n (pc := 16) F 3 dX9_stateOf_16 rfl ?_
  refine g_iadd (pc := 17) F dX9_stateOf_17 ?_
  exact g_iret (pc := 18) F hr hlk dX9_stateOf_18
-- X9_endOf
def rmX9_endOf : Room := { frames := 0, cells := 0, slots := 0, locals := 0 }
def f_X9_endOf (a1 : Int32) (a2 : Int32) (M : Mem) : Option (Int32 × Mem) := if ix a1 4 then if (M (72) a1.toNatClampNeg) ≤ a2 then some (24, M) else some (a2, M) else none
set_option maxRecDepth 20000 in
theorem kiX9_endOf_X9 : ∀ w ∈ u_ws RX9 TX9 33, w ∈ wsX9_endOf := by decide +kernel
set_option maxRecDepth 20000 in
theorem klX9_endOf_17 : Cond.fieldLink RX9 17 "DoorListerModel" "size" "[I" ∈ wsX9_endOf := by decide +kernel
set_option maxHeartbeats 4000000 in
set_option maxRecDepth 100000 in
theorem c_X9_endOf (l : Launch) (D : va_G) (ad : Nat → Nat) (cs : Cs) (hi : Inj ad) (a1 : Int32) (a2 : Int32) (M : Mem) : MI l yX9_endOf wsX9_endOf rmX9_endOf D ad cs [.ref (ad (70)), .int a1, .int a2] M (f_X9_endOf a1 a2 M) := by
  refine Mx.of (cc := cX9_endOf) (maxL := 3) (ret := (some .int)) (own := RX9) (lv := [(0, .ref (ad (70))), (1, .int a1), (2, .int a2)]) (by decide) rfl rfl (Nat.le_of_ble_eq_true rfl) rfl hi ?_
  intro p e s m below meth c F hr hlk
  unfold f_X9_endOf
  refine g_iload_n (pc := 0) F 2 dX9_endOf_0 rfl ?_
  refine g_aload_n (pc := 1) F 0 dX9_endOf_1 rfl ?_
  refine g_get (pc := 2) (v := .ref (ad (72))) (k := 70) (ci := 9) (fs := (oX9 ad)) (C := RX9) (T := TX9) (N := 33) F (by decide) (fun _ => rfl) rfl kiX9_endOf_X9 3 (by decide) klX9_endOf_17 rfl rfl dX9_endOf_2 ?_
  refine g_iload_n (pc := 5) F 1 dX9_endOf_5 rfl ?_
  refine g_iald (pc := 6) (k := 72) (n := 4) F (by decide) (fun _ => rfl) dX9_endOf_6 ?_
  refine g_icmp_ge (pc := 7) F 14 dX9_endOf_7 (by decide) ?_ ?_
  · refine g_bipush (pc := 14) (v := 24) F dX9_endOf_14 (by decide) ?_
    exact g_iret (pc := 16) F hr hlk dX9_endOf_16
  · refine g_iload_n (pc := 10) F 2 dX9_endOf_10 rfl ?_
    refine g_goto (pc := 11) F 16 dX9_endOf_11 (by decide) ?_
    exact g_iret (pc := 16) F hr hlk dX9_endOf_16
-- X9_finds
def rmX9_finds : Room := { frames := 0, cells := 0, slots := 0, locals := 0 }
def f_X9_finds (a1 : Int32) (a2 : Int32) (M : Mem) : Option (Int32 × Mem) := if ix a1 51200 then if (M (88) a1.toNatClampNeg) = ((-1)) then if ix a2 51200 then if ix a1 51200 then wr M (88) a1.toNatClampNeg ((M (88) a2.toNatClampNeg) + (1 : Int32)) (fun M1 => if ix a1 51200 then wr M1 (87) a1.toNatClampNeg a2 (fun M2 => if ix (M2 (70) 26) 51200 then wr M2 (90) (M2 (70) 26).toNatClampNeg a1 (fun M3 => wr M3 (70) 26 ((M3 (70) 26) + (1 : Int32)) (fun M4 => some (0, M4))) else none) else none) else none else none else some (0, M) else none
set_option maxRecDepth 20000 in
theorem kiX9_finds_X9 : ∀ w ∈ u_ws RX9 TX9 33, w ∈ wsX9_finds := by decide +kernel
set_option maxRecDepth 20000 in
theorem klX9_finds_71 : Cond.fieldLink RX9 71 "DoorListerModel" "depth" "[I" ∈ wsX9_finds := by decide +kernel
set_option maxRecDepth 20000 in
theorem klX9_finds_68 : Cond.fieldLink RX9 68 "DoorListerModel" "parent" "[I" ∈ wsX9_finds := by decide +kernel
set_option maxRecDepth 20000 in
theorem klX9_finds_77 : Cond.fieldLink RX9 77 "DoorListerModel" "anew" "[I" ∈ wsX9_finds := by decide +kernel
set_option maxRecDepth 20000 in
theorem klX9_finds_106 : Cond.fieldLink RX9 106 "DoorListerModel" "anewMany" "I" ∈ wsX9_finds := by decide +kernel
set_option maxHeartbeats 4000000 in
set_option maxRecDepth 100000 in
theorem c_X9_finds (l : Launch) (D : va_G) (ad : Nat → Nat) (cs : Cs) (hi : Inj ad) (a1 : Int32) (a2 : Int32) (M : Mem) : MV l yX9_finds wsX9_finds rmX9_finds D ad cs [.ref (ad (70)), .int a1, .int a2] M (f_X9_finds a1 a2 M) := by
  refine Mx.of (cc := cX9_finds) (maxL := 3) (ret := none) (own := RX9) (lv := [(0, .ref (ad (70))), (1, .int a1), (2, .int a2)]) (by decide) rfl rfl (Nat.le_of_ble_eq_true rfl) rfl hi ?_
  intro p e s m below meth c F hr hlk
  unfold f_X9_finds
  refine g_aload_n (pc := 0) F 0 dX9_finds_0 rfl ?_
  refine g_get (pc := 1) (v := .ref (ad (88))) (k := 70) (ci := 9) (fs := (oX9 ad)) (C := RX9) (T := TX9) (N := 33) F (by decide) (fun _ => rfl) rfl kiX9_finds_X9 21 (by decide) klX9_finds_71 rfl rfl dX9_finds_1 ?_
  refine g_iload_n (pc := 4) F 1 dX9_finds_4 rfl ?_
  refine g_iald (pc := 5) (k := 88) (n := 51200) F (by decide) (fun _ => rfl) dX9_finds_5 ?_
  refine g_iconst (pc := 6) (v := (-1)) F dX9_finds_6 (by decide) ?_
  refine g_icmp_eq (pc := 7) F 11 dX9_finds_7 (by decide) ?_ ?_
  · refine g_aload_n (pc := 11) F 0 dX9_finds_11 rfl ?_
    refine g_get (pc := 12) (v := .ref (ad (88))) (k := 70) (ci := 9) (fs := (oX9 ad)) (C := RX9) (T := TX9) (N := 33) F (by decide) (fun _ => rfl) rfl kiX9_finds_X9 21 (by decide) klX9_finds_71 rfl rfl dX9_finds_12 ?_
    refine g_iload_n (pc := 15) F 1 dX9_finds_15 rfl ?_
    refine g_aload_n (pc := 16) F 0 dX9_finds_16 rfl ?_
    refine g_get (pc := 17) (v := .ref (ad (88))) (k := 70) (ci := 9) (fs := (oX9 ad)) (C := RX9) (T := TX9) (N := 33) F (by decide) (fun _ => rfl) rfl kiX9_finds_X9 21 (by decide) klX9_finds_71 rfl rfl dX9_finds_17 ?_
    refine g_iload_n (pc := 20) F 2 dX9_finds_20 rfl ?_
    refine g_iald (pc := 21) (k := 88) (n := 51200) F (by decide) (fun _ => rfl) dX9_finds_21 ?_
    refine g_iconst (pc := 22) (v := 1) F dX9_finds_22 (by decide) ?_
    refine g_iadd (pc := 23) F dX9_finds_23 ?_
    refine g_iast (pc := 24) (k := 88) (n := 51200) F (by decide) (fun _ => rfl) dX9_finds_24 (fun M1 => ?_)
    refine g_aload_n (pc := 25) F 0 dX9_finds_25 rfl ?_
    refine g_get (pc := 26) (v := .ref (ad (87))) (k := 70) (ci := 9) (fs := (oX9 ad)) (C := RX9) (T := TX9) (N := 33) F (by decide) (fun _ => rfl) rfl kiX9_finds_X9 20 (by decide) klX9_finds_68 rfl rfl dX9_finds_26 ?_
    refine g_iload_n (pc := 29) F 1 dX9_finds_29 rfl ?_
    refine g_iload_n (pc := 30) F 2 dX9_finds_30 rfl ?_
    refine g_iast (pc := 31) (k := 87) (n := 51200) F (by decide) (fun _ => rfl) dX9_finds_31 (fun M2 => ?_)
    refine g_aload_n (pc := 32) F 0 dX9_finds_32 rfl ?_
    refine g_get (pc := 33) (v := .ref (ad (90))) (k := 70) (ci := 9) (fs := (oX9 ad)) (C := RX9) (T := TX9) (N := 33) F (by decide) (fun _ => rfl) rfl kiX9_finds_X9 25 (by decide) klX9_finds_77 rfl rfl dX9_finds_33 ?_
    refine g_aload_n (pc := 36) F 0 dX9_finds_36 rfl ?_
    refine g_get (pc := 37) (v := .int (M2 (70) 26)) (k := 70) (ci := 9) (fs := (oX9 ad)) (C := RX9) (T := TX9) (N := 33) F (by decide) (fun _ => rfl) rfl kiX9_finds_X9 26 (by decide) klX9_finds_106 rfl rfl dX9_finds_37 ?_
    refine g_iload_n (pc := 40) F 1 dX9_finds_40 rfl ?_
    refine g_iast (pc := 41) (k := 90) (n := 51200) F (by decide) (fun _ => rfl) dX9_finds_41 (fun M3 => ?_)
    refine g_aload_n (pc := 42) F 0 dX9_finds_42 rfl ?_
    refine g_dup (pc := 43) F rfl dX9_finds_43 ?_
    refine g_get (pc := 44) (v := .int (M3 (70) 26)) (k := 70) (ci := 9) (fs := (oX9 ad)) (C := RX9) (T := TX9) (N := 33) F (by decide) (fun _ => rfl) rfl kiX9_finds_X9 26 (by decide) klX9_finds_106 rfl rfl dX9_finds_44 ?_
    refine g_iconst (pc := 47) (v := 1) F dX9_finds_47 (by decide) ?_
    refine g_iadd (pc := 48) F dX9_finds_48 ?_
    refine g_put (pc := 49) (k := 70) (ci := 9) (fs := (oX9 ad)) (C := RX9) (T := TX9) (N := 33) F (by decide) (fun _ => rfl) rfl kiX9_finds_X9 tyX9 tyX9_ok nmX9 26 (by decide) klX9_finds_106 rfl rfl rfl rfl (fun _ => rfl) (Nat.le_of_ble_eq_true rfl) dX9_finds_49 (fun M4 => ?_)
    exact g_vret (pc := 52) F hr hlk dX9_finds_52
  · exact g_vret (pc := 10) F hr hlk dX9_finds_10
-- X9_with
def rmX9_with : Room := { frames := 1, cells := 0, slots := 0, locals := 23 }
def f_X9_with (a0 : Int32) (a1 : Int32) (a2 : Int32) (a3 : Int32) (a4 : Int32) (a5 : Int32) (M : Mem) : Option (Int32 × Mem) := if a4 = 0 then bnd (f_X9_stateOf a3 a0 a5 a2 M) (fun r3 M4 => some (r3, M4)) else bnd (f_X9_stateOf a3 a0 a1 a5 M) (fun r1 M2 => some (r1, M2))
set_option maxHeartbeats 4000000 in
set_option maxRecDepth 100000 in
theorem c_X9_with (l : Launch) (D : va_G) (ad : Nat → Nat) (cs : Cs) (hi : Inj ad) (a0 : Int32) (a1 : Int32) (a2 : Int32) (a3 : Int32) (a4 : Int32) (a5 : Int32) (M : Mem) : MI l yX9_with wsX9_with rmX9_with D ad cs [.int a0, .int a1, .int a2, .int a3, .int a4, .int a5] M (f_X9_with a0 a1 a2 a3 a4 a5 M) := by
  refine Mx.of (cc := cX9_with) (maxL := 6) (ret := (some .int)) (own := RX9) (lv := [(0, .int a0), (1, .int a1), (2, .int a2), (3, .int a3), (4, .int a4), (5, .int a5)]) (by decide) rfl rfl (Nat.le_of_ble_eq_true rfl) rfl hi ?_
  intro p e s m below meth c F hr hlk
  unfold f_X9_with
  refine g_iload (pc := 0) F 4 dX9_with_0 rfl ?_
  refine g_if_ne (pc := 2) F 16 dX9_with_2 (by decide) ?_ ?_
  · refine g_iload_n (pc := 16) F 3 dX9_with_16 rfl ?_
    refine g_iload_n (pc := 17) F 0 dX9_with_17 rfl ?_
    refine g_iload_n (pc := 18) F 1 dX9_with_18 rfl ?_
    refine g_iload (pc := 19) F 5 dX9_with_19 rfl ?_
    refine g_si (pc := 21) (As := [.int a3, .int a0, .int a1, .int a5]) (st := []) F (c_X9_stateOf l D ad cs F.2.2.1 a3 a0 a1 a5 M) (va_cwS 4 F.1.2.2.2.2 gX9_with_X9_stateOf rfl rfl rfl hdS_X9_stateOf ⟨by decide, by decide⟩) rfl rfl (Nat.le_of_ble_eq_true rfl) dX9_with_21 ⟨Nat.zero_le _, Nat.zero_le _⟩ (fun r1 M2 => ?_)
    exact g_iret (pc := 24) F hr hlk dX9_with_24
  · refine g_iload_n (pc := 5) F 3 dX9_with_5 rfl ?_
    refine g_iload_n (pc := 6) F 0 dX9_with_6 rfl ?_
    refine g_iload (pc := 7) F 5 dX9_with_7 rfl ?_
    refine g_iload_n (pc := 9) F 2 dX9_with_9 rfl ?_
    refine g_si (pc := 10) (As := [.int a3, .int a0, .int a5, .int a2]) (st := []) F (c_X9_stateOf l D ad cs F.2.2.1 a3 a0 a5 a2 M) (va_cwS 4 F.1.2.2.2.2 gX9_with_X9_stateOf rfl rfl rfl hdS_X9_stateOf ⟨by decide, by decide⟩) rfl rfl (Nat.le_of_ble_eq_true rfl) dX9_with_10 ⟨Nat.zero_le _, Nat.zero_le _⟩ (fun r3 M4 => ?_)
    refine g_goto (pc := 13) F 24 dX9_with_13 (by decide) ?_
    exact g_iret (pc := 24) F hr hlk dX9_with_24
