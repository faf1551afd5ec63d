/-! Written by wip/whole/gen.py: pure functions of methods, and the walks that tie the bytecode to them. -/
-- X1_become
def rmX1_become : Room := { frames := 1, cells := 0, slots := 0, locals := 25 }
def f_X1_become_L10 (q0 : Nat) (q1 : Nat) (k : Mem → Int32 → Option (Int32 × Mem)) : Nat → Mem → Int32 → Option (Int32 × Mem)
  | 0, _, _ => none
  | n + 1, M, x2 => if (M (13 * q0 + 3) 4) ≤ x2 then k M x2 else if ix x2 24 then if ix x2 24 then if ix x2 24 then if ix x2 24 then bnd (f_X1_put q0 x2 (M (13 * q1 + 4) x2.toNatClampNeg) (M (13 * q1 + 5) x2.toNatClampNeg) (M (13 * q1 + 6) x2.toNatClampNeg) (M (13 * q1 + 7) x2.toNatClampNeg) M) (fun r2 M3 => f_X1_become_L10 q0 q1 k n M3 (x2 + 1)) else none else none else none else none
def f_X1_become (fu : Nat) (pp : Nat) (p1 : Nat) (M : Mem) : Option (Int32 × Mem) := wr M (13 * pp + 3) 4 (M (13 * p1 + 3) 4) (fun M1 => f_X1_become_L10 pp p1 (fun M4 y5 => some (0, M4)) fu M1 0)
set_option maxRecDepth 20000 in
theorem kiX1_become_X1 : ∀ w ∈ u_ws RX1 TX1 5, w ∈ wsX1_become := by decide +kernel
set_option maxRecDepth 20000 in
theorem klX1_become_24 : Cond.fieldLink RX1 24 "DoorLister$Code" "length" "I" ∈ wsX1_become := by decide +kernel
set_option maxRecDepth 20000 in
theorem klX1_become_9 : Cond.fieldLink RX1 9 "DoorLister$Code" "kinds" "[I" ∈ wsX1_become := by decide +kernel
set_option maxRecDepth 20000 in
theorem klX1_become_15 : Cond.fieldLink RX1 15 "DoorLister$Code" "xs" "[I" ∈ wsX1_become := by decide +kernel
set_option maxRecDepth 20000 in
theorem klX1_become_18 : Cond.fieldLink RX1 18 "DoorLister$Code" "ns" "[I" ∈ wsX1_become := by decide +kernel
set_option maxRecDepth 20000 in
theorem klX1_become_21 : Cond.fieldLink RX1 21 "DoorLister$Code" "tos" "[I" ∈ wsX1_become := by decide +kernel
set_option maxHeartbeats 4000000 in
set_option maxRecDepth 100000 in
theorem w_X1_become_L10 {p : Program} {l : Launch} {e : Env} {s : State} {m : MethodId} {args : Array Value} {below : List Frame} {meth : Method} {c : Code} {D : va_G} {ad : Nat → Nat} {cs : Cs}  (q0 : Nat) (q1 : Nat) (hq0 : q0 < 4) (hq1 : q1 < 4) (F : Fx p m c cX1_become 3 s args wsX1_become RX1 D ad cs (Ad ad)) (hr : meth.sig.returnType = none) (hlk : meth.locks = false) (k : Mem → Int32 → Option (Int32 × Mem)) (hkx : ∀ (M : Mem) (x2 : Int32), GoX p l e rmX1_become s m args below meth c 0 0 3 (fun rM => MQ below (cQv D ad cs rM) args s 0 0 (Ad ad)) D ad cs (Ad ad) M 53 [(0, .ref (ad (13 * q0 + 3))), (1, .ref (ad (13 * q1 + 3))), (2, .int x2)] [] (k M x2)) : ∀ (n : Nat) (M : Mem) (x2 : Int32), GoX p l e rmX1_become s m args below meth c 0 0 3 (fun rM => MQ below (cQv D ad cs rM) args s 0 0 (Ad ad)) D ad cs (Ad ad) M 10 [(0, .ref (ad (13 * q0 + 3))), (1, .ref (ad (13 * q1 + 3))), (2, .int x2)] [] (f_X1_become_L10 q0 q1 k n M x2) := by
  intro n
  induction n with
  | zero => intro M x2; exact g_none
  | succ n ih =>
    intro M x2
    unfold f_X1_become_L10
    refine g_iload_n (pc := 10) F 2 dX1_become_10 rfl ?_
    refine g_aload_n (pc := 11) F 0 dX1_become_11 rfl ?_
    refine g_get (pc := 12) (v := .int (M (13 * q0 + 3) 4)) (k := 13 * q0 + 3) (ci := 1) (fs := (oX1 ad (q0))) (C := RX1) (T := TX1) (N := 5) F (P_lt hq0 (by decide)) (sh_X1 hq0) rfl kiX1_become_X1 4 (by decide) klX1_become_24 rfl rfl dX1_become_12 ?_
    refine g_icmp_ge (pc := 15) F 53 dX1_become_15 (by decide) ?_ ?_
    · exact hkx _ _
    · refine g_aload_n (pc := 18) F 0 dX1_become_18 rfl ?_
      refine g_iload_n (pc := 19) F 2 dX1_become_19 rfl ?_
      refine g_aload_n (pc := 20) F 1 dX1_become_20 rfl ?_
      refine g_get (pc := 21) (v := .ref (ad (13 * q1 + 4))) (k := 13 * q1 + 3) (ci := 1) (fs := (oX1 ad (q1))) (C := RX1) (T := TX1) (N := 5) F (P_lt hq1 (by decide)) (sh_X1 hq1) rfl kiX1_become_X1 0 (by decide) klX1_become_9 rfl rfl dX1_become_21 ?_
      refine g_iload_n (pc := 24) F 2 dX1_become_24 rfl ?_
      refine g_iald (pc := 25) (k := 13 * q1 + 4) (n := 24) F (P_lt hq1 (by decide)) (sh_a4 hq1) dX1_become_25 ?_
      refine g_aload_n (pc := 26) F 1 dX1_become_26 rfl ?_
      refine g_get (pc := 27) (v := .ref (ad (13 * q1 + 5))) (k := 13 * q1 + 3) (ci := 1) (fs := (oX1 ad (q1))) (C := RX1) (T := TX1) (N := 5) F (P_lt hq1 (by decide)) (sh_X1 hq1) rfl kiX1_become_X1 1 (by decide) klX1_become_15 rfl rfl dX1_become_27 ?_
      refine g_iload_n (pc := 30) F 2 dX1_become_30 rfl ?_
      refine g_iald (pc := 31) (k := 13 * q1 + 5) (n := 24) F (P_lt hq1 (by decide)) (sh_a5 hq1) dX1_become_31 ?_
      refine g_aload_n (pc := 32) F 1 dX1_become_32 rfl ?_
      refine g_get (pc := 33) (v := .ref (ad (13 * q1 + 6))) (k := 13 * q1 + 3) (ci := 1) (fs := (oX1 ad (q1))) (C := RX1) (T := TX1) (N := 5) F (P_lt hq1 (by decide)) (sh_X1 hq1) rfl kiX1_become_X1 2 (by decide) klX1_become_18 rfl rfl dX1_become_33 ?_
      refine g_iload_n (pc := 36) F 2 dX1_become_36 rfl ?_
      refine g_iald (pc := 37) (k := 13 * q1 + 6) (n := 24) F (P_lt hq1 (by decide)) (sh_a6 hq1) dX1_become_37 ?_
      refine g_aload_n (pc := 38) F 1 dX1_become_38 rfl ?_
      refine g_get (pc := 39) (v := .ref (ad (13 * q1 + 7))) (k := 13 * q1 + 3) (ci := 1) (fs := (oX1 ad (q1))) (C := RX1) (T := TX1) (N := 5) F (P_lt hq1 (by decide)) (sh_X1 hq1) rfl kiX1_become_X1 3 (by decide) klX1_become_21 rfl rfl dX1_become_39 ?_
      refine g_iload_n (pc := 42) F 2 dX1_become_42 rfl ?_
      refine g_iald (pc := 43) (k := 13 * q1 + 7) (n := 24) F (P_lt hq1 (by decide)) (sh_a7 hq1) dX1_become_43 ?_
      refine g_vv (pc := 44) (k := 13 * q0 + 3) (ci := 1) (fs := (oX1 ad (q0))) (C := RX1) (T := TX1) (N := 5) (As := [.int x2, .int (M (13 * q1 + 4) x2.toNatClampNeg), .int (M (13 * q1 + 5) x2.toNatClampNeg), .int (M (13 * q1 + 6) x2.toNatClampNeg), .int (M (13 * q1 + 7) x2.toNatClampNeg)]) (st := []) F (c_X1_put l D ad cs F.2.2.1 q0 x2 (M (13 * q1 + 4) x2.toNatClampNeg) (M (13 * q1 + 5) x2.toNatClampNeg) (M (13 * q1 + 6) x2.toNatClampNeg) (M (13 * q1 + 7) x2.toNatClampNeg) hq0 M) (P_lt hq0 (by decide)) (sh_X1 hq0) rfl (cwV 5 F.1.2.2.2.2 gX1_become_X1_put rfl rfl rfl hdV_X1_put ⟨by decide, by decide⟩) rfl rfl (Nat.le_of_ble_eq_true rfl) dX1_become_44 ⟨Nat.zero_le _, Nat.zero_le _⟩ (fun r2 M3 => ?_)
      refine g_iinc (pc := 47) (v := x2 + 1) F [(0, .ref (ad (13 * q0 + 3))), (1, .ref (ad (13 * q1 + 3))), (2, .int (x2 + 1))] 2 dX1_become_47 rfl rfl (by decide) rfl rfl rfl ?_
      refine g_goto (pc := 50) F 10 dX1_become_50 (by decide) ?_
      exact ih _ _
set_option maxHeartbeats 4000000 in
set_option maxRecDepth 100000 in
theorem c_X1_become (l : Launch) (D : va_G) (ad : Nat → Nat) (cs : Cs) (hi : Inj ad) (fu : Nat) (pp : Nat) (p1 : Nat) (hpp : pp < 4) (h1 : p1 < 4) (M : Mem) : MV l yX1_become wsX1_become rmX1_become D ad cs [.ref (ad (13 * pp + 3)), .ref (ad (13 * p1 + 3))] M (f_X1_become fu pp p1 M) := by
  refine Mx.of (cc := cX1_become) (maxL := 3) (ret := none) (own := RX1) (lv := [(0, .ref (ad (13 * pp + 3))), (1, .ref (ad (13 * p1 + 3)))]) (by decide) rfl rfl (Nat.le_of_ble_eq_true rfl) rfl hi ?_
  intro p e s m below meth c F hr hlk
  unfold f_X1_become
  refine g_aload_n (pc := 0) F 0 dX1_become_0 rfl ?_
  refine g_aload_n (pc := 1) F 1 dX1_become_1 rfl ?_
  refine g_get (pc := 2) (v := .int (M (13 * p1 + 3) 4)) (k := 13 * p1 + 3) (ci := 1) (fs := (oX1 ad (p1))) (C := RX1) (T := TX1) (N := 5) F (P_lt h1 (by decide)) (sh_X1 h1) rfl kiX1_become_X1 4 (by decide) klX1_become_24 rfl rfl dX1_become_2 ?_
  refine g_put (pc := 5) (k := 13 * pp + 3) (ci := 1) (fs := (oX1 ad (pp))) (C := RX1) (T := TX1) (N := 5) F (P_lt hpp (by decide)) (sh_X1 hpp) rfl kiX1_become_X1 tyX1 tyX1_ok nmX1 4 (by decide) klX1_become_24 rfl rfl rfl rfl (fun _ => rfl) (Nat.le_of_ble_eq_true rfl) dX1_become_5 (fun M1 => ?_)
  refine g_iconst (pc := 8) (v := 0) F dX1_become_8 (by decide) ?_
  refine g_istore_n (pc := 9) F [(0, .ref (ad (13 * pp + 3))), (1, .ref (ad (13 * p1 + 3))), (2, .int 0)] dX1_become_9 (by decide) rfl rfl rfl ?_
  refine w_X1_become_L10 pp p1 hpp h1 F hr hlk _ (fun M4 y5 => ?_) _ _ _
  exact g_vret (pc := 53) F hr hlk dX1_become_53
-- X2_size
def rmX2_size : Room := { frames := 0, cells := 0, slots := 0, locals := 0 }
def f_X2_size  (M : Mem) : Option (Int32 × Mem) := some (M (62) 5, M)
set_option maxRecDepth 20000 in
theorem kiX2_size_X2 : ∀ w ∈ u_ws RX2 TX2 6, w ∈ wsX2_size := by decide +kernel
set_option maxRecDepth 20000 in
theorem klX2_size_27 : Cond.fieldLink RX2 27 "DoorLister$House" "size" "I" ∈ wsX2_size := by decide +kernel
set_option maxHeartbeats 4000000 in
set_option maxRecDepth 100000 in
theorem c_X2_size (l : Launch) (D : va_G) (ad : Nat → Nat) (cs : Cs) (hi : Inj ad)  (M : Mem) : MI l yX2_size wsX2_size rmX2_size D ad cs [.ref (ad (62))] M (f_X2_size M) := by
  refine Mx.of (cc := cX2_size) (maxL := 1) (ret := (some .int)) (own := RX2) (lv := [(0, .ref (ad (62)))]) (by decide) rfl rfl (Nat.le_of_ble_eq_true rfl) rfl hi ?_
  intro p e s m below meth c F hr hlk
  unfold f_X2_size
  refine g_aload_n (pc := 0) F 0 dX2_size_0 rfl ?_
  refine g_get (pc := 1) (v := .int (M (62) 5)) (k := 62) (ci := 2) (fs := (oX2 ad)) (C := RX2) (T := TX2) (N := 6) F (by decide) (fun _ => rfl) rfl kiX2_size_X2 5 (by decide) klX2_size_27 rfl rfl dX2_size_1 ?_
  exact g_iret (pc := 4) F hr hlk dX2_size_4
-- X2_append
def rmX2_append : Room := { frames := 0, cells := 0, slots := 0, locals := 0 }
def f_X2_append (a1 : Int32) (a2 : Int32) (a3 : Int32) (a4 : Int32) (M : Mem) : Option (Int32 × Mem) := if (M (62) 5) < 10 then if ix (M (62) 5) 10 then wr M (63) (M (62) 5).toNatClampNeg a1 (fun M1 => if ix (M1 (62) 5) 10 then wr M1 (64) (M1 (62) 5).toNatClampNeg a2 (fun M2 => if ix (M2 (62) 5) 10 then wr M2 (65) (M2 (62) 5).toNatClampNeg a3 (fun M3 => if ix (M3 (62) 5) 10 then wr M3 (66) (M3 (62) 5).toNatClampNeg a4 (fun M4 => wr M4 (62) 5 ((M4 (62) 5) + (1 : Int32)) (fun M5 => some ((M5 (62) 5) - (1 : Int32), M5))) else none) else none) else none) else none else some ((-1), M)
set_option maxRecDepth 20000 in
theorem kiX2_append_X2 : ∀ w ∈ u_ws RX2 TX2 6, w ∈ wsX2_append := by decide +kernel
set_option maxRecDepth 20000 in
theorem klX2_append_27 : Cond.fieldLink RX2 27 "DoorLister$House" "size" "I" ∈ wsX2_append := by decide +kernel
set_option maxRecDepth 20000 in
theorem klX2_append_9 : Cond.fieldLink RX2 9 "DoorLister$House" "doors" "[I" ∈ wsX2_append := by decide +kernel
set_option maxRecDepth 20000 in
theorem klX2_append_15 : Cond.fieldLink RX2 15 "DoorLister$House" "arguments" "[I" ∈ wsX2_append := by decide +kernel
set_option maxRecDepth 20000 in
theorem klX2_append_18 : Cond.fieldLink RX2 18 "DoorLister$House" "takes" "[I" ∈ wsX2_append := by decide +kernel
set_option maxRecDepth 20000 in
theorem klX2_append_21 : Cond.fieldLink RX2 21 "DoorLister$House" "gives" "[I" ∈ wsX2_append := by decide +kernel
set_option maxHeartbeats 4000000 in
set_option maxRecDepth 100000 in
theorem c_X2_append (l : Launch) (D : va_G) (ad : Nat → Nat) (cs : Cs) (hi : Inj ad) (a1 : Int32) (a2 : Int32) (a3 : Int32) (a4 : Int32) (M : Mem) : MI l yX2_append wsX2_append rmX2_append D ad cs [.ref (ad (62)), .int a1, .int a2, .int a3, .int a4] M (f_X2_append a1 a2 a3 a4 M) := by
  refine Mx.of (cc := cX2_append) (maxL := 5) (ret := (some .int)) (own := RX2) (lv := [(0, .ref (ad (62))), (1, .int a1), (2, .int a2), (3, .int a3), (4, .int a4)]) (by decide) rfl rfl (Nat.le_of_ble_eq_true rfl) rfl hi ?_
  intro p e s m below meth c F hr hlk
  unfold f_X2_append
  refine g_aload_n (pc := 0) F 0 dX2_append_0 rfl ?_
  refine g_get (pc := 1) (v := .int (M (62) 5)) (k := 62) (ci := 2) (fs := (oX2 ad)) (C := RX2) (T := TX2) (N := 6) F (by decide) (fun _ => rfl) rfl kiX2_append_X2 5 (by decide) klX2_append_27 rfl rfl dX2_append_1 ?_
  refine g_bipush (pc := 4) (v := 10) F dX2_append_4 (by decide) ?_
  refine g_icmp_lt (pc := 6) F 11 dX2_append_6 (by decide) ?_ ?_
  · refine g_aload_n (pc := 11) F 0 dX2_append_11 rfl ?_
    refine g_get (pc := 12) (v := .ref (ad (63))) (k := 62) (ci := 2) (fs := (oX2 ad)) (C := RX2) (T := TX2) (N := 6) F (by decide) (fun _ => rfl) rfl kiX2_append_X2 0 (by decide) klX2_append_9 rfl rfl dX2_append_12 ?_
    refine g_aload_n (pc := 15) F 0 dX2_append_15 rfl ?_
    refine g_get (pc := 16) (v := .int (M (62) 5)) (k := 62) (ci := 2) (fs := (oX2 ad)) (C := RX2) (T := TX2) (N := 6) F (by decide) (fun _ => rfl) rfl kiX2_append_X2 5 (by decide) klX2_append_27 rfl rfl dX2_append_16 ?_
    refine g_iload_n (pc := 19) F 1 dX2_append_19 rfl ?_
    refine g_iast (pc := 20) (k := 63) (n := 10) F (by decide) (fun _ => rfl) dX2_append_20 (fun M1 => ?_)
    refine g_aload_n (pc := 21) F 0 dX2_append_21 rfl ?_
    refine g_get (pc := 22) (v := .ref (ad (64))) (k := 62) (ci := 2) (fs := (oX2 ad)) (C := RX2) (T := TX2) (N := 6) F (by decide) (fun _ => rfl) rfl kiX2_append_X2 1 (by decide) klX2_append_15 rfl rfl dX2_append_22 ?_
    refine g_aload_n (pc := 25) F 0 dX2_append_25 rfl ?_
    refine g_get (pc := 26) (v := .int (M1 (62) 5)) (k := 62) (ci := 2) (fs := (oX2 ad)) (C := RX2) (T := TX2) (N := 6) F (by decide) (fun _ => rfl) rfl kiX2_append_X2 5 (by decide) klX2_append_27 rfl rfl dX2_append_26 ?_
    refine g_iload_n (pc := 29) F 2 dX2_append_29 rfl ?_
    refine g_iast (pc := 30) (k := 64) (n := 10) F (by decide) (fun _ => rfl) dX2_append_30 (fun M2 => ?_)
    refine g_aload_n (pc := 31) F 0 dX2_append_31 rfl ?_
    refine g_get (pc := 32) (v := .ref (ad (65))) (k := 62) (ci := 2) (fs := (oX2 ad)) (C := RX2) (T := TX2) (N := 6) F (by decide) (fun _ => rfl) rfl kiX2_append_X2 2 (by decide) klX2_append_18 rfl rfl dX2_append_32 ?_
    refine g_aload_n (pc := 35) F 0 dX2_append_35 rfl ?_
    refine g_get (pc := 36) (v := .int (M2 (62) 5)) (k := 62) (ci := 2) (fs := (oX2 ad)) (C := RX2) (T := TX2) (N := 6) F (by decide) (fun _ => rfl) rfl kiX2_append_X2 5 (by decide) klX2_append_27 rfl rfl dX2_append_36 ?_
    refine g_iload_n (pc := 39) F 3 dX2_append_39 rfl ?_
    refine g_iast (pc := 40) (k := 65) (n := 10) F (by decide) (fun _ => rfl) dX2_append_40 (fun M3 => ?_)
    refine g_aload_n (pc := 41) F 0 dX2_append_41 rfl ?_
    refine g_get (pc := 42) (v := .ref (ad (66))) (k := 62) (ci := 2) (fs := (oX2 ad)) (C := RX2) (T := TX2) (N := 6) F (by decide) (fun _ => rfl) rfl kiX2_append_X2 3 (by decide) klX2_append_21 rfl rfl dX2_append_42 ?_
    refine g_aload_n (pc := 45) F 0 dX2_append_45 rfl ?_
    refine g_get (pc := 46) (v := .int (M3 (62) 5)) (k := 62) (ci := 2) (fs := (oX2 ad)) (C := RX2) (T := TX2) (N := 6) F (by decide) (fun _ => rfl) rfl kiX2_append_X2 5 (by decide) klX2_append_27 rfl rfl dX2_append_46 ?_
    refine g_iload (pc := 49) F 4 dX2_append_49 rfl ?_
    refine g_iast (pc := 51) (k := 66) (n := 10) F (by decide) (fun _ => rfl) dX2_append_51 (fun M4 => ?_)
    refine g_aload_n (pc := 52) F 0 dX2_append_52 rfl ?_
    refine g_dup (pc := 53) F rfl dX2_append_53 ?_
    refine g_get (pc := 54) (v := .int (M4 (62) 5)) (k := 62) (ci := 2) (fs := (oX2 ad)) (C := RX2) (T := TX2) (N := 6) F (by decide) (fun _ => rfl) rfl kiX2_append_X2 5 (by decide) klX2_append_27 rfl rfl dX2_append_54 ?_
    refine g_iconst (pc := 57) (v := 1) F dX2_append_57 (by decide) ?_
    refine g_iadd (pc := 58) F dX2_append_58 ?_
    refine g_put (pc := 59) (k := 62) (ci := 2) (fs := (oX2 ad)) (C := RX2) (T := TX2) (N := 6) F (by decide) (fun _ => rfl) rfl kiX2_append_X2 tyX2 tyX2_ok nmX2 5 (by decide) klX2_append_27 rfl rfl rfl rfl (fun _ => rfl) (Nat.le_of_ble_eq_true rfl) dX2_append_59 (fun M5 => ?_)
    refine g_aload_n (pc := 62) F 0 dX2_append_62 rfl ?_
    refine g_get (pc := 63) (v := .int (M5 (62) 5)) (k := 62) (ci := 2) (fs := (oX2 ad)) (C := RX2) (T := TX2) (N := 6) F (by decide) (fun _ => rfl) rfl kiX2_append_X2 5 (by decide) klX2_append_27 rfl rfl dX2_append_63 ?_
    refine g_iconst (pc := 66) (v := 1) F dX2_append_66 (by decide) ?_
    refine g_isub (pc := 67) F dX2_append_67 ?_
    exact g_iret (pc := 68) F hr hlk dX2_append_68
  · refine g_iconst (pc := 9) (v := (-1)) F dX2_append_9 (by decide) ?_
    exact g_iret (pc := 10) F hr hlk dX2_append_10
-- X2_callsOf
def rmX2_callsOf : Room := { frames := 0, cells := 0, slots := 0, locals := 0 }
def f_X2_callsOf (a1 : Int32) (k2 : Nat) (M : Mem) : Option (Int32 × Mem) := if ix a1 10 then nm (M (63) a1.toNatClampNeg) (fun v1 => if ix v1 32 then if ix a1 10 then some ((M (k2) v1.toNatClampNeg) &&& (M (64) a1.toNatClampNeg), M) else none else none) else none
set_option maxRecDepth 20000 in
theorem kiX2_callsOf_X2 : ∀ w ∈ u_ws RX2 TX2 6, w ∈ wsX2_callsOf := by decide +kernel
set_option maxRecDepth 20000 in
theorem klX2_callsOf_9 : Cond.fieldLink RX2 9 "DoorLister$House" "doors" "[I" ∈ wsX2_callsOf := by decide +kernel
set_option maxRecDepth 20000 in
theorem klX2_callsOf_15 : Cond.fieldLink RX2 15 "DoorLister$House" "arguments" "[I" ∈ wsX2_callsOf := by decide +kernel
set_option maxHeartbeats 4000000 in
set_option maxRecDepth 100000 in
theorem c_X2_callsOf (l : Launch) (D : va_G) (ad : Nat → Nat) (cs : Cs) (hi : Inj ad) (a1 : Int32) (k2 : Nat) (h2 : Row k2) (M : Mem) : MI l yX2_callsOf wsX2_callsOf rmX2_callsOf D ad cs [.ref (ad (62)), .int a1, .ref (ad (k2))] M (f_X2_callsOf a1 k2 M) := by
  refine Mx.of (cc := cX2_callsOf) (maxL := 3) (ret := (some .int)) (own := RX2) (lv := [(0, .ref (ad (62))), (1, .int a1), (2, .ref (ad (k2)))]) (by decide) rfl rfl (Nat.le_of_ble_eq_true rfl) rfl hi ?_
  intro p e s m below meth c F hr hlk
  unfold f_X2_callsOf
  refine g_aload_n (pc := 0) F 2 dX2_callsOf_0 rfl ?_
  refine g_aload_n (pc := 1) F 0 dX2_callsOf_1 rfl ?_
  refine g_get (pc := 2) (v := .ref (ad (63))) (k := 62) (ci := 2) (fs := (oX2 ad)) (C := RX2) (T := TX2) (N := 6) F (by decide) (fun _ => rfl) rfl kiX2_callsOf_X2 0 (by decide) klX2_callsOf_9 rfl rfl dX2_callsOf_2 ?_
  refine g_iload_n (pc := 5) F 1 dX2_callsOf_5 rfl ?_
  refine g_iald (pc := 6) (k := 63) (n := 10) F (by decide) (fun _ => rfl) dX2_callsOf_6 ?_
  refine g_nm (fun v1 => ?_)
  refine g_iald (pc := 7) (k := k2) (n := 32) F (row_lt h2) (sh_row h2) dX2_callsOf_7 ?_
  refine g_aload_n (pc := 8) F 0 dX2_callsOf_8 rfl ?_
  refine g_get (pc := 9) (v := .ref (ad (64))) (k := 62) (ci := 2) (fs := (oX2 ad)) (C := RX2) (T := TX2) (N := 6) F (by decide) (fun _ => rfl) rfl kiX2_callsOf_X2 1 (by decide) klX2_callsOf_15 rfl rfl dX2_callsOf_9 ?_
  refine g_iload_n (pc := 12) F 1 dX2_callsOf_12 rfl ?_
  refine g_iald (pc := 13) (k := 64) (n := 10) F (by decide) (fun _ => rfl) dX2_callsOf_13 ?_
  refine g_iand (pc := 14) F dX2_callsOf_14 ?_
  exact g_iret (pc := 15) F hr hlk dX2_callsOf_15
-- X2_powersBy
def rmX2_powersBy : Room := { frames := 1, cells := 0, slots := 0, locals := 22 }
def f_X2_powersBy_L18 (q1 : Nat) (x3 : Int32) (x4 : Int32) (k : Mem → Int32 → Int32 → Option (Int32 × Mem)) : Nat → Mem → Int32 → Int32 → Option (Int32 × Mem)
  | 0, _, _, _ => none
  | n + 1, M, x2, x5 => if (M (62) 5) ≤ x5 then k M x2 x5 else bnd (f_X2_callsOf x5 q1 M) (fun r1 M2 => if r1 = 0 then f_X2_powersBy_L18 q1 x3 x4 k n M2 x2 (x5 + 1) else if ix x5 10 then if ((M2 (65) x5.toNatClampNeg) &&& (x2 ^^^ (-1 : Int32))) = 0 then if ix x5 10 then nm (x2 ||| (M2 (66) x5.toNatClampNeg)) (fun v3 => f_X2_powersBy_L18 q1 x3 x4 k n M2 v3 (x5 + 1)) else none else f_X2_powersBy_L18 q1 x3 x4 k n M2 x2 (x5 + 1) else none)
def f_X2_powersBy_L4 (fu : Nat) (q1 : Nat) (k : Mem → Int32 → Int32 → Option (Int32 × Mem)) : Nat → Mem → Int32 → Int32 → Option (Int32 × Mem)
  | 0, _, _, _ => none
  | n + 1, M, x2, x3 => if (M (62) 5) ≤ x3 then k M x2 x3 else f_X2_powersBy_L18 q1 x3 x2 (fun M4 y5 y6 => if y5 = x2 then some (y5, M4) else f_X2_powersBy_L4 fu q1 k n M4 y5 (x3 + 1)) fu M x2 0
def f_X2_powersBy (fu : Nat) (k1 : Nat) (M : Mem) : Option (Int32 × Mem) := f_X2_powersBy_L4 fu k1 (fun M7 y8 y9 => some (y8, M7)) fu M 0 0
set_option maxRecDepth 20000 in
theorem kiX2_powersBy_X2 : ∀ w ∈ u_ws RX2 TX2 6, w ∈ wsX2_powersBy := by decide +kernel
set_option maxRecDepth 20000 in
theorem klX2_powersBy_27 : Cond.fieldLink RX2 27 "DoorLister$House" "size" "I" ∈ wsX2_powersBy := by decide +kernel
set_option maxRecDepth 20000 in
theorem klX2_powersBy_18 : Cond.fieldLink RX2 18 "DoorLister$House" "takes" "[I" ∈ wsX2_powersBy := by decide +kernel
set_option maxRecDepth 20000 in
theorem klX2_powersBy_21 : Cond.fieldLink RX2 21 "DoorLister$House" "gives" "[I" ∈ wsX2_powersBy := by decide +kernel
set_option maxHeartbeats 4000000 in
set_option maxRecDepth 100000 in
theorem w_X2_powersBy_L18 {p : Program} {l : Launch} {e : Env} {s : State} {m : MethodId} {args : Array Value} {below : List Frame} {meth : Method} {c : Code} {D : va_G} {ad : Nat → Nat} {cs : Cs}  (q1 : Nat) (x3 : Int32) (x4 : Int32) (hq1 : Row q1) (F : Fx p m c cX2_powersBy 6 s args wsX2_powersBy RX2 D ad cs (Ad ad)) (hr : meth.sig.returnType = (some .int)) (hlk : meth.locks = false) (k : Mem → Int32 → Int32 → Option (Int32 × Mem)) (hkx : ∀ (M : Mem) (x2 x5 : Int32), GoX p l e rmX2_powersBy s m args below meth c 0 0 6 (fun rM => MQ below (cQi D ad cs rM) args s 0 0 (Ad ad)) D ad cs (Ad ad) M 67 [(0, .ref (ad (62))), (1, .ref (ad (q1))), (2, .int x2), (3, .int x3), (4, .int x4), (5, .int x5)] [] (k M x2 x5)) : ∀ (n : Nat) (M : Mem) (x2 x5 : Int32), GoX p l e rmX2_powersBy s m args below meth c 0 0 6 (fun rM => MQ below (cQi D ad cs rM) args s 0 0 (Ad ad)) D ad cs (Ad ad) M 18 [(0, .ref (ad (62))), (1, .ref (ad (q1))), (2, .int x2), (3, .int x3), (4, .int x4), (5, .int x5)] [] (f_X2_powersBy_L18 q1 x3 x4 k n M x2 x5) := by
  intro n
  induction n with
  | zero => intro M x2 x5; exact g_none
  | succ n ih =>
    intro M x2 x5
    unfold f_X2_powersBy_L18
    refine g_iload (pc := 18) F 5 dX2_powersBy_18 rfl ?_
    refine g_aload_n (pc := 20) F 0 dX2_powersBy_20 rfl ?_
    refine g_get (pc := 21) (v := .int (M (62) 5)) (k := 62) (ci := 2) (fs := (oX2 ad)) (C := RX2) (T := TX2) (N := 6) F (by decide) (fun _ => rfl) rfl kiX2_powersBy_X2 5 (by decide) klX2_powersBy_27 rfl rfl dX2_powersBy_21 ?_
    refine g_icmp_ge (pc := 24) F 67 dX2_powersBy_24 (by decide) ?_ ?_
    · exact hkx _ _ _
    · refine g_aload_n (pc := 27) F 0 dX2_powersBy_27 rfl ?_
      refine g_iload (pc := 28) F 5 dX2_powersBy_28 rfl ?_
      refine g_aload_n (pc := 30) F 1 dX2_powersBy_30 rfl ?_
      refine g_vi (pc := 31) (k := 62) (ci := 2) (fs := (oX2 ad)) (C := RX2) (T := TX2) (N := 6) (As := [.int x5, .ref (ad (q1))]) (st := []) F (c_X2_callsOf l D ad cs F.2.2.1 x5 q1 hq1 M) (by decide) (fun _ => rfl) rfl (cwV 2 F.1.2.2.2.2 gX2_powersBy_X2_callsOf rfl rfl rfl hdV_X2_callsOf ⟨by decide, by decide⟩) rfl rfl (Nat.le_of_ble_eq_true rfl) dX2_powersBy_31 ⟨Nat.zero_le _, Nat.zero_le _⟩ (fun r1 M2 => ?_)
      refine g_if_eq (pc := 34) F 61 dX2_powersBy_34 (by decide) ?_ ?_
      · refine g_iinc (pc := 61) (v := x5 + 1) F [(0, .ref (ad (62))), (1, .ref (ad (q1))), (2, .int x2), (3, .int x3), (4, .int x4), (5, .int (x5 + 1))] 5 dX2_powersBy_61 rfl rfl (by decide) rfl rfl rfl ?_
        refine g_goto (pc := 64) F 18 dX2_powersBy_64 (by decide) ?_
        exact ih _ _ _
      · refine g_aload_n (pc := 37) F 0 dX2_powersBy_37 rfl ?_
        refine g_get (pc := 38) (v := .ref (ad (65))) (k := 62) (ci := 2) (fs := (oX2 ad)) (C := RX2) (T := TX2) (N := 6) F (by decide) (fun _ => rfl) rfl kiX2_powersBy_X2 2 (by decide) klX2_powersBy_18 rfl rfl dX2_powersBy_38 ?_
        refine g_iload (pc := 41) F 5 dX2_powersBy_41 rfl ?_
        refine g_iald (pc := 43) (k := 65) (n := 10) F (by decide) (fun _ => rfl) dX2_powersBy_43 ?_
        refine g_iload_n (pc := 44) F 2 dX2_powersBy_44 rfl ?_
        refine g_iconst (pc := 45) (v := (-1)) F dX2_powersBy_45 (by decide) ?_
        refine g_ixor (pc := 46) F dX2_powersBy_46 ?_
        refine g_iand (pc := 47) F dX2_powersBy_47 ?_
        refine g_if_ne (pc := 48) F 61 dX2_powersBy_48 (by decide) ?_ ?_
        · refine g_iinc (pc := 61) (v := x5 + 1) F [(0, .ref (ad (62))), (1, .ref (ad (q1))), (2, .int x2), (3, .int x3), (4, .int x4), (5, .int (x5 + 1))] 5 dX2_powersBy_61 rfl rfl (by decide) rfl rfl rfl ?_
          refine g_goto (pc := 64) F 18 dX2_powersBy_64 (by decide) ?_
          exact ih _ _ _
        · refine g_iload_n (pc := 51) F 2 dX2_powersBy_51 rfl ?_
          refine g_aload_n (pc := 52) F 0 dX2_powersBy_52 rfl ?_
          refine g_get (pc := 53) (v := .ref (ad (66))) (k := 62) (ci := 2) (fs := (oX2 ad)) (C := RX2) (T := TX2) (N := 6) F (by decide) (fun _ => rfl) rfl kiX2_powersBy_X2 3 (by decide) klX2_powersBy_21 rfl rfl dX2_powersBy_53 ?_
          refine g_iload (pc := 56) F 5 dX2_powersBy_56 rfl ?_
          refine g_iald (pc := 58) (k := 66) (n := 10) F (by decide) (fun _ => rfl) dX2_powersBy_58 ?_
          refine g_ior (pc := 59) F dX2_powersBy_59 ?_
          refine g_nm (fun v3 => ?_)
          refine g_istore_n (pc := 60) F [(0, .ref (ad (62))), (1, .ref (ad (q1))), (2, .int v3), (3, .int x3), (4, .int x4), (5, .int x5)] dX2_powersBy_60 (by decide) rfl rfl rfl ?_
          refine g_iinc (pc := 61) (v := x5 + 1) F [(0, .ref (ad (62))), (1, .ref (ad (q1))), (2, .int v3), (3, .int x3), (4, .int x4), (5, .int (x5 + 1))] 5 dX2_powersBy_61 rfl rfl (by decide) rfl rfl rfl ?_
          refine g_goto (pc := 64) F 18 dX2_powersBy_64 (by decide) ?_
          exact ih _ _ _
set_option maxHeartbeats 4000000 in
set_option maxRecDepth 100000 in
theorem w_X2_powersBy_L4 {p : Program} {l : Launch} {e : Env} {s : State} {m : MethodId} {args : Array Value} {below : List Frame} {meth : Method} {c : Code} {D : va_G} {ad : Nat → Nat} {cs : Cs} (fu : Nat) (q1 : Nat) (hq1 : Row q1) (F : Fx p m c cX2_powersBy 6 s args wsX2_powersBy RX2 D ad cs (Ad ad)) (hr : meth.sig.returnType = (some .int)) (hlk : meth.locks = false) (k : Mem → Int32 → Int32 → Option (Int32 × Mem)) (hkx : ∀ (M : Mem) (x2 x3 : Int32), GoX p l e rmX2_powersBy s m args below meth c 0 0 6 (fun rM => MQ below (cQi D ad cs rM) args s 0 0 (Ad ad)) D ad cs (Ad ad) M 81 [(0, .ref (ad (62))), (1, .ref (ad (q1))), (2, .int x2), (3, .int x3)] [] (k M x2 x3)) : ∀ (n : Nat) (M : Mem) (x2 x3 : Int32), GoX p l e rmX2_powersBy s m args below meth c 0 0 6 (fun rM => MQ below (cQi D ad cs rM) args s 0 0 (Ad ad)) D ad cs (Ad ad) M 4 [(0, .ref (ad (62))), (1, .ref (ad (q1))), (2, .int x2), (3, .int x3)] [] (f_X2_powersBy_L4 fu q1 k n M x2 x3) := by
  intro n
  induction n with
  | zero => intro M x2 x3; exact g_none
  | succ n ih =>
    intro M x2 x3
    unfold f_X2_powersBy_L4
    refine g_iload_n (pc := 4) F 3 dX2_powersBy_4 rfl ?_
    refine g_aload_n (pc := 5) F 0 dX2_powersBy_5 rfl ?_
    refine g_get (pc := 6) (v := .int (M (62) 5)) (k := 62) (ci := 2) (fs := (oX2 ad)) (C := RX2) (T := TX2) (N := 6) F (by decide) (fun _ => rfl) rfl kiX2_powersBy_X2 5 (by decide) klX2_powersBy_27 rfl rfl dX2_powersBy_6 ?_
    refine g_icmp_ge (pc := 9) F 81 dX2_powersBy_9 (by decide) ?_ ?_
    · exact hkx _ _ _
    · refine g_iload_n (pc := 12) F 2 dX2_powersBy_12 rfl ?_
      refine g_istore (pc := 13) F [(0, .ref (ad (62))), (1, .ref (ad (q1))), (2, .int x2), (3, .int x3), (4, .int x2)] dX2_powersBy_13 (by decide) rfl rfl rfl ?_
      refine g_iconst (pc := 15) (v := 0) F dX2_powersBy_15 (by decide) ?_
      refine g_istore (pc := 16) F [(0, .ref (ad (62))), (1, .ref (ad (q1))), (2, .int x2), (3, .int x3), (4, .int x2), (5, .int 0)] dX2_powersBy_16 (by decide) rfl rfl rfl ?_
      refine w_X2_powersBy_L18 q1 x3 x2 hq1 F hr hlk _ (fun M4 y5 y6 => ?_) _ _ _ _
      refine g_iload_n (pc := 67) F 2 dX2_powersBy_67 rfl ?_
      refine g_iload (pc := 68) F 4 dX2_powersBy_68 rfl ?_
      refine g_icmp_ne (pc := 70) F 75 dX2_powersBy_70 (by decide) ?_ ?_
      · refine g_iinc (pc := 75) (v := x3 + 1) F [(0, .ref (ad (62))), (1, .ref (ad (q1))), (2, .int y5), (3, .int (x3 + 1)), (4, .int x2), (5, .int y6)] 3 dX2_powersBy_75 rfl rfl (by decide) rfl rfl rfl ?_
        refine g_goto (pc := 78) F 4 dX2_powersBy_78 (by decide) ?_
        refine g_sub [0, 1, 2, 3] [(0, .ref (ad (62))), (1, .ref (ad (q1))), (2, .int y5), (3, .int (x3 + 1))] rfl ?_
        exact ih _ _ _
      · refine g_iload_n (pc := 73) F 2 dX2_powersBy_73 rfl ?_
        exact g_iret (pc := 74) F hr hlk dX2_powersBy_74
set_option maxHeartbeats 4000000 in
set_option maxRecDepth 100000 in
theorem c_X2_powersBy (l : Launch) (D : va_G) (ad : Nat → Nat) (cs : Cs) (hi : Inj ad) (fu : Nat) (k1 : Nat) (h1 : Row k1) (M : Mem) : MI l yX2_powersBy wsX2_powersBy rmX2_powersBy D ad cs [.ref (ad (62)), .ref (ad (k1))] M (f_X2_powersBy fu k1 M) := by
  refine Mx.of (cc := cX2_powersBy) (maxL := 6) (ret := (some .int)) (own := RX2) (lv := [(0, .ref (ad (62))), (1, .ref (ad (k1)))]) (by decide) rfl rfl (Nat.le_of_ble_eq_true rfl) rfl hi ?_
  intro p e s m below meth c F hr hlk
  unfold f_X2_powersBy
  refine g_iconst (pc := 0) (v := 0) F dX2_powersBy_0 (by decide) ?_
  refine g_istore_n (pc := 1) F [(0, .ref (ad (62))), (1, .ref (ad (k1))), (2, .int 0)] dX2_powersBy_1 (by decide) rfl rfl rfl ?_
  refine g_iconst (pc := 2) (v := 0) F dX2_powersBy_2 (by decide) ?_
  refine g_istore_n (pc := 3) F [(0, .ref (ad (62))), (1, .ref (ad (k1))), (2, .int 0), (3, .int 0)] dX2_powersBy_3 (by decide) rfl rfl rfl ?_
  refine w_X2_powersBy_L4 fu k1 h1 F hr hlk _ (fun M7 y8 y9 => ?_) _ _ _ _
  refine g_iload_n (pc := 81) F 2 dX2_powersBy_81 rfl ?_
  exact g_iret (pc := 82) F hr hlk dX2_powersBy_82
-- X2_cuttable
def rmX2_cuttable : Room := { frames := 1, cells := 0, slots := 0, locals := 22 }
def f_X2_cuttable_L5 (q1 : Nat) (q2 : Nat) (k : Mem → Int32 → Int32 → Option (Int32 × Mem)) : Nat → Mem → Int32 → Int32 → Option (Int32 × Mem)
  | 0, _, _, _ => none
  | n + 1, M, x3, x4 => if (M (62) 5) ≤ x4 then k M x3 x4 else bnd (f_X2_callsOf x4 q1 M) (fun r1 M2 => if r1 = 0 then f_X2_cuttable_L5 q1 q2 k n M2 x3 (x4 + 1) else if ix x4 10 then nm (M2 (63) x4.toNatClampNeg) (fun v3 => if ix v3 32 then if (r1 &&& (M2 (q2) v3.toNatClampNeg)) = 0 then nm (x3 ||| ((1 : Int32) <<< (x4 &&& 31))) (fun v4 => f_X2_cuttable_L5 q1 q2 k n M2 v4 (x4 + 1)) else f_X2_cuttable_L5 q1 q2 k n M2 x3 (x4 + 1) else none) else none)
def f_X2_cuttable (fu : Nat) (k1 : Nat) (k2 : Nat) (M : Mem) : Option (Int32 × Mem) := f_X2_cuttable_L5 k1 k2 (fun M5 y6 y7 => some (y6, M5)) fu M 0 0
set_option maxRecDepth 20000 in
theorem kiX2_cuttable_X2 : ∀ w ∈ u_ws RX2 TX2 6, w ∈ wsX2_cuttable := by decide +kernel
set_option maxRecDepth 20000 in
theorem klX2_cuttable_27 : Cond.fieldLink RX2 27 "DoorLister$House" "size" "I" ∈ wsX2_cuttable := by decide +kernel
set_option maxRecDepth 20000 in
theorem klX2_cuttable_9 : Cond.fieldLink RX2 9 "DoorLister$House" "doors" "[I" ∈ wsX2_cuttable := by decide +kernel
set_option maxHeartbeats 4000000 in
set_option maxRecDepth 100000 in
theorem w_X2_cuttable_L5 {p : Program} {l : Launch} {e : Env} {s : State} {m : MethodId} {args : Array Value} {below : List Frame} {meth : Method} {c : Code} {D : va_G} {ad : Nat → Nat} {cs : Cs}  (q1 : Nat) (q2 : Nat) (hq1 : Row q1) (hq2 : Row q2) (F : Fx p m c cX2_cuttable 6 s args wsX2_cuttable RX2 D ad cs (Ad ad)) (hr : meth.sig.returnType = (some .int)) (hlk : meth.locks = false) (k : Mem → Int32 → Int32 → Option (Int32 × Mem)) (hkx : ∀ (M : Mem) (x3 x4 : Int32), GoX p l e rmX2_cuttable s m args below meth c 0 0 6 (fun rM => MQ below (cQi D ad cs rM) args s 0 0 (Ad ad)) D ad cs (Ad ad) M 56 [(0, .ref (ad (62))), (1, .ref (ad (q1))), (2, .ref (ad (q2))), (3, .int x3), (4, .int x4)] [] (k M x3 x4)) : ∀ (n : Nat) (M : Mem) (x3 x4 : Int32), GoX p l e rmX2_cuttable s m args below meth c 0 0 6 (fun rM => MQ below (cQi D ad cs rM) args s 0 0 (Ad ad)) D ad cs (Ad ad) M 5 [(0, .ref (ad (62))), (1, .ref (ad (q1))), (2, .ref (ad (q2))), (3, .int x3), (4, .int x4)] [] (f_X2_cuttable_L5 q1 q2 k n M x3 x4) := by
  intro n
  induction n with
  | zero => intro M x3 x4; exact g_none
  | succ n ih =>
    intro M x3 x4
    unfold f_X2_cuttable_L5
    refine g_iload (pc := 5) F 4 dX2_cuttable_5 rfl ?_
    refine g_aload_n (pc := 7) F 0 dX2_cuttable_7 rfl ?_
    refine g_get (pc := 8) (v := .int (M (62) 5)) (k := 62) (ci := 2) (fs := (oX2 ad)) (C := RX2) (T := TX2) (N := 6) F (by decide) (fun _ => rfl) rfl kiX2_cuttable_X2 5 (by decide) klX2_cuttable_27 rfl rfl dX2_cuttable_8 ?_
    refine g_icmp_ge (pc := 11) F 56 dX2_cuttable_11 (by decide) ?_ ?_
    · exact hkx _ _ _
    · refine g_aload_n (pc := 14) F 0 dX2_cuttable_14 rfl ?_
      refine g_iload (pc := 15) F 4 dX2_cuttable_15 rfl ?_
      refine g_aload_n (pc := 17) F 1 dX2_cuttable_17 rfl ?_
      refine g_vi (pc := 18) (k := 62) (ci := 2) (fs := (oX2 ad)) (C := RX2) (T := TX2) (N := 6) (As := [.int x4, .ref (ad (q1))]) (st := []) F (c_X2_callsOf l D ad cs F.2.2.1 x4 q1 hq1 M) (by decide) (fun _ => rfl) rfl (cwV 2 F.1.2.2.2.2 gX2_cuttable_X2_callsOf rfl rfl rfl hdV_X2_callsOf ⟨by decide, by decide⟩) rfl rfl (Nat.le_of_ble_eq_true rfl) dX2_cuttable_18 ⟨Nat.zero_le _, Nat.zero_le _⟩ (fun r1 M2 => ?_)
      refine g_istore (pc := 21) F [(0, .ref (ad (62))), (1, .ref (ad (q1))), (2, .ref (ad (q2))), (3, .int x3), (4, .int x4), (5, .int r1)] dX2_cuttable_21 (by decide) rfl rfl rfl ?_
      refine g_iload (pc := 23) F 5 dX2_cuttable_23 rfl ?_
      refine g_if_eq (pc := 25) F 50 dX2_cuttable_25 (by decide) ?_ ?_
      · refine g_iinc (pc := 50) (v := x4 + 1) F [(0, .ref (ad (62))), (1, .ref (ad (q1))), (2, .ref (ad (q2))), (3, .int x3), (4, .int (x4 + 1)), (5, .int r1)] 4 dX2_cuttable_50 rfl rfl (by decide) rfl rfl rfl ?_
        refine g_goto (pc := 53) F 5 dX2_cuttable_53 (by decide) ?_
        refine g_sub [0, 1, 2, 3, 4] [(0, .ref (ad (62))), (1, .ref (ad (q1))), (2, .ref (ad (q2))), (3, .int x3), (4, .int (x4 + 1))] rfl ?_
        exact ih _ _ _
      · refine g_iload (pc := 28) F 5 dX2_cuttable_28 rfl ?_
        refine g_aload_n (pc := 30) F 2 dX2_cuttable_30 rfl ?_
        refine g_aload_n (pc := 31) F 0 dX2_cuttable_31 rfl ?_
        refine g_get (pc := 32) (v := .ref (ad (63))) (k := 62) (ci := 2) (fs := (oX2 ad)) (C := RX2) (T := TX2) (N := 6) F (by decide) (fun _ => rfl) rfl kiX2_cuttable_X2 0 (by decide) klX2_cuttable_9 rfl rfl dX2_cuttable_32 ?_
        refine g_iload (pc := 35) F 4 dX2_cuttable_35 rfl ?_
        refine g_iald (pc := 37) (k := 63) (n := 10) F (by decide) (fun _ => rfl) dX2_cuttable_37 ?_
        refine g_nm (fun v3 => ?_)
        refine g_iald (pc := 38) (k := q2) (n := 32) F (row_lt hq2) (sh_row hq2) dX2_cuttable_38 ?_
        refine g_iand (pc := 39) F dX2_cuttable_39 ?_
        refine g_if_ne (pc := 40) F 50 dX2_cuttable_40 (by decide) ?_ ?_
        · refine g_iinc (pc := 50) (v := x4 + 1) F [(0, .ref (ad (62))), (1, .ref (ad (q1))), (2, .ref (ad (q2))), (3, .int x3), (4, .int (x4 + 1)), (5, .int r1)] 4 dX2_cuttable_50 rfl rfl (by decide) rfl rfl rfl ?_
          refine g_goto (pc := 53) F 5 dX2_cuttable_53 (by decide) ?_
          refine g_sub [0, 1, 2, 3, 4] [(0, .ref (ad (62))), (1, .ref (ad (q1))), (2, .ref (ad (q2))), (3, .int x3), (4, .int (x4 + 1))] rfl ?_
          exact ih _ _ _
        · refine g_iload_n (pc := 43) F 3 dX2_cuttable_43 rfl ?_
          refine g_iconst (pc := 44) (v := 1) F dX2_cuttable_44 (by decide) ?_
          refine g_iload (pc := 45) F 4 dX2_cuttable_45 rfl ?_
          refine g_ishl (pc := 47) F dX2_cuttable_47 ?_
          refine g_ior (pc := 48) F dX2_cuttable_48 ?_
          refine g_nm (fun v4 => ?_)
          refine g_istore_n (pc := 49) F [(0, .ref (ad (62))), (1, .ref (ad (q1))), (2, .ref (ad (q2))), (3, .int v4), (4, .int x4), (5, .int r1)] dX2_cuttable_49 (by decide) rfl rfl rfl ?_
          refine g_iinc (pc := 50) (v := x4 + 1) F [(0, .ref (ad (62))), (1, .ref (ad (q1))), (2, .ref (ad (q2))), (3, .int v4), (4, .int (x4 + 1)), (5, .int r1)] 4 dX2_cuttable_50 rfl rfl (by decide) rfl rfl rfl ?_
          refine g_goto (pc := 53) F 5 dX2_cuttable_53 (by decide) ?_
          refine g_sub [0, 1, 2, 3, 4] [(0, .ref (ad (62))), (1, .ref (ad (q1))), (2, .ref (ad (q2))), (3, .int v4), (4, .int (x4 + 1))] rfl ?_
          exact ih _ _ _
set_option maxHeartbeats 4000000 in
set_option maxRecDepth 100000 in
theorem c_X2_cuttable (l : Launch) (D : va_G) (ad : Nat → Nat) (cs : Cs) (hi : Inj ad) (fu : Nat) (k1 : Nat) (k2 : Nat) (h1 : Row k1) (h2 : Row k2) (M : Mem) : MI l yX2_cuttable wsX2_cuttable rmX2_cuttable D ad cs [.ref (ad (62)), .ref (ad (k1)), .ref (ad (k2))] M (f_X2_cuttable fu k1 k2 M) := by
  refine Mx.of (cc := cX2_cuttable) (maxL := 6) (ret := (some .int)) (own := RX2) (lv := [(0, .ref (ad (62))), (1, .ref (ad (k1))), (2, .ref (ad (k2)))]) (by decide) rfl rfl (Nat.le_of_ble_eq_true rfl) rfl hi ?_
  intro p e s m below meth c F hr hlk
  unfold f_X2_cuttable
  refine g_iconst (pc := 0) (v := 0) F dX2_cuttable_0 (by decide) ?_
  refine g_istore_n (pc := 1) F [(0, .ref (ad (62))), (1, .ref (ad (k1))), (2, .ref (ad (k2))), (3, .int 0)] dX2_cuttable_1 (by decide) rfl rfl rfl ?_
  refine g_iconst (pc := 2) (v := 0) F dX2_cuttable_2 (by decide) ?_
  refine g_istore (pc := 3) F [(0, .ref (ad (62))), (1, .ref (ad (k1))), (2, .ref (ad (k2))), (3, .int 0), (4, .int 0)] dX2_cuttable_3 (by decide) rfl rfl rfl ?_
  refine w_X2_cuttable_L5 k1 k2 h1 h2 F hr hlk _ (fun M5 y6 y7 => ?_) _ _ _ _
  refine g_iload_n (pc := 56) F 3 dX2_cuttable_56 rfl ?_
  exact g_iret (pc := 57) F hr hlk dX2_cuttable_57
-- X2_takeOut
def rmX2_takeOut : Room := { frames := 1, cells := 0, slots := 0, locals := 64 }
def f_X2_takeOut_L17 (x2 : Int32) (k : Mem → Int32 → Int32 → Option (Int32 × Mem)) : Nat → Mem → Int32 → Int32 → Option (Int32 × Mem)
  | 0, _, _, _ => none
  | n + 1, M, x3, x4 => if (M (62) 5) ≤ x4 then k M x3 x4 else bnd (f_X8_holds x2 x4 M) (fun r2 M3 => if r2 = 0 then f_X2_takeOut_L17 x2 k n M3 x3 (x4 + 1) else bnd (f_X2_callsOf x4 67 M3) (fun r4 M5 => bnd (f_J6_bitCount_0f7a4 r4 M5) (fun r6 M7 => nm (x3 + r6) (fun v8 => if ix x4 10 then nm (M7 (63) x4.toNatClampNeg) (fun v9 => if ix v9 32 then if ix v9 32 then wr M7 (67) v9.toNatClampNeg ((M7 (67) v9.toNatClampNeg) &&& (r4 ^^^ (-1 : Int32))) (fun M10 => f_X2_takeOut_L17 x2 k n M10 v8 (x4 + 1)) else none else none) else none))))
def f_X2_takeOut (fu : Nat) (k1 : Nat) (a2 : Int32) (M : Mem) : Option (Int32 × Mem) := wrA M (67) (va_cpy (M (k1)) (M (67)) 0 0 32) (fun M1 => f_X2_takeOut_L17 a2 (fun M11 y12 y13 => some (y12, M11)) fu M1 0 0)
set_option maxRecDepth 20000 in
theorem kiX2_takeOut_X2 : ∀ w ∈ u_ws RX2 TX2 6, w ∈ wsX2_takeOut := by decide +kernel
set_option maxRecDepth 20000 in
theorem klX2_takeOut_24 : Cond.fieldLink RX2 24 "DoorLister$House" "left" "[I" ∈ wsX2_takeOut := by decide +kernel
set_option maxRecDepth 20000 in
theorem kwX2_takeOut_ac0 : Cond.methodLink RX2 57 arraycopyName ∈ wsX2_takeOut := by decide +kernel
set_option maxRecDepth 20000 in
theorem kwX2_takeOut_ac1 : Cond.native arraycopyName ∈ wsX2_takeOut := by decide +kernel
set_option maxRecDepth 20000 in
theorem kwX2_takeOut_ac2 : Cond.static arraycopyName ∈ wsX2_takeOut := by decide +kernel
set_option maxRecDepth 20000 in
theorem kwX2_takeOut_ac3 : Cond.initialized "java/lang/System" ∈ wsX2_takeOut := by decide +kernel
set_option maxRecDepth 20000 in
theorem klX2_takeOut_27 : Cond.fieldLink RX2 27 "DoorLister$House" "size" "I" ∈ wsX2_takeOut := by decide +kernel
set_option maxRecDepth 20000 in
theorem kwX2_takeOut_iX8_holds : Cond.initialized yX8_holds.cls ∈ wsX2_takeOut := by decide +kernel
set_option maxRecDepth 20000 in
theorem kwX2_takeOut_sX8_holds : Cond.static yX8_holds ∈ wsX2_takeOut := by decide +kernel
set_option maxRecDepth 20000 in
theorem klX2_takeOut_9 : Cond.fieldLink RX2 9 "DoorLister$House" "doors" "[I" ∈ wsX2_takeOut := by decide +kernel
set_option maxHeartbeats 4000000 in
set_option maxRecDepth 100000 in
theorem w_X2_takeOut_L17 {p : Program} {l : Launch} {e : Env} {s : State} {m : MethodId} {args : Array Value} {below : List Frame} {meth : Method} {c : Code} {D : va_G} {ad : Nat → Nat} {cs : Cs}  (x2 : Int32) (F : Fx p m c cX2_takeOut 6 s args wsX2_takeOut RX2 D ad cs (Ad ad)) (hr : meth.sig.returnType = (some .int)) (hlk : meth.locks = false) (k : Mem → Int32 → Int32 → Option (Int32 × Mem)) (hkx : ∀ (M : Mem) (x3 x4 : Int32), GoX p l e rmX2_takeOut s m args below meth c 0 0 6 (fun rM => MQ below (cQi D ad cs rM) args s 0 0 (Ad ad)) D ad cs (Ad ad) M 80 [(0, .ref (ad (62))), (2, .int x2), (3, .int x3), (4, .int x4)] [] (k M x3 x4)) : ∀ (n : Nat) (M : Mem) (x3 x4 : Int32), GoX p l e rmX2_takeOut s m args below meth c 0 0 6 (fun rM => MQ below (cQi D ad cs rM) args s 0 0 (Ad ad)) D ad cs (Ad ad) M 17 [(0, .ref (ad (62))), (2, .int x2), (3, .int x3), (4, .int x4)] [] (f_X2_takeOut_L17 x2 k n M x3 x4) := by
  intro n
  induction n with
  | zero => intro M x3 x4; exact g_none
  | succ n ih =>
    intro M x3 x4
    unfold f_X2_takeOut_L17
    refine g_iload (pc := 17) F 3 dX2_takeOut_17 rfl ?_
    refine g_aload_n (pc := 19) F 0 dX2_takeOut_19 rfl ?_
    refine g_get (pc := 20) (v := .int (M (62) 5)) (k := 62) (ci := 2) (fs := (oX2 ad)) (C := RX2) (T := TX2) (N := 6) F (by decide) (fun _ => rfl) rfl kiX2_takeOut_X2 5 (by decide) klX2_takeOut_27 rfl rfl dX2_takeOut_20 ?_
    refine g_icmp_ge (pc := 23) F 80 dX2_takeOut_23 (by decide) ?_ ?_
    · exact hkx _ _ _
    · refine g_iload_n (pc := 26) F 1 dX2_takeOut_26 rfl ?_
      refine g_iload (pc := 27) F 3 dX2_takeOut_27 rfl ?_
      refine g_ni (pc := 29) (As := [.int x2, .int x4]) (st := []) F (c_X8_holds l D ad cs F.2.2.1 x2 x4 M) ⟨va_cnB 2 F.1.2.2.2.2 gX2_takeOut_X8_holds_n47 rfl rfl rfl F.2.1.2.2.1 (F.1.2.2.2.2 _ kwX2_takeOut_iX8_holds) hdS_X8_holds ⟨by decide, by decide⟩, F.1.2.2.2.2 _ kwX2_takeOut_sX8_holds, trivial⟩ rfl rfl (Nat.le_of_ble_eq_true rfl) dX2_takeOut_29 ⟨Nat.zero_le _, Nat.zero_le _⟩ (fun r2 M3 => ?_)
      refine g_if_eq (pc := 32) F 74 dX2_takeOut_32 (by decide) ?_ ?_
      · refine g_iinc (pc := 74) (v := x4 + 1) F [(0, .ref (ad (62))), (2, .int x2), (3, .int x3), (4, .int (x4 + 1))] 3 dX2_takeOut_74 rfl rfl (by decide) rfl rfl rfl ?_
        refine g_goto (pc := 77) F 17 dX2_takeOut_77 (by decide) ?_
        exact ih _ _ _
      · refine g_aload_n (pc := 35) F 0 dX2_takeOut_35 rfl ?_
        refine g_iload (pc := 36) F 3 dX2_takeOut_36 rfl ?_
        refine g_aload_n (pc := 38) F 0 dX2_takeOut_38 rfl ?_
        refine g_get (pc := 39) (v := .ref (ad (67))) (k := 62) (ci := 2) (fs := (oX2 ad)) (C := RX2) (T := TX2) (N := 6) F (by decide) (fun _ => rfl) rfl kiX2_takeOut_X2 4 (by decide) klX2_takeOut_24 rfl rfl dX2_takeOut_39 ?_
        refine g_vi (pc := 42) (k := 62) (ci := 2) (fs := (oX2 ad)) (C := RX2) (T := TX2) (N := 6) (As := [.int x4, .ref (ad (67))]) (st := []) F (c_X2_callsOf l D ad cs F.2.2.1 x4 67 (Or.inl rfl) M3) (by decide) (fun _ => rfl) rfl (cwV 2 F.1.2.2.2.2 gX2_takeOut_X2_callsOf rfl rfl rfl hdV_X2_callsOf ⟨by decide, by decide⟩) rfl rfl (Nat.le_of_ble_eq_true rfl) dX2_takeOut_42 ⟨Nat.zero_le _, Nat.zero_le _⟩ (fun r4 M5 => ?_)
        refine g_istore (pc := 45) F [(0, .ref (ad (62))), (2, .int x2), (3, .int x3), (4, .int x4), (5, .int r4)] dX2_takeOut_45 (by decide) rfl rfl rfl ?_
        refine g_iload_n (pc := 47) F 2 dX2_takeOut_47 rfl ?_
        refine g_iload (pc := 48) F 4 dX2_takeOut_48 rfl ?_
        refine g_si (pc := 50) (As := [.int r4]) (st := [.int x3]) F (c_J6_bitCount_0f7a4 l D ad cs F.2.2.1 r4 M5) (va_cwS 1 F.1.2.2.2.2 gX2_takeOut_J6_bitCount_0f7a4 rfl rfl rfl hdS_J6_bitCount_0f7a4 ⟨by decide, by decide⟩) rfl rfl (Nat.le_of_ble_eq_true rfl) dX2_takeOut_50 ⟨Nat.zero_le _, Nat.zero_le _⟩ (fun r6 M7 => ?_)
        refine g_iadd (pc := 53) F dX2_takeOut_53 ?_
        refine g_nm (fun v8 => ?_)
        refine g_istore_n (pc := 54) F [(0, .ref (ad (62))), (2, .int x2), (3, .int v8), (4, .int x4), (5, .int r4)] dX2_takeOut_54 (by decide) rfl rfl rfl ?_
        refine g_aload_n (pc := 55) F 0 dX2_takeOut_55 rfl ?_
        refine g_get (pc := 56) (v := .ref (ad (67))) (k := 62) (ci := 2) (fs := (oX2 ad)) (C := RX2) (T := TX2) (N := 6) F (by decide) (fun _ => rfl) rfl kiX2_takeOut_X2 4 (by decide) klX2_takeOut_24 rfl rfl dX2_takeOut_56 ?_
        refine g_aload_n (pc := 59) F 0 dX2_takeOut_59 rfl ?_
        refine g_get (pc := 60) (v := .ref (ad (63))) (k := 62) (ci := 2) (fs := (oX2 ad)) (C := RX2) (T := TX2) (N := 6) F (by decide) (fun _ => rfl) rfl kiX2_takeOut_X2 0 (by decide) klX2_takeOut_9 rfl rfl dX2_takeOut_60 ?_
        refine g_iload (pc := 63) F 3 dX2_takeOut_63 rfl ?_
        refine g_iald (pc := 65) (k := 63) (n := 10) F (by decide) (fun _ => rfl) dX2_takeOut_65 ?_
        refine g_nm (fun v9 => ?_)
        refine g_dup2 (pc := 66) F rfl rfl dX2_takeOut_66 ?_
        refine g_iald (pc := 67) (k := 67) (n := 32) F (row_lt (Or.inl rfl)) (sh_row (Or.inl rfl)) dX2_takeOut_67 ?_
        refine g_iload (pc := 68) F 4 dX2_takeOut_68 rfl ?_
        refine g_iconst (pc := 70) (v := (-1)) F dX2_takeOut_70 (by decide) ?_
        refine g_ixor (pc := 71) F dX2_takeOut_71 ?_
        refine g_iand (pc := 72) F dX2_takeOut_72 ?_
        refine g_iast (pc := 73) (k := 67) (n := 32) F (row_lt (Or.inl rfl)) (sh_row (Or.inl rfl)) dX2_takeOut_73 (fun M10 => ?_)
        refine g_iinc (pc := 74) (v := x4 + 1) F [(0, .ref (ad (62))), (2, .int x2), (3, .int v8), (4, .int (x4 + 1)), (5, .int r4)] 3 dX2_takeOut_74 rfl rfl (by decide) rfl rfl rfl ?_
        refine g_goto (pc := 77) F 17 dX2_takeOut_77 (by decide) ?_
        refine g_sub [0, 1, 2, 3] [(0, .ref (ad (62))), (2, .int x2), (3, .int v8), (4, .int (x4 + 1))] rfl ?_
        exact ih _ _ _
set_option maxHeartbeats 4000000 in
set_option maxRecDepth 100000 in
theorem c_X2_takeOut (l : Launch) (D : va_G) (ad : Nat → Nat) (cs : Cs) (hi : Inj ad) (fu : Nat) (k1 : Nat) (a2 : Int32) (h1 : Row k1) (M : Mem) : MI l yX2_takeOut wsX2_takeOut rmX2_takeOut D ad cs [.ref (ad (62)), .ref (ad (k1)), .int a2] M (f_X2_takeOut fu k1 a2 M) := by
  refine Mx.of (cc := cX2_takeOut) (maxL := 6) (ret := (some .int)) (own := RX2) (lv := [(0, .ref (ad (62))), (1, .ref (ad (k1))), (2, .int a2)]) (by decide) rfl rfl (Nat.le_of_ble_eq_true rfl) rfl hi ?_
  intro p e s m below meth c F hr hlk
  unfold f_X2_takeOut
  refine g_aload_n (pc := 0) F 1 dX2_takeOut_0 rfl ?_
  refine g_iconst (pc := 1) (v := 0) F dX2_takeOut_1 (by decide) ?_
  refine g_aload_n (pc := 2) F 0 dX2_takeOut_2 rfl ?_
  refine g_get (pc := 3) (v := .ref (ad (67))) (k := 62) (ci := 2) (fs := (oX2 ad)) (C := RX2) (T := TX2) (N := 6) F (by decide) (fun _ => rfl) rfl kiX2_takeOut_X2 4 (by decide) klX2_takeOut_24 rfl rfl dX2_takeOut_3 ?_
  refine g_iconst (pc := 6) (v := 0) F dX2_takeOut_6 (by decide) ?_
  refine g_bipush (pc := 7) (v := 32) F dX2_takeOut_7 (by decide) ?_
  refine g_copy (pc := 9) (k0 := k1) (k1 := 67) (st := []) F (row_lt h1) (sh_row h1) (row_lt (Or.inl rfl)) (sh_row (Or.inl rfl)) kwX2_takeOut_ac0 kwX2_takeOut_ac1 kwX2_takeOut_ac2 kwX2_takeOut_ac3 (by decide) (Nat.le_of_ble_eq_true rfl) dX2_takeOut_9 (fun M1 => ?_)
  refine g_iconst (pc := 12) (v := 0) F dX2_takeOut_12 (by decide) ?_
  refine g_istore_n (pc := 13) F [(0, .ref (ad (62))), (1, .ref (ad (k1))), (2, .int a2), (3, .int 0)] dX2_takeOut_13 (by decide) rfl rfl rfl ?_
  refine g_iconst (pc := 14) (v := 0) F dX2_takeOut_14 (by decide) ?_
  refine g_istore (pc := 15) F [(0, .ref (ad (62))), (1, .ref (ad (k1))), (2, .int a2), (3, .int 0), (4, .int 0)] dX2_takeOut_15 (by decide) rfl rfl rfl ?_
  refine g_sub [0, 2, 3, 4] [(0, .ref (ad (62))), (2, .int a2), (3, .int 0), (4, .int 0)] rfl ?_
  refine w_X2_takeOut_L17 a2 F hr hlk _ (fun M11 y12 y13 => ?_) _ _ _ _
  refine g_iload_n (pc := 80) F 2 dX2_takeOut_80 rfl ?_
  exact g_iret (pc := 81) F hr hlk dX2_takeOut_81
