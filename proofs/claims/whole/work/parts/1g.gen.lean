/-! Written by wip/whole/gen.py: pure functions of methods, and the walks that tie the bytecode to them. -/
-- X5_replace
def rmX5_replace : Room := { frames := 1, cells := 0, slots := 0, locals := 25 }
def f_X5_replace (pp : Nat) (a1 : Int32) (a2 : Int32) (a3 : Int32) (a4 : Int32) (a5 : Int32) (M : Mem) : Option (Int32 × Mem) := bnd (f_X1_has pp a1 M) (fun r1 M2 => if r1 = 0 then some (0, M2) else bnd (f_X1_put pp a1 a2 a3 a4 a5 M2) (fun r3 M4 => bnd (f_X4_forget pp M4) (fun r5 M6 => some (1, M6))))
set_option maxRecDepth 20000 in
theorem kiX5_replace_X5 : ∀ w ∈ u_ws RX5 TX5 3, w ∈ wsX5_replace := by decide +kernel
set_option maxRecDepth 20000 in
theorem klX5_replace_18 : Cond.fieldLink RX5 18 "DoorLister$Program" "code" "LDoorLister$Code;" ∈ wsX5_replace := by decide +kernel
set_option maxRecDepth 20000 in
theorem klX5_replace_22 : Cond.fieldLink RX5 22 "DoorLister$Program" "paths" "LDoorLister$Paths;" ∈ wsX5_replace := by decide +kernel
set_option maxHeartbeats 4000000 in
set_option maxRecDepth 100000 in
theorem c_X5_replace (l : Launch) (D : va_G) (ad : Nat → Nat) (cs : Cs) (hi : Inj ad) (pp : Nat) (a1 : Int32) (a2 : Int32) (a3 : Int32) (a4 : Int32) (a5 : Int32) (hpp : pp < 4) (M : Mem) : MI l yX5_replace wsX5_replace rmX5_replace D ad cs [.ref (ad (13 * pp + 2)), .int a1, .int a2, .int a3, .int a4, .int a5] M (f_X5_replace pp a1 a2 a3 a4 a5 M) := by
  refine Mx.of (cc := cX5_replace) (maxL := 6) (ret := (some .boolean)) (own := RX5) (lv := [(0, .ref (ad (13 * pp + 2))), (1, .int a1), (2, .int a2), (3, .int a3), (4, .int a4), (5, .int a5)]) (by decide) rfl rfl (Nat.le_of_ble_eq_true rfl) rfl hi ?_
  intro p e s m below meth c F hr hlk
  unfold f_X5_replace
  refine g_aload_n (pc := 0) F 0 dX5_replace_0 rfl ?_
  refine g_get (pc := 1) (v := .ref (ad (13 * pp + 3))) (k := 13 * pp + 2) (ci := 5) (fs := (oX5 ad (pp))) (C := RX5) (T := TX5) (N := 3) F (P_lt hpp (by decide)) (sh_X5 hpp) rfl kiX5_replace_X5 0 (by decide) klX5_replace_18 rfl rfl dX5_replace_1 ?_
  refine g_iload_n (pc := 4) F 1 dX5_replace_4 rfl ?_
  refine g_vi (pc := 5) (k := 13 * pp + 3) (ci := 1) (fs := (oX1 ad (pp))) (C := RX1) (T := TX1) (N := 5) (As := [.int a1]) (st := []) F (c_X1_has l D ad cs F.2.2.1 pp a1 hpp M) (P_lt hpp (by decide)) (sh_X1 hpp) rfl (cwV 1 F.1.2.2.2.2 gX5_replace_X1_has rfl rfl rfl hdV_X1_has ⟨by decide, by decide⟩) rfl rfl (Nat.le_of_ble_eq_true rfl) dX5_replace_5 ⟨Nat.zero_le _, Nat.zero_le _⟩ (fun r1 M2 => ?_)
  refine g_if_ne (pc := 8) F 13 dX5_replace_8 (by decide) ?_ ?_
  · refine g_aload_n (pc := 13) F 0 dX5_replace_13 rfl ?_
    refine g_get (pc := 14) (v := .ref (ad (13 * pp + 3))) (k := 13 * pp + 2) (ci := 5) (fs := (oX5 ad (pp))) (C := RX5) (T := TX5) (N := 3) F (P_lt hpp (by decide)) (sh_X5 hpp) rfl kiX5_replace_X5 0 (by decide) klX5_replace_18 rfl rfl dX5_replace_14 ?_
    refine g_iload_n (pc := 17) F 1 dX5_replace_17 rfl ?_
    refine g_iload_n (pc := 18) F 2 dX5_replace_18 rfl ?_
    refine g_iload_n (pc := 19) F 3 dX5_replace_19 rfl ?_
    refine g_iload (pc := 20) F 4 dX5_replace_20 rfl ?_
    refine g_iload (pc := 22) F 5 dX5_replace_22 rfl ?_
    refine g_vv (pc := 24) (k := 13 * pp + 3) (ci := 1) (fs := (oX1 ad (pp))) (C := RX1) (T := TX1) (N := 5) (As := [.int a1, .int a2, .int a3, .int a4, .int a5]) (st := []) F (c_X1_put l D ad cs F.2.2.1 pp a1 a2 a3 a4 a5 hpp M2) (P_lt hpp (by decide)) (sh_X1 hpp) rfl (cwV 5 F.1.2.2.2.2 gX5_replace_X1_put rfl rfl rfl hdV_X1_put ⟨by decide, by decide⟩) rfl rfl (Nat.le_of_ble_eq_true rfl) dX5_replace_24 ⟨Nat.zero_le _, Nat.zero_le _⟩ (fun r3 M4 => ?_)
    refine g_aload_n (pc := 27) F 0 dX5_replace_27 rfl ?_
    refine g_get (pc := 28) (v := .ref (ad (13 * pp + 8))) (k := 13 * pp + 2) (ci := 5) (fs := (oX5 ad (pp))) (C := RX5) (T := TX5) (N := 3) F (P_lt hpp (by decide)) (sh_X5 hpp) rfl kiX5_replace_X5 1 (by decide) klX5_replace_22 rfl rfl dX5_replace_28 ?_
    refine g_vv (pc := 31) (k := 13 * pp + 8) (ci := 4) (fs := (oX4 ad (pp))) (C := RX4) (T := TX4) (N := 14) (As := []) (st := []) F (c_X4_forget l D ad cs F.2.2.1 pp hpp M4) (P_lt hpp (by decide)) (sh_X4 hpp) rfl (cwV 0 F.1.2.2.2.2 gX5_replace_X4_forget rfl rfl rfl hdV_X4_forget ⟨by decide, by decide⟩) rfl rfl (Nat.le_of_ble_eq_true rfl) dX5_replace_31 ⟨Nat.zero_le _, Nat.zero_le _⟩ (fun r5 M6 => ?_)
    refine g_iconst (pc := 34) (v := 1) F dX5_replace_34 (by decide) ?_
    exact g_zret (pc := 35) F hr hlk rfl dX5_replace_35
  · refine g_iconst (pc := 11) (v := 0) F dX5_replace_11 (by decide) ?_
    exact g_zret (pc := 12) F hr hlk rfl dX5_replace_12
-- X5_append
def rmX5_append : Room := { frames := 2, cells := 0, slots := 0, locals := 50 }
def f_X5_append (pp : Nat) (a1 : Int32) (a2 : Int32) (a3 : Int32) (a4 : Int32) (M : Mem) : Option (Int32 × Mem) := bnd (f_X1_grow pp M) (fun r1 M2 => if r1 = 0 then some ((-1), M2) else bnd (f_X1_length pp M2) (fun r3 M4 => nm (r3 - (1 : Int32)) (fun v5 => bnd (f_X5_replace pp v5 a1 a2 a3 a4 M4) (fun r6 M7 => some (v5, M7)))))
set_option maxRecDepth 20000 in
theorem kiX5_append_X5 : ∀ w ∈ u_ws RX5 TX5 3, w ∈ wsX5_append := by decide +kernel
set_option maxRecDepth 20000 in
theorem klX5_append_18 : Cond.fieldLink RX5 18 "DoorLister$Program" "code" "LDoorLister$Code;" ∈ wsX5_append := by decide +kernel
set_option maxHeartbeats 4000000 in
set_option maxRecDepth 100000 in
theorem c_X5_append (l : Launch) (D : va_G) (ad : Nat → Nat) (cs : Cs) (hi : Inj ad) (pp : Nat) (a1 : Int32) (a2 : Int32) (a3 : Int32) (a4 : Int32) (hpp : pp < 4) (M : Mem) : MI l yX5_append wsX5_append rmX5_append D ad cs [.ref (ad (13 * pp + 2)), .int a1, .int a2, .int a3, .int a4] M (f_X5_append pp a1 a2 a3 a4 M) := by
  refine Mx.of (cc := cX5_append) (maxL := 6) (ret := (some .int)) (own := RX5) (lv := [(0, .ref (ad (13 * pp + 2))), (1, .int a1), (2, .int a2), (3, .int a3), (4, .int a4)]) (by decide) rfl rfl (Nat.le_of_ble_eq_true rfl) rfl hi ?_
  intro p e s m below meth c F hr hlk
  unfold f_X5_append
  refine g_aload_n (pc := 0) F 0 dX5_append_0 rfl ?_
  refine g_get (pc := 1) (v := .ref (ad (13 * pp + 3))) (k := 13 * pp + 2) (ci := 5) (fs := (oX5 ad (pp))) (C := RX5) (T := TX5) (N := 3) F (P_lt hpp (by decide)) (sh_X5 hpp) rfl kiX5_append_X5 0 (by decide) klX5_append_18 rfl rfl dX5_append_1 ?_
  refine g_vi (pc := 4) (k := 13 * pp + 3) (ci := 1) (fs := (oX1 ad (pp))) (C := RX1) (T := TX1) (N := 5) (As := []) (st := []) F (c_X1_grow l D ad cs F.2.2.1 pp hpp M) (P_lt hpp (by decide)) (sh_X1 hpp) rfl (cwV 0 F.1.2.2.2.2 gX5_append_X1_grow rfl rfl rfl hdV_X1_grow ⟨by decide, by decide⟩) rfl rfl (Nat.le_of_ble_eq_true rfl) dX5_append_4 ⟨Nat.zero_le _, Nat.zero_le _⟩ (fun r1 M2 => ?_)
  refine g_if_ne (pc := 7) F 12 dX5_append_7 (by decide) ?_ ?_
  · refine g_aload_n (pc := 12) F 0 dX5_append_12 rfl ?_
    refine g_get (pc := 13) (v := .ref (ad (13 * pp + 3))) (k := 13 * pp + 2) (ci := 5) (fs := (oX5 ad (pp))) (C := RX5) (T := TX5) (N := 3) F (P_lt hpp (by decide)) (sh_X5 hpp) rfl kiX5_append_X5 0 (by decide) klX5_append_18 rfl rfl dX5_append_13 ?_
    refine g_vi (pc := 16) (k := 13 * pp + 3) (ci := 1) (fs := (oX1 ad (pp))) (C := RX1) (T := TX1) (N := 5) (As := []) (st := []) F (c_X1_length l D ad cs F.2.2.1 pp hpp M2) (P_lt hpp (by decide)) (sh_X1 hpp) rfl (cwV 0 F.1.2.2.2.2 gX5_append_X1_length rfl rfl rfl hdV_X1_length ⟨by decide, by decide⟩) rfl rfl (Nat.le_of_ble_eq_true rfl) dX5_append_16 ⟨Nat.zero_le _, Nat.zero_le _⟩ (fun r3 M4 => ?_)
    refine g_iconst (pc := 19) (v := 1) F dX5_append_19 (by decide) ?_
    refine g_isub (pc := 20) F dX5_append_20 ?_
    refine g_nm (fun v5 => ?_)
    refine g_istore (pc := 21) F [(0, .ref (ad (13 * pp + 2))), (1, .int a1), (2, .int a2), (3, .int a3), (4, .int a4), (5, .int v5)] dX5_append_21 (by decide) rfl rfl rfl ?_
    refine g_aload_n (pc := 23) F 0 dX5_append_23 rfl ?_
    refine g_iload (pc := 24) F 5 dX5_append_24 rfl ?_
    refine g_iload_n (pc := 26) F 1 dX5_append_26 rfl ?_
    refine g_iload_n (pc := 27) F 2 dX5_append_27 rfl ?_
    refine g_iload_n (pc := 28) F 3 dX5_append_28 rfl ?_
    refine g_iload (pc := 29) F 4 dX5_append_29 rfl ?_
    refine g_vi (pc := 31) (k := 13 * pp + 2) (ci := 5) (fs := (oX5 ad (pp))) (C := RX5) (T := TX5) (N := 3) (As := [.int v5, .int a1, .int a2, .int a3, .int a4]) (st := []) F (c_X5_replace l D ad cs F.2.2.1 pp v5 a1 a2 a3 a4 hpp M4) (P_lt hpp (by decide)) (sh_X5 hpp) rfl (cwV 5 F.1.2.2.2.2 gX5_append_X5_replace rfl rfl rfl hdV_X5_replace ⟨by decide, by decide⟩) rfl rfl (Nat.le_of_ble_eq_true rfl) dX5_append_31 ⟨Nat.zero_le _, Nat.zero_le _⟩ (fun r6 M7 => ?_)
    refine g_pop (pc := 34) F rfl dX5_append_34 ?_
    refine g_iload (pc := 35) F 5 dX5_append_35 rfl ?_
    exact g_iret (pc := 37) F hr hlk dX5_append_37
  · refine g_iconst (pc := 10) (v := (-1)) F dX5_append_10 (by decide) ?_
    exact g_iret (pc := 11) F hr hlk dX5_append_11
-- X5_takeCodeOf
def rmX5_takeCodeOf : Room := { frames := 2, cells := 0, slots := 0, locals := 47 }
def f_X5_takeCodeOf (fu : Nat) (pp : Nat) (p1 : Nat) (M : Mem) : Option (Int32 × Mem) := bnd (f_X1_become fu pp p1 M) (fun r1 M2 => bnd (f_X4_forget pp M2) (fun r3 M4 => some (0, M4)))
set_option maxRecDepth 20000 in
theorem kiX5_takeCodeOf_X5 : ∀ w ∈ u_ws RX5 TX5 3, w ∈ wsX5_takeCodeOf := by decide +kernel
set_option maxRecDepth 20000 in
theorem klX5_takeCodeOf_18 : Cond.fieldLink RX5 18 "DoorLister$Program" "code" "LDoorLister$Code;" ∈ wsX5_takeCodeOf := by decide +kernel
set_option maxRecDepth 20000 in
theorem klX5_takeCodeOf_22 : Cond.fieldLink RX5 22 "DoorLister$Program" "paths" "LDoorLister$Paths;" ∈ wsX5_takeCodeOf := by decide +kernel
set_option maxHeartbeats 4000000 in
set_option maxRecDepth 100000 in
theorem c_X5_takeCodeOf (l : Launch) (D : va_G) (ad : Nat → Nat) (cs : Cs) (hi : Inj ad) (fu : Nat) (pp : Nat) (p1 : Nat) (hpp : pp < 4) (h1 : p1 < 4) (M : Mem) : MV l yX5_takeCodeOf wsX5_takeCodeOf rmX5_takeCodeOf D ad cs [.ref (ad (13 * pp + 2)), .ref (ad (13 * p1 + 2))] M (f_X5_takeCodeOf fu pp p1 M) := by
  refine Mx.of (cc := cX5_takeCodeOf) (maxL := 2) (ret := none) (own := RX5) (lv := [(0, .ref (ad (13 * pp + 2))), (1, .ref (ad (13 * p1 + 2)))]) (by decide) rfl rfl (Nat.le_of_ble_eq_true rfl) rfl hi ?_
  intro p e s m below meth c F hr hlk
  unfold f_X5_takeCodeOf
  refine g_aload_n (pc := 0) F 0 dX5_takeCodeOf_0 rfl ?_
  refine g_get (pc := 1) (v := .ref (ad (13 * pp + 3))) (k := 13 * pp + 2) (ci := 5) (fs := (oX5 ad (pp))) (C := RX5) (T := TX5) (N := 3) F (P_lt hpp (by decide)) (sh_X5 hpp) rfl kiX5_takeCodeOf_X5 0 (by decide) klX5_takeCodeOf_18 rfl rfl dX5_takeCodeOf_1 ?_
  refine g_aload_n (pc := 4) F 1 dX5_takeCodeOf_4 rfl ?_
  refine g_get (pc := 5) (v := .ref (ad (13 * p1 + 3))) (k := 13 * p1 + 2) (ci := 5) (fs := (oX5 ad (p1))) (C := RX5) (T := TX5) (N := 3) F (P_lt h1 (by decide)) (sh_X5 h1) rfl kiX5_takeCodeOf_X5 0 (by decide) klX5_takeCodeOf_18 rfl rfl dX5_takeCodeOf_5 ?_
  refine g_vv (pc := 8) (k := 13 * pp + 3) (ci := 1) (fs := (oX1 ad (pp))) (C := RX1) (T := TX1) (N := 5) (As := [.ref (ad (13 * p1 + 3))]) (st := []) F (c_X1_become l D ad cs F.2.2.1 fu pp p1 hpp h1 M) (P_lt hpp (by decide)) (sh_X1 hpp) rfl (cwV 1 F.1.2.2.2.2 gX5_takeCodeOf_X1_become rfl rfl rfl hdV_X1_become ⟨by decide, by decide⟩) rfl rfl (Nat.le_of_ble_eq_true rfl) dX5_takeCodeOf_8 ⟨Nat.zero_le _, Nat.zero_le _⟩ (fun r1 M2 => ?_)
  refine g_aload_n (pc := 11) F 0 dX5_takeCodeOf_11 rfl ?_
  refine g_get (pc := 12) (v := .ref (ad (13 * pp + 8))) (k := 13 * pp + 2) (ci := 5) (fs := (oX5 ad (pp))) (C := RX5) (T := TX5) (N := 3) F (P_lt hpp (by decide)) (sh_X5 hpp) rfl kiX5_takeCodeOf_X5 1 (by decide) klX5_takeCodeOf_22 rfl rfl dX5_takeCodeOf_12 ?_
  refine g_vv (pc := 15) (k := 13 * pp + 8) (ci := 4) (fs := (oX4 ad (pp))) (C := RX4) (T := TX4) (N := 14) (As := []) (st := []) F (c_X4_forget l D ad cs F.2.2.1 pp hpp M2) (P_lt hpp (by decide)) (sh_X4 hpp) rfl (cwV 0 F.1.2.2.2.2 gX5_takeCodeOf_X4_forget rfl rfl rfl hdV_X4_forget ⟨by decide, by decide⟩) rfl rfl (Nat.le_of_ble_eq_true rfl) dX5_takeCodeOf_15 ⟨Nat.zero_le _, Nat.zero_le _⟩ (fun r3 M4 => ?_)
  exact g_vret (pc := 18) F hr hlk dX5_takeCodeOf_18
-- X7_size
def rmX7_size : Room := { frames := 0, cells := 0, slots := 0, locals := 0 }
def f_X7_size  (M : Mem) : Option (Int32 × Mem) := some (M (58) 1, M)
set_option maxRecDepth 20000 in
theorem kiX7_size_X7 : ∀ w ∈ u_ws RX7 TX7 2, w ∈ wsX7_size := by decide +kernel
set_option maxRecDepth 20000 in
theorem klX7_size_15 : Cond.fieldLink RX7 15 "DoorLister$Tape" "size" "I" ∈ wsX7_size := by decide +kernel
set_option maxHeartbeats 4000000 in
set_option maxRecDepth 100000 in
theorem c_X7_size (l : Launch) (D : va_G) (ad : Nat → Nat) (cs : Cs) (hi : Inj ad)  (M : Mem) : MI l yX7_size wsX7_size rmX7_size D ad cs [.ref (ad (58))] M (f_X7_size M) := by
  refine Mx.of (cc := cX7_size) (maxL := 1) (ret := (some .int)) (own := RX7) (lv := [(0, .ref (ad (58)))]) (by decide) rfl rfl (Nat.le_of_ble_eq_true rfl) rfl hi ?_
  intro p e s m below meth c F hr hlk
  unfold f_X7_size
  refine g_aload_n (pc := 0) F 0 dX7_size_0 rfl ?_
  refine g_get (pc := 1) (v := .int (M (58) 1)) (k := 58) (ci := 7) (fs := (oX7 ad)) (C := RX7) (T := TX7) (N := 2) F (by decide) (fun _ => rfl) rfl kiX7_size_X7 1 (by decide) klX7_size_15 rfl rfl dX7_size_1 ?_
  exact g_iret (pc := 4) F hr hlk dX7_size_4
-- X7_hasRoom
def rmX7_hasRoom : Room := { frames := 0, cells := 0, slots := 0, locals := 0 }
def f_X7_hasRoom (a1 : Int32) (M : Mem) : Option (Int32 × Mem) := if 80 < ((M (58) 1) + a1) then some (0, M) else some (1, M)
set_option maxRecDepth 20000 in
theorem kiX7_hasRoom_X7 : ∀ w ∈ u_ws RX7 TX7 2, w ∈ wsX7_hasRoom := by decide +kernel
set_option maxRecDepth 20000 in
theorem klX7_hasRoom_15 : Cond.fieldLink RX7 15 "DoorLister$Tape" "size" "I" ∈ wsX7_hasRoom := by decide +kernel
set_option maxHeartbeats 4000000 in
set_option maxRecDepth 100000 in
theorem c_X7_hasRoom (l : Launch) (D : va_G) (ad : Nat → Nat) (cs : Cs) (hi : Inj ad) (a1 : Int32) (M : Mem) : MI l yX7_hasRoom wsX7_hasRoom rmX7_hasRoom D ad cs [.ref (ad (58)), .int a1] M (f_X7_hasRoom a1 M) := by
  refine Mx.of (cc := cX7_hasRoom) (maxL := 2) (ret := (some .boolean)) (own := RX7) (lv := [(0, .ref (ad (58))), (1, .int a1)]) (by decide) rfl rfl (Nat.le_of_ble_eq_true rfl) rfl hi ?_
  intro p e s m below meth c F hr hlk
  unfold f_X7_hasRoom
  refine g_aload_n (pc := 0) F 0 dX7_hasRoom_0 rfl ?_
  refine g_get (pc := 1) (v := .int (M (58) 1)) (k := 58) (ci := 7) (fs := (oX7 ad)) (C := RX7) (T := TX7) (N := 2) F (by decide) (fun _ => rfl) rfl kiX7_hasRoom_X7 1 (by decide) klX7_hasRoom_15 rfl rfl dX7_hasRoom_1 ?_
  refine g_iload_n (pc := 4) F 1 dX7_hasRoom_4 rfl ?_
  refine g_iadd (pc := 5) F dX7_hasRoom_5 ?_
  refine g_bipush (pc := 6) (v := 80) F dX7_hasRoom_6 (by decide) ?_
  refine g_icmp_gt (pc := 8) F 15 dX7_hasRoom_8 (by decide) ?_ ?_
  · refine g_iconst (pc := 15) (v := 0) F dX7_hasRoom_15 (by decide) ?_
    exact g_zret (pc := 16) F hr hlk rfl dX7_hasRoom_16
  · refine g_iconst (pc := 11) (v := 1) F dX7_hasRoom_11 (by decide) ?_
    refine g_goto (pc := 12) F 16 dX7_hasRoom_12 (by decide) ?_
    exact g_zret (pc := 16) F hr hlk rfl dX7_hasRoom_16
-- X7_addWord
def rmX7_addWord : Room := { frames := 0, cells := 0, slots := 0, locals := 0 }
def f_X7_addWord_L3 (x1 : Int32) (k : Mem → Int32 → Option (Int32 × Mem)) : Nat → Mem → Int32 → Option (Int32 × Mem)
  | 0, _, _ => none
  | n + 1, M, x2 => if x2 < 0 then k M x2 else if 80 ≤ (M (58) 1) then k M x2 else if ix (M (58) 1) 80 then wr M (59) (M (58) 1).toNatClampNeg ((usr x1 x2) &&& (255 : Int32)) (fun M1 => wr M1 (58) 1 ((M1 (58) 1) + (1 : Int32)) (fun M2 => f_X7_addWord_L3 x1 k n M2 (x2 + (-8)))) else none
def f_X7_addWord (fu : Nat) (a1 : Int32) (M : Mem) : Option (Int32 × Mem) := f_X7_addWord_L3 a1 (fun M3 y4 => some (0, M3)) fu M 24
set_option maxRecDepth 20000 in
theorem kiX7_addWord_X7 : ∀ w ∈ u_ws RX7 TX7 2, w ∈ wsX7_addWord := by decide +kernel
set_option maxRecDepth 20000 in
theorem klX7_addWord_15 : Cond.fieldLink RX7 15 "DoorLister$Tape" "size" "I" ∈ wsX7_addWord := by decide +kernel
set_option maxRecDepth 20000 in
theorem klX7_addWord_9 : Cond.fieldLink RX7 9 "DoorLister$Tape" "bytes" "[I" ∈ wsX7_addWord := by decide +kernel
set_option maxHeartbeats 4000000 in
set_option maxRecDepth 100000 in
theorem w_X7_addWord_L3 {p : Program} {l : Launch} {e : Env} {s : State} {m : MethodId} {args : Array Value} {below : List Frame} {meth : Method} {c : Code} {D : va_G} {ad : Nat → Nat} {cs : Cs}  (x1 : Int32) (F : Fx p m c cX7_addWord 3 s args wsX7_addWord RX7 D ad cs (Ad ad)) (hr : meth.sig.returnType = none) (hlk : meth.locks = false) (k : Mem → Int32 → Option (Int32 × Mem)) (hkx : ∀ (M : Mem) (x2 : Int32), GoX p l e rmX7_addWord s m args below meth c 0 0 3 (fun rM => MQ below (cQv D ad cs rM) args s 0 0 (Ad ad)) D ad cs (Ad ad) M 48 [(0, .ref (ad (58))), (1, .int x1), (2, .int x2)] [] (k M x2)) : ∀ (n : Nat) (M : Mem) (x2 : Int32), GoX p l e rmX7_addWord s m args below meth c 0 0 3 (fun rM => MQ below (cQv D ad cs rM) args s 0 0 (Ad ad)) D ad cs (Ad ad) M 3 [(0, .ref (ad (58))), (1, .int x1), (2, .int x2)] [] (f_X7_addWord_L3 x1 k n M x2) := by
  intro n
  induction n with
  | zero => intro M x2; exact g_none
  | succ n ih =>
    intro M x2
    unfold f_X7_addWord_L3
    refine g_iload_n (pc := 3) F 2 dX7_addWord_3 rfl ?_
    refine g_if_lt (pc := 4) F 48 dX7_addWord_4 (by decide) ?_ ?_
    · exact hkx _ _
    · refine g_aload_n (pc := 7) F 0 dX7_addWord_7 rfl ?_
      refine g_get (pc := 8) (v := .int (M (58) 1)) (k := 58) (ci := 7) (fs := (oX7 ad)) (C := RX7) (T := TX7) (N := 2) F (by decide) (fun _ => rfl) rfl kiX7_addWord_X7 1 (by decide) klX7_addWord_15 rfl rfl dX7_addWord_8 ?_
      refine g_bipush (pc := 11) (v := 80) F dX7_addWord_11 (by decide) ?_
      refine g_icmp_ge (pc := 13) F 48 dX7_addWord_13 (by decide) ?_ ?_
      · exact hkx _ _
      · refine g_aload_n (pc := 16) F 0 dX7_addWord_16 rfl ?_
        refine g_get (pc := 17) (v := .ref (ad (59))) (k := 58) (ci := 7) (fs := (oX7 ad)) (C := RX7) (T := TX7) (N := 2) F (by decide) (fun _ => rfl) rfl kiX7_addWord_X7 0 (by decide) klX7_addWord_9 rfl rfl dX7_addWord_17 ?_
        refine g_aload_n (pc := 20) F 0 dX7_addWord_20 rfl ?_
        refine g_get (pc := 21) (v := .int (M (58) 1)) (k := 58) (ci := 7) (fs := (oX7 ad)) (C := RX7) (T := TX7) (N := 2) F (by decide) (fun _ => rfl) rfl kiX7_addWord_X7 1 (by decide) klX7_addWord_15 rfl rfl dX7_addWord_21 ?_
        refine g_iload_n (pc := 24) F 1 dX7_addWord_24 rfl ?_
        refine g_iload_n (pc := 25) F 2 dX7_addWord_25 rfl ?_
        refine g_iushr (pc := 26) F dX7_addWord_26 ?_
        refine g_sipush (pc := 27) (v := 255) F dX7_addWord_27 (by decide) ?_
        refine g_iand (pc := 30) F dX7_addWord_30 ?_
        refine g_iast (pc := 31) (k := 59) (n := 80) F (by decide) (fun _ => rfl) dX7_addWord_31 (fun M1 => ?_)
        refine g_aload_n (pc := 32) F 0 dX7_addWord_32 rfl ?_
        refine g_dup (pc := 33) F rfl dX7_addWord_33 ?_
        refine g_get (pc := 34) (v := .int (M1 (58) 1)) (k := 58) (ci := 7) (fs := (oX7 ad)) (C := RX7) (T := TX7) (N := 2) F (by decide) (fun _ => rfl) rfl kiX7_addWord_X7 1 (by decide) klX7_addWord_15 rfl rfl dX7_addWord_34 ?_
        refine g_iconst (pc := 37) (v := 1) F dX7_addWord_37 (by decide) ?_
        refine g_iadd (pc := 38) F dX7_addWord_38 ?_
        refine g_put (pc := 39) (k := 58) (ci := 7) (fs := (oX7 ad)) (C := RX7) (T := TX7) (N := 2) F (by decide) (fun _ => rfl) rfl kiX7_addWord_X7 tyX7 tyX7_ok nmX7 1 (by decide) klX7_addWord_15 rfl rfl rfl rfl (fun _ => rfl) (Nat.le_of_ble_eq_true rfl) dX7_addWord_39 (fun M2 => ?_)
        refine g_iinc (pc := 42) (v := x2 + (-8)) F [(0, .ref (ad (58))), (1, .int x1), (2, .int (x2 + (-8)))] 2 dX7_addWord_42 rfl rfl (by decide) rfl rfl rfl ?_
        refine g_goto (pc := 45) F 3 dX7_addWord_45 (by decide) ?_
        exact ih _ _
set_option maxHeartbeats 4000000 in
set_option maxRecDepth 100000 in
theorem c_X7_addWord (l : Launch) (D : va_G) (ad : Nat → Nat) (cs : Cs) (hi : Inj ad) (fu : Nat) (a1 : Int32) (M : Mem) : MV l yX7_addWord wsX7_addWord rmX7_addWord D ad cs [.ref (ad (58)), .int a1] M (f_X7_addWord fu a1 M) := by
  refine Mx.of (cc := cX7_addWord) (maxL := 3) (ret := none) (own := RX7) (lv := [(0, .ref (ad (58))), (1, .int a1)]) (by decide) rfl rfl (Nat.le_of_ble_eq_true rfl) rfl hi ?_
  intro p e s m below meth c F hr hlk
  unfold f_X7_addWord
  refine g_bipush (pc := 0) (v := 24) F dX7_addWord_0 (by decide) ?_
  refine g_istore_n (pc := 2) F [(0, .ref (ad (58))), (1, .int a1), (2, .int 24)] dX7_addWord_2 (by decide) rfl rfl rfl ?_
  refine w_X7_addWord_L3 a1 F hr hlk _ (fun M3 y4 => ?_) _ _ _
  exact g_vret (pc := 48) F hr hlk dX7_addWord_48
-- X7_empty
def rmX7_empty : Room := { frames := 0, cells := 0, slots := 0, locals := 0 }
def f_X7_empty  (M : Mem) : Option (Int32 × Mem) := wr M (58) 1 0 (fun M1 => some (0, M1))
set_option maxRecDepth 20000 in
theorem kiX7_empty_X7 : ∀ w ∈ u_ws RX7 TX7 2, w ∈ wsX7_empty := by decide +kernel
set_option maxRecDepth 20000 in
theorem klX7_empty_15 : Cond.fieldLink RX7 15 "DoorLister$Tape" "size" "I" ∈ wsX7_empty := by decide +kernel
set_option maxHeartbeats 4000000 in
set_option maxRecDepth 100000 in
theorem c_X7_empty (l : Launch) (D : va_G) (ad : Nat → Nat) (cs : Cs) (hi : Inj ad)  (M : Mem) : MV l yX7_empty wsX7_empty rmX7_empty D ad cs [.ref (ad (58))] M (f_X7_empty M) := by
  refine Mx.of (cc := cX7_empty) (maxL := 1) (ret := none) (own := RX7) (lv := [(0, .ref (ad (58)))]) (by decide) rfl rfl (Nat.le_of_ble_eq_true rfl) rfl hi ?_
  intro p e s m below meth c F hr hlk
  unfold f_X7_empty
  refine g_aload_n (pc := 0) F 0 dX7_empty_0 rfl ?_
  refine g_iconst (pc := 1) (v := 0) F dX7_empty_1 (by decide) ?_
  refine g_put (pc := 2) (k := 58) (ci := 7) (fs := (oX7 ad)) (C := RX7) (T := TX7) (N := 2) F (by decide) (fun _ => rfl) rfl kiX7_empty_X7 tyX7 tyX7_ok nmX7 1 (by decide) klX7_empty_15 rfl rfl rfl rfl (fun _ => rfl) (Nat.le_of_ble_eq_true rfl) dX7_empty_2 (fun M1 => ?_)
  exact g_vret (pc := 5) F hr hlk dX7_empty_5
-- X8_isValue
def rmX8_isValue : Room := { frames := 0, cells := 0, slots := 0, locals := 0 }
def f_X8_isValue (a0 : Int32) (M : Mem) : Option (Int32 × Mem) := if a0 < 0 then some (0, M) else if 32 ≤ a0 then some (0, M) else some (1, M)
set_option maxHeartbeats 4000000 in
set_option maxRecDepth 100000 in
theorem c_X8_isValue (l : Launch) (D : va_G) (ad : Nat → Nat) (cs : Cs) (hi : Inj ad) (a0 : Int32) (M : Mem) : MI l yX8_isValue wsX8_isValue rmX8_isValue D ad cs [.int a0] M (f_X8_isValue a0 M) := by
  refine Mx.of (cc := cX8_isValue) (maxL := 1) (ret := (some .boolean)) (own := RX8) (lv := [(0, .int a0)]) (by decide) rfl rfl (Nat.le_of_ble_eq_true rfl) rfl hi ?_
  intro p e s m below meth c F hr hlk
  unfold f_X8_isValue
  refine g_iload_n (pc := 0) F 0 dX8_isValue_0 rfl ?_
  refine g_if_lt (pc := 1) F 14 dX8_isValue_1 (by decide) ?_ ?_
  · refine g_iconst (pc := 14) (v := 0) F dX8_isValue_14 (by decide) ?_
    exact g_zret (pc := 15) F hr hlk rfl dX8_isValue_15
  · refine g_iload_n (pc := 4) F 0 dX8_isValue_4 rfl ?_
    refine g_bipush (pc := 5) (v := 32) F dX8_isValue_5 (by decide) ?_
    refine g_icmp_ge (pc := 7) F 14 dX8_isValue_7 (by decide) ?_ ?_
    · refine g_iconst (pc := 14) (v := 0) F dX8_isValue_14 (by decide) ?_
      exact g_zret (pc := 15) F hr hlk rfl dX8_isValue_15
    · refine g_iconst (pc := 10) (v := 1) F dX8_isValue_10 (by decide) ?_
      refine g_goto (pc := 11) F 15 dX8_isValue_11 (by decide) ?_
      exact g_zret (pc := 15) F hr hlk rfl dX8_isValue_15
-- X8_isInstruction
def rmX8_isInstruction : Room := { frames := 1, cells := 0, slots := 0, locals := 20 }
def f_X8_isInstruction (a0 : Int32) (a1 : Int32) (a2 : Int32) (a3 : Int32) (M : Mem) : Option (Int32 × Mem) := if a0 < 0 then some (0, M) else if 9 < a0 then some (0, M) else if a1 < 0 then some (0, M) else if 2 ≤ a1 then some (0, M) else bnd (f_X8_isValue a2 M) (fun r1 M2 => if r1 = 0 then some (0, M2) else if a3 < 0 then some (0, M2) else if 24 < a3 then some (0, M2) else some (1, M2))
set_option maxHeartbeats 4000000 in
set_option maxRecDepth 100000 in
theorem c_X8_isInstruction (l : Launch) (D : va_G) (ad : Nat → Nat) (cs : Cs) (hi : Inj ad) (a0 : Int32) (a1 : Int32) (a2 : Int32) (a3 : Int32) (M : Mem) : MI l yX8_isInstruction wsX8_isInstruction rmX8_isInstruction D ad cs [.int a0, .int a1, .int a2, .int a3] M (f_X8_isInstruction a0 a1 a2 a3 M) := by
  refine Mx.of (cc := cX8_isInstruction) (maxL := 4) (ret := (some .boolean)) (own := RX8) (lv := [(0, .int a0), (1, .int a1), (2, .int a2), (3, .int a3)]) (by decide) rfl rfl (Nat.le_of_ble_eq_true rfl) rfl hi ?_
  intro p e s m below meth c F hr hlk
  unfold f_X8_isInstruction
  refine g_iload_n (pc := 0) F 0 dX8_isInstruction_0 rfl ?_
  refine g_if_lt (pc := 1) F 40 dX8_isInstruction_1 (by decide) ?_ ?_
  · refine g_iconst (pc := 40) (v := 0) F dX8_isInstruction_40 (by decide) ?_
    exact g_zret (pc := 41) F hr hlk rfl dX8_isInstruction_41
  · refine g_iload_n (pc := 4) F 0 dX8_isInstruction_4 rfl ?_
    refine g_bipush (pc := 5) (v := 9) F dX8_isInstruction_5 (by decide) ?_
    refine g_icmp_gt (pc := 7) F 40 dX8_isInstruction_7 (by decide) ?_ ?_
    · refine g_iconst (pc := 40) (v := 0) F dX8_isInstruction_40 (by decide) ?_
      exact g_zret (pc := 41) F hr hlk rfl dX8_isInstruction_41
    · refine g_iload_n (pc := 10) F 1 dX8_isInstruction_10 rfl ?_
      refine g_if_lt (pc := 11) F 40 dX8_isInstruction_11 (by decide) ?_ ?_
      · refine g_iconst (pc := 40) (v := 0) F dX8_isInstruction_40 (by decide) ?_
        exact g_zret (pc := 41) F hr hlk rfl dX8_isInstruction_41
      · refine g_iload_n (pc := 14) F 1 dX8_isInstruction_14 rfl ?_
        refine g_iconst (pc := 15) (v := 2) F dX8_isInstruction_15 (by decide) ?_
        refine g_icmp_ge (pc := 16) F 40 dX8_isInstruction_16 (by decide) ?_ ?_
        · refine g_iconst (pc := 40) (v := 0) F dX8_isInstruction_40 (by decide) ?_
          exact g_zret (pc := 41) F hr hlk rfl dX8_isInstruction_41
        · refine g_iload_n (pc := 19) F 2 dX8_isInstruction_19 rfl ?_
          refine g_si (pc := 20) (As := [.int a2]) (st := []) F (c_X8_isValue l D ad cs F.2.2.1 a2 M) (va_cwS 1 F.1.2.2.2.2 gX8_isInstruction_X8_isValue rfl rfl rfl hdS_X8_isValue ⟨by decide, by decide⟩) rfl rfl (Nat.le_of_ble_eq_true rfl) dX8_isInstruction_20 ⟨Nat.zero_le _, Nat.zero_le _⟩ (fun r1 M2 => ?_)
          refine g_if_eq (pc := 23) F 40 dX8_isInstruction_23 (by decide) ?_ ?_
          · refine g_iconst (pc := 40) (v := 0) F dX8_isInstruction_40 (by decide) ?_
            exact g_zret (pc := 41) F hr hlk rfl dX8_isInstruction_41
          · refine g_iload_n (pc := 26) F 3 dX8_isInstruction_26 rfl ?_
            refine g_if_lt (pc := 27) F 40 dX8_isInstruction_27 (by decide) ?_ ?_
            · refine g_iconst (pc := 40) (v := 0) F dX8_isInstruction_40 (by decide) ?_
              exact g_zret (pc := 41) F hr hlk rfl dX8_isInstruction_41
            · refine g_iload_n (pc := 30) F 3 dX8_isInstruction_30 rfl ?_
              refine g_bipush (pc := 31) (v := 24) F dX8_isInstruction_31 (by decide) ?_
              refine g_icmp_gt (pc := 33) F 40 dX8_isInstruction_33 (by decide) ?_ ?_
              · refine g_iconst (pc := 40) (v := 0) F dX8_isInstruction_40 (by decide) ?_
                exact g_zret (pc := 41) F hr hlk rfl dX8_isInstruction_41
              · refine g_iconst (pc := 36) (v := 1) F dX8_isInstruction_36 (by decide) ?_
                refine g_goto (pc := 37) F 41 dX8_isInstruction_37 (by decide) ?_
                exact g_zret (pc := 41) F hr hlk rfl dX8_isInstruction_41
-- X8_isProgram
def rmX8_isProgram : Room := { frames := 0, cells := 0, slots := 0, locals := 0 }
def f_X8_isProgram (a0 : Int32) (M : Mem) : Option (Int32 × Mem) := if a0 < 0 then some (0, M) else if 4 ≤ a0 then some (0, M) else some (1, M)
set_option maxHeartbeats 4000000 in
set_option maxRecDepth 100000 in
theorem c_X8_isProgram (l : Launch) (D : va_G) (ad : Nat → Nat) (cs : Cs) (hi : Inj ad) (a0 : Int32) (M : Mem) : MI l yX8_isProgram wsX8_isProgram rmX8_isProgram D ad cs [.int a0] M (f_X8_isProgram a0 M) := by
  refine Mx.of (cc := cX8_isProgram) (maxL := 1) (ret := (some .boolean)) (own := RX8) (lv := [(0, .int a0)]) (by decide) rfl rfl (Nat.le_of_ble_eq_true rfl) rfl hi ?_
  intro p e s m below meth c F hr hlk
  unfold f_X8_isProgram
  refine g_iload_n (pc := 0) F 0 dX8_isProgram_0 rfl ?_
  refine g_if_lt (pc := 1) F 13 dX8_isProgram_1 (by decide) ?_ ?_
  · refine g_iconst (pc := 13) (v := 0) F dX8_isProgram_13 (by decide) ?_
    exact g_zret (pc := 14) F hr hlk rfl dX8_isProgram_14
  · refine g_iload_n (pc := 4) F 0 dX8_isProgram_4 rfl ?_
    refine g_iconst (pc := 5) (v := 4) F dX8_isProgram_5 (by decide) ?_
    refine g_icmp_ge (pc := 6) F 13 dX8_isProgram_6 (by decide) ?_ ?_
    · refine g_iconst (pc := 13) (v := 0) F dX8_isProgram_13 (by decide) ?_
      exact g_zret (pc := 14) F hr hlk rfl dX8_isProgram_14
    · refine g_iconst (pc := 9) (v := 1) F dX8_isProgram_9 (by decide) ?_
      refine g_goto (pc := 10) F 14 dX8_isProgram_10 (by decide) ?_
      exact g_zret (pc := 14) F hr hlk rfl dX8_isProgram_14
-- X8_code
def rmX8_code : Room := { frames := 3, cells := 0, slots := 0, locals := 75 }
def f_X8_code (a1 : Int32) (a2 : Int32) (a3 : Int32) (a4 : Int32) (a5 : Int32) (M : Mem) : Option (Int32 × Mem) := bnd (f_X8_isProgram a1 M) (fun r1 M2 => if r1 = 0 then some ((-1), M2) else bnd (f_X8_isInstruction a2 a3 a4 a5 M2) (fun r3 M4 => if r3 = 0 then some ((-1), M4) else if ix a1 4 then bnd (f_X5_append a1.toNatClampNeg a2 a3 a4 a5 M4) (fun r6 M7 => some (r6, M7)) else none))
set_option maxRecDepth 20000 in
theorem kiX8_code_X8 : ∀ w ∈ u_ws RX8 TX8 6, w ∈ wsX8_code := by decide +kernel
set_option maxRecDepth 20000 in
theorem klX8_code_11 : Cond.fieldLink RX8 11 "DoorLister" "programs" "[LDoorLister$Program;" ∈ wsX8_code := by decide +kernel
set_option maxHeartbeats 4000000 in
set_option maxRecDepth 100000 in
theorem c_X8_code (l : Launch) (D : va_G) (ad : Nat → Nat) (cs : Cs) (hi : Inj ad) (a1 : Int32) (a2 : Int32) (a3 : Int32) (a4 : Int32) (a5 : Int32) (M : Mem) : MI l yX8_code wsX8_code rmX8_code D ad cs [.ref (ad (0)), .int a1, .int a2, .int a3, .int a4, .int a5] M (f_X8_code a1 a2 a3 a4 a5 M) := by
  refine Mx.of (cc := cX8_code) (maxL := 6) (ret := (some .int)) (own := RX8) (lv := [(0, .ref (ad (0))), (1, .int a1), (2, .int a2), (3, .int a3), (4, .int a4), (5, .int a5)]) (by decide) rfl rfl (Nat.le_of_ble_eq_true rfl) rfl hi ?_
  intro p e s m below meth c F hr hlk
  unfold f_X8_code
  refine g_iload_n (pc := 0) F 1 dX8_code_0 rfl ?_
  refine g_si (pc := 1) (As := [.int a1]) (st := []) F (c_X8_isProgram l D ad cs F.2.2.1 a1 M) (va_cwS 1 F.1.2.2.2.2 gX8_code_X8_isProgram rfl rfl rfl hdS_X8_isProgram ⟨by decide, by decide⟩) rfl rfl (Nat.le_of_ble_eq_true rfl) dX8_code_1 ⟨Nat.zero_le _, Nat.zero_le _⟩ (fun r1 M2 => ?_)
  refine g_if_eq (pc := 4) F 19 dX8_code_4 (by decide) ?_ ?_
  · refine g_iconst (pc := 19) (v := (-1)) F dX8_code_19 (by decide) ?_
    exact g_iret (pc := 20) F hr hlk dX8_code_20
  · refine g_iload_n (pc := 7) F 2 dX8_code_7 rfl ?_
    refine g_iload_n (pc := 8) F 3 dX8_code_8 rfl ?_
    refine g_iload (pc := 9) F 4 dX8_code_9 rfl ?_
    refine g_iload (pc := 11) F 5 dX8_code_11 rfl ?_
    refine g_si (pc := 13) (As := [.int a2, .int a3, .int a4, .int a5]) (st := []) F (c_X8_isInstruction l D ad cs F.2.2.1 a2 a3 a4 a5 M2) (va_cwS 4 F.1.2.2.2.2 gX8_code_X8_isInstruction rfl rfl rfl hdS_X8_isInstruction ⟨by decide, by decide⟩) rfl rfl (Nat.le_of_ble_eq_true rfl) dX8_code_13 ⟨Nat.zero_le _, Nat.zero_le _⟩ (fun r3 M4 => ?_)
    refine g_if_ne (pc := 16) F 21 dX8_code_16 (by decide) ?_ ?_
    · refine g_aload_n (pc := 21) F 0 dX8_code_21 rfl ?_
      refine g_get (pc := 22) (v := .ref (ad (1))) (k := 0) (ci := 8) (fs := (oX8 ad)) (C := RX8) (T := TX8) (N := 6) F (by decide) (fun _ => rfl) rfl kiX8_code_X8 0 (by decide) klX8_code_11 rfl rfl dX8_code_22 ?_
      refine g_iload_n (pc := 25) F 1 dX8_code_25 rfl ?_
      refine g_aald (pc := 26) F dX8_code_26 (fun hj5 => ?_)
      refine g_iload_n (pc := 27) F 2 dX8_code_27 rfl ?_
      refine g_iload_n (pc := 28) F 3 dX8_code_28 rfl ?_
      refine g_iload (pc := 29) F 4 dX8_code_29 rfl ?_
      refine g_iload (pc := 31) F 5 dX8_code_31 rfl ?_
      refine g_vi (pc := 33) (k := 13 * a1.toNatClampNeg + 2) (ci := 5) (fs := (oX5 ad (a1.toNatClampNeg))) (C := RX5) (T := TX5) (N := 3) (As := [.int a2, .int a3, .int a4, .int a5]) (st := []) F (c_X5_append l D ad cs F.2.2.1 a1.toNatClampNeg a2 a3 a4 a5 hj5 M4) (P_lt hj5 (by decide)) (sh_X5 hj5) rfl (cwV 4 F.1.2.2.2.2 gX8_code_X5_append rfl rfl rfl hdV_X5_append ⟨by decide, by decide⟩) rfl rfl (Nat.le_of_ble_eq_true rfl) dX8_code_33 ⟨Nat.zero_le _, Nat.zero_le _⟩ (fun r6 M7 => ?_)
      exact g_iret (pc := 36) F hr hlk dX8_code_36
    · refine g_iconst (pc := 19) (v := (-1)) F dX8_code_19 (by decide) ?_
      exact g_iret (pc := 20) F hr hlk dX8_code_20
-- X8_change
def rmX8_change : Room := { frames := 2, cells := 0, slots := 0, locals := 50 }
def f_X8_change (a1 : Int32) (a2 : Int32) (a3 : Int32) (a4 : Int32) (a5 : Int32) (a6 : Int32) (M : Mem) : Option (Int32 × Mem) := bnd (f_X8_isProgram a1 M) (fun r1 M2 => if r1 = 0 then some (0, M2) else bnd (f_X8_isInstruction a3 a4 a5 a6 M2) (fun r3 M4 => if r3 = 0 then some (0, M4) else if ix a1 4 then bnd (f_X5_replace a1.toNatClampNeg a2 a3 a4 a5 a6 M4) (fun r6 M7 => if vp_nar .boolean r6 = r6 then some (r6, M7) else none) else none))
set_option maxRecDepth 20000 in
theorem kiX8_change_X8 : ∀ w ∈ u_ws RX8 TX8 6, w ∈ wsX8_change := by decide +kernel
set_option maxRecDepth 20000 in
theorem klX8_change_11 : Cond.fieldLink RX8 11 "DoorLister" "programs" "[LDoorLister$Program;" ∈ wsX8_change := by decide +kernel
set_option maxHeartbeats 4000000 in
set_option maxRecDepth 100000 in
theorem c_X8_change (l : Launch) (D : va_G) (ad : Nat → Nat) (cs : Cs) (hi : Inj ad) (a1 : Int32) (a2 : Int32) (a3 : Int32) (a4 : Int32) (a5 : Int32) (a6 : Int32) (M : Mem) : MI l yX8_change wsX8_change rmX8_change D ad cs [.ref (ad (0)), .int a1, .int a2, .int a3, .int a4, .int a5, .int a6] M (f_X8_change a1 a2 a3 a4 a5 a6 M) := by
  refine Mx.of (cc := cX8_change) (maxL := 7) (ret := (some .boolean)) (own := RX8) (lv := [(0, .ref (ad (0))), (1, .int a1), (2, .int a2), (3, .int a3), (4, .int a4), (5, .int a5), (6, .int a6)]) (by decide) rfl rfl (Nat.le_of_ble_eq_true rfl) rfl hi ?_
  intro p e s m below meth c F hr hlk
  unfold f_X8_change
  refine g_iload_n (pc := 0) F 1 dX8_change_0 rfl ?_
  refine g_si (pc := 1) (As := [.int a1]) (st := []) F (c_X8_isProgram l D ad cs F.2.2.1 a1 M) (va_cwS 1 F.1.2.2.2.2 gX8_change_X8_isProgram rfl rfl rfl hdS_X8_isProgram ⟨by decide, by decide⟩) rfl rfl (Nat.le_of_ble_eq_true rfl) dX8_change_1 ⟨Nat.zero_le _, Nat.zero_le _⟩ (fun r1 M2 => ?_)
  refine g_if_eq (pc := 4) F 20 dX8_change_4 (by decide) ?_ ?_
  · refine g_iconst (pc := 20) (v := 0) F dX8_change_20 (by decide) ?_
    exact g_zret (pc := 21) F hr hlk rfl dX8_change_21
  · refine g_iload_n (pc := 7) F 3 dX8_change_7 rfl ?_
    refine g_iload (pc := 8) F 4 dX8_change_8 rfl ?_
    refine g_iload (pc := 10) F 5 dX8_change_10 rfl ?_
    refine g_iload (pc := 12) F 6 dX8_change_12 rfl ?_
    refine g_si (pc := 14) (As := [.int a3, .int a4, .int a5, .int a6]) (st := []) F (c_X8_isInstruction l D ad cs F.2.2.1 a3 a4 a5 a6 M2) (va_cwS 4 F.1.2.2.2.2 gX8_change_X8_isInstruction rfl rfl rfl hdS_X8_isInstruction ⟨by decide, by decide⟩) rfl rfl (Nat.le_of_ble_eq_true rfl) dX8_change_14 ⟨Nat.zero_le _, Nat.zero_le _⟩ (fun r3 M4 => ?_)
    refine g_if_ne (pc := 17) F 22 dX8_change_17 (by decide) ?_ ?_
    · refine g_aload_n (pc := 22) F 0 dX8_change_22 rfl ?_
      refine g_get (pc := 23) (v := .ref (ad (1))) (k := 0) (ci := 8) (fs := (oX8 ad)) (C := RX8) (T := TX8) (N := 6) F (by decide) (fun _ => rfl) rfl kiX8_change_X8 0 (by decide) klX8_change_11 rfl rfl dX8_change_23 ?_
      refine g_iload_n (pc := 26) F 1 dX8_change_26 rfl ?_
      refine g_aald (pc := 27) F dX8_change_27 (fun hj5 => ?_)
      refine g_iload_n (pc := 28) F 2 dX8_change_28 rfl ?_
      refine g_iload_n (pc := 29) F 3 dX8_change_29 rfl ?_
      refine g_iload (pc := 30) F 4 dX8_change_30 rfl ?_
      refine g_iload (pc := 32) F 5 dX8_change_32 rfl ?_
      refine g_iload (pc := 34) F 6 dX8_change_34 rfl ?_
      refine g_vi (pc := 36) (k := 13 * a1.toNatClampNeg + 2) (ci := 5) (fs := (oX5 ad (a1.toNatClampNeg))) (C := RX5) (T := TX5) (N := 3) (As := [.int a2, .int a3, .int a4, .int a5, .int a6]) (st := []) F (c_X5_replace l D ad cs F.2.2.1 a1.toNatClampNeg a2 a3 a4 a5 a6 hj5 M4) (P_lt hj5 (by decide)) (sh_X5 hj5) rfl (cwV 5 F.1.2.2.2.2 gX8_change_X5_replace rfl rfl rfl hdV_X5_replace ⟨by decide, by decide⟩) rfl rfl (Nat.le_of_ble_eq_true rfl) dX8_change_36 ⟨Nat.zero_le _, Nat.zero_le _⟩ (fun r6 M7 => ?_)
      exact g_zretx (pc := 39) F hr hlk dX8_change_39
    · refine g_iconst (pc := 20) (v := 0) F dX8_change_20 (by decide) ?_
      exact g_zret (pc := 21) F hr hlk rfl dX8_change_21
-- X8_copy
def rmX8_copy : Room := { frames := 3, cells := 0, slots := 0, locals := 68 }
def f_X8_copy (fu : Nat) (a1 : Int32) (a2 : Int32) (M : Mem) : Option (Int32 × Mem) := bnd (f_X8_isProgram a1 M) (fun r1 M2 => if r1 = 0 then some (0, M2) else bnd (f_X8_isProgram a2 M2) (fun r3 M4 => if r3 = 0 then some (0, M4) else if a1 = a2 then some (0, M4) else if ix a1 4 then if ix a2 4 then bnd (f_X5_takeCodeOf fu a1.toNatClampNeg a2.toNatClampNeg M4) (fun r7 M8 => some (1, M8)) else none else none))
set_option maxRecDepth 20000 in
theorem kiX8_copy_X8 : ∀ w ∈ u_ws RX8 TX8 6, w ∈ wsX8_copy := by decide +kernel
set_option maxRecDepth 20000 in
theorem klX8_copy_11 : Cond.fieldLink RX8 11 "DoorLister" "programs" "[LDoorLister$Program;" ∈ wsX8_copy := by decide +kernel
set_option maxHeartbeats 4000000 in
set_option maxRecDepth 100000 in
theorem c_X8_copy (l : Launch) (D : va_G) (ad : Nat → Nat) (cs : Cs) (hi : Inj ad) (fu : Nat) (a1 : Int32) (a2 : Int32) (M : Mem) : MI l yX8_copy wsX8_copy rmX8_copy D ad cs [.ref (ad (0)), .int a1, .int a2] M (f_X8_copy fu a1 a2 M) := by
  refine Mx.of (cc := cX8_copy) (maxL := 3) (ret := (some .boolean)) (own := RX8) (lv := [(0, .ref (ad (0))), (1, .int a1), (2, .int a2)]) (by decide) rfl rfl (Nat.le_of_ble_eq_true rfl) rfl hi ?_
  intro p e s m below meth c F hr hlk
  unfold f_X8_copy
  refine g_iload_n (pc := 0) F 1 dX8_copy_0 rfl ?_
  refine g_si (pc := 1) (As := [.int a1]) (st := []) F (c_X8_isProgram l D ad cs F.2.2.1 a1 M) (va_cwS 1 F.1.2.2.2.2 gX8_copy_X8_isProgram rfl rfl rfl hdS_X8_isProgram ⟨by decide, by decide⟩) rfl rfl (Nat.le_of_ble_eq_true rfl) dX8_copy_1 ⟨Nat.zero_le _, Nat.zero_le _⟩ (fun r1 M2 => ?_)
  refine g_if_eq (pc := 4) F 19 dX8_copy_4 (by decide) ?_ ?_
  · refine g_iconst (pc := 19) (v := 0) F dX8_copy_19 (by decide) ?_
    exact g_zret (pc := 20) F hr hlk rfl dX8_copy_20
  · refine g_iload_n (pc := 7) F 2 dX8_copy_7 rfl ?_
    refine g_si (pc := 8) (As := [.int a2]) (st := []) F (c_X8_isProgram l D ad cs F.2.2.1 a2 M2) (va_cwS 1 F.1.2.2.2.2 gX8_copy_X8_isProgram rfl rfl rfl hdS_X8_isProgram ⟨by decide, by decide⟩) rfl rfl (Nat.le_of_ble_eq_true rfl) dX8_copy_8 ⟨Nat.zero_le _, Nat.zero_le _⟩ (fun r3 M4 => ?_)
    refine g_if_eq (pc := 11) F 19 dX8_copy_11 (by decide) ?_ ?_
    · refine g_iconst (pc := 19) (v := 0) F dX8_copy_19 (by decide) ?_
      exact g_zret (pc := 20) F hr hlk rfl dX8_copy_20
    · refine g_iload_n (pc := 14) F 1 dX8_copy_14 rfl ?_
      refine g_iload_n (pc := 15) F 2 dX8_copy_15 rfl ?_
      refine g_icmp_ne (pc := 16) F 21 dX8_copy_16 (by decide) ?_ ?_
      · refine g_aload_n (pc := 21) F 0 dX8_copy_21 rfl ?_
        refine g_get (pc := 22) (v := .ref (ad (1))) (k := 0) (ci := 8) (fs := (oX8 ad)) (C := RX8) (T := TX8) (N := 6) F (by decide) (fun _ => rfl) rfl kiX8_copy_X8 0 (by decide) klX8_copy_11 rfl rfl dX8_copy_22 ?_
        refine g_iload_n (pc := 25) F 1 dX8_copy_25 rfl ?_
        refine g_aald (pc := 26) F dX8_copy_26 (fun hj5 => ?_)
        refine g_aload_n (pc := 27) F 0 dX8_copy_27 rfl ?_
        refine g_get (pc := 28) (v := .ref (ad (1))) (k := 0) (ci := 8) (fs := (oX8 ad)) (C := RX8) (T := TX8) (N := 6) F (by decide) (fun _ => rfl) rfl kiX8_copy_X8 0 (by decide) klX8_copy_11 rfl rfl dX8_copy_28 ?_
        refine g_iload_n (pc := 31) F 2 dX8_copy_31 rfl ?_
        refine g_aald (pc := 32) F dX8_copy_32 (fun hj6 => ?_)
        refine g_vv (pc := 33) (k := 13 * a1.toNatClampNeg + 2) (ci := 5) (fs := (oX5 ad (a1.toNatClampNeg))) (C := RX5) (T := TX5) (N := 3) (As := [.ref (ad (13 * a2.toNatClampNeg + 2))]) (st := []) F (c_X5_takeCodeOf l D ad cs F.2.2.1 fu a1.toNatClampNeg a2.toNatClampNeg hj5 hj6 M4) (P_lt hj5 (by decide)) (sh_X5 hj5) rfl (cwV 1 F.1.2.2.2.2 gX8_copy_X5_takeCodeOf rfl rfl rfl hdV_X5_takeCodeOf ⟨by decide, by decide⟩) rfl rfl (Nat.le_of_ble_eq_true rfl) dX8_copy_33 ⟨Nat.zero_le _, Nat.zero_le _⟩ (fun r7 M8 => ?_)
        refine g_iconst (pc := 36) (v := 1) F dX8_copy_36 (by decide) ?_
        exact g_zret (pc := 37) F hr hlk rfl dX8_copy_37
      · refine g_iconst (pc := 19) (v := 0) F dX8_copy_19 (by decide) ?_
        exact g_zret (pc := 20) F hr hlk rfl dX8_copy_20
-- X8_isPhase
def rmX8_isPhase : Room := { frames := 0, cells := 0, slots := 0, locals := 0 }
def f_X8_isPhase (a0 : Int32) (M : Mem) : Option (Int32 × Mem) := if a0 < 0 then some (0, M) else if 2 ≤ a0 then some (0, M) else some (1, M)
set_option maxHeartbeats 4000000 in
set_option maxRecDepth 100000 in
theorem c_X8_isPhase (l : Launch) (D : va_G) (ad : Nat → Nat) (cs : Cs) (hi : Inj ad) (a0 : Int32) (M : Mem) : MI l yX8_isPhase wsX8_isPhase rmX8_isPhase D ad cs [.int a0] M (f_X8_isPhase a0 M) := by
  refine Mx.of (cc := cX8_isPhase) (maxL := 1) (ret := (some .boolean)) (own := RX8) (lv := [(0, .int a0)]) (by decide) rfl rfl (Nat.le_of_ble_eq_true rfl) rfl hi ?_
  intro p e s m below meth c F hr hlk
  unfold f_X8_isPhase
  refine g_iload_n (pc := 0) F 0 dX8_isPhase_0 rfl ?_
  refine g_if_lt (pc := 1) F 13 dX8_isPhase_1 (by decide) ?_ ?_
  · refine g_iconst (pc := 13) (v := 0) F dX8_isPhase_13 (by decide) ?_
    exact g_zret (pc := 14) F hr hlk rfl dX8_isPhase_14
  · refine g_iload_n (pc := 4) F 0 dX8_isPhase_4 rfl ?_
    refine g_iconst (pc := 5) (v := 2) F dX8_isPhase_5 (by decide) ?_
    refine g_icmp_ge (pc := 6) F 13 dX8_isPhase_6 (by decide) ?_ ?_
    · refine g_iconst (pc := 13) (v := 0) F dX8_isPhase_13 (by decide) ?_
      exact g_zret (pc := 14) F hr hlk rfl dX8_isPhase_14
    · refine g_iconst (pc := 9) (v := 1) F dX8_isPhase_9 (by decide) ?_
      refine g_goto (pc := 10) F 14 dX8_isPhase_10 (by decide) ?_
      exact g_zret (pc := 14) F hr hlk rfl dX8_isPhase_14
-- X8_needed
def rmX8_needed : Room := { frames := 6, cells := 0, slots := 0, locals := 151 }
def f_X8_needed (fu : Nat) (a1 : Int32) (a2 : Int32) (a3 : Int32) (M : Mem) : Option (Int32 × Mem) := bnd (f_X8_isProgram a1 M) (fun r1 M2 => if r1 = 0 then some (0, M2) else bnd (f_X8_isPhase a2 M2) (fun r3 M4 => if r3 = 0 then some (0, M4) else bnd (f_X8_isValue a3 M4) (fun r5 M6 => if r5 = 0 then some (0, M6) else if ix a1 4 then bnd (f_X5_paths a1.toNatClampNeg M6) (fun r8 M9 => bnd (f_X4_searched fu a1.toNatClampNeg M9) (fun r10 M11 => bnd (f_X4_calls a1.toNatClampNeg M11) (fun r12 M13 => bnd (f_X0_arguments (13 * a1.toNatClampNeg + 11) a2 a3 M13) (fun r14 M15 => some (r14, M15))))) else none)))
set_option maxRecDepth 20000 in
theorem kiX8_needed_X8 : ∀ w ∈ u_ws RX8 TX8 6, w ∈ wsX8_needed := by decide +kernel
set_option maxRecDepth 20000 in
theorem klX8_needed_11 : Cond.fieldLink RX8 11 "DoorLister" "programs" "[LDoorLister$Program;" ∈ wsX8_needed := by decide +kernel
set_option maxHeartbeats 4000000 in
set_option maxRecDepth 100000 in
theorem c_X8_needed (l : Launch) (D : va_G) (ad : Nat → Nat) (cs : Cs) (hi : Inj ad) (fu : Nat) (a1 : Int32) (a2 : Int32) (a3 : Int32) (M : Mem) : MI l yX8_needed wsX8_needed rmX8_needed D ad cs [.ref (ad (0)), .int a1, .int a2, .int a3] M (f_X8_needed fu a1 a2 a3 M) := by
  refine Mx.of (cc := cX8_needed) (maxL := 4) (ret := (some .int)) (own := RX8) (lv := [(0, .ref (ad (0))), (1, .int a1), (2, .int a2), (3, .int a3)]) (by decide) rfl rfl (Nat.le_of_ble_eq_true rfl) rfl hi ?_
  intro p e s m below meth c F hr hlk
  unfold f_X8_needed
  refine g_iload_n (pc := 0) F 1 dX8_needed_0 rfl ?_
  refine g_si (pc := 1) (As := [.int a1]) (st := []) F (c_X8_isProgram l D ad cs F.2.2.1 a1 M) (va_cwS 1 F.1.2.2.2.2 gX8_needed_X8_isProgram rfl rfl rfl hdS_X8_isProgram ⟨by decide, by decide⟩) rfl rfl (Nat.le_of_ble_eq_true rfl) dX8_needed_1 ⟨Nat.zero_le _, Nat.zero_le _⟩ (fun r1 M2 => ?_)
  refine g_if_eq (pc := 4) F 21 dX8_needed_4 (by decide) ?_ ?_
  · refine g_iconst (pc := 21) (v := 0) F dX8_needed_21 (by decide) ?_
    exact g_iret (pc := 22) F hr hlk dX8_needed_22
  · refine g_iload_n (pc := 7) F 2 dX8_needed_7 rfl ?_
    refine g_si (pc := 8) (As := [.int a2]) (st := []) F (c_X8_isPhase l D ad cs F.2.2.1 a2 M2) (va_cwS 1 F.1.2.2.2.2 gX8_needed_X8_isPhase rfl rfl rfl hdS_X8_isPhase ⟨by decide, by decide⟩) rfl rfl (Nat.le_of_ble_eq_true rfl) dX8_needed_8 ⟨Nat.zero_le _, Nat.zero_le _⟩ (fun r3 M4 => ?_)
    refine g_if_eq (pc := 11) F 21 dX8_needed_11 (by decide) ?_ ?_
    · refine g_iconst (pc := 21) (v := 0) F dX8_needed_21 (by decide) ?_
      exact g_iret (pc := 22) F hr hlk dX8_needed_22
    · refine g_iload_n (pc := 14) F 3 dX8_needed_14 rfl ?_
      refine g_si (pc := 15) (As := [.int a3]) (st := []) F (c_X8_isValue l D ad cs F.2.2.1 a3 M4) (va_cwS 1 F.1.2.2.2.2 gX8_needed_X8_isValue rfl rfl rfl hdS_X8_isValue ⟨by decide, by decide⟩) rfl rfl (Nat.le_of_ble_eq_true rfl) dX8_needed_15 ⟨Nat.zero_le _, Nat.zero_le _⟩ (fun r5 M6 => ?_)
      refine g_if_ne (pc := 18) F 23 dX8_needed_18 (by decide) ?_ ?_
      · refine g_aload_n (pc := 23) F 0 dX8_needed_23 rfl ?_
        refine g_get (pc := 24) (v := .ref (ad (1))) (k := 0) (ci := 8) (fs := (oX8 ad)) (C := RX8) (T := TX8) (N := 6) F (by decide) (fun _ => rfl) rfl kiX8_needed_X8 0 (by decide) klX8_needed_11 rfl rfl dX8_needed_24 ?_
        refine g_iload_n (pc := 27) F 1 dX8_needed_27 rfl ?_
        refine g_aald (pc := 28) F dX8_needed_28 (fun hj7 => ?_)
        refine g_vr (pc := 29) (kr := 13 * a1.toNatClampNeg + 8) (k := 13 * a1.toNatClampNeg + 2) (ci := 5) (fs := (oX5 ad (a1.toNatClampNeg))) (C := RX5) (T := TX5) (N := 3) (As := []) (st := []) F (c_X5_paths l D ad cs F.2.2.1 a1.toNatClampNeg hj7 M6) (P_lt hj7 (by decide)) (sh_X5 hj7) rfl (cwV 0 F.1.2.2.2.2 gX8_needed_X5_paths rfl rfl rfl hdV_X5_paths ⟨by decide, by decide⟩) rfl rfl (Nat.le_of_ble_eq_true rfl) dX8_needed_29 ⟨Nat.zero_le _, Nat.zero_le _⟩ (fun r8 M9 => ?_)
        refine g_vr (pc := 32) (kr := 13 * a1.toNatClampNeg + 8) (k := 13 * a1.toNatClampNeg + 8) (ci := 4) (fs := (oX4 ad (a1.toNatClampNeg))) (C := RX4) (T := TX4) (N := 14) (As := []) (st := []) F (c_X4_searched l D ad cs F.2.2.1 fu a1.toNatClampNeg hj7 M9) (P_lt hj7 (by decide)) (sh_X4 hj7) rfl (cwV 0 F.1.2.2.2.2 gX8_needed_X4_searched rfl rfl rfl hdV_X4_searched ⟨by decide, by decide⟩) rfl rfl (Nat.le_of_ble_eq_true rfl) dX8_needed_32 ⟨Nat.zero_le _, Nat.zero_le _⟩ (fun r10 M11 => ?_)
        refine g_vr (pc := 35) (kr := 13 * a1.toNatClampNeg + 11) (k := 13 * a1.toNatClampNeg + 8) (ci := 4) (fs := (oX4 ad (a1.toNatClampNeg))) (C := RX4) (T := TX4) (N := 14) (As := []) (st := []) F (c_X4_calls l D ad cs F.2.2.1 a1.toNatClampNeg hj7 M11) (P_lt hj7 (by decide)) (sh_X4 hj7) rfl (cwV 0 F.1.2.2.2.2 gX8_needed_X4_calls rfl rfl rfl hdV_X4_calls ⟨by decide, by decide⟩) rfl rfl (Nat.le_of_ble_eq_true rfl) dX8_needed_35 ⟨Nat.zero_le _, Nat.zero_le _⟩ (fun r12 M13 => ?_)
        refine g_iload_n (pc := 38) F 2 dX8_needed_38 rfl ?_
        refine g_iload_n (pc := 39) F 3 dX8_needed_39 rfl ?_
        refine g_vi (pc := 40) (k := 13 * a1.toNatClampNeg + 11) (ci := 0) (fs := (oX0 ad (13 * a1.toNatClampNeg + 11))) (C := RX0) (T := TX0) (N := 1) (As := [.int a2, .int a3]) (st := []) F (c_X0_arguments l D ad cs F.2.2.1 (13 * a1.toNatClampNeg + 11) a2 a3 (tab_c hj7) M13) (tab_lt (tab_c hj7)) (sh_X0 (tab_c hj7)) rfl (cwV 2 F.1.2.2.2.2 gX8_needed_X0_arguments rfl rfl rfl hdV_X0_arguments ⟨by decide, by decide⟩) rfl rfl (Nat.le_of_ble_eq_true rfl) dX8_needed_40 ⟨Nat.zero_le _, Nat.zero_le _⟩ (fun r14 M15 => ?_)
        exact g_iret (pc := 43) F hr hlk dX8_needed_43
      · refine g_iconst (pc := 21) (v := 0) F dX8_needed_21 (by decide) ?_
        exact g_iret (pc := 22) F hr hlk dX8_needed_22
-- X8_spans
def rmX8_spans : Room := { frames := 6, cells := 0, slots := 0, locals := 151 }
def f_X8_spans (fu : Nat) (a1 : Int32) (a2 : Int32) (M : Mem) : Option (Int32 × Mem) := bnd (f_X8_isProgram a1 M) (fun r1 M2 => if r1 = 0 then some ((-1), M2) else bnd (f_X8_isPhase a2 M2) (fun r3 M4 => if r3 = 0 then some ((-1), M4) else if ix a1 4 then bnd (f_X5_paths a1.toNatClampNeg M4) (fun r6 M7 => bnd (f_X4_searched fu a1.toNatClampNeg M7) (fun r8 M9 => bnd (f_X4_calls a1.toNatClampNeg M9) (fun r10 M11 => bnd (f_X0_spansIn fu (13 * a1.toNatClampNeg + 11) a2 M11) (fun r12 M13 => some (r12, M13))))) else none))
set_option maxRecDepth 20000 in
theorem kiX8_spans_X8 : ∀ w ∈ u_ws RX8 TX8 6, w ∈ wsX8_spans := by decide +kernel
set_option maxRecDepth 20000 in
theorem klX8_spans_11 : Cond.fieldLink RX8 11 "DoorLister" "programs" "[LDoorLister$Program;" ∈ wsX8_spans := by decide +kernel
set_option maxHeartbeats 4000000 in
set_option maxRecDepth 100000 in
theorem c_X8_spans (l : Launch) (D : va_G) (ad : Nat → Nat) (cs : Cs) (hi : Inj ad) (fu : Nat) (a1 : Int32) (a2 : Int32) (M : Mem) : MI l yX8_spans wsX8_spans rmX8_spans D ad cs [.ref (ad (0)), .int a1, .int a2] M (f_X8_spans fu a1 a2 M) := by
  refine Mx.of (cc := cX8_spans) (maxL := 3) (ret := (some .int)) (own := RX8) (lv := [(0, .ref (ad (0))), (1, .int a1), (2, .int a2)]) (by decide) rfl rfl (Nat.le_of_ble_eq_true rfl) rfl hi ?_
  intro p e s m below meth c F hr hlk
  unfold f_X8_spans
  refine g_iload_n (pc := 0) F 1 dX8_spans_0 rfl ?_
  refine g_si (pc := 1) (As := [.int a1]) (st := []) F (c_X8_isProgram l D ad cs F.2.2.1 a1 M) (va_cwS 1 F.1.2.2.2.2 gX8_spans_X8_isProgram rfl rfl rfl hdS_X8_isProgram ⟨by decide, by decide⟩) rfl rfl (Nat.le_of_ble_eq_true rfl) dX8_spans_1 ⟨Nat.zero_le _, Nat.zero_le _⟩ (fun r1 M2 => ?_)
  refine g_if_eq (pc := 4) F 14 dX8_spans_4 (by decide) ?_ ?_
  · refine g_iconst (pc := 14) (v := (-1)) F dX8_spans_14 (by decide) ?_
    exact g_iret (pc := 15) F hr hlk dX8_spans_15
  · refine g_iload_n (pc := 7) F 2 dX8_spans_7 rfl ?_
    refine g_si (pc := 8) (As := [.int a2]) (st := []) F (c_X8_isPhase l D ad cs F.2.2.1 a2 M2) (va_cwS 1 F.1.2.2.2.2 gX8_spans_X8_isPhase rfl rfl rfl hdS_X8_isPhase ⟨by decide, by decide⟩) rfl rfl (Nat.le_of_ble_eq_true rfl) dX8_spans_8 ⟨Nat.zero_le _, Nat.zero_le _⟩ (fun r3 M4 => ?_)
    refine g_if_ne (pc := 11) F 16 dX8_spans_11 (by decide) ?_ ?_
    · refine g_aload_n (pc := 16) F 0 dX8_spans_16 rfl ?_
      refine g_get (pc := 17) (v := .ref (ad (1))) (k := 0) (ci := 8) (fs := (oX8 ad)) (C := RX8) (T := TX8) (N := 6) F (by decide) (fun _ => rfl) rfl kiX8_spans_X8 0 (by decide) klX8_spans_11 rfl rfl dX8_spans_17 ?_
      refine g_iload_n (pc := 20) F 1 dX8_spans_20 rfl ?_
      refine g_aald (pc := 21) F dX8_spans_21 (fun hj5 => ?_)
      refine g_vr (pc := 22) (kr := 13 * a1.toNatClampNeg + 8) (k := 13 * a1.toNatClampNeg + 2) (ci := 5) (fs := (oX5 ad (a1.toNatClampNeg))) (C := RX5) (T := TX5) (N := 3) (As := []) (st := []) F (c_X5_paths l D ad cs F.2.2.1 a1.toNatClampNeg hj5 M4) (P_lt hj5 (by decide)) (sh_X5 hj5) rfl (cwV 0 F.1.2.2.2.2 gX8_spans_X5_paths rfl rfl rfl hdV_X5_paths ⟨by decide, by decide⟩) rfl rfl (Nat.le_of_ble_eq_true rfl) dX8_spans_22 ⟨Nat.zero_le _, Nat.zero_le _⟩ (fun r6 M7 => ?_)
      refine g_vr (pc := 25) (kr := 13 * a1.toNatClampNeg + 8) (k := 13 * a1.toNatClampNeg + 8) (ci := 4) (fs := (oX4 ad (a1.toNatClampNeg))) (C := RX4) (T := TX4) (N := 14) (As := []) (st := []) F (c_X4_searched l D ad cs F.2.2.1 fu a1.toNatClampNeg hj5 M7) (P_lt hj5 (by decide)) (sh_X4 hj5) rfl (cwV 0 F.1.2.2.2.2 gX8_spans_X4_searched rfl rfl rfl hdV_X4_searched ⟨by decide, by decide⟩) rfl rfl (Nat.le_of_ble_eq_true rfl) dX8_spans_25 ⟨Nat.zero_le _, Nat.zero_le _⟩ (fun r8 M9 => ?_)
      refine g_vr (pc := 28) (kr := 13 * a1.toNatClampNeg + 11) (k := 13 * a1.toNatClampNeg + 8) (ci := 4) (fs := (oX4 ad (a1.toNatClampNeg))) (C := RX4) (T := TX4) (N := 14) (As := []) (st := []) F (c_X4_calls l D ad cs F.2.2.1 a1.toNatClampNeg hj5 M9) (P_lt hj5 (by decide)) (sh_X4 hj5) rfl (cwV 0 F.1.2.2.2.2 gX8_spans_X4_calls rfl rfl rfl hdV_X4_calls ⟨by decide, by decide⟩) rfl rfl (Nat.le_of_ble_eq_true rfl) dX8_spans_28 ⟨Nat.zero_le _, Nat.zero_le _⟩ (fun r10 M11 => ?_)
      refine g_iload_n (pc := 31) F 2 dX8_spans_31 rfl ?_
      refine g_vi (pc := 32) (k := 13 * a1.toNatClampNeg + 11) (ci := 0) (fs := (oX0 ad (13 * a1.toNatClampNeg + 11))) (C := RX0) (T := TX0) (N := 1) (As := [.int a2]) (st := []) F (c_X0_spansIn l D ad cs F.2.2.1 fu (13 * a1.toNatClampNeg + 11) a2 (tab_c hj5) M11) (tab_lt (tab_c hj5)) (sh_X0 (tab_c hj5)) rfl (cwV 1 F.1.2.2.2.2 gX8_spans_X0_spansIn rfl rfl rfl hdV_X0_spansIn ⟨by decide, by decide⟩) rfl rfl (Nat.le_of_ble_eq_true rfl) dX8_spans_32 ⟨Nat.zero_le _, Nat.zero_le _⟩ (fun r12 M13 => ?_)
      exact g_iret (pc := 35) F hr hlk dX8_spans_35
    · refine g_iconst (pc := 14) (v := (-1)) F dX8_spans_14 (by decide) ?_
      exact g_iret (pc := 15) F hr hlk dX8_spans_15
-- X8_span
def rmX8_span : Room := { frames := 6, cells := 0, slots := 0, locals := 151 }
def f_X8_span (fu : Nat) (a1 : Int32) (a2 : Int32) (a3 : Int32) (a4 : Int32) (M : Mem) : Option (Int32 × Mem) := bnd (f_X8_isProgram a1 M) (fun r1 M2 => if r1 = 0 then some ((-1), M2) else bnd (f_X8_isPhase a2 M2) (fun r3 M4 => if r3 = 0 then some ((-1), M4) else if 0 ≤ a3 then if ix a1 4 then bnd (f_X5_paths a1.toNatClampNeg M4) (fun r6 M7 => bnd (f_X4_searched fu a1.toNatClampNeg M7) (fun r8 M9 => bnd (f_X4_calls a1.toNatClampNeg M9) (fun r10 M11 => bnd (f_X0_spanPart fu (13 * a1.toNatClampNeg + 11) a2 a3 a4 M11) (fun r12 M13 => some (r12, M13))))) else none else some ((-1), M4)))
set_option maxRecDepth 20000 in
theorem kiX8_span_X8 : ∀ w ∈ u_ws RX8 TX8 6, w ∈ wsX8_span := by decide +kernel
set_option maxRecDepth 20000 in
theorem klX8_span_11 : Cond.fieldLink RX8 11 "DoorLister" "programs" "[LDoorLister$Program;" ∈ wsX8_span := by decide +kernel
set_option maxHeartbeats 4000000 in
set_option maxRecDepth 100000 in
theorem c_X8_span (l : Launch) (D : va_G) (ad : Nat → Nat) (cs : Cs) (hi : Inj ad) (fu : Nat) (a1 : Int32) (a2 : Int32) (a3 : Int32) (a4 : Int32) (M : Mem) : MI l yX8_span wsX8_span rmX8_span D ad cs [.ref (ad (0)), .int a1, .int a2, .int a3, .int a4] M (f_X8_span fu a1 a2 a3 a4 M) := by
  refine Mx.of (cc := cX8_span) (maxL := 5) (ret := (some .int)) (own := RX8) (lv := [(0, .ref (ad (0))), (1, .int a1), (2, .int a2), (3, .int a3), (4, .int a4)]) (by decide) rfl rfl (Nat.le_of_ble_eq_true rfl) rfl hi ?_
  intro p e s m below meth c F hr hlk
  unfold f_X8_span
  refine g_iload_n (pc := 0) F 1 dX8_span_0 rfl ?_
  refine g_si (pc := 1) (As := [.int a1]) (st := []) F (c_X8_isProgram l D ad cs F.2.2.1 a1 M) (va_cwS 1 F.1.2.2.2.2 gX8_span_X8_isProgram rfl rfl rfl hdS_X8_isProgram ⟨by decide, by decide⟩) rfl rfl (Nat.le_of_ble_eq_true rfl) dX8_span_1 ⟨Nat.zero_le _, Nat.zero_le _⟩ (fun r1 M2 => ?_)
  refine g_if_eq (pc := 4) F 18 dX8_span_4 (by decide) ?_ ?_
  · refine g_iconst (pc := 18) (v := (-1)) F dX8_span_18 (by decide) ?_
    exact g_iret (pc := 19) F hr hlk dX8_span_19
  · refine g_iload_n (pc := 7) F 2 dX8_span_7 rfl ?_
    refine g_si (pc := 8) (As := [.int a2]) (st := []) F (c_X8_isPhase l D ad cs F.2.2.1 a2 M2) (va_cwS 1 F.1.2.2.2.2 gX8_span_X8_isPhase rfl rfl rfl hdS_X8_isPhase ⟨by decide, by decide⟩) rfl rfl (Nat.le_of_ble_eq_true rfl) dX8_span_8 ⟨Nat.zero_le _, Nat.zero_le _⟩ (fun r3 M4 => ?_)
    refine g_if_eq (pc := 11) F 18 dX8_span_11 (by decide) ?_ ?_
    · refine g_iconst (pc := 18) (v := (-1)) F dX8_span_18 (by decide) ?_
      exact g_iret (pc := 19) F hr hlk dX8_span_19
    · refine g_iload_n (pc := 14) F 3 dX8_span_14 rfl ?_
      refine g_if_ge (pc := 15) F 20 dX8_span_15 (by decide) ?_ ?_
      · refine g_aload_n (pc := 20) F 0 dX8_span_20 rfl ?_
        refine g_get (pc := 21) (v := .ref (ad (1))) (k := 0) (ci := 8) (fs := (oX8 ad)) (C := RX8) (T := TX8) (N := 6) F (by decide) (fun _ => rfl) rfl kiX8_span_X8 0 (by decide) klX8_span_11 rfl rfl dX8_span_21 ?_
        refine g_iload_n (pc := 24) F 1 dX8_span_24 rfl ?_
        refine g_aald (pc := 25) F dX8_span_25 (fun hj5 => ?_)
        refine g_vr (pc := 26) (kr := 13 * a1.toNatClampNeg + 8) (k := 13 * a1.toNatClampNeg + 2) (ci := 5) (fs := (oX5 ad (a1.toNatClampNeg))) (C := RX5) (T := TX5) (N := 3) (As := []) (st := []) F (c_X5_paths l D ad cs F.2.2.1 a1.toNatClampNeg hj5 M4) (P_lt hj5 (by decide)) (sh_X5 hj5) rfl (cwV 0 F.1.2.2.2.2 gX8_span_X5_paths rfl rfl rfl hdV_X5_paths ⟨by decide, by decide⟩) rfl rfl (Nat.le_of_ble_eq_true rfl) dX8_span_26 ⟨Nat.zero_le _, Nat.zero_le _⟩ (fun r6 M7 => ?_)
        refine g_vr (pc := 29) (kr := 13 * a1.toNatClampNeg + 8) (k := 13 * a1.toNatClampNeg + 8) (ci := 4) (fs := (oX4 ad (a1.toNatClampNeg))) (C := RX4) (T := TX4) (N := 14) (As := []) (st := []) F (c_X4_searched l D ad cs F.2.2.1 fu a1.toNatClampNeg hj5 M7) (P_lt hj5 (by decide)) (sh_X4 hj5) rfl (cwV 0 F.1.2.2.2.2 gX8_span_X4_searched rfl rfl rfl hdV_X4_searched ⟨by decide, by decide⟩) rfl rfl (Nat.le_of_ble_eq_true rfl) dX8_span_29 ⟨Nat.zero_le _, Nat.zero_le _⟩ (fun r8 M9 => ?_)
        refine g_vr (pc := 32) (kr := 13 * a1.toNatClampNeg + 11) (k := 13 * a1.toNatClampNeg + 8) (ci := 4) (fs := (oX4 ad (a1.toNatClampNeg))) (C := RX4) (T := TX4) (N := 14) (As := []) (st := []) F (c_X4_calls l D ad cs F.2.2.1 a1.toNatClampNeg hj5 M9) (P_lt hj5 (by decide)) (sh_X4 hj5) rfl (cwV 0 F.1.2.2.2.2 gX8_span_X4_calls rfl rfl rfl hdV_X4_calls ⟨by decide, by decide⟩) rfl rfl (Nat.le_of_ble_eq_true rfl) dX8_span_32 ⟨Nat.zero_le _, Nat.zero_le _⟩ (fun r10 M11 => ?_)
        refine g_iload_n (pc := 35) F 2 dX8_span_35 rfl ?_
        refine g_iload_n (pc := 36) F 3 dX8_span_36 rfl ?_
        refine g_iload (pc := 37) F 4 dX8_span_37 rfl ?_
        refine g_vi (pc := 39) (k := 13 * a1.toNatClampNeg + 11) (ci := 0) (fs := (oX0 ad (13 * a1.toNatClampNeg + 11))) (C := RX0) (T := TX0) (N := 1) (As := [.int a2, .int a3, .int a4]) (st := []) F (c_X0_spanPart l D ad cs F.2.2.1 fu (13 * a1.toNatClampNeg + 11) a2 a3 a4 (tab_c hj5) M11) (tab_lt (tab_c hj5)) (sh_X0 (tab_c hj5)) rfl (cwV 3 F.1.2.2.2.2 gX8_span_X0_spanPart rfl rfl rfl hdV_X0_spanPart ⟨by decide, by decide⟩) rfl rfl (Nat.le_of_ble_eq_true rfl) dX8_span_39 ⟨Nat.zero_le _, Nat.zero_le _⟩ (fun r12 M13 => ?_)
        exact g_iret (pc := 42) F hr hlk dX8_span_42
      · refine g_iconst (pc := 18) (v := (-1)) F dX8_span_18 (by decide) ?_
        exact g_iret (pc := 19) F hr hlk dX8_span_19
-- X8_steps
def rmX8_steps : Room := { frames := 6, cells := 0, slots := 0, locals := 151 }
def f_X8_steps (fu : Nat) (a1 : Int32) (a2 : Int32) (a3 : Int32) (a4 : Int32) (M : Mem) : Option (Int32 × Mem) := bnd (f_X8_isProgram a1 M) (fun r1 M2 => if r1 = 0 then some ((-1), M2) else bnd (f_X8_isPhase a2 M2) (fun r3 M4 => if r3 = 0 then some ((-1), M4) else bnd (f_X8_isValue a3 M4) (fun r5 M6 => if r5 = 0 then some ((-1), M6) else bnd (f_X8_isValue a4 M6) (fun r7 M8 => if r7 = 0 then some ((-1), M8) else if ix a1 4 then bnd (f_X5_paths a1.toNatClampNeg M8) (fun r10 M11 => bnd (f_X4_searched fu a1.toNatClampNeg M11) (fun r12 M13 => bnd (f_X4_lengthTo fu a1.toNatClampNeg a2 a3 a4 M13) (fun r14 M15 => some (r14, M15)))) else none))))
set_option maxRecDepth 20000 in
theorem kiX8_steps_X8 : ∀ w ∈ u_ws RX8 TX8 6, w ∈ wsX8_steps := by decide +kernel
set_option maxRecDepth 20000 in
theorem klX8_steps_11 : Cond.fieldLink RX8 11 "DoorLister" "programs" "[LDoorLister$Program;" ∈ wsX8_steps := by decide +kernel
set_option maxHeartbeats 4000000 in
set_option maxRecDepth 100000 in
theorem c_X8_steps (l : Launch) (D : va_G) (ad : Nat → Nat) (cs : Cs) (hi : Inj ad) (fu : Nat) (a1 : Int32) (a2 : Int32) (a3 : Int32) (a4 : Int32) (M : Mem) : MI l yX8_steps wsX8_steps rmX8_steps D ad cs [.ref (ad (0)), .int a1, .int a2, .int a3, .int a4] M (f_X8_steps fu a1 a2 a3 a4 M) := by
  refine Mx.of (cc := cX8_steps) (maxL := 5) (ret := (some .int)) (own := RX8) (lv := [(0, .ref (ad (0))), (1, .int a1), (2, .int a2), (3, .int a3), (4, .int a4)]) (by decide) rfl rfl (Nat.le_of_ble_eq_true rfl) rfl hi ?_
  intro p e s m below meth c F hr hlk
  unfold f_X8_steps
  refine g_iload_n (pc := 0) F 1 dX8_steps_0 rfl ?_
  refine g_si (pc := 1) (As := [.int a1]) (st := []) F (c_X8_isProgram l D ad cs F.2.2.1 a1 M) (va_cwS 1 F.1.2.2.2.2 gX8_steps_X8_isProgram rfl rfl rfl hdS_X8_isProgram ⟨by decide, by decide⟩) rfl rfl (Nat.le_of_ble_eq_true rfl) dX8_steps_1 ⟨Nat.zero_le _, Nat.zero_le _⟩ (fun r1 M2 => ?_)
  refine g_if_eq (pc := 4) F 29 dX8_steps_4 (by decide) ?_ ?_
  · refine g_iconst (pc := 29) (v := (-1)) F dX8_steps_29 (by decide) ?_
    exact g_iret (pc := 30) F hr hlk dX8_steps_30
  · refine g_iload_n (pc := 7) F 2 dX8_steps_7 rfl ?_
    refine g_si (pc := 8) (As := [.int a2]) (st := []) F (c_X8_isPhase l D ad cs F.2.2.1 a2 M2) (va_cwS 1 F.1.2.2.2.2 gX8_steps_X8_isPhase rfl rfl rfl hdS_X8_isPhase ⟨by decide, by decide⟩) rfl rfl (Nat.le_of_ble_eq_true rfl) dX8_steps_8 ⟨Nat.zero_le _, Nat.zero_le _⟩ (fun r3 M4 => ?_)
    refine g_if_eq (pc := 11) F 29 dX8_steps_11 (by decide) ?_ ?_
    · refine g_iconst (pc := 29) (v := (-1)) F dX8_steps_29 (by decide) ?_
      exact g_iret (pc := 30) F hr hlk dX8_steps_30
    · refine g_iload_n (pc := 14) F 3 dX8_steps_14 rfl ?_
      refine g_si (pc := 15) (As := [.int a3]) (st := []) F (c_X8_isValue l D ad cs F.2.2.1 a3 M4) (va_cwS 1 F.1.2.2.2.2 gX8_steps_X8_isValue rfl rfl rfl hdS_X8_isValue ⟨by decide, by decide⟩) rfl rfl (Nat.le_of_ble_eq_true rfl) dX8_steps_15 ⟨Nat.zero_le _, Nat.zero_le _⟩ (fun r5 M6 => ?_)
      refine g_if_eq (pc := 18) F 29 dX8_steps_18 (by decide) ?_ ?_
      · refine g_iconst (pc := 29) (v := (-1)) F dX8_steps_29 (by decide) ?_
        exact g_iret (pc := 30) F hr hlk dX8_steps_30
      · refine g_iload (pc := 21) F 4 dX8_steps_21 rfl ?_
        refine g_si (pc := 23) (As := [.int a4]) (st := []) F (c_X8_isValue l D ad cs F.2.2.1 a4 M6) (va_cwS 1 F.1.2.2.2.2 gX8_steps_X8_isValue rfl rfl rfl hdS_X8_isValue ⟨by decide, by decide⟩) rfl rfl (Nat.le_of_ble_eq_true rfl) dX8_steps_23 ⟨Nat.zero_le _, Nat.zero_le _⟩ (fun r7 M8 => ?_)
        refine g_if_ne (pc := 26) F 31 dX8_steps_26 (by decide) ?_ ?_
        · refine g_aload_n (pc := 31) F 0 dX8_steps_31 rfl ?_
          refine g_get (pc := 32) (v := .ref (ad (1))) (k := 0) (ci := 8) (fs := (oX8 ad)) (C := RX8) (T := TX8) (N := 6) F (by decide) (fun _ => rfl) rfl kiX8_steps_X8 0 (by decide) klX8_steps_11 rfl rfl dX8_steps_32 ?_
          refine g_iload_n (pc := 35) F 1 dX8_steps_35 rfl ?_
          refine g_aald (pc := 36) F dX8_steps_36 (fun hj9 => ?_)
          refine g_vr (pc := 37) (kr := 13 * a1.toNatClampNeg + 8) (k := 13 * a1.toNatClampNeg + 2) (ci := 5) (fs := (oX5 ad (a1.toNatClampNeg))) (C := RX5) (T := TX5) (N := 3) (As := []) (st := []) F (c_X5_paths l D ad cs F.2.2.1 a1.toNatClampNeg hj9 M8) (P_lt hj9 (by decide)) (sh_X5 hj9) rfl (cwV 0 F.1.2.2.2.2 gX8_steps_X5_paths rfl rfl rfl hdV_X5_paths ⟨by decide, by decide⟩) rfl rfl (Nat.le_of_ble_eq_true rfl) dX8_steps_37 ⟨Nat.zero_le _, Nat.zero_le _⟩ (fun r10 M11 => ?_)
          refine g_vr (pc := 40) (kr := 13 * a1.toNatClampNeg + 8) (k := 13 * a1.toNatClampNeg + 8) (ci := 4) (fs := (oX4 ad (a1.toNatClampNeg))) (C := RX4) (T := TX4) (N := 14) (As := []) (st := []) F (c_X4_searched l D ad cs F.2.2.1 fu a1.toNatClampNeg hj9 M11) (P_lt hj9 (by decide)) (sh_X4 hj9) rfl (cwV 0 F.1.2.2.2.2 gX8_steps_X4_searched rfl rfl rfl hdV_X4_searched ⟨by decide, by decide⟩) rfl rfl (Nat.le_of_ble_eq_true rfl) dX8_steps_40 ⟨Nat.zero_le _, Nat.zero_le _⟩ (fun r12 M13 => ?_)
          refine g_iload_n (pc := 43) F 2 dX8_steps_43 rfl ?_
          refine g_iload_n (pc := 44) F 3 dX8_steps_44 rfl ?_
          refine g_iload (pc := 45) F 4 dX8_steps_45 rfl ?_
          refine g_vi (pc := 47) (k := 13 * a1.toNatClampNeg + 8) (ci := 4) (fs := (oX4 ad (a1.toNatClampNeg))) (C := RX4) (T := TX4) (N := 14) (As := [.int a2, .int a3, .int a4]) (st := []) F (c_X4_lengthTo l D ad cs F.2.2.1 fu a1.toNatClampNeg a2 a3 a4 hj9 M13) (P_lt hj9 (by decide)) (sh_X4 hj9) rfl (cwV 3 F.1.2.2.2.2 gX8_steps_X4_lengthTo rfl rfl rfl hdV_X4_lengthTo ⟨by decide, by decide⟩) rfl rfl (Nat.le_of_ble_eq_true rfl) dX8_steps_47 ⟨Nat.zero_le _, Nat.zero_le _⟩ (fun r14 M15 => ?_)
          exact g_iret (pc := 50) F hr hlk dX8_steps_50
        · refine g_iconst (pc := 29) (v := (-1)) F dX8_steps_29 (by decide) ?_
          exact g_iret (pc := 30) F hr hlk dX8_steps_30
