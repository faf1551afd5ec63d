/-! Written by wip/whole/gen.py: pure functions of methods, and the walks that tie the bytecode to them. -/
-- X4_note
def rmX4_note : Room := { frames := 1, cells := 0, slots := 0, locals := 23 }
def f_X4_note_L19 (q0 : Nat) (x1 : Int32) (x2 : Int32) (x3 : Int32) (x5 : Int32) (k : Mem → Int32 → Option (Int32 × Mem)) : Nat → Mem → Int32 → Option (Int32 × Mem)
  | 0, _, _ => none
  | n + 1, M, x6 => if 32 ≤ x6 then k M x6 else if x5 = 0 then k M x6 else bnd (f_X8_holds x5 x6 M) (fun r4 M5 => if r4 = 0 then f_X4_note_L19 q0 x1 x2 x3 x5 k n M5 (x6 + 1) else bnd (f_X4_callNumber x2 x3 x6 M5) (fun r6 M7 => if ix r6 2048 then wr M7 (13 * q0 + 10) r6.toNatClampNeg x1 (fun M8 => f_X4_note_L19 q0 x1 x2 x3 x5 k n M8 (x6 + 1)) else none))
def f_X4_note (fu : Nat) (pp : Nat) (a1 : Int32) (a2 : Int32) (a3 : Int32) (a4 : Int32) (M : Mem) : Option (Int32 × Mem) := bnd (f_X0_arguments (13 * pp + 11) a2 a3 M) (fun r1 M2 => nm (a4 &&& (r1 ^^^ (-1 : Int32))) (fun v3 => f_X4_note_L19 pp a1 a2 a3 v3 (fun M9 y10 => bnd (f_X0_add (13 * pp + 11) a2 a3 v3 M9) (fun r11 M12 => some (0, M12))) fu M2 0))
set_option maxRecDepth 20000 in
theorem kiX4_note_X4 : ∀ w ∈ u_ws RX4 TX4 14, w ∈ wsX4_note := by decide +kernel
set_option maxRecDepth 20000 in
theorem klX4_note_22 : Cond.fieldLink RX4 22 "DoorLister$Paths" "calls" "LDoorLister$CallTable;" ∈ wsX4_note := by decide +kernel
set_option maxRecDepth 20000 in
theorem kwX4_note_iX8_holds : Cond.initialized yX8_holds.cls ∈ wsX4_note := by decide +kernel
set_option maxRecDepth 20000 in
theorem kwX4_note_sX8_holds : Cond.static yX8_holds ∈ wsX4_note := by decide +kernel
set_option maxRecDepth 20000 in
theorem klX4_note_16 : Cond.fieldLink RX4 16 "DoorLister$Paths" "firstItems" "[I" ∈ wsX4_note := by decide +kernel
set_option maxHeartbeats 4000000 in
set_option maxRecDepth 100000 in
theorem w_X4_note_L19 {p : Program} {l : Launch} {e : Env} {s : State} {m : MethodId} {args : Array Value} {below : List Frame} {meth : Method} {c : Code} {D : va_G} {ad : Nat → Nat} {cs : Cs}  (q0 : Nat) (x1 : Int32) (x2 : Int32) (x3 : Int32) (x5 : Int32) (hq0 : q0 < 4) (F : Fx p m c cX4_note 7 s args wsX4_note RX4 D ad cs (Ad ad)) (hr : meth.sig.returnType = none) (hlk : meth.locks = false) (k : Mem → Int32 → Option (Int32 × Mem)) (hkx : ∀ (M : Mem) (x6 : Int32), GoX p l e rmX4_note s m args below meth c 0 0 7 (fun rM => MQ below (cQv D ad cs rM) args s 0 0 (Ad ad)) D ad cs (Ad ad) M 60 [(0, .ref (ad (13 * q0 + 8))), (1, .int x1), (2, .int x2), (3, .int x3), (5, .int x5), (6, .int x6)] [] (k M x6)) : ∀ (n : Nat) (M : Mem) (x6 : Int32), GoX p l e rmX4_note s m args below meth c 0 0 7 (fun rM => MQ below (cQv D ad cs rM) args s 0 0 (Ad ad)) D ad cs (Ad ad) M 19 [(0, .ref (ad (13 * q0 + 8))), (1, .int x1), (2, .int x2), (3, .int x3), (5, .int x5), (6, .int x6)] [] (f_X4_note_L19 q0 x1 x2 x3 x5 k n M x6) := by
  intro n
  induction n with
  | zero => intro M x6; exact g_none
  | succ n ih =>
    intro M x6
    unfold f_X4_note_L19
    refine g_iload (pc := 19) F 5 dX4_note_19 rfl ?_
    refine g_bipush (pc := 21) (v := 32) F dX4_note_21 (by decide) ?_
    refine g_icmp_ge (pc := 23) F 60 dX4_note_23 (by decide) ?_ ?_
    · exact hkx _ _
    · refine g_iload (pc := 26) F 4 dX4_note_26 rfl ?_
      refine g_if_eq (pc := 28) F 60 dX4_note_28 (by decide) ?_ ?_
      · exact hkx _ _
      · refine g_iload (pc := 31) F 4 dX4_note_31 rfl ?_
        refine g_iload (pc := 33) F 5 dX4_note_33 rfl ?_
        refine g_ni (pc := 35) (As := [.int x5, .int x6]) (st := []) F (c_X8_holds l D ad cs F.2.2.1 x5 x6 M) ⟨va_cnB 2 F.1.2.2.2.2 gX4_note_X8_holds_n42 rfl rfl rfl F.2.1.2.2.2 (F.1.2.2.2.2 _ kwX4_note_iX8_holds) hdS_X8_holds ⟨by decide, by decide⟩, F.1.2.2.2.2 _ kwX4_note_sX8_holds, trivial⟩ rfl rfl (Nat.le_of_ble_eq_true rfl) dX4_note_35 ⟨Nat.zero_le _, Nat.zero_le _⟩ (fun r4 M5 => ?_)
        refine g_if_eq (pc := 38) F 54 dX4_note_38 (by decide) ?_ ?_
        · refine g_iinc (pc := 54) (v := x6 + 1) F [(0, .ref (ad (13 * q0 + 8))), (1, .int x1), (2, .int x2), (3, .int x3), (5, .int x5), (6, .int (x6 + 1))] 5 dX4_note_54 rfl rfl (by decide) rfl rfl rfl ?_
          refine g_goto (pc := 57) F 19 dX4_note_57 (by decide) ?_
          exact ih _ _
        · refine g_aload_n (pc := 41) F 0 dX4_note_41 rfl ?_
          refine g_get (pc := 42) (v := .ref (ad (13 * q0 + 10))) (k := 13 * q0 + 8) (ci := 4) (fs := (oX4 ad (q0))) (C := RX4) (T := TX4) (N := 14) F (P_lt hq0 (by decide)) (sh_X4 hq0) rfl kiX4_note_X4 3 (by decide) klX4_note_16 rfl rfl dX4_note_42 ?_
          refine g_iload_n (pc := 45) F 2 dX4_note_45 rfl ?_
          refine g_iload_n (pc := 46) F 3 dX4_note_46 rfl ?_
          refine g_iload (pc := 47) F 5 dX4_note_47 rfl ?_
          refine g_si (pc := 49) (As := [.int x2, .int x3, .int x6]) (st := [.ref (ad (13 * q0 + 10))]) F (c_X4_callNumber l D ad cs F.2.2.1 x2 x3 x6 M5) (va_cwS 3 F.1.2.2.2.2 gX4_note_X4_callNumber rfl rfl rfl hdS_X4_callNumber ⟨by decide, by decide⟩) rfl rfl (Nat.le_of_ble_eq_true rfl) dX4_note_49 ⟨Nat.zero_le _, Nat.zero_le _⟩ (fun r6 M7 => ?_)
          refine g_iload_n (pc := 52) F 1 dX4_note_52 rfl ?_
          refine g_iast (pc := 53) (k := 13 * q0 + 10) (n := 2048) F (P_lt hq0 (by decide)) (sh_a10 hq0) dX4_note_53 (fun M8 => ?_)
          refine g_iinc (pc := 54) (v := x6 + 1) F [(0, .ref (ad (13 * q0 + 8))), (1, .int x1), (2, .int x2), (3, .int x3), (5, .int x5), (6, .int (x6 + 1))] 5 dX4_note_54 rfl rfl (by decide) rfl rfl rfl ?_
          refine g_goto (pc := 57) F 19 dX4_note_57 (by decide) ?_
          exact ih _ _
set_option maxHeartbeats 4000000 in
set_option maxRecDepth 100000 in
theorem c_X4_note (l : Launch) (D : va_G) (ad : Nat → Nat) (cs : Cs) (hi : Inj ad) (fu : Nat) (pp : Nat) (a1 : Int32) (a2 : Int32) (a3 : Int32) (a4 : Int32) (hpp : pp < 4) (M : Mem) : MV l yX4_note wsX4_note rmX4_note D ad cs [.ref (ad (13 * pp + 8)), .int a1, .int a2, .int a3, .int a4] M (f_X4_note fu pp a1 a2 a3 a4 M) := by
  refine Mx.of (cc := cX4_note) (maxL := 7) (ret := none) (own := RX4) (lv := [(0, .ref (ad (13 * pp + 8))), (1, .int a1), (2, .int a2), (3, .int a3), (4, .int a4)]) (by decide) rfl rfl (Nat.le_of_ble_eq_true rfl) rfl hi ?_
  intro p e s m below meth c F hr hlk
  unfold f_X4_note
  refine g_iload (pc := 0) F 4 dX4_note_0 rfl ?_
  refine g_aload_n (pc := 2) F 0 dX4_note_2 rfl ?_
  refine g_get (pc := 3) (v := .ref (ad (13 * pp + 11))) (k := 13 * pp + 8) (ci := 4) (fs := (oX4 ad (pp))) (C := RX4) (T := TX4) (N := 14) F (P_lt hpp (by decide)) (sh_X4 hpp) rfl kiX4_note_X4 4 (by decide) klX4_note_22 rfl rfl dX4_note_3 ?_
  refine g_iload_n (pc := 6) F 2 dX4_note_6 rfl ?_
  refine g_iload_n (pc := 7) F 3 dX4_note_7 rfl ?_
  refine g_vi (pc := 8) (k := 13 * pp + 11) (ci := 0) (fs := (oX0 ad (13 * pp + 11))) (C := RX0) (T := TX0) (N := 1) (As := [.int a2, .int a3]) (st := [.int a4]) F (c_X0_arguments l D ad cs F.2.2.1 (13 * pp + 11) a2 a3 (tab_c hpp) M) (tab_lt (tab_c hpp)) (sh_X0 (tab_c hpp)) rfl (cwV 2 F.1.2.2.2.2 gX4_note_X0_arguments rfl rfl rfl hdV_X0_arguments ⟨by decide, by decide⟩) rfl rfl (Nat.le_of_ble_eq_true rfl) dX4_note_8 ⟨Nat.zero_le _, Nat.zero_le _⟩ (fun r1 M2 => ?_)
  refine g_iconst (pc := 11) (v := (-1)) F dX4_note_11 (by decide) ?_
  refine g_ixor (pc := 12) F dX4_note_12 ?_
  refine g_iand (pc := 13) F dX4_note_13 ?_
  refine g_nm (fun v3 => ?_)
  refine g_istore (pc := 14) F [(0, .ref (ad (13 * pp + 8))), (1, .int a1), (2, .int a2), (3, .int a3), (4, .int a4), (5, .int v3)] dX4_note_14 (by decide) rfl rfl rfl ?_
  refine g_iconst (pc := 16) (v := 0) F dX4_note_16 (by decide) ?_
  refine g_istore (pc := 17) F [(0, .ref (ad (13 * pp + 8))), (1, .int a1), (2, .int a2), (3, .int a3), (4, .int a4), (5, .int v3), (6, .int 0)] dX4_note_17 (by decide) rfl rfl rfl ?_
  refine g_sub [0, 1, 2, 3, 5, 6] [(0, .ref (ad (13 * pp + 8))), (1, .int a1), (2, .int a2), (3, .int a3), (5, .int v3), (6, .int 0)] rfl ?_
  refine w_X4_note_L19 pp a1 a2 a3 v3 hpp F hr hlk _ (fun M9 y10 => ?_) _ _ _
  refine g_aload_n (pc := 60) F 0 dX4_note_60 rfl ?_
  refine g_get (pc := 61) (v := .ref (ad (13 * pp + 11))) (k := 13 * pp + 8) (ci := 4) (fs := (oX4 ad (pp))) (C := RX4) (T := TX4) (N := 14) F (P_lt hpp (by decide)) (sh_X4 hpp) rfl kiX4_note_X4 4 (by decide) klX4_note_22 rfl rfl dX4_note_61 ?_
  refine g_iload_n (pc := 64) F 2 dX4_note_64 rfl ?_
  refine g_iload_n (pc := 65) F 3 dX4_note_65 rfl ?_
  refine g_iload (pc := 66) F 4 dX4_note_66 rfl ?_
  refine g_vv (pc := 68) (k := 13 * pp + 11) (ci := 0) (fs := (oX0 ad (13 * pp + 11))) (C := RX0) (T := TX0) (N := 1) (As := [.int a2, .int a3, .int v3]) (st := []) F (c_X0_add l D ad cs F.2.2.1 (13 * pp + 11) a2 a3 v3 (tab_c hpp) M9) (tab_lt (tab_c hpp)) (sh_X0 (tab_c hpp)) rfl (cwV 3 F.1.2.2.2.2 gX4_note_X0_add rfl rfl rfl hdV_X0_add ⟨by decide, by decide⟩) rfl rfl (Nat.le_of_ble_eq_true rfl) dX4_note_68 ⟨Nat.zero_le _, Nat.zero_le _⟩ (fun r11 M12 => ?_)
  exact g_vret (pc := 71) F hr hlk dX4_note_71
-- X6_enter
def rmX6_enter : Room := { frames := 0, cells := 0, slots := 0, locals := 0 }
def f_X6_enter (a1 : Int32) (a2 : Int32) (a3 : Int32) (a4 : Int32) (M : Mem) : Option (Int32 × Mem) := nm ((((a1 * (24 : Int32)) + a2) * (32 : Int32)) + a3) (fun v1 => if ix v1 1536 then nm (a4 &&& ((M (56) v1.toNatClampNeg) ^^^ (-1 : Int32))) (fun v2 => if ix v1 1536 then if ix v1 1536 then wr M (56) v1.toNatClampNeg ((M (56) v1.toNatClampNeg) ||| v2) (fun M3 => some (v2, M3)) else none else none) else none)
set_option maxRecDepth 20000 in
theorem kiX6_enter_X6 : ∀ w ∈ u_ws RX6 TX6 3, w ∈ wsX6_enter := by decide +kernel
set_option maxRecDepth 20000 in
theorem klX6_enter_18 : Cond.fieldLink RX6 18 "DoorLister$Scratch" "gone" "[I" ∈ wsX6_enter := by decide +kernel
set_option maxHeartbeats 4000000 in
set_option maxRecDepth 100000 in
theorem c_X6_enter (l : Launch) (D : va_G) (ad : Nat → Nat) (cs : Cs) (hi : Inj ad) (a1 : Int32) (a2 : Int32) (a3 : Int32) (a4 : Int32) (M : Mem) : MI l yX6_enter wsX6_enter rmX6_enter D ad cs [.ref (ad (54)), .int a1, .int a2, .int a3, .int a4] M (f_X6_enter a1 a2 a3 a4 M) := by
  refine Mx.of (cc := cX6_enter) (maxL := 7) (ret := (some .int)) (own := RX6) (lv := [(0, .ref (ad (54))), (1, .int a1), (2, .int a2), (3, .int a3), (4, .int a4)]) (by decide) rfl rfl (Nat.le_of_ble_eq_true rfl) rfl hi ?_
  intro p e s m below meth c F hr hlk
  unfold f_X6_enter
  refine g_iload_n (pc := 0) F 1 dX6_enter_0 rfl ?_
  refine g_bipush (pc := 1) (v := 24) F dX6_enter_1 (by decide) ?_
  refine g_imul (pc := 3) F dX6_enter_3 ?_
  refine g_iload_n (pc := 4) F 2 dX6_enter_4 rfl ?_
  refine g_iadd (pc := 5) F dX6_enter_5 ?_
  refine g_bipush (pc := 6) (v := 32) F dX6_enter_6 (by decide) ?_
  refine g_imul (pc := 8) F dX6_enter_8 ?_
  refine g_iload_n (pc := 9) F 3 dX6_enter_9 rfl ?_
  refine g_iadd (pc := 10) F dX6_enter_10 ?_
  refine g_nm (fun v1 => ?_)
  refine g_istore (pc := 11) F [(0, .ref (ad (54))), (1, .int a1), (2, .int a2), (3, .int a3), (4, .int a4), (5, .int v1)] dX6_enter_11 (by decide) rfl rfl rfl ?_
  refine g_iload (pc := 13) F 4 dX6_enter_13 rfl ?_
  refine g_aload_n (pc := 15) F 0 dX6_enter_15 rfl ?_
  refine g_get (pc := 16) (v := .ref (ad (56))) (k := 54) (ci := 6) (fs := (oX6 ad)) (C := RX6) (T := TX6) (N := 3) F (by decide) (fun _ => rfl) rfl kiX6_enter_X6 1 (by decide) klX6_enter_18 rfl rfl dX6_enter_16 ?_
  refine g_iload (pc := 19) F 5 dX6_enter_19 rfl ?_
  refine g_iald (pc := 21) (k := 56) (n := 1536) F (by decide) (fun _ => rfl) dX6_enter_21 ?_
  refine g_iconst (pc := 22) (v := (-1)) F dX6_enter_22 (by decide) ?_
  refine g_ixor (pc := 23) F dX6_enter_23 ?_
  refine g_iand (pc := 24) F dX6_enter_24 ?_
  refine g_nm (fun v2 => ?_)
  refine g_istore (pc := 25) F [(0, .ref (ad (54))), (1, .int a1), (2, .int a2), (3, .int a3), (4, .int a4), (5, .int v1), (6, .int v2)] dX6_enter_25 (by decide) rfl rfl rfl ?_
  refine g_aload_n (pc := 27) F 0 dX6_enter_27 rfl ?_
  refine g_get (pc := 28) (v := .ref (ad (56))) (k := 54) (ci := 6) (fs := (oX6 ad)) (C := RX6) (T := TX6) (N := 3) F (by decide) (fun _ => rfl) rfl kiX6_enter_X6 1 (by decide) klX6_enter_18 rfl rfl dX6_enter_28 ?_
  refine g_iload (pc := 31) F 5 dX6_enter_31 rfl ?_
  refine g_dup2 (pc := 33) F rfl rfl dX6_enter_33 ?_
  refine g_iald (pc := 34) (k := 56) (n := 1536) F (by decide) (fun _ => rfl) dX6_enter_34 ?_
  refine g_iload (pc := 35) F 6 dX6_enter_35 rfl ?_
  refine g_ior (pc := 37) F dX6_enter_37 ?_
  refine g_iast (pc := 38) (k := 56) (n := 1536) F (by decide) (fun _ => rfl) dX6_enter_38 (fun M3 => ?_)
  refine g_iload (pc := 39) F 6 dX6_enter_39 rfl ?_
  exact g_iret (pc := 41) F hr hlk dX6_enter_41
-- X6_keep
def rmX6_keep : Room := { frames := 0, cells := 0, slots := 0, locals := 0 }
def f_X6_keep (a1 : Int32) (a2 : Int32) (M : Mem) : Option (Int32 × Mem) := if ix a1 49152 then wr M (55) a1.toNatClampNeg a2 (fun M1 => some (0, M1)) else none
set_option maxRecDepth 20000 in
theorem kiX6_keep_X6 : ∀ w ∈ u_ws RX6 TX6 3, w ∈ wsX6_keep := by decide +kernel
set_option maxRecDepth 20000 in
theorem klX6_keep_12 : Cond.fieldLink RX6 12 "DoorLister$Scratch" "masks" "[I" ∈ wsX6_keep := by decide +kernel
set_option maxHeartbeats 4000000 in
set_option maxRecDepth 100000 in
theorem c_X6_keep (l : Launch) (D : va_G) (ad : Nat → Nat) (cs : Cs) (hi : Inj ad) (a1 : Int32) (a2 : Int32) (M : Mem) : MV l yX6_keep wsX6_keep rmX6_keep D ad cs [.ref (ad (54)), .int a1, .int a2] M (f_X6_keep a1 a2 M) := by
  refine Mx.of (cc := cX6_keep) (maxL := 3) (ret := none) (own := RX6) (lv := [(0, .ref (ad (54))), (1, .int a1), (2, .int a2)]) (by decide) rfl rfl (Nat.le_of_ble_eq_true rfl) rfl hi ?_
  intro p e s m below meth c F hr hlk
  unfold f_X6_keep
  refine g_aload_n (pc := 0) F 0 dX6_keep_0 rfl ?_
  refine g_get (pc := 1) (v := .ref (ad (55))) (k := 54) (ci := 6) (fs := (oX6 ad)) (C := RX6) (T := TX6) (N := 3) F (by decide) (fun _ => rfl) rfl kiX6_keep_X6 0 (by decide) klX6_keep_12 rfl rfl dX6_keep_1 ?_
  refine g_iload_n (pc := 4) F 1 dX6_keep_4 rfl ?_
  refine g_iload_n (pc := 5) F 2 dX6_keep_5 rfl ?_
  refine g_iast (pc := 6) (k := 55) (n := 49152) F (by decide) (fun _ => rfl) dX6_keep_6 (fun M1 => ?_)
  exact g_vret (pc := 7) F hr hlk dX6_keep_7
-- X4_push
def rmX4_push : Room := { frames := 1, cells := 0, slots := 0, locals := 26 }
def f_X4_push (pp : Nat) (a1 : Int32) (a2 : Int32) (a3 : Int32) (a4 : Int32) (a5 : Int32) (M : Mem) : Option (Int32 × Mem) := if a5 = 0 then some (0, M) else if 49152 ≤ (M (13 * pp + 8) 5) then some (0, M) else bnd (f_X1_has pp a3 M) (fun r1 M2 => if r1 = 0 then some (0, M2) else bnd (f_X6_enter a2 a3 a4 a5 M2) (fun r3 M4 => if r3 = 0 then some (0, M4) else if (M4 (13 * pp + 8) 7) = 0 then if ix (M4 (13 * pp + 8) 5) 49152 then wr M4 (13 * pp + 9) (M4 (13 * pp + 8) 5).toNatClampNeg (((((a1 <<< ((12 : Int32) &&& 31)) ||| (0 : Int32)) ||| (a2 <<< ((10 : Int32) &&& 31))) ||| (a3 <<< ((5 : Int32) &&& 31))) ||| a4) (fun M5 => bnd (f_X6_keep (M5 (13 * pp + 8) 5) r3 M5) (fun r6 M7 => wr M7 (13 * pp + 8) 5 ((M7 (13 * pp + 8) 5) + (1 : Int32)) (fun M8 => wr M8 (13 * pp + 8) 6 ((M8 (13 * pp + 8) 6) ||| ((1 : Int32) <<< (a3 &&& 31))) (fun M9 => wr M9 (13 * pp + 8) 7 0 (fun M10 => some (0, M10)))))) else none else if ix (M4 (13 * pp + 8) 5) 49152 then wr M4 (13 * pp + 9) (M4 (13 * pp + 8) 5).toNatClampNeg (((((a1 <<< ((12 : Int32) &&& 31)) ||| (2048 : Int32)) ||| (a2 <<< ((10 : Int32) &&& 31))) ||| (a3 <<< ((5 : Int32) &&& 31))) ||| a4) (fun M11 => bnd (f_X6_keep (M11 (13 * pp + 8) 5) r3 M11) (fun r12 M13 => wr M13 (13 * pp + 8) 5 ((M13 (13 * pp + 8) 5) + (1 : Int32)) (fun M14 => wr M14 (13 * pp + 8) 6 ((M14 (13 * pp + 8) 6) ||| ((1 : Int32) <<< (a3 &&& 31))) (fun M15 => wr M15 (13 * pp + 8) 7 0 (fun M16 => some (0, M16)))))) else none))
set_option maxRecDepth 20000 in
theorem kiX4_push_X4 : ∀ w ∈ u_ws RX4 TX4 14, w ∈ wsX4_push := by decide +kernel
set_option maxRecDepth 20000 in
theorem klX4_push_67 : Cond.fieldLink RX4 67 "DoorLister$Paths" "size" "I" ∈ wsX4_push := by decide +kernel
set_option maxRecDepth 20000 in
theorem kwX4_push_c11 : Cond.constant RX4 11 49152 ∈ wsX4_push := by decide +kernel
set_option maxRecDepth 20000 in
theorem klX4_push_26 : Cond.fieldLink RX4 26 "DoorLister$Paths" "code" "LDoorLister$Code;" ∈ wsX4_push := by decide +kernel
set_option maxRecDepth 20000 in
theorem klX4_push_30 : Cond.fieldLink RX4 30 "DoorLister$Paths" "scratch" "LDoorLister$Scratch;" ∈ wsX4_push := by decide +kernel
set_option maxRecDepth 20000 in
theorem klX4_push_70 : Cond.fieldLink RX4 70 "DoorLister$Paths" "opens" "Z" ∈ wsX4_push := by decide +kernel
set_option maxRecDepth 20000 in
theorem klX4_push_12 : Cond.fieldLink RX4 12 "DoorLister$Paths" "links" "[I" ∈ wsX4_push := by decide +kernel
set_option maxRecDepth 20000 in
theorem klX4_push_38 : Cond.fieldLink RX4 38 "DoorLister$Paths" "come" "I" ∈ wsX4_push := by decide +kernel
set_option maxHeartbeats 4000000 in
set_option maxRecDepth 100000 in
theorem c_X4_push (l : Launch) (D : va_G) (ad : Nat → Nat) (cs : Cs) (hi : Inj ad) (pp : Nat) (a1 : Int32) (a2 : Int32) (a3 : Int32) (a4 : Int32) (a5 : Int32) (hpp : pp < 4) (M : Mem) : MV l yX4_push wsX4_push rmX4_push D ad cs [.ref (ad (13 * pp + 8)), .int a1, .int a2, .int a3, .int a4, .int a5] M (f_X4_push pp a1 a2 a3 a4 a5 M) := by
  refine Mx.of (cc := cX4_push) (maxL := 8) (ret := none) (own := RX4) (lv := [(0, .ref (ad (13 * pp + 8))), (1, .int a1), (2, .int a2), (3, .int a3), (4, .int a4), (5, .int a5)]) (by decide) rfl rfl (Nat.le_of_ble_eq_true rfl) rfl hi ?_
  intro p e s m below meth c F hr hlk
  unfold f_X4_push
  refine g_iload (pc := 0) F 5 dX4_push_0 rfl ?_
  refine g_if_eq (pc := 2) F 25 dX4_push_2 (by decide) ?_ ?_
  · exact g_vret (pc := 25) F hr hlk dX4_push_25
  · refine g_aload_n (pc := 5) F 0 dX4_push_5 rfl ?_
    refine g_get (pc := 6) (v := .int (M (13 * pp + 8) 5)) (k := 13 * pp + 8) (ci := 4) (fs := (oX4 ad (pp))) (C := RX4) (T := TX4) (N := 14) F (P_lt hpp (by decide)) (sh_X4 hpp) rfl kiX4_push_X4 5 (by decide) klX4_push_67 rfl rfl dX4_push_6 ?_
    refine g_ldc (pc := 9) (v := 49152) F kwX4_push_c11 dX4_push_9 ?_
    refine g_icmp_ge (pc := 11) F 25 dX4_push_11 (by decide) ?_ ?_
    · exact g_vret (pc := 25) F hr hlk dX4_push_25
    · refine g_aload_n (pc := 14) F 0 dX4_push_14 rfl ?_
      refine g_get (pc := 15) (v := .ref (ad (13 * pp + 3))) (k := 13 * pp + 8) (ci := 4) (fs := (oX4 ad (pp))) (C := RX4) (T := TX4) (N := 14) F (P_lt hpp (by decide)) (sh_X4 hpp) rfl kiX4_push_X4 0 (by decide) klX4_push_26 rfl rfl dX4_push_15 ?_
      refine g_iload_n (pc := 18) F 3 dX4_push_18 rfl ?_
      refine g_vi (pc := 19) (k := 13 * pp + 3) (ci := 1) (fs := (oX1 ad (pp))) (C := RX1) (T := TX1) (N := 5) (As := [.int a3]) (st := []) F (c_X1_has l D ad cs F.2.2.1 pp a3 hpp M) (P_lt hpp (by decide)) (sh_X1 hpp) rfl (cwV 1 F.1.2.2.2.2 gX4_push_X1_has rfl rfl rfl hdV_X1_has ⟨by decide, by decide⟩) rfl rfl (Nat.le_of_ble_eq_true rfl) dX4_push_19 ⟨Nat.zero_le _, Nat.zero_le _⟩ (fun r1 M2 => ?_)
      refine g_if_ne (pc := 22) F 26 dX4_push_22 (by decide) ?_ ?_
      · refine g_aload_n (pc := 26) F 0 dX4_push_26 rfl ?_
        refine g_get (pc := 27) (v := .ref (ad (54))) (k := 13 * pp + 8) (ci := 4) (fs := (oX4 ad (pp))) (C := RX4) (T := TX4) (N := 14) F (P_lt hpp (by decide)) (sh_X4 hpp) rfl kiX4_push_X4 1 (by decide) klX4_push_30 rfl rfl dX4_push_27 ?_
        refine g_iload_n (pc := 30) F 2 dX4_push_30 rfl ?_
        refine g_iload_n (pc := 31) F 3 dX4_push_31 rfl ?_
        refine g_iload (pc := 32) F 4 dX4_push_32 rfl ?_
        refine g_iload (pc := 34) F 5 dX4_push_34 rfl ?_
        refine g_vi (pc := 36) (k := 54) (ci := 6) (fs := (oX6 ad)) (C := RX6) (T := TX6) (N := 3) (As := [.int a2, .int a3, .int a4, .int a5]) (st := []) F (c_X6_enter l D ad cs F.2.2.1 a2 a3 a4 a5 M2) (by decide) (fun _ => rfl) rfl (cwV 4 F.1.2.2.2.2 gX4_push_X6_enter rfl rfl rfl hdV_X6_enter ⟨by decide, by decide⟩) rfl rfl (Nat.le_of_ble_eq_true rfl) dX4_push_36 ⟨Nat.zero_le _, Nat.zero_le _⟩ (fun r3 M4 => ?_)
        refine g_istore (pc := 39) F [(0, .ref (ad (13 * pp + 8))), (1, .int a1), (2, .int a2), (3, .int a3), (4, .int a4), (5, .int a5), (6, .int r3)] dX4_push_39 (by decide) rfl rfl rfl ?_
        refine g_iload (pc := 41) F 6 dX4_push_41 rfl ?_
        refine g_if_ne (pc := 43) F 47 dX4_push_43 (by decide) ?_ ?_
        · refine g_aload_n (pc := 47) F 0 dX4_push_47 rfl ?_
          refine g_get (pc := 48) (v := .int (M4 (13 * pp + 8) 7)) (k := 13 * pp + 8) (ci := 4) (fs := (oX4 ad (pp))) (C := RX4) (T := TX4) (N := 14) F (P_lt hpp (by decide)) (sh_X4 hpp) rfl kiX4_push_X4 7 (by decide) klX4_push_70 rfl rfl dX4_push_48 ?_
          refine g_if_eq (pc := 51) F 60 dX4_push_51 (by decide) ?_ ?_
          · refine g_iconst (pc := 60) (v := 0) F dX4_push_60 (by decide) ?_
            refine g_istore (pc := 61) F [(0, .ref (ad (13 * pp + 8))), (1, .int a1), (2, .int a2), (3, .int a3), (4, .int a4), (5, .int a5), (6, .int r3), (7, .int 0)] dX4_push_61 (by decide) rfl rfl rfl ?_
            refine g_aload_n (pc := 63) F 0 dX4_push_63 rfl ?_
            refine g_get (pc := 64) (v := .ref (ad (13 * pp + 9))) (k := 13 * pp + 8) (ci := 4) (fs := (oX4 ad (pp))) (C := RX4) (T := TX4) (N := 14) F (P_lt hpp (by decide)) (sh_X4 hpp) rfl kiX4_push_X4 2 (by decide) klX4_push_12 rfl rfl dX4_push_64 ?_
            refine g_aload_n (pc := 67) F 0 dX4_push_67 rfl ?_
            refine g_get (pc := 68) (v := .int (M4 (13 * pp + 8) 5)) (k := 13 * pp + 8) (ci := 4) (fs := (oX4 ad (pp))) (C := RX4) (T := TX4) (N := 14) F (P_lt hpp (by decide)) (sh_X4 hpp) rfl kiX4_push_X4 5 (by decide) klX4_push_67 rfl rfl dX4_push_68 ?_
            refine g_iload_n (pc := 71) F 1 dX4_push_71 rfl ?_
            refine g_bipush (pc := 72) (v := 12) F dX4_push_72 (by decide) ?_
            refine g_ishl (pc := 74) F dX4_push_74 ?_
            refine g_iload (pc := 75) F 7 dX4_push_75 rfl ?_
            refine g_ior (pc := 77) F dX4_push_77 ?_
            refine g_iload_n (pc := 78) F 2 dX4_push_78 rfl ?_
            refine g_bipush (pc := 79) (v := 10) F dX4_push_79 (by decide) ?_
            refine g_ishl (pc := 81) F dX4_push_81 ?_
            refine g_ior (pc := 82) F dX4_push_82 ?_
            refine g_iload_n (pc := 83) F 3 dX4_push_83 rfl ?_
            refine g_iconst (pc := 84) (v := 5) F dX4_push_84 (by decide) ?_
            refine g_ishl (pc := 85) F dX4_push_85 ?_
            refine g_ior (pc := 86) F dX4_push_86 ?_
            refine g_iload (pc := 87) F 4 dX4_push_87 rfl ?_
            refine g_ior (pc := 89) F dX4_push_89 ?_
            refine g_iast (pc := 90) (k := 13 * pp + 9) (n := 49152) F (P_lt hpp (by decide)) (sh_a9 hpp) dX4_push_90 (fun M5 => ?_)
            refine g_aload_n (pc := 91) F 0 dX4_push_91 rfl ?_
            refine g_get (pc := 92) (v := .ref (ad (54))) (k := 13 * pp + 8) (ci := 4) (fs := (oX4 ad (pp))) (C := RX4) (T := TX4) (N := 14) F (P_lt hpp (by decide)) (sh_X4 hpp) rfl kiX4_push_X4 1 (by decide) klX4_push_30 rfl rfl dX4_push_92 ?_
            refine g_aload_n (pc := 95) F 0 dX4_push_95 rfl ?_
            refine g_get (pc := 96) (v := .int (M5 (13 * pp + 8) 5)) (k := 13 * pp + 8) (ci := 4) (fs := (oX4 ad (pp))) (C := RX4) (T := TX4) (N := 14) F (P_lt hpp (by decide)) (sh_X4 hpp) rfl kiX4_push_X4 5 (by decide) klX4_push_67 rfl rfl dX4_push_96 ?_
            refine g_iload (pc := 99) F 6 dX4_push_99 rfl ?_
            refine g_vv (pc := 101) (k := 54) (ci := 6) (fs := (oX6 ad)) (C := RX6) (T := TX6) (N := 3) (As := [.int (M5 (13 * pp + 8) 5), .int r3]) (st := []) F (c_X6_keep l D ad cs F.2.2.1 (M5 (13 * pp + 8) 5) r3 M5) (by decide) (fun _ => rfl) rfl (cwV 2 F.1.2.2.2.2 gX4_push_X6_keep rfl rfl rfl hdV_X6_keep ⟨by decide, by decide⟩) rfl rfl (Nat.le_of_ble_eq_true rfl) dX4_push_101 ⟨Nat.zero_le _, Nat.zero_le _⟩ (fun r6 M7 => ?_)
            refine g_aload_n (pc := 104) F 0 dX4_push_104 rfl ?_
            refine g_dup (pc := 105) F rfl dX4_push_105 ?_
            refine g_get (pc := 106) (v := .int (M7 (13 * pp + 8) 5)) (k := 13 * pp + 8) (ci := 4) (fs := (oX4 ad (pp))) (C := RX4) (T := TX4) (N := 14) F (P_lt hpp (by decide)) (sh_X4 hpp) rfl kiX4_push_X4 5 (by decide) klX4_push_67 rfl rfl dX4_push_106 ?_
            refine g_iconst (pc := 109) (v := 1) F dX4_push_109 (by decide) ?_
            refine g_iadd (pc := 110) F dX4_push_110 ?_
            refine g_put (pc := 111) (k := 13 * pp + 8) (ci := 4) (fs := (oX4 ad (pp))) (C := RX4) (T := TX4) (N := 14) F (P_lt hpp (by decide)) (sh_X4 hpp) rfl kiX4_push_X4 tyX4 tyX4_ok nmX4 5 (by decide) klX4_push_67 rfl rfl rfl rfl (fun _ => rfl) (Nat.le_of_ble_eq_true rfl) dX4_push_111 (fun M8 => ?_)
            refine g_aload_n (pc := 114) F 0 dX4_push_114 rfl ?_
            refine g_dup (pc := 115) F rfl dX4_push_115 ?_
            refine g_get (pc := 116) (v := .int (M8 (13 * pp + 8) 6)) (k := 13 * pp + 8) (ci := 4) (fs := (oX4 ad (pp))) (C := RX4) (T := TX4) (N := 14) F (P_lt hpp (by decide)) (sh_X4 hpp) rfl kiX4_push_X4 6 (by decide) klX4_push_38 rfl rfl dX4_push_116 ?_
            refine g_iconst (pc := 119) (v := 1) F dX4_push_119 (by decide) ?_
            refine g_iload_n (pc := 120) F 3 dX4_push_120 rfl ?_
            refine g_ishl (pc := 121) F dX4_push_121 ?_
            refine g_ior (pc := 122) F dX4_push_122 ?_
            refine g_put (pc := 123) (k := 13 * pp + 8) (ci := 4) (fs := (oX4 ad (pp))) (C := RX4) (T := TX4) (N := 14) F (P_lt hpp (by decide)) (sh_X4 hpp) rfl kiX4_push_X4 tyX4 tyX4_ok nmX4 6 (by decide) klX4_push_38 rfl rfl rfl rfl (fun _ => rfl) (Nat.le_of_ble_eq_true rfl) dX4_push_123 (fun M9 => ?_)
            refine g_aload_n (pc := 126) F 0 dX4_push_126 rfl ?_
            refine g_iconst (pc := 127) (v := 0) F dX4_push_127 (by decide) ?_
            refine g_put (pc := 128) (k := 13 * pp + 8) (ci := 4) (fs := (oX4 ad (pp))) (C := RX4) (T := TX4) (N := 14) F (P_lt hpp (by decide)) (sh_X4 hpp) rfl kiX4_push_X4 tyX4 tyX4_ok nmX4 7 (by decide) klX4_push_70 rfl rfl rfl rfl (fun _ => rfl) (Nat.le_of_ble_eq_true rfl) dX4_push_128 (fun M10 => ?_)
            exact g_vret (pc := 131) F hr hlk dX4_push_131
          · refine g_sipush (pc := 54) (v := 2048) F dX4_push_54 (by decide) ?_
            refine g_goto (pc := 57) F 61 dX4_push_57 (by decide) ?_
            refine g_istore (pc := 61) F [(0, .ref (ad (13 * pp + 8))), (1, .int a1), (2, .int a2), (3, .int a3), (4, .int a4), (5, .int a5), (6, .int r3), (7, .int 2048)] dX4_push_61 (by decide) rfl rfl rfl ?_
            refine g_aload_n (pc := 63) F 0 dX4_push_63 rfl ?_
            refine g_get (pc := 64) (v := .ref (ad (13 * pp + 9))) (k := 13 * pp + 8) (ci := 4) (fs := (oX4 ad (pp))) (C := RX4) (T := TX4) (N := 14) F (P_lt hpp (by decide)) (sh_X4 hpp) rfl kiX4_push_X4 2 (by decide) klX4_push_12 rfl rfl dX4_push_64 ?_
            refine g_aload_n (pc := 67) F 0 dX4_push_67 rfl ?_
            refine g_get (pc := 68) (v := .int (M4 (13 * pp + 8) 5)) (k := 13 * pp + 8) (ci := 4) (fs := (oX4 ad (pp))) (C := RX4) (T := TX4) (N := 14) F (P_lt hpp (by decide)) (sh_X4 hpp) rfl kiX4_push_X4 5 (by decide) klX4_push_67 rfl rfl dX4_push_68 ?_
            refine g_iload_n (pc := 71) F 1 dX4_push_71 rfl ?_
            refine g_bipush (pc := 72) (v := 12) F dX4_push_72 (by decide) ?_
            refine g_ishl (pc := 74) F dX4_push_74 ?_
            refine g_iload (pc := 75) F 7 dX4_push_75 rfl ?_
            refine g_ior (pc := 77) F dX4_push_77 ?_
            refine g_iload_n (pc := 78) F 2 dX4_push_78 rfl ?_
            refine g_bipush (pc := 79) (v := 10) F dX4_push_79 (by decide) ?_
            refine g_ishl (pc := 81) F dX4_push_81 ?_
            refine g_ior (pc := 82) F dX4_push_82 ?_
            refine g_iload_n (pc := 83) F 3 dX4_push_83 rfl ?_
            refine g_iconst (pc := 84) (v := 5) F dX4_push_84 (by decide) ?_
            refine g_ishl (pc := 85) F dX4_push_85 ?_
            refine g_ior (pc := 86) F dX4_push_86 ?_
            refine g_iload (pc := 87) F 4 dX4_push_87 rfl ?_
            refine g_ior (pc := 89) F dX4_push_89 ?_
            refine g_iast (pc := 90) (k := 13 * pp + 9) (n := 49152) F (P_lt hpp (by decide)) (sh_a9 hpp) dX4_push_90 (fun M11 => ?_)
            refine g_aload_n (pc := 91) F 0 dX4_push_91 rfl ?_
            refine g_get (pc := 92) (v := .ref (ad (54))) (k := 13 * pp + 8) (ci := 4) (fs := (oX4 ad (pp))) (C := RX4) (T := TX4) (N := 14) F (P_lt hpp (by decide)) (sh_X4 hpp) rfl kiX4_push_X4 1 (by decide) klX4_push_30 rfl rfl dX4_push_92 ?_
            refine g_aload_n (pc := 95) F 0 dX4_push_95 rfl ?_
            refine g_get (pc := 96) (v := .int (M11 (13 * pp + 8) 5)) (k := 13 * pp + 8) (ci := 4) (fs := (oX4 ad (pp))) (C := RX4) (T := TX4) (N := 14) F (P_lt hpp (by decide)) (sh_X4 hpp) rfl kiX4_push_X4 5 (by decide) klX4_push_67 rfl rfl dX4_push_96 ?_
            refine g_iload (pc := 99) F 6 dX4_push_99 rfl ?_
            refine g_vv (pc := 101) (k := 54) (ci := 6) (fs := (oX6 ad)) (C := RX6) (T := TX6) (N := 3) (As := [.int (M11 (13 * pp + 8) 5), .int r3]) (st := []) F (c_X6_keep l D ad cs F.2.2.1 (M11 (13 * pp + 8) 5) r3 M11) (by decide) (fun _ => rfl) rfl (cwV 2 F.1.2.2.2.2 gX4_push_X6_keep rfl rfl rfl hdV_X6_keep ⟨by decide, by decide⟩) rfl rfl (Nat.le_of_ble_eq_true rfl) dX4_push_101 ⟨Nat.zero_le _, Nat.zero_le _⟩ (fun r12 M13 => ?_)
            refine g_aload_n (pc := 104) F 0 dX4_push_104 rfl ?_
            refine g_dup (pc := 105) F rfl dX4_push_105 ?_
            refine g_get (pc := 106) (v := .int (M13 (13 * pp + 8) 5)) (k := 13 * pp + 8) (ci := 4) (fs := (oX4 ad (pp))) (C := RX4) (T := TX4) (N := 14) F (P_lt hpp (by decide)) (sh_X4 hpp) rfl kiX4_push_X4 5 (by decide) klX4_push_67 rfl rfl dX4_push_106 ?_
            refine g_iconst (pc := 109) (v := 1) F dX4_push_109 (by decide) ?_
            refine g_iadd (pc := 110) F dX4_push_110 ?_
            refine g_put (pc := 111) (k := 13 * pp + 8) (ci := 4) (fs := (oX4 ad (pp))) (C := RX4) (T := TX4) (N := 14) F (P_lt hpp (by decide)) (sh_X4 hpp) rfl kiX4_push_X4 tyX4 tyX4_ok nmX4 5 (by decide) klX4_push_67 rfl rfl rfl rfl (fun _ => rfl) (Nat.le_of_ble_eq_true rfl) dX4_push_111 (fun M14 => ?_)
            refine g_aload_n (pc := 114) F 0 dX4_push_114 rfl ?_
            refine g_dup (pc := 115) F rfl dX4_push_115 ?_
            refine g_get (pc := 116) (v := .int (M14 (13 * pp + 8) 6)) (k := 13 * pp + 8) (ci := 4) (fs := (oX4 ad (pp))) (C := RX4) (T := TX4) (N := 14) F (P_lt hpp (by decide)) (sh_X4 hpp) rfl kiX4_push_X4 6 (by decide) klX4_push_38 rfl rfl dX4_push_116 ?_
            refine g_iconst (pc := 119) (v := 1) F dX4_push_119 (by decide) ?_
            refine g_iload_n (pc := 120) F 3 dX4_push_120 rfl ?_
            refine g_ishl (pc := 121) F dX4_push_121 ?_
            refine g_ior (pc := 122) F dX4_push_122 ?_
            refine g_put (pc := 123) (k := 13 * pp + 8) (ci := 4) (fs := (oX4 ad (pp))) (C := RX4) (T := TX4) (N := 14) F (P_lt hpp (by decide)) (sh_X4 hpp) rfl kiX4_push_X4 tyX4 tyX4_ok nmX4 6 (by decide) klX4_push_38 rfl rfl rfl rfl (fun _ => rfl) (Nat.le_of_ble_eq_true rfl) dX4_push_123 (fun M15 => ?_)
            refine g_aload_n (pc := 126) F 0 dX4_push_126 rfl ?_
            refine g_iconst (pc := 127) (v := 0) F dX4_push_127 (by decide) ?_
            refine g_put (pc := 128) (k := 13 * pp + 8) (ci := 4) (fs := (oX4 ad (pp))) (C := RX4) (T := TX4) (N := 14) F (P_lt hpp (by decide)) (sh_X4 hpp) rfl kiX4_push_X4 tyX4 tyX4_ok nmX4 7 (by decide) klX4_push_70 rfl rfl rfl rfl (fun _ => rfl) (Nat.le_of_ble_eq_true rfl) dX4_push_128 (fun M16 => ?_)
            exact g_vret (pc := 131) F hr hlk dX4_push_131
        · exact g_vret (pc := 46) F hr hlk dX4_push_46
      · exact g_vret (pc := 25) F hr hlk dX4_push_25
-- X4_masked
def rmX4_masked : Room := { frames := 0, cells := 0, slots := 0, locals := 0 }
def f_X4_masked_L4 (x0 : Int32) (x1 : Int32) (k : Mem → Int32 → Int32 → Option (Int32 × Mem)) : Nat → Mem → Int32 → Int32 → Option (Int32 × Mem)
  | 0, _, _, _ => none
  | n + 1, M, x2, x3 => if 32 ≤ x3 then k M x2 x3 else if (x0 &&& ((1 : Int32) <<< (x3 &&& 31))) = 0 then f_X4_masked_L4 x0 x1 k n M x2 (x3 + 1) else nm (x2 ||| ((1 : Int32) <<< ((x3 &&& x1) &&& 31))) (fun v1 => f_X4_masked_L4 x0 x1 k n M v1 (x3 + 1))
def f_X4_masked (fu : Nat) (a0 : Int32) (a1 : Int32) (M : Mem) : Option (Int32 × Mem) := f_X4_masked_L4 a0 a1 (fun M2 y3 y4 => some (y3, M2)) fu M 0 0
set_option maxHeartbeats 4000000 in
set_option maxRecDepth 100000 in
theorem w_X4_masked_L4 {p : Program} {l : Launch} {e : Env} {s : State} {m : MethodId} {args : Array Value} {below : List Frame} {meth : Method} {c : Code} {D : va_G} {ad : Nat → Nat} {cs : Cs}  (x0 : Int32) (x1 : Int32) (F : Fx p m c cX4_masked 4 s args wsX4_masked RX4 D ad cs (Ad ad)) (hr : meth.sig.returnType = (some .int)) (hlk : meth.locks = false) (k : Mem → Int32 → Int32 → Option (Int32 × Mem)) (hkx : ∀ (M : Mem) (x2 x3 : Int32), GoX p l e rmX4_masked s m args below meth c 0 0 4 (fun rM => MQ below (cQi D ad cs rM) args s 0 0 (Ad ad)) D ad cs (Ad ad) M 32 [(0, .int x0), (1, .int x1), (2, .int x2), (3, .int x3)] [] (k M x2 x3)) : ∀ (n : Nat) (M : Mem) (x2 x3 : Int32), GoX p l e rmX4_masked s m args below meth c 0 0 4 (fun rM => MQ below (cQi D ad cs rM) args s 0 0 (Ad ad)) D ad cs (Ad ad) M 4 [(0, .int x0), (1, .int x1), (2, .int x2), (3, .int x3)] [] (f_X4_masked_L4 x0 x1 k n M x2 x3) := by
  intro n
  induction n with
  | zero => intro M x2 x3; exact g_none
  | succ n ih =>
    intro M x2 x3
    unfold f_X4_masked_L4
    refine g_iload_n (pc := 4) F 3 dX4_masked_4 rfl ?_
    refine g_bipush (pc := 5) (v := 32) F dX4_masked_5 (by decide) ?_
    refine g_icmp_ge (pc := 7) F 32 dX4_masked_7 (by decide) ?_ ?_
    · exact hkx _ _ _
    · refine g_iload_n (pc := 10) F 0 dX4_masked_10 rfl ?_
      refine g_iconst (pc := 11) (v := 1) F dX4_masked_11 (by decide) ?_
      refine g_iload_n (pc := 12) F 3 dX4_masked_12 rfl ?_
      refine g_ishl (pc := 13) F dX4_masked_13 ?_
      refine g_iand (pc := 14) F dX4_masked_14 ?_
      refine g_if_eq (pc := 15) F 26 dX4_masked_15 (by decide) ?_ ?_
      · refine g_iinc (pc := 26) (v := x3 + 1) F [(0, .int x0), (1, .int x1), (2, .int x2), (3, .int (x3 + 1))] 3 dX4_masked_26 rfl rfl (by decide) rfl rfl rfl ?_
        refine g_goto (pc := 29) F 4 dX4_masked_29 (by decide) ?_
        exact ih _ _ _
      · refine g_iload_n (pc := 18) F 2 dX4_masked_18 rfl ?_
        refine g_iconst (pc := 19) (v := 1) F dX4_masked_19 (by decide) ?_
        refine g_iload_n (pc := 20) F 3 dX4_masked_20 rfl ?_
        refine g_iload_n (pc := 21) F 1 dX4_masked_21 rfl ?_
        refine g_iand (pc := 22) F dX4_masked_22 ?_
        refine g_ishl (pc := 23) F dX4_masked_23 ?_
        refine g_ior (pc := 24) F dX4_masked_24 ?_
        refine g_nm (fun v1 => ?_)
        refine g_istore_n (pc := 25) F [(0, .int x0), (1, .int x1), (2, .int v1), (3, .int x3)] dX4_masked_25 (by decide) rfl rfl rfl ?_
        refine g_iinc (pc := 26) (v := x3 + 1) F [(0, .int x0), (1, .int x1), (2, .int v1), (3, .int (x3 + 1))] 3 dX4_masked_26 rfl rfl (by decide) rfl rfl rfl ?_
        refine g_goto (pc := 29) F 4 dX4_masked_29 (by decide) ?_
        exact ih _ _ _
set_option maxHeartbeats 4000000 in
set_option maxRecDepth 100000 in
theorem c_X4_masked (l : Launch) (D : va_G) (ad : Nat → Nat) (cs : Cs) (hi : Inj ad) (fu : Nat) (a0 : Int32) (a1 : Int32) (M : Mem) : MI l yX4_masked wsX4_masked rmX4_masked D ad cs [.int a0, .int a1] M (f_X4_masked fu a0 a1 M) := by
  refine Mx.of (cc := cX4_masked) (maxL := 4) (ret := (some .int)) (own := RX4) (lv := [(0, .int a0), (1, .int a1)]) (by decide) rfl rfl (Nat.le_of_ble_eq_true rfl) rfl hi ?_
  intro p e s m below meth c F hr hlk
  unfold f_X4_masked
  refine g_iconst (pc := 0) (v := 0) F dX4_masked_0 (by decide) ?_
  refine g_istore_n (pc := 1) F [(0, .int a0), (1, .int a1), (2, .int 0)] dX4_masked_1 (by decide) rfl rfl rfl ?_
  refine g_iconst (pc := 2) (v := 0) F dX4_masked_2 (by decide) ?_
  refine g_istore_n (pc := 3) F [(0, .int a0), (1, .int a1), (2, .int 0), (3, .int 0)] dX4_masked_3 (by decide) rfl rfl rfl ?_
  refine w_X4_masked_L4 a0 a1 F hr hlk _ (fun M2 y3 y4 => ?_) _ _ _ _
  refine g_iload_n (pc := 32) F 2 dX4_masked_32 rfl ?_
  exact g_iret (pc := 33) F hr hlk dX4_masked_33
-- X4_secondAfter
def rmX4_secondAfter : Room := { frames := 1, cells := 0, slots := 0, locals := 23 }
def f_X4_secondAfter (fu : Nat) (pp : Nat) (a1 : Int32) (a2 : Int32) (M : Mem) : Option (Int32 × Mem) := nm (M (13 * pp + 8) 10) (fun v1 => if v1 = 0 then some ((1 : Int32) <<< ((M (13 * pp + 8) 12) &&& 31), M) else if v1 = 1 then if (M (13 * pp + 8) 12) = 0 then some (a2, M) else some ((a2 <<< ((M (13 * pp + 8) 12) &&& 31)) ||| (usr a2 ((32 : Int32) - (M (13 * pp + 8) 12))), M) else if v1 = 2 then some ((1 : Int32) <<< (a1 &&& 31), M) else if v1 = 3 then some ((-1), M) else bnd (f_X4_masked fu a2 (M (13 * pp + 8) 12) M) (fun r6 M7 => some (r6, M7)))
set_option maxRecDepth 20000 in
theorem kiX4_secondAfter_X4 : ∀ w ∈ u_ws RX4 TX4 14, w ∈ wsX4_secondAfter := by decide +kernel
set_option maxRecDepth 20000 in
theorem klX4_secondAfter_88 : Cond.fieldLink RX4 88 "DoorLister$Paths" "kind" "I" ∈ wsX4_secondAfter := by decide +kernel
set_option maxRecDepth 20000 in
theorem klX4_secondAfter_120 : Cond.fieldLink RX4 120 "DoorLister$Paths" "n" "I" ∈ wsX4_secondAfter := by decide +kernel
set_option maxHeartbeats 4000000 in
set_option maxRecDepth 100000 in
theorem c_X4_secondAfter (l : Launch) (D : va_G) (ad : Nat → Nat) (cs : Cs) (hi : Inj ad) (fu : Nat) (pp : Nat) (a1 : Int32) (a2 : Int32) (hpp : pp < 4) (M : Mem) : MI l yX4_secondAfter wsX4_secondAfter rmX4_secondAfter D ad cs [.ref (ad (13 * pp + 8)), .int a1, .int a2] M (f_X4_secondAfter fu pp a1 a2 M) := by
  refine Mx.of (cc := cX4_secondAfter) (maxL := 3) (ret := (some .int)) (own := RX4) (lv := [(0, .ref (ad (13 * pp + 8))), (1, .int a1), (2, .int a2)]) (by decide) rfl rfl (Nat.le_of_ble_eq_true rfl) rfl hi ?_
  intro p e s m below meth c F hr hlk
  unfold f_X4_secondAfter
  refine g_aload_n (pc := 0) F 0 dX4_secondAfter_0 rfl ?_
  refine g_get (pc := 1) (v := .int (M (13 * pp + 8) 10)) (k := 13 * pp + 8) (ci := 4) (fs := (oX4 ad (pp))) (C := RX4) (T := TX4) (N := 14) F (P_lt hpp (by decide)) (sh_X4 hpp) rfl kiX4_secondAfter_X4 10 (by decide) klX4_secondAfter_88 rfl rfl dX4_secondAfter_1 ?_
  refine g_nm (fun v1 => ?_)
  refine g_case (v := 0) (fun _ => ?_) (fun n2 => ?_)
  · refine g_tab (pc := 4) (off := 32) F 36 dX4_secondAfter_4 (by decide) (by decide) (by decide) (by decide) ?_
    refine g_iconst (pc := 36) (v := 1) F dX4_secondAfter_36 (by decide) ?_
    refine g_aload_n (pc := 37) F 0 dX4_secondAfter_37 rfl ?_
    refine g_get (pc := 38) (v := .int (M (13 * pp + 8) 12)) (k := 13 * pp + 8) (ci := 4) (fs := (oX4 ad (pp))) (C := RX4) (T := TX4) (N := 14) F (P_lt hpp (by decide)) (sh_X4 hpp) rfl kiX4_secondAfter_X4 12 (by decide) klX4_secondAfter_120 rfl rfl dX4_secondAfter_38 ?_
    refine g_ishl (pc := 41) F dX4_secondAfter_41 ?_
    exact g_iret (pc := 42) F hr hlk dX4_secondAfter_42
  refine g_case (v := 1) (fun _ => ?_) (fun n3 => ?_)
  · refine g_tab (pc := 4) (off := 39) F 43 dX4_secondAfter_4 (by decide) (by decide) (by decide) (by decide) ?_
    refine g_aload_n (pc := 43) F 0 dX4_secondAfter_43 rfl ?_
    refine g_get (pc := 44) (v := .int (M (13 * pp + 8) 12)) (k := 13 * pp + 8) (ci := 4) (fs := (oX4 ad (pp))) (C := RX4) (T := TX4) (N := 14) F (P_lt hpp (by decide)) (sh_X4 hpp) rfl kiX4_secondAfter_X4 12 (by decide) klX4_secondAfter_120 rfl rfl dX4_secondAfter_44 ?_
    refine g_if_ne (pc := 47) F 54 dX4_secondAfter_47 (by decide) ?_ ?_
    · refine g_iload_n (pc := 54) F 2 dX4_secondAfter_54 rfl ?_
      refine g_aload_n (pc := 55) F 0 dX4_secondAfter_55 rfl ?_
      refine g_get (pc := 56) (v := .int (M (13 * pp + 8) 12)) (k := 13 * pp + 8) (ci := 4) (fs := (oX4 ad (pp))) (C := RX4) (T := TX4) (N := 14) F (P_lt hpp (by decide)) (sh_X4 hpp) rfl kiX4_secondAfter_X4 12 (by decide) klX4_secondAfter_120 rfl rfl dX4_secondAfter_56 ?_
      refine g_ishl (pc := 59) F dX4_secondAfter_59 ?_
      refine g_iload_n (pc := 60) F 2 dX4_secondAfter_60 rfl ?_
      refine g_bipush (pc := 61) (v := 32) F dX4_secondAfter_61 (by decide) ?_
      refine g_aload_n (pc := 63) F 0 dX4_secondAfter_63 rfl ?_
      refine g_get (pc := 64) (v := .int (M (13 * pp + 8) 12)) (k := 13 * pp + 8) (ci := 4) (fs := (oX4 ad (pp))) (C := RX4) (T := TX4) (N := 14) F (P_lt hpp (by decide)) (sh_X4 hpp) rfl kiX4_secondAfter_X4 12 (by decide) klX4_secondAfter_120 rfl rfl dX4_secondAfter_64 ?_
      refine g_isub (pc := 67) F dX4_secondAfter_67 ?_
      refine g_iushr (pc := 68) F dX4_secondAfter_68 ?_
      refine g_ior (pc := 69) F dX4_secondAfter_69 ?_
      exact g_iret (pc := 70) F hr hlk dX4_secondAfter_70
    · refine g_iload_n (pc := 50) F 2 dX4_secondAfter_50 rfl ?_
      refine g_goto (pc := 51) F 70 dX4_secondAfter_51 (by decide) ?_
      exact g_iret (pc := 70) F hr hlk dX4_secondAfter_70
  refine g_case (v := 2) (fun _ => ?_) (fun n4 => ?_)
  · refine g_tab (pc := 4) (off := 67) F 71 dX4_secondAfter_4 (by decide) (by decide) (by decide) (by decide) ?_
    refine g_iconst (pc := 71) (v := 1) F dX4_secondAfter_71 (by decide) ?_
    refine g_iload_n (pc := 72) F 1 dX4_secondAfter_72 rfl ?_
    refine g_ishl (pc := 73) F dX4_secondAfter_73 ?_
    exact g_iret (pc := 74) F hr hlk dX4_secondAfter_74
  refine g_case (v := 3) (fun _ => ?_) (fun n5 => ?_)
  · refine g_tab (pc := 4) (off := 71) F 75 dX4_secondAfter_4 (by decide) (by decide) (by decide) (by decide) ?_
    refine g_iconst (pc := 75) (v := (-1)) F dX4_secondAfter_75 (by decide) ?_
    exact g_iret (pc := 76) F hr hlk dX4_secondAfter_76
  refine g_tabd (pc := 4) F 77 dX4_secondAfter_4 (by have e0 := ne_lit (n := 0) (by decide) n2; have e1 := ne_lit (n := 1) (by decide) n3; have e2 := ne_lit (n := 2) (by decide) n4; have e3 := ne_lit (n := 3) (by decide) n5; omega) (by decide) ?_
  refine g_iload_n (pc := 77) F 2 dX4_secondAfter_77 rfl ?_
  refine g_aload_n (pc := 78) F 0 dX4_secondAfter_78 rfl ?_
  refine g_get (pc := 79) (v := .int (M (13 * pp + 8) 12)) (k := 13 * pp + 8) (ci := 4) (fs := (oX4 ad (pp))) (C := RX4) (T := TX4) (N := 14) F (P_lt hpp (by decide)) (sh_X4 hpp) rfl kiX4_secondAfter_X4 12 (by decide) klX4_secondAfter_120 rfl rfl dX4_secondAfter_79 ?_
  refine g_si (pc := 82) (As := [.int a2, .int (M (13 * pp + 8) 12)]) (st := []) F (c_X4_masked l D ad cs F.2.2.1 fu a2 (M (13 * pp + 8) 12) M) (va_cwS 2 F.1.2.2.2.2 gX4_secondAfter_X4_masked rfl rfl rfl hdS_X4_masked ⟨by decide, by decide⟩) rfl rfl (Nat.le_of_ble_eq_true rfl) dX4_secondAfter_82 ⟨Nat.zero_le _, Nat.zero_le _⟩ (fun r6 M7 => ?_)
  exact g_iret (pc := 85) F hr hlk dX4_secondAfter_85
-- X6_give
def rmX6_give : Room := { frames := 0, cells := 0, slots := 0, locals := 0 }
def f_X6_give (a1 : Int32) (a2 : Int32) (a3 : Int32) (M : Mem) : Option (Int32 × Mem) := nm ((a1 * (24 : Int32)) + a2) (fun v1 => if ix v1 48 then nm (a3 &&& ((M (57) v1.toNatClampNeg) ^^^ (-1 : Int32))) (fun v2 => if ix v1 48 then if ix v1 48 then wr M (57) v1.toNatClampNeg ((M (57) v1.toNatClampNeg) ||| v2) (fun M3 => some (v2, M3)) else none else none) else none)
set_option maxRecDepth 20000 in
theorem kiX6_give_X6 : ∀ w ∈ u_ws RX6 TX6 3, w ∈ wsX6_give := by decide +kernel
set_option maxRecDepth 20000 in
theorem klX6_give_21 : Cond.fieldLink RX6 21 "DoorLister$Scratch" "given" "[I" ∈ wsX6_give := by decide +kernel
set_option maxHeartbeats 4000000 in
set_option maxRecDepth 100000 in
theorem c_X6_give (l : Launch) (D : va_G) (ad : Nat → Nat) (cs : Cs) (hi : Inj ad) (a1 : Int32) (a2 : Int32) (a3 : Int32) (M : Mem) : MI l yX6_give wsX6_give rmX6_give D ad cs [.ref (ad (54)), .int a1, .int a2, .int a3] M (f_X6_give a1 a2 a3 M) := by
  refine Mx.of (cc := cX6_give) (maxL := 6) (ret := (some .int)) (own := RX6) (lv := [(0, .ref (ad (54))), (1, .int a1), (2, .int a2), (3, .int a3)]) (by decide) rfl rfl (Nat.le_of_ble_eq_true rfl) rfl hi ?_
  intro p e s m below meth c F hr hlk
  unfold f_X6_give
  refine g_iload_n (pc := 0) F 1 dX6_give_0 rfl ?_
  refine g_bipush (pc := 1) (v := 24) F dX6_give_1 (by decide) ?_
  refine g_imul (pc := 3) F dX6_give_3 ?_
  refine g_iload_n (pc := 4) F 2 dX6_give_4 rfl ?_
  refine g_iadd (pc := 5) F dX6_give_5 ?_
  refine g_nm (fun v1 => ?_)
  refine g_istore (pc := 6) F [(0, .ref (ad (54))), (1, .int a1), (2, .int a2), (3, .int a3), (4, .int v1)] dX6_give_6 (by decide) rfl rfl rfl ?_
  refine g_iload_n (pc := 8) F 3 dX6_give_8 rfl ?_
  refine g_aload_n (pc := 9) F 0 dX6_give_9 rfl ?_
  refine g_get (pc := 10) (v := .ref (ad (57))) (k := 54) (ci := 6) (fs := (oX6 ad)) (C := RX6) (T := TX6) (N := 3) F (by decide) (fun _ => rfl) rfl kiX6_give_X6 2 (by decide) klX6_give_21 rfl rfl dX6_give_10 ?_
  refine g_iload (pc := 13) F 4 dX6_give_13 rfl ?_
  refine g_iald (pc := 15) (k := 57) (n := 48) F (by decide) (fun _ => rfl) dX6_give_15 ?_
  refine g_iconst (pc := 16) (v := (-1)) F dX6_give_16 (by decide) ?_
  refine g_ixor (pc := 17) F dX6_give_17 ?_
  refine g_iand (pc := 18) F dX6_give_18 ?_
  refine g_nm (fun v2 => ?_)
  refine g_istore (pc := 19) F [(0, .ref (ad (54))), (1, .int a1), (2, .int a2), (3, .int a3), (4, .int v1), (5, .int v2)] dX6_give_19 (by decide) rfl rfl rfl ?_
  refine g_aload_n (pc := 21) F 0 dX6_give_21 rfl ?_
  refine g_get (pc := 22) (v := .ref (ad (57))) (k := 54) (ci := 6) (fs := (oX6 ad)) (C := RX6) (T := TX6) (N := 3) F (by decide) (fun _ => rfl) rfl kiX6_give_X6 2 (by decide) klX6_give_21 rfl rfl dX6_give_22 ?_
  refine g_iload (pc := 25) F 4 dX6_give_25 rfl ?_
  refine g_dup2 (pc := 27) F rfl rfl dX6_give_27 ?_
  refine g_iald (pc := 28) (k := 57) (n := 48) F (by decide) (fun _ => rfl) dX6_give_28 ?_
  refine g_iload (pc := 29) F 5 dX6_give_29 rfl ?_
  refine g_ior (pc := 31) F dX6_give_31 ?_
  refine g_iast (pc := 32) (k := 57) (n := 48) F (by decide) (fun _ => rfl) dX6_give_32 (fun M3 => ?_)
  refine g_iload (pc := 33) F 5 dX6_give_33 rfl ?_
  exact g_iret (pc := 35) F hr hlk dX6_give_35
-- X6_mask
def rmX6_mask : Room := { frames := 0, cells := 0, slots := 0, locals := 0 }
def f_X6_mask (a1 : Int32) (M : Mem) : Option (Int32 × Mem) := if ix a1 49152 then some (M (55) a1.toNatClampNeg, M) else none
set_option maxRecDepth 20000 in
theorem kiX6_mask_X6 : ∀ w ∈ u_ws RX6 TX6 3, w ∈ wsX6_mask := by decide +kernel
set_option maxRecDepth 20000 in
theorem klX6_mask_12 : Cond.fieldLink RX6 12 "DoorLister$Scratch" "masks" "[I" ∈ wsX6_mask := by decide +kernel
set_option maxHeartbeats 4000000 in
set_option maxRecDepth 100000 in
theorem c_X6_mask (l : Launch) (D : va_G) (ad : Nat → Nat) (cs : Cs) (hi : Inj ad) (a1 : Int32) (M : Mem) : MI l yX6_mask wsX6_mask rmX6_mask D ad cs [.ref (ad (54)), .int a1] M (f_X6_mask a1 M) := by
  refine Mx.of (cc := cX6_mask) (maxL := 2) (ret := (some .int)) (own := RX6) (lv := [(0, .ref (ad (54))), (1, .int a1)]) (by decide) rfl rfl (Nat.le_of_ble_eq_true rfl) rfl hi ?_
  intro p e s m below meth c F hr hlk
  unfold f_X6_mask
  refine g_aload_n (pc := 0) F 0 dX6_mask_0 rfl ?_
  refine g_get (pc := 1) (v := .ref (ad (55))) (k := 54) (ci := 6) (fs := (oX6 ad)) (C := RX6) (T := TX6) (N := 3) F (by decide) (fun _ => rfl) rfl kiX6_mask_X6 0 (by decide) klX6_mask_12 rfl rfl dX6_mask_1 ?_
  refine g_iload_n (pc := 4) F 1 dX6_mask_4 rfl ?_
  refine g_iald (pc := 5) (k := 55) (n := 49152) F (by decide) (fun _ => rfl) dX6_mask_5 ?_
  exact g_iret (pc := 6) F hr hlk dX6_mask_6
