/-! Written by wip/whole/gen.py: pure functions of methods, and the walks that tie the bytecode to them. -/
-- X9_run
def rmX9_run : Room := { frames := 2, cells := 0, slots := 0, locals := 42 }
def f_X9_run_L59 (x1 : Int32) (x2 : Int32) (k : Mem → Int32 → Int32 → Int32 → Int32 → Int32 → Option (Int32 × Mem)) : Nat → Mem → Int32 → Int32 → Int32 → Int32 → Int32 → Option (Int32 × Mem)
  | 0, _, _, _, _, _, _ => none
  | n + 1, M, x3, x4, x5, x6, x7 => if 500 < x7 then k M x3 x4 x5 x6 x7 else if ix x1 4 then if (M (72) x1.toNatClampNeg) ≤ x3 then wr M (70) 2 0 (fun M7 => some (x6, M7)) else nm (((24 : Int32) * x1) + x3) (fun v8 => if ix v8 96 then if (M (73) v8.toNatClampNeg) = 9 then wr M (70) 2 0 (fun M33 => some (x6, M33)) else if x7 = 500 then some (x6, M) else nm (((24 : Int32) * x1) + x3) (fun v9 => if ix v9 96 then nm (M (74) v9.toNatClampNeg) (fun v10 => if ix v9 96 then nm (M (73) v9.toNatClampNeg) (fun v11 => if v11 = 0 then if ix v9 96 then if ix v10 2 then wr M (91) v10.toNatClampNeg (M (75) v9.toNatClampNeg) (fun M13 => f_X9_run_L59 x1 x2 k n M13 (x3 + 1) x4 x5 x6 (x7 + 1)) else none else none else if v11 = 1 then if ix v10 2 then if ix v9 96 then if ix v10 2 then wr M (91) v10.toNatClampNeg (((M (91) v10.toNatClampNeg) + (M (75) v9.toNatClampNeg)) - ((M (91) v10.toNatClampNeg) + (M (75) v9.toNatClampNeg)) / 32 * 32) (fun M15 => f_X9_run_L59 x1 x2 k n M15 (x3 + 1) x4 x5 x6 (x7 + 1)) else none else none else none else if v11 = 2 then nm ((1 : Int32) - v10) (fun v17 => if ix v17 2 then if ix v10 2 then wr M (91) v10.toNatClampNeg (M (91) v17.toNatClampNeg) (fun M18 => f_X9_run_L59 x1 x2 k n M18 (x3 + 1) x4 x5 x6 (x7 + 1)) else none else none) else if v11 = 3 then if x5 = x2 then wr M (70) 2 1 (fun M21 => some (x6, M21)) else if ix x5 80 then if ix v10 2 then wr M (91) v10.toNatClampNeg ((M (71) x5.toNatClampNeg) &&& (31 : Int32)) (fun M20 => f_X9_run_L59 x1 x2 k n M20 (x3 + 1) x4 (x5 + 1) x6 (x7 + 1)) else none else none else if v11 = 4 then if ix v10 2 then if ix v9 96 then if ix v10 2 then wr M (91) v10.toNatClampNeg ((M (91) v10.toNatClampNeg) &&& (M (75) v9.toNatClampNeg)) (fun M23 => f_X9_run_L59 x1 x2 k n M23 (x3 + 1) x4 x5 x6 (x7 + 1)) else none else none else none else if v11 = 5 then if ix v10 2 then if ix v9 96 then if (M (75) v9.toNatClampNeg) ≤ (M (91) v10.toNatClampNeg) then nm (x3 + 1) (fun v25 => f_X9_run_L59 x1 x2 k n M v25 x4 x5 x6 (x7 + 1)) else if ix v9 96 then nm (M (76) v9.toNatClampNeg) (fun v26 => f_X9_run_L59 x1 x2 k n M v26 x4 x5 x6 (x7 + 1)) else none else none else none else if v11 = 6 then if ix v9 96 then nm (M (76) v9.toNatClampNeg) (fun v28 => f_X9_run_L59 x1 x2 k n M v28 x4 x5 x6 (x7 + 1)) else none else if v11 = 7 then if ix 0 2 then nm ((((64 : Int32) * x1) + ((32 : Int32) * x4)) + (M (91) (0 : Int32).toNatClampNeg)) (fun v30 => if ix v30 256 then if ix 1 2 then if ix v30 256 then wr M (78) v30.toNatClampNeg ((M (78) v30.toNatClampNeg) ||| ((1 : Int32) <<< ((M (91) (1 : Int32).toNatClampNeg) &&& 31))) (fun M31 => f_X9_run_L59 x1 x2 k n M31 (x3 + 1) x4 x5 (x6 + 1) (x7 + 1)) else none else none else none) else none else if v11 = 8 then f_X9_run_L59 x1 x2 k n M (x3 + 1) 1 x5 x6 (x7 + 1) else f_X9_run_L59 x1 x2 k n M (x3 + 1) x4 x5 x6 (x7 + 1)) else none) else none) else none) else none
def f_X9_run (fu : Nat) (a1 : Int32) (a2 : Int32) (M : Mem) : Option (Int32 × Mem) := bnd (f_X9_isProgram a1 M) (fun r1 M2 => if r1 = 0 then some ((-1), M2) else if a2 < 0 then some ((-1), M2) else if a2 ≤ (M2 (70) 1) then wr M2 (70) 1 0 (fun M3 => if ix 0 2 then wr M3 (91) (0 : Int32).toNatClampNeg 0 (fun M4 => if ix 1 2 then wr M4 (91) (1 : Int32).toNatClampNeg 0 (fun M5 => wr M5 (70) 2 2 (fun M6 => f_X9_run_L59 a1 a2 (fun M34 y35 y36 y37 y38 y39 => some (y38, M34)) fu M6 0 0 0 0 0)) else none) else none) else some ((-1), M2))
set_option maxRecDepth 20000 in
theorem kiX9_run_X9 : ∀ w ∈ u_ws RX9 TX9 33, w ∈ wsX9_run := by decide +kernel
set_option maxRecDepth 20000 in
theorem klX9_run_169 : Cond.fieldLink RX9 169 "DoorListerModel" "taped" "I" ∈ wsX9_run := by decide +kernel
set_option maxRecDepth 20000 in
theorem klX9_run_80 : Cond.fieldLink RX9 80 "DoorListerModel" "now" "[I" ∈ wsX9_run := by decide +kernel
set_option maxRecDepth 20000 in
theorem klX9_run_13 : Cond.fieldLink RX9 13 "DoorListerModel" "ended" "I" ∈ wsX9_run := by decide +kernel
set_option maxRecDepth 20000 in
theorem klX9_run_17 : Cond.fieldLink RX9 17 "DoorListerModel" "size" "[I" ∈ wsX9_run := by decide +kernel
set_option maxRecDepth 20000 in
theorem klX9_run_21 : Cond.fieldLink RX9 21 "DoorListerModel" "kind" "[I" ∈ wsX9_run := by decide +kernel
set_option maxRecDepth 20000 in
theorem klX9_run_24 : Cond.fieldLink RX9 24 "DoorListerModel" "reg" "[I" ∈ wsX9_run := by decide +kernel
set_option maxRecDepth 20000 in
theorem klX9_run_27 : Cond.fieldLink RX9 27 "DoorListerModel" "num" "[I" ∈ wsX9_run := by decide +kernel
set_option maxRecDepth 20000 in
theorem klX9_run_7 : Cond.fieldLink RX9 7 "DoorListerModel" "tape" "[B" ∈ wsX9_run := by decide +kernel
set_option maxRecDepth 20000 in
theorem klX9_run_30 : Cond.fieldLink RX9 30 "DoorListerModel" "to" "[I" ∈ wsX9_run := by decide +kernel
set_option maxRecDepth 20000 in
theorem klX9_run_36 : Cond.fieldLink RX9 36 "DoorListerModel" "saw" "[I" ∈ wsX9_run := by decide +kernel
set_option maxHeartbeats 4000000 in
set_option maxRecDepth 100000 in
theorem w_X9_run_L59 {p : Program} {l : Launch} {e : Env} {s : State} {m : MethodId} {args : Array Value} {below : List Frame} {meth : Method} {c : Code} {D : va_G} {ad : Nat → Nat} {cs : Cs}  (x1 : Int32) (x2 : Int32) (F : Fx p m c cX9_run 10 s args wsX9_run RX9 D ad cs (Ad ad)) (hr : meth.sig.returnType = (some .int)) (hlk : meth.locks = false) (k : Mem → Int32 → Int32 → Int32 → Int32 → Int32 → Option (Int32 × Mem)) (hkx : ∀ (M : Mem) (x3 x4 x5 x6 x7 : Int32), GoX p l e rmX9_run s m args below meth c 0 0 10 (fun rM => MQ below (cQi D ad cs rM) args s 0 0 (Ad ad)) D ad cs (Ad ad) M 403 [(0, .ref (ad (70))), (1, .int x1), (2, .int x2), (3, .int x3), (4, .int x4), (5, .int x5), (6, .int x6), (7, .int x7)] [] (k M x3 x4 x5 x6 x7)) : ∀ (n : Nat) (M : Mem) (x3 x4 x5 x6 x7 : Int32), GoX p l e rmX9_run s m args below meth c 0 0 10 (fun rM => MQ below (cQi D ad cs rM) args s 0 0 (Ad ad)) D ad cs (Ad ad) M 59 [(0, .ref (ad (70))), (1, .int x1), (2, .int x2), (3, .int x3), (4, .int x4), (5, .int x5), (6, .int x6), (7, .int x7)] [] (f_X9_run_L59 x1 x2 k n M x3 x4 x5 x6 x7) := by
  intro n
  induction n with
  | zero => intro M x3 x4 x5 x6 x7; exact g_none
  | succ n ih =>
    intro M x3 x4 x5 x6 x7
    unfold f_X9_run_L59
    refine g_iload (pc := 59) F 7 dX9_run_59 rfl ?_
    refine g_sipush (pc := 61) (v := 500) F dX9_run_61 (by decide) ?_
    refine g_icmp_gt (pc := 64) F 403 dX9_run_64 (by decide) ?_ ?_
    · exact hkx _ _ _ _ _ _
    · refine g_iload_n (pc := 67) F 3 dX9_run_67 rfl ?_
      refine g_aload_n (pc := 68) F 0 dX9_run_68 rfl ?_
      refine g_get (pc := 69) (v := .ref (ad (72))) (k := 70) (ci := 9) (fs := (oX9 ad)) (C := RX9) (T := TX9) (N := 33) F (by decide) (fun _ => rfl) rfl kiX9_run_X9 3 (by decide) klX9_run_17 rfl rfl dX9_run_69 ?_
      refine g_iload_n (pc := 72) F 1 dX9_run_72 rfl ?_
      refine g_iald (pc := 73) (k := 72) (n := 4) F (by decide) (fun _ => rfl) dX9_run_73 ?_
      refine g_icmp_ge (pc := 74) F 93 dX9_run_74 (by decide) ?_ ?_
      · refine g_aload_n (pc := 93) F 0 dX9_run_93 rfl ?_
        refine g_iconst (pc := 94) (v := 0) F dX9_run_94 (by decide) ?_
        refine g_put (pc := 95) (k := 70) (ci := 9) (fs := (oX9 ad)) (C := RX9) (T := TX9) (N := 33) F (by decide) (fun _ => rfl) rfl kiX9_run_X9 tyX9 tyX9_ok nmX9 2 (by decide) klX9_run_13 rfl rfl rfl rfl (fun _ => rfl) (Nat.le_of_ble_eq_true rfl) dX9_run_95 (fun M7 => ?_)
        refine g_iload (pc := 98) F 6 dX9_run_98 rfl ?_
        exact g_iret (pc := 100) F hr hlk dX9_run_100
      · refine g_aload_n (pc := 77) F 0 dX9_run_77 rfl ?_
        refine g_get (pc := 78) (v := .ref (ad (73))) (k := 70) (ci := 9) (fs := (oX9 ad)) (C := RX9) (T := TX9) (N := 33) F (by decide) (fun _ => rfl) rfl kiX9_run_X9 4 (by decide) klX9_run_21 rfl rfl dX9_run_78 ?_
        refine g_bipush (pc := 81) (v := 24) F dX9_run_81 (by decide) ?_
        refine g_iload_n (pc := 83) F 1 dX9_run_83 rfl ?_
        refine g_imul (pc := 84) F dX9_run_84 ?_
        refine g_iload_n (pc := 85) F 3 dX9_run_85 rfl ?_
        refine g_iadd (pc := 86) F dX9_run_86 ?_
        refine g_nm (fun v8 => ?_)
        refine g_iald (pc := 87) (k := 73) (n := 96) F (by decide) (fun _ => rfl) dX9_run_87 ?_
        refine g_bipush (pc := 88) (v := 9) F dX9_run_88 (by decide) ?_
        refine g_icmp_ne (pc := 90) F 101 dX9_run_90 (by decide) ?_ ?_
        · refine g_iload (pc := 101) F 7 dX9_run_101 rfl ?_
          refine g_sipush (pc := 103) (v := 500) F dX9_run_103 (by decide) ?_
          refine g_icmp_ne (pc := 106) F 112 dX9_run_106 (by decide) ?_ ?_
          · refine g_bipush (pc := 112) (v := 24) F dX9_run_112 (by decide) ?_
            refine g_iload_n (pc := 114) F 1 dX9_run_114 rfl ?_
            refine g_imul (pc := 115) F dX9_run_115 ?_
            refine g_iload_n (pc := 116) F 3 dX9_run_116 rfl ?_
            refine g_iadd (pc := 117) F dX9_run_117 ?_
            refine g_nm (fun v9 => ?_)
            refine g_istore (pc := 118) F [(0, .ref (ad (70))), (1, .int x1), (2, .int x2), (3, .int x3), (4, .int x4), (5, .int x5), (6, .int x6), (7, .int x7), (8, .int v9)] dX9_run_118 (by decide) rfl rfl rfl ?_
            refine g_aload_n (pc := 120) F 0 dX9_run_120 rfl ?_
            refine g_get (pc := 121) (v := .ref (ad (74))) (k := 70) (ci := 9) (fs := (oX9 ad)) (C := RX9) (T := TX9) (N := 33) F (by decide) (fun _ => rfl) rfl kiX9_run_X9 5 (by decide) klX9_run_24 rfl rfl dX9_run_121 ?_
            refine g_iload (pc := 124) F 8 dX9_run_124 rfl ?_
            refine g_iald (pc := 126) (k := 74) (n := 96) F (by decide) (fun _ => rfl) dX9_run_126 ?_
            refine g_nm (fun v10 => ?_)
            refine g_istore (pc := 127) F [(0, .ref (ad (70))), (1, .int x1), (2, .int x2), (3, .int x3), (4, .int x4), (5, .int x5), (6, .int x6), (7, .int x7), (8, .int v9), (9, .int v10)] dX9_run_127 (by decide) rfl rfl rfl ?_
            refine g_iinc (pc := 129) (v := x3 + 1) F [(0, .ref (ad (70))), (1, .int x1), (2, .int x2), (3, .int (x3 + 1)), (4, .int x4), (5, .int x5), (6, .int x6), (7, .int x7), (8, .int v9), (9, .int v10)] 3 dX9_run_129 rfl rfl (by decide) rfl rfl rfl ?_
            refine g_aload_n (pc := 132) F 0 dX9_run_132 rfl ?_
            refine g_get (pc := 133) (v := .ref (ad (73))) (k := 70) (ci := 9) (fs := (oX9 ad)) (C := RX9) (T := TX9) (N := 33) F (by decide) (fun _ => rfl) rfl kiX9_run_X9 4 (by decide) klX9_run_21 rfl rfl dX9_run_133 ?_
            refine g_iload (pc := 136) F 8 dX9_run_136 rfl ?_
            refine g_iald (pc := 138) (k := 73) (n := 96) F (by decide) (fun _ => rfl) dX9_run_138 ?_
            refine g_nm (fun v11 => ?_)
            refine g_case (v := 0) (fun _ => ?_) (fun n12 => ?_)
            · refine g_tab (pc := 139) (off := 49) F 188 dX9_run_139 (by decide) (by decide) (by decide) (by decide) ?_
              refine g_aload_n (pc := 188) F 0 dX9_run_188 rfl ?_
              refine g_get (pc := 189) (v := .ref (ad (91))) (k := 70) (ci := 9) (fs := (oX9 ad)) (C := RX9) (T := TX9) (N := 33) F (by decide) (fun _ => rfl) rfl kiX9_run_X9 30 (by decide) klX9_run_80 rfl rfl dX9_run_189 ?_
              refine g_iload (pc := 192) F 9 dX9_run_192 rfl ?_
              refine g_aload_n (pc := 194) F 0 dX9_run_194 rfl ?_
              refine g_get (pc := 195) (v := .ref (ad (75))) (k := 70) (ci := 9) (fs := (oX9 ad)) (C := RX9) (T := TX9) (N := 33) F (by decide) (fun _ => rfl) rfl kiX9_run_X9 6 (by decide) klX9_run_27 rfl rfl dX9_run_195 ?_
              refine g_iload (pc := 198) F 8 dX9_run_198 rfl ?_
              refine g_iald (pc := 200) (k := 75) (n := 96) F (by decide) (fun _ => rfl) dX9_run_200 ?_
              refine g_iast (pc := 201) (k := 91) (n := 2) F (by decide) (fun _ => rfl) dX9_run_201 (fun M13 => ?_)
              refine g_goto (pc := 202) F 397 dX9_run_202 (by decide) ?_
              refine g_iinc (pc := 397) (v := x7 + 1) F [(0, .ref (ad (70))), (1, .int x1), (2, .int x2), (3, .int (x3 + 1)), (4, .int x4), (5, .int x5), (6, .int x6), (7, .int (x7 + 1)), (8, .int v9), (9, .int v10)] 7 dX9_run_397 rfl rfl (by decide) rfl rfl rfl ?_
              refine g_goto (pc := 400) F 59 dX9_run_400 (by decide) ?_
              refine g_sub [0, 1, 2, 3, 4, 5, 6, 7] [(0, .ref (ad (70))), (1, .int x1), (2, .int x2), (3, .int (x3 + 1)), (4, .int x4), (5, .int x5), (6, .int x6), (7, .int (x7 + 1))] rfl ?_
              exact ih _ _ _ _ _ _
            refine g_case (v := 1) (fun _ => ?_) (fun n14 => ?_)
            · refine g_tab (pc := 139) (off := 66) F 205 dX9_run_139 (by decide) (by decide) (by decide) (by decide) ?_
              refine g_aload_n (pc := 205) F 0 dX9_run_205 rfl ?_
              refine g_get (pc := 206) (v := .ref (ad (91))) (k := 70) (ci := 9) (fs := (oX9 ad)) (C := RX9) (T := TX9) (N := 33) F (by decide) (fun _ => rfl) rfl kiX9_run_X9 30 (by decide) klX9_run_80 rfl rfl dX9_run_206 ?_
              refine g_iload (pc := 209) F 9 dX9_run_209 rfl ?_
              refine g_aload_n (pc := 211) F 0 dX9_run_211 rfl ?_
              refine g_get (pc := 212) (v := .ref (ad (91))) (k := 70) (ci := 9) (fs := (oX9 ad)) (C := RX9) (T := TX9) (N := 33) F (by decide) (fun _ => rfl) rfl kiX9_run_X9 30 (by decide) klX9_run_80 rfl rfl dX9_run_212 ?_
              refine g_iload (pc := 215) F 9 dX9_run_215 rfl ?_
              refine g_iald (pc := 217) (k := 91) (n := 2) F (by decide) (fun _ => rfl) dX9_run_217 ?_
              refine g_aload_n (pc := 218) F 0 dX9_run_218 rfl ?_
              refine g_get (pc := 219) (v := .ref (ad (75))) (k := 70) (ci := 9) (fs := (oX9 ad)) (C := RX9) (T := TX9) (N := 33) F (by decide) (fun _ => rfl) rfl kiX9_run_X9 6 (by decide) klX9_run_27 rfl rfl dX9_run_219 ?_
              refine g_iload (pc := 222) F 8 dX9_run_222 rfl ?_
              refine g_iald (pc := 224) (k := 75) (n := 96) F (by decide) (fun _ => rfl) dX9_run_224 ?_
              refine g_iadd (pc := 225) F dX9_run_225 ?_
              refine g_bipush (pc := 226) (v := 32) F dX9_run_226 (by decide) ?_
              refine g_irem (pc := 228) F (by decide) dX9_run_228 ?_
              refine g_iast (pc := 229) (k := 91) (n := 2) F (by decide) (fun _ => rfl) dX9_run_229 (fun M15 => ?_)
              refine g_goto (pc := 230) F 397 dX9_run_230 (by decide) ?_
              refine g_iinc (pc := 397) (v := x7 + 1) F [(0, .ref (ad (70))), (1, .int x1), (2, .int x2), (3, .int (x3 + 1)), (4, .int x4), (5, .int x5), (6, .int x6), (7, .int (x7 + 1)), (8, .int v9), (9, .int v10)] 7 dX9_run_397 rfl rfl (by decide) rfl rfl rfl ?_
              refine g_goto (pc := 400) F 59 dX9_run_400 (by decide) ?_
              refine g_sub [0, 1, 2, 3, 4, 5, 6, 7] [(0, .ref (ad (70))), (1, .int x1), (2, .int x2), (3, .int (x3 + 1)), (4, .int x4), (5, .int x5), (6, .int x6), (7, .int (x7 + 1))] rfl ?_
              exact ih _ _ _ _ _ _
            refine g_case (v := 2) (fun _ => ?_) (fun n16 => ?_)
            · refine g_tab (pc := 139) (off := 94) F 233 dX9_run_139 (by decide) (by decide) (by decide) (by decide) ?_
              refine g_aload_n (pc := 233) F 0 dX9_run_233 rfl ?_
              refine g_get (pc := 234) (v := .ref (ad (91))) (k := 70) (ci := 9) (fs := (oX9 ad)) (C := RX9) (T := TX9) (N := 33) F (by decide) (fun _ => rfl) rfl kiX9_run_X9 30 (by decide) klX9_run_80 rfl rfl dX9_run_234 ?_
              refine g_iload (pc := 237) F 9 dX9_run_237 rfl ?_
              refine g_aload_n (pc := 239) F 0 dX9_run_239 rfl ?_
              refine g_get (pc := 240) (v := .ref (ad (91))) (k := 70) (ci := 9) (fs := (oX9 ad)) (C := RX9) (T := TX9) (N := 33) F (by decide) (fun _ => rfl) rfl kiX9_run_X9 30 (by decide) klX9_run_80 rfl rfl dX9_run_240 ?_
              refine g_iconst (pc := 243) (v := 1) F dX9_run_243 (by decide) ?_
              refine g_iload (pc := 244) F 9 dX9_run_244 rfl ?_
              refine g_isub (pc := 246) F dX9_run_246 ?_
              refine g_nm (fun v17 => ?_)
              refine g_iald (pc := 247) (k := 91) (n := 2) F (by decide) (fun _ => rfl) dX9_run_247 ?_
              refine g_iast (pc := 248) (k := 91) (n := 2) F (by decide) (fun _ => rfl) dX9_run_248 (fun M18 => ?_)
              refine g_goto (pc := 249) F 397 dX9_run_249 (by decide) ?_
              refine g_iinc (pc := 397) (v := x7 + 1) F [(0, .ref (ad (70))), (1, .int x1), (2, .int x2), (3, .int (x3 + 1)), (4, .int x4), (5, .int x5), (6, .int x6), (7, .int (x7 + 1)), (8, .int v9), (9, .int v10)] 7 dX9_run_397 rfl rfl (by decide) rfl rfl rfl ?_
              refine g_goto (pc := 400) F 59 dX9_run_400 (by decide) ?_
              refine g_sub [0, 1, 2, 3, 4, 5, 6, 7] [(0, .ref (ad (70))), (1, .int x1), (2, .int x2), (3, .int (x3 + 1)), (4, .int x4), (5, .int x5), (6, .int x6), (7, .int (x7 + 1))] rfl ?_
              exact ih _ _ _ _ _ _
            refine g_case (v := 3) (fun _ => ?_) (fun n19 => ?_)
            · refine g_tab (pc := 139) (off := 113) F 252 dX9_run_139 (by decide) (by decide) (by decide) (by decide) ?_
              refine g_iload (pc := 252) F 5 dX9_run_252 rfl ?_
              refine g_iload_n (pc := 254) F 2 dX9_run_254 rfl ?_
              refine g_icmp_ne (pc := 255) F 266 dX9_run_255 (by decide) ?_ ?_
              · refine g_aload_n (pc := 266) F 0 dX9_run_266 rfl ?_
                refine g_get (pc := 267) (v := .ref (ad (91))) (k := 70) (ci := 9) (fs := (oX9 ad)) (C := RX9) (T := TX9) (N := 33) F (by decide) (fun _ => rfl) rfl kiX9_run_X9 30 (by decide) klX9_run_80 rfl rfl dX9_run_267 ?_
                refine g_iload (pc := 270) F 9 dX9_run_270 rfl ?_
                refine g_aload_n (pc := 272) F 0 dX9_run_272 rfl ?_
                refine g_get (pc := 273) (v := .ref (ad (71))) (k := 70) (ci := 9) (fs := (oX9 ad)) (C := RX9) (T := TX9) (N := 33) F (by decide) (fun _ => rfl) rfl kiX9_run_X9 0 (by decide) klX9_run_7 rfl rfl dX9_run_273 ?_
                refine g_iload (pc := 276) F 5 dX9_run_276 rfl ?_
                refine g_bald (pc := 278) (k := 71) (n := 80) F (by decide) (fun _ => rfl) dX9_run_278 ?_
                refine g_bipush (pc := 279) (v := 31) F dX9_run_279 (by decide) ?_
                refine g_iand (pc := 281) F dX9_run_281 ?_
                refine g_iast (pc := 282) (k := 91) (n := 2) F (by decide) (fun _ => rfl) dX9_run_282 (fun M20 => ?_)
                refine g_iinc (pc := 283) (v := x5 + 1) F [(0, .ref (ad (70))), (1, .int x1), (2, .int x2), (3, .int (x3 + 1)), (4, .int x4), (5, .int (x5 + 1)), (6, .int x6), (7, .int x7), (8, .int v9), (9, .int v10)] 5 dX9_run_283 rfl rfl (by decide) rfl rfl rfl ?_
                refine g_goto (pc := 286) F 397 dX9_run_286 (by decide) ?_
                refine g_iinc (pc := 397) (v := x7 + 1) F [(0, .ref (ad (70))), (1, .int x1), (2, .int x2), (3, .int (x3 + 1)), (4, .int x4), (5, .int (x5 + 1)), (6, .int x6), (7, .int (x7 + 1)), (8, .int v9), (9, .int v10)] 7 dX9_run_397 rfl rfl (by decide) rfl rfl rfl ?_
                refine g_goto (pc := 400) F 59 dX9_run_400 (by decide) ?_
                refine g_sub [0, 1, 2, 3, 4, 5, 6, 7] [(0, .ref (ad (70))), (1, .int x1), (2, .int x2), (3, .int (x3 + 1)), (4, .int x4), (5, .int (x5 + 1)), (6, .int x6), (7, .int (x7 + 1))] rfl ?_
                exact ih _ _ _ _ _ _
              · refine g_aload_n (pc := 258) F 0 dX9_run_258 rfl ?_
                refine g_iconst (pc := 259) (v := 1) F dX9_run_259 (by decide) ?_
                refine g_put (pc := 260) (k := 70) (ci := 9) (fs := (oX9 ad)) (C := RX9) (T := TX9) (N := 33) F (by decide) (fun _ => rfl) rfl kiX9_run_X9 tyX9 tyX9_ok nmX9 2 (by decide) klX9_run_13 rfl rfl rfl rfl (fun _ => rfl) (Nat.le_of_ble_eq_true rfl) dX9_run_260 (fun M21 => ?_)
                refine g_iload (pc := 263) F 6 dX9_run_263 rfl ?_
                exact g_iret (pc := 265) F hr hlk dX9_run_265
            refine g_case (v := 4) (fun _ => ?_) (fun n22 => ?_)
            · refine g_tab (pc := 139) (off := 150) F 289 dX9_run_139 (by decide) (by decide) (by decide) (by decide) ?_
              refine g_aload_n (pc := 289) F 0 dX9_run_289 rfl ?_
              refine g_get (pc := 290) (v := .ref (ad (91))) (k := 70) (ci := 9) (fs := (oX9 ad)) (C := RX9) (T := TX9) (N := 33) F (by decide) (fun _ => rfl) rfl kiX9_run_X9 30 (by decide) klX9_run_80 rfl rfl dX9_run_290 ?_
              refine g_iload (pc := 293) F 9 dX9_run_293 rfl ?_
              refine g_dup2 (pc := 295) F rfl rfl dX9_run_295 ?_
              refine g_iald (pc := 296) (k := 91) (n := 2) F (by decide) (fun _ => rfl) dX9_run_296 ?_
              refine g_aload_n (pc := 297) F 0 dX9_run_297 rfl ?_
              refine g_get (pc := 298) (v := .ref (ad (75))) (k := 70) (ci := 9) (fs := (oX9 ad)) (C := RX9) (T := TX9) (N := 33) F (by decide) (fun _ => rfl) rfl kiX9_run_X9 6 (by decide) klX9_run_27 rfl rfl dX9_run_298 ?_
              refine g_iload (pc := 301) F 8 dX9_run_301 rfl ?_
              refine g_iald (pc := 303) (k := 75) (n := 96) F (by decide) (fun _ => rfl) dX9_run_303 ?_
              refine g_iand (pc := 304) F dX9_run_304 ?_
              refine g_iast (pc := 305) (k := 91) (n := 2) F (by decide) (fun _ => rfl) dX9_run_305 (fun M23 => ?_)
              refine g_goto (pc := 306) F 397 dX9_run_306 (by decide) ?_
              refine g_iinc (pc := 397) (v := x7 + 1) F [(0, .ref (ad (70))), (1, .int x1), (2, .int x2), (3, .int (x3 + 1)), (4, .int x4), (5, .int x5), (6, .int x6), (7, .int (x7 + 1)), (8, .int v9), (9, .int v10)] 7 dX9_run_397 rfl rfl (by decide) rfl rfl rfl ?_
              refine g_goto (pc := 400) F 59 dX9_run_400 (by decide) ?_
              refine g_sub [0, 1, 2, 3, 4, 5, 6, 7] [(0, .ref (ad (70))), (1, .int x1), (2, .int x2), (3, .int (x3 + 1)), (4, .int x4), (5, .int x5), (6, .int x6), (7, .int (x7 + 1))] rfl ?_
              exact ih _ _ _ _ _ _
            refine g_case (v := 5) (fun _ => ?_) (fun n24 => ?_)
            · refine g_tab (pc := 139) (off := 170) F 309 dX9_run_139 (by decide) (by decide) (by decide) (by decide) ?_
              refine g_aload_n (pc := 309) F 0 dX9_run_309 rfl ?_
              refine g_get (pc := 310) (v := .ref (ad (91))) (k := 70) (ci := 9) (fs := (oX9 ad)) (C := RX9) (T := TX9) (N := 33) F (by decide) (fun _ => rfl) rfl kiX9_run_X9 30 (by decide) klX9_run_80 rfl rfl dX9_run_310 ?_
              refine g_iload (pc := 313) F 9 dX9_run_313 rfl ?_
              refine g_iald (pc := 315) (k := 91) (n := 2) F (by decide) (fun _ => rfl) dX9_run_315 ?_
              refine g_aload_n (pc := 316) F 0 dX9_run_316 rfl ?_
              refine g_get (pc := 317) (v := .ref (ad (75))) (k := 70) (ci := 9) (fs := (oX9 ad)) (C := RX9) (T := TX9) (N := 33) F (by decide) (fun _ => rfl) rfl kiX9_run_X9 6 (by decide) klX9_run_27 rfl rfl dX9_run_317 ?_
              refine g_iload (pc := 320) F 8 dX9_run_320 rfl ?_
              refine g_iald (pc := 322) (k := 75) (n := 96) F (by decide) (fun _ => rfl) dX9_run_322 ?_
              refine g_icmp_ge (pc := 323) F 336 dX9_run_323 (by decide) ?_ ?_
              · refine g_iload_n (pc := 336) F 3 dX9_run_336 rfl ?_
                refine g_nm (fun v25 => ?_)
                refine g_istore_n (pc := 337) F [(0, .ref (ad (70))), (1, .int x1), (2, .int x2), (3, .int v25), (4, .int x4), (5, .int x5), (6, .int x6), (7, .int x7), (8, .int v9), (9, .int v10)] dX9_run_337 (by decide) rfl rfl rfl ?_
                refine g_goto (pc := 338) F 397 dX9_run_338 (by decide) ?_
                refine g_iinc (pc := 397) (v := x7 + 1) F [(0, .ref (ad (70))), (1, .int x1), (2, .int x2), (3, .int v25), (4, .int x4), (5, .int x5), (6, .int x6), (7, .int (x7 + 1)), (8, .int v9), (9, .int v10)] 7 dX9_run_397 rfl rfl (by decide) rfl rfl rfl ?_
                refine g_goto (pc := 400) F 59 dX9_run_400 (by decide) ?_
                refine g_sub [0, 1, 2, 3, 4, 5, 6, 7] [(0, .ref (ad (70))), (1, .int x1), (2, .int x2), (3, .int v25), (4, .int x4), (5, .int x5), (6, .int x6), (7, .int (x7 + 1))] rfl ?_
                exact ih _ _ _ _ _ _
              · refine g_aload_n (pc := 326) F 0 dX9_run_326 rfl ?_
                refine g_get (pc := 327) (v := .ref (ad (76))) (k := 70) (ci := 9) (fs := (oX9 ad)) (C := RX9) (T := TX9) (N := 33) F (by decide) (fun _ => rfl) rfl kiX9_run_X9 7 (by decide) klX9_run_30 rfl rfl dX9_run_327 ?_
                refine g_iload (pc := 330) F 8 dX9_run_330 rfl ?_
                refine g_iald (pc := 332) (k := 76) (n := 96) F (by decide) (fun _ => rfl) dX9_run_332 ?_
                refine g_goto (pc := 333) F 337 dX9_run_333 (by decide) ?_
                refine g_nm (fun v26 => ?_)
                refine g_istore_n (pc := 337) F [(0, .ref (ad (70))), (1, .int x1), (2, .int x2), (3, .int v26), (4, .int x4), (5, .int x5), (6, .int x6), (7, .int x7), (8, .int v9), (9, .int v10)] dX9_run_337 (by decide) rfl rfl rfl ?_
                refine g_goto (pc := 338) F 397 dX9_run_338 (by decide) ?_
                refine g_iinc (pc := 397) (v := x7 + 1) F [(0, .ref (ad (70))), (1, .int x1), (2, .int x2), (3, .int v26), (4, .int x4), (5, .int x5), (6, .int x6), (7, .int (x7 + 1)), (8, .int v9), (9, .int v10)] 7 dX9_run_397 rfl rfl (by decide) rfl rfl rfl ?_
                refine g_goto (pc := 400) F 59 dX9_run_400 (by decide) ?_
                refine g_sub [0, 1, 2, 3, 4, 5, 6, 7] [(0, .ref (ad (70))), (1, .int x1), (2, .int x2), (3, .int v26), (4, .int x4), (5, .int x5), (6, .int x6), (7, .int (x7 + 1))] rfl ?_
                exact ih _ _ _ _ _ _
            refine g_case (v := 6) (fun _ => ?_) (fun n27 => ?_)
            · refine g_tab (pc := 139) (off := 202) F 341 dX9_run_139 (by decide) (by decide) (by decide) (by decide) ?_
              refine g_aload_n (pc := 341) F 0 dX9_run_341 rfl ?_
              refine g_get (pc := 342) (v := .ref (ad (76))) (k := 70) (ci := 9) (fs := (oX9 ad)) (C := RX9) (T := TX9) (N := 33) F (by decide) (fun _ => rfl) rfl kiX9_run_X9 7 (by decide) klX9_run_30 rfl rfl dX9_run_342 ?_
              refine g_iload (pc := 345) F 8 dX9_run_345 rfl ?_
              refine g_iald (pc := 347) (k := 76) (n := 96) F (by decide) (fun _ => rfl) dX9_run_347 ?_
              refine g_nm (fun v28 => ?_)
              refine g_istore_n (pc := 348) F [(0, .ref (ad (70))), (1, .int x1), (2, .int x2), (3, .int v28), (4, .int x4), (5, .int x5), (6, .int x6), (7, .int x7), (8, .int v9), (9, .int v10)] dX9_run_348 (by decide) rfl rfl rfl ?_
              refine g_goto (pc := 349) F 397 dX9_run_349 (by decide) ?_
              refine g_iinc (pc := 397) (v := x7 + 1) F [(0, .ref (ad (70))), (1, .int x1), (2, .int x2), (3, .int v28), (4, .int x4), (5, .int x5), (6, .int x6), (7, .int (x7 + 1)), (8, .int v9), (9, .int v10)] 7 dX9_run_397 rfl rfl (by decide) rfl rfl rfl ?_
              refine g_goto (pc := 400) F 59 dX9_run_400 (by decide) ?_
              refine g_sub [0, 1, 2, 3, 4, 5, 6, 7] [(0, .ref (ad (70))), (1, .int x1), (2, .int x2), (3, .int v28), (4, .int x4), (5, .int x5), (6, .int x6), (7, .int (x7 + 1))] rfl ?_
              exact ih _ _ _ _ _ _
            refine g_case (v := 7) (fun _ => ?_) (fun n29 => ?_)
            · refine g_tab (pc := 139) (off := 213) F 352 dX9_run_139 (by decide) (by decide) (by decide) (by decide) ?_
              refine g_aload_n (pc := 352) F 0 dX9_run_352 rfl ?_
              refine g_get (pc := 353) (v := .ref (ad (78))) (k := 70) (ci := 9) (fs := (oX9 ad)) (C := RX9) (T := TX9) (N := 33) F (by decide) (fun _ => rfl) rfl kiX9_run_X9 9 (by decide) klX9_run_36 rfl rfl dX9_run_353 ?_
              refine g_bipush (pc := 356) (v := 64) F dX9_run_356 (by decide) ?_
              refine g_iload_n (pc := 358) F 1 dX9_run_358 rfl ?_
              refine g_imul (pc := 359) F dX9_run_359 ?_
              refine g_bipush (pc := 360) (v := 32) F dX9_run_360 (by decide) ?_
              refine g_iload (pc := 362) F 4 dX9_run_362 rfl ?_
              refine g_imul (pc := 364) F dX9_run_364 ?_
              refine g_iadd (pc := 365) F dX9_run_365 ?_
              refine g_aload_n (pc := 366) F 0 dX9_run_366 rfl ?_
              refine g_get (pc := 367) (v := .ref (ad (91))) (k := 70) (ci := 9) (fs := (oX9 ad)) (C := RX9) (T := TX9) (N := 33) F (by decide) (fun _ => rfl) rfl kiX9_run_X9 30 (by decide) klX9_run_80 rfl rfl dX9_run_367 ?_
              refine g_iconst (pc := 370) (v := 0) F dX9_run_370 (by decide) ?_
              refine g_iald (pc := 371) (k := 91) (n := 2) F (by decide) (fun _ => rfl) dX9_run_371 ?_
              refine g_iadd (pc := 372) F dX9_run_372 ?_
              refine g_nm (fun v30 => ?_)
              refine g_dup2 (pc := 373) F rfl rfl dX9_run_373 ?_
              refine g_iald (pc := 374) (k := 78) (n := 256) F (by decide) (fun _ => rfl) dX9_run_374 ?_
              refine g_iconst (pc := 375) (v := 1) F dX9_run_375 (by decide) ?_
              refine g_aload_n (pc := 376) F 0 dX9_run_376 rfl ?_
              refine g_get (pc := 377) (v := .ref (ad (91))) (k := 70) (ci := 9) (fs := (oX9 ad)) (C := RX9) (T := TX9) (N := 33) F (by decide) (fun _ => rfl) rfl kiX9_run_X9 30 (by decide) klX9_run_80 rfl rfl dX9_run_377 ?_
              refine g_iconst (pc := 380) (v := 1) F dX9_run_380 (by decide) ?_
              refine g_iald (pc := 381) (k := 91) (n := 2) F (by decide) (fun _ => rfl) dX9_run_381 ?_
              refine g_ishl (pc := 382) F dX9_run_382 ?_
              refine g_ior (pc := 383) F dX9_run_383 ?_
              refine g_iast (pc := 384) (k := 78) (n := 256) F (by decide) (fun _ => rfl) dX9_run_384 (fun M31 => ?_)
              refine g_iinc (pc := 385) (v := x6 + 1) F [(0, .ref (ad (70))), (1, .int x1), (2, .int x2), (3, .int (x3 + 1)), (4, .int x4), (5, .int x5), (6, .int (x6 + 1)), (7, .int x7), (8, .int v9), (9, .int v10)] 6 dX9_run_385 rfl rfl (by decide) rfl rfl rfl ?_
              refine g_goto (pc := 388) F 397 dX9_run_388 (by decide) ?_
              refine g_iinc (pc := 397) (v := x7 + 1) F [(0, .ref (ad (70))), (1, .int x1), (2, .int x2), (3, .int (x3 + 1)), (4, .int x4), (5, .int x5), (6, .int (x6 + 1)), (7, .int (x7 + 1)), (8, .int v9), (9, .int v10)] 7 dX9_run_397 rfl rfl (by decide) rfl rfl rfl ?_
              refine g_goto (pc := 400) F 59 dX9_run_400 (by decide) ?_
              refine g_sub [0, 1, 2, 3, 4, 5, 6, 7] [(0, .ref (ad (70))), (1, .int x1), (2, .int x2), (3, .int (x3 + 1)), (4, .int x4), (5, .int x5), (6, .int (x6 + 1)), (7, .int (x7 + 1))] rfl ?_
              exact ih _ _ _ _ _ _
            refine g_case (v := 8) (fun _ => ?_) (fun n32 => ?_)
            · refine g_tab (pc := 139) (off := 252) F 391 dX9_run_139 (by decide) (by decide) (by decide) (by decide) ?_
              refine g_iconst (pc := 391) (v := 1) F dX9_run_391 (by decide) ?_
              refine g_istore (pc := 392) F [(0, .ref (ad (70))), (1, .int x1), (2, .int x2), (3, .int (x3 + 1)), (4, .int 1), (5, .int x5), (6, .int x6), (7, .int x7), (8, .int v9), (9, .int v10)] dX9_run_392 (by decide) rfl rfl rfl ?_
              refine g_goto (pc := 394) F 397 dX9_run_394 (by decide) ?_
              refine g_iinc (pc := 397) (v := x7 + 1) F [(0, .ref (ad (70))), (1, .int x1), (2, .int x2), (3, .int (x3 + 1)), (4, .int 1), (5, .int x5), (6, .int x6), (7, .int (x7 + 1)), (8, .int v9), (9, .int v10)] 7 dX9_run_397 rfl rfl (by decide) rfl rfl rfl ?_
              refine g_goto (pc := 400) F 59 dX9_run_400 (by decide) ?_
              refine g_sub [0, 1, 2, 3, 4, 5, 6, 7] [(0, .ref (ad (70))), (1, .int x1), (2, .int x2), (3, .int (x3 + 1)), (4, .int 1), (5, .int x5), (6, .int x6), (7, .int (x7 + 1))] rfl ?_
              exact ih _ _ _ _ _ _
            refine g_tabd (pc := 139) F 397 dX9_run_139 (by have e0 := ne_lit (n := 0) (by decide) n12; have e1 := ne_lit (n := 1) (by decide) n14; have e2 := ne_lit (n := 2) (by decide) n16; have e3 := ne_lit (n := 3) (by decide) n19; have e4 := ne_lit (n := 4) (by decide) n22; have e5 := ne_lit (n := 5) (by decide) n24; have e6 := ne_lit (n := 6) (by decide) n27; have e7 := ne_lit (n := 7) (by decide) n29; have e8 := ne_lit (n := 8) (by decide) n32; omega) (by decide) ?_
            refine g_iinc (pc := 397) (v := x7 + 1) F [(0, .ref (ad (70))), (1, .int x1), (2, .int x2), (3, .int (x3 + 1)), (4, .int x4), (5, .int x5), (6, .int x6), (7, .int (x7 + 1)), (8, .int v9), (9, .int v10)] 7 dX9_run_397 rfl rfl (by decide) rfl rfl rfl ?_
            refine g_goto (pc := 400) F 59 dX9_run_400 (by decide) ?_
            refine g_sub [0, 1, 2, 3, 4, 5, 6, 7] [(0, .ref (ad (70))), (1, .int x1), (2, .int x2), (3, .int (x3 + 1)), (4, .int x4), (5, .int x5), (6, .int x6), (7, .int (x7 + 1))] rfl ?_
            exact ih _ _ _ _ _ _
          · refine g_iload (pc := 109) F 6 dX9_run_109 rfl ?_
            exact g_iret (pc := 111) F hr hlk dX9_run_111
        · refine g_aload_n (pc := 93) F 0 dX9_run_93 rfl ?_
          refine g_iconst (pc := 94) (v := 0) F dX9_run_94 (by decide) ?_
          refine g_put (pc := 95) (k := 70) (ci := 9) (fs := (oX9 ad)) (C := RX9) (T := TX9) (N := 33) F (by decide) (fun _ => rfl) rfl kiX9_run_X9 tyX9 tyX9_ok nmX9 2 (by decide) klX9_run_13 rfl rfl rfl rfl (fun _ => rfl) (Nat.le_of_ble_eq_true rfl) dX9_run_95 (fun M33 => ?_)
          refine g_iload (pc := 98) F 6 dX9_run_98 rfl ?_
          exact g_iret (pc := 100) F hr hlk dX9_run_100
set_option maxHeartbeats 4000000 in
set_option maxRecDepth 100000 in
theorem c_X9_run (l : Launch) (D : va_G) (ad : Nat → Nat) (cs : Cs) (hi : Inj ad) (fu : Nat) (a1 : Int32) (a2 : Int32) (M : Mem) : MI l yX9_run wsX9_run rmX9_run D ad cs [.ref (ad (70)), .int a1, .int a2] M (f_X9_run fu a1 a2 M) := by
  refine Mx.of (cc := cX9_run) (maxL := 10) (ret := (some .int)) (own := RX9) (lv := [(0, .ref (ad (70))), (1, .int a1), (2, .int a2)]) (by decide) rfl rfl (Nat.le_of_ble_eq_true rfl) rfl hi ?_
  intro p e s m below meth c F hr hlk
  unfold f_X9_run
  refine g_iload_n (pc := 0) F 1 dX9_run_0 rfl ?_
  refine g_si (pc := 1) (As := [.int a1]) (st := []) F (c_X9_isProgram l D ad cs F.2.2.1 a1 M) (va_cwS 1 F.1.2.2.2.2 gX9_run_X9_isProgram rfl rfl rfl hdS_X9_isProgram ⟨by decide, by decide⟩) rfl rfl (Nat.le_of_ble_eq_true rfl) dX9_run_1 ⟨Nat.zero_le _, Nat.zero_le _⟩ (fun r1 M2 => ?_)
  refine g_if_eq (pc := 4) F 19 dX9_run_4 (by decide) ?_ ?_
  · refine g_iconst (pc := 19) (v := (-1)) F dX9_run_19 (by decide) ?_
    exact g_iret (pc := 20) F hr hlk dX9_run_20
  · refine g_iload_n (pc := 7) F 2 dX9_run_7 rfl ?_
    refine g_if_lt (pc := 8) F 19 dX9_run_8 (by decide) ?_ ?_
    · refine g_iconst (pc := 19) (v := (-1)) F dX9_run_19 (by decide) ?_
      exact g_iret (pc := 20) F hr hlk dX9_run_20
    · refine g_iload_n (pc := 11) F 2 dX9_run_11 rfl ?_
      refine g_aload_n (pc := 12) F 0 dX9_run_12 rfl ?_
      refine g_get (pc := 13) (v := .int (M2 (70) 1)) (k := 70) (ci := 9) (fs := (oX9 ad)) (C := RX9) (T := TX9) (N := 33) F (by decide) (fun _ => rfl) rfl kiX9_run_X9 1 (by decide) klX9_run_169 rfl rfl dX9_run_13 ?_
      refine g_icmp_le (pc := 16) F 21 dX9_run_16 (by decide) ?_ ?_
      · refine g_aload_n (pc := 21) F 0 dX9_run_21 rfl ?_
        refine g_iconst (pc := 22) (v := 0) F dX9_run_22 (by decide) ?_
        refine g_put (pc := 23) (k := 70) (ci := 9) (fs := (oX9 ad)) (C := RX9) (T := TX9) (N := 33) F (by decide) (fun _ => rfl) rfl kiX9_run_X9 tyX9 tyX9_ok nmX9 1 (by decide) klX9_run_169 rfl rfl rfl rfl (fun _ => rfl) (Nat.le_of_ble_eq_true rfl) dX9_run_23 (fun M3 => ?_)
        refine g_aload_n (pc := 26) F 0 dX9_run_26 rfl ?_
        refine g_get (pc := 27) (v := .ref (ad (91))) (k := 70) (ci := 9) (fs := (oX9 ad)) (C := RX9) (T := TX9) (N := 33) F (by decide) (fun _ => rfl) rfl kiX9_run_X9 30 (by decide) klX9_run_80 rfl rfl dX9_run_27 ?_
        refine g_iconst (pc := 30) (v := 0) F dX9_run_30 (by decide) ?_
        refine g_iconst (pc := 31) (v := 0) F dX9_run_31 (by decide) ?_
        refine g_iast (pc := 32) (k := 91) (n := 2) F (by decide) (fun _ => rfl) dX9_run_32 (fun M4 => ?_)
        refine g_aload_n (pc := 33) F 0 dX9_run_33 rfl ?_
        refine g_get (pc := 34) (v := .ref (ad (91))) (k := 70) (ci := 9) (fs := (oX9 ad)) (C := RX9) (T := TX9) (N := 33) F (by decide) (fun _ => rfl) rfl kiX9_run_X9 30 (by decide) klX9_run_80 rfl rfl dX9_run_34 ?_
        refine g_iconst (pc := 37) (v := 1) F dX9_run_37 (by decide) ?_
        refine g_iconst (pc := 38) (v := 0) F dX9_run_38 (by decide) ?_
        refine g_iast (pc := 39) (k := 91) (n := 2) F (by decide) (fun _ => rfl) dX9_run_39 (fun M5 => ?_)
        refine g_iconst (pc := 40) (v := 0) F dX9_run_40 (by decide) ?_
        refine g_istore_n (pc := 41) F [(0, .ref (ad (70))), (1, .int a1), (2, .int a2), (3, .int 0)] dX9_run_41 (by decide) rfl rfl rfl ?_
        refine g_iconst (pc := 42) (v := 0) F dX9_run_42 (by decide) ?_
        refine g_istore (pc := 43) F [(0, .ref (ad (70))), (1, .int a1), (2, .int a2), (3, .int 0), (4, .int 0)] dX9_run_43 (by decide) rfl rfl rfl ?_
        refine g_iconst (pc := 45) (v := 0) F dX9_run_45 (by decide) ?_
        refine g_istore (pc := 46) F [(0, .ref (ad (70))), (1, .int a1), (2, .int a2), (3, .int 0), (4, .int 0), (5, .int 0)] dX9_run_46 (by decide) rfl rfl rfl ?_
        refine g_iconst (pc := 48) (v := 0) F dX9_run_48 (by decide) ?_
        refine g_istore (pc := 49) F [(0, .ref (ad (70))), (1, .int a1), (2, .int a2), (3, .int 0), (4, .int 0), (5, .int 0), (6, .int 0)] dX9_run_49 (by decide) rfl rfl rfl ?_
        refine g_aload_n (pc := 51) F 0 dX9_run_51 rfl ?_
        refine g_iconst (pc := 52) (v := 2) F dX9_run_52 (by decide) ?_
        refine g_put (pc := 53) (k := 70) (ci := 9) (fs := (oX9 ad)) (C := RX9) (T := TX9) (N := 33) F (by decide) (fun _ => rfl) rfl kiX9_run_X9 tyX9 tyX9_ok nmX9 2 (by decide) klX9_run_13 rfl rfl rfl rfl (fun _ => rfl) (Nat.le_of_ble_eq_true rfl) dX9_run_53 (fun M6 => ?_)
        refine g_iconst (pc := 56) (v := 0) F dX9_run_56 (by decide) ?_
        refine g_istore (pc := 57) F [(0, .ref (ad (70))), (1, .int a1), (2, .int a2), (3, .int 0), (4, .int 0), (5, .int 0), (6, .int 0), (7, .int 0)] dX9_run_57 (by decide) rfl rfl rfl ?_
        refine w_X9_run_L59 a1 a2 F hr hlk _ (fun M34 y35 y36 y37 y38 y39 => ?_) _ _ _ _ _ _ _
        refine g_iload (pc := 403) F 6 dX9_run_403 rfl ?_
        exact g_iret (pc := 405) F hr hlk dX9_run_405
      · refine g_iconst (pc := 19) (v := (-1)) F dX9_run_19 (by decide) ?_
        exact g_iret (pc := 20) F hr hlk dX9_run_20
-- X9_ended
def rmX9_ended : Room := { frames := 0, cells := 0, slots := 0, locals := 0 }
def f_X9_ended  (M : Mem) : Option (Int32 × Mem) := some (M (70) 2, M)
set_option maxRecDepth 20000 in
theorem kiX9_ended_X9 : ∀ w ∈ u_ws RX9 TX9 33, w ∈ wsX9_ended := by decide +kernel
set_option maxRecDepth 20000 in
theorem klX9_ended_13 : Cond.fieldLink RX9 13 "DoorListerModel" "ended" "I" ∈ wsX9_ended := by decide +kernel
set_option maxHeartbeats 4000000 in
set_option maxRecDepth 100000 in
theorem c_X9_ended (l : Launch) (D : va_G) (ad : Nat → Nat) (cs : Cs) (hi : Inj ad)  (M : Mem) : MI l yX9_ended wsX9_ended rmX9_ended D ad cs [.ref (ad (70))] M (f_X9_ended M) := by
  refine Mx.of (cc := cX9_ended) (maxL := 1) (ret := (some .int)) (own := RX9) (lv := [(0, .ref (ad (70)))]) (by decide) rfl rfl (Nat.le_of_ble_eq_true rfl) rfl hi ?_
  intro p e s m below meth c F hr hlk
  unfold f_X9_ended
  refine g_aload_n (pc := 0) F 0 dX9_ended_0 rfl ?_
  refine g_get (pc := 1) (v := .int (M (70) 2)) (k := 70) (ci := 9) (fs := (oX9 ad)) (C := RX9) (T := TX9) (N := 33) F (by decide) (fun _ => rfl) rfl kiX9_ended_X9 2 (by decide) klX9_ended_13 rfl rfl dX9_ended_1 ?_
  exact g_iret (pc := 4) F hr hlk dX9_ended_4
-- X9_seen
def rmX9_seen : Room := { frames := 2, cells := 0, slots := 0, locals := 43 }
def f_X9_seen (a1 : Int32) (a2 : Int32) (a3 : Int32) (M : Mem) : Option (Int32 × Mem) := bnd (f_X9_isProgram a1 M) (fun r1 M2 => if r1 = 0 then some (0, M2) else bnd (f_X9_isPlace a2 a3 M2) (fun r3 M4 => if r3 = 0 then some (0, M4) else nm ((((64 : Int32) * a1) + ((32 : Int32) * a2)) + a3) (fun v5 => if ix v5 256 then some (M4 (78) v5.toNatClampNeg, M4) else none)))
set_option maxRecDepth 20000 in
theorem kiX9_seen_X9 : ∀ w ∈ u_ws RX9 TX9 33, w ∈ wsX9_seen := by decide +kernel
set_option maxRecDepth 20000 in
theorem klX9_seen_36 : Cond.fieldLink RX9 36 "DoorListerModel" "saw" "[I" ∈ wsX9_seen := by decide +kernel
set_option maxHeartbeats 4000000 in
set_option maxRecDepth 100000 in
theorem c_X9_seen (l : Launch) (D : va_G) (ad : Nat → Nat) (cs : Cs) (hi : Inj ad) (a1 : Int32) (a2 : Int32) (a3 : Int32) (M : Mem) : MI l yX9_seen wsX9_seen rmX9_seen D ad cs [.ref (ad (70)), .int a1, .int a2, .int a3] M (f_X9_seen a1 a2 a3 M) := by
  refine Mx.of (cc := cX9_seen) (maxL := 4) (ret := (some .int)) (own := RX9) (lv := [(0, .ref (ad (70))), (1, .int a1), (2, .int a2), (3, .int a3)]) (by decide) rfl rfl (Nat.le_of_ble_eq_true rfl) rfl hi ?_
  intro p e s m below meth c F hr hlk
  unfold f_X9_seen
  refine g_iload_n (pc := 0) F 1 dX9_seen_0 rfl ?_
  refine g_si (pc := 1) (As := [.int a1]) (st := []) F (c_X9_isProgram l D ad cs F.2.2.1 a1 M) (va_cwS 1 F.1.2.2.2.2 gX9_seen_X9_isProgram rfl rfl rfl hdS_X9_isProgram ⟨by decide, by decide⟩) rfl rfl (Nat.le_of_ble_eq_true rfl) dX9_seen_1 ⟨Nat.zero_le _, Nat.zero_le _⟩ (fun r1 M2 => ?_)
  refine g_if_eq (pc := 4) F 34 dX9_seen_4 (by decide) ?_ ?_
  · refine g_iconst (pc := 34) (v := 0) F dX9_seen_34 (by decide) ?_
    exact g_iret (pc := 35) F hr hlk dX9_seen_35
  · refine g_iload_n (pc := 7) F 2 dX9_seen_7 rfl ?_
    refine g_iload_n (pc := 8) F 3 dX9_seen_8 rfl ?_
    refine g_si (pc := 9) (As := [.int a2, .int a3]) (st := []) F (c_X9_isPlace l D ad cs F.2.2.1 a2 a3 M2) (va_cwS 2 F.1.2.2.2.2 gX9_seen_X9_isPlace rfl rfl rfl hdS_X9_isPlace ⟨by decide, by decide⟩) rfl rfl (Nat.le_of_ble_eq_true rfl) dX9_seen_9 ⟨Nat.zero_le _, Nat.zero_le _⟩ (fun r3 M4 => ?_)
    refine g_if_eq (pc := 12) F 34 dX9_seen_12 (by decide) ?_ ?_
    · refine g_iconst (pc := 34) (v := 0) F dX9_seen_34 (by decide) ?_
      exact g_iret (pc := 35) F hr hlk dX9_seen_35
    · refine g_aload_n (pc := 15) F 0 dX9_seen_15 rfl ?_
      refine g_get (pc := 16) (v := .ref (ad (78))) (k := 70) (ci := 9) (fs := (oX9 ad)) (C := RX9) (T := TX9) (N := 33) F (by decide) (fun _ => rfl) rfl kiX9_seen_X9 9 (by decide) klX9_seen_36 rfl rfl dX9_seen_16 ?_
      refine g_bipush (pc := 19) (v := 64) F dX9_seen_19 (by decide) ?_
      refine g_iload_n (pc := 21) F 1 dX9_seen_21 rfl ?_
      refine g_imul (pc := 22) F dX9_seen_22 ?_
      refine g_bipush (pc := 23) (v := 32) F dX9_seen_23 (by decide) ?_
      refine g_iload_n (pc := 25) F 2 dX9_seen_25 rfl ?_
      refine g_imul (pc := 26) F dX9_seen_26 ?_
      refine g_iadd (pc := 27) F dX9_seen_27 ?_
      refine g_iload_n (pc := 28) F 3 dX9_seen_28 rfl ?_
      refine g_iadd (pc := 29) F dX9_seen_29 ?_
      refine g_nm (fun v5 => ?_)
      refine g_iald (pc := 30) (k := 78) (n := 256) F (by decide) (fun _ => rfl) dX9_seen_30 ?_
      refine g_goto (pc := 31) F 35 dX9_seen_31 (by decide) ?_
      exact g_iret (pc := 35) F hr hlk dX9_seen_35
-- X9_isSet
def rmX9_isSet : Room := { frames := 1, cells := 0, slots := 0, locals := 22 }
def f_X9_isSet (a0 : Int32) (M : Mem) : Option (Int32 × Mem) := bnd (f_X9_lies a0 0 15 M) (fun r1 M2 => if vp_nar .boolean r1 = r1 then some (r1, M2) else none)
set_option maxHeartbeats 4000000 in
set_option maxRecDepth 100000 in
theorem c_X9_isSet (l : Launch) (D : va_G) (ad : Nat → Nat) (cs : Cs) (hi : Inj ad) (a0 : Int32) (M : Mem) : MI l yX9_isSet wsX9_isSet rmX9_isSet D ad cs [.int a0] M (f_X9_isSet a0 M) := by
  refine Mx.of (cc := cX9_isSet) (maxL := 1) (ret := (some .boolean)) (own := RX9) (lv := [(0, .int a0)]) (by decide) rfl rfl (Nat.le_of_ble_eq_true rfl) rfl hi ?_
  intro p e s m below meth c F hr hlk
  unfold f_X9_isSet
  refine g_iload_n (pc := 0) F 0 dX9_isSet_0 rfl ?_
  refine g_iconst (pc := 1) (v := 0) F dX9_isSet_1 (by decide) ?_
  refine g_bipush (pc := 2) (v := 15) F dX9_isSet_2 (by decide) ?_
  refine g_si (pc := 4) (As := [.int a0, .int 0, .int 15]) (st := []) F (c_X9_lies l D ad cs F.2.2.1 a0 0 15 M) (va_cwS 3 F.1.2.2.2.2 gX9_isSet_X9_lies rfl rfl rfl hdS_X9_lies ⟨by decide, by decide⟩) rfl rfl (Nat.le_of_ble_eq_true rfl) dX9_isSet_4 ⟨Nat.zero_le _, Nat.zero_le _⟩ (fun r1 M2 => ?_)
  exact g_zretx (pc := 7) F hr hlk dX9_isSet_7
-- X9_meltedOf
def rmX9_meltedOf : Room := { frames := 6, cells := 0, slots := 0, locals := 146 }
def f_X9_meltedOf_L6 (fu : Nat) (x1 : Int32) (x2 : Int32) (x3 : Int32) (k : Mem → Int32 → Int32 → Option (Int32 × Mem)) : Nat → Mem → Int32 → Int32 → Option (Int32 × Mem)
  | 0, _, _, _ => none
  | n + 1, M, x4, x5 => if 4 ≤ x5 then k M x4 x5 else bnd (f_X9_has x1 x5 M) (fun r1 M2 => if r1 = 0 then f_X9_meltedOf_L6 fu x1 x2 x3 k n M2 x4 (x5 + 1) else bnd (f_X9_needOf fu x5 x2 x3 M2) (fun r3 M4 => nm (x4 ||| r3) (fun v5 => f_X9_meltedOf_L6 fu x1 x2 x3 k n M4 v5 (x5 + 1))))
def f_X9_meltedOf (fu : Nat) (a1 : Int32) (a2 : Int32) (a3 : Int32) (M : Mem) : Option (Int32 × Mem) := f_X9_meltedOf_L6 fu a1 a2 a3 (fun M6 y7 y8 => some (y7, M6)) fu M 0 0
set_option maxHeartbeats 4000000 in
set_option maxRecDepth 100000 in
theorem w_X9_meltedOf_L6 {p : Program} {l : Launch} {e : Env} {s : State} {m : MethodId} {args : Array Value} {below : List Frame} {meth : Method} {c : Code} {D : va_G} {ad : Nat → Nat} {cs : Cs} (fu : Nat) (x1 : Int32) (x2 : Int32) (x3 : Int32) (F : Fx p m c cX9_meltedOf 6 s args wsX9_meltedOf RX9 D ad cs (Ad ad)) (hr : meth.sig.returnType = (some .int)) (hlk : meth.locks = false) (k : Mem → Int32 → Int32 → Option (Int32 × Mem)) (hkx : ∀ (M : Mem) (x4 x5 : Int32), GoX p l e rmX9_meltedOf s m args below meth c 0 0 6 (fun rM => MQ below (cQi D ad cs rM) args s 0 0 (Ad ad)) D ad cs (Ad ad) M 40 [(0, .ref (ad (70))), (1, .int x1), (2, .int x2), (3, .int x3), (4, .int x4), (5, .int x5)] [] (k M x4 x5)) : ∀ (n : Nat) (M : Mem) (x4 x5 : Int32), GoX p l e rmX9_meltedOf s m args below meth c 0 0 6 (fun rM => MQ below (cQi D ad cs rM) args s 0 0 (Ad ad)) D ad cs (Ad ad) M 6 [(0, .ref (ad (70))), (1, .int x1), (2, .int x2), (3, .int x3), (4, .int x4), (5, .int x5)] [] (f_X9_meltedOf_L6 fu x1 x2 x3 k n M x4 x5) := by
  intro n
  induction n with
  | zero => intro M x4 x5; exact g_none
  | succ n ih =>
    intro M x4 x5
    unfold f_X9_meltedOf_L6
    refine g_iload (pc := 6) F 5 dX9_meltedOf_6 rfl ?_
    refine g_iconst (pc := 8) (v := 4) F dX9_meltedOf_8 (by decide) ?_
    refine g_icmp_ge (pc := 9) F 40 dX9_meltedOf_9 (by decide) ?_ ?_
    · exact hkx _ _ _
    · refine g_iload_n (pc := 12) F 1 dX9_meltedOf_12 rfl ?_
      refine g_iload (pc := 13) F 5 dX9_meltedOf_13 rfl ?_
      refine g_si (pc := 15) (As := [.int x1, .int x5]) (st := []) F (c_X9_has l D ad cs F.2.2.1 x1 x5 M) (va_cwS 2 F.1.2.2.2.2 gX9_meltedOf_X9_has rfl rfl rfl hdS_X9_has ⟨by decide, by decide⟩) rfl rfl (Nat.le_of_ble_eq_true rfl) dX9_meltedOf_15 ⟨Nat.zero_le _, Nat.zero_le _⟩ (fun r1 M2 => ?_)
      refine g_if_eq (pc := 18) F 34 dX9_meltedOf_18 (by decide) ?_ ?_
      · refine g_iinc (pc := 34) (v := x5 + 1) F [(0, .ref (ad (70))), (1, .int x1), (2, .int x2), (3, .int x3), (4, .int x4), (5, .int (x5 + 1))] 5 dX9_meltedOf_34 rfl rfl (by decide) rfl rfl rfl ?_
        refine g_goto (pc := 37) F 6 dX9_meltedOf_37 (by decide) ?_
        exact ih _ _ _
      · refine g_iload (pc := 21) F 4 dX9_meltedOf_21 rfl ?_
        refine g_aload_n (pc := 23) F 0 dX9_meltedOf_23 rfl ?_
        refine g_iload (pc := 24) F 5 dX9_meltedOf_24 rfl ?_
        refine g_iload_n (pc := 26) F 2 dX9_meltedOf_26 rfl ?_
        refine g_iload_n (pc := 27) F 3 dX9_meltedOf_27 rfl ?_
        refine g_vi (pc := 28) (k := 70) (ci := 9) (fs := (oX9 ad)) (C := RX9) (T := TX9) (N := 33) (As := [.int x5, .int x2, .int x3]) (st := [.int x4]) F (c_X9_needOf l D ad cs F.2.2.1 fu x5 x2 x3 M2) (by decide) (fun _ => rfl) rfl (cwV 3 F.1.2.2.2.2 gX9_meltedOf_X9_needOf rfl rfl rfl hdV_X9_needOf ⟨by decide, by decide⟩) rfl rfl (Nat.le_of_ble_eq_true rfl) dX9_meltedOf_28 ⟨Nat.zero_le _, Nat.zero_le _⟩ (fun r3 M4 => ?_)
        refine g_ior (pc := 31) F dX9_meltedOf_31 ?_
        refine g_nm (fun v5 => ?_)
        refine g_istore (pc := 32) F [(0, .ref (ad (70))), (1, .int x1), (2, .int x2), (3, .int x3), (4, .int v5), (5, .int x5)] dX9_meltedOf_32 (by decide) rfl rfl rfl ?_
        refine g_iinc (pc := 34) (v := x5 + 1) F [(0, .ref (ad (70))), (1, .int x1), (2, .int x2), (3, .int x3), (4, .int v5), (5, .int (x5 + 1))] 5 dX9_meltedOf_34 rfl rfl (by decide) rfl rfl rfl ?_
        refine g_goto (pc := 37) F 6 dX9_meltedOf_37 (by decide) ?_
        exact ih _ _ _
set_option maxHeartbeats 4000000 in
set_option maxRecDepth 100000 in
theorem c_X9_meltedOf (l : Launch) (D : va_G) (ad : Nat → Nat) (cs : Cs) (hi : Inj ad) (fu : Nat) (a1 : Int32) (a2 : Int32) (a3 : Int32) (M : Mem) : MI l yX9_meltedOf wsX9_meltedOf rmX9_meltedOf D ad cs [.ref (ad (70)), .int a1, .int a2, .int a3] M (f_X9_meltedOf fu a1 a2 a3 M) := by
  refine Mx.of (cc := cX9_meltedOf) (maxL := 6) (ret := (some .int)) (own := RX9) (lv := [(0, .ref (ad (70))), (1, .int a1), (2, .int a2), (3, .int a3)]) (by decide) rfl rfl (Nat.le_of_ble_eq_true rfl) rfl hi ?_
  intro p e s m below meth c F hr hlk
  unfold f_X9_meltedOf
  refine g_iconst (pc := 0) (v := 0) F dX9_meltedOf_0 (by decide) ?_
  refine g_istore (pc := 1) F [(0, .ref (ad (70))), (1, .int a1), (2, .int a2), (3, .int a3), (4, .int 0)] dX9_meltedOf_1 (by decide) rfl rfl rfl ?_
  refine g_iconst (pc := 3) (v := 0) F dX9_meltedOf_3 (by decide) ?_
  refine g_istore (pc := 4) F [(0, .ref (ad (70))), (1, .int a1), (2, .int a2), (3, .int a3), (4, .int 0), (5, .int 0)] dX9_meltedOf_4 (by decide) rfl rfl rfl ?_
  refine w_X9_meltedOf_L6 fu a1 a2 a3 F hr hlk _ (fun M6 y7 y8 => ?_) _ _ _ _
  refine g_iload (pc := 40) F 4 dX9_meltedOf_40 rfl ?_
  exact g_iret (pc := 42) F hr hlk dX9_meltedOf_42
-- X9_seenOf
def rmX9_seenOf : Room := { frames := 1, cells := 0, slots := 0, locals := 21 }
def f_X9_seenOf_L5 (x1 : Int32) (x2 : Int32) (k : Mem → Int32 → Int32 → Option (Int32 × Mem)) : Nat → Mem → Int32 → Int32 → Option (Int32 × Mem)
  | 0, _, _, _ => none
  | n + 1, M, x3, x4 => if 4 ≤ x4 then k M x3 x4 else bnd (f_X9_has x1 x4 M) (fun r1 M2 => if r1 = 0 then f_X9_seenOf_L5 x1 x2 k n M2 x3 (x4 + 1) else nm ((((64 : Int32) * x4) + (32 : Int32)) + x2) (fun v3 => if ix v3 256 then nm (x3 ||| (M2 (78) v3.toNatClampNeg)) (fun v4 => f_X9_seenOf_L5 x1 x2 k n M2 v4 (x4 + 1)) else none))
def f_X9_seenOf (fu : Nat) (a1 : Int32) (a2 : Int32) (M : Mem) : Option (Int32 × Mem) := f_X9_seenOf_L5 a1 a2 (fun M5 y6 y7 => some (y6, M5)) fu M 0 0
set_option maxRecDepth 20000 in
theorem kiX9_seenOf_X9 : ∀ w ∈ u_ws RX9 TX9 33, w ∈ wsX9_seenOf := by decide +kernel
set_option maxRecDepth 20000 in
theorem klX9_seenOf_36 : Cond.fieldLink RX9 36 "DoorListerModel" "saw" "[I" ∈ wsX9_seenOf := by decide +kernel
set_option maxHeartbeats 4000000 in
set_option maxRecDepth 100000 in
theorem w_X9_seenOf_L5 {p : Program} {l : Launch} {e : Env} {s : State} {m : MethodId} {args : Array Value} {below : List Frame} {meth : Method} {c : Code} {D : va_G} {ad : Nat → Nat} {cs : Cs}  (x1 : Int32) (x2 : Int32) (F : Fx p m c cX9_seenOf 5 s args wsX9_seenOf RX9 D ad cs (Ad ad)) (hr : meth.sig.returnType = (some .int)) (hlk : meth.locks = false) (k : Mem → Int32 → Int32 → Option (Int32 × Mem)) (hkx : ∀ (M : Mem) (x3 x4 : Int32), GoX p l e rmX9_seenOf s m args below meth c 0 0 5 (fun rM => MQ below (cQi D ad cs rM) args s 0 0 (Ad ad)) D ad cs (Ad ad) M 44 [(0, .ref (ad (70))), (1, .int x1), (2, .int x2), (3, .int x3), (4, .int x4)] [] (k M x3 x4)) : ∀ (n : Nat) (M : Mem) (x3 x4 : Int32), GoX p l e rmX9_seenOf s m args below meth c 0 0 5 (fun rM => MQ below (cQi D ad cs rM) args s 0 0 (Ad ad)) D ad cs (Ad ad) M 5 [(0, .ref (ad (70))), (1, .int x1), (2, .int x2), (3, .int x3), (4, .int x4)] [] (f_X9_seenOf_L5 x1 x2 k n M x3 x4) := by
  intro n
  induction n with
  | zero => intro M x3 x4; exact g_none
  | succ n ih =>
    intro M x3 x4
    unfold f_X9_seenOf_L5
    refine g_iload (pc := 5) F 4 dX9_seenOf_5 rfl ?_
    refine g_iconst (pc := 7) (v := 4) F dX9_seenOf_7 (by decide) ?_
    refine g_icmp_ge (pc := 8) F 44 dX9_seenOf_8 (by decide) ?_ ?_
    · exact hkx _ _ _
    · refine g_iload_n (pc := 11) F 1 dX9_seenOf_11 rfl ?_
      refine g_iload (pc := 12) F 4 dX9_seenOf_12 rfl ?_
      refine g_si (pc := 14) (As := [.int x1, .int x4]) (st := []) F (c_X9_has l D ad cs F.2.2.1 x1 x4 M) (va_cwS 2 F.1.2.2.2.2 gX9_seenOf_X9_has rfl rfl rfl hdS_X9_has ⟨by decide, by decide⟩) rfl rfl (Nat.le_of_ble_eq_true rfl) dX9_seenOf_14 ⟨Nat.zero_le _, Nat.zero_le _⟩ (fun r1 M2 => ?_)
      refine g_if_eq (pc := 17) F 38 dX9_seenOf_17 (by decide) ?_ ?_
      · refine g_iinc (pc := 38) (v := x4 + 1) F [(0, .ref (ad (70))), (1, .int x1), (2, .int x2), (3, .int x3), (4, .int (x4 + 1))] 4 dX9_seenOf_38 rfl rfl (by decide) rfl rfl rfl ?_
        refine g_goto (pc := 41) F 5 dX9_seenOf_41 (by decide) ?_
        exact ih _ _ _
      · refine g_iload_n (pc := 20) F 3 dX9_seenOf_20 rfl ?_
        refine g_aload_n (pc := 21) F 0 dX9_seenOf_21 rfl ?_
        refine g_get (pc := 22) (v := .ref (ad (78))) (k := 70) (ci := 9) (fs := (oX9 ad)) (C := RX9) (T := TX9) (N := 33) F (by decide) (fun _ => rfl) rfl kiX9_seenOf_X9 9 (by decide) klX9_seenOf_36 rfl rfl dX9_seenOf_22 ?_
        refine g_bipush (pc := 25) (v := 64) F dX9_seenOf_25 (by decide) ?_
        refine g_iload (pc := 27) F 4 dX9_seenOf_27 rfl ?_
        refine g_imul (pc := 29) F dX9_seenOf_29 ?_
        refine g_bipush (pc := 30) (v := 32) F dX9_seenOf_30 (by decide) ?_
        refine g_iadd (pc := 32) F dX9_seenOf_32 ?_
        refine g_iload_n (pc := 33) F 2 dX9_seenOf_33 rfl ?_
        refine g_iadd (pc := 34) F dX9_seenOf_34 ?_
        refine g_nm (fun v3 => ?_)
        refine g_iald (pc := 35) (k := 78) (n := 256) F (by decide) (fun _ => rfl) dX9_seenOf_35 ?_
        refine g_ior (pc := 36) F dX9_seenOf_36 ?_
        refine g_nm (fun v4 => ?_)
        refine g_istore_n (pc := 37) F [(0, .ref (ad (70))), (1, .int x1), (2, .int x2), (3, .int v4), (4, .int x4)] dX9_seenOf_37 (by decide) rfl rfl rfl ?_
        refine g_iinc (pc := 38) (v := x4 + 1) F [(0, .ref (ad (70))), (1, .int x1), (2, .int x2), (3, .int v4), (4, .int (x4 + 1))] 4 dX9_seenOf_38 rfl rfl (by decide) rfl rfl rfl ?_
        refine g_goto (pc := 41) F 5 dX9_seenOf_41 (by decide) ?_
        exact ih _ _ _
set_option maxHeartbeats 4000000 in
set_option maxRecDepth 100000 in
theorem c_X9_seenOf (l : Launch) (D : va_G) (ad : Nat → Nat) (cs : Cs) (hi : Inj ad) (fu : Nat) (a1 : Int32) (a2 : Int32) (M : Mem) : MI l yX9_seenOf wsX9_seenOf rmX9_seenOf D ad cs [.ref (ad (70)), .int a1, .int a2] M (f_X9_seenOf fu a1 a2 M) := by
  refine Mx.of (cc := cX9_seenOf) (maxL := 5) (ret := (some .int)) (own := RX9) (lv := [(0, .ref (ad (70))), (1, .int a1), (2, .int a2)]) (by decide) rfl rfl (Nat.le_of_ble_eq_true rfl) rfl hi ?_
  intro p e s m below meth c F hr hlk
  unfold f_X9_seenOf
  refine g_iconst (pc := 0) (v := 0) F dX9_seenOf_0 (by decide) ?_
  refine g_istore_n (pc := 1) F [(0, .ref (ad (70))), (1, .int a1), (2, .int a2), (3, .int 0)] dX9_seenOf_1 (by decide) rfl rfl rfl ?_
  refine g_iconst (pc := 2) (v := 0) F dX9_seenOf_2 (by decide) ?_
  refine g_istore (pc := 3) F [(0, .ref (ad (70))), (1, .int a1), (2, .int a2), (3, .int 0), (4, .int 0)] dX9_seenOf_3 (by decide) rfl rfl rfl ?_
  refine w_X9_seenOf_L5 a1 a2 F hr hlk _ (fun M5 y6 y7 => ?_) _ _ _ _
  refine g_iload_n (pc := 44) F 3 dX9_seenOf_44 rfl ?_
  exact g_iret (pc := 45) F hr hlk dX9_seenOf_45
-- X9_melted
def rmX9_melted : Room := { frames := 7, cells := 0, slots := 0, locals := 171 }
def f_X9_melted (fu : Nat) (a1 : Int32) (a2 : Int32) (a3 : Int32) (M : Mem) : Option (Int32 × Mem) := bnd (f_X9_isSet a1 M) (fun r1 M2 => if r1 = 0 then some (0, M2) else bnd (f_X9_isPlace a2 a3 M2) (fun r3 M4 => if r3 = 0 then some (0, M4) else bnd (f_X9_meltedOf fu a1 a2 a3 M4) (fun r5 M6 => some (r5, M6))))
set_option maxHeartbeats 4000000 in
set_option maxRecDepth 100000 in
theorem c_X9_melted (l : Launch) (D : va_G) (ad : Nat → Nat) (cs : Cs) (hi : Inj ad) (fu : Nat) (a1 : Int32) (a2 : Int32) (a3 : Int32) (M : Mem) : MI l yX9_melted wsX9_melted rmX9_melted D ad cs [.ref (ad (70)), .int a1, .int a2, .int a3] M (f_X9_melted fu a1 a2 a3 M) := by
  refine Mx.of (cc := cX9_melted) (maxL := 4) (ret := (some .int)) (own := RX9) (lv := [(0, .ref (ad (70))), (1, .int a1), (2, .int a2), (3, .int a3)]) (by decide) rfl rfl (Nat.le_of_ble_eq_true rfl) rfl hi ?_
  intro p e s m below meth c F hr hlk
  unfold f_X9_melted
  refine g_iload_n (pc := 0) F 1 dX9_melted_0 rfl ?_
  refine g_si (pc := 1) (As := [.int a1]) (st := []) F (c_X9_isSet l D ad cs F.2.2.1 a1 M) (va_cwS 1 F.1.2.2.2.2 gX9_melted_X9_isSet rfl rfl rfl hdS_X9_isSet ⟨by decide, by decide⟩) rfl rfl (Nat.le_of_ble_eq_true rfl) dX9_melted_1 ⟨Nat.zero_le _, Nat.zero_le _⟩ (fun r1 M2 => ?_)
  refine g_if_eq (pc := 4) F 25 dX9_melted_4 (by decide) ?_ ?_
  · refine g_iconst (pc := 25) (v := 0) F dX9_melted_25 (by decide) ?_
    exact g_iret (pc := 26) F hr hlk dX9_melted_26
  · refine g_iload_n (pc := 7) F 2 dX9_melted_7 rfl ?_
    refine g_iload_n (pc := 8) F 3 dX9_melted_8 rfl ?_
    refine g_si (pc := 9) (As := [.int a2, .int a3]) (st := []) F (c_X9_isPlace l D ad cs F.2.2.1 a2 a3 M2) (va_cwS 2 F.1.2.2.2.2 gX9_melted_X9_isPlace rfl rfl rfl hdS_X9_isPlace ⟨by decide, by decide⟩) rfl rfl (Nat.le_of_ble_eq_true rfl) dX9_melted_9 ⟨Nat.zero_le _, Nat.zero_le _⟩ (fun r3 M4 => ?_)
    refine g_if_eq (pc := 12) F 25 dX9_melted_12 (by decide) ?_ ?_
    · refine g_iconst (pc := 25) (v := 0) F dX9_melted_25 (by decide) ?_
      exact g_iret (pc := 26) F hr hlk dX9_melted_26
    · refine g_aload_n (pc := 15) F 0 dX9_melted_15 rfl ?_
      refine g_iload_n (pc := 16) F 1 dX9_melted_16 rfl ?_
      refine g_iload_n (pc := 17) F 2 dX9_melted_17 rfl ?_
      refine g_iload_n (pc := 18) F 3 dX9_melted_18 rfl ?_
      refine g_vi (pc := 19) (k := 70) (ci := 9) (fs := (oX9 ad)) (C := RX9) (T := TX9) (N := 33) (As := [.int a1, .int a2, .int a3]) (st := []) F (c_X9_meltedOf l D ad cs F.2.2.1 fu a1 a2 a3 M4) (by decide) (fun _ => rfl) rfl (cwV 3 F.1.2.2.2.2 gX9_melted_X9_meltedOf rfl rfl rfl hdV_X9_meltedOf ⟨by decide, by decide⟩) rfl rfl (Nat.le_of_ble_eq_true rfl) dX9_melted_19 ⟨Nat.zero_le _, Nat.zero_le _⟩ (fun r5 M6 => ?_)
      refine g_goto (pc := 22) F 26 dX9_melted_22 (by decide) ?_
      exact g_iret (pc := 26) F hr hlk dX9_melted_26
-- X9_fresh
def rmX9_fresh : Room := { frames := 6, cells := 0, slots := 0, locals := 146 }
def f_X9_fresh (fu : Nat) (a1 : Int32) (a2 : Int32) (a3 : Int32) (a4 : Int32) (M : Mem) : Option (Int32 × Mem) := bnd (f_X9_isProgram a1 M) (fun r1 M2 => if r1 = 0 then some (0, M2) else bnd (f_X9_isProgram a2 M2) (fun r3 M4 => if r3 = 0 then some (0, M4) else bnd (f_X9_isPlace a3 a4 M4) (fun r5 M6 => if r5 = 0 then some (0, M6) else bnd (f_X9_needOf fu a1 a3 a4 M6) (fun r7 M8 => bnd (f_X9_needOf fu a2 a3 a4 M8) (fun r9 M10 => some (r7 &&& (r9 ^^^ (-1 : Int32)), M10))))))
set_option maxHeartbeats 4000000 in
set_option maxRecDepth 100000 in
theorem c_X9_fresh (l : Launch) (D : va_G) (ad : Nat → Nat) (cs : Cs) (hi : Inj ad) (fu : Nat) (a1 : Int32) (a2 : Int32) (a3 : Int32) (a4 : Int32) (M : Mem) : MI l yX9_fresh wsX9_fresh rmX9_fresh D ad cs [.ref (ad (70)), .int a1, .int a2, .int a3, .int a4] M (f_X9_fresh fu a1 a2 a3 a4 M) := by
  refine Mx.of (cc := cX9_fresh) (maxL := 5) (ret := (some .int)) (own := RX9) (lv := [(0, .ref (ad (70))), (1, .int a1), (2, .int a2), (3, .int a3), (4, .int a4)]) (by decide) rfl rfl (Nat.le_of_ble_eq_true rfl) rfl hi ?_
  intro p e s m below meth c F hr hlk
  unfold f_X9_fresh
  refine g_iload_n (pc := 0) F 1 dX9_fresh_0 rfl ?_
  refine g_si (pc := 1) (As := [.int a1]) (st := []) F (c_X9_isProgram l D ad cs F.2.2.1 a1 M) (va_cwS 1 F.1.2.2.2.2 gX9_fresh_X9_isProgram rfl rfl rfl hdS_X9_isProgram ⟨by decide, by decide⟩) rfl rfl (Nat.le_of_ble_eq_true rfl) dX9_fresh_1 ⟨Nat.zero_le _, Nat.zero_le _⟩ (fun r1 M2 => ?_)
  refine g_if_eq (pc := 4) F 45 dX9_fresh_4 (by decide) ?_ ?_
  · refine g_iconst (pc := 45) (v := 0) F dX9_fresh_45 (by decide) ?_
    exact g_iret (pc := 46) F hr hlk dX9_fresh_46
  · refine g_iload_n (pc := 7) F 2 dX9_fresh_7 rfl ?_
    refine g_si (pc := 8) (As := [.int a2]) (st := []) F (c_X9_isProgram l D ad cs F.2.2.1 a2 M2) (va_cwS 1 F.1.2.2.2.2 gX9_fresh_X9_isProgram rfl rfl rfl hdS_X9_isProgram ⟨by decide, by decide⟩) rfl rfl (Nat.le_of_ble_eq_true rfl) dX9_fresh_8 ⟨Nat.zero_le _, Nat.zero_le _⟩ (fun r3 M4 => ?_)
    refine g_if_eq (pc := 11) F 45 dX9_fresh_11 (by decide) ?_ ?_
    · refine g_iconst (pc := 45) (v := 0) F dX9_fresh_45 (by decide) ?_
      exact g_iret (pc := 46) F hr hlk dX9_fresh_46
    · refine g_iload_n (pc := 14) F 3 dX9_fresh_14 rfl ?_
      refine g_iload (pc := 15) F 4 dX9_fresh_15 rfl ?_
      refine g_si (pc := 17) (As := [.int a3, .int a4]) (st := []) F (c_X9_isPlace l D ad cs F.2.2.1 a3 a4 M4) (va_cwS 2 F.1.2.2.2.2 gX9_fresh_X9_isPlace rfl rfl rfl hdS_X9_isPlace ⟨by decide, by decide⟩) rfl rfl (Nat.le_of_ble_eq_true rfl) dX9_fresh_17 ⟨Nat.zero_le _, Nat.zero_le _⟩ (fun r5 M6 => ?_)
      refine g_if_eq (pc := 20) F 45 dX9_fresh_20 (by decide) ?_ ?_
      · refine g_iconst (pc := 45) (v := 0) F dX9_fresh_45 (by decide) ?_
        exact g_iret (pc := 46) F hr hlk dX9_fresh_46
      · refine g_aload_n (pc := 23) F 0 dX9_fresh_23 rfl ?_
        refine g_iload_n (pc := 24) F 1 dX9_fresh_24 rfl ?_
        refine g_iload_n (pc := 25) F 3 dX9_fresh_25 rfl ?_
        refine g_iload (pc := 26) F 4 dX9_fresh_26 rfl ?_
        refine g_vi (pc := 28) (k := 70) (ci := 9) (fs := (oX9 ad)) (C := RX9) (T := TX9) (N := 33) (As := [.int a1, .int a3, .int a4]) (st := []) F (c_X9_needOf l D ad cs F.2.2.1 fu a1 a3 a4 M6) (by decide) (fun _ => rfl) rfl (cwV 3 F.1.2.2.2.2 gX9_fresh_X9_needOf rfl rfl rfl hdV_X9_needOf ⟨by decide, by decide⟩) rfl rfl (Nat.le_of_ble_eq_true rfl) dX9_fresh_28 ⟨Nat.zero_le _, Nat.zero_le _⟩ (fun r7 M8 => ?_)
        refine g_aload_n (pc := 31) F 0 dX9_fresh_31 rfl ?_
        refine g_iload_n (pc := 32) F 2 dX9_fresh_32 rfl ?_
        refine g_iload_n (pc := 33) F 3 dX9_fresh_33 rfl ?_
        refine g_iload (pc := 34) F 4 dX9_fresh_34 rfl ?_
        refine g_vi (pc := 36) (k := 70) (ci := 9) (fs := (oX9 ad)) (C := RX9) (T := TX9) (N := 33) (As := [.int a2, .int a3, .int a4]) (st := [.int r7]) F (c_X9_needOf l D ad cs F.2.2.1 fu a2 a3 a4 M8) (by decide) (fun _ => rfl) rfl (cwV 3 F.1.2.2.2.2 gX9_fresh_X9_needOf rfl rfl rfl hdV_X9_needOf ⟨by decide, by decide⟩) rfl rfl (Nat.le_of_ble_eq_true rfl) dX9_fresh_36 ⟨Nat.zero_le _, Nat.zero_le _⟩ (fun r9 M10 => ?_)
        refine g_iconst (pc := 39) (v := (-1)) F dX9_fresh_39 (by decide) ?_
        refine g_ixor (pc := 40) F dX9_fresh_40 ?_
        refine g_iand (pc := 41) F dX9_fresh_41 ?_
        refine g_goto (pc := 42) F 46 dX9_fresh_42 (by decide) ?_
        exact g_iret (pc := 46) F hr hlk dX9_fresh_46
