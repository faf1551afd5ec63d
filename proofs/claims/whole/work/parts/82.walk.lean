/-! The walk from the law's entry. -/
def adr0 (q0 q9 : Nat) (u v : Nat → Nat) (k : Nat) : Nat := if k = 0 then q0 else if k < 70 then u k else if k = 70 then q9 else v (k - 70)
set_option maxHeartbeats 40000000 in
set_option maxRecDepth 100000 in
theorem wd_0 (cs : Cs) (q0 q9 : Nat) (u v : Nat → Nat) : (cl_X8 cs q0 u ++ cl_X9 cs q9 v).set 1 (u 1, rP cs (fun j => some (adr0 q0 q9 u v (13 * j + 2)))) = wd (adr0 q0 q9 u v) cs M0 := by
  rfl
set_option maxHeartbeats 40000000 in
set_option maxRecDepth 100000 in
theorem start_walk {p : Program} {e : Env} {s : State} {m : MethodId} {below : List Frame} {meth : Method} {c : Code} (l : Launch) {b L : Nat} {xs : Nat → Int32} (hL : L ≤ 3584) {D : va_G} {cs : Cs} (hX : va_X b L xs s s.heap) (hbl : b < s.heap.size) (hr : meth.sig.returnType = ret) (hlocks : meth.locks = false) (F : Fc p m c cL_law 4 s #[Value.ref b] wsL_law RL D cs (fun q => s.heap.size ≤ q)) (hKn : Kn D cs s) :
    GoC p l e room_1 s m #[Value.ref b] below meth c 4 D (fun q => s.heap.size ≤ q) (lw_Z below #[Value.ref b] s) 0 0 [] 0 [(0, .ref b)] [] := by
  refine h_new (pc := 0) (ci := 8) (fs := [.null, .null, .null, .null, .null, .null]) (C := RX8) (T := TX8) (N := 6) F rfl inlX8 tyX8 tyX8_ok kwL_lX8 kwL_mX8 kwL_pX8 (by decide) (by decide) (by decide) dL_law_0 (fun q0 => ?_)
  show GoC _ _ _ _ _ _ _ _ _ _ _ _ _ _ 1 6 [(q0, .inr (8, [.null, .null, .null, .null, .null, .null]))] _ _ _
  refine h_dup (pc := 3) F rfl dL_law_3 ?_
  refine h_init (pc := 4) (As := []) (st := [.ref q0]) F (t_X8_init l D cs q0) 0 [] [] rfl rfl (by decide) (by decide) gL_law_X8_init rfl rfl rfl kwL_pX8 kwL_kX8 kwL_jX8 rfl hdI_L_X8 ⟨by decide, by decide⟩ rfl rfl (Nat.le_of_ble_eq_true rfl) dL_law_4 ⟨by decide, by decide⟩ (fun u => ?_)
  show GoC _ _ _ _ _ _ _ _ _ _ _ _ _ _ 70 256773 (cl_X8 cs q0 u) _ _ _
  refine h_astore_n (pc := 7) F [(0, .ref b), (1, .ref q0)] dL_law_7 (by decide) rfl rfl rfl ?_
  refine h_new (pc := 8) (ci := 9) (fs := [.null, .int 0, .int 0, .null, .null, .null, .null, .null, .null, .null, .null, .null, .int 0, .null, .null, .null, .null, .null, .int 0, .null, .null, .null, .null, .int 0, .int 0, .null, .int 0, .int 0, .int 0, .int 0, .null, .null, .int 0]) (C := RX9) (T := TX9) (N := 33) F rfl inlX9 tyX9 tyX9_ok kwL_lX9 kwL_mX9 kwL_pX9 (by decide) (by decide) (by decide) dL_law_8 (fun q9 => ?_)
  refine h_dup (pc := 11) F rfl dL_law_11 ?_
  refine h_init (pc := 12) (As := []) (st := [.ref q9]) F (t_X9_init l D cs q9) 70 (List.range 70) (cl_X8 cs q0 u) rfl rfl (by decide) (by decide) gL_law_X9_init rfl rfl rfl kwL_pX9 kwL_kX9 kwL_jX9 rfl hdI_L_X9 ⟨by decide, by decide⟩ rfl rfl (Nat.le_of_ble_eq_true rfl) dL_law_12 ⟨by decide, by decide⟩ (fun v => ?_)
  refine h_astore_n (pc := 15) F [(0, .ref b), (1, .ref q0), (2, .ref q9)] dL_law_15 (by decide) rfl rfl rfl ?_
  refine h_iconst (pc := 16) (v := 0) F dL_law_16 (by decide) ?_
  refine h_istore_n (pc := 17) F [(0, .ref b), (1, .ref q0), (2, .ref q9), (3, .int 0)] dL_law_17 (by decide) rfl rfl rfl ?_
  refine h_refs 1 (a := u 1) (f := fun j => some (([u 2, u 15, u 28, u 41] : List Nat).getD j 0)) rfl (fun j => some (adr0 q0 q9 u v (13 * j + 2))) (fun i hi => ?_) _ (wd_0 cs q0 q9 u v) ?_
  · rcases (show i = 0 ∨ i = 1 ∨ i = 2 ∨ i = 3 by omega) with rfl | rfl | rfl | rfl <;> rfl
  refine h_wid (k := 600000) (n := 7302250) (by decide) (by decide) ?_
  intro H locs ls hP hD hS hl
  have hi : Inj (adr0 q0 q9 u v) := fun i j hi hj e => hD.1 i j _ _ (wd_at hi rfl) (wd_at hj rfl) e
  have hA : ∀ k, k < NN → s.heap.size ≤ adr0 q0 q9 u v k := fun k hk => hD.2 k _ (wd_at hk rfl)
  have FX : Fx p m c cL_law 4 s #[Value.ref b] wsL_law RL D (adr0 q0 q9 u v) cs (fun q => s.heap.size ≤ q) := ⟨F.1, hKn, hi, hA⟩
  obtain ⟨M', e0⟩ := law_0 hL xs
  have G := w_L_law_L18 (l := l) (e := e) (below := below) (meth := meth) 60000 L xs hX hbl ⟨by decide, by decide⟩ FX (fun M _ => some (1, M)) (fun M x3 => by
    refine g_iconst (pc := 1052) (v := 1) FX dL_law_1052 (by decide) ?_
    intro rM ho H locs ls hP hS hl
    exact va_forget (fun q hq => hS.2.2 q hq) (lw_ret F.1.1 F.1.2.1 hr hlocks dL_law_1053)) 60000 M0 0
  exact G (1, M') e0 H locs ls hP hS hl
