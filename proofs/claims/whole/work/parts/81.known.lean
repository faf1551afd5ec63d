/-! From the law's entry to its loop. -/
theorem inlX0 : ∀ w ∈ wsX00, w ∈ wsL_law := fun _ h => List.mem_append_left _ (List.mem_append_right _ h)
theorem inlX1 : ∀ w ∈ wsX10, w ∈ wsL_law := fun _ h => List.mem_append_left _ (List.mem_append_left _ (List.mem_append_left _ (List.mem_append_left _ (List.mem_append_right _ h))))
theorem inlX2 : ∀ w ∈ wsX20, w ∈ wsL_law := fun _ h => List.mem_append_left _ (List.mem_append_left _ (List.mem_append_left _ (List.mem_append_left _ (List.mem_append_left _ (List.mem_append_left _ (List.mem_append_right _ h))))))
theorem inlX3 : ∀ w ∈ wsX30, w ∈ wsL_law := fun _ h => List.mem_append_left _ (List.mem_append_left _ (List.mem_append_left _ (List.mem_append_left _ (List.mem_append_left _ (List.mem_append_left _ (List.mem_append_left _ (List.mem_append_right _ h)))))))
theorem inlX4 : ∀ w ∈ wsX40, w ∈ wsL_law := fun _ h => List.mem_append_left _ (List.mem_append_left _ (List.mem_append_right _ h))
theorem inlX5 : ∀ w ∈ wsX50, w ∈ wsL_law := fun _ h => List.mem_append_left _ (List.mem_append_left _ (List.mem_append_left _ (List.mem_append_right _ h)))
theorem inlX6 : ∀ w ∈ wsX60, w ∈ wsL_law := fun _ h => List.mem_append_left _ (List.mem_append_left _ (List.mem_append_left _ (List.mem_append_left _ (List.mem_append_left _ (List.mem_append_right _ h)))))
theorem inlX7 : ∀ w ∈ wsX70, w ∈ wsL_law := fun _ h => List.mem_append_left _ (List.mem_append_left _ (List.mem_append_left _ (List.mem_append_left _ (List.mem_append_left _ (List.mem_append_left _ (List.mem_append_left _ (List.mem_append_left _ (List.mem_append_right _ h))))))))
theorem inlX8 : ∀ w ∈ wsX80, w ∈ wsL_law := fun _ h => List.mem_append_left _ (List.mem_append_left _ (List.mem_append_left _ (List.mem_append_left _ (List.mem_append_left _ (List.mem_append_left _ (List.mem_append_left _ (List.mem_append_left _ (List.mem_append_left _ (List.mem_append_left _ (List.mem_append_right _ h))))))))))
theorem inlX9 : ∀ w ∈ wsX90, w ∈ wsL_law := fun _ h => List.mem_append_left _ (List.mem_append_left _ (List.mem_append_left _ (List.mem_append_left _ (List.mem_append_left _ (List.mem_append_left _ (List.mem_append_left _ (List.mem_append_left _ (List.mem_append_left _ (List.mem_append_right _ h)))))))))
set_option maxRecDepth 20000 in
theorem kwL_lX8 : Cond.classLink RL 7 RX8 ∈ wsL_law := List.mem_of_getElem? (i := 0) (by decide +kernel)
set_option maxRecDepth 20000 in
theorem kwL_mX8 : Cond.instantiable RX8 6 ∈ wsL_law := List.mem_of_getElem? (i := 1) (by decide +kernel)
set_option maxRecDepth 20000 in
theorem kwL_pX8 : Cond.initialized RX8 ∈ wsL_law := List.mem_of_getElem? (i := 2) (by decide +kernel)
set_option maxRecDepth 20000 in
theorem kwL_lX9 : Cond.classLink RL 10 RX9 ∈ wsL_law := List.mem_of_getElem? (i := 3) (by decide +kernel)
set_option maxRecDepth 20000 in
theorem kwL_mX9 : Cond.instantiable RX9 33 ∈ wsL_law := List.mem_of_getElem? (i := 4) (by decide +kernel)
set_option maxRecDepth 20000 in
theorem kwL_pX9 : Cond.initialized RX9 ∈ wsL_law := List.mem_of_getElem? (i := 5) (by decide +kernel)
set_option maxRecDepth 20000 in
theorem kwL_kX8 : Cond.methodLink RL 9 yX8_init ∈ wsL_law := List.mem_of_getElem? (i := 6) (by decide +kernel)
set_option maxRecDepth 20000 in
theorem kwL_jX8 : Cond.instanceMethod yX8_init ∈ wsL_law := List.mem_of_getElem? (i := 7) (by decide +kernel)
set_option maxRecDepth 20000 in
theorem kwL_kX9 : Cond.methodLink RL 12 yX9_init ∈ wsL_law := List.mem_of_getElem? (i := 107) (by decide +kernel)
set_option maxRecDepth 20000 in
theorem kwL_jX9 : Cond.instanceMethod yX9_init ∈ wsL_law := List.mem_of_getElem? (i := 108) (by decide +kernel)
set_option maxRecDepth 20000 in
theorem kwL_ai : Cond.arrayClass .int ∈ wsL_law := List.mem_of_getElem? (i := 26) (by decide +kernel)
set_option maxRecDepth 20000 in
theorem kwL_ab : Cond.arrayClass .byte ∈ wsL_law := List.mem_of_getElem? (i := 111) (by decide +kernel)
set_option maxRecDepth 20000 in
theorem kwL_az : Cond.arrayClass .boolean ∈ wsL_law := List.mem_of_getElem? (i := 122) (by decide +kernel)
set_option maxRecDepth 20000 in
theorem kwL_m0 : Cond.instantiable RX0 1 ∈ wsL_law := List.mem_of_getElem? (i := 87) (by decide +kernel)
set_option maxRecDepth 20000 in
theorem kwL_m1 : Cond.instantiable RX1 5 ∈ wsL_law := List.mem_of_getElem? (i := 33) (by decide +kernel)
set_option maxRecDepth 20000 in
theorem kwL_m2 : Cond.instantiable RX2 6 ∈ wsL_law := List.mem_of_getElem? (i := 23) (by decide +kernel)
set_option maxRecDepth 20000 in
theorem kwL_m3 : Cond.instantiable RX3 6 ∈ wsL_law := List.mem_of_getElem? (i := 19) (by decide +kernel)
set_option maxRecDepth 20000 in
theorem kwL_m4 : Cond.instantiable RX4 14 ∈ wsL_law := List.mem_of_getElem? (i := 38) (by decide +kernel)
set_option maxRecDepth 20000 in
theorem kwL_m5 : Cond.instantiable RX5 3 ∈ wsL_law := List.mem_of_getElem? (i := 35) (by decide +kernel)
set_option maxRecDepth 20000 in
theorem kwL_m6 : Cond.instantiable RX6 3 ∈ wsL_law := List.mem_of_getElem? (i := 30) (by decide +kernel)
set_option maxRecDepth 20000 in
theorem kwL_m7 : Cond.instantiable RX7 2 ∈ wsL_law := List.mem_of_getElem? (i := 15) (by decide +kernel)
set_option maxRecDepth 20000 in
theorem kwT_ao : Cond.arrayOver (.object "DoorLister$Program") ∈ lw_tbl := List.mem_of_getElem? (i := 60) (by decide +kernel)
set_option maxRecDepth 20000 in
theorem kwT_n0 : Cond.methodLinkNest RX0 41 yX8_holds RX8 ∈ lw_tbl := List.mem_of_getElem? (i := 475) (by decide +kernel)
set_option maxRecDepth 20000 in
theorem kwT_n2 : Cond.methodLinkNest RX2 47 yX8_holds RX8 ∈ lw_tbl := List.mem_of_getElem? (i := 641) (by decide +kernel)
set_option maxRecDepth 20000 in
theorem kwT_n4 : Cond.methodLinkNest RX4 42 yX8_holds RX8 ∈ lw_tbl := List.mem_of_getElem? (i := 363) (by decide +kernel)
theorem hdI_L_X8 : yX8_init.cls ≠ "java/lang/invoke/MethodHandle" ∧ yX8_init.cls ≠ "java/lang/invoke/VarHandle" ∧ (parseMethodDescriptor yX8_init.desc).map (fun d => d.parameters.length) = some 0 := by decide +kernel
theorem hdI_L_X9 : yX9_init.cls ≠ "java/lang/invoke/MethodHandle" ∧ yX9_init.cls ≠ "java/lang/invoke/VarHandle" ∧ (parseMethodDescriptor yX9_init.desc).map (fun d => d.parameters.length) = some 0 := by decide +kernel
theorem ar_int {A : Array Value} {s : State} (h : (Cond.arrayClass .int).before A s = true) : ∃ cA, ArrOfT s cA .int ∧ va_RA s cA .int := by
  obtain ⟨cA, kA, comp, h1, h2, h3⟩ := Cond.arrayClass_spec h
  exact ⟨cA, fun n z => ⟨fun k h => (by cases h), kA, h2, comp, h3⟩, h1⟩
theorem ar_byte {A : Array Value} {s : State} (h : (Cond.arrayClass .byte).before A s = true) : ∃ cA, ArrOfT s cA .byte ∧ va_RA s cA .byte := by
  obtain ⟨cA, kA, comp, h1, h2, h3⟩ := Cond.arrayClass_spec h
  exact ⟨cA, fun n z => ⟨fun k h => (by cases h), kA, h2, comp, h3⟩, h1⟩
theorem ar_bool {A : Array Value} {s : State} (h : (Cond.arrayClass .boolean).before A s = true) : ∃ cA, ArrOfT s cA .boolean ∧ va_RA s cA .boolean := by
  obtain ⟨cA, kA, comp, h1, h2, h3⟩ := Cond.arrayClass_spec h
  exact ⟨cA, fun n z => ⟨fun k h => (by cases h), kA, h2, comp, h3⟩, h1⟩
theorem ar_obj {s : State} (h : va_AO "DoorLister$Program" s) : ∃ cA, ArrOfT s cA (.object "DoorLister$Program") ∧ va_RA s cA (.object "DoorLister$Program") := by
  obtain ⟨comp, c, k, h1, h2, h3, h4, h5⟩ := Cond.arrayOver_spec h
  exact ⟨c, fun n z => ⟨fun k h => (by cases h), k, h3, comp, h4⟩, k, comp, h3, h4, h1, h5⟩
theorem known_0 {A : Array Value} {s : State} (hts : ∀ w ∈ lw_tbl, w.before A s = true) : ∃ (D : va_G) (cs : Cs), Kc D cs s ∧ Kn D cs s := by
  have hl : ∀ w ∈ wsL_law, w.before A s = true := fun w h => hts w (wsL_law_in w h)
  have hk : ∀ k : Nat, ∃ (cC : ClassId) (iS : Nat → Nat), ∀ q : vw_C, vwCl[k]? = some q → u_Kn s q.1 q.2.1 q.2.2 cC iS := by
    intro k
    match k with
    | 0 =>
      obtain ⟨c, i, h⟩ := u_known (C := RX0) (T := TX0) (N := 1) (n := 1) hl inlX0 (hl _ kwL_m0)
      exact ⟨c, i, fun q hq => by cases hq; exact h⟩
    | 1 =>
      obtain ⟨c, i, h⟩ := u_known (C := RX1) (T := TX1) (N := 5) (n := 5) hl inlX1 (hl _ kwL_m1)
      exact ⟨c, i, fun q hq => by cases hq; exact h⟩
    | 2 =>
      obtain ⟨c, i, h⟩ := u_known (C := RX2) (T := TX2) (N := 6) (n := 6) hl inlX2 (hl _ kwL_m2)
      exact ⟨c, i, fun q hq => by cases hq; exact h⟩
    | 3 =>
      obtain ⟨c, i, h⟩ := u_known (C := RX3) (T := TX3) (N := 6) (n := 6) hl inlX3 (hl _ kwL_m3)
      exact ⟨c, i, fun q hq => by cases hq; exact h⟩
    | 4 =>
      obtain ⟨c, i, h⟩ := u_known (C := RX4) (T := TX4) (N := 14) (n := 14) hl inlX4 (hl _ kwL_m4)
      exact ⟨c, i, fun q hq => by cases hq; exact h⟩
    | 5 =>
      obtain ⟨c, i, h⟩ := u_known (C := RX5) (T := TX5) (N := 3) (n := 3) hl inlX5 (hl _ kwL_m5)
      exact ⟨c, i, fun q hq => by cases hq; exact h⟩
    | 6 =>
      obtain ⟨c, i, h⟩ := u_known (C := RX6) (T := TX6) (N := 3) (n := 3) hl inlX6 (hl _ kwL_m6)
      exact ⟨c, i, fun q hq => by cases hq; exact h⟩
    | 7 =>
      obtain ⟨c, i, h⟩ := u_known (C := RX7) (T := TX7) (N := 2) (n := 2) hl inlX7 (hl _ kwL_m7)
      exact ⟨c, i, fun q hq => by cases hq; exact h⟩
    | 8 =>
      obtain ⟨c, i, h⟩ := u_known (C := RX8) (T := TX8) (N := 6) (n := 6) hl inlX8 (hl _ kwL_mX8)
      exact ⟨c, i, fun q hq => by cases hq; exact h⟩
    | 9 =>
      obtain ⟨c, i, h⟩ := u_known (C := RX9) (T := TX9) (N := 33) (n := 33) hl inlX9 (hl _ kwL_mX9)
      exact ⟨c, i, fun q hq => by cases hq; exact h⟩
    | k + 10 =>
      obtain ⟨c, i, h⟩ := u_known (C := RX0) (T := TX0) (N := 1) (n := 1) hl inlX0 (hl _ kwL_m0)
      exact ⟨c, i, fun q hq => by simp [vwCl] at hq⟩
  obtain ⟨c1, a1, r1⟩ := ar_int (hl _ kwL_ai)
  obtain ⟨c2, a2, r2⟩ := ar_byte (hl _ kwL_ab)
  obtain ⟨c3, a3, r3⟩ := ar_bool (hl _ kwL_az)
  have hao : va_AO "DoorLister$Program" s := va_AO.of (hts _ kwT_ao)
  obtain ⟨c4, a4, r4⟩ := ar_obj hao
  have hK : va_K ((fun k => (hk k).choose), fun k => (hk k).choose_spec.choose) vwCl (tyL (c1, c2, c3, c4)) s := by
    refine ⟨fun c q hq => (hk c).choose_spec.choose_spec q hq, fun k q hq => ?_⟩
    match k, hq with
    | 0, hq => cases hq; exact ⟨a1, r1⟩
    | 1, hq => cases hq; exact ⟨a2, r2⟩
    | 2, hq => cases hq; exact ⟨a3, r3⟩
    | 3, hq => cases hq; exact ⟨a4, r4⟩
    | k + 4, hq => simp at hq
  exact ⟨_, _, ⟨hK, hao⟩, hK, va_Nw.of rfl (hts _ kwT_n0), va_Nw.of rfl (hts _ kwT_n2), va_Nw.of rfl (hts _ kwT_n4)⟩
