/-! Words of the law among the tables: piece by piece. -/
theorem mem_r {big : List Cond} (ws : List Cond) (ps : List Nat) (hp : ws = ps.filterMap (fun i => big[i]?)) : ∀ w ∈ ws, w ∈ big := by
  intro w hw
  rw [hp] at hw
  obtain ⟨i, -, hi⟩ := List.mem_filterMap.mp hw
  exact List.mem_of_getElem? hi
set_option maxRecDepth 20000 in
theorem in_wsL_law_r1 : ∀ w ∈ wsL_law_r1, w ∈ lw_tbl := mem_r _ [53, 54, 39, 686, 687, 48, 55, 56, 57, 58, 59, 60, 61, 243, 63, 64, 40, 244, 77, 78, 41, 245, 102, 103] (by decide +kernel)
set_option maxRecDepth 20000 in
theorem in_wsL_law_r2 : ∀ w ∈ wsL_law_r2, w ∈ lw_tbl := mem_r _ [42, 246, 76, 247, 248, 127, 128, 43, 144, 145, 44, 166, 45, 167, 168, 46, 65, 66, 67, 68, 69, 70, 79, 80] (by decide +kernel)
set_option maxRecDepth 20000 in
theorem in_wsL_law_r3 : ∀ w ∈ wsL_law_r3, w ∈ lw_tbl := mem_r _ [81, 82, 83, 88, 104, 105, 106, 107, 108, 109, 110, 111, 112, 113, 129, 130, 131, 132, 133, 134, 135, 136, 146, 147] (by decide +kernel)
set_option maxRecDepth 20000 in
theorem in_wsL_law_r4 : ∀ w ∈ wsL_law_r4, w ∈ lw_tbl := mem_r _ [148, 149, 150, 151, 152, 153, 154, 169, 170, 171, 172, 173, 186, 187, 174, 175, 47, 188, 184, 185, 192, 176, 177, 178] (by decide +kernel)
set_option maxRecDepth 20000 in
theorem in_wsL_law_r5 : ∀ w ∈ wsL_law_r5, w ∈ lw_tbl := mem_r _ [179, 180, 227, 228, 229, 230, 231, 235, 233, 234, 232, 688, 689, 690, 691, 793, 693, 695, 696, 697, 698, 699, 700, 701] (by decide +kernel)
set_option maxRecDepth 20000 in
theorem in_wsL_law_r6 : ∀ w ∈ wsL_law_r6, w ∈ lw_tbl := mem_r _ [702, 703, 794, 704, 706, 707, 708, 709, 710, 711, 692, 712, 713, 714, 715, 718, 723, 724, 262, 263, 264, 265, 266, 267] (by decide +kernel)
