/-! Words of the law among the tables: piece by piece. -/
theorem mem_r {big : List Cond} (ws : List Cond) (ps : List Nat) (hp : ws = ps.filterMap (fun i => big[i]?)) : ∀ w ∈ ws, w ∈ big := by
  intro w hw
  rw [hp] at hw
  obtain ⟨i, -, hi⟩ := List.mem_filterMap.mp hw
  exact List.mem_of_getElem? hi
set_option maxRecDepth 20000 in
theorem in_wsL_law_r1 : ∀ w ∈ wsL_law_r1, w ∈ lw_tbl := mem_r _ [51, 52, 37, 675, 676, 46, 53, 54, 55, 56, 57, 58, 59, 241, 61, 62, 38, 242, 75, 76, 39, 243, 100, 101] (by decide +kernel)
set_option maxRecDepth 20000 in
theorem in_wsL_law_r2 : ∀ w ∈ wsL_law_r2, w ∈ lw_tbl := mem_r _ [40, 244, 74, 245, 246, 125, 126, 41, 142, 143, 42, 164, 43, 165, 166, 44, 63, 64, 65, 66, 67, 68, 77, 78] (by decide +kernel)
set_option maxRecDepth 20000 in
theorem in_wsL_law_r3 : ∀ w ∈ wsL_law_r3, w ∈ lw_tbl := mem_r _ [79, 80, 81, 86, 102, 103, 104, 105, 106, 107, 108, 109, 110, 111, 127, 128, 129, 130, 131, 132, 133, 134, 144, 145] (by decide +kernel)
set_option maxRecDepth 20000 in
theorem in_wsL_law_r4 : ∀ w ∈ wsL_law_r4, w ∈ lw_tbl := mem_r _ [146, 147, 148, 149, 150, 151, 152, 167, 168, 169, 170, 171, 184, 185, 172, 173, 45, 186, 182, 183, 190, 174, 175, 176] (by decide +kernel)
set_option maxRecDepth 20000 in
theorem in_wsL_law_r5 : ∀ w ∈ wsL_law_r5, w ∈ lw_tbl := mem_r _ [177, 178, 225, 226, 227, 228, 229, 233, 231, 232, 230, 677, 678, 679, 680, 782, 682, 684, 685, 686, 687, 688, 689, 690] (by decide +kernel)
set_option maxRecDepth 20000 in
theorem in_wsL_law_r6 : ∀ w ∈ wsL_law_r6, w ∈ lw_tbl := mem_r _ [691, 692, 783, 693, 695, 696, 697, 698, 699, 700, 681, 701, 702, 703, 704, 707, 712, 713, 260, 261, 262, 263, 264, 265] (by decide +kernel)
