/-! Words of the law among the tables: piece by piece. -/
set_option maxRecDepth 20000 in
theorem in_wsL_law_r7 : ∀ w ∈ wsL_law_r7, w ∈ lw_tbl := mem_r _ [268, 269, 270, 271, 272, 273, 274, 275, 276, 277, 278, 279, 280, 281, 282, 283, 284, 285, 286, 287, 288, 289, 290, 291] (by decide +kernel)
set_option maxRecDepth 20000 in
theorem in_wsL_law_r8 : ∀ w ∈ wsL_law_r8, w ∈ lw_tbl := mem_r _ [292, 293, 294, 295, 296, 297, 298, 299, 300, 301, 302, 795, 796, 797, 798, 799, 800, 801, 802, 803, 804, 805, 806, 807] (by decide +kernel)
set_option maxRecDepth 20000 in
theorem in_wsL_law_r9 : ∀ w ∈ wsL_law_r9, w ∈ lw_tbl := mem_r _ [808, 810, 18, 811, 812, 814, 19, 815, 303, 304, 305, 306, 307, 816, 817, 818, 819, 308, 309, 310, 311, 312, 313, 314] (by decide +kernel)
set_option maxRecDepth 20000 in
theorem in_wsL_law_r10 : ∀ w ∈ wsL_law_r10, w ∈ lw_tbl := mem_r _ [315, 316, 317, 318, 319, 320, 820, 821, 822, 823, 321, 322, 323, 324, 325, 326, 327, 328, 329, 330, 331, 332, 333, 334] (by decide +kernel)
set_option maxRecDepth 20000 in
theorem in_wsL_law_r11 : ∀ w ∈ wsL_law_r11, w ∈ lw_tbl := mem_r _ [335, 189, 190, 191, 336, 337, 338, 339, 340, 341, 49, 342, 343, 344, 345, 346, 347, 348, 350, 0, 351, 352, 353, 354] (by decide +kernel)
