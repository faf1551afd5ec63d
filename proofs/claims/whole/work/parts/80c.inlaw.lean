/-! Words of the law among the tables: piece by piece. -/
set_option maxRecDepth 20000 in
theorem in_wsL_law_r12 : ∀ w ∈ wsL_law_r12, w ∈ lw_tbl := mem_r _ [353, 354, 355, 356, 357, 358, 359, 361, 1, 362, 364, 365, 366, 368, 2, 369, 192, 195, 191, 390, 391, 48, 392, 393] (by decide +kernel)
set_option maxRecDepth 20000 in
theorem in_wsL_law_r13 : ∀ w ∈ wsL_law_r13, w ∈ lw_tbl := mem_r _ [394, 395, 370, 372, 3, 373, 193, 194, 374, 375, 376, 377, 378, 379, 380, 381, 382, 383, 384, 385, 386, 387, 388, 389] (by decide +kernel)
set_option maxRecDepth 20000 in
theorem in_wsL_law_r14 : ∀ w ∈ wsL_law_r14, w ∈ lw_tbl := mem_r _ [396, 398, 4, 399, 400, 401, 402, 403, 404, 406, 5, 407, 408, 410, 6, 411, 412, 413, 414, 415, 416, 417, 418, 419] (by decide +kernel)
set_option maxRecDepth 20000 in
theorem in_wsL_law_r15 : ∀ w ∈ wsL_law_r15, w ∈ lw_tbl := mem_r _ [420, 421, 422, 423, 425, 7, 426, 427, 428, 429, 430, 431, 432, 433, 434, 436, 8, 437, 438, 439, 440, 441, 442, 813] (by decide +kernel)
set_option maxRecDepth 20000 in
theorem in_wsL_law_r16 : ∀ w ∈ wsL_law_r16, w ∈ lw_tbl := mem_r _ [814, 815, 816, 817, 818, 819, 820, 822, 18, 823, 824, 826, 19, 827, 828, 830, 20, 831, 705, 706, 708, 832, 834, 21] (by decide +kernel)
