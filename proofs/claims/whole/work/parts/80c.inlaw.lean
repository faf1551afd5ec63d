/-! Words of the law among the tables: piece by piece. -/
set_option maxRecDepth 20000 in
theorem in_wsL_law_r12 : ∀ w ∈ wsL_law_r12, w ∈ lw_tbl := mem_r _ [355, 356, 357, 358, 359, 360, 361, 363, 1, 364, 366, 367, 368, 370, 2, 371, 194, 197, 193, 392, 393, 50, 394, 395] (by decide +kernel)
set_option maxRecDepth 20000 in
theorem in_wsL_law_r13 : ∀ w ∈ wsL_law_r13, w ∈ lw_tbl := mem_r _ [396, 397, 372, 374, 3, 375, 195, 196, 376, 377, 378, 379, 380, 381, 382, 383, 384, 385, 386, 387, 388, 389, 390, 391] (by decide +kernel)
set_option maxRecDepth 20000 in
theorem in_wsL_law_r14 : ∀ w ∈ wsL_law_r14, w ∈ lw_tbl := mem_r _ [398, 400, 4, 401, 402, 403, 404, 405, 406, 408, 5, 409, 410, 412, 6, 413, 414, 415, 416, 417, 418, 419, 420, 421] (by decide +kernel)
set_option maxRecDepth 20000 in
theorem in_wsL_law_r15 : ∀ w ∈ wsL_law_r15, w ∈ lw_tbl := mem_r _ [422, 423, 424, 425, 427, 7, 428, 429, 430, 431, 432, 433, 434, 435, 436, 438, 8, 439, 440, 442, 9, 443, 444, 446] (by decide +kernel)
set_option maxRecDepth 20000 in
theorem in_wsL_law_r16 : ∀ w ∈ wsL_law_r16, w ∈ lw_tbl := mem_r _ [10, 447, 448, 449, 450, 451, 452, 824, 825, 826, 827, 828, 829, 830, 831, 833, 20, 834, 835, 837, 21, 838, 839, 841] (by decide +kernel)
