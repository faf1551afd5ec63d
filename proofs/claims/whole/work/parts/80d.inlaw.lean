/-! Words of the law among the tables: piece by piece. -/
set_option maxRecDepth 20000 in
theorem in_wsL_law_r17 : ∀ w ∈ wsL_law_r17, w ∈ lw_tbl := mem_r _ [835, 836, 837, 838, 839, 841, 22, 842, 843, 845, 23, 846, 847, 848, 849, 850, 852, 24, 853, 443, 444, 445, 446, 447] (by decide +kernel)
set_option maxRecDepth 20000 in
theorem in_wsL_law_r18 : ∀ w ∈ wsL_law_r18, w ∈ lw_tbl := mem_r _ [448, 449, 450, 451, 452, 453, 454, 455, 456, 49, 457, 458, 459, 460, 854, 855, 856, 857, 858, 860, 25, 861, 709, 710] (by decide +kernel)
set_option maxRecDepth 20000 in
theorem in_wsL_law_r19 : ∀ w ∈ wsL_law_r19, w ∈ lw_tbl := mem_r _ [711, 862, 863, 864, 461, 462, 463, 464, 465, 466, 467, 468, 469, 470, 471, 472, 473, 474, 865, 866, 867, 868, 476, 477] (by decide +kernel)
set_option maxRecDepth 20000 in
theorem in_wsL_law_r20 : ∀ w ∈ wsL_law_r20, w ∈ lw_tbl := mem_r _ [478, 479, 480, 481, 482, 483, 484, 486, 9, 487, 869, 870, 871, 872, 873, 875, 26, 876, 488, 489, 490, 491, 492, 493] (by decide +kernel)
set_option maxRecDepth 20000 in
theorem in_wsL_law_r21 : ∀ w ∈ wsL_law_r21, w ∈ lw_tbl := mem_r _ [494, 495, 496, 877, 878, 879, 880, 497, 498, 499, 500, 501, 502, 503, 504, 505, 506, 507, 508, 509, 510, 511, 512, 881] (by decide +kernel)
