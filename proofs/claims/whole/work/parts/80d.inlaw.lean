/-! Words of the law among the tables: piece by piece. -/
set_option maxRecDepth 20000 in
theorem in_wsL_law_r17 : ∀ w ∈ wsL_law_r17, w ∈ lw_tbl := mem_r _ [22, 842, 716, 717, 719, 843, 845, 23, 846, 847, 848, 849, 850, 852, 24, 853, 854, 856, 25, 857, 858, 859, 860, 861] (by decide +kernel)
set_option maxRecDepth 20000 in
theorem in_wsL_law_r18 : ∀ w ∈ wsL_law_r18, w ∈ lw_tbl := mem_r _ [863, 26, 864, 453, 454, 455, 456, 457, 458, 459, 460, 461, 462, 463, 464, 465, 466, 51, 467, 468, 469, 470, 865, 866] (by decide +kernel)
set_option maxRecDepth 20000 in
theorem in_wsL_law_r19 : ∀ w ∈ wsL_law_r19, w ∈ lw_tbl := mem_r _ [867, 868, 869, 871, 27, 872, 720, 721, 722, 873, 874, 875, 471, 472, 473, 474, 475, 476, 477, 478, 479, 480, 481, 482] (by decide +kernel)
set_option maxRecDepth 20000 in
theorem in_wsL_law_r20 : ∀ w ∈ wsL_law_r20, w ∈ lw_tbl := mem_r _ [483, 484, 876, 877, 878, 879, 486, 487, 488, 489, 490, 491, 492, 493, 494, 496, 11, 497, 880, 881, 882, 883, 884, 886] (by decide +kernel)
set_option maxRecDepth 20000 in
theorem in_wsL_law_r21 : ∀ w ∈ wsL_law_r21, w ∈ lw_tbl := mem_r _ [28, 887, 498, 499, 500, 501, 502, 503, 504, 505, 506, 888, 889, 890, 891, 507, 508, 509, 510, 511, 512, 513, 514, 515] (by decide +kernel)
