/-! Words of the law among the tables: piece by piece. -/
set_option maxRecDepth 20000 in
theorem in_wsL_law_r22 : ∀ w ∈ wsL_law_r22, w ∈ lw_tbl := mem_r _ [516, 517, 518, 519, 520, 521, 522, 892, 893, 894, 895, 694, 896, 898, 29, 899, 523, 524, 525, 526, 527, 528, 529, 530] (by decide +kernel)
set_option maxRecDepth 20000 in
theorem in_wsL_law_r23 : ∀ w ∈ wsL_law_r23, w ∈ lw_tbl := mem_r _ [531, 532, 533, 534, 535, 536, 537, 538, 84, 85, 86, 87, 539, 540, 542, 12, 543, 544, 545, 546, 547, 548, 549, 550] (by decide +kernel)
set_option maxRecDepth 20000 in
theorem in_wsL_law_r24 : ∀ w ∈ wsL_law_r24, w ∈ lw_tbl := mem_r _ [552, 13, 553, 554, 555, 556, 557, 558, 560, 14, 561, 562, 563, 564, 565, 566, 567, 568, 569, 900, 901, 902, 903, 570] (by decide +kernel)
set_option maxRecDepth 20000 in
theorem in_wsL_law_r25 : ∀ w ∈ wsL_law_r25, w ∈ lw_tbl := mem_r _ [571, 572, 573, 574, 575, 576, 577, 904, 905, 906, 907, 578, 579, 580, 581, 908, 909, 910, 911, 582, 583, 584, 585, 586] (by decide +kernel)
set_option maxRecDepth 20000 in
theorem in_wsL_law_r26 : ∀ w ∈ wsL_law_r26, w ∈ lw_tbl := mem_r _ [587, 588, 589, 912, 913, 914, 915, 916, 917, 918, 919, 921, 30, 922, 590, 591, 592, 593, 923, 924, 925, 926, 594, 595] (by decide +kernel)
