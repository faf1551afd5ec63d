/-! Words of the law among the tables: piece by piece. -/
set_option maxRecDepth 20000 in
theorem in_wsL_law_r22 : ∀ w ∈ wsL_law_r22, w ∈ lw_tbl := mem_r _ [883, 884, 885, 684, 886, 888, 27, 889, 513, 514, 515, 516, 517, 518, 519, 520, 521, 522, 523, 524, 525, 526, 527, 528] (by decide +kernel)
set_option maxRecDepth 20000 in
theorem in_wsL_law_r23 : ∀ w ∈ wsL_law_r23, w ∈ lw_tbl := mem_r _ [82, 83, 84, 85, 529, 530, 532, 10, 533, 534, 535, 536, 537, 538, 539, 540, 542, 11, 543, 544, 545, 546, 547, 548] (by decide +kernel)
set_option maxRecDepth 20000 in
theorem in_wsL_law_r24 : ∀ w ∈ wsL_law_r24, w ∈ lw_tbl := mem_r _ [550, 12, 551, 552, 553, 554, 555, 556, 557, 558, 559, 890, 891, 892, 893, 560, 561, 562, 563, 564, 565, 566, 567, 894] (by decide +kernel)
set_option maxRecDepth 20000 in
theorem in_wsL_law_r25 : ∀ w ∈ wsL_law_r25, w ∈ lw_tbl := mem_r _ [895, 896, 897, 568, 569, 570, 571, 898, 899, 900, 901, 572, 573, 574, 575, 576, 577, 578, 579, 902, 903, 904, 905, 906] (by decide +kernel)
set_option maxRecDepth 20000 in
theorem in_wsL_law_r26 : ∀ w ∈ wsL_law_r26, w ∈ lw_tbl := mem_r _ [907, 908, 909, 911, 28, 912, 580, 581, 582, 583, 913, 914, 915, 916, 584, 585, 586, 587, 588, 589, 590, 591, 592, 593] (by decide +kernel)
