/-! Words of the law among the tables: piece by piece. -/
set_option maxRecDepth 20000 in
theorem in_wsL_law_r22 : ∀ w ∈ wsL_law_r22, w ∈ lw_tbl := mem_r _ [882, 883, 884, 683, 885, 887, 27, 888, 513, 514, 515, 516, 517, 518, 519, 520, 521, 522, 523, 524, 525, 526, 527, 528] (by decide +kernel)
set_option maxRecDepth 20000 in
theorem in_wsL_law_r23 : ∀ w ∈ wsL_law_r23, w ∈ lw_tbl := mem_r _ [82, 83, 84, 85, 529, 530, 532, 10, 533, 534, 535, 536, 537, 538, 539, 540, 542, 11, 543, 544, 545, 546, 547, 548] (by decide +kernel)
set_option maxRecDepth 20000 in
theorem in_wsL_law_r24 : ∀ w ∈ wsL_law_r24, w ∈ lw_tbl := mem_r _ [550, 12, 551, 552, 553, 554, 555, 556, 557, 558, 559, 889, 890, 891, 892, 560, 561, 562, 563, 564, 565, 566, 567, 893] (by decide +kernel)
set_option maxRecDepth 20000 in
theorem in_wsL_law_r25 : ∀ w ∈ wsL_law_r25, w ∈ lw_tbl := mem_r _ [894, 895, 896, 568, 569, 570, 571, 897, 898, 899, 900, 572, 573, 574, 575, 576, 577, 578, 579, 901, 902, 903, 904, 905] (by decide +kernel)
set_option maxRecDepth 20000 in
theorem in_wsL_law_r26 : ∀ w ∈ wsL_law_r26, w ∈ lw_tbl := mem_r _ [906, 907, 908, 910, 28, 911, 580, 581, 582, 583, 912, 913, 914, 915, 584, 585, 586, 587, 588, 589, 590, 591, 592, 593] (by decide +kernel)
