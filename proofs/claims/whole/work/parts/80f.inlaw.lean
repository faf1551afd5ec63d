/-! Words of the law among the tables: piece by piece. -/
set_option maxRecDepth 20000 in
theorem in_wsL_law_r27 : ∀ w ∈ wsL_law_r27, w ∈ lw_tbl := mem_r _ [594, 595, 596, 597, 916, 917, 918, 919, 694, 598, 599, 600, 601, 602, 604, 13, 605, 606, 607, 608, 609, 610, 611, 612] (by decide +kernel)
set_option maxRecDepth 20000 in
theorem in_wsL_law_r28 : ∀ w ∈ wsL_law_r28, w ∈ lw_tbl := mem_r _ [613, 614, 615, 617, 14, 618, 920, 921, 922, 923, 924, 926, 29, 927, 928, 930, 30, 931, 932, 934, 31, 935, 936, 938] (by decide +kernel)
set_option maxRecDepth 20000 in
theorem in_wsL_law_r29 : ∀ w ∈ wsL_law_r29, w ∈ lw_tbl := mem_r _ [32, 939, 619, 620, 621, 622, 623, 624, 625, 626, 627, 628, 629, 630, 632, 15, 633, 634, 635, 636, 637, 638, 640, 639] (by decide +kernel)
set_option maxRecDepth 20000 in
theorem in_wsL_law_r30 : ∀ w ∈ wsL_law_r30, w ∈ lw_tbl := mem_r _ [50, 642, 643, 644, 940, 941, 942, 943, 714, 944, 946, 33, 947, 948, 950, 34, 951, 645, 646, 647, 648, 952, 953, 954] (by decide +kernel)
set_option maxRecDepth 20000 in
theorem in_wsL_law_r31 : ∀ w ∈ wsL_law_r31, w ∈ lw_tbl := mem_r _ [955, 649, 650, 651, 652, 653, 654, 655, 656, 657, 658, 659, 660, 661, 956, 957, 958, 959, 662, 663, 664, 665, 666, 667] (by decide +kernel)
set_option maxRecDepth 20000 in
theorem in_wsL_law_r32 : ∀ w ∈ wsL_law_r32, w ∈ lw_tbl := mem_r _ [668, 669, 670, 671, 672, 673, 674, 960, 961, 962, 963, 964, 966, 35, 967] (by decide +kernel)
