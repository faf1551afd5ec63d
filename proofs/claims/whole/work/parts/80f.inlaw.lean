/-! Words of the law among the tables: piece by piece. -/
set_option maxRecDepth 20000 in
theorem in_wsL_law_r27 : ∀ w ∈ wsL_law_r27, w ∈ lw_tbl := mem_r _ [594, 595, 596, 597, 917, 918, 919, 920, 695, 598, 599, 600, 601, 602, 604, 13, 605, 606, 607, 608, 609, 610, 611, 612] (by decide +kernel)
set_option maxRecDepth 20000 in
theorem in_wsL_law_r28 : ∀ w ∈ wsL_law_r28, w ∈ lw_tbl := mem_r _ [613, 614, 615, 617, 14, 618, 921, 922, 923, 924, 925, 927, 29, 928, 929, 931, 30, 932, 933, 935, 31, 936, 937, 939] (by decide +kernel)
set_option maxRecDepth 20000 in
theorem in_wsL_law_r29 : ∀ w ∈ wsL_law_r29, w ∈ lw_tbl := mem_r _ [32, 940, 619, 620, 621, 622, 623, 624, 625, 626, 627, 628, 629, 644, 630, 632, 15, 633, 634, 635, 636, 637, 638, 640] (by decide +kernel)
set_option maxRecDepth 20000 in
theorem in_wsL_law_r30 : ∀ w ∈ wsL_law_r30, w ∈ lw_tbl := mem_r _ [639, 50, 642, 643, 645, 941, 942, 943, 944, 715, 945, 947, 33, 948, 949, 951, 34, 952, 646, 647, 648, 649, 953, 954] (by decide +kernel)
set_option maxRecDepth 20000 in
theorem in_wsL_law_r31 : ∀ w ∈ wsL_law_r31, w ∈ lw_tbl := mem_r _ [955, 956, 650, 651, 652, 653, 654, 655, 656, 657, 658, 659, 660, 661, 662, 957, 958, 959, 960, 663, 664, 665, 666, 667] (by decide +kernel)
set_option maxRecDepth 20000 in
theorem in_wsL_law_r32 : ∀ w ∈ wsL_law_r32, w ∈ lw_tbl := mem_r _ [668, 669, 670, 671, 672, 673, 674, 675, 961, 962, 963, 964, 965, 967, 35, 968] (by decide +kernel)
