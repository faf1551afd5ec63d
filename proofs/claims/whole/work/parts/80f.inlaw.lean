/-! Words of the law among the tables: piece by piece. -/
set_option maxRecDepth 20000 in
theorem in_wsL_law_r27 : ∀ w ∈ wsL_law_r27, w ∈ lw_tbl := mem_r _ [596, 597, 598, 599, 600, 601, 602, 603, 604, 605, 606, 607, 927, 928, 929, 930, 705, 608, 609, 610, 611, 612, 614, 15] (by decide +kernel)
set_option maxRecDepth 20000 in
theorem in_wsL_law_r28 : ∀ w ∈ wsL_law_r28, w ∈ lw_tbl := mem_r _ [615, 616, 617, 618, 619, 620, 621, 622, 623, 624, 625, 627, 16, 628, 931, 932, 933, 934, 935, 937, 31, 938, 939, 941] (by decide +kernel)
set_option maxRecDepth 20000 in
theorem in_wsL_law_r29 : ∀ w ∈ wsL_law_r29, w ∈ lw_tbl := mem_r _ [32, 942, 943, 945, 33, 946, 947, 949, 34, 950, 629, 630, 631, 632, 633, 634, 635, 636, 637, 638, 639, 654, 640, 642] (by decide +kernel)
set_option maxRecDepth 20000 in
theorem in_wsL_law_r30 : ∀ w ∈ wsL_law_r30, w ∈ lw_tbl := mem_r _ [17, 643, 644, 645, 646, 647, 648, 650, 649, 52, 652, 653, 655, 951, 952, 953, 954, 725, 955, 957, 35, 958, 959, 961] (by decide +kernel)
set_option maxRecDepth 20000 in
theorem in_wsL_law_r31 : ∀ w ∈ wsL_law_r31, w ∈ lw_tbl := mem_r _ [36, 962, 656, 657, 658, 659, 963, 964, 965, 966, 660, 661, 662, 663, 664, 665, 666, 667, 668, 669, 670, 671, 672, 967] (by decide +kernel)
set_option maxRecDepth 20000 in
theorem in_wsL_law_r32 : ∀ w ∈ wsL_law_r32, w ∈ lw_tbl := mem_r _ [968, 969, 970, 673, 674, 675, 676, 677, 678, 679, 680, 681, 682, 683, 684, 685, 971, 972, 973, 974, 975, 977, 37, 978] (by decide +kernel)
