set_option maxRecDepth 20000 in
theorem gL_law_X9_ended : GoodIn wsL_law (wsV RL 63 RX9 yX9_ended wsX9_ended) := goodIn_app (goodIn_of _ (by decide +kernel)) ggL_law_X9_ended
set_option maxRecDepth 20000 in
theorem ggL_law_X8_seen : GoodIn wsL_law wsX8_seen := goodIn_r _ [582, 13, 142, 143, 2, 144, 230, 231, 232, 148, 149, 150, 520, 521, 522, 36, 523, 103, 358, 329, 330, 88, 331, 97, 759, 760, 761, 762, 763, 764, 820, 821, 822, 837] (by decide +kernel) (by decide +kernel)
set_option maxRecDepth 20000 in
theorem gL_law_X8_seen : GoodIn wsL_law (wsV RL 64 RX8 yX8_seen wsX8_seen) := goodIn_app (goodIn_of _ (by decide +kernel)) ggL_law_X8_seen
set_option maxRecDepth 20000 in
theorem ggL_law_X9_seen : GoodIn wsL_law wsX9_seen := goodIn_r _ [586, 120, 183, 184, 5, 185, 186, 187, 188, 363, 364, 365, 765, 766, 767, 768, 769, 770, 771, 772, 773, 774, 775, 776, 777, 778, 779, 780, 781, 782, 783, 784, 785, 786, 787, 788, 789, 790, 791, 792, 793, 794, 795, 796, 797] (by decide +kernel) (by decide +kernel)
set_option maxRecDepth 20000 in
theorem gL_law_X9_seen : GoodIn wsL_law (wsV RL 67 RX9 yX9_seen wsX9_seen) := goodIn_app (goodIn_of _ (by decide +kernel)) ggL_law_X9_seen
set_option maxRecDepth 20000 in
theorem ggL_law_X8_melted : GoodIn wsL_law wsX8_melted := goodIn_r _ [590, 13, 591, 592, 2, 593, 230, 231, 232, 148, 149, 150, 594, 274, 275, 233, 234, 235, 36, 236, 105, 237, 238, 239, 39, 240, 92, 91, 89, 241, 242, 243, 83, 244, 245, 246, 31, 247, 68, 69, 248, 249, 250, 251, 252, 253, 254, 88, 255, 97, 256, 257, 258, 259, 260, 90, 84, 261, 168, 169, 34, 170, 78, 262, 263, 264, 265, 266, 267, 268, 269, 67, 270, 271, 272, 273, 276, 277, 278, 279, 280, 281, 282, 283, 284, 285, 286, 287, 288, 289, 290, 291, 292, 293, 294, 295, 296, 297, 298, 299, 74, 300, 301, 302, 303, 75, 304, 305, 306, 307, 76, 308, 309, 310, 311, 77, 312, 313, 314, 315, 316, 317, 318, 319, 320, 321, 322, 323, 324, 325, 326, 327, 85, 328, 329, 330, 331, 332, 333, 334, 335, 336, 337, 338, 339, 340, 341, 342, 343, 344, 345, 346, 347, 348, 349, 350, 351, 352, 353, 354, 355, 356, 357, 358, 759, 760, 761, 762, 763, 764, 820, 821, 822, 823, 824, 825, 826, 827, 828, 829, 830, 831, 832, 833, 834, 835, 836, 812, 813, 814, 837, 815, 816, 817, 818, 819] (by decide +kernel) (by decide +kernel)
set_option maxRecDepth 20000 in
theorem gL_law_X8_melted : GoodIn wsL_law (wsV RL 68 RX8 yX8_melted wsX8_melted) := goodIn_app (goodIn_of _ (by decide +kernel)) ggL_law_X8_melted
