set_option maxRecDepth 20000 in
theorem gL_law_X9_spans : GoodIn wsL_law (wsV RL 37 RX9 yX9_spans wsX9_spans) := goodIn_app (goodIn_of _ (by decide +kernel)) ggL_law_X9_spans
set_option maxRecDepth 20000 in
theorem ggL_law_X8_span : GoodIn wsL_law wsX8_span := goodIn_r _ [439, 13, 142, 143, 2, 144, 230, 231, 232, 233, 234, 235, 36, 236, 105, 237, 238, 239, 39, 240, 92, 91, 89, 241, 242, 243, 83, 244, 245, 246, 31, 247, 68, 69, 248, 249, 250, 251, 252, 253, 254, 88, 255, 97, 256, 257, 258, 259, 260, 90, 84, 261, 168, 169, 34, 170, 78, 262, 263, 264, 265, 266, 267, 268, 269, 67, 270, 271, 272, 273, 274, 275, 276, 277, 278, 279, 280, 281, 282, 283, 284, 285, 286, 287, 288, 289, 290, 291, 292, 293, 294, 295, 296, 297, 298, 299, 74, 300, 301, 302, 303, 75, 304, 305, 306, 307, 76, 308, 309, 310, 311, 77, 312, 313, 314, 315, 316, 317, 318, 319, 320, 321, 322, 323, 324, 325, 326, 327, 85, 328, 329, 330, 331, 332, 333, 334, 335, 336, 337, 338, 339, 340, 341, 342, 343, 344, 345, 346, 347, 348, 349, 350, 351, 352, 353, 354, 355, 356, 357, 440, 441, 442, 443, 411, 412, 413, 414, 415, 416, 417, 418, 419, 420, 421, 444, 445, 446, 447, 448, 449, 759, 760, 761, 762, 763, 764, 820, 821, 822, 823, 824, 825, 826, 827, 828, 829, 830, 831, 832, 833, 834, 835, 836, 812, 813, 814, 837, 815, 816, 817, 818, 819] (by decide +kernel) (by decide +kernel)
set_option maxRecDepth 20000 in
theorem gL_law_X8_span : GoodIn wsL_law (wsV RL 38 RX8 yX8_span wsX8_span) := goodIn_app (goodIn_of _ (by decide +kernel)) ggL_law_X8_span
set_option maxRecDepth 20000 in
theorem ggL_law_X9_span : GoodIn wsL_law wsX9_span := goodIn_r _ [453, 430, 431, 432, 183, 184, 5, 185, 186, 187, 188, 426, 427, 428, 429, 366, 367, 368, 369, 119, 370, 371, 372, 373, 123, 374, 375, 376, 377, 129, 121, 130, 133, 378, 379, 380, 132, 135, 131, 114, 134, 381, 382, 383, 384, 385, 386, 387, 388, 389, 390, 391, 392, 393, 394, 395, 116, 115, 117, 118, 396, 397, 398, 399, 400, 401, 402, 433, 434, 435, 765, 766, 767, 768, 769, 770, 771, 772, 773, 774, 775, 776, 777, 778, 779, 780, 781, 782, 783, 784, 785, 786, 787, 788, 789, 790, 791, 792, 793, 794, 795, 796, 797] (by decide +kernel) (by decide +kernel)
set_option maxRecDepth 20000 in
theorem gL_law_X9_span : GoodIn wsL_law (wsV RL 42 RX9 yX9_span wsX9_span) := goodIn_app (goodIn_of _ (by decide +kernel)) ggL_law_X9_span
set_option maxRecDepth 20000 in
theorem ggL_law_X8_steps : GoodIn wsL_law wsX8_steps := goodIn_r _ [457, 13, 142, 143, 2, 144, 230, 231, 232, 148, 149, 150, 233, 234, 235, 36, 236, 105, 237, 238, 239, 39, 240, 92, 91, 89, 241, 242, 243, 83, 244, 245, 246, 31, 247, 68, 69, 248, 249, 250, 251, 252, 253, 254, 88, 255, 97, 256, 257, 258, 259, 260, 90, 84, 261, 168, 169, 34, 170, 78, 262, 263, 264, 265, 266, 267, 268, 269, 67, 270, 271, 272, 273, 274, 275, 276, 277, 278, 279, 280, 281, 282, 283, 284, 285, 286, 287, 288, 289, 290, 291, 292, 293, 294, 295, 296, 297, 298, 299, 74, 300, 301, 302, 303, 75, 304, 305, 306, 307, 76, 308, 309, 310, 311, 77, 312, 313, 314, 315, 316, 317, 318, 319, 320, 321, 322, 323, 324, 325, 326, 327, 85, 328, 329, 330, 331, 332, 333, 334, 335, 336, 337, 338, 339, 340, 341, 342, 343, 344, 345, 346, 347, 348, 349, 350, 351, 352, 353, 458, 459, 460, 461, 462, 463, 464, 465, 759, 760, 761, 762, 763, 764, 820, 821, 822, 823, 824, 825, 826, 827, 828, 829, 830, 831, 832, 833, 834, 835, 836, 812, 813, 814, 837, 815, 816, 817, 818, 819] (by decide +kernel) (by decide +kernel)
set_option maxRecDepth 20000 in
theorem gL_law_X8_steps : GoodIn wsL_law (wsV RL 43 RX8 yX8_steps wsX8_steps) := goodIn_app (goodIn_of _ (by decide +kernel)) ggL_law_X8_steps
set_option maxRecDepth 20000 in
theorem ggL_law_X9_steps : GoodIn wsL_law wsX9_steps := goodIn_r _ [469, 133, 470, 471, 472, 5, 473, 114, 115, 134, 183, 184, 185, 186, 187, 188, 363, 364, 365, 374, 375, 376, 377, 129, 123, 121, 119, 130, 378, 379, 380, 132, 135, 131, 381, 382, 383, 384, 385, 386, 387, 388, 389, 390, 391, 392, 393, 394, 395, 116, 117, 118, 396, 397, 398, 399, 400, 401, 402, 765, 766, 767, 768, 769, 770, 771, 772, 773, 774, 775, 776, 777, 778, 779, 780, 781, 782, 783, 784, 785, 786, 787, 788, 789, 790, 791, 792, 793, 794, 795, 796, 797] (by decide +kernel) (by decide +kernel)
set_option maxRecDepth 20000 in
theorem gL_law_X9_steps : GoodIn wsL_law (wsV RL 46 RX9 yX9_steps wsX9_steps) := goodIn_app (goodIn_of _ (by decide +kernel)) ggL_law_X9_steps
set_option maxRecDepth 20000 in
theorem ggL_law_X8_way : GoodIn wsL_law wsX8_way := goodIn_r _ [477, 13, 142, 143, 2, 144, 230, 231, 232, 148, 149, 150, 233, 234, 235, 36, 236, 105, 237, 238, 239, 39, 240, 92, 91, 89, 241, 242, 243, 83, 244, 245, 246, 31, 247, 68, 69, 248, 249, 250, 251, 252, 253, 254, 88, 255, 97, 256, 257, 258, 259, 260, 90, 84, 261, 168, 169, 34, 170, 78, 262, 263, 264, 265, 266, 267, 268, 269, 67, 270, 271, 272, 273, 274, 275, 276, 277, 278, 279, 280, 281, 282, 283, 284, 285, 286, 287, 288, 289, 290, 291, 292, 293, 294, 295, 296, 297, 298, 299, 74, 300, 301, 302, 303, 75, 304, 305, 306, 307, 76, 308, 309, 310, 311, 77, 312, 313, 314, 315, 316, 317, 318, 319, 320, 321, 322, 323, 324, 325, 326, 327, 85, 328, 329, 330, 331, 332, 333, 334, 335, 336, 337, 338, 339, 340, 341, 342, 343, 344, 345, 346, 347, 348, 349, 350, 351, 352, 353, 478, 479, 480, 481, 482, 459, 460, 461, 462, 463, 464, 465, 759, 760, 761, 762, 763, 764, 820, 821, 822, 823, 824, 825, 826, 827, 828, 829, 830, 831, 832, 833, 834, 835, 836, 812, 813, 814, 837, 815, 816, 817, 818, 819] (by decide +kernel) (by decide +kernel)
set_option maxRecDepth 20000 in
theorem gL_law_X8_way : GoodIn wsL_law (wsV RL 47 RX8 yX8_way wsX8_way) := goodIn_app (goodIn_of _ (by decide +kernel)) ggL_law_X8_way
set_option maxRecDepth 20000 in
theorem ggL_law_X9_way : GoodIn wsL_law wsX9_way := goodIn_r _ [486, 133, 132, 470, 471, 472, 5, 473, 114, 115, 134, 183, 184, 185, 186, 187, 188, 363, 364, 365, 374, 375, 376, 377, 129, 123, 121, 119, 130, 378, 379, 380, 135, 131, 381, 382, 383, 384, 385, 386, 387, 388, 389, 390, 391, 392, 393, 394, 395, 116, 117, 118, 396, 397, 398, 399, 400, 401, 402, 765, 766, 767, 768, 769, 770, 771, 772, 773, 774, 775, 776, 777, 778, 779, 780, 781, 782, 783, 784, 785, 786, 787, 788, 789, 790, 791, 792, 793, 794, 795, 796, 797] (by decide +kernel) (by decide +kernel)
set_option maxRecDepth 20000 in
theorem gL_law_X9_way : GoodIn wsL_law (wsV RL 50 RX9 yX9_way wsX9_way) := goodIn_app (goodIn_of _ (by decide +kernel)) ggL_law_X9_way
set_option maxRecDepth 20000 in
theorem ggL_law_X8_feed : GoodIn wsL_law wsX8_feed := goodIn_r _ [490, 17, 491, 492, 493, 16, 494, 45, 495, 496, 497, 498, 44, 499, 500, 501, 502, 759, 760, 761, 762, 763, 764, 798, 799] (by decide +kernel) (by decide +kernel)
set_option maxRecDepth 20000 in
theorem gL_law_X8_feed : GoodIn wsL_law (wsV RL 51 RX8 yX8_feed wsX8_feed) := goodIn_app (goodIn_of _ (by decide +kernel)) ggL_law_X8_feed
set_option maxRecDepth 20000 in
theorem ggL_law_X9_feed : GoodIn wsL_law wsX9_feed := goodIn_r _ [506, 507, 508, 509, 510, 5, 511, 112, 765, 766, 767, 768, 769, 770, 771, 772, 773, 774, 775, 776, 777, 778, 779, 780, 781, 782, 783, 784, 785, 786, 787, 788, 789, 790, 791, 792, 793, 794, 795, 796, 797] (by decide +kernel) (by decide +kernel)
set_option maxRecDepth 20000 in
theorem gL_law_X9_feed : GoodIn wsL_law (wsV RL 54 RX9 yX9_feed wsX9_feed) := goodIn_app (goodIn_of _ (by decide +kernel)) ggL_law_X9_feed
set_option maxRecDepth 20000 in
theorem ggL_law_X8_run : GoodIn wsL_law wsX8_run := goodIn_r _ [515, 17, 21, 13, 142, 143, 2, 144, 499, 500, 501, 16, 502, 45, 516, 517, 518, 36, 519, 104, 520, 521, 522, 523, 103, 524, 525, 526, 20, 527, 50, 528, 529, 530, 531, 51, 532, 249, 250, 251, 533, 534, 535, 536, 537, 538, 539, 34, 540, 74, 541, 168, 169, 170, 78, 542, 297, 298, 299, 543, 544, 545, 546, 547, 301, 302, 303, 75, 548, 305, 306, 307, 76, 549, 309, 310, 311, 77, 550, 336, 337, 88, 338, 97, 551, 552, 553, 554, 555, 556, 557, 558, 44, 559, 560, 561, 562, 759, 760, 761, 762, 763, 764, 798, 799, 820, 821, 822, 800, 801, 802, 803, 804, 805, 815, 816, 817, 818, 819, 837] (by decide +kernel) (by decide +kernel)
set_option maxRecDepth 20000 in
theorem gL_law_X8_run : GoodIn wsL_law (wsV RL 55 RX8 yX8_run wsX8_run) := goodIn_app (goodIn_of _ (by decide +kernel)) ggL_law_X8_run
set_option maxRecDepth 20000 in
theorem ggL_law_X9_run : GoodIn wsL_law wsX9_run := goodIn_r _ [566, 507, 136, 113, 114, 115, 116, 117, 112, 118, 120, 183, 184, 5, 185, 186, 187, 188, 765, 766, 767, 768, 769, 770, 771, 772, 773, 774, 775, 776, 777, 778, 779, 780, 781, 782, 783, 784, 785, 786, 787, 788, 789, 790, 791, 792, 793, 794, 795, 796, 797] (by decide +kernel) (by decide +kernel)
set_option maxRecDepth 20000 in
theorem gL_law_X9_run : GoodIn wsL_law (wsV RL 58 RX9 yX9_run wsX9_run) := goodIn_app (goodIn_of _ (by decide +kernel)) ggL_law_X9_run
set_option maxRecDepth 20000 in
theorem ggL_law_X8_ended : GoodIn wsL_law wsX8_ended := goodIn_r _ [570, 21, 571, 572, 573, 20, 574, 51, 759, 760, 761, 762, 763, 764, 800, 801, 802, 803, 804, 805] (by decide +kernel) (by decide +kernel)
set_option maxRecDepth 20000 in
theorem gL_law_X8_ended : GoodIn wsL_law (wsV RL 59 RX8 yX8_ended wsX8_ended) := goodIn_app (goodIn_of _ (by decide +kernel)) ggL_law_X8_ended
set_option maxRecDepth 20000 in
theorem ggL_law_X9_ended : GoodIn wsL_law wsX9_ended := goodIn_r _ [578, 113, 765, 766, 767, 768, 769, 770, 771, 772, 773, 774, 775, 776, 777, 778, 779, 780, 781, 782, 783, 784, 785, 786, 787, 788, 789, 790, 791, 792, 793, 794, 795, 796, 797] (by decide +kernel) (by decide +kernel)
