set_option maxRecDepth 20000 in
theorem ggL_law_X6_curtain : GoodIn wsL_law wsX6_curtain := goodIn_r _ [324, 98, 325, 326, 327, 5, 328, 143, 144, 145, 760, 761, 762, 763, 764, 765, 766, 767, 768, 769, 770, 771, 772, 773, 774, 775, 776, 777, 778, 779, 780, 781] (by decide +kernel) (by decide +kernel)
set_option maxRecDepth 20000 in
theorem gL_law_X6_curtain : GoodIn wsL_law (wsV RL 39 RX6 yX6_curtain wsX6_curtain) := goodIn_app (goodIn_of _ (by decide +kernel)) ggL_law_X6_curtain
set_option maxRecDepth 20000 in
theorem ggL_law_X5_pads : GoodIn wsL_law wsX5_pads := goodIn_r _ [332, 15, 287, 27, 130, 131, 2, 132, 333, 334, 335, 26, 336, 337, 70, 71, 72, 73, 338, 339, 340, 341, 342, 233, 234, 235, 752, 753, 754, 755, 756, 757, 758, 759, 782, 783, 784, 785, 786, 787, 788, 789, 790, 791, 792, 793, 800, 801, 802, 803, 804] (by decide +kernel) (by decide +kernel)
set_option maxRecDepth 20000 in
theorem gL_law_X5_pads : GoodIn wsL_law (wsV RL 40 RX5 yX5_pads wsX5_pads) := goodIn_app (goodIn_of _ (by decide +kernel)) ggL_law_X5_pads
set_option maxRecDepth 20000 in
theorem ggL_law_X6_pads : GoodIn wsL_law wsX6_pads := goodIn_r _ [346, 98, 143, 144, 5, 145, 347, 348, 349, 350, 123, 102, 760, 761, 762, 763, 764, 765, 766, 767, 768, 769, 770, 771, 772, 773, 774, 775, 776, 777, 778, 779, 780, 781] (by decide +kernel) (by decide +kernel)
set_option maxRecDepth 20000 in
theorem gL_law_X6_pads : GoodIn wsL_law (wsV RL 43 RX6 yX6_pads wsX6_pads) := goodIn_app (goodIn_of _ (by decide +kernel)) ggL_law_X6_pads
set_option maxRecDepth 20000 in
theorem ggL_law_X5_draws : GoodIn wsL_law wsX5_draws := goodIn_r _ [354, 15, 355, 315, 316, 27, 317, 318, 319, 14, 320, 56, 130, 131, 2, 132, 333, 334, 335, 26, 336, 337, 70, 71, 72, 73, 338, 339, 340, 341, 342, 233, 234, 235, 752, 753, 754, 755, 756, 757, 758, 759, 782, 783, 784, 785, 786, 787, 788, 789, 790, 791, 792, 793, 800, 801, 802, 803, 804] (by decide +kernel) (by decide +kernel)
set_option maxRecDepth 20000 in
theorem gL_law_X5_draws : GoodIn wsL_law (wsV RL 44 RX5 yX5_draws wsX5_draws) := goodIn_app (goodIn_of _ (by decide +kernel)) ggL_law_X5_draws
set_option maxRecDepth 20000 in
theorem ggL_law_X6_draws : GoodIn wsL_law wsX6_draws := goodIn_r _ [359, 98, 325, 326, 327, 5, 328, 143, 144, 145, 347, 348, 349, 350, 123, 102, 760, 761, 762, 763, 764, 765, 766, 767, 768, 769, 770, 771, 772, 773, 774, 775, 776, 777, 778, 779, 780, 781] (by decide +kernel) (by decide +kernel)
set_option maxRecDepth 20000 in
theorem gL_law_X6_draws : GoodIn wsL_law (wsV RL 48 RX6 yX6_draws wsX6_draws) := goodIn_app (goodIn_of _ (by decide +kernel)) ggL_law_X6_draws
set_option maxRecDepth 20000 in
theorem ggL_law_X5_moves : GoodIn wsL_law wsX5_moves := goodIn_r _ [363, 15, 364, 355, 365, 366, 27, 130, 131, 2, 132, 367, 368, 369, 14, 370, 53, 54, 333, 334, 335, 26, 336, 337, 70, 71, 72, 73, 338, 339, 340, 341, 342, 233, 234, 235, 752, 753, 754, 755, 756, 757, 758, 759, 782, 783, 784, 785, 786, 787, 788, 789, 790, 791, 792, 793, 800, 801, 802, 803, 804] (by decide +kernel) (by decide +kernel)
set_option maxRecDepth 20000 in
theorem gL_law_X5_moves : GoodIn wsL_law (wsV RL 49 RX5 yX5_moves wsX5_moves) := goodIn_app (goodIn_of _ (by decide +kernel)) ggL_law_X5_moves
set_option maxRecDepth 20000 in
theorem ggL_law_X6_moves : GoodIn wsL_law wsX6_moves := goodIn_r _ [374, 98, 375, 376, 377, 5, 378, 143, 144, 145, 379, 380, 381, 382, 347, 348, 349, 350, 123, 102, 760, 761, 762, 763, 764, 765, 766, 767, 768, 769, 770, 771, 772, 773, 774, 775, 776, 777, 778, 779, 780, 781] (by decide +kernel) (by decide +kernel)
set_option maxRecDepth 20000 in
theorem gL_law_X6_moves : GoodIn wsL_law (wsV RL 52 RX6 yX6_moves wsX6_moves) := goodIn_app (goodIn_of _ (by decide +kernel)) ggL_law_X6_moves
set_option maxRecDepth 20000 in
theorem ggL_law_X5_undo : GoodIn wsL_law wsX5_undo := goodIn_r _ [386, 27, 158, 15, 387, 388, 389, 26, 390, 337, 71, 70, 391, 72, 392, 393, 73, 394, 395, 752, 753, 754, 755, 756, 757, 758, 759, 800, 801, 802, 803, 804, 782, 783, 784, 785, 786, 787, 788, 789, 790, 791, 792, 793] (by decide +kernel) (by decide +kernel)
set_option maxRecDepth 20000 in
theorem gL_law_X5_undo : GoodIn wsL_law (wsV RL 53 RX5 yX5_undo wsX5_undo) := goodIn_app (goodIn_of _ (by decide +kernel)) ggL_law_X5_undo
set_option maxRecDepth 20000 in
theorem ggL_law_X6_undo : GoodIn wsL_law wsX6_undo := goodIn_r _ [399, 123, 98, 102, 760, 761, 762, 763, 764, 765, 766, 767, 768, 769, 770, 771, 772, 773, 774, 775, 776, 777, 778, 779, 780, 781] (by decide +kernel) (by decide +kernel)
set_option maxRecDepth 20000 in
theorem gL_law_X6_undo : GoodIn wsL_law (wsV RL 56 RX6 yX6_undo wsX6_undo) := goodIn_app (goodIn_of _ (by decide +kernel)) ggL_law_X6_undo
set_option maxRecDepth 20000 in
theorem ggL_law_X5_mirror : GoodIn wsL_law wsX5_mirror := goodIn_r _ [403, 404, 15, 405, 406, 182, 407, 408, 409, 2, 410, 130, 131, 132, 411, 412, 413, 14, 414, 51, 53, 415, 416, 417, 418, 419, 420, 52, 54, 421, 422, 423, 424, 41, 425, 426, 427, 428, 429, 752, 753, 754, 755, 756, 757, 758, 759, 782, 783, 784, 785, 786, 787, 788, 789, 790, 791, 792, 793] (by decide +kernel) (by decide +kernel)
set_option maxRecDepth 20000 in
theorem gL_law_X5_mirror : GoodIn wsL_law (wsV RL 57 RX5 yX5_mirror wsX5_mirror) := goodIn_app (goodIn_of _ (by decide +kernel)) ggL_law_X5_mirror
set_option maxRecDepth 20000 in
theorem ggL_law_X6_mirror : GoodIn wsL_law wsX6_mirror := goodIn_r _ [433, 434, 98, 435, 436, 5, 437, 143, 144, 145, 438, 439, 440, 441, 442, 443, 444, 445, 446, 447, 448, 449, 450, 760, 761, 762, 763, 764, 765, 766, 767, 768, 769, 770, 771, 772, 773, 774, 775, 776, 777, 778, 779, 780, 781] (by decide +kernel) (by decide +kernel)
set_option maxRecDepth 20000 in
theorem gL_law_X6_mirror : GoodIn wsL_law (wsV RL 60 RX6 yX6_mirror wsX6_mirror) := goodIn_app (goodIn_of _ (by decide +kernel)) ggL_law_X6_mirror
set_option maxRecDepth 20000 in
theorem ggL_law_X5_path : GoodIn wsL_law wsX5_path := goodIn_r _ [454, 15, 296, 297, 287, 298, 299, 300, 14, 301, 55, 408, 409, 2, 410, 405, 406, 182, 407, 130, 131, 132, 455, 456, 457, 458, 459, 412, 413, 414, 51, 53, 415, 416, 460, 418, 419, 420, 52, 54, 461, 462, 463, 464, 465, 466, 467, 468, 469, 470, 471, 472, 473, 425, 426, 427, 428, 429, 474, 475, 476, 477, 56, 44, 478, 479, 181, 183, 480, 481, 482, 483, 484, 45, 46, 485, 486, 487, 488, 752, 753, 754, 755, 756, 757, 758, 759, 782, 783, 784, 785, 786, 787, 788, 789, 790, 791, 792, 793] (by decide +kernel) (by decide +kernel)
set_option maxRecDepth 20000 in
theorem gL_law_X5_path : GoodIn wsL_law (wsV RL 61 RX5 yX5_path wsX5_path) := goodIn_app (goodIn_of _ (by decide +kernel)) ggL_law_X5_path
set_option maxRecDepth 20000 in
theorem ggL_law_X6_path : GoodIn wsL_law wsX6_path := goodIn_r _ [492, 98, 306, 307, 308, 5, 309, 143, 144, 145, 435, 436, 437, 438, 439, 440, 493, 494, 495, 496, 441, 442, 443, 497, 498, 499, 500, 110, 501, 502, 503, 504, 505, 506, 507, 508, 448, 449, 450, 509, 510, 511, 512, 513, 514, 515, 516, 760, 761, 762, 763, 764, 765, 766, 767, 768, 769, 770, 771, 772, 773, 774, 775, 776, 777, 778, 779, 780, 781] (by decide +kernel) (by decide +kernel)
set_option maxRecDepth 20000 in
theorem gL_law_X6_path : GoodIn wsL_law (wsV RL 65 RX6 yX6_path wsX6_path) := goodIn_app (goodIn_of _ (by decide +kernel)) ggL_law_X6_path
