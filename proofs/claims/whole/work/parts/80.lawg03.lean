set_option maxRecDepth 20000 in
theorem ggL_law_X6_sees : GoodIn wsL_law wsX6_sees := goodIn_r _ [663, 124, 103, 104, 105, 435, 436, 5, 437, 143, 144, 145, 438, 439, 440, 760, 761, 762, 763, 764, 765, 766, 767, 768, 769, 770, 771, 772, 773, 774, 775, 776, 777, 778, 779, 780, 781] (by decide +kernel) (by decide +kernel)
set_option maxRecDepth 20000 in
theorem gL_law_X6_sees : GoodIn wsL_law (wsV RL 93 RX6 yX6_sees wsX6_sees) := goodIn_app (goodIn_of _ (by decide +kernel)) ggL_law_X6_sees
set_option maxRecDepth 20000 in
theorem ggL_law_X5_forget : GoodIn wsL_law wsX5_forget := goodIn_r _ [667, 35, 159, 752, 753, 754, 755, 756, 757, 758, 759, 813, 814, 815, 816, 817, 818, 819, 820] (by decide +kernel) (by decide +kernel)
set_option maxRecDepth 20000 in
theorem gL_law_X5_forget : GoodIn wsL_law (wsV RL 94 RX5 yX5_forget wsX5_forget) := goodIn_app (goodIn_of _ (by decide +kernel)) ggL_law_X5_forget
set_option maxRecDepth 20000 in
theorem ggL_law_X6_forget : GoodIn wsL_law wsX6_forget := goodIn_r _ [671, 124, 760, 761, 762, 763, 764, 765, 766, 767, 768, 769, 770, 771, 772, 773, 774, 775, 776, 777, 778, 779, 780, 781] (by decide +kernel) (by decide +kernel)
set_option maxRecDepth 20000 in
theorem gL_law_X6_forget : GoodIn wsL_law (wsV RL 97 RX6 yX6_forget wsX6_forget) := goodIn_app (goodIn_of _ (by decide +kernel)) ggL_law_X6_forget
set_option maxRecDepth 20000 in
theorem ggL_law_X5_unseen : GoodIn wsL_law wsX5_unseen := goodIn_r _ [675, 35, 15, 676, 677, 678, 130, 131, 2, 132, 679, 680, 681, 34, 682, 683, 684, 685, 91, 92, 686, 687, 688, 689, 659, 88, 89, 90, 690, 456, 457, 14, 458, 459, 412, 413, 414, 51, 53, 415, 416, 460, 418, 419, 420, 52, 54, 461, 462, 464, 465, 752, 753, 754, 755, 756, 757, 758, 759, 813, 814, 815, 816, 817, 818, 819, 820, 782, 783, 784, 785, 786, 787, 788, 789, 790, 791, 792, 793] (by decide +kernel) (by decide +kernel)
set_option maxRecDepth 20000 in
theorem gL_law_X5_unseen : GoodIn wsL_law (wsV RL 98 RX5 yX5_unseen wsX5_unseen) := goodIn_app (goodIn_of _ (by decide +kernel)) ggL_law_X5_unseen
set_option maxRecDepth 20000 in
theorem ggL_law_X6_unseen : GoodIn wsL_law wsX6_unseen := goodIn_r _ [694, 143, 144, 5, 145, 695, 696, 697, 698, 98, 699, 700, 701, 702, 124, 103, 104, 105, 493, 494, 495, 496, 441, 442, 443, 501, 502, 503, 760, 761, 762, 763, 764, 765, 766, 767, 768, 769, 770, 771, 772, 773, 774, 775, 776, 777, 778, 779, 780, 781] (by decide +kernel) (by decide +kernel)
set_option maxRecDepth 20000 in
theorem gL_law_X6_unseen : GoodIn wsL_law (wsV RL 101 RX6 yX6_unseen wsX6_unseen) := goodIn_app (goodIn_of _ (by decide +kernel)) ggL_law_X6_unseen
set_option maxRecDepth 20000 in
theorem ggL_law_X5_listen : GoodIn wsL_law wsX5_listen := goodIn_r _ [706, 35, 15, 676, 679, 680, 681, 34, 682, 683, 684, 685, 91, 92, 686, 687, 688, 689, 659, 88, 89, 90, 690, 456, 457, 14, 458, 459, 412, 413, 414, 51, 53, 415, 2, 416, 460, 418, 419, 420, 52, 54, 461, 462, 464, 465, 707, 708, 709, 710, 93, 711, 406, 182, 407, 712, 58, 59, 60, 713, 714, 715, 716, 717, 718, 548, 549, 752, 753, 754, 755, 756, 757, 758, 759, 813, 814, 815, 816, 817, 818, 819, 820, 782, 783, 784, 785, 786, 787, 788, 789, 790, 791, 792, 793] (by decide +kernel) (by decide +kernel)
set_option maxRecDepth 20000 in
theorem gL_law_X5_listen : GoodIn wsL_law (wsV RL 102 RX5 yX5_listen wsX5_listen) := goodIn_app (goodIn_of _ (by decide +kernel)) ggL_law_X5_listen
set_option maxRecDepth 20000 in
theorem ggL_law_X6_listen : GoodIn wsL_law wsX6_listen := goodIn_r _ [722, 695, 696, 697, 5, 698, 98, 699, 700, 701, 702, 124, 103, 104, 105, 493, 494, 495, 496, 441, 442, 443, 501, 502, 503, 435, 436, 437, 143, 144, 145, 438, 439, 440, 723, 724, 725, 726, 114, 760, 761, 762, 763, 764, 765, 766, 767, 768, 769, 770, 771, 772, 773, 774, 775, 776, 777, 778, 779, 780, 781] (by decide +kernel) (by decide +kernel)
set_option maxRecDepth 20000 in
theorem gL_law_X6_listen : GoodIn wsL_law (wsV RL 105 RX6 yX6_listen wsX6_listen) := goodIn_app (goodIn_of _ (by decide +kernel)) ggL_law_X6_listen
set_option maxRecDepth 20000 in
theorem ggL_law_X5_keep : GoodIn wsL_law wsX5_keep := goodIn_r _ [730, 17, 15, 19, 130, 131, 2, 132, 228, 229, 230, 14, 231, 51, 52, 53, 54, 55, 56, 41, 232, 233, 234, 235, 42, 43, 44, 45, 46, 367, 368, 369, 370, 752, 753, 754, 755, 756, 757, 758, 759, 782, 783, 784, 785, 786, 787, 788, 789, 790, 791, 792, 793] (by decide +kernel) (by decide +kernel)
set_option maxRecDepth 20000 in
theorem gL_law_X5_keep : GoodIn wsL_law (wsV RL 106 RX5 yX5_keep wsX5_keep) := goodIn_app (goodIn_of _ (by decide +kernel)) ggL_law_X5_keep
set_option maxRecDepth 20000 in
theorem ggL_law_X6_keep : GoodIn wsL_law wsX6_keep := goodIn_r _ [734, 100, 98, 101, 143, 144, 5, 145, 379, 380, 381, 382, 760, 761, 762, 763, 764, 765, 766, 767, 768, 769, 770, 771, 772, 773, 774, 775, 776, 777, 778, 779, 780, 781] (by decide +kernel) (by decide +kernel)
set_option maxRecDepth 20000 in
theorem gL_law_X6_keep : GoodIn wsL_law (wsV RL 109 RX6 yX6_keep wsX6_keep) := goodIn_app (goodIn_of _ (by decide +kernel)) ggL_law_X6_keep
set_option maxRecDepth 20000 in
theorem ggL_law_X5_back : GoodIn wsL_law wsX5_back := goodIn_r _ [738, 19, 15, 17, 27, 158, 130, 131, 2, 132, 228, 229, 230, 14, 231, 51, 52, 53, 54, 55, 56, 41, 232, 233, 234, 235, 42, 43, 44, 45, 46, 367, 368, 369, 370, 752, 753, 754, 755, 756, 757, 758, 759, 800, 801, 802, 803, 804, 782, 783, 784, 785, 786, 787, 788, 789, 790, 791, 792, 793] (by decide +kernel) (by decide +kernel)
set_option maxRecDepth 20000 in
theorem gL_law_X5_back : GoodIn wsL_law (wsV RL 110 RX5 yX5_back wsX5_back) := goodIn_app (goodIn_of _ (by decide +kernel)) ggL_law_X5_back
set_option maxRecDepth 20000 in
theorem ggL_law_X6_back : GoodIn wsL_law wsX6_back := goodIn_r _ [742, 101, 98, 100, 123, 143, 144, 5, 145, 379, 380, 381, 382, 760, 761, 762, 763, 764, 765, 766, 767, 768, 769, 770, 771, 772, 773, 774, 775, 776, 777, 778, 779, 780, 781] (by decide +kernel) (by decide +kernel)
set_option maxRecDepth 20000 in
theorem gL_law_X6_back : GoodIn wsL_law (wsV RL 113 RX6 yX6_back wsX6_back) := goodIn_app (goodIn_of _ (by decide +kernel)) ggL_law_X6_back
set_option maxRecDepth 20000 in
theorem ggL_law_X5_count : GoodIn wsL_law wsX5_count := goodIn_r _ [746, 15, 364, 355, 365, 366, 629, 747, 35, 159, 23, 129, 27, 158, 752, 753, 754, 755, 756, 757, 758, 759, 782, 783, 784, 785, 786, 787, 788, 789, 790, 791, 792, 793, 813, 814, 815, 816, 817, 818, 819, 820, 794, 795, 796, 797, 798, 799, 800, 801, 802, 803, 804] (by decide +kernel) (by decide +kernel)
set_option maxRecDepth 20000 in
theorem gL_law_X5_count : GoodIn wsL_law (wsV RL 114 RX5 yX5_count wsX5_count) := goodIn_app (goodIn_of _ (by decide +kernel)) ggL_law_X5_count
set_option maxRecDepth 20000 in
theorem ggL_law_X6_count : GoodIn wsL_law wsX6_count := goodIn_r _ [751, 98, 124, 142, 123, 760, 761, 762, 763, 764, 765, 766, 767, 768, 769, 770, 771, 772, 773, 774, 775, 776, 777, 778, 779, 780, 781] (by decide +kernel) (by decide +kernel)
set_option maxRecDepth 20000 in
theorem gL_law_X6_count : GoodIn wsL_law (wsV RL 117 RX6 yX6_count wsX6_count) := goodIn_app (goodIn_of _ (by decide +kernel)) ggL_law_X6_count
