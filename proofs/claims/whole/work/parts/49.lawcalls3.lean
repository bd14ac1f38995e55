set_option maxRecDepth 20000 in
theorem ggL_law_X8_sure : GoodIn wsL_law wsX8_sure := goodIn_r _ [752, 121, 710, 131, 753, 176, 177, 5, 178, 179, 180, 181, 182, 129, 183, 712, 713, 714, 715, 711, 652, 653, 654, 655, 656, 657, 658, 659, 123, 125, 126, 124, 122, 241, 116, 127, 660, 661, 662, 663, 664, 665, 666, 113, 667, 668, 669, 670, 533, 534, 535, 839, 840, 841, 842, 843, 844, 845, 846, 847, 848, 849, 850, 851, 852, 853, 854, 855, 856, 857, 858, 859, 860, 861, 862, 863, 864, 865] (by decide +kernel) (by decide +kernel)
set_option maxRecDepth 20000 in
theorem gL_law_X8_sure : GoodIn wsL_law (wsV RL 108 RX8 yX8_sure wsX8_sure) := goodIn_app (goodIn_of _ (by decide +kernel)) ggL_law_X8_sure
set_option maxRecDepth 20000 in
theorem ggL_law_X7_parts : GoodIn wsL_law wsX7_parts := goodIn_r _ [757, 39, 35, 19, 136, 137, 2, 138, 148, 149, 150, 151, 43, 152, 758, 759, 760, 761, 762, 616, 617, 18, 618, 59, 675, 676, 677, 38, 678, 104, 679, 680, 681, 682, 98, 683, 600, 601, 34, 602, 88, 684, 604, 605, 606, 89, 90, 91, 92, 84, 85, 86, 87, 685, 608, 609, 610, 611, 612, 613, 614, 615, 619, 620, 621, 622, 623, 624, 625, 626, 60, 627, 628, 629, 630, 686, 632, 633, 634, 102, 103, 635, 636, 637, 638, 639, 640, 641, 642, 643, 519, 520, 521, 522, 523, 524, 644, 645, 646, 647, 58, 57, 687, 688, 689, 690, 99, 96, 691, 692, 693, 694, 100, 101, 97, 695, 696, 401, 697, 698, 699, 700, 701, 763, 764, 765, 766, 767, 392, 393, 394, 829, 830, 831, 832, 833, 834, 835, 836, 837, 838, 870, 871, 872, 873, 874, 875, 876, 896, 897, 898, 899, 900, 901, 902, 903, 904, 887, 888, 889, 890, 891, 892, 893, 894, 895] (by decide +kernel) (by decide +kernel)
set_option maxRecDepth 20000 in
theorem gL_law_X7_parts : GoodIn wsL_law (wsV RL 109 RX7 yX7_parts wsX7_parts) := goodIn_app (goodIn_of _ (by decide +kernel)) ggL_law_X7_parts
set_option maxRecDepth 20000 in
theorem ggL_law_X8_parts : GoodIn wsL_law wsX8_parts := goodIn_r _ [771, 710, 176, 177, 5, 178, 179, 180, 181, 182, 129, 183, 663, 664, 665, 666, 241, 113, 116, 712, 713, 714, 715, 711, 131, 652, 653, 654, 655, 121, 656, 657, 658, 659, 123, 125, 126, 124, 122, 127, 660, 661, 662, 667, 668, 669, 670, 533, 534, 535, 772, 773, 774, 775, 839, 840, 841, 842, 843, 844, 845, 846, 847, 848, 849, 850, 851, 852, 853, 854, 855, 856, 857, 858, 859, 860, 861, 862, 863, 864, 865] (by decide +kernel) (by decide +kernel)
set_option maxRecDepth 20000 in
theorem gL_law_X8_parts : GoodIn wsL_law (wsV RL 112 RX8 yX8_parts wsX8_parts) := goodIn_app (goodIn_of _ (by decide +kernel)) ggL_law_X8_parts
set_option maxRecDepth 20000 in
theorem ggL_law_X7_ask : GoodIn wsL_law wsX7_ask := goodIn_r _ [779, 39, 35, 19, 675, 676, 677, 38, 678, 104, 679, 680, 681, 682, 98, 683, 600, 601, 34, 602, 88, 684, 604, 605, 606, 89, 90, 91, 92, 84, 85, 86, 87, 685, 608, 609, 610, 611, 612, 613, 614, 615, 616, 617, 18, 618, 59, 619, 620, 621, 622, 623, 624, 625, 626, 60, 627, 628, 629, 630, 686, 632, 633, 634, 102, 103, 635, 636, 637, 638, 639, 640, 641, 642, 643, 519, 520, 521, 522, 523, 524, 644, 645, 646, 647, 58, 57, 687, 688, 689, 690, 99, 96, 691, 692, 693, 694, 100, 101, 97, 695, 696, 401, 697, 698, 699, 700, 701, 148, 149, 150, 2, 151, 43, 152, 136, 137, 138, 758, 759, 760, 761, 762, 763, 764, 765, 766, 767, 392, 393, 394, 829, 830, 831, 832, 833, 834, 835, 836, 837, 838, 896, 897, 898, 899, 900, 901, 902, 903, 904, 887, 888, 889, 890, 891, 892, 893, 894, 895, 870, 871, 872, 873, 874, 875, 876] (by decide +kernel) (by decide +kernel)
set_option maxRecDepth 20000 in
theorem gL_law_X7_ask : GoodIn wsL_law (wsV RL 113 RX7 yX7_ask wsX7_ask) := goodIn_app (goodIn_of _ (by decide +kernel)) ggL_law_X7_ask
set_option maxRecDepth 20000 in
theorem ggL_law_X8_ask : GoodIn wsL_law wsX8_ask := goodIn_r _ [783, 710, 712, 713, 714, 5, 715, 711, 131, 652, 653, 654, 655, 121, 656, 657, 658, 659, 123, 125, 126, 124, 122, 241, 116, 127, 660, 661, 662, 663, 664, 665, 666, 113, 667, 668, 669, 670, 533, 534, 535, 772, 773, 774, 775, 179, 180, 181, 182, 129, 183, 839, 840, 841, 842, 843, 844, 845, 846, 847, 848, 849, 850, 851, 852, 853, 854, 855, 856, 857, 858, 859, 860, 861, 862, 863, 864, 865] (by decide +kernel) (by decide +kernel)
set_option maxRecDepth 20000 in
theorem gL_law_X8_ask : GoodIn wsL_law (wsV RL 116 RX8 yX8_ask wsX8_ask) := goodIn_app (goodIn_of _ (by decide +kernel)) ggL_law_X8_ask
set_option maxRecDepth 20000 in
theorem ggL_law_X7_tell : GoodIn wsL_law wsX7_tell := goodIn_r _ [787, 42, 41, 148, 149, 150, 2, 151, 43, 152, 136, 137, 138, 829, 830, 831, 832, 833, 834, 835, 836, 837, 838] (by decide +kernel) (by decide +kernel)
set_option maxRecDepth 20000 in
theorem gL_law_X7_tell : GoodIn wsL_law (wsV RL 117 RX7 yX7_tell wsX7_tell) := goodIn_app (goodIn_of _ (by decide +kernel)) ggL_law_X7_tell
set_option maxRecDepth 20000 in
theorem ggL_law_X8_tell : GoodIn wsL_law wsX8_tell := goodIn_r _ [791, 792, 128, 179, 180, 181, 5, 182, 129, 183, 839, 840, 841, 842, 843, 844, 845, 846, 847, 848, 849, 850, 851, 852, 853, 854, 855, 856, 857, 858, 859, 860, 861, 862, 863, 864, 865] (by decide +kernel) (by decide +kernel)
set_option maxRecDepth 20000 in
theorem gL_law_X8_tell : GoodIn wsL_law (wsV RL 120 RX8 yX8_tell wsX8_tell) := goodIn_app (goodIn_of _ (by decide +kernel)) ggL_law_X8_tell
set_option maxRecDepth 20000 in
theorem ggL_law_X7_check : GoodIn wsL_law wsX7_check := goodIn_r _ [796, 42, 19, 797, 379, 380, 381, 2, 382, 27, 383, 384, 385, 386, 23, 246, 247, 248, 18, 249, 58, 387, 388, 389, 26, 390, 391, 392, 393, 394, 395, 396, 397, 73, 72, 398, 399, 400, 401, 402, 316, 317, 318, 319, 13, 320, 321, 284, 285, 286, 287, 55, 283, 276, 277, 278, 137, 138, 288, 289, 290, 291, 56, 200, 201, 202, 15, 203, 50, 47, 279, 280, 281, 282, 54, 204, 205, 206, 207, 49, 48, 403, 404, 405, 406, 407, 408, 409, 410, 363, 364, 365, 22, 366, 67, 411, 412, 413, 414, 64, 415, 416, 417, 418, 65, 419, 420, 421, 422, 66, 423, 424, 425, 426, 427, 428, 429, 430, 431, 432, 433, 434, 148, 149, 150, 151, 43, 152, 136, 798, 799, 800, 801, 41, 435, 436, 437, 438, 439, 440, 441, 442, 326, 327, 328, 829, 830, 831, 832, 833, 834, 835, 836, 837, 838, 870, 871, 872, 873, 874, 875, 876, 881, 882, 866, 867, 868, 869, 877, 878, 879, 880] (by decide +kernel) (by decide +kernel)
set_option maxRecDepth 20000 in
theorem gL_law_X7_check : GoodIn wsL_law (wsV RL 121 RX7 yX7_check wsX7_check) := goodIn_app (goodIn_of _ (by decide +kernel)) ggL_law_X7_check
set_option maxRecDepth 20000 in
theorem ggL_law_X8_check : GoodIn wsL_law wsX8_check := goodIn_r _ [805, 792, 241, 128, 806, 447, 448, 449, 5, 450, 451, 452, 453, 454, 130, 333, 266, 117, 118, 119, 334, 335, 336, 337, 114, 115, 113, 112, 111, 212, 213, 214, 215, 109, 110, 455, 456, 457, 458, 179, 180, 181, 182, 129, 183, 459, 460, 461, 462, 839, 840, 841, 842, 843, 844, 845, 846, 847, 848, 849, 850, 851, 852, 853, 854, 855, 856, 857, 858, 859, 860, 861, 862, 863, 864, 865] (by decide +kernel) (by decide +kernel)
set_option maxRecDepth 20000 in
theorem gL_law_X8_check : GoodIn wsL_law (wsV RL 124 RX8 yX8_check wsX8_check) := goodIn_app (goodIn_of _ (by decide +kernel)) ggL_law_X8_check
set_option maxRecDepth 20000 in
theorem ggL_law_X7_count : GoodIn wsL_law wsX7_count := goodIn_r _ [810, 19, 23, 35, 42, 246, 247, 248, 18, 249, 58, 363, 364, 365, 22, 366, 67, 811, 812, 813, 34, 814, 88, 815, 519, 520, 521, 522, 523, 524, 762, 616, 617, 618, 59, 816, 148, 149, 150, 2, 151, 43, 152, 136, 137, 138, 829, 830, 831, 832, 833, 834, 835, 836, 837, 838, 870, 871, 872, 873, 874, 875, 876, 877, 878, 879, 880, 887, 888, 889, 890, 891, 892, 893, 894, 895] (by decide +kernel) (by decide +kernel)
set_option maxRecDepth 20000 in
theorem gL_law_X7_count : GoodIn wsL_law (wsV RL 125 RX7 yX7_count wsX7_count) := goodIn_app (goodIn_of _ (by decide +kernel)) ggL_law_X7_count
set_option maxRecDepth 20000 in
theorem ggL_law_X8_count : GoodIn wsL_law wsX8_count := goodIn_r _ [820, 241, 266, 792, 652, 653, 654, 5, 655, 121, 533, 534, 535, 663, 664, 665, 666, 113, 116, 179, 180, 181, 182, 129, 183, 839, 840, 841, 842, 843, 844, 845, 846, 847, 848, 849, 850, 851, 852, 853, 854, 855, 856, 857, 858, 859, 860, 861, 862, 863, 864, 865] (by decide +kernel) (by decide +kernel)
set_option maxRecDepth 20000 in
theorem gL_law_X8_count : GoodIn wsL_law (wsV RL 128 RX8 yX8_count wsX8_count) := goodIn_app (goodIn_of _ (by decide +kernel)) ggL_law_X8_count
set_option maxRecDepth 20000 in
theorem ggL_law_X7_found : GoodIn wsL_law wsX7_found := goodIn_r _ [824, 43, 136, 137, 2, 138, 148, 149, 150, 151, 152, 829, 830, 831, 832, 833, 834, 835, 836, 837, 838] (by decide +kernel) (by decide +kernel)
set_option maxRecDepth 20000 in
theorem gL_law_X7_found : GoodIn wsL_law (wsV RL 129 RX7 yX7_found wsX7_found) := goodIn_app (goodIn_of _ (by decide +kernel)) ggL_law_X7_found
set_option maxRecDepth 20000 in
theorem ggL_law_X8_found : GoodIn wsL_law wsX8_found := goodIn_r _ [828, 129, 176, 177, 5, 178, 179, 180, 181, 182, 183, 839, 840, 841, 842, 843, 844, 845, 846, 847, 848, 849, 850, 851, 852, 853, 854, 855, 856, 857, 858, 859, 860, 861, 862, 863, 864, 865] (by decide +kernel) (by decide +kernel)
set_option maxRecDepth 20000 in
theorem gL_law_X8_found : GoodIn wsL_law (wsV RL 132 RX8 yX8_found wsX8_found) := goodIn_app (goodIn_of _ (by decide +kernel)) ggL_law_X8_found
