set_option maxRecDepth 20000 in
theorem ggL_law_X7_init : GoodIn wsL_law wsX7_init := goodIn_r _ [8, 9, 10, 11, 12, 13, 14, 15, 16, 17, 18, 19, 20, 21, 22, 23, 24, 25, 26, 27, 28, 29, 30, 31, 32, 33, 34, 35, 36, 37, 38, 39, 40, 41, 42, 43, 44, 45, 46, 47, 48, 49, 50, 51, 52, 53, 54, 55, 56, 57, 58, 59, 60, 61, 62, 63, 64, 65, 66, 67, 68, 69, 70, 71, 72, 73, 74, 75, 76, 77, 78, 79, 80, 81, 82, 83, 84, 85, 86, 87, 88, 89, 90, 91, 92, 93, 94, 95, 96, 97, 98, 99, 100, 101, 102, 103, 104, 829, 830, 831, 832, 833, 834, 835, 836, 837, 838, 866, 867, 868, 869, 870, 871, 872, 873, 874, 875, 876, 877, 878, 879, 880, 881, 882, 883, 884, 885, 886, 887, 888, 889, 890, 891, 892, 893, 894, 895, 896, 897, 898, 899, 900, 901, 902, 903, 904] (by decide +kernel) (by decide +kernel)
set_option maxRecDepth 20000 in
theorem gL_law_X7_init : GoodIn wsL_law (wsX7_init) := ggL_law_X7_init
set_option maxRecDepth 20000 in
theorem ggL_law_X8_init : GoodIn wsL_law wsX8_init := goodIn_r _ [107, 108, 10, 11, 40, 109, 110, 111, 112, 113, 114, 115, 116, 117, 118, 119, 120, 121, 122, 123, 124, 125, 126, 127, 128, 129, 71, 130, 131, 839, 840, 841, 842, 843, 844, 845, 846, 847, 848, 849, 850, 851, 852, 853, 854, 855, 856, 857, 858, 859, 860, 861, 862, 863, 864, 865] (by decide +kernel) (by decide +kernel)
set_option maxRecDepth 20000 in
theorem gL_law_X8_init : GoodIn wsL_law (wsX8_init) := ggL_law_X8_init
set_option maxRecDepth 20000 in
theorem ggL_law_X7_piece : GoodIn wsL_law wsX7_piece := goodIn_r _ [135, 13, 136, 137, 2, 138, 139, 140, 141, 142, 143, 144, 145, 146, 147, 148, 149, 150, 151, 43, 152, 153, 154, 155, 15, 156, 50, 47, 157, 158, 159, 160, 161, 162, 163, 164, 48, 49, 165, 829, 830, 831, 832, 833, 834, 835, 836, 837, 838, 866, 867, 868, 869] (by decide +kernel) (by decide +kernel)
set_option maxRecDepth 20000 in
theorem gL_law_X7_piece : GoodIn wsL_law (wsV RL 13 RX7 yX7_piece wsX7_piece) := goodIn_app (goodIn_of _ (by decide +kernel)) ggL_law_X7_piece
set_option maxRecDepth 20000 in
theorem ggL_law_X8_piece : GoodIn wsL_law wsX8_piece := goodIn_r _ [169, 170, 171, 172, 109, 110, 111, 112, 173, 174, 5, 175, 176, 177, 178, 179, 180, 181, 182, 129, 183, 839, 840, 841, 842, 843, 844, 845, 846, 847, 848, 849, 850, 851, 852, 853, 854, 855, 856, 857, 858, 859, 860, 861, 862, 863, 864, 865] (by decide +kernel) (by decide +kernel)
set_option maxRecDepth 20000 in
theorem gL_law_X8_piece : GoodIn wsL_law (wsV RL 17 RX8 yX8_piece wsX8_piece) := goodIn_app (goodIn_of _ (by decide +kernel)) ggL_law_X8_piece
set_option maxRecDepth 20000 in
theorem ggL_law_X7_reset : GoodIn wsL_law wsX7_reset := goodIn_r _ [187, 13, 136, 137, 2, 138, 148, 149, 150, 151, 43, 152, 188, 189, 190, 15, 191, 50, 829, 830, 831, 832, 833, 834, 835, 836, 837, 838, 866, 867, 868, 869] (by decide +kernel) (by decide +kernel)
set_option maxRecDepth 20000 in
theorem gL_law_X7_reset : GoodIn wsL_law (wsV RL 18 RX7 yX7_reset wsX7_reset) := goodIn_app (goodIn_of _ (by decide +kernel)) ggL_law_X7_reset
set_option maxRecDepth 20000 in
theorem ggL_law_X8_reset : GoodIn wsL_law wsX8_reset := goodIn_r _ [195, 109, 173, 174, 5, 175, 176, 177, 178, 179, 180, 181, 182, 129, 183, 839, 840, 841, 842, 843, 844, 845, 846, 847, 848, 849, 850, 851, 852, 853, 854, 855, 856, 857, 858, 859, 860, 861, 862, 863, 864, 865] (by decide +kernel) (by decide +kernel)
set_option maxRecDepth 20000 in
theorem gL_law_X8_reset : GoodIn wsL_law (wsV RL 22 RX8 yX8_reset wsX8_reset) := goodIn_app (goodIn_of _ (by decide +kernel)) ggL_law_X8_reset
set_option maxRecDepth 20000 in
theorem ggL_law_X7_offset : GoodIn wsL_law wsX7_offset := goodIn_r _ [199, 13, 136, 137, 2, 138, 139, 140, 141, 142, 148, 149, 150, 151, 43, 152, 200, 201, 202, 15, 203, 50, 47, 204, 205, 206, 207, 49, 48, 829, 830, 831, 832, 833, 834, 835, 836, 837, 838, 866, 867, 868, 869] (by decide +kernel) (by decide +kernel)
set_option maxRecDepth 20000 in
theorem gL_law_X7_offset : GoodIn wsL_law (wsV RL 23 RX7 yX7_offset wsX7_offset) := goodIn_app (goodIn_of _ (by decide +kernel)) ggL_law_X7_offset
set_option maxRecDepth 20000 in
theorem ggL_law_X8_offset : GoodIn wsL_law wsX8_offset := goodIn_r _ [211, 170, 112, 111, 173, 174, 5, 175, 176, 177, 178, 179, 180, 181, 182, 129, 183, 212, 213, 214, 215, 109, 110, 839, 840, 841, 842, 843, 844, 845, 846, 847, 848, 849, 850, 851, 852, 853, 854, 855, 856, 857, 858, 859, 860, 861, 862, 863, 864, 865] (by decide +kernel) (by decide +kernel)
set_option maxRecDepth 20000 in
theorem gL_law_X8_offset : GoodIn wsL_law (wsV RL 27 RX8 yX8_offset wsX8_offset) := goodIn_app (goodIn_of _ (by decide +kernel)) ggL_law_X8_offset
set_option maxRecDepth 20000 in
theorem ggL_law_X7_trace : GoodIn wsL_law wsX7_trace := goodIn_r _ [219, 19, 39, 136, 137, 2, 138, 139, 140, 141, 142, 148, 149, 150, 151, 43, 152, 220, 221, 222, 18, 223, 58, 224, 225, 226, 38, 227, 104, 228, 229, 230, 231, 54, 55, 56, 57, 232, 233, 234, 235, 236, 59, 60, 829, 830, 831, 832, 833, 834, 835, 836, 837, 838, 870, 871, 872, 873, 874, 875, 876, 896, 897, 898, 899, 900, 901, 902, 903, 904] (by decide +kernel) (by decide +kernel)
set_option maxRecDepth 20000 in
theorem gL_law_X7_trace : GoodIn wsL_law (wsV RL 28 RX7 yX7_trace wsX7_trace) := goodIn_app (goodIn_of _ (by decide +kernel)) ggL_law_X7_trace
set_option maxRecDepth 20000 in
theorem ggL_law_X8_trace : GoodIn wsL_law wsX8_trace := goodIn_r _ [240, 170, 241, 113, 114, 115, 116, 176, 177, 5, 178, 173, 174, 175, 179, 180, 181, 182, 129, 183, 839, 840, 841, 842, 843, 844, 845, 846, 847, 848, 849, 850, 851, 852, 853, 854, 855, 856, 857, 858, 859, 860, 861, 862, 863, 864, 865] (by decide +kernel) (by decide +kernel)
set_option maxRecDepth 20000 in
theorem gL_law_X8_trace : GoodIn wsL_law (wsV RL 31 RX8 yX8_trace wsX8_trace) := goodIn_app (goodIn_of _ (by decide +kernel)) ggL_law_X8_trace
set_option maxRecDepth 20000 in
theorem ggL_law_X7_drop : GoodIn wsL_law wsX7_drop := goodIn_r _ [245, 19, 39, 23, 246, 247, 248, 18, 249, 58, 148, 149, 150, 2, 151, 43, 152, 136, 137, 138, 224, 225, 226, 38, 227, 104, 250, 251, 252, 253, 233, 234, 235, 236, 59, 60, 57, 54, 254, 255, 256, 22, 257, 67, 64, 65, 258, 259, 260, 261, 66, 829, 830, 831, 832, 833, 834, 835, 836, 837, 838, 870, 871, 872, 873, 874, 875, 876, 896, 897, 898, 899, 900, 901, 902, 903, 904, 877, 878, 879, 880] (by decide +kernel) (by decide +kernel)
set_option maxRecDepth 20000 in
theorem gL_law_X7_drop : GoodIn wsL_law (wsV RL 32 RX7 yX7_drop wsX7_drop) := goodIn_app (goodIn_of _ (by decide +kernel)) ggL_law_X7_drop
set_option maxRecDepth 20000 in
theorem ggL_law_X8_drop : GoodIn wsL_law wsX8_drop := goodIn_r _ [265, 241, 266, 117, 118, 179, 180, 181, 5, 182, 129, 183, 267, 268, 269, 270, 119, 839, 840, 841, 842, 843, 844, 845, 846, 847, 848, 849, 850, 851, 852, 853, 854, 855, 856, 857, 858, 859, 860, 861, 862, 863, 864, 865] (by decide +kernel) (by decide +kernel)
set_option maxRecDepth 20000 in
theorem gL_law_X8_drop : GoodIn wsL_law (wsV RL 36 RX8 yX8_drop wsX8_drop) := goodIn_app (goodIn_of _ (by decide +kernel)) ggL_law_X8_drop
set_option maxRecDepth 20000 in
theorem ggL_law_X7_about : GoodIn wsL_law wsX7_about := goodIn_r _ [274, 19, 275, 276, 277, 18, 278, 58, 137, 2, 138, 148, 149, 150, 151, 43, 152, 136, 279, 280, 281, 282, 54, 283, 284, 285, 286, 287, 55, 288, 289, 290, 291, 56, 292, 293, 294, 295, 57, 829, 830, 831, 832, 833, 834, 835, 836, 837, 838, 870, 871, 872, 873, 874, 875, 876] (by decide +kernel) (by decide +kernel)
set_option maxRecDepth 20000 in
theorem gL_law_X7_about : GoodIn wsL_law (wsV RL 37 RX7 yX7_about wsX7_about) := goodIn_app (goodIn_of _ (by decide +kernel)) ggL_law_X7_about
set_option maxRecDepth 20000 in
theorem ggL_law_X8_about : GoodIn wsL_law wsX8_about := goodIn_r _ [299, 113, 114, 115, 116, 300, 301, 302, 5, 303, 241, 176, 177, 178, 179, 180, 181, 182, 129, 183, 839, 840, 841, 842, 843, 844, 845, 846, 847, 848, 849, 850, 851, 852, 853, 854, 855, 856, 857, 858, 859, 860, 861, 862, 863, 864, 865] (by decide +kernel) (by decide +kernel)
set_option maxRecDepth 20000 in
theorem gL_law_X8_about : GoodIn wsL_law (wsV RL 41 RX8 yX8_about wsX8_about) := goodIn_app (goodIn_of _ (by decide +kernel)) ggL_law_X8_about
set_option maxRecDepth 20000 in
theorem ggL_law_X7_as : GoodIn wsL_law wsX7_as := goodIn_r _ [307, 19, 275, 276, 277, 18, 278, 58, 137, 2, 138, 136, 148, 149, 150, 151, 43, 152, 279, 280, 281, 282, 54, 283, 292, 293, 294, 295, 57, 829, 830, 831, 832, 833, 834, 835, 836, 837, 838, 870, 871, 872, 873, 874, 875, 876] (by decide +kernel) (by decide +kernel)
set_option maxRecDepth 20000 in
theorem gL_law_X7_as : GoodIn wsL_law (wsV RL 42 RX7 yX7_as wsX7_as) := goodIn_app (goodIn_of _ (by decide +kernel)) ggL_law_X7_as
