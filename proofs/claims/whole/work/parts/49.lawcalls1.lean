set_option maxRecDepth 20000 in
theorem ggL_law_X8_as : GoodIn wsL_law wsX8_as := goodIn_r _ [311, 113, 116, 300, 301, 302, 5, 303, 241, 176, 177, 178, 179, 180, 181, 182, 129, 183, 839, 840, 841, 842, 843, 844, 845, 846, 847, 848, 849, 850, 851, 852, 853, 854, 855, 856, 857, 858, 859, 860, 861, 862, 863, 864, 865] (by decide +kernel) (by decide +kernel)
set_option maxRecDepth 20000 in
theorem gL_law_X8_as : GoodIn wsL_law (wsV RL 45 RX8 yX8_as wsX8_as) := goodIn_app (goodIn_of _ (by decide +kernel)) ggL_law_X8_as
set_option maxRecDepth 20000 in
theorem ggL_law_X7_span : GoodIn wsL_law wsX7_span := goodIn_r _ [315, 19, 275, 276, 277, 18, 278, 58, 137, 2, 138, 148, 149, 150, 151, 43, 152, 136, 316, 317, 318, 319, 13, 320, 321, 284, 285, 286, 287, 55, 283, 288, 289, 290, 291, 56, 200, 201, 202, 15, 203, 50, 47, 279, 280, 281, 282, 54, 204, 205, 206, 207, 49, 48, 322, 323, 324, 325, 326, 327, 328, 829, 830, 831, 832, 833, 834, 835, 836, 837, 838, 870, 871, 872, 873, 874, 875, 876, 866, 867, 868, 869] (by decide +kernel) (by decide +kernel)
set_option maxRecDepth 20000 in
theorem gL_law_X7_span : GoodIn wsL_law (wsV RL 46 RX7 yX7_span wsX7_span) := goodIn_app (goodIn_of _ (by decide +kernel)) ggL_law_X7_span
set_option maxRecDepth 20000 in
theorem ggL_law_X8_span : GoodIn wsL_law wsX8_span := goodIn_r _ [332, 333, 300, 301, 302, 5, 303, 241, 179, 180, 181, 182, 129, 183, 334, 335, 336, 337, 114, 115, 113, 112, 111, 212, 213, 214, 215, 109, 110, 839, 840, 841, 842, 843, 844, 845, 846, 847, 848, 849, 850, 851, 852, 853, 854, 855, 856, 857, 858, 859, 860, 861, 862, 863, 864, 865] (by decide +kernel) (by decide +kernel)
set_option maxRecDepth 20000 in
theorem gL_law_X8_span : GoodIn wsL_law (wsV RL 50 RX8 yX8_span wsX8_span) := goodIn_app (goodIn_of _ (by decide +kernel)) ggL_law_X8_span
set_option maxRecDepth 20000 in
theorem ggL_law_X7_tie : GoodIn wsL_law wsX7_tie := goodIn_r _ [341, 23, 342, 343, 344, 2, 345, 19, 275, 276, 277, 18, 278, 58, 137, 138, 143, 144, 145, 146, 147, 136, 148, 149, 150, 151, 43, 152, 346, 347, 348, 22, 349, 67, 350, 351, 352, 353, 64, 65, 66, 354, 829, 830, 831, 832, 833, 834, 835, 836, 837, 838, 870, 871, 872, 873, 874, 875, 876, 877, 878, 879, 880] (by decide +kernel) (by decide +kernel)
set_option maxRecDepth 20000 in
theorem gL_law_X7_tie : GoodIn wsL_law (wsV RL 51 RX7 yX7_tie wsX7_tie) := goodIn_app (goodIn_of _ (by decide +kernel)) ggL_law_X7_tie
set_option maxRecDepth 20000 in
theorem ggL_law_X8_tie : GoodIn wsL_law wsX8_tie := goodIn_r _ [358, 171, 172, 266, 117, 118, 119, 300, 301, 302, 5, 303, 241, 176, 177, 178, 179, 180, 181, 182, 129, 183, 839, 840, 841, 842, 843, 844, 845, 846, 847, 848, 849, 850, 851, 852, 853, 854, 855, 856, 857, 858, 859, 860, 861, 862, 863, 864, 865] (by decide +kernel) (by decide +kernel)
set_option maxRecDepth 20000 in
theorem gL_law_X8_tie : GoodIn wsL_law (wsV RL 55 RX8 yX8_tie wsX8_tie) := goodIn_app (goodIn_of _ (by decide +kernel)) ggL_law_X8_tie
set_option maxRecDepth 20000 in
theorem ggL_law_X7_untie : GoodIn wsL_law wsX7_untie := goodIn_r _ [362, 23, 363, 364, 365, 22, 366, 67, 136, 137, 2, 138, 148, 149, 150, 151, 43, 152, 367, 368, 369, 370, 258, 259, 260, 261, 64, 65, 66, 829, 830, 831, 832, 833, 834, 835, 836, 837, 838, 877, 878, 879, 880] (by decide +kernel) (by decide +kernel)
set_option maxRecDepth 20000 in
theorem gL_law_X7_untie : GoodIn wsL_law (wsV RL 56 RX7 yX7_untie wsX7_untie) := goodIn_app (goodIn_of _ (by decide +kernel)) ggL_law_X7_untie
set_option maxRecDepth 20000 in
theorem ggL_law_X8_untie : GoodIn wsL_law wsX8_untie := goodIn_r _ [374, 266, 179, 180, 181, 5, 182, 129, 183, 267, 268, 269, 270, 117, 118, 119, 839, 840, 841, 842, 843, 844, 845, 846, 847, 848, 849, 850, 851, 852, 853, 854, 855, 856, 857, 858, 859, 860, 861, 862, 863, 864, 865] (by decide +kernel) (by decide +kernel)
set_option maxRecDepth 20000 in
theorem gL_law_X8_untie : GoodIn wsL_law (wsV RL 59 RX8 yX8_untie wsX8_untie) := goodIn_app (goodIn_of _ (by decide +kernel)) ggL_law_X8_untie
set_option maxRecDepth 20000 in
theorem ggL_law_X7_time : GoodIn wsL_law wsX7_time := goodIn_r _ [378, 19, 275, 276, 277, 18, 278, 58, 137, 2, 138, 148, 149, 150, 151, 43, 152, 136, 379, 380, 381, 382, 27, 383, 384, 385, 386, 23, 246, 247, 248, 249, 387, 388, 389, 26, 390, 391, 392, 393, 394, 395, 396, 397, 73, 72, 398, 399, 400, 401, 402, 316, 317, 318, 319, 13, 320, 321, 284, 285, 286, 287, 55, 283, 288, 289, 290, 291, 56, 200, 201, 202, 15, 203, 50, 47, 279, 280, 281, 282, 54, 204, 205, 206, 207, 49, 48, 403, 404, 405, 406, 407, 408, 409, 410, 363, 364, 365, 22, 366, 67, 411, 412, 413, 414, 64, 415, 416, 417, 418, 65, 419, 420, 421, 422, 66, 423, 424, 425, 426, 427, 428, 429, 430, 431, 432, 433, 434, 435, 436, 437, 438, 439, 440, 441, 442, 322, 323, 324, 325, 326, 327, 328, 829, 830, 831, 832, 833, 834, 835, 836, 837, 838, 870, 871, 872, 873, 874, 875, 876, 881, 882, 866, 867, 868, 869, 877, 878, 879, 880] (by decide +kernel) (by decide +kernel)
set_option maxRecDepth 20000 in
theorem gL_law_X7_time : GoodIn wsL_law (wsV RL 60 RX7 yX7_time wsX7_time) := goodIn_app (goodIn_of _ (by decide +kernel)) ggL_law_X7_time
set_option maxRecDepth 20000 in
theorem ggL_law_X8_time : GoodIn wsL_law wsX8_time := goodIn_r _ [446, 333, 300, 301, 302, 5, 303, 241, 179, 180, 181, 182, 129, 183, 447, 448, 449, 450, 451, 452, 453, 454, 130, 266, 117, 118, 119, 334, 335, 336, 337, 114, 115, 113, 112, 111, 212, 213, 214, 215, 109, 110, 455, 456, 457, 458, 459, 460, 461, 462, 839, 840, 841, 842, 843, 844, 845, 846, 847, 848, 849, 850, 851, 852, 853, 854, 855, 856, 857, 858, 859, 860, 861, 862, 863, 864, 865] (by decide +kernel) (by decide +kernel)
set_option maxRecDepth 20000 in
theorem gL_law_X8_time : GoodIn wsL_law (wsV RL 63 RX8 yX8_time wsX8_time) := goodIn_app (goodIn_of _ (by decide +kernel)) ggL_law_X8_time
set_option maxRecDepth 20000 in
theorem ggL_law_X7_apart : GoodIn wsL_law wsX7_apart := goodIn_r _ [466, 27, 342, 343, 344, 2, 345, 19, 275, 276, 277, 18, 278, 58, 137, 138, 148, 149, 150, 151, 43, 152, 136, 379, 380, 381, 382, 383, 384, 385, 386, 23, 246, 247, 248, 249, 387, 388, 389, 26, 390, 391, 392, 393, 394, 395, 396, 397, 73, 72, 398, 399, 400, 401, 402, 316, 317, 318, 319, 13, 320, 321, 284, 285, 286, 287, 55, 283, 288, 289, 290, 291, 56, 200, 201, 202, 15, 203, 50, 47, 279, 280, 281, 282, 54, 204, 205, 206, 207, 49, 48, 403, 404, 405, 406, 407, 408, 409, 410, 363, 364, 365, 22, 366, 67, 411, 412, 413, 414, 64, 415, 416, 417, 418, 65, 419, 420, 421, 422, 66, 423, 424, 425, 426, 427, 428, 429, 430, 431, 432, 433, 434, 439, 440, 441, 442, 322, 323, 324, 325, 326, 327, 328, 829, 830, 831, 832, 833, 834, 835, 836, 837, 838, 870, 871, 872, 873, 874, 875, 876, 881, 882, 866, 867, 868, 869, 877, 878, 879, 880] (by decide +kernel) (by decide +kernel)
set_option maxRecDepth 20000 in
theorem gL_law_X7_apart : GoodIn wsL_law (wsV RL 64 RX7 yX7_apart wsX7_apart) := goodIn_app (goodIn_of _ (by decide +kernel)) ggL_law_X7_apart
set_option maxRecDepth 20000 in
theorem ggL_law_X8_apart : GoodIn wsL_law wsX8_apart := goodIn_r _ [470, 130, 333, 300, 301, 302, 5, 303, 241, 179, 180, 181, 182, 129, 183, 447, 448, 449, 450, 451, 452, 453, 454, 266, 117, 118, 119, 334, 335, 336, 337, 114, 115, 113, 112, 111, 212, 213, 214, 215, 109, 110, 455, 456, 457, 458, 839, 840, 841, 842, 843, 844, 845, 846, 847, 848, 849, 850, 851, 852, 853, 854, 855, 856, 857, 858, 859, 860, 861, 862, 863, 864, 865] (by decide +kernel) (by decide +kernel)
set_option maxRecDepth 20000 in
theorem gL_law_X8_apart : GoodIn wsL_law (wsV RL 67 RX8 yX8_apart wsX8_apart) := goodIn_app (goodIn_of _ (by decide +kernel)) ggL_law_X8_apart
set_option maxRecDepth 20000 in
theorem ggL_law_X7_quarrel : GoodIn wsL_law wsX7_quarrel := goodIn_r _ [474, 31, 27, 383, 384, 385, 2, 386, 19, 23, 246, 247, 248, 18, 249, 58, 387, 388, 389, 26, 390, 391, 392, 393, 394, 395, 396, 397, 73, 72, 398, 399, 400, 401, 402, 316, 317, 318, 319, 13, 320, 321, 284, 285, 286, 287, 55, 283, 276, 277, 278, 137, 138, 288, 289, 290, 291, 56, 200, 201, 202, 15, 203, 50, 47, 279, 280, 281, 282, 54, 204, 205, 206, 207, 49, 48, 403, 404, 405, 406, 407, 408, 409, 410, 363, 364, 365, 22, 366, 67, 411, 412, 413, 414, 64, 415, 416, 417, 418, 65, 419, 420, 421, 422, 66, 475, 476, 477, 30, 478, 479, 80, 480, 481, 482, 483, 484, 485, 486, 487, 77, 488, 489, 490, 491, 492, 493, 440, 441, 442, 494, 495, 496, 497, 498, 499, 500, 501, 78, 502, 503, 504, 505, 79, 506, 507, 508, 509, 510, 511, 512, 513, 514, 515, 516, 517, 518, 519, 520, 521, 522, 523, 524, 525, 526, 527, 528, 148, 149, 150, 151, 43, 152, 136, 829, 830, 831, 832, 833, 834, 835, 836, 837, 838, 870, 871, 872, 873, 874, 875, 876, 881, 882, 866, 867, 868, 869, 877, 878, 879, 880, 883, 884, 885, 886] (by decide +kernel) (by decide +kernel)
set_option maxRecDepth 20000 in
theorem gL_law_X7_quarrel : GoodIn wsL_law (wsV RL 68 RX7 yX7_quarrel wsX7_quarrel) := goodIn_app (goodIn_of _ (by decide +kernel)) ggL_law_X7_quarrel
set_option maxRecDepth 20000 in
theorem ggL_law_X8_quarrel : GoodIn wsL_law wsX8_quarrel := goodIn_r _ [532, 447, 448, 449, 5, 450, 241, 451, 452, 453, 454, 130, 333, 266, 117, 118, 119, 334, 335, 336, 337, 114, 115, 113, 112, 111, 212, 213, 214, 215, 109, 110, 455, 456, 457, 458, 179, 180, 181, 182, 129, 183, 533, 534, 535, 839, 840, 841, 842, 843, 844, 845, 846, 847, 848, 849, 850, 851, 852, 853, 854, 855, 856, 857, 858, 859, 860, 861, 862, 863, 864, 865] (by decide +kernel) (by decide +kernel)
set_option maxRecDepth 20000 in
theorem gL_law_X8_quarrel : GoodIn wsL_law (wsV RL 71 RX8 yX8_quarrel wsX8_quarrel) := goodIn_app (goodIn_of _ (by decide +kernel)) ggL_law_X8_quarrel
set_option maxRecDepth 20000 in
theorem ggL_law_X7_without : GoodIn wsL_law wsX7_without := goodIn_r _ [539, 342, 343, 344, 2, 345, 19, 275, 276, 277, 18, 278, 58, 137, 138, 148, 149, 150, 151, 43, 152, 136, 379, 380, 381, 382, 27, 383, 384, 385, 386, 23, 246, 247, 248, 249, 387, 388, 389, 26, 390, 391, 392, 393, 394, 395, 396, 397, 73, 72, 398, 399, 400, 401, 402, 316, 317, 318, 319, 13, 320, 321, 284, 285, 286, 287, 55, 283, 288, 289, 290, 291, 56, 200, 201, 202, 15, 203, 50, 47, 279, 280, 281, 282, 54, 204, 205, 206, 207, 49, 48, 403, 404, 405, 406, 407, 408, 409, 410, 363, 364, 365, 22, 366, 67, 411, 412, 413, 414, 64, 415, 416, 417, 418, 65, 419, 420, 421, 422, 66, 423, 424, 425, 426, 427, 428, 429, 430, 431, 432, 433, 434, 435, 436, 437, 438, 439, 440, 441, 442, 322, 323, 324, 325, 326, 327, 328, 829, 830, 831, 832, 833, 834, 835, 836, 837, 838, 870, 871, 872, 873, 874, 875, 876, 881, 882, 866, 867, 868, 869, 877, 878, 879, 880] (by decide +kernel) (by decide +kernel)
set_option maxRecDepth 20000 in
theorem gL_law_X7_without : GoodIn wsL_law (wsV RL 72 RX7 yX7_without wsX7_without) := goodIn_app (goodIn_of _ (by decide +kernel)) ggL_law_X7_without
set_option maxRecDepth 20000 in
theorem ggL_law_X8_without : GoodIn wsL_law wsX8_without := goodIn_r _ [543, 333, 300, 301, 302, 5, 303, 241, 179, 180, 181, 182, 129, 183, 447, 448, 449, 450, 451, 452, 453, 454, 130, 266, 117, 118, 119, 334, 335, 336, 337, 114, 115, 113, 112, 111, 212, 213, 214, 215, 109, 110, 455, 456, 457, 458, 459, 460, 461, 462, 839, 840, 841, 842, 843, 844, 845, 846, 847, 848, 849, 850, 851, 852, 853, 854, 855, 856, 857, 858, 859, 860, 861, 862, 863, 864, 865] (by decide +kernel) (by decide +kernel)
set_option maxRecDepth 20000 in
theorem gL_law_X8_without : GoodIn wsL_law (wsV RL 75 RX8 yX8_without wsX8_without) := goodIn_app (goodIn_of _ (by decide +kernel)) ggL_law_X8_without
