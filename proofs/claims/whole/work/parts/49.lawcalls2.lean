set_option maxRecDepth 20000 in
theorem ggL_law_X7_deed : GoodIn wsL_law wsX7_deed := goodIn_r _ [547, 39, 35, 136, 137, 2, 138, 548, 549, 550, 551, 552, 553, 554, 148, 149, 150, 151, 43, 152, 224, 225, 226, 38, 227, 104, 555, 556, 557, 34, 558, 84, 85, 86, 87, 88, 829, 830, 831, 832, 833, 834, 835, 836, 837, 838, 896, 897, 898, 899, 900, 901, 902, 903, 904, 887, 888, 889, 890, 891, 892, 893, 894, 895] (by decide +kernel) (by decide +kernel)
set_option maxRecDepth 20000 in
theorem gL_law_X7_deed : GoodIn wsL_law (wsV RL 76 RX7 yX7_deed wsX7_deed) := goodIn_app (goodIn_of _ (by decide +kernel)) ggL_law_X7_deed
set_option maxRecDepth 20000 in
theorem ggL_law_X8_deed : GoodIn wsL_law wsX8_deed := goodIn_r _ [562, 121, 122, 123, 124, 125, 176, 177, 5, 178, 563, 564, 565, 566, 179, 180, 181, 182, 129, 183, 839, 840, 841, 842, 843, 844, 845, 846, 847, 848, 849, 850, 851, 852, 853, 854, 855, 856, 857, 858, 859, 860, 861, 862, 863, 864, 865] (by decide +kernel) (by decide +kernel)
set_option maxRecDepth 20000 in
theorem gL_law_X8_deed : GoodIn wsL_law (wsV RL 80 RX8 yX8_deed wsX8_deed) := goodIn_app (goodIn_of _ (by decide +kernel)) ggL_law_X8_deed
set_option maxRecDepth 20000 in
theorem ggL_law_X7_forget : GoodIn wsL_law wsX7_forget := goodIn_r _ [570, 35, 39, 136, 137, 2, 138, 148, 149, 150, 151, 43, 152, 571, 572, 573, 34, 574, 88, 224, 225, 226, 38, 227, 104, 575, 576, 577, 578, 829, 830, 831, 832, 833, 834, 835, 836, 837, 838, 887, 888, 889, 890, 891, 892, 893, 894, 895, 896, 897, 898, 899, 900, 901, 902, 903, 904] (by decide +kernel) (by decide +kernel)
set_option maxRecDepth 20000 in
theorem gL_law_X7_forget : GoodIn wsL_law (wsV RL 81 RX7 yX7_forget wsX7_forget) := goodIn_app (goodIn_of _ (by decide +kernel)) ggL_law_X7_forget
set_option maxRecDepth 20000 in
theorem ggL_law_X8_forget : GoodIn wsL_law wsX8_forget := goodIn_r _ [582, 121, 176, 177, 5, 178, 179, 180, 181, 182, 129, 183, 839, 840, 841, 842, 843, 844, 845, 846, 847, 848, 849, 850, 851, 852, 853, 854, 855, 856, 857, 858, 859, 860, 861, 862, 863, 864, 865] (by decide +kernel) (by decide +kernel)
set_option maxRecDepth 20000 in
theorem gL_law_X8_forget : GoodIn wsL_law (wsV RL 84 RX8 yX8_forget wsX8_forget) := goodIn_app (goodIn_of _ (by decide +kernel)) ggL_law_X8_forget
set_option maxRecDepth 20000 in
theorem ggL_law_X7_prices : GoodIn wsL_law wsX7_prices := goodIn_r _ [586, 39, 548, 549, 2, 550, 136, 137, 138, 148, 149, 150, 151, 43, 152, 224, 225, 226, 38, 227, 104, 587, 588, 589, 590, 102, 103, 829, 830, 831, 832, 833, 834, 835, 836, 837, 838, 896, 897, 898, 899, 900, 901, 902, 903, 904] (by decide +kernel) (by decide +kernel)
set_option maxRecDepth 20000 in
theorem gL_law_X7_prices : GoodIn wsL_law (wsV RL 85 RX7 yX7_prices wsX7_prices) := goodIn_app (goodIn_of _ (by decide +kernel)) ggL_law_X7_prices
set_option maxRecDepth 20000 in
theorem ggL_law_X8_prices : GoodIn wsL_law wsX8_prices := goodIn_r _ [594, 126, 127, 176, 177, 5, 178, 179, 180, 181, 182, 129, 183, 839, 840, 841, 842, 843, 844, 845, 846, 847, 848, 849, 850, 851, 852, 853, 854, 855, 856, 857, 858, 859, 860, 861, 862, 863, 864, 865] (by decide +kernel) (by decide +kernel)
set_option maxRecDepth 20000 in
theorem gL_law_X8_prices : GoodIn wsL_law (wsV RL 88 RX8 yX8_prices wsX8_prices) := goodIn_app (goodIn_of _ (by decide +kernel)) ggL_law_X8_prices
set_option maxRecDepth 20000 in
theorem ggL_law_X7_cost : GoodIn wsL_law wsX7_cost := goodIn_r _ [598, 35, 39, 19, 599, 600, 601, 34, 602, 88, 148, 149, 150, 2, 151, 43, 152, 136, 137, 138, 603, 604, 605, 606, 89, 90, 91, 92, 84, 85, 86, 87, 607, 608, 609, 38, 610, 611, 612, 613, 614, 615, 616, 617, 18, 618, 59, 619, 620, 621, 622, 623, 624, 625, 626, 60, 627, 628, 629, 630, 631, 632, 633, 634, 102, 103, 635, 636, 637, 638, 639, 640, 641, 642, 643, 519, 520, 521, 522, 523, 524, 644, 645, 646, 647, 58, 57, 829, 830, 831, 832, 833, 834, 835, 836, 837, 838, 887, 888, 889, 890, 891, 892, 893, 894, 895, 870, 871, 872, 873, 874, 875, 876, 896, 897, 898, 899, 900, 901, 902, 903, 904] (by decide +kernel) (by decide +kernel)
set_option maxRecDepth 20000 in
theorem gL_law_X7_cost : GoodIn wsL_law (wsV RL 89 RX7 yX7_cost wsX7_cost) := goodIn_app (goodIn_of _ (by decide +kernel)) ggL_law_X7_cost
set_option maxRecDepth 20000 in
theorem ggL_law_X8_cost : GoodIn wsL_law wsX8_cost := goodIn_r _ [651, 652, 653, 654, 5, 655, 121, 179, 180, 181, 182, 129, 183, 656, 657, 658, 659, 123, 125, 126, 124, 122, 241, 116, 127, 660, 661, 662, 663, 664, 665, 666, 113, 667, 668, 669, 670, 533, 534, 535, 839, 840, 841, 842, 843, 844, 845, 846, 847, 848, 849, 850, 851, 852, 853, 854, 855, 856, 857, 858, 859, 860, 861, 862, 863, 864, 865] (by decide +kernel) (by decide +kernel)
set_option maxRecDepth 20000 in
theorem gL_law_X8_cost : GoodIn wsL_law (wsV RL 92 RX8 yX8_cost wsX8_cost) := goodIn_app (goodIn_of _ (by decide +kernel)) ggL_law_X8_cost
set_option maxRecDepth 20000 in
theorem ggL_law_X7_least : GoodIn wsL_law wsX7_least := goodIn_r _ [674, 39, 35, 19, 675, 676, 677, 38, 678, 104, 679, 680, 681, 682, 98, 683, 600, 601, 34, 602, 88, 684, 604, 605, 606, 89, 90, 91, 92, 84, 85, 86, 87, 685, 608, 609, 610, 611, 612, 613, 614, 615, 616, 617, 18, 618, 59, 619, 620, 621, 622, 623, 624, 625, 626, 60, 627, 628, 629, 630, 686, 632, 633, 634, 102, 103, 635, 636, 637, 638, 639, 640, 641, 642, 643, 519, 520, 521, 522, 523, 524, 644, 645, 646, 647, 58, 57, 687, 688, 689, 690, 99, 96, 691, 692, 693, 694, 100, 101, 97, 695, 696, 401, 697, 698, 699, 700, 701, 148, 149, 150, 2, 151, 43, 152, 136, 137, 138, 702, 703, 704, 705, 829, 830, 831, 832, 833, 834, 835, 836, 837, 838, 896, 897, 898, 899, 900, 901, 902, 903, 904, 887, 888, 889, 890, 891, 892, 893, 894, 895, 870, 871, 872, 873, 874, 875, 876] (by decide +kernel) (by decide +kernel)
set_option maxRecDepth 20000 in
theorem gL_law_X7_least : GoodIn wsL_law (wsV RL 93 RX7 yX7_least wsX7_least) := goodIn_app (goodIn_of _ (by decide +kernel)) ggL_law_X7_least
set_option maxRecDepth 20000 in
theorem ggL_law_X8_least : GoodIn wsL_law wsX8_least := goodIn_r _ [709, 710, 711, 712, 713, 714, 5, 715, 131, 652, 653, 654, 655, 121, 656, 657, 658, 659, 123, 125, 126, 124, 122, 241, 116, 127, 660, 661, 662, 663, 664, 665, 666, 113, 667, 668, 669, 670, 533, 534, 535, 179, 180, 181, 182, 129, 183, 839, 840, 841, 842, 843, 844, 845, 846, 847, 848, 849, 850, 851, 852, 853, 854, 855, 856, 857, 858, 859, 860, 861, 862, 863, 864, 865] (by decide +kernel) (by decide +kernel)
set_option maxRecDepth 20000 in
theorem gL_law_X8_least : GoodIn wsL_law (wsV RL 96 RX8 yX8_least wsX8_least) := goodIn_app (goodIn_of _ (by decide +kernel)) ggL_law_X8_least
set_option maxRecDepth 20000 in
theorem ggL_law_X7_many : GoodIn wsL_law wsX7_many := goodIn_r _ [719, 39, 35, 19, 675, 676, 677, 38, 678, 104, 679, 680, 681, 682, 98, 683, 600, 601, 34, 602, 88, 684, 604, 605, 606, 89, 90, 91, 92, 84, 85, 86, 87, 685, 608, 609, 610, 611, 612, 613, 614, 615, 616, 617, 18, 618, 59, 619, 620, 621, 622, 623, 624, 625, 626, 60, 627, 628, 629, 630, 686, 632, 633, 634, 102, 103, 635, 636, 637, 638, 639, 640, 641, 642, 643, 519, 520, 521, 522, 523, 524, 644, 645, 646, 647, 58, 57, 687, 688, 689, 690, 99, 96, 691, 692, 693, 694, 100, 101, 97, 695, 696, 401, 697, 698, 699, 700, 701, 829, 830, 831, 832, 833, 834, 835, 836, 837, 838, 896, 897, 898, 899, 900, 901, 902, 903, 904, 887, 888, 889, 890, 891, 892, 893, 894, 895, 870, 871, 872, 873, 874, 875, 876] (by decide +kernel) (by decide +kernel)
set_option maxRecDepth 20000 in
theorem gL_law_X7_many : GoodIn wsL_law (wsV RL 97 RX7 yX7_many wsX7_many) := goodIn_app (goodIn_of _ (by decide +kernel)) ggL_law_X7_many
set_option maxRecDepth 20000 in
theorem ggL_law_X8_many : GoodIn wsL_law wsX8_many := goodIn_r _ [723, 710, 712, 713, 714, 5, 715, 711, 131, 652, 653, 654, 655, 121, 656, 657, 658, 659, 123, 125, 126, 124, 122, 241, 116, 127, 660, 661, 662, 663, 664, 665, 666, 113, 667, 668, 669, 670, 533, 534, 535, 839, 840, 841, 842, 843, 844, 845, 846, 847, 848, 849, 850, 851, 852, 853, 854, 855, 856, 857, 858, 859, 860, 861, 862, 863, 864, 865] (by decide +kernel) (by decide +kernel)
set_option maxRecDepth 20000 in
theorem gL_law_X8_many : GoodIn wsL_law (wsV RL 100 RX8 yX8_many wsX8_many) := goodIn_app (goodIn_of _ (by decide +kernel)) ggL_law_X8_many
set_option maxRecDepth 20000 in
theorem ggL_law_X7_story : GoodIn wsL_law wsX7_story := goodIn_r _ [727, 39, 35, 19, 148, 149, 150, 2, 151, 43, 152, 136, 137, 138, 675, 676, 677, 38, 678, 104, 679, 680, 681, 682, 98, 683, 600, 601, 34, 602, 88, 684, 604, 605, 606, 89, 90, 91, 92, 84, 85, 86, 87, 685, 608, 609, 610, 611, 612, 613, 614, 615, 616, 617, 18, 618, 59, 619, 620, 621, 622, 623, 624, 625, 626, 60, 627, 628, 629, 630, 686, 632, 633, 634, 102, 103, 635, 636, 637, 638, 639, 640, 641, 642, 643, 519, 520, 521, 522, 523, 524, 644, 645, 646, 647, 58, 57, 687, 688, 689, 690, 99, 96, 691, 692, 693, 694, 100, 101, 97, 695, 696, 401, 697, 698, 699, 700, 701, 728, 729, 730, 731, 829, 830, 831, 832, 833, 834, 835, 836, 837, 838, 896, 897, 898, 899, 900, 901, 902, 903, 904, 887, 888, 889, 890, 891, 892, 893, 894, 895, 870, 871, 872, 873, 874, 875, 876] (by decide +kernel) (by decide +kernel)
set_option maxRecDepth 20000 in
theorem gL_law_X7_story : GoodIn wsL_law (wsV RL 101 RX7 yX7_story wsX7_story) := goodIn_app (goodIn_of _ (by decide +kernel)) ggL_law_X7_story
set_option maxRecDepth 20000 in
theorem ggL_law_X8_story : GoodIn wsL_law wsX8_story := goodIn_r _ [735, 710, 131, 179, 180, 181, 5, 182, 129, 183, 712, 713, 714, 715, 711, 652, 653, 654, 655, 121, 656, 657, 658, 659, 123, 125, 126, 124, 122, 241, 116, 127, 660, 661, 662, 663, 664, 665, 666, 113, 667, 668, 669, 670, 533, 534, 535, 839, 840, 841, 842, 843, 844, 845, 846, 847, 848, 849, 850, 851, 852, 853, 854, 855, 856, 857, 858, 859, 860, 861, 862, 863, 864, 865] (by decide +kernel) (by decide +kernel)
set_option maxRecDepth 20000 in
theorem gL_law_X8_story : GoodIn wsL_law (wsV RL 104 RX8 yX8_story wsX8_story) := goodIn_app (goodIn_of _ (by decide +kernel)) ggL_law_X8_story
set_option maxRecDepth 20000 in
theorem ggL_law_X7_sure : GoodIn wsL_law wsX7_sure := goodIn_r _ [739, 35, 39, 19, 740, 136, 137, 2, 138, 571, 572, 573, 34, 574, 88, 148, 149, 150, 151, 43, 152, 675, 676, 677, 38, 678, 104, 679, 680, 681, 682, 98, 683, 600, 601, 602, 684, 604, 605, 606, 89, 90, 91, 92, 84, 85, 86, 87, 685, 608, 609, 610, 611, 612, 613, 614, 615, 616, 617, 18, 618, 59, 619, 620, 621, 622, 623, 624, 625, 626, 60, 627, 628, 629, 630, 686, 632, 633, 634, 102, 103, 635, 636, 637, 638, 639, 640, 641, 642, 643, 519, 520, 521, 522, 523, 524, 644, 645, 646, 647, 58, 57, 687, 688, 689, 690, 99, 96, 691, 692, 693, 694, 100, 101, 97, 695, 696, 401, 697, 698, 699, 700, 701, 741, 742, 743, 744, 745, 746, 747, 748, 829, 830, 831, 832, 833, 834, 835, 836, 837, 838, 887, 888, 889, 890, 891, 892, 893, 894, 895, 896, 897, 898, 899, 900, 901, 902, 903, 904, 870, 871, 872, 873, 874, 875, 876] (by decide +kernel) (by decide +kernel)
set_option maxRecDepth 20000 in
theorem gL_law_X7_sure : GoodIn wsL_law (wsV RL 105 RX7 yX7_sure wsX7_sure) := goodIn_app (goodIn_of _ (by decide +kernel)) ggL_law_X7_sure
