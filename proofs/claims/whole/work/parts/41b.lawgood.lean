set_option maxRecDepth 20000 in
theorem ggL_law_X7_favours : GoodIn wsL_law wsX7_favours := goodIn_r _ [580, 99, 581, 582, 583, 5, 584, 170, 171, 172, 173, 131, 132, 133, 134, 135, 136, 137, 138, 139, 140, 141, 105, 534, 535, 536, 537, 107, 108, 538, 539, 540, 541, 542, 543, 544, 545, 296, 297, 298, 299, 546, 547, 548, 549, 550, 551, 552, 553, 554, 555, 556, 557, 887, 888, 889, 890, 891, 892, 893, 894, 895, 896, 897, 898, 899, 900, 901, 902] (by decide +kernel) (by decide +kernel)
set_option maxRecDepth 20000 in
theorem gL_law_X7_favours : GoodIn wsL_law (wsV RL 80 RX7 yX7_favours wsX7_favours) := goodIn_app (goodIn_of _ (by decide +kernel)) ggL_law_X7_favours
set_option maxRecDepth 20000 in
theorem ggL_law_X6_last : GoodIn wsL_law wsX6_last := goodIn_r _ [588, 16, 26, 589, 575, 151, 152, 15, 153, 154, 155, 156, 157, 59, 120, 121, 122, 2, 123, 124, 125, 126, 493, 494, 495, 25, 496, 78, 79, 497, 76, 77, 498, 64, 65, 66, 499, 500, 501, 502, 52, 51, 46, 53, 503, 285, 286, 287, 47, 48, 160, 161, 504, 505, 506, 507, 508, 509, 510, 511, 512, 513, 514, 515, 516, 517, 518, 519, 520, 521, 522, 523, 524, 525, 526, 527, 528, 529, 576, 876, 877, 878, 879, 880, 881, 882, 883, 884, 885, 886, 925, 926, 927, 928, 903, 904, 905, 906, 907, 908, 909, 910, 911, 912, 913, 914, 915, 916, 917] (by decide +kernel) (by decide +kernel)
set_option maxRecDepth 20000 in
theorem gL_law_X6_last : GoodIn wsL_law (wsV RL 81 RX6 yX6_last wsX6_last) := goodIn_app (goodIn_of _ (by decide +kernel)) ggL_law_X6_last
set_option maxRecDepth 20000 in
theorem ggL_law_X7_last : GoodIn wsL_law wsX7_last := goodIn_r _ [593, 99, 581, 582, 583, 5, 584, 170, 171, 172, 173, 131, 132, 133, 134, 135, 136, 137, 138, 139, 140, 141, 105, 534, 535, 536, 537, 107, 108, 538, 539, 540, 541, 542, 543, 544, 545, 296, 297, 298, 299, 546, 547, 548, 549, 550, 551, 552, 553, 554, 555, 556, 557, 887, 888, 889, 890, 891, 892, 893, 894, 895, 896, 897, 898, 899, 900, 901, 902] (by decide +kernel) (by decide +kernel)
set_option maxRecDepth 20000 in
theorem gL_law_X7_last : GoodIn wsL_law (wsV RL 84 RX7 yX7_last wsX7_last) := goodIn_app (goodIn_of _ (by decide +kernel)) ggL_law_X7_last
set_option maxRecDepth 20000 in
theorem ggL_law_X6_ropes : GoodIn wsL_law wsX6_ropes := goodIn_r _ [597, 16, 30, 598, 599, 282, 155, 156, 15, 157, 59, 600, 601, 602, 2, 603, 124, 604, 605, 606, 29, 607, 608, 609, 610, 85, 611, 612, 613, 614, 503, 285, 286, 287, 47, 48, 520, 521, 160, 161, 615, 616, 617, 618, 619, 620, 621, 622, 623, 624, 625, 84, 626, 627, 628, 629, 630, 631, 632, 633, 634, 635, 636, 83, 637, 434, 435, 436, 876, 877, 878, 879, 880, 881, 882, 883, 884, 885, 886, 929, 930, 931, 932, 933, 903, 904, 905, 906, 907, 908, 909, 910, 911, 912, 913, 914, 915, 916, 917] (by decide +kernel) (by decide +kernel)
set_option maxRecDepth 20000 in
theorem gL_law_X6_ropes : GoodIn wsL_law (wsV RL 85 RX6 yX6_ropes wsX6_ropes) := goodIn_app (goodIn_of _ (by decide +kernel)) ggL_law_X6_ropes
set_option maxRecDepth 20000 in
theorem ggL_law_X7_ropes : GoodIn wsL_law wsX7_ropes := goodIn_r _ [641, 99, 109, 131, 132, 5, 133, 138, 139, 140, 141, 105, 642, 643, 644, 645, 292, 293, 294, 295, 296, 297, 298, 299, 646, 647, 648, 649, 650, 651, 652, 653, 654, 655, 656, 657, 658, 659, 660, 661, 887, 888, 889, 890, 891, 892, 893, 894, 895, 896, 897, 898, 899, 900, 901, 902] (by decide +kernel) (by decide +kernel)
set_option maxRecDepth 20000 in
theorem gL_law_X7_ropes : GoodIn wsL_law (wsV RL 88 RX7 yX7_ropes wsX7_ropes) := goodIn_app (goodIn_of _ (by decide +kernel)) ggL_law_X7_ropes
set_option maxRecDepth 20000 in
theorem ggL_law_X6_rope : GoodIn wsL_law wsX6_rope := goodIn_r _ [665, 16, 666, 282, 155, 156, 15, 157, 59, 120, 121, 122, 2, 123, 124, 125, 126, 876, 877, 878, 879, 880, 881, 882, 883, 884, 885, 886, 903, 904, 905, 906, 907, 908, 909, 910, 911, 912, 913, 914, 915, 916, 917] (by decide +kernel) (by decide +kernel)
set_option maxRecDepth 20000 in
theorem gL_law_X6_rope : GoodIn wsL_law (wsV RL 89 RX6 yX6_rope wsX6_rope) := goodIn_app (goodIn_of _ (by decide +kernel)) ggL_law_X6_rope
set_option maxRecDepth 20000 in
theorem ggL_law_X7_rope : GoodIn wsL_law wsX7_rope := goodIn_r _ [670, 99, 170, 171, 172, 5, 173, 131, 132, 133, 134, 135, 136, 137, 138, 139, 140, 141, 105, 887, 888, 889, 890, 891, 892, 893, 894, 895, 896, 897, 898, 899, 900, 901, 902] (by decide +kernel) (by decide +kernel)
set_option maxRecDepth 20000 in
theorem gL_law_X7_rope : GoodIn wsL_law (wsV RL 92 RX7 yX7_rope wsX7_rope) := goodIn_app (goodIn_of _ (by decide +kernel)) ggL_law_X7_rope
set_option maxRecDepth 20000 in
theorem ggL_law_X6_ring : GoodIn wsL_law wsX6_ring := goodIn_r _ [674, 34, 16, 675, 600, 601, 602, 2, 603, 124, 676, 677, 678, 33, 679, 680, 681, 90, 682, 89, 683, 612, 613, 15, 614, 503, 285, 286, 287, 47, 48, 684, 685, 686, 160, 161, 876, 877, 878, 879, 880, 881, 882, 883, 884, 885, 886, 934, 935, 936, 903, 904, 905, 906, 907, 908, 909, 910, 911, 912, 913, 914, 915, 916, 917] (by decide +kernel) (by decide +kernel)
set_option maxRecDepth 20000 in
theorem gL_law_X6_ring : GoodIn wsL_law (wsV RL 93 RX6 yX6_ring wsX6_ring) := goodIn_app (goodIn_of _ (by decide +kernel)) ggL_law_X6_ring
set_option maxRecDepth 20000 in
theorem ggL_law_X7_ring : GoodIn wsL_law wsX7_ring := goodIn_r _ [690, 99, 138, 139, 140, 5, 141, 105, 642, 643, 644, 645, 109, 292, 293, 294, 295, 296, 297, 298, 299, 646, 647, 648, 649, 691, 692, 693, 694, 650, 651, 652, 653, 654, 655, 656, 657, 695, 696, 697, 698, 887, 888, 889, 890, 891, 892, 893, 894, 895, 896, 897, 898, 899, 900, 901, 902] (by decide +kernel) (by decide +kernel)
set_option maxRecDepth 20000 in
theorem gL_law_X7_ring : GoodIn wsL_law (wsV RL 96 RX7 yX7_ring wsX7_ring) := goodIn_app (goodIn_of _ (by decide +kernel)) ggL_law_X7_ring
set_option maxRecDepth 20000 in
theorem ggL_law_X6_word : GoodIn wsL_law wsX6_word := goodIn_r _ [702, 16, 282, 155, 156, 15, 157, 59, 283, 158, 2, 159, 490, 491, 492, 120, 121, 122, 123, 124, 125, 126, 703, 704, 705, 706, 46, 160, 161, 503, 285, 286, 287, 47, 48, 876, 877, 878, 879, 880, 881, 882, 883, 884, 885, 886, 903, 904, 905, 906, 907, 908, 909, 910, 911, 912, 913, 914, 915, 916, 917] (by decide +kernel) (by decide +kernel)
set_option maxRecDepth 20000 in
theorem gL_law_X6_word : GoodIn wsL_law (wsV RL 97 RX6 yX6_word wsX6_word) := goodIn_app (goodIn_of _ (by decide +kernel)) ggL_law_X6_word
set_option maxRecDepth 20000 in
theorem ggL_law_X7_word : GoodIn wsL_law wsX7_word := goodIn_r _ [710, 99, 170, 171, 172, 5, 173, 131, 132, 133, 134, 135, 136, 137, 138, 139, 140, 141, 105, 292, 293, 294, 295, 296, 297, 298, 299, 887, 888, 889, 890, 891, 892, 893, 894, 895, 896, 897, 898, 899, 900, 901, 902] (by decide +kernel) (by decide +kernel)
set_option maxRecDepth 20000 in
theorem gL_law_X7_word : GoodIn wsL_law (wsV RL 100 RX7 yX7_word wsX7_word) := goodIn_app (goodIn_of _ (by decide +kernel)) ggL_law_X7_word
set_option maxRecDepth 20000 in
theorem ggL_law_X6_fell : GoodIn wsL_law wsX6_fell := goodIn_r _ [714, 38, 16, 715, 716, 717, 37, 718, 94, 719, 720, 721, 722, 64, 65, 66, 520, 2, 521, 723, 627, 628, 629, 630, 631, 632, 724, 725, 726, 727, 728, 729, 730, 731, 732, 733, 734, 735, 736, 737, 738, 160, 161, 876, 877, 878, 879, 880, 881, 882, 883, 884, 885, 886, 937, 903, 904, 905, 906, 907, 908, 909, 910, 911, 912, 913, 914, 915, 916, 917] (by decide +kernel) (by decide +kernel)
set_option maxRecDepth 20000 in
theorem gL_law_X6_fell : GoodIn wsL_law (wsV RL 101 RX6 yX6_fell wsX6_fell) := goodIn_app (goodIn_of _ (by decide +kernel)) ggL_law_X6_fell
set_option maxRecDepth 20000 in
theorem ggL_law_X7_fell : GoodIn wsL_law wsX7_fell := goodIn_r _ [742, 99, 743, 744, 5, 745, 538, 539, 540, 541, 542, 543, 544, 545, 296, 297, 298, 299, 887, 888, 889, 890, 891, 892, 893, 894, 895, 896, 897, 898, 899, 900, 901, 902] (by decide +kernel) (by decide +kernel)
set_option maxRecDepth 20000 in
theorem gL_law_X7_fell : GoodIn wsL_law (wsV RL 104 RX7 yX7_fell wsX7_fell) := goodIn_app (goodIn_of _ (by decide +kernel)) ggL_law_X7_fell
set_option maxRecDepth 20000 in
theorem ggL_law_X6_sign : GoodIn wsL_law wsX6_sign := goodIn_r _ [749, 16, 750, 751, 752, 15, 753, 62, 54, 754, 755, 756, 757, 120, 121, 122, 2, 123, 124, 125, 126, 876, 877, 878, 879, 880, 881, 882, 883, 884, 885, 886, 903, 904, 905, 906, 907, 908, 909, 910, 911, 912, 913, 914, 915, 916, 917] (by decide +kernel) (by decide +kernel)
set_option maxRecDepth 20000 in
theorem gL_law_X6_sign : GoodIn wsL_law (wsV RL 105 RX6 yX6_sign wsX6_sign) := goodIn_app (goodIn_of _ (by decide +kernel)) ggL_law_X6_sign
set_option maxRecDepth 20000 in
theorem ggL_law_X7_sign : GoodIn wsL_law wsX7_sign := goodIn_r _ [761, 99, 131, 132, 5, 133, 134, 135, 136, 137, 138, 139, 140, 141, 105, 887, 888, 889, 890, 891, 892, 893, 894, 895, 896, 897, 898, 899, 900, 901, 902] (by decide +kernel) (by decide +kernel)
set_option maxRecDepth 20000 in
theorem gL_law_X7_sign : GoodIn wsL_law (wsV RL 108 RX7 yX7_sign wsX7_sign) := goodIn_app (goodIn_of _ (by decide +kernel)) ggL_law_X7_sign
set_option maxRecDepth 20000 in
theorem ggL_law_X6_clearSigns : GoodIn wsL_law wsX6_clearSigns := goodIn_r _ [765, 16, 766, 767, 768, 769, 15, 770, 54, 754, 755, 756, 757, 62, 876, 877, 878, 879, 880, 881, 882, 883, 884, 885, 886, 903, 904, 905, 906, 907, 908, 909, 910, 911, 912, 913, 914, 915, 916, 917] (by decide +kernel) (by decide +kernel)
set_option maxRecDepth 20000 in
theorem gL_law_X6_clearSigns : GoodIn wsL_law (wsV RL 109 RX6 yX6_clearSigns wsX6_clearSigns) := goodIn_app (goodIn_of _ (by decide +kernel)) ggL_law_X6_clearSigns
set_option maxRecDepth 20000 in
theorem ggL_law_X7_clearSigns : GoodIn wsL_law wsX7_clearSigns := goodIn_r _ [774, 99, 887, 888, 889, 890, 891, 892, 893, 894, 895, 896, 897, 898, 899, 900, 901, 902] (by decide +kernel) (by decide +kernel)
set_option maxRecDepth 20000 in
theorem gL_law_X7_clearSigns : GoodIn wsL_law (wsV RL 112 RX7 yX7_clearSigns wsX7_clearSigns) := goodIn_app (goodIn_of _ (by decide +kernel)) ggL_law_X7_clearSigns
set_option maxRecDepth 20000 in
theorem ggL_law_X6_came : GoodIn wsL_law wsX6_came := goodIn_r _ [778, 16, 779, 780, 781, 15, 782, 158, 2, 159, 250, 251, 252, 253, 59, 783, 784, 785, 786, 503, 285, 286, 287, 47, 48, 120, 121, 122, 123, 124, 125, 126, 876, 877, 878, 879, 880, 881, 882, 883, 884, 885, 886, 903, 904, 905, 906, 907, 908, 909, 910, 911, 912, 913, 914, 915, 916, 917] (by decide +kernel) (by decide +kernel)
set_option maxRecDepth 20000 in
theorem gL_law_X6_came : GoodIn wsL_law (wsV RL 113 RX6 yX6_came wsX6_came) := goodIn_app (goodIn_of _ (by decide +kernel)) ggL_law_X6_came
set_option maxRecDepth 20000 in
theorem ggL_law_X7_came : GoodIn wsL_law wsX7_came := goodIn_r _ [790, 791, 792, 793, 5, 794, 131, 132, 133, 262, 263, 264, 265, 99, 795, 796, 797, 798, 292, 293, 294, 295, 296, 297, 298, 299, 134, 135, 136, 137, 138, 139, 140, 141, 105, 887, 888, 889, 890, 891, 892, 893, 894, 895, 896, 897, 898, 899, 900, 901, 902] (by decide +kernel) (by decide +kernel)
set_option maxRecDepth 20000 in
theorem gL_law_X7_came : GoodIn wsL_law (wsV RL 116 RX7 yX7_came wsX7_came) := goodIn_app (goodIn_of _ (by decide +kernel)) ggL_law_X7_came
set_option maxRecDepth 20000 in
theorem ggL_law_X6_ask : GoodIn wsL_law wsX6_ask := goodIn_r _ [802, 16, 779, 780, 781, 15, 782, 158, 2, 159, 250, 251, 252, 253, 59, 120, 121, 122, 123, 124, 125, 126, 783, 784, 785, 786, 503, 285, 286, 287, 47, 48, 803, 804, 805, 806, 807, 808, 809, 810, 160, 161, 811, 812, 813, 814, 815, 816, 627, 628, 629, 630, 631, 632, 876, 877, 878, 879, 880, 881, 882, 883, 884, 885, 886, 903, 904, 905, 906, 907, 908, 909, 910, 911, 912, 913, 914, 915, 916, 917] (by decide +kernel) (by decide +kernel)
set_option maxRecDepth 20000 in
theorem gL_law_X6_ask : GoodIn wsL_law (wsV RL 117 RX6 yX6_ask wsX6_ask) := goodIn_app (goodIn_of _ (by decide +kernel)) ggL_law_X6_ask
set_option maxRecDepth 20000 in
theorem ggL_law_X7_ask : GoodIn wsL_law wsX7_ask := goodIn_r _ [820, 99, 791, 792, 793, 5, 794, 131, 132, 133, 262, 263, 264, 265, 134, 135, 136, 137, 138, 139, 140, 141, 105, 795, 796, 797, 798, 292, 293, 294, 295, 296, 297, 298, 299, 743, 744, 745, 887, 888, 889, 890, 891, 892, 893, 894, 895, 896, 897, 898, 899, 900, 901, 902] (by decide +kernel) (by decide +kernel)
set_option maxRecDepth 20000 in
theorem gL_law_X7_ask : GoodIn wsL_law (wsV RL 120 RX7 yX7_ask wsX7_ask) := goodIn_app (goodIn_of _ (by decide +kernel)) ggL_law_X7_ask
set_option maxRecDepth 20000 in
theorem ggL_law_X6_image : GoodIn wsL_law wsX6_image := goodIn_r _ [824, 18, 13, 14, 15, 16, 120, 121, 122, 2, 123, 124, 125, 126, 39, 40, 41, 42, 11, 12, 43, 44, 45, 46, 47, 48, 49, 50, 51, 52, 53, 54, 55, 56, 57, 58, 59, 60, 61, 62, 63, 64, 65, 66, 429, 430, 431, 432, 433, 434, 435, 436, 876, 877, 878, 879, 880, 881, 882, 883, 884, 885, 886, 903, 904, 905, 906, 907, 908, 909, 910, 911, 912, 913, 914, 915, 916, 917] (by decide +kernel) (by decide +kernel)
set_option maxRecDepth 20000 in
theorem gL_law_X6_image : GoodIn wsL_law (wsV RL 121 RX6 yX6_image wsX6_image) := goodIn_app (goodIn_of _ (by decide +kernel)) ggL_law_X6_image
set_option maxRecDepth 20000 in
theorem ggL_law_X7_image : GoodIn wsL_law wsX7_image := goodIn_r _ [828, 101, 99, 103, 131, 132, 5, 133, 134, 135, 136, 137, 138, 139, 140, 141, 105, 887, 888, 889, 890, 891, 892, 893, 894, 895, 896, 897, 898, 899, 900, 901, 902] (by decide +kernel) (by decide +kernel)
set_option maxRecDepth 20000 in
theorem gL_law_X7_image : GoodIn wsL_law (wsV RL 124 RX7 yX7_image wsX7_image) := goodIn_app (goodIn_of _ (by decide +kernel)) ggL_law_X7_image
set_option maxRecDepth 20000 in
theorem ggL_law_X6_from : GoodIn wsL_law wsX6_from := goodIn_r _ [832, 18, 16, 120, 121, 122, 2, 123, 124, 125, 126, 429, 430, 431, 15, 432, 59, 60, 61, 62, 44, 433, 434, 435, 436, 45, 46, 47, 48, 49, 50, 51, 52, 53, 54, 876, 877, 878, 879, 880, 881, 882, 883, 884, 885, 886, 903, 904, 905, 906, 907, 908, 909, 910, 911, 912, 913, 914, 915, 916, 917] (by decide +kernel) (by decide +kernel)
set_option maxRecDepth 20000 in
theorem gL_law_X6_from : GoodIn wsL_law (wsV RL 125 RX6 yX6_from wsX6_from) := goodIn_app (goodIn_of _ (by decide +kernel)) ggL_law_X6_from
set_option maxRecDepth 20000 in
theorem ggL_law_X7_from : GoodIn wsL_law wsX7_from := goodIn_r _ [836, 103, 99, 101, 131, 132, 5, 133, 134, 135, 136, 137, 138, 139, 140, 141, 105, 887, 888, 889, 890, 891, 892, 893, 894, 895, 896, 897, 898, 899, 900, 901, 902] (by decide +kernel) (by decide +kernel)
set_option maxRecDepth 20000 in
theorem gL_law_X7_from : GoodIn wsL_law (wsV RL 128 RX7 yX7_from wsX7_from) := goodIn_app (goodIn_of _ (by decide +kernel)) ggL_law_X7_from
set_option maxRecDepth 20000 in
theorem ggL_law_X6_status : GoodIn wsL_law wsX6_status := goodIn_r _ [840, 124, 125, 126, 876, 877, 878, 879, 880, 881, 882, 883, 884, 885, 886] (by decide +kernel) (by decide +kernel)
set_option maxRecDepth 20000 in
theorem gL_law_X6_status : GoodIn wsL_law (wsV RL 129 RX6 yX6_status wsX6_status) := goodIn_app (goodIn_of _ (by decide +kernel)) ggL_law_X6_status
set_option maxRecDepth 20000 in
theorem ggL_law_X7_status : GoodIn wsL_law wsX7_status := goodIn_r _ [844, 105, 131, 132, 5, 133, 138, 139, 140, 141, 887, 888, 889, 890, 891, 892, 893, 894, 895, 896, 897, 898, 899, 900, 901, 902] (by decide +kernel) (by decide +kernel)
set_option maxRecDepth 20000 in
theorem gL_law_X7_status : GoodIn wsL_law (wsV RL 132 RX7 yX7_status wsX7_status) := goodIn_app (goodIn_of _ (by decide +kernel)) ggL_law_X7_status
set_option maxRecDepth 20000 in
theorem ggL_law_X6_count : GoodIn wsL_law wsX6_count := goodIn_r _ [848, 849, 850, 851, 2, 852, 16, 118, 853, 487, 766, 22, 854, 120, 121, 122, 123, 124, 125, 126, 876, 877, 878, 879, 880, 881, 882, 883, 884, 885, 886, 903, 904, 905, 906, 907, 908, 909, 910, 911, 912, 913, 914, 915, 916, 917, 918, 919, 920, 921, 922, 923, 924] (by decide +kernel) (by decide +kernel)
set_option maxRecDepth 20000 in
theorem gL_law_X6_count : GoodIn wsL_law (wsV RL 133 RX6 yX6_count wsX6_count) := goodIn_app (goodIn_of _ (by decide +kernel)) ggL_law_X6_count
set_option maxRecDepth 20000 in
theorem ggL_law_X7_count : GoodIn wsL_law wsX7_count := goodIn_r _ [858, 99, 313, 131, 132, 5, 133, 134, 135, 136, 137, 138, 139, 140, 141, 105, 887, 888, 889, 890, 891, 892, 893, 894, 895, 896, 897, 898, 899, 900, 901, 902] (by decide +kernel) (by decide +kernel)
set_option maxRecDepth 20000 in
theorem gL_law_X7_count : GoodIn wsL_law (wsV RL 136 RX7 yX7_count wsX7_count) := goodIn_app (goodIn_of _ (by decide +kernel)) ggL_law_X7_count
set_option maxRecDepth 20000 in
theorem ggL_law_X6_digest : GoodIn wsL_law wsX6_digest := goodIn_r _ [862, 863, 864, 16, 849, 850, 851, 2, 852, 118, 853, 487, 766, 22, 854, 865, 866, 867, 15, 868, 59, 869, 44, 45, 46, 47, 60, 49, 50, 61, 51, 52, 53, 62, 54, 876, 877, 878, 879, 880, 881, 882, 883, 884, 885, 886, 903, 904, 905, 906, 907, 908, 909, 910, 911, 912, 913, 914, 915, 916, 917, 918, 919, 920, 921, 922, 923, 924] (by decide +kernel) (by decide +kernel)
set_option maxRecDepth 20000 in
theorem gL_law_X6_digest : GoodIn wsL_law (wsV RL 137 RX6 yX6_digest wsX6_digest) := goodIn_app (goodIn_of _ (by decide +kernel)) ggL_law_X6_digest
set_option maxRecDepth 20000 in
theorem ggL_law_X7_digest : GoodIn wsL_law wsX7_digest := goodIn_r _ [873, 874, 875, 99, 313, 887, 888, 889, 890, 891, 892, 893, 894, 895, 896, 897, 898, 899, 900, 901, 902] (by decide +kernel) (by decide +kernel)
set_option maxRecDepth 20000 in
theorem gL_law_X7_digest : GoodIn wsL_law (wsV RL 141 RX7 yX7_digest wsX7_digest) := goodIn_app (goodIn_of _ (by decide +kernel)) ggL_law_X7_digest
