set_option maxRecDepth 20000 in
theorem ggL_law_X6_init : GoodIn wsL_law wsX6_init := goodIn_r _ [9, 10, 11, 12, 13, 14, 15, 16, 17, 18, 19, 20, 21, 22, 23, 24, 25, 26, 27, 28, 29, 30, 31, 32, 33, 34, 35, 36, 37, 38, 39, 40, 41, 42, 43, 44, 45, 46, 47, 48, 49, 50, 51, 52, 53, 54, 55, 56, 57, 58, 59, 60, 61, 62, 63, 64, 65, 66, 67, 68, 69, 70, 71, 72, 73, 74, 75, 76, 77, 78, 79, 80, 81, 82, 83, 84, 85, 86, 87, 88, 89, 90, 91, 92, 93, 94, 903, 904, 905, 906, 907, 908, 909, 910, 911, 912, 913, 914, 915, 916, 917, 876, 877, 878, 879, 880, 881, 882, 883, 884, 885, 886, 918, 919, 920, 921, 922, 923, 924, 925, 926, 927, 928, 929, 930, 931, 932, 933, 934, 935, 936, 937] (by decide +kernel) (by decide +kernel)
set_option maxRecDepth 20000 in
theorem gL_law_X6_init : GoodIn wsL_law (wsX6_init) := ggL_law_X6_init
set_option maxRecDepth 20000 in
theorem ggL_law_X7_init : GoodIn wsL_law wsX7_init := goodIn_r _ [97, 98, 11, 12, 43, 99, 100, 101, 102, 103, 104, 105, 106, 107, 108, 109, 110, 111, 112, 5, 113, 887, 888, 889, 890, 891, 892, 893, 894, 895, 896, 897, 898, 899, 900, 901, 902] (by decide +kernel) (by decide +kernel)
set_option maxRecDepth 20000 in
theorem gL_law_X7_init : GoodIn wsL_law (wsX7_init) := ggL_law_X7_init
set_option maxRecDepth 20000 in
theorem ggL_law_X6_villages : GoodIn wsL_law wsX6_villages := goodIn_r _ [117, 16, 118, 119, 56, 57, 15, 58, 59, 60, 61, 62, 44, 47, 48, 45, 46, 63, 64, 65, 66, 120, 121, 122, 2, 123, 124, 125, 126, 876, 877, 878, 879, 880, 881, 882, 883, 884, 885, 886, 903, 904, 905, 906, 907, 908, 909, 910, 911, 912, 913, 914, 915, 916, 917] (by decide +kernel) (by decide +kernel)
set_option maxRecDepth 20000 in
theorem gL_law_X6_villages : GoodIn wsL_law (wsV RL 13 RX6 yX6_villages wsX6_villages) := goodIn_app (goodIn_of _ (by decide +kernel)) ggL_law_X6_villages
set_option maxRecDepth 20000 in
theorem ggL_law_X7_villages : GoodIn wsL_law wsX7_villages := goodIn_r _ [130, 99, 131, 132, 5, 133, 134, 135, 136, 137, 138, 139, 140, 141, 105, 110, 111, 112, 113, 887, 888, 889, 890, 891, 892, 893, 894, 895, 896, 897, 898, 899, 900, 901, 902] (by decide +kernel) (by decide +kernel)
set_option maxRecDepth 20000 in
theorem gL_law_X7_villages : GoodIn wsL_law (wsV RL 17 RX7 yX7_villages wsX7_villages) := goodIn_app (goodIn_of _ (by decide +kernel)) ggL_law_X7_villages
set_option maxRecDepth 20000 in
theorem ggL_law_X6_hears : GoodIn wsL_law wsX6_hears := goodIn_r _ [145, 16, 146, 147, 148, 15, 149, 47, 150, 151, 152, 153, 154, 155, 156, 157, 59, 158, 2, 159, 160, 161, 120, 121, 122, 123, 124, 125, 126, 876, 877, 878, 879, 880, 881, 882, 883, 884, 885, 886, 903, 904, 905, 906, 907, 908, 909, 910, 911, 912, 913, 914, 915, 916, 917] (by decide +kernel) (by decide +kernel)
set_option maxRecDepth 20000 in
theorem gL_law_X6_hears : GoodIn wsL_law (wsV RL 18 RX6 yX6_hears wsX6_hears) := goodIn_app (goodIn_of _ (by decide +kernel)) ggL_law_X6_hears
set_option maxRecDepth 20000 in
theorem ggL_law_X7_hears : GoodIn wsL_law wsX7_hears := goodIn_r _ [165, 166, 167, 168, 5, 169, 99, 170, 171, 172, 173, 131, 132, 133, 174, 175, 176, 177, 105, 887, 888, 889, 890, 891, 892, 893, 894, 895, 896, 897, 898, 899, 900, 901, 902] (by decide +kernel) (by decide +kernel)
set_option maxRecDepth 20000 in
theorem gL_law_X7_hears : GoodIn wsL_law (wsV RL 22 RX7 yX7_hears wsX7_hears) := goodIn_app (goodIn_of _ (by decide +kernel)) ggL_law_X7_hears
set_option maxRecDepth 20000 in
theorem ggL_law_X6_wood : GoodIn wsL_law wsX6_wood := goodIn_r _ [181, 16, 182, 183, 184, 15, 185, 60, 49, 50, 48, 150, 151, 152, 153, 154, 155, 156, 157, 59, 120, 121, 122, 2, 123, 124, 125, 126, 876, 877, 878, 879, 880, 881, 882, 883, 884, 885, 886, 903, 904, 905, 906, 907, 908, 909, 910, 911, 912, 913, 914, 915, 916, 917] (by decide +kernel) (by decide +kernel)
set_option maxRecDepth 20000 in
theorem gL_law_X6_wood : GoodIn wsL_law (wsV RL 23 RX6 yX6_wood wsX6_wood) := goodIn_app (goodIn_of _ (by decide +kernel)) ggL_law_X6_wood
set_option maxRecDepth 20000 in
theorem ggL_law_X7_wood : GoodIn wsL_law wsX7_wood := goodIn_r _ [189, 190, 191, 192, 5, 193, 99, 170, 171, 172, 173, 131, 132, 133, 174, 175, 176, 177, 105, 887, 888, 889, 890, 891, 892, 893, 894, 895, 896, 897, 898, 899, 900, 901, 902] (by decide +kernel) (by decide +kernel)
set_option maxRecDepth 20000 in
theorem gL_law_X7_wood : GoodIn wsL_law (wsV RL 27 RX7 yX7_wood wsX7_wood) := goodIn_app (goodIn_of _ (by decide +kernel)) ggL_law_X7_wood
set_option maxRecDepth 20000 in
theorem ggL_law_X6_temper : GoodIn wsL_law wsX6_temper := goodIn_r _ [197, 16, 198, 199, 200, 15, 201, 44, 154, 155, 156, 157, 59, 120, 121, 122, 2, 123, 124, 125, 126, 876, 877, 878, 879, 880, 881, 882, 883, 884, 885, 886, 903, 904, 905, 906, 907, 908, 909, 910, 911, 912, 913, 914, 915, 916, 917] (by decide +kernel) (by decide +kernel)
set_option maxRecDepth 20000 in
theorem gL_law_X6_temper : GoodIn wsL_law (wsV RL 28 RX6 yX6_temper wsX6_temper) := goodIn_app (goodIn_of _ (by decide +kernel)) ggL_law_X6_temper
set_option maxRecDepth 20000 in
theorem ggL_law_X7_temper : GoodIn wsL_law wsX7_temper := goodIn_r _ [205, 206, 207, 208, 5, 209, 170, 171, 172, 173, 99, 131, 132, 133, 210, 211, 212, 213, 174, 175, 176, 177, 105, 887, 888, 889, 890, 891, 892, 893, 894, 895, 896, 897, 898, 899, 900, 901, 902] (by decide +kernel) (by decide +kernel)
set_option maxRecDepth 20000 in
theorem gL_law_X7_temper : GoodIn wsL_law (wsV RL 31 RX7 yX7_temper wsX7_temper) := goodIn_app (goodIn_of _ (by decide +kernel)) ggL_law_X7_temper
set_option maxRecDepth 20000 in
theorem ggL_law_X6_friendOf : GoodIn wsL_law wsX6_friendOf := goodIn_r _ [217, 16, 218, 219, 220, 15, 221, 45, 154, 155, 156, 157, 59, 120, 121, 122, 2, 123, 124, 125, 126, 876, 877, 878, 879, 880, 881, 882, 883, 884, 885, 886, 903, 904, 905, 906, 907, 908, 909, 910, 911, 912, 913, 914, 915, 916, 917] (by decide +kernel) (by decide +kernel)
set_option maxRecDepth 20000 in
theorem gL_law_X6_friendOf : GoodIn wsL_law (wsV RL 32 RX6 yX6_friendOf wsX6_friendOf) := goodIn_app (goodIn_of _ (by decide +kernel)) ggL_law_X6_friendOf
set_option maxRecDepth 20000 in
theorem ggL_law_X7_friendOf : GoodIn wsL_law wsX7_friendOf := goodIn_r _ [225, 226, 227, 228, 5, 229, 170, 171, 172, 173, 99, 131, 132, 133, 210, 211, 212, 213, 174, 175, 176, 177, 105, 887, 888, 889, 890, 891, 892, 893, 894, 895, 896, 897, 898, 899, 900, 901, 902] (by decide +kernel) (by decide +kernel)
set_option maxRecDepth 20000 in
theorem gL_law_X7_friendOf : GoodIn wsL_law (wsV RL 35 RX7 yX7_friendOf wsX7_friendOf) := goodIn_app (goodIn_of _ (by decide +kernel)) ggL_law_X7_friendOf
set_option maxRecDepth 20000 in
theorem ggL_law_X6_change : GoodIn wsL_law wsX6_change := goodIn_r _ [233, 16, 234, 235, 236, 15, 237, 46, 150, 151, 152, 153, 154, 155, 156, 157, 59, 120, 121, 122, 2, 123, 124, 125, 126, 876, 877, 878, 879, 880, 881, 882, 883, 884, 885, 886, 903, 904, 905, 906, 907, 908, 909, 910, 911, 912, 913, 914, 915, 916, 917] (by decide +kernel) (by decide +kernel)
set_option maxRecDepth 20000 in
theorem gL_law_X6_change : GoodIn wsL_law (wsV RL 36 RX6 yX6_change wsX6_change) := goodIn_app (goodIn_of _ (by decide +kernel)) ggL_law_X6_change
set_option maxRecDepth 20000 in
theorem ggL_law_X7_change : GoodIn wsL_law wsX7_change := goodIn_r _ [241, 99, 170, 171, 172, 5, 173, 131, 132, 133, 134, 135, 136, 137, 138, 139, 140, 141, 105, 210, 211, 212, 213, 887, 888, 889, 890, 891, 892, 893, 894, 895, 896, 897, 898, 899, 900, 901, 902] (by decide +kernel) (by decide +kernel)
set_option maxRecDepth 20000 in
theorem gL_law_X7_change : GoodIn wsL_law (wsV RL 39 RX7 yX7_change wsX7_change) := goodIn_app (goodIn_of _ (by decide +kernel)) ggL_law_X7_change
set_option maxRecDepth 20000 in
theorem ggL_law_X6_need : GoodIn wsL_law wsX6_need := goodIn_r _ [245, 16, 246, 247, 248, 15, 249, 61, 51, 52, 53, 154, 155, 156, 157, 59, 158, 2, 159, 250, 251, 252, 253, 160, 161, 120, 121, 122, 123, 124, 125, 126, 876, 877, 878, 879, 880, 881, 882, 883, 884, 885, 886, 903, 904, 905, 906, 907, 908, 909, 910, 911, 912, 913, 914, 915, 916, 917] (by decide +kernel) (by decide +kernel)
set_option maxRecDepth 20000 in
theorem gL_law_X6_need : GoodIn wsL_law (wsV RL 40 RX6 yX6_need wsX6_need) := goodIn_app (goodIn_of _ (by decide +kernel)) ggL_law_X6_need
set_option maxRecDepth 20000 in
theorem ggL_law_X7_need : GoodIn wsL_law wsX7_need := goodIn_r _ [257, 258, 259, 260, 5, 261, 99, 170, 171, 172, 173, 131, 132, 133, 262, 263, 264, 265, 174, 175, 176, 177, 105, 887, 888, 889, 890, 891, 892, 893, 894, 895, 896, 897, 898, 899, 900, 901, 902] (by decide +kernel) (by decide +kernel)
set_option maxRecDepth 20000 in
theorem gL_law_X7_need : GoodIn wsL_law (wsV RL 44 RX7 yX7_need wsX7_need) := goodIn_app (goodIn_of _ (by decide +kernel)) ggL_law_X7_need
set_option maxRecDepth 20000 in
theorem ggL_law_X6_undo : GoodIn wsL_law wsX6_undo := goodIn_r _ [269, 16, 270, 271, 272, 15, 273, 61, 120, 121, 122, 2, 123, 124, 125, 126, 876, 877, 878, 879, 880, 881, 882, 883, 884, 885, 886, 903, 904, 905, 906, 907, 908, 909, 910, 911, 912, 913, 914, 915, 916, 917] (by decide +kernel) (by decide +kernel)
set_option maxRecDepth 20000 in
theorem gL_law_X6_undo : GoodIn wsL_law (wsV RL 45 RX6 yX6_undo wsX6_undo) := goodIn_app (goodIn_of _ (by decide +kernel)) ggL_law_X6_undo
set_option maxRecDepth 20000 in
theorem ggL_law_X7_undo : GoodIn wsL_law wsX7_undo := goodIn_r _ [277, 99, 138, 139, 140, 5, 141, 105, 887, 888, 889, 890, 891, 892, 893, 894, 895, 896, 897, 898, 899, 900, 901, 902] (by decide +kernel) (by decide +kernel)
set_option maxRecDepth 20000 in
theorem gL_law_X7_undo : GoodIn wsL_law (wsV RL 49 RX7 yX7_undo wsX7_undo) := goodIn_app (goodIn_of _ (by decide +kernel)) ggL_law_X7_undo
set_option maxRecDepth 20000 in
theorem ggL_law_X6_heard : GoodIn wsL_law wsX6_heard := goodIn_r _ [281, 16, 282, 155, 156, 15, 157, 59, 283, 158, 2, 159, 284, 285, 286, 287, 47, 48, 120, 121, 122, 123, 124, 125, 126, 876, 877, 878, 879, 880, 881, 882, 883, 884, 885, 886, 903, 904, 905, 906, 907, 908, 909, 910, 911, 912, 913, 914, 915, 916, 917] (by decide +kernel) (by decide +kernel)
set_option maxRecDepth 20000 in
theorem gL_law_X6_heard : GoodIn wsL_law (wsV RL 50 RX6 yX6_heard wsX6_heard) := goodIn_app (goodIn_of _ (by decide +kernel)) ggL_law_X6_heard
set_option maxRecDepth 20000 in
theorem ggL_law_X7_heard : GoodIn wsL_law wsX7_heard := goodIn_r _ [291, 170, 171, 172, 5, 173, 99, 131, 132, 133, 292, 293, 294, 295, 296, 297, 298, 299, 134, 135, 136, 137, 138, 139, 140, 141, 105, 887, 888, 889, 890, 891, 892, 893, 894, 895, 896, 897, 898, 899, 900, 901, 902] (by decide +kernel) (by decide +kernel)
set_option maxRecDepth 20000 in
theorem gL_law_X7_heard : GoodIn wsL_law (wsV RL 53 RX7 yX7_heard wsX7_heard) := goodIn_app (goodIn_of _ (by decide +kernel)) ggL_law_X7_heard
set_option maxRecDepth 20000 in
theorem ggL_law_X6_type : GoodIn wsL_law wsX6_type := goodIn_r _ [303, 22, 304, 305, 306, 21, 307, 308, 71, 120, 121, 122, 2, 123, 124, 125, 126, 876, 877, 878, 879, 880, 881, 882, 883, 884, 885, 886, 918, 919, 920, 921, 922, 923, 924] (by decide +kernel) (by decide +kernel)
set_option maxRecDepth 20000 in
theorem gL_law_X6_type : GoodIn wsL_law (wsV RL 56 RX6 yX6_type wsX6_type) := goodIn_app (goodIn_of _ (by decide +kernel)) ggL_law_X6_type
set_option maxRecDepth 20000 in
theorem ggL_law_X7_type : GoodIn wsL_law wsX7_type := goodIn_r _ [312, 313, 104, 314, 131, 132, 5, 133, 134, 135, 136, 137, 138, 139, 140, 141, 105, 887, 888, 889, 890, 891, 892, 893, 894, 895, 896, 897, 898, 899, 900, 901, 902] (by decide +kernel) (by decide +kernel)
set_option maxRecDepth 20000 in
theorem gL_law_X7_type : GoodIn wsL_law (wsV RL 60 RX7 yX7_type wsX7_type) := goodIn_app (goodIn_of _ (by decide +kernel)) ggL_law_X7_type
set_option maxRecDepth 20000 in
theorem ggL_law_X6_clear : GoodIn wsL_law wsX6_clear := goodIn_r _ [318, 22, 319, 320, 321, 21, 322, 308, 876, 877, 878, 879, 880, 881, 882, 883, 884, 885, 886, 918, 919, 920, 921, 922, 923, 924] (by decide +kernel) (by decide +kernel)
set_option maxRecDepth 20000 in
theorem gL_law_X6_clear : GoodIn wsL_law (wsV RL 61 RX6 yX6_clear wsX6_clear) := goodIn_app (goodIn_of _ (by decide +kernel)) ggL_law_X6_clear
set_option maxRecDepth 20000 in
theorem ggL_law_X7_clear : GoodIn wsL_law wsX7_clear := goodIn_r _ [326, 313, 887, 888, 889, 890, 891, 892, 893, 894, 895, 896, 897, 898, 899, 900, 901, 902] (by decide +kernel) (by decide +kernel)
set_option maxRecDepth 20000 in
theorem gL_law_X7_clear : GoodIn wsL_law (wsV RL 64 RX7 yX7_clear wsX7_clear) := goodIn_app (goodIn_of _ (by decide +kernel)) ggL_law_X7_clear
set_option maxRecDepth 20000 in
theorem ggL_law_X6_read : GoodIn wsL_law wsX6_read := goodIn_r _ [330, 22, 17, 16, 331, 332, 333, 21, 334, 335, 336, 337, 308, 71, 338, 339, 340, 341, 342, 343, 344, 345, 346, 347, 348, 349, 350, 351, 352, 353, 354, 355, 356, 357, 358, 359, 360, 361, 362, 363, 364, 365, 366, 367, 368, 369, 370, 371, 372, 373, 374, 375, 376, 377, 378, 379, 380, 381, 382, 383, 384, 385, 386, 387, 388, 389, 390, 391, 392, 393, 394, 395, 396, 397, 398, 399, 400, 401, 402, 403, 404, 405, 406, 407, 408, 409, 410, 411, 412, 413, 414, 415, 416, 417, 418, 72, 419, 420, 421, 422, 423, 56, 57, 15, 58, 59, 60, 61, 62, 44, 47, 48, 45, 46, 63, 64, 65, 66, 424, 147, 148, 149, 150, 151, 152, 153, 154, 155, 156, 157, 158, 2, 159, 160, 161, 425, 183, 184, 185, 49, 50, 426, 199, 200, 201, 427, 219, 220, 221, 428, 247, 248, 249, 51, 52, 53, 250, 251, 252, 253, 429, 430, 431, 432, 433, 434, 435, 436, 54, 876, 877, 878, 879, 880, 881, 882, 883, 884, 885, 886, 918, 919, 920, 921, 922, 923, 924, 903, 904, 905, 906, 907, 908, 909, 910, 911, 912, 913, 914, 915, 916, 917] (by decide +kernel) (by decide +kernel)
set_option maxRecDepth 20000 in
theorem gL_law_X6_read : GoodIn wsL_law (wsV RL 65 RX6 yX6_read wsX6_read) := goodIn_app (goodIn_of _ (by decide +kernel)) ggL_law_X6_read
set_option maxRecDepth 20000 in
theorem ggL_law_X7_read : GoodIn wsL_law wsX7_read := goodIn_r _ [440, 441, 100, 99, 442, 443, 444, 445, 5, 446, 447, 448, 106, 449, 450, 451, 452, 453, 454, 455, 456, 457, 313, 104, 458, 459, 460, 131, 132, 133, 461, 462, 463, 464, 465, 466, 467, 468, 469, 470, 471, 472, 473, 474, 475, 476, 477, 478, 479, 480, 481, 482, 110, 111, 112, 113, 166, 167, 168, 169, 170, 171, 172, 173, 190, 191, 192, 193, 206, 207, 208, 209, 210, 211, 212, 213, 226, 227, 228, 229, 258, 259, 260, 261, 262, 263, 264, 265, 887, 888, 889, 890, 891, 892, 893, 894, 895, 896, 897, 898, 899, 900, 901, 902] (by decide +kernel) (by decide +kernel)
set_option maxRecDepth 20000 in
theorem gL_law_X7_read : GoodIn wsL_law (wsV RL 68 RX7 yX7_read wsX7_read) := goodIn_app (goodIn_of _ (by decide +kernel)) ggL_law_X7_read
set_option maxRecDepth 20000 in
theorem ggL_law_X6_rang : GoodIn wsL_law wsX6_rang := goodIn_r _ [486, 16, 487, 26, 488, 489, 490, 491, 2, 492, 120, 121, 122, 123, 124, 125, 126, 493, 494, 495, 25, 496, 78, 79, 497, 76, 77, 498, 64, 65, 66, 499, 500, 501, 15, 502, 59, 52, 51, 46, 53, 503, 285, 286, 287, 47, 48, 160, 161, 504, 505, 506, 507, 508, 509, 510, 511, 512, 513, 514, 515, 516, 517, 518, 519, 520, 521, 522, 523, 524, 525, 526, 527, 528, 529, 876, 877, 878, 879, 880, 881, 882, 883, 884, 885, 886, 903, 904, 905, 906, 907, 908, 909, 910, 911, 912, 913, 914, 915, 916, 917, 925, 926, 927, 928] (by decide +kernel) (by decide +kernel)
set_option maxRecDepth 20000 in
theorem gL_law_X6_rang : GoodIn wsL_law (wsV RL 69 RX6 yX6_rang wsX6_rang) := goodIn_app (goodIn_of _ (by decide +kernel)) ggL_law_X6_rang
set_option maxRecDepth 20000 in
theorem ggL_law_X7_rang : GoodIn wsL_law wsX7_rang := goodIn_r _ [533, 99, 107, 108, 131, 132, 5, 133, 134, 135, 136, 137, 138, 139, 140, 141, 105, 534, 535, 536, 537, 538, 539, 540, 541, 542, 543, 544, 545, 296, 297, 298, 299, 546, 547, 548, 549, 550, 551, 552, 553, 554, 555, 556, 557, 887, 888, 889, 890, 891, 892, 893, 894, 895, 896, 897, 898, 899, 900, 901, 902] (by decide +kernel) (by decide +kernel)
set_option maxRecDepth 20000 in
theorem gL_law_X7_rang : GoodIn wsL_law (wsV RL 72 RX7 yX7_rang wsX7_rang) := goodIn_app (goodIn_of _ (by decide +kernel)) ggL_law_X7_rang
set_option maxRecDepth 20000 in
theorem ggL_law_X6_helped : GoodIn wsL_law wsX6_helped := goodIn_r _ [561, 16, 26, 282, 155, 156, 15, 157, 59, 120, 121, 122, 2, 123, 124, 125, 126, 493, 494, 495, 25, 496, 78, 79, 497, 76, 77, 498, 64, 65, 66, 499, 500, 501, 502, 52, 51, 46, 53, 503, 285, 286, 287, 47, 48, 160, 161, 504, 505, 506, 507, 508, 509, 510, 511, 512, 513, 514, 515, 516, 517, 518, 519, 520, 521, 522, 523, 524, 525, 526, 527, 528, 529, 562, 563, 564, 565, 876, 877, 878, 879, 880, 881, 882, 883, 884, 885, 886, 903, 904, 905, 906, 907, 908, 909, 910, 911, 912, 913, 914, 915, 916, 917, 925, 926, 927, 928] (by decide +kernel) (by decide +kernel)
set_option maxRecDepth 20000 in
theorem gL_law_X6_helped : GoodIn wsL_law (wsV RL 73 RX6 yX6_helped wsX6_helped) := goodIn_app (goodIn_of _ (by decide +kernel)) ggL_law_X6_helped
set_option maxRecDepth 20000 in
theorem ggL_law_X7_helped : GoodIn wsL_law wsX7_helped := goodIn_r _ [569, 99, 108, 131, 132, 5, 133, 134, 135, 136, 137, 138, 139, 140, 141, 105, 534, 535, 536, 537, 107, 538, 539, 540, 541, 542, 543, 544, 545, 296, 297, 298, 299, 546, 547, 548, 549, 550, 551, 552, 553, 554, 555, 556, 557, 887, 888, 889, 890, 891, 892, 893, 894, 895, 896, 897, 898, 899, 900, 901, 902] (by decide +kernel) (by decide +kernel)
set_option maxRecDepth 20000 in
theorem gL_law_X7_helped : GoodIn wsL_law (wsV RL 76 RX7 yX7_helped wsX7_helped) := goodIn_app (goodIn_of _ (by decide +kernel)) ggL_law_X7_helped
set_option maxRecDepth 20000 in
theorem ggL_law_X6_favours : GoodIn wsL_law wsX6_favours := goodIn_r _ [573, 16, 26, 574, 575, 151, 152, 15, 153, 154, 155, 156, 157, 59, 120, 121, 122, 2, 123, 124, 125, 126, 493, 494, 495, 25, 496, 78, 79, 497, 76, 77, 498, 64, 65, 66, 499, 500, 501, 502, 52, 51, 46, 53, 503, 285, 286, 287, 47, 48, 160, 161, 504, 505, 506, 507, 508, 509, 510, 511, 512, 513, 514, 515, 516, 517, 518, 519, 520, 521, 522, 523, 524, 525, 526, 527, 528, 529, 576, 876, 877, 878, 879, 880, 881, 882, 883, 884, 885, 886, 925, 926, 927, 928, 903, 904, 905, 906, 907, 908, 909, 910, 911, 912, 913, 914, 915, 916, 917] (by decide +kernel) (by decide +kernel)
set_option maxRecDepth 20000 in
theorem gL_law_X6_favours : GoodIn wsL_law (wsV RL 77 RX6 yX6_favours wsX6_favours) := goodIn_app (goodIn_of _ (by decide +kernel)) ggL_law_X6_favours
