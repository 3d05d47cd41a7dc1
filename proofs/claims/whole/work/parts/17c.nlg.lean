set_option maxRecDepth 20000 in
theorem ggL_law_X5_init : GoodIn wsL_law wsX5_init := goodIn_r _ [9, 10, 11, 12, 13, 14, 15, 16, 17, 18, 19, 20, 21, 22, 23, 24, 25, 26, 27, 28, 29, 30, 31, 32, 33, 34, 35, 36, 37, 38, 39, 40, 41, 42, 43, 44, 45, 46, 47, 48, 49, 50, 51, 52, 53, 54, 55, 56, 57, 58, 59, 60, 61, 62, 63, 64, 65, 66, 67, 68, 69, 70, 71, 72, 73, 74, 75, 76, 77, 78, 79, 80, 81, 887, 888, 889, 890, 891, 892, 893, 894, 895, 896, 897, 898, 858, 859, 860, 861, 862, 863, 864, 865, 866, 899, 900, 901, 902, 903, 904, 905, 906, 907, 908, 909, 910, 911, 912] (by decide +kernel) (by decide +kernel)
set_option maxRecDepth 20000 in
theorem gL_law_X5_init : GoodIn wsL_law (wsX5_init) := ggL_law_X5_init
set_option maxRecDepth 20000 in
theorem ggL_law_X6_init : GoodIn wsL_law wsX6_init := goodIn_r _ [84, 85, 11, 12, 41, 86, 87, 88, 89, 90, 91, 92, 93, 94, 95, 96, 97, 98, 99, 867, 868, 869, 870, 871, 872, 873, 874, 875, 876, 877, 878, 879, 880, 881, 882, 883, 884, 885, 886] (by decide +kernel) (by decide +kernel)
set_option maxRecDepth 20000 in
theorem gL_law_X6_init : GoodIn wsL_law (wsX6_init) := ggL_law_X6_init
set_option maxRecDepth 20000 in
theorem ggL_law_L_append : GoodIn wsL_law wsL_append := goodIn_ca (goodIn_ca (goodIn_r _ [103, 104, 105, 106, 107, 108, 2, 109, 110, 111, 112, 113, 22, 114, 115, 21, 116, 117, 118, 119, 120, 121, 122, 123, 124, 125, 58, 858, 859, 860, 861, 862, 863, 864, 865, 866, 899, 900, 901] (by decide +kernel) (by decide +kernel)) (goodIn_sub (fun _ h => List.mem_append_left _ (List.mem_append_left _ (List.mem_append_left _ (List.mem_append_right _ h)))) (by decide +kernel))) (goodIn_sub (fun _ h => List.mem_append_left _ (List.mem_append_left _ (List.mem_append_right _ h))) (by decide +kernel))
set_option maxRecDepth 20000 in
theorem gL_law_L_append : GoodIn wsL_law (va_wsS RL 82 yL_append wsL_append) := goodIn_app (goodIn_of _ (by decide +kernel)) ggL_law_L_append
set_option maxRecDepth 20000 in
theorem ggL_law_X6_append : GoodIn wsL_law wsX6_append := goodIn_r _ [129, 130, 131, 88, 132, 133, 5, 134, 135, 136, 137, 138, 139, 140, 141, 867, 868, 869, 870, 871, 872, 873, 874, 875, 876, 877, 878, 879, 880, 881, 882, 883, 884, 885, 886] (by decide +kernel) (by decide +kernel)
set_option maxRecDepth 20000 in
theorem gL_law_X6_append : GoodIn wsL_law (wsV RL 87 RX6 yX6_append wsX6_append) := goodIn_app (goodIn_of _ (by decide +kernel)) ggL_law_X6_append
set_option maxRecDepth 20000 in
theorem ggL_law_X6_thrown : GoodIn wsL_law wsX6_thrown := goodIn_r _ [145, 130, 867, 868, 869, 870, 871, 872, 873, 874, 875, 876, 877, 878, 879, 880, 881, 882, 883, 884, 885, 886] (by decide +kernel) (by decide +kernel)
set_option maxRecDepth 20000 in
theorem gL_law_X6_thrown : GoodIn wsL_law (wsV RL 88 RX6 yX6_thrown wsX6_thrown) := goodIn_app (goodIn_of _ (by decide +kernel)) ggL_law_X6_thrown
set_option maxRecDepth 20000 in
theorem ggL_law_L_execute : GoodIn wsL_law wsL_execute := goodIn_ca (goodIn_r _ [148, 104, 149, 150, 151, 2, 152, 110, 111, 18, 16, 22, 36, 153, 154, 155, 15, 156, 157, 42, 43, 44, 158, 52, 159, 160, 161, 162, 46, 47, 48, 49, 51, 163, 164, 165, 21, 166, 167, 121, 168, 169, 170, 171, 172, 173, 174, 175, 58, 176, 177, 178, 179, 180, 181, 182, 183, 184, 185, 186, 187, 188, 189, 190, 191, 192, 193, 194, 195, 196, 197, 198, 199, 200, 201, 202, 203, 204, 205, 206, 207, 858, 859, 860, 861, 862, 863, 864, 865, 866, 899, 900, 901, 887, 888, 889, 890, 891, 892, 893, 894, 895, 896, 897, 898] (by decide +kernel) (by decide +kernel)) (goodIn_sub (fun _ h => List.mem_append_left _ (List.mem_append_left _ (List.mem_append_left _ (List.mem_append_right _ h)))) (by decide +kernel))
set_option maxRecDepth 20000 in
theorem gL_law_L_execute : GoodIn wsL_law (va_wsS RL 91 yL_execute wsL_execute) := goodIn_app (goodIn_of _ (by decide +kernel)) ggL_law_L_execute
set_option maxRecDepth 20000 in
theorem ggL_law_X6_execute : GoodIn wsL_law wsX6_execute := goodIn_r _ [211, 130, 212, 89, 131, 213, 214, 215, 5, 216, 86, 217, 218, 219, 220, 88, 221, 222, 223, 224, 225, 226, 227, 228, 229, 135, 136, 137, 230, 231, 232, 233, 234, 235, 236, 237, 238, 239, 240, 241, 242, 243, 244, 245, 246, 247, 248, 138, 139, 140, 141, 867, 868, 869, 870, 871, 872, 873, 874, 875, 876, 877, 878, 879, 880, 881, 882, 883, 884, 885, 886] (by decide +kernel) (by decide +kernel)
set_option maxRecDepth 20000 in
theorem gL_law_X6_execute : GoodIn wsL_law (wsV RL 94 RX6 yX6_execute wsX6_execute) := goodIn_app (goodIn_of _ (by decide +kernel)) ggL_law_X6_execute
set_option maxRecDepth 20000 in
theorem ggL_law_X5_errorPosition : GoodIn wsL_law wsX5_errorPosition := goodIn_r _ [252, 36, 858, 859, 860, 861, 862, 863, 864, 865, 866] (by decide +kernel) (by decide +kernel)
set_option maxRecDepth 20000 in
theorem gL_law_X5_errorPosition : GoodIn wsL_law (wsV RL 95 RX5 yX5_errorPosition wsX5_errorPosition) := goodIn_app (goodIn_of _ (by decide +kernel)) ggL_law_X5_errorPosition
set_option maxRecDepth 20000 in
theorem ggL_law_X6_errorPosition : GoodIn wsL_law wsX6_errorPosition := goodIn_r _ [256, 130, 89, 867, 868, 869, 870, 871, 872, 873, 874, 875, 876, 877, 878, 879, 880, 881, 882, 883, 884, 885, 886] (by decide +kernel) (by decide +kernel)
set_option maxRecDepth 20000 in
theorem gL_law_X6_errorPosition : GoodIn wsL_law (wsV RL 98 RX6 yX6_errorPosition wsX6_errorPosition) := goodIn_app (goodIn_of _ (by decide +kernel)) ggL_law_X6_errorPosition
set_option maxRecDepth 20000 in
theorem ggL_law_L_setCost : GoodIn wsL_law wsL_setCost := goodIn_ca (goodIn_ca (goodIn_r _ [259, 260, 104, 261, 262, 263, 2, 264, 265, 266, 110, 111, 16, 267, 197, 198, 15, 199, 157, 858, 859, 860, 861, 862, 863, 864, 865, 866, 887, 888, 889, 890, 891, 892, 893, 894, 895, 896, 897, 898] (by decide +kernel) (by decide +kernel)) (goodIn_sub (fun _ h => List.mem_append_left _ (List.mem_append_right _ h)) (by decide +kernel))) (goodIn_sub (fun _ h => List.mem_append_left _ (List.mem_append_left _ (List.mem_append_left _ (List.mem_append_right _ h)))) (by decide +kernel))
set_option maxRecDepth 20000 in
theorem gL_law_L_setCost : GoodIn wsL_law (va_wsS RL 99 yL_setCost wsL_setCost) := goodIn_app (goodIn_of _ (by decide +kernel)) ggL_law_L_setCost
set_option maxRecDepth 20000 in
theorem ggL_law_X6_setCost : GoodIn wsL_law wsX6_setCost := goodIn_r _ [271, 130, 86, 272, 273, 274, 5, 275, 135, 136, 137, 138, 139, 140, 141, 276, 277, 278, 279, 867, 868, 869, 870, 871, 872, 873, 874, 875, 876, 877, 878, 879, 880, 881, 882, 883, 884, 885, 886] (by decide +kernel) (by decide +kernel)
set_option maxRecDepth 20000 in
theorem gL_law_X6_setCost : GoodIn wsL_law (wsV RL 102 RX6 yX6_setCost wsX6_setCost) := goodIn_app (goodIn_of _ (by decide +kernel)) ggL_law_X6_setCost
set_option maxRecDepth 20000 in
theorem ggL_law_L_set : GoodIn wsL_law wsL_set := goodIn_ca (goodIn_r _ [282, 104, 283, 284, 285, 2, 286, 110, 111, 287, 288, 16, 858, 859, 860, 861, 862, 863, 864, 865, 866, 887, 888, 889, 890, 891, 892, 893, 894, 895, 896, 897, 898] (by decide +kernel) (by decide +kernel)) (goodIn_sub (fun _ h => List.mem_append_left _ (List.mem_append_left _ (List.mem_append_left _ (List.mem_append_right _ h)))) (by decide +kernel))
set_option maxRecDepth 20000 in
theorem gL_law_L_set : GoodIn wsL_law (va_wsS RL 103 yL_set wsL_set) := goodIn_app (goodIn_of _ (by decide +kernel)) ggL_law_L_set
set_option maxRecDepth 20000 in
theorem ggL_law_X6_set : GoodIn wsL_law wsX6_set := goodIn_r _ [292, 130, 86, 293, 294, 5, 295, 135, 136, 137, 138, 139, 140, 141, 867, 868, 869, 870, 871, 872, 873, 874, 875, 876, 877, 878, 879, 880, 881, 882, 883, 884, 885, 886] (by decide +kernel) (by decide +kernel)
set_option maxRecDepth 20000 in
theorem gL_law_X6_set : GoodIn wsL_law (wsV RL 105 RX6 yX6_set wsX6_set) := goodIn_app (goodIn_of _ (by decide +kernel)) ggL_law_X6_set
set_option maxRecDepth 20000 in
theorem ggL_law_L_exchange : GoodIn wsL_law wsL_exchange := goodIn_ca (goodIn_ca (goodIn_r _ [298, 260, 105, 299, 300, 301, 2, 302, 265, 266, 112, 113, 16, 303, 304, 305, 15, 306, 44, 307, 308, 309, 310, 158, 49, 47, 48, 311, 312, 313, 314, 315, 316, 317, 318, 319, 43, 320, 197, 198, 199, 157, 321, 322, 323, 324, 858, 859, 860, 861, 862, 863, 864, 865, 866, 887, 888, 889, 890, 891, 892, 893, 894, 895, 896, 897, 898] (by decide +kernel) (by decide +kernel)) (goodIn_sub (fun _ h => List.mem_append_left _ (List.mem_append_right _ h)) (by decide +kernel))) (goodIn_sub (fun _ h => List.mem_append_left _ (List.mem_append_left _ (List.mem_append_right _ h))) (by decide +kernel))
set_option maxRecDepth 20000 in
theorem gL_law_L_exchange : GoodIn wsL_law (va_wsS RL 106 yL_exchange wsL_exchange) := goodIn_app (goodIn_of _ (by decide +kernel)) ggL_law_L_exchange
set_option maxRecDepth 20000 in
theorem ggL_law_X6_exchange : GoodIn wsL_law wsX6_exchange := goodIn_r _ [328, 130, 86, 135, 136, 5, 137, 138, 139, 140, 141, 329, 330, 331, 332, 333, 334, 335, 336, 246, 247, 248, 337, 338, 339, 340, 341, 342, 343, 344, 867, 868, 869, 870, 871, 872, 873, 874, 875, 876, 877, 878, 879, 880, 881, 882, 883, 884, 885, 886] (by decide +kernel) (by decide +kernel)
set_option maxRecDepth 20000 in
theorem gL_law_X6_exchange : GoodIn wsL_law (wsV RL 108 RX6 yX6_exchange wsX6_exchange) := goodIn_app (goodIn_of _ (by decide +kernel)) ggL_law_X6_exchange
set_option maxRecDepth 20000 in
theorem ggL_law_L_remove : GoodIn wsL_law wsL_remove := goodIn_ca (goodIn_r _ [347, 260, 348, 349, 350, 2, 351, 265, 266, 16, 352, 353, 354, 15, 355, 158, 356, 357, 358, 359, 360, 159, 160, 161, 162, 46, 47, 48, 49, 51, 858, 859, 860, 861, 862, 863, 864, 865, 866, 887, 888, 889, 890, 891, 892, 893, 894, 895, 896, 897, 898] (by decide +kernel) (by decide +kernel)) (goodIn_sub (fun _ h => List.mem_append_left _ (List.mem_append_right _ h)) (by decide +kernel))
set_option maxRecDepth 20000 in
theorem gL_law_L_remove : GoodIn wsL_law (va_wsS RL 109 yL_remove wsL_remove) := goodIn_app (goodIn_of _ (by decide +kernel)) ggL_law_L_remove
set_option maxRecDepth 20000 in
theorem ggL_law_X6_remove : GoodIn wsL_law wsX6_remove := goodIn_r _ [364, 130, 86, 365, 366, 367, 5, 368, 135, 136, 137, 138, 139, 140, 141, 246, 247, 248, 867, 868, 869, 870, 871, 872, 873, 874, 875, 876, 877, 878, 879, 880, 881, 882, 883, 884, 885, 886] (by decide +kernel) (by decide +kernel)
set_option maxRecDepth 20000 in
theorem gL_law_X6_remove : GoodIn wsL_law (wsV RL 111 RX6 yX6_remove wsX6_remove) := goodIn_app (goodIn_of _ (by decide +kernel)) ggL_law_X6_remove
set_option maxRecDepth 20000 in
theorem ggL_law_L_statement : GoodIn wsL_law wsL_statement := goodIn_ca (goodIn_ca (goodIn_r _ [371, 260, 104, 372, 373, 374, 2, 375, 265, 266, 110, 111, 16, 267, 197, 198, 15, 199, 157, 376, 377, 378, 379, 42, 380, 201, 202, 203, 43, 381, 382, 383, 384, 44, 45, 320, 385, 386, 387, 388, 858, 859, 860, 861, 862, 863, 864, 865, 866, 887, 888, 889, 890, 891, 892, 893, 894, 895, 896, 897, 898] (by decide +kernel) (by decide +kernel)) (goodIn_sub (fun _ h => List.mem_append_left _ (List.mem_append_right _ h)) (by decide +kernel))) (goodIn_sub (fun _ h => List.mem_append_left _ (List.mem_append_left _ (List.mem_append_left _ (List.mem_append_right _ h)))) (by decide +kernel))
set_option maxRecDepth 20000 in
theorem gL_law_L_statement : GoodIn wsL_law (va_wsS RL 112 yL_statement wsL_statement) := goodIn_app (goodIn_of _ (by decide +kernel)) ggL_law_L_statement
set_option maxRecDepth 20000 in
theorem ggL_law_X6_statement : GoodIn wsL_law wsX6_statement := goodIn_r _ [392, 130, 272, 273, 274, 5, 275, 86, 135, 136, 137, 138, 139, 140, 141, 276, 277, 278, 279, 242, 243, 244, 245, 393, 394, 395, 396, 867, 868, 869, 870, 871, 872, 873, 874, 875, 876, 877, 878, 879, 880, 881, 882, 883, 884, 885, 886] (by decide +kernel) (by decide +kernel)
set_option maxRecDepth 20000 in
theorem gL_law_X6_statement : GoodIn wsL_law (wsV RL 114 RX6 yX6_statement wsX6_statement) := goodIn_app (goodIn_of _ (by decide +kernel)) ggL_law_X6_statement
set_option maxRecDepth 20000 in
theorem ggL_law_L_dependence : GoodIn wsL_law wsL_dependence := goodIn_ca (goodIn_ca (goodIn_r _ [399, 260, 104, 400, 401, 402, 2, 403, 265, 266, 110, 111, 16, 352, 353, 354, 15, 355, 158, 404, 405, 406, 407, 52, 46, 47, 48, 408, 409, 410, 411, 360, 412, 377, 378, 379, 42, 858, 859, 860, 861, 862, 863, 864, 865, 866, 887, 888, 889, 890, 891, 892, 893, 894, 895, 896, 897, 898] (by decide +kernel) (by decide +kernel)) (goodIn_sub (fun _ h => List.mem_append_left _ (List.mem_append_right _ h)) (by decide +kernel))) (goodIn_sub (fun _ h => List.mem_append_left _ (List.mem_append_left _ (List.mem_append_left _ (List.mem_append_right _ h)))) (by decide +kernel))
set_option maxRecDepth 20000 in
theorem gL_law_L_dependence : GoodIn wsL_law (va_wsS RL 115 yL_dependence wsL_dependence) := goodIn_app (goodIn_of _ (by decide +kernel)) ggL_law_L_dependence
set_option maxRecDepth 20000 in
theorem ggL_law_X6_dependence : GoodIn wsL_law wsX6_dependence := goodIn_r _ [416, 130, 86, 365, 366, 367, 5, 368, 135, 136, 137, 138, 139, 140, 141, 246, 247, 248, 417, 418, 419, 420, 421, 422, 423, 424, 337, 338, 339, 340, 276, 277, 278, 279, 341, 342, 343, 344, 867, 868, 869, 870, 871, 872, 873, 874, 875, 876, 877, 878, 879, 880, 881, 882, 883, 884, 885, 886] (by decide +kernel) (by decide +kernel)
set_option maxRecDepth 20000 in
theorem gL_law_X6_dependence : GoodIn wsL_law (wsV RL 117 RX6 yX6_dependence wsX6_dependence) := goodIn_app (goodIn_of _ (by decide +kernel)) ggL_law_X6_dependence
set_option maxRecDepth 20000 in
theorem ggL_law_L_lead : GoodIn wsL_law wsL_lead := goodIn_ca (goodIn_ca (goodIn_ca (goodIn_r _ [427, 260, 104, 105, 428, 429, 430, 2, 431, 265, 266, 110, 111, 112, 113, 16, 26, 352, 353, 354, 15, 355, 158, 432, 433, 434, 435, 436, 437, 25, 438, 63, 439, 440, 201, 202, 203, 43, 441, 442, 443, 444, 445, 409, 410, 411, 446, 447, 448, 449, 450, 451, 452, 453, 454, 455, 456, 457, 322, 323, 324, 157, 458, 304, 305, 306, 44, 459, 377, 378, 379, 42, 460, 461, 462, 463, 464, 465, 466, 467, 51, 49, 360, 468, 405, 406, 407, 52, 46, 47, 48, 408, 412, 469, 470, 471, 472, 858, 859, 860, 861, 862, 863, 864, 865, 866, 887, 888, 889, 890, 891, 892, 893, 894, 895, 896, 897, 898, 902] (by decide +kernel) (by decide +kernel)) (goodIn_sub (fun _ h => List.mem_append_left _ (List.mem_append_right _ h)) (by decide +kernel))) (goodIn_sub (fun _ h => List.mem_append_left _ (List.mem_append_left _ (List.mem_append_left _ (List.mem_append_right _ h)))) (by decide +kernel))) (goodIn_sub (fun _ h => List.mem_append_left _ (List.mem_append_left _ (List.mem_append_right _ h))) (by decide +kernel))
set_option maxRecDepth 20000 in
theorem gL_law_L_lead : GoodIn wsL_law (va_wsS RL 118 yL_lead wsL_lead) := goodIn_app (goodIn_of _ (by decide +kernel)) ggL_law_L_lead
set_option maxRecDepth 20000 in
theorem ggL_law_X6_lead : GoodIn wsL_law wsX6_lead := goodIn_r _ [476, 130, 365, 366, 367, 5, 368, 86, 135, 136, 137, 138, 139, 140, 141, 333, 334, 335, 336, 246, 247, 248, 477, 478, 479, 480, 90, 337, 338, 339, 340, 242, 243, 244, 245, 481, 482, 483, 484, 276, 277, 278, 279, 485, 486, 487, 488, 489, 490, 491, 492, 341, 342, 343, 344, 417, 418, 419, 420, 421, 422, 423, 424, 867, 868, 869, 870, 871, 872, 873, 874, 875, 876, 877, 878, 879, 880, 881, 882, 883, 884, 885, 886] (by decide +kernel) (by decide +kernel)
set_option maxRecDepth 20000 in
theorem gL_law_X6_lead : GoodIn wsL_law (wsV RL 120 RX6 yX6_lead wsX6_lead) := goodIn_app (goodIn_of _ (by decide +kernel)) ggL_law_X6_lead
set_option maxRecDepth 20000 in
theorem ggL_law_L_eliminate : GoodIn wsL_law wsL_eliminate := goodIn_ca (goodIn_r _ [495, 104, 496, 497, 498, 2, 499, 110, 111, 16, 432, 433, 434, 500, 501, 502, 503, 26, 435, 436, 437, 25, 438, 63, 439, 353, 354, 15, 355, 158, 440, 201, 202, 203, 43, 441, 442, 443, 444, 445, 409, 410, 411, 446, 447, 448, 449, 450, 451, 452, 453, 454, 455, 456, 457, 322, 323, 324, 157, 458, 304, 305, 306, 44, 459, 377, 378, 379, 42, 460, 461, 462, 463, 464, 465, 466, 467, 51, 49, 360, 468, 405, 406, 407, 52, 46, 47, 48, 408, 412, 469, 470, 471, 472, 404, 858, 859, 860, 861, 862, 863, 864, 865, 866, 887, 888, 889, 890, 891, 892, 893, 894, 895, 896, 897, 898, 902] (by decide +kernel) (by decide +kernel)) (goodIn_sub (fun _ h => List.mem_append_left _ (List.mem_append_left _ (List.mem_append_left _ (List.mem_append_right _ h)))) (by decide +kernel))
set_option maxRecDepth 20000 in
theorem gL_law_L_eliminate : GoodIn wsL_law (va_wsS RL 121 yL_eliminate wsL_eliminate) := goodIn_app (goodIn_of _ (by decide +kernel)) ggL_law_L_eliminate
set_option maxRecDepth 20000 in
theorem ggL_law_X6_eliminate : GoodIn wsL_law wsX6_eliminate := goodIn_r _ [507, 130, 86, 135, 136, 5, 137, 138, 139, 140, 141, 489, 490, 491, 492, 246, 247, 248, 333, 334, 335, 336, 477, 478, 479, 480, 90, 337, 338, 339, 340, 242, 243, 244, 245, 481, 482, 483, 484, 276, 277, 278, 279, 485, 486, 487, 488, 341, 342, 343, 344, 417, 418, 419, 420, 421, 422, 423, 424, 867, 868, 869, 870, 871, 872, 873, 874, 875, 876, 877, 878, 879, 880, 881, 882, 883, 884, 885, 886] (by decide +kernel) (by decide +kernel)
set_option maxRecDepth 20000 in
theorem gL_law_X6_eliminate : GoodIn wsL_law (wsV RL 123 RX6 yX6_eliminate wsX6_eliminate) := goodIn_app (goodIn_of _ (by decide +kernel)) ggL_law_X6_eliminate
set_option maxRecDepth 20000 in
theorem ggL_law_X5_keepAll : GoodIn wsL_law wsX5_keepAll := goodIn_r _ [511, 16, 858, 859, 860, 861, 862, 863, 864, 865, 866, 887, 888, 889, 890, 891, 892, 893, 894, 895, 896, 897, 898] (by decide +kernel) (by decide +kernel)
set_option maxRecDepth 20000 in
theorem gL_law_X5_keepAll : GoodIn wsL_law (wsV RL 124 RX5 yX5_keepAll wsX5_keepAll) := goodIn_app (goodIn_of _ (by decide +kernel)) ggL_law_X5_keepAll
set_option maxRecDepth 20000 in
theorem ggL_law_X6_keepAll : GoodIn wsL_law wsX6_keepAll := goodIn_r _ [515, 130, 86, 246, 247, 5, 248, 867, 868, 869, 870, 871, 872, 873, 874, 875, 876, 877, 878, 879, 880, 881, 882, 883, 884, 885, 886] (by decide +kernel) (by decide +kernel)
set_option maxRecDepth 20000 in
theorem gL_law_X6_keepAll : GoodIn wsL_law (wsV RL 127 RX6 yX6_keepAll wsX6_keepAll) := goodIn_app (goodIn_of _ (by decide +kernel)) ggL_law_X6_keepAll
set_option maxRecDepth 20000 in
theorem ggL_law_L_precedes : GoodIn wsL_law wsL_precedes := goodIn_ca (goodIn_r _ [518, 260, 519, 520, 521, 2, 522, 265, 266, 16, 267, 197, 198, 15, 199, 157, 523, 524, 525, 526, 527, 201, 202, 203, 43, 315, 304, 305, 306, 44, 528, 529, 530, 531, 158, 49, 47, 48, 858, 859, 860, 861, 862, 863, 864, 865, 866, 887, 888, 889, 890, 891, 892, 893, 894, 895, 896, 897, 898] (by decide +kernel) (by decide +kernel)) (goodIn_sub (fun _ h => List.mem_append_left _ (List.mem_append_right _ h)) (by decide +kernel))
set_option maxRecDepth 20000 in
theorem gL_law_L_precedes : GoodIn wsL_law (va_wsS RL 128 yL_precedes wsL_precedes) := goodIn_app (goodIn_of _ (by decide +kernel)) ggL_law_L_precedes
set_option maxRecDepth 20000 in
theorem ggL_law_X6_precedes : GoodIn wsL_law wsX6_precedes := goodIn_r _ [535, 130, 86, 272, 273, 274, 5, 275, 135, 136, 137, 337, 338, 339, 340, 246, 247, 248, 333, 334, 335, 336, 341, 342, 343, 344, 867, 868, 869, 870, 871, 872, 873, 874, 875, 876, 877, 878, 879, 880, 881, 882, 883, 884, 885, 886] (by decide +kernel) (by decide +kernel)
set_option maxRecDepth 20000 in
theorem gL_law_X6_precedes : GoodIn wsL_law (wsV RL 130 RX6 yX6_precedes wsX6_precedes) := goodIn_app (goodIn_of _ (by decide +kernel)) ggL_law_X6_precedes
set_option maxRecDepth 20000 in
theorem ggL_law_X5_delay : GoodIn wsL_law wsX5_delay := goodIn_r _ [539, 16, 540, 541, 542, 15, 543, 158, 408, 409, 410, 411, 544, 382, 383, 384, 157, 44, 45, 42, 320, 197, 198, 199, 545, 465, 466, 467, 51, 49, 360, 353, 354, 355, 546, 547, 548, 549, 47, 48, 550, 386, 387, 388, 551, 405, 406, 407, 52, 46, 412, 377, 378, 379, 858, 859, 860, 861, 862, 863, 864, 865, 866, 887, 888, 889, 890, 891, 892, 893, 894, 895, 896, 897, 898] (by decide +kernel) (by decide +kernel)
set_option maxRecDepth 20000 in
theorem gL_law_X5_delay : GoodIn wsL_law (wsV RL 131 RX5 yX5_delay wsX5_delay) := goodIn_app (goodIn_of _ (by decide +kernel)) ggL_law_X5_delay
set_option maxRecDepth 20000 in
theorem ggL_law_X6_delay : GoodIn wsL_law wsX6_delay := goodIn_r _ [555, 130, 556, 557, 558, 5, 559, 86, 489, 490, 491, 492, 246, 247, 248, 333, 334, 335, 336, 337, 338, 339, 340, 393, 394, 395, 396, 276, 277, 278, 279, 417, 418, 419, 420, 421, 422, 423, 424, 341, 342, 343, 344, 867, 868, 869, 870, 871, 872, 873, 874, 875, 876, 877, 878, 879, 880, 881, 882, 883, 884, 885, 886] (by decide +kernel) (by decide +kernel)
set_option maxRecDepth 20000 in
theorem gL_law_X6_delay : GoodIn wsL_law (wsV RL 134 RX6 yX6_delay wsX6_delay) := goodIn_app (goodIn_of _ (by decide +kernel)) ggL_law_X6_delay
set_option maxRecDepth 20000 in
theorem ggL_law_X5_critical : GoodIn wsL_law wsX5_critical := goodIn_r _ [563, 16, 540, 541, 542, 15, 543, 158, 408, 409, 410, 411, 544, 382, 383, 384, 157, 44, 45, 42, 320, 197, 198, 199, 545, 465, 466, 467, 51, 49, 360, 353, 354, 355, 546, 547, 548, 549, 47, 48, 550, 386, 387, 388, 551, 405, 406, 407, 52, 46, 412, 377, 378, 379, 564, 858, 859, 860, 861, 862, 863, 864, 865, 866, 887, 888, 889, 890, 891, 892, 893, 894, 895, 896, 897, 898] (by decide +kernel) (by decide +kernel)
