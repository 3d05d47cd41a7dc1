set_option maxRecDepth 20000 in
theorem gL_law_X5_critical : GoodIn wsL_law (wsV RL 135 RX5 yX5_critical wsX5_critical) := goodIn_app (goodIn_of _ (by decide +kernel)) ggL_law_X5_critical
set_option maxRecDepth 20000 in
theorem ggL_law_X6_critical : GoodIn wsL_law wsX6_critical := goodIn_r _ [568, 130, 86, 489, 490, 491, 5, 492, 246, 247, 248, 333, 334, 335, 336, 556, 557, 558, 559, 337, 338, 339, 340, 393, 394, 395, 396, 276, 277, 278, 279, 417, 418, 419, 420, 421, 422, 423, 424, 341, 342, 343, 344, 867, 868, 869, 870, 871, 872, 873, 874, 875, 876, 877, 878, 879, 880, 881, 882, 883, 884, 885, 886] (by decide +kernel) (by decide +kernel)
set_option maxRecDepth 20000 in
theorem gL_law_X6_critical : GoodIn wsL_law (wsV RL 138 RX6 yX6_critical wsX6_critical) := goodIn_app (goodIn_of _ (by decide +kernel)) ggL_law_X6_critical
set_option maxRecDepth 20000 in
theorem ggL_law_L_leastDelay : GoodIn wsL_law wsL_leastDelay := goodIn_ca (goodIn_r _ [571, 572, 573, 574, 575, 2, 576, 577, 578, 16, 30, 579, 580, 581, 29, 582, 69, 583, 584, 154, 155, 15, 156, 157, 42, 43, 44, 158, 52, 159, 160, 161, 162, 46, 47, 48, 49, 51, 585, 317, 318, 319, 320, 197, 198, 199, 321, 322, 323, 324, 586, 587, 588, 589, 70, 590, 591, 592, 593, 527, 201, 202, 203, 594, 541, 542, 543, 408, 409, 410, 411, 544, 382, 383, 384, 45, 545, 465, 466, 467, 360, 353, 354, 355, 546, 547, 548, 549, 550, 386, 387, 388, 551, 405, 406, 407, 412, 377, 378, 379, 595, 596, 597, 598, 599, 304, 305, 306, 600, 312, 313, 314, 315, 316, 858, 859, 860, 861, 862, 863, 864, 865, 866, 887, 888, 889, 890, 891, 892, 893, 894, 895, 896, 897, 898, 903, 904, 905] (by decide +kernel) (by decide +kernel)) (goodIn_sub (fun _ h => List.mem_append_right _ h) (by decide +kernel))
set_option maxRecDepth 20000 in
theorem gL_law_L_leastDelay : GoodIn wsL_law (va_wsS RL 139 yL_leastDelay wsL_leastDelay) := goodIn_app (goodIn_of _ (by decide +kernel)) ggL_law_L_leastDelay
set_option maxRecDepth 20000 in
theorem ggL_law_X6_leastDelay : GoodIn wsL_law wsX6_leastDelay := goodIn_r _ [604, 130, 86, 605, 138, 139, 140, 5, 141, 606, 607, 608, 609, 91, 610, 611, 612, 613, 92, 614, 615, 616, 617, 333, 334, 335, 336, 246, 247, 248, 337, 338, 339, 340, 242, 243, 244, 245, 341, 342, 343, 344, 556, 557, 558, 559, 489, 490, 491, 492, 393, 394, 395, 396, 276, 277, 278, 279, 417, 418, 419, 420, 421, 422, 423, 424, 867, 868, 869, 870, 871, 872, 873, 874, 875, 876, 877, 878, 879, 880, 881, 882, 883, 884, 885, 886] (by decide +kernel) (by decide +kernel)
set_option maxRecDepth 20000 in
theorem gL_law_X6_leastDelay : GoodIn wsL_law (wsV RL 141 RX6 yX6_leastDelay wsX6_leastDelay) := goodIn_app (goodIn_of _ (by decide +kernel)) ggL_law_X6_leastDelay
set_option maxRecDepth 20000 in
theorem ggL_law_L_reorder : GoodIn wsL_law wsL_reorder := goodIn_ca (goodIn_r _ [620, 572, 621, 622, 623, 2, 624, 577, 578, 16, 30, 579, 580, 581, 29, 582, 69, 583, 584, 154, 155, 15, 156, 157, 42, 43, 44, 158, 52, 159, 160, 161, 162, 46, 47, 48, 49, 51, 585, 317, 318, 319, 320, 197, 198, 199, 321, 322, 323, 324, 586, 587, 588, 589, 70, 590, 591, 592, 593, 527, 201, 202, 203, 594, 541, 542, 543, 408, 409, 410, 411, 544, 382, 383, 384, 45, 545, 465, 466, 467, 360, 353, 354, 355, 546, 547, 548, 549, 550, 386, 387, 388, 551, 405, 406, 407, 412, 377, 378, 379, 595, 596, 597, 598, 599, 304, 305, 306, 600, 312, 313, 314, 315, 316, 625, 858, 859, 860, 861, 862, 863, 864, 865, 866, 887, 888, 889, 890, 891, 892, 893, 894, 895, 896, 897, 898, 903, 904, 905] (by decide +kernel) (by decide +kernel)) (goodIn_sub (fun _ h => List.mem_append_right _ h) (by decide +kernel))
set_option maxRecDepth 20000 in
theorem gL_law_L_reorder : GoodIn wsL_law (va_wsS RL 142 yL_reorder wsL_reorder) := goodIn_app (goodIn_of _ (by decide +kernel)) ggL_law_L_reorder
set_option maxRecDepth 20000 in
theorem ggL_law_X6_reorder : GoodIn wsL_law wsX6_reorder := goodIn_r _ [629, 130, 86, 92, 91, 138, 139, 140, 5, 141, 606, 607, 608, 609, 605, 610, 611, 612, 613, 614, 615, 616, 617, 333, 334, 335, 336, 246, 247, 248, 337, 338, 339, 340, 242, 243, 244, 245, 341, 342, 343, 344, 556, 557, 558, 559, 489, 490, 491, 492, 393, 394, 395, 396, 276, 277, 278, 279, 417, 418, 419, 420, 421, 422, 423, 424, 867, 868, 869, 870, 871, 872, 873, 874, 875, 876, 877, 878, 879, 880, 881, 882, 883, 884, 885, 886] (by decide +kernel) (by decide +kernel)
set_option maxRecDepth 20000 in
theorem gL_law_X6_reorder : GoodIn wsL_law (wsV RL 144 RX6 yX6_reorder wsX6_reorder) := goodIn_app (goodIn_of _ (by decide +kernel)) ggL_law_X6_reorder
set_option maxRecDepth 20000 in
theorem ggL_law_X5_length : GoodIn wsL_law wsX5_length := goodIn_r _ [633, 34, 634, 635, 636, 2, 637, 16, 638, 639, 640, 33, 641, 642, 78, 79, 80, 81, 77, 643, 644, 645, 646, 647, 648, 649, 650, 651, 652, 653, 654, 655, 409, 410, 411, 656, 304, 305, 15, 306, 44, 657, 658, 659, 660, 661, 465, 466, 467, 51, 49, 360, 353, 354, 355, 158, 662, 663, 664, 665, 76, 666, 667, 668, 669, 405, 406, 407, 52, 46, 47, 48, 408, 412, 377, 378, 379, 42, 670, 671, 672, 673, 674, 858, 859, 860, 861, 862, 863, 864, 865, 866, 906, 907, 908, 909, 910, 911, 912, 887, 888, 889, 890, 891, 892, 893, 894, 895, 896, 897, 898] (by decide +kernel) (by decide +kernel)
set_option maxRecDepth 20000 in
theorem gL_law_X5_length : GoodIn wsL_law (wsV RL 145 RX5 yX5_length wsX5_length) := goodIn_app (goodIn_of _ (by decide +kernel)) ggL_law_X5_length
set_option maxRecDepth 20000 in
theorem ggL_law_X6_length : GoodIn wsL_law wsX6_length := goodIn_r _ [678, 130, 679, 680, 681, 5, 682, 95, 96, 97, 98, 99, 86, 94, 93, 683, 684, 685, 686, 687, 688, 689, 690, 489, 490, 491, 492, 246, 247, 248, 333, 334, 335, 336, 341, 342, 343, 344, 337, 338, 339, 340, 417, 418, 419, 420, 421, 422, 423, 424, 276, 277, 278, 279, 867, 868, 869, 870, 871, 872, 873, 874, 875, 876, 877, 878, 879, 880, 881, 882, 883, 884, 885, 886] (by decide +kernel) (by decide +kernel)
set_option maxRecDepth 20000 in
theorem gL_law_X6_length : GoodIn wsL_law (wsV RL 148 RX6 yX6_length wsX6_length) := goodIn_app (goodIn_of _ (by decide +kernel)) ggL_law_X6_length
set_option maxRecDepth 20000 in
theorem ggL_law_L_start : GoodIn wsL_law wsL_start := goodIn_ca (goodIn_r _ [693, 260, 694, 695, 696, 2, 697, 265, 266, 16, 34, 267, 197, 198, 15, 199, 157, 698, 699, 700, 701, 52, 634, 635, 636, 637, 638, 639, 640, 33, 641, 642, 78, 79, 80, 81, 77, 643, 644, 645, 646, 647, 648, 649, 650, 651, 652, 653, 654, 655, 409, 410, 411, 656, 304, 305, 306, 44, 657, 658, 659, 660, 661, 465, 466, 467, 51, 49, 360, 353, 354, 355, 158, 662, 663, 664, 665, 76, 666, 667, 668, 669, 405, 406, 407, 46, 47, 48, 408, 412, 377, 378, 379, 42, 670, 671, 672, 673, 674, 702, 858, 859, 860, 861, 862, 863, 864, 865, 866, 887, 888, 889, 890, 891, 892, 893, 894, 895, 896, 897, 898, 906, 907, 908, 909, 910, 911, 912] (by decide +kernel) (by decide +kernel)) (goodIn_sub (fun _ h => List.mem_append_left _ (List.mem_append_right _ h)) (by decide +kernel))
set_option maxRecDepth 20000 in
theorem gL_law_L_start : GoodIn wsL_law (va_wsS RL 149 yL_start wsL_start) := goodIn_app (goodIn_of _ (by decide +kernel)) ggL_law_L_start
set_option maxRecDepth 20000 in
theorem ggL_law_X6_start : GoodIn wsL_law wsX6_start := goodIn_r _ [706, 130, 93, 272, 273, 274, 5, 275, 86, 135, 136, 137, 707, 708, 709, 710, 138, 139, 140, 141, 679, 680, 681, 682, 95, 96, 97, 98, 99, 94, 683, 684, 685, 686, 687, 688, 689, 690, 489, 490, 491, 492, 246, 247, 248, 333, 334, 335, 336, 341, 342, 343, 344, 337, 338, 339, 340, 417, 418, 419, 420, 421, 422, 423, 424, 276, 277, 278, 279, 867, 868, 869, 870, 871, 872, 873, 874, 875, 876, 877, 878, 879, 880, 881, 882, 883, 884, 885, 886] (by decide +kernel) (by decide +kernel)
set_option maxRecDepth 20000 in
theorem gL_law_X6_start : GoodIn wsL_law (wsV RL 151 RX6 yX6_start wsX6_start) := goodIn_app (goodIn_of _ (by decide +kernel)) ggL_law_X6_start
set_option maxRecDepth 20000 in
theorem ggL_law_L_processor : GoodIn wsL_law wsL_processor := goodIn_ca (goodIn_r _ [713, 260, 714, 715, 716, 2, 717, 265, 266, 16, 34, 698, 699, 700, 15, 701, 52, 634, 635, 636, 637, 638, 639, 640, 33, 641, 642, 78, 79, 80, 81, 77, 643, 644, 645, 646, 647, 648, 649, 650, 651, 652, 653, 654, 655, 409, 410, 411, 656, 304, 305, 306, 44, 657, 658, 659, 660, 661, 465, 466, 467, 51, 49, 360, 353, 354, 355, 158, 662, 663, 664, 665, 76, 666, 667, 668, 669, 405, 406, 407, 46, 47, 48, 408, 412, 377, 378, 379, 42, 670, 671, 672, 673, 674, 858, 859, 860, 861, 862, 863, 864, 865, 866, 906, 907, 908, 909, 910, 911, 912, 887, 888, 889, 890, 891, 892, 893, 894, 895, 896, 897, 898] (by decide +kernel) (by decide +kernel)) (goodIn_sub (fun _ h => List.mem_append_left _ (List.mem_append_right _ h)) (by decide +kernel))
set_option maxRecDepth 20000 in
theorem gL_law_L_processor : GoodIn wsL_law (va_wsS RL 152 yL_processor wsL_processor) := goodIn_app (goodIn_of _ (by decide +kernel)) ggL_law_L_processor
set_option maxRecDepth 20000 in
theorem ggL_law_X6_processor : GoodIn wsL_law wsX6_processor := goodIn_r _ [721, 130, 94, 707, 708, 709, 5, 710, 86, 135, 136, 137, 138, 139, 140, 141, 679, 680, 681, 682, 95, 96, 97, 98, 99, 93, 683, 684, 685, 686, 687, 688, 689, 690, 489, 490, 491, 492, 246, 247, 248, 333, 334, 335, 336, 341, 342, 343, 344, 337, 338, 339, 340, 417, 418, 419, 420, 421, 422, 423, 424, 276, 277, 278, 279, 867, 868, 869, 870, 871, 872, 873, 874, 875, 876, 877, 878, 879, 880, 881, 882, 883, 884, 885, 886] (by decide +kernel) (by decide +kernel)
set_option maxRecDepth 20000 in
theorem gL_law_X6_processor : GoodIn wsL_law (wsV RL 154 RX6 yX6_processor wsX6_processor) := goodIn_app (goodIn_of _ (by decide +kernel)) ggL_law_X6_processor
set_option maxRecDepth 20000 in
theorem ggL_law_L_total : GoodIn wsL_law wsL_total := goodIn_ca (goodIn_ca (goodIn_r _ [724, 260, 104, 725, 726, 727, 2, 728, 265, 266, 110, 111, 16, 34, 634, 635, 636, 637, 638, 639, 640, 33, 641, 642, 78, 79, 80, 81, 77, 643, 644, 645, 646, 647, 648, 649, 650, 651, 652, 653, 654, 655, 409, 410, 411, 656, 304, 305, 15, 306, 44, 657, 658, 659, 660, 661, 465, 466, 467, 51, 49, 360, 353, 354, 355, 158, 662, 663, 664, 665, 76, 666, 667, 668, 669, 405, 406, 407, 52, 46, 47, 48, 408, 412, 377, 378, 379, 42, 670, 671, 672, 673, 674, 729, 730, 731, 732, 157, 858, 859, 860, 861, 862, 863, 864, 865, 866, 887, 888, 889, 890, 891, 892, 893, 894, 895, 896, 897, 898, 906, 907, 908, 909, 910, 911, 912] (by decide +kernel) (by decide +kernel)) (goodIn_sub (fun _ h => List.mem_append_left _ (List.mem_append_right _ h)) (by decide +kernel))) (goodIn_sub (fun _ h => List.mem_append_left _ (List.mem_append_left _ (List.mem_append_left _ (List.mem_append_right _ h)))) (by decide +kernel))
set_option maxRecDepth 20000 in
theorem gL_law_L_total : GoodIn wsL_law (va_wsS RL 155 yL_total wsL_total) := goodIn_app (goodIn_of _ (by decide +kernel)) ggL_law_L_total
set_option maxRecDepth 20000 in
theorem ggL_law_X6_total : GoodIn wsL_law wsX6_total := goodIn_r _ [736, 130, 86, 97, 98, 99, 95, 135, 136, 5, 137, 138, 139, 140, 141, 679, 680, 681, 682, 96, 94, 93, 683, 684, 685, 686, 687, 688, 689, 690, 489, 490, 491, 492, 246, 247, 248, 333, 334, 335, 336, 341, 342, 343, 344, 337, 338, 339, 340, 417, 418, 419, 420, 421, 422, 423, 424, 276, 277, 278, 279, 867, 868, 869, 870, 871, 872, 873, 874, 875, 876, 877, 878, 879, 880, 881, 882, 883, 884, 885, 886] (by decide +kernel) (by decide +kernel)
set_option maxRecDepth 20000 in
theorem gL_law_X6_total : GoodIn wsL_law (wsV RL 157 RX6 yX6_total wsX6_total) := goodIn_app (goodIn_of _ (by decide +kernel)) ggL_law_X6_total
set_option maxRecDepth 20000 in
theorem ggL_law_X5_fill : GoodIn wsL_law wsX5_fill := goodIn_r _ [740, 34, 634, 635, 636, 2, 637, 16, 638, 639, 640, 33, 641, 642, 78, 79, 80, 81, 77, 643, 644, 645, 646, 647, 648, 649, 650, 651, 652, 653, 654, 655, 409, 410, 411, 656, 304, 305, 15, 306, 44, 657, 658, 659, 660, 661, 465, 466, 467, 51, 49, 360, 353, 354, 355, 158, 662, 663, 664, 665, 76, 666, 667, 668, 669, 405, 406, 407, 52, 46, 47, 48, 408, 412, 377, 378, 379, 42, 670, 671, 672, 673, 674, 741, 742, 743, 744, 858, 859, 860, 861, 862, 863, 864, 865, 866, 887, 888, 889, 890, 891, 892, 893, 894, 895, 896, 897, 898, 906, 907, 908, 909, 910, 911, 912] (by decide +kernel) (by decide +kernel)
set_option maxRecDepth 20000 in
theorem gL_law_X5_fill : GoodIn wsL_law (wsV RL 158 RX5 yX5_fill wsX5_fill) := goodIn_app (goodIn_of _ (by decide +kernel)) ggL_law_X5_fill
set_option maxRecDepth 20000 in
theorem ggL_law_X6_fill : GoodIn wsL_law wsX6_fill := goodIn_r _ [748, 130, 86, 96, 679, 680, 681, 5, 682, 95, 97, 98, 99, 94, 93, 683, 684, 685, 686, 687, 688, 689, 690, 489, 490, 491, 492, 246, 247, 248, 333, 334, 335, 336, 341, 342, 343, 344, 337, 338, 339, 340, 417, 418, 419, 420, 421, 422, 423, 424, 276, 277, 278, 279, 867, 868, 869, 870, 871, 872, 873, 874, 875, 876, 877, 878, 879, 880, 881, 882, 883, 884, 885, 886] (by decide +kernel) (by decide +kernel)
set_option maxRecDepth 20000 in
theorem gL_law_X6_fill : GoodIn wsL_law (wsV RL 161 RX6 yX6_fill wsX6_fill) := goodIn_app (goodIn_of _ (by decide +kernel)) ggL_law_X6_fill
set_option maxRecDepth 20000 in
theorem ggL_law_X5_drain : GoodIn wsL_law wsX5_drain := goodIn_r _ [752, 34, 634, 635, 636, 2, 637, 16, 638, 639, 640, 33, 641, 642, 78, 79, 80, 81, 77, 643, 644, 645, 646, 647, 648, 649, 650, 651, 652, 653, 654, 655, 409, 410, 411, 656, 304, 305, 15, 306, 44, 657, 658, 659, 660, 661, 465, 466, 467, 51, 49, 360, 353, 354, 355, 158, 662, 663, 664, 665, 76, 666, 667, 668, 669, 405, 406, 407, 52, 46, 47, 48, 408, 412, 377, 378, 379, 42, 670, 671, 672, 673, 674, 753, 754, 755, 756, 757, 758, 759, 858, 859, 860, 861, 862, 863, 864, 865, 866, 906, 907, 908, 909, 910, 911, 912, 887, 888, 889, 890, 891, 892, 893, 894, 895, 896, 897, 898] (by decide +kernel) (by decide +kernel)
set_option maxRecDepth 20000 in
theorem gL_law_X5_drain : GoodIn wsL_law (wsV RL 162 RX5 yX5_drain wsX5_drain) := goodIn_app (goodIn_of _ (by decide +kernel)) ggL_law_X5_drain
set_option maxRecDepth 20000 in
theorem ggL_law_X6_drain : GoodIn wsL_law wsX6_drain := goodIn_r _ [763, 130, 86, 97, 95, 679, 680, 681, 5, 682, 96, 98, 99, 94, 93, 683, 684, 685, 686, 687, 688, 689, 690, 489, 490, 491, 492, 246, 247, 248, 333, 334, 335, 336, 341, 342, 343, 344, 337, 338, 339, 340, 417, 418, 419, 420, 421, 422, 423, 424, 276, 277, 278, 279, 867, 868, 869, 870, 871, 872, 873, 874, 875, 876, 877, 878, 879, 880, 881, 882, 883, 884, 885, 886] (by decide +kernel) (by decide +kernel)
set_option maxRecDepth 20000 in
theorem gL_law_X6_drain : GoodIn wsL_law (wsV RL 165 RX6 yX6_drain wsX6_drain) := goodIn_app (goodIn_of _ (by decide +kernel)) ggL_law_X6_drain
set_option maxRecDepth 20000 in
theorem ggL_law_L_speedUp : GoodIn wsL_law wsL_speedUp := goodIn_ca (goodIn_ca (goodIn_r _ [766, 104, 105, 767, 768, 769, 2, 770, 110, 111, 112, 113, 16, 34, 634, 635, 636, 637, 638, 639, 640, 33, 641, 642, 78, 79, 80, 81, 77, 643, 644, 645, 646, 647, 648, 649, 650, 651, 652, 653, 654, 655, 409, 410, 411, 656, 304, 305, 15, 306, 44, 657, 658, 659, 660, 661, 465, 466, 467, 51, 49, 360, 353, 354, 355, 158, 662, 663, 664, 665, 76, 666, 667, 668, 669, 405, 406, 407, 52, 46, 47, 48, 408, 412, 377, 378, 379, 42, 670, 671, 672, 673, 674, 729, 730, 731, 732, 157, 771, 772, 773, 858, 859, 860, 861, 862, 863, 864, 865, 866, 887, 888, 889, 890, 891, 892, 893, 894, 895, 896, 897, 898, 906, 907, 908, 909, 910, 911, 912] (by decide +kernel) (by decide +kernel)) (goodIn_sub (fun _ h => List.mem_append_left _ (List.mem_append_left _ (List.mem_append_left _ (List.mem_append_right _ h)))) (by decide +kernel))) (goodIn_sub (fun _ h => List.mem_append_left _ (List.mem_append_left _ (List.mem_append_right _ h))) (by decide +kernel))
set_option maxRecDepth 20000 in
theorem gL_law_L_speedUp : GoodIn wsL_law (va_wsS RL 166 yL_speedUp wsL_speedUp) := goodIn_app (goodIn_of _ (by decide +kernel)) ggL_law_L_speedUp
set_option maxRecDepth 20000 in
theorem ggL_law_X6_speedUp : GoodIn wsL_law wsX6_speedUp := goodIn_r _ [777, 130, 86, 135, 136, 5, 137, 138, 139, 140, 141, 778, 779, 780, 781, 276, 277, 278, 279, 679, 680, 681, 682, 95, 96, 97, 98, 99, 94, 93, 683, 684, 685, 686, 687, 688, 689, 690, 489, 490, 491, 492, 246, 247, 248, 333, 334, 335, 336, 341, 342, 343, 344, 337, 338, 339, 340, 417, 418, 419, 420, 421, 422, 423, 424, 782, 783, 784, 867, 868, 869, 870, 871, 872, 873, 874, 875, 876, 877, 878, 879, 880, 881, 882, 883, 884, 885, 886] (by decide +kernel) (by decide +kernel)
set_option maxRecDepth 20000 in
theorem gL_law_X6_speedUp : GoodIn wsL_law (wsV RL 168 RX6 yX6_speedUp wsX6_speedUp) := goodIn_app (goodIn_of _ (by decide +kernel)) ggL_law_X6_speedUp
set_option maxRecDepth 20000 in
theorem ggL_law_X5_bestProcessors : GoodIn wsL_law wsX5_bestProcessors := goodIn_r _ [788, 34, 16, 638, 639, 640, 33, 641, 642, 78, 79, 80, 81, 77, 643, 644, 645, 646, 647, 648, 649, 650, 651, 652, 653, 654, 655, 409, 410, 411, 656, 304, 305, 15, 306, 44, 657, 658, 659, 660, 661, 465, 466, 467, 51, 49, 360, 353, 354, 355, 158, 662, 663, 664, 665, 76, 666, 667, 668, 669, 405, 406, 407, 52, 46, 47, 48, 408, 412, 377, 378, 379, 42, 670, 671, 672, 673, 674, 858, 859, 860, 861, 862, 863, 864, 865, 866, 906, 907, 908, 909, 910, 911, 912, 887, 888, 889, 890, 891, 892, 893, 894, 895, 896, 897, 898] (by decide +kernel) (by decide +kernel)
set_option maxRecDepth 20000 in
theorem gL_law_X5_bestProcessors : GoodIn wsL_law (wsV RL 169 RX5 yX5_bestProcessors wsX5_bestProcessors) := goodIn_app (goodIn_of _ (by decide +kernel)) ggL_law_X5_bestProcessors
set_option maxRecDepth 20000 in
theorem ggL_law_X6_bestProcessors : GoodIn wsL_law wsX6_bestProcessors := goodIn_r _ [792, 130, 86, 679, 680, 681, 5, 682, 95, 96, 97, 98, 99, 94, 93, 683, 684, 685, 686, 687, 688, 689, 690, 489, 490, 491, 492, 246, 247, 248, 333, 334, 335, 336, 341, 342, 343, 344, 337, 338, 339, 340, 417, 418, 419, 420, 421, 422, 423, 424, 276, 277, 278, 279, 867, 868, 869, 870, 871, 872, 873, 874, 875, 876, 877, 878, 879, 880, 881, 882, 883, 884, 885, 886] (by decide +kernel) (by decide +kernel)
set_option maxRecDepth 20000 in
theorem gL_law_X6_bestProcessors : GoodIn wsL_law (wsV RL 172 RX6 yX6_bestProcessors wsX6_bestProcessors) := goodIn_app (goodIn_of _ (by decide +kernel)) ggL_law_X6_bestProcessors
set_option maxRecDepth 20000 in
theorem ggL_law_X5_signals : GoodIn wsL_law wsX5_signals := goodIn_r _ [796, 16, 797, 409, 410, 411, 564, 465, 466, 15, 467, 51, 49, 360, 353, 354, 355, 158, 858, 859, 860, 861, 862, 863, 864, 865, 866, 887, 888, 889, 890, 891, 892, 893, 894, 895, 896, 897, 898] (by decide +kernel) (by decide +kernel)
set_option maxRecDepth 20000 in
theorem gL_law_X5_signals : GoodIn wsL_law (wsV RL 173 RX5 yX5_signals wsX5_signals) := goodIn_app (goodIn_of _ (by decide +kernel)) ggL_law_X5_signals
set_option maxRecDepth 20000 in
theorem ggL_law_X6_signals : GoodIn wsL_law wsX6_signals := goodIn_r _ [801, 130, 86, 489, 490, 491, 5, 492, 246, 247, 248, 333, 334, 335, 336, 867, 868, 869, 870, 871, 872, 873, 874, 875, 876, 877, 878, 879, 880, 881, 882, 883, 884, 885, 886] (by decide +kernel) (by decide +kernel)
set_option maxRecDepth 20000 in
theorem gL_law_X6_signals : GoodIn wsL_law (wsV RL 176 RX6 yX6_signals wsX6_signals) := goodIn_app (goodIn_of _ (by decide +kernel)) ggL_law_X6_signals
set_option maxRecDepth 20000 in
theorem ggL_law_X5_violated : GoodIn wsL_law wsX5_violated := goodIn_r _ [805, 16, 34, 634, 635, 636, 2, 637, 638, 639, 640, 33, 641, 642, 78, 79, 80, 81, 77, 643, 644, 645, 646, 647, 648, 649, 650, 651, 652, 653, 654, 655, 409, 410, 411, 656, 304, 305, 15, 306, 44, 657, 658, 659, 660, 661, 465, 466, 467, 51, 49, 360, 353, 354, 355, 158, 662, 663, 664, 665, 76, 666, 667, 668, 669, 405, 406, 407, 52, 46, 47, 48, 408, 412, 377, 378, 379, 42, 670, 671, 672, 673, 674, 806, 807, 808, 809, 810, 858, 859, 860, 861, 862, 863, 864, 865, 866, 887, 888, 889, 890, 891, 892, 893, 894, 895, 896, 897, 898, 906, 907, 908, 909, 910, 911, 912] (by decide +kernel) (by decide +kernel)
set_option maxRecDepth 20000 in
theorem gL_law_X5_violated : GoodIn wsL_law (wsV RL 177 RX5 yX5_violated wsX5_violated) := goodIn_app (goodIn_of _ (by decide +kernel)) ggL_law_X5_violated
set_option maxRecDepth 20000 in
theorem ggL_law_X6_violated : GoodIn wsL_law wsX6_violated := goodIn_r _ [814, 130, 86, 679, 680, 681, 5, 682, 95, 96, 97, 98, 99, 94, 93, 683, 684, 685, 686, 687, 688, 689, 690, 489, 490, 491, 492, 246, 247, 248, 333, 334, 335, 336, 341, 342, 343, 344, 337, 338, 339, 340, 417, 418, 419, 420, 421, 422, 423, 424, 276, 277, 278, 279, 815, 816, 817, 818, 867, 868, 869, 870, 871, 872, 873, 874, 875, 876, 877, 878, 879, 880, 881, 882, 883, 884, 885, 886] (by decide +kernel) (by decide +kernel)
set_option maxRecDepth 20000 in
theorem gL_law_X6_violated : GoodIn wsL_law (wsV RL 180 RX6 yX6_violated wsX6_violated) := goodIn_app (goodIn_of _ (by decide +kernel)) ggL_law_X6_violated
set_option maxRecDepth 20000 in
theorem ggL_law_X5_save : GoodIn wsL_law wsX5_save := goodIn_r _ [822, 17, 16, 35, 153, 154, 155, 15, 156, 157, 42, 43, 44, 158, 52, 159, 160, 161, 162, 46, 47, 48, 49, 51, 858, 859, 860, 861, 862, 863, 864, 865, 866, 887, 888, 889, 890, 891, 892, 893, 894, 895, 896, 897, 898] (by decide +kernel) (by decide +kernel)
set_option maxRecDepth 20000 in
theorem gL_law_X5_save : GoodIn wsL_law (wsV RL 181 RX5 yX5_save wsX5_save) := goodIn_app (goodIn_of _ (by decide +kernel)) ggL_law_X5_save
set_option maxRecDepth 20000 in
theorem ggL_law_X6_save : GoodIn wsL_law wsX6_save := goodIn_r _ [826, 130, 827, 87, 86, 867, 868, 869, 870, 871, 872, 873, 874, 875, 876, 877, 878, 879, 880, 881, 882, 883, 884, 885, 886] (by decide +kernel) (by decide +kernel)
set_option maxRecDepth 20000 in
theorem gL_law_X6_save : GoodIn wsL_law (wsV RL 184 RX6 yX6_save wsX6_save) := goodIn_app (goodIn_of _ (by decide +kernel)) ggL_law_X6_save
set_option maxRecDepth 20000 in
theorem ggL_law_L_restore : GoodIn wsL_law wsL_restore := goodIn_ca (goodIn_r _ [830, 105, 831, 832, 833, 2, 834, 112, 113, 35, 16, 17, 153, 154, 155, 15, 156, 157, 42, 43, 44, 158, 52, 159, 160, 161, 162, 46, 47, 48, 49, 51, 858, 859, 860, 861, 862, 863, 864, 865, 866, 887, 888, 889, 890, 891, 892, 893, 894, 895, 896, 897, 898] (by decide +kernel) (by decide +kernel)) (goodIn_sub (fun _ h => List.mem_append_left _ (List.mem_append_left _ (List.mem_append_right _ h))) (by decide +kernel))
set_option maxRecDepth 20000 in
theorem gL_law_L_restore : GoodIn wsL_law (va_wsS RL 185 yL_restore wsL_restore) := goodIn_app (goodIn_of _ (by decide +kernel)) ggL_law_L_restore
set_option maxRecDepth 20000 in
theorem ggL_law_X6_restore : GoodIn wsL_law wsX6_restore := goodIn_r _ [838, 130, 827, 86, 87, 138, 139, 140, 5, 141, 867, 868, 869, 870, 871, 872, 873, 874, 875, 876, 877, 878, 879, 880, 881, 882, 883, 884, 885, 886] (by decide +kernel) (by decide +kernel)
set_option maxRecDepth 20000 in
theorem gL_law_X6_restore : GoodIn wsL_law (wsV RL 187 RX6 yX6_restore wsX6_restore) := goodIn_app (goodIn_of _ (by decide +kernel)) ggL_law_X6_restore
set_option maxRecDepth 20000 in
theorem ggL_law_L_count : GoodIn wsL_law wsL_count := goodIn_ca (goodIn_r _ [841, 104, 842, 843, 844, 2, 845, 110, 111, 16, 22, 846, 847, 848, 15, 849, 158, 545, 465, 466, 467, 51, 49, 360, 353, 354, 355, 729, 730, 731, 732, 157, 42, 858, 859, 860, 861, 862, 863, 864, 865, 866, 887, 888, 889, 890, 891, 892, 893, 894, 895, 896, 897, 898, 899, 900, 901] (by decide +kernel) (by decide +kernel)) (goodIn_sub (fun _ h => List.mem_append_left _ (List.mem_append_left _ (List.mem_append_left _ (List.mem_append_right _ h)))) (by decide +kernel))
set_option maxRecDepth 20000 in
theorem gL_law_L_count : GoodIn wsL_law (va_wsS RL 188 yL_count wsL_count) := goodIn_app (goodIn_of _ (by decide +kernel)) ggL_law_L_count
set_option maxRecDepth 20000 in
theorem ggL_law_X6_count : GoodIn wsL_law wsX6_count := goodIn_r _ [853, 130, 86, 131, 854, 855, 856, 5, 857, 489, 490, 491, 492, 246, 247, 248, 333, 334, 335, 336, 778, 779, 780, 781, 276, 277, 278, 279, 138, 139, 140, 141, 867, 868, 869, 870, 871, 872, 873, 874, 875, 876, 877, 878, 879, 880, 881, 882, 883, 884, 885, 886] (by decide +kernel) (by decide +kernel)
set_option maxRecDepth 20000 in
theorem gL_law_X6_count : GoodIn wsL_law (wsV RL 190 RX6 yX6_count wsX6_count) := goodIn_app (goodIn_of _ (by decide +kernel)) ggL_law_X6_count
