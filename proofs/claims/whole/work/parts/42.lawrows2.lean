set_option maxRecDepth 20000 in
theorem ggL_law_X5_need : GoodIn wsL_law wsX5_need := goodIn_r _ [563, 24, 382, 327, 328, 23, 329, 128, 564, 565, 566, 2, 567, 568, 569, 570, 571, 34, 29, 381, 572, 573, 574, 33, 575, 65, 576, 335, 336, 337, 351, 577, 438, 439, 440, 389, 390, 441, 442, 443, 444, 445, 388, 446, 447, 448, 449, 450, 451, 452, 453, 454, 455, 52, 49, 326, 578, 579, 580, 581, 582, 385, 386, 387, 853, 854, 855, 856, 857, 858, 859, 860, 861, 862, 893, 894, 895, 896, 897, 898, 899, 900, 901, 902, 903, 904] (by decide +kernel) (by decide +kernel)
set_option maxRecDepth 20000 in
theorem gL_law_X5_need : GoodIn wsL_law (wsV RL 68 RX5 yX5_need wsX5_need) := goodIn_app (goodIn_of _ (by decide +kernel)) ggL_law_X5_need
set_option maxRecDepth 20000 in
theorem ggL_law_X6_need : GoodIn wsL_law wsX6_need := goodIn_r _ [586, 395, 396, 397, 5, 398, 364, 293, 294, 295, 587, 588, 589, 590, 78, 76, 411, 591, 592, 593, 594, 74, 465, 466, 467, 468, 77, 72, 403, 404, 405, 406, 469, 470, 471, 472, 863, 864, 865, 866, 867, 868, 869, 870, 871, 872, 873, 874, 875, 876, 877, 878, 879, 880, 881, 882, 883, 884, 885, 886, 887, 888] (by decide +kernel) (by decide +kernel)
set_option maxRecDepth 20000 in
theorem gL_law_X6_need : GoodIn wsL_law (wsV RL 71 RX6 yX6_need wsX6_need) := goodIn_app (goodIn_of _ (by decide +kernel)) ggL_law_X6_need
set_option maxRecDepth 20000 in
theorem ggL_law_X5_needAll : GoodIn wsL_law wsX5_needAll := goodIn_r _ [598, 24, 312, 599, 600, 601, 23, 602, 128, 564, 565, 566, 2, 567, 568, 569, 570, 571, 34, 29, 381, 572, 573, 574, 33, 575, 65, 576, 335, 336, 337, 351, 577, 438, 439, 440, 389, 390, 327, 328, 329, 441, 442, 443, 444, 445, 388, 446, 447, 448, 449, 450, 451, 452, 453, 454, 455, 52, 49, 326, 578, 579, 580, 581, 582, 385, 386, 387, 853, 854, 855, 856, 857, 858, 859, 860, 861, 862, 893, 894, 895, 896, 897, 898, 899, 900, 901, 902, 903, 904] (by decide +kernel) (by decide +kernel)
set_option maxRecDepth 20000 in
theorem gL_law_X5_needAll : GoodIn wsL_law (wsV RL 72 RX5 yX5_needAll wsX5_needAll) := goodIn_app (goodIn_of _ (by decide +kernel)) ggL_law_X5_needAll
set_option maxRecDepth 20000 in
theorem ggL_law_X6_needAll : GoodIn wsL_law wsX6_needAll := goodIn_r _ [606, 364, 607, 608, 609, 5, 610, 293, 294, 295, 587, 588, 589, 590, 78, 76, 411, 591, 592, 593, 594, 74, 465, 466, 467, 468, 77, 72, 403, 404, 405, 406, 469, 470, 471, 472, 863, 864, 865, 866, 867, 868, 869, 870, 871, 872, 873, 874, 875, 876, 877, 878, 879, 880, 881, 882, 883, 884, 885, 886, 887, 888] (by decide +kernel) (by decide +kernel)
set_option maxRecDepth 20000 in
theorem gL_law_X6_needAll : GoodIn wsL_law (wsV RL 75 RX6 yX6_needAll wsX6_needAll) := goodIn_app (goodIn_of _ (by decide +kernel)) ggL_law_X6_needAll
set_option maxRecDepth 20000 in
theorem ggL_law_X5_change : GoodIn wsL_law wsX5_change := goodIn_r _ [614, 24, 312, 615, 430, 431, 2, 432, 616, 617, 618, 619, 25, 330, 331, 332, 23, 333, 49, 334, 335, 336, 337, 50, 51, 52, 53, 128, 620, 621, 622, 623, 34, 29, 381, 509, 572, 573, 574, 33, 575, 65, 576, 351, 624, 442, 443, 444, 445, 388, 389, 446, 447, 448, 449, 450, 451, 452, 453, 454, 455, 326, 327, 328, 329, 390, 577, 438, 439, 440, 441, 625, 626, 627, 628, 629, 630, 631, 853, 854, 855, 856, 857, 858, 859, 860, 861, 862, 893, 894, 895, 896, 897, 898, 899, 900, 901, 902, 903, 904] (by decide +kernel) (by decide +kernel)
set_option maxRecDepth 20000 in
theorem gL_law_X5_change : GoodIn wsL_law (wsV RL 76 RX5 yX5_change wsX5_change) := goodIn_app (goodIn_of _ (by decide +kernel)) ggL_law_X5_change
set_option maxRecDepth 20000 in
theorem ggL_law_X6_change : GoodIn wsL_law wsX6_change := goodIn_r _ [635, 460, 636, 364, 607, 608, 609, 5, 610, 293, 294, 295, 499, 500, 501, 637, 638, 639, 640, 76, 77, 78, 411, 591, 592, 593, 594, 74, 465, 466, 467, 468, 72, 403, 404, 405, 406, 469, 470, 471, 472, 863, 864, 865, 866, 867, 868, 869, 870, 871, 872, 873, 874, 875, 876, 877, 878, 879, 880, 881, 882, 883, 884, 885, 886, 887, 888] (by decide +kernel) (by decide +kernel)
set_option maxRecDepth 20000 in
theorem gL_law_X6_change : GoodIn wsL_law (wsV RL 79 RX6 yX6_change wsX6_change) := goodIn_app (goodIn_of _ (by decide +kernel)) ggL_law_X6_change
set_option maxRecDepth 20000 in
theorem ggL_law_X5_costs : GoodIn wsL_law wsX5_costs := goodIn_r _ [644, 24, 477, 478, 25, 378, 382, 327, 328, 23, 329, 128, 430, 431, 2, 432, 480, 481, 482, 330, 331, 332, 333, 49, 334, 335, 336, 337, 50, 51, 52, 53, 645, 646, 647, 648, 34, 649, 348, 349, 33, 350, 65, 351, 352, 353, 354, 355, 577, 438, 439, 440, 389, 390, 441, 442, 443, 444, 445, 388, 446, 447, 448, 449, 450, 451, 452, 453, 454, 455, 326, 650, 531, 532, 533, 510, 511, 512, 513, 483, 484, 485, 486, 487, 488, 171, 489, 490, 491, 492, 853, 854, 855, 856, 857, 858, 859, 860, 861, 862, 893, 894, 895, 896, 897, 898, 903, 904] (by decide +kernel) (by decide +kernel)
set_option maxRecDepth 20000 in
theorem gL_law_X5_costs : GoodIn wsL_law (wsV RL 80 RX5 yX5_costs wsX5_costs) := goodIn_app (goodIn_of _ (by decide +kernel)) ggL_law_X5_costs
set_option maxRecDepth 20000 in
theorem ggL_law_X6_costs : GoodIn wsL_law wsX6_costs := goodIn_r _ [654, 497, 460, 498, 395, 396, 397, 5, 398, 364, 293, 294, 295, 499, 500, 501, 655, 656, 657, 658, 76, 78, 411, 591, 592, 593, 594, 74, 465, 466, 467, 468, 77, 72, 403, 404, 405, 406, 469, 470, 471, 472, 502, 503, 504, 863, 864, 865, 866, 867, 868, 869, 870, 871, 872, 873, 874, 875, 876, 877, 878, 879, 880, 881, 882, 883, 884, 885, 886, 887, 888] (by decide +kernel) (by decide +kernel)
set_option maxRecDepth 20000 in
theorem gL_law_X6_costs : GoodIn wsL_law (wsV RL 84 RX6 yX6_costs wsX6_costs) := goodIn_app (goodIn_of _ (by decide +kernel)) ggL_law_X6_costs
set_option maxRecDepth 20000 in
theorem ggL_law_X5_turn : GoodIn wsL_law wsX5_turn := goodIn_r _ [662, 24, 376, 29, 380, 382, 327, 328, 23, 329, 128, 853, 854, 855, 856, 857, 858, 859, 860, 861, 862, 893, 894, 895, 896, 897, 898, 899, 900, 901, 902] (by decide +kernel) (by decide +kernel)
set_option maxRecDepth 20000 in
theorem gL_law_X5_turn : GoodIn wsL_law (wsV RL 85 RX5 yX5_turn wsX5_turn) := goodIn_app (goodIn_of _ (by decide +kernel)) ggL_law_X5_turn
set_option maxRecDepth 20000 in
theorem ggL_law_X6_turn : GoodIn wsL_law wsX6_turn := goodIn_r _ [666, 667, 72, 73, 395, 396, 397, 5, 398, 364, 293, 294, 295, 863, 864, 865, 866, 867, 868, 869, 870, 871, 872, 873, 874, 875, 876, 877, 878, 879, 880, 881, 882, 883, 884, 885, 886, 887, 888] (by decide +kernel) (by decide +kernel)
set_option maxRecDepth 20000 in
theorem gL_law_X6_turn : GoodIn wsL_law (wsV RL 88 RX6 yX6_turn wsX6_turn) := goodIn_app (goodIn_of _ (by decide +kernel)) ggL_law_X6_turn
set_option maxRecDepth 20000 in
theorem ggL_law_X5_evening : GoodIn wsL_law wsX5_evening := goodIn_r _ [671, 24, 312, 29, 429, 430, 431, 2, 432, 433, 434, 435, 28, 436, 58, 346, 437, 438, 439, 33, 440, 65, 389, 390, 327, 328, 23, 329, 128, 441, 442, 443, 444, 445, 388, 446, 447, 448, 449, 351, 450, 451, 452, 453, 454, 455, 52, 49, 326, 672, 673, 674, 675, 61, 676, 527, 528, 529, 60, 530, 531, 532, 533, 853, 854, 855, 856, 857, 858, 859, 860, 861, 862, 893, 894, 895, 896, 897, 898, 899, 900, 901, 902, 903, 904] (by decide +kernel) (by decide +kernel)
set_option maxRecDepth 20000 in
theorem gL_law_X5_evening : GoodIn wsL_law (wsV RL 89 RX5 yX5_evening wsX5_evening) := goodIn_app (goodIn_of _ (by decide +kernel)) ggL_law_X5_evening
set_option maxRecDepth 20000 in
theorem ggL_law_X6_evening : GoodIn wsL_law wsX6_evening := goodIn_r _ [680, 681, 667, 371, 364, 73, 607, 608, 609, 5, 610, 293, 294, 295, 461, 462, 463, 464, 74, 411, 370, 465, 466, 467, 468, 76, 77, 72, 403, 404, 405, 406, 469, 470, 471, 472, 538, 539, 540, 541, 75, 863, 864, 865, 866, 867, 868, 869, 870, 871, 872, 873, 874, 875, 876, 877, 878, 879, 880, 881, 882, 883, 884, 885, 886, 887, 888] (by decide +kernel) (by decide +kernel)
set_option maxRecDepth 20000 in
theorem gL_law_X6_evening : GoodIn wsL_law (wsV RL 92 RX6 yX6_evening wsX6_evening) := goodIn_app (goodIn_of _ (by decide +kernel)) ggL_law_X6_evening
set_option maxRecDepth 20000 in
theorem ggL_law_X5_chips : GoodIn wsL_law wsX5_chips := goodIn_r _ [685, 24, 312, 686, 687, 688, 2, 689, 25, 376, 378, 377, 330, 331, 332, 23, 333, 49, 334, 335, 336, 337, 50, 51, 52, 53, 128, 690, 691, 692, 693, 34, 29, 381, 649, 348, 349, 33, 350, 65, 351, 352, 353, 354, 355, 577, 438, 439, 440, 389, 390, 327, 328, 329, 441, 442, 443, 444, 445, 388, 446, 447, 448, 449, 450, 451, 452, 453, 454, 455, 326, 694, 695, 696, 697, 698, 242, 243, 853, 854, 855, 856, 857, 858, 859, 860, 861, 862, 893, 894, 895, 896, 897, 898, 899, 900, 901, 902, 903, 904] (by decide +kernel) (by decide +kernel)
set_option maxRecDepth 20000 in
theorem gL_law_X5_chips : GoodIn wsL_law (wsV RL 93 RX5 yX5_chips wsX5_chips) := goodIn_app (goodIn_of _ (by decide +kernel)) ggL_law_X5_chips
