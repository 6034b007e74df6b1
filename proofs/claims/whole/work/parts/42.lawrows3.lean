set_option maxRecDepth 20000 in
theorem ggL_law_X6_chips : GoodIn wsL_law wsX6_chips := goodIn_r _ [702, 703, 607, 608, 609, 5, 610, 364, 293, 294, 295, 704, 705, 706, 707, 72, 708, 709, 710, 711, 76, 411, 78, 74, 591, 592, 593, 594, 465, 466, 467, 468, 77, 403, 404, 405, 406, 469, 470, 471, 472, 863, 864, 865, 866, 867, 868, 869, 870, 871, 872, 873, 874, 875, 876, 877, 878, 879, 880, 881, 882, 883, 884, 885, 886, 887, 888] (by decide +kernel) (by decide +kernel)
set_option maxRecDepth 20000 in
theorem gL_law_X6_chips : GoodIn wsL_law (wsV RL 96 RX6 yX6_chips wsX6_chips) := goodIn_app (goodIn_of _ (by decide +kernel)) ggL_law_X6_chips
set_option maxRecDepth 20000 in
theorem ggL_law_X5_alike : GoodIn wsL_law wsX5_alike := goodIn_r _ [715, 24, 312, 34, 509, 486, 599, 600, 601, 23, 602, 128, 716, 717, 718, 719, 720, 721, 722, 649, 348, 349, 33, 350, 65, 351, 352, 353, 354, 355, 577, 438, 439, 440, 389, 390, 327, 328, 329, 441, 442, 443, 444, 445, 388, 446, 447, 448, 449, 450, 451, 452, 453, 454, 455, 52, 49, 326, 723, 724, 725, 726, 853, 854, 855, 856, 857, 858, 859, 860, 861, 862, 893, 894, 895, 896, 897, 898, 903, 904] (by decide +kernel) (by decide +kernel)
set_option maxRecDepth 20000 in
theorem gL_law_X5_alike : GoodIn wsL_law (wsV RL 97 RX5 yX5_alike wsX5_alike) := goodIn_app (goodIn_of _ (by decide +kernel)) ggL_law_X5_alike
set_option maxRecDepth 20000 in
theorem ggL_law_X6_alike : GoodIn wsL_law wsX6_alike := goodIn_r _ [730, 364, 607, 608, 609, 5, 610, 293, 294, 295, 731, 732, 733, 734, 735, 736, 737, 78, 411, 591, 592, 593, 594, 74, 465, 466, 467, 468, 76, 77, 72, 403, 404, 405, 406, 469, 470, 471, 472, 863, 864, 865, 866, 867, 868, 869, 870, 871, 872, 873, 874, 875, 876, 877, 878, 879, 880, 881, 882, 883, 884, 885, 886, 887, 888] (by decide +kernel) (by decide +kernel)
set_option maxRecDepth 20000 in
theorem gL_law_X6_alike : GoodIn wsL_law (wsV RL 100 RX6 yX6_alike wsX6_alike) := goodIn_app (goodIn_of _ (by decide +kernel)) ggL_law_X6_alike
set_option maxRecDepth 20000 in
theorem ggL_law_X5_pourings : GoodIn wsL_law wsX5_pourings := goodIn_r _ [741, 24, 312, 34, 430, 431, 2, 432, 742, 743, 744, 745, 29, 381, 572, 573, 574, 33, 575, 65, 576, 335, 336, 337, 351, 746, 747, 748, 749, 750, 751, 752, 753, 754, 755, 577, 438, 439, 440, 389, 390, 327, 328, 23, 329, 128, 441, 442, 443, 444, 445, 388, 446, 447, 448, 449, 450, 451, 452, 453, 454, 455, 52, 49, 326, 650, 531, 532, 533, 756, 757, 758, 759, 582, 385, 386, 387, 760, 761, 762, 763, 853, 854, 855, 856, 857, 858, 859, 860, 861, 862, 893, 894, 895, 896, 897, 898, 899, 900, 901, 902, 903, 904] (by decide +kernel) (by decide +kernel)
set_option maxRecDepth 20000 in
theorem gL_law_X5_pourings : GoodIn wsL_law (wsV RL 101 RX5 yX5_pourings wsX5_pourings) := goodIn_app (goodIn_of _ (by decide +kernel)) ggL_law_X5_pourings
set_option maxRecDepth 20000 in
theorem ggL_law_X6_pourings : GoodIn wsL_law wsX6_pourings := goodIn_r _ [767, 768, 769, 770, 364, 78, 411, 76, 607, 608, 609, 5, 610, 293, 294, 295, 591, 592, 593, 594, 74, 465, 466, 467, 468, 77, 72, 403, 404, 405, 406, 771, 772, 773, 774, 775, 776, 777, 778, 469, 470, 471, 472, 863, 864, 865, 866, 867, 868, 869, 870, 871, 872, 873, 874, 875, 876, 877, 878, 879, 880, 881, 882, 883, 884, 885, 886, 887, 888] (by decide +kernel) (by decide +kernel)
set_option maxRecDepth 20000 in
theorem gL_law_X6_pourings : GoodIn wsL_law (wsV RL 105 RX6 yX6_pourings wsX6_pourings) := goodIn_app (goodIn_of _ (by decide +kernel)) ggL_law_X6_pourings
set_option maxRecDepth 20000 in
theorem ggL_law_X5_image : GoodIn wsL_law wsX5_image := goodIn_r _ [782, 24, 312, 30, 29, 310, 429, 783, 784, 785, 28, 786, 58, 60, 787, 335, 336, 337, 61, 346, 788, 573, 574, 33, 575, 65, 576, 351, 853, 854, 855, 856, 857, 858, 859, 860, 861, 862, 893, 894, 895, 896, 897, 898, 899, 900, 901, 902, 903, 904] (by decide +kernel) (by decide +kernel)
set_option maxRecDepth 20000 in
theorem gL_law_X5_image : GoodIn wsL_law (wsV RL 106 RX5 yX5_image wsX5_image) := goodIn_app (goodIn_of _ (by decide +kernel)) ggL_law_X5_image
set_option maxRecDepth 20000 in
theorem ggL_law_X6_image : GoodIn wsL_law wsX6_image := goodIn_r _ [792, 79, 74, 80, 75, 81, 73, 371, 793, 370, 794, 365, 82, 607, 608, 609, 5, 610, 364, 863, 864, 865, 866, 867, 868, 869, 870, 871, 872, 873, 874, 875, 876, 877, 878, 879, 880, 881, 882, 883, 884, 885, 886, 887, 888] (by decide +kernel) (by decide +kernel)
set_option maxRecDepth 20000 in
theorem gL_law_X6_image : GoodIn wsL_law (wsV RL 109 RX6 yX6_image wsX6_image) := goodIn_app (goodIn_of _ (by decide +kernel)) ggL_law_X6_image
set_option maxRecDepth 20000 in
theorem ggL_law_X5_restore : GoodIn wsL_law wsX5_restore := goodIn_r _ [798, 310, 29, 30, 429, 783, 784, 785, 28, 786, 58, 60, 787, 335, 336, 337, 61, 346, 788, 573, 574, 33, 575, 65, 576, 351, 853, 854, 855, 856, 857, 858, 859, 860, 861, 862, 899, 900, 901, 902, 903, 904] (by decide +kernel) (by decide +kernel)
set_option maxRecDepth 20000 in
theorem gL_law_X5_restore : GoodIn wsL_law (wsV RL 110 RX5 yX5_restore wsX5_restore) := goodIn_app (goodIn_of _ (by decide +kernel)) ggL_law_X5_restore
set_option maxRecDepth 20000 in
theorem ggL_law_X6_restore : GoodIn wsL_law wsX6_restore := goodIn_r _ [802, 82, 365, 74, 79, 75, 80, 73, 81, 793, 371, 794, 370, 863, 864, 865, 866, 867, 868, 869, 870, 871, 872, 873, 874, 875, 876, 877, 878, 879, 880, 881, 882, 883, 884, 885, 886, 887, 888] (by decide +kernel) (by decide +kernel)
set_option maxRecDepth 20000 in
theorem gL_law_X6_restore : GoodIn wsL_law (wsV RL 113 RX6 yX6_restore wsX6_restore) := goodIn_app (goodIn_of _ (by decide +kernel)) ggL_law_X6_restore
set_option maxRecDepth 20000 in
theorem ggL_law_X5_count : GoodIn wsL_law wsX5_count := goodIn_r _ [806, 24, 312, 29, 429, 381, 16, 87, 311, 615, 756, 757, 758, 33, 759, 445, 582, 385, 386, 387, 65, 388, 389, 390, 327, 328, 23, 329, 128, 853, 854, 855, 856, 857, 858, 859, 860, 861, 862, 893, 894, 895, 896, 897, 898, 899, 900, 901, 902, 889, 890, 903, 904] (by decide +kernel) (by decide +kernel)
set_option maxRecDepth 20000 in
theorem gL_law_X5_count : GoodIn wsL_law (wsV RL 114 RX5 yX5_count wsX5_count) := goodIn_app (goodIn_of _ (by decide +kernel)) ggL_law_X5_count
set_option maxRecDepth 20000 in
theorem ggL_law_X6_count : GoodIn wsL_law wsX6_count := goodIn_r _ [810, 811, 812, 813, 5, 814, 364, 371, 105, 365, 636, 815, 816, 817, 818, 407, 408, 409, 410, 74, 411, 403, 404, 405, 406, 72, 863, 864, 865, 866, 867, 868, 869, 870, 871, 872, 873, 874, 875, 876, 877, 878, 879, 880, 881, 882, 883, 884, 885, 886, 887, 888] (by decide +kernel) (by decide +kernel)
set_option maxRecDepth 20000 in
theorem gL_law_X6_count : GoodIn wsL_law (wsV RL 117 RX6 yX6_count wsX6_count) := goodIn_app (goodIn_of _ (by decide +kernel)) ggL_law_X6_count
set_option maxRecDepth 20000 in
theorem ggL_law_X5_digest : GoodIn wsL_law wsX5_digest := goodIn_r _ [822, 823, 24, 312, 29, 429, 824, 174, 171, 175, 16, 87, 825, 826, 827, 2, 828, 829, 373, 374, 375, 376, 377, 378, 379, 380, 381, 382, 327, 328, 23, 329, 128, 383, 323, 324, 325, 52, 53, 326, 384, 385, 386, 33, 387, 65, 388, 389, 390, 830, 831, 832, 833, 834, 474, 475, 476, 477, 478, 479, 480, 481, 482, 483, 484, 485, 486, 487, 488, 489, 490, 491, 492, 835, 543, 544, 545, 546, 836, 506, 507, 508, 509, 510, 511, 512, 513, 564, 565, 566, 567, 568, 569, 570, 571, 34, 572, 573, 574, 575, 576, 335, 336, 337, 351, 577, 438, 439, 440, 441, 442, 443, 444, 445, 446, 447, 448, 449, 450, 451, 452, 453, 454, 455, 49, 578, 579, 580, 581, 582, 686, 687, 688, 689, 25, 330, 331, 332, 333, 334, 50, 51, 690, 691, 692, 693, 649, 348, 349, 350, 352, 353, 354, 355, 694, 695, 696, 697, 698, 242, 243, 129, 130, 131, 15, 132, 99, 39, 837, 804, 805, 806, 311, 615, 756, 757, 758, 759, 853, 854, 855, 856, 857, 858, 859, 860, 861, 862, 893, 894, 895, 896, 897, 898, 899, 900, 901, 902, 889, 890, 903, 904] (by decide +kernel) (by decide +kernel)
set_option maxRecDepth 20000 in
theorem gL_law_X5_digest : GoodIn wsL_law (wsV RL 118 RX5 yX5_digest wsX5_digest) := goodIn_app (goodIn_of _ (by decide +kernel)) ggL_law_X5_digest
set_option maxRecDepth 20000 in
theorem ggL_law_X6_digest : GoodIn wsL_law wsX6_digest := goodIn_r _ [841, 842, 843, 364, 370, 371, 105, 70, 844, 845, 846, 5, 847, 74, 75, 399, 400, 401, 402, 72, 73, 403, 404, 405, 406, 407, 408, 409, 410, 411, 848, 849, 850, 851, 852, 502, 503, 504, 518, 519, 520, 521, 607, 608, 609, 610, 587, 588, 589, 590, 78, 76, 591, 592, 593, 594, 465, 466, 467, 468, 77, 469, 470, 471, 472, 704, 705, 706, 707, 708, 709, 710, 711, 811, 812, 813, 814, 365, 636, 815, 816, 817, 818, 863, 864, 865, 866, 867, 868, 869, 870, 871, 872, 873, 874, 875, 876, 877, 878, 879, 880, 881, 882, 883, 884, 885, 886, 887, 888] (by decide +kernel) (by decide +kernel)
set_option maxRecDepth 20000 in
theorem gL_law_X6_digest : GoodIn wsL_law (wsV RL 122 RX6 yX6_digest wsX6_digest) := goodIn_app (goodIn_of _ (by decide +kernel)) ggL_law_X6_digest
