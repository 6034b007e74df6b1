set_option maxRecDepth 20000 in
theorem ggL_law_X6_as : GoodIn wsL_law wsX6_as := goodIn_r _ [423, 424, 72, 395, 396, 397, 5, 398, 364, 293, 294, 295, 863, 864, 865, 866, 867, 868, 869, 870, 871, 872, 873, 874, 875, 876, 877, 878, 879, 880, 881, 882, 883, 884, 885, 886, 887, 888] (by decide +kernel) (by decide +kernel)
set_option maxRecDepth 20000 in
theorem gL_law_X6_as : GoodIn wsL_law (wsV RL 41 RX6 yX6_as wsX6_as) := goodIn_app (goodIn_of _ (by decide +kernel)) ggL_law_X6_as
set_option maxRecDepth 20000 in
theorem ggL_law_X5_pour : GoodIn wsL_law wsX5_pour := goodIn_r _ [428, 24, 29, 429, 382, 327, 328, 23, 329, 128, 430, 431, 2, 432, 433, 434, 435, 28, 436, 58, 346, 437, 438, 439, 33, 440, 65, 389, 390, 441, 442, 443, 444, 445, 388, 446, 447, 448, 449, 351, 450, 451, 452, 453, 454, 455, 52, 49, 326, 853, 854, 855, 856, 857, 858, 859, 860, 861, 862, 899, 900, 901, 902, 893, 894, 895, 896, 897, 898, 903, 904] (by decide +kernel) (by decide +kernel)
set_option maxRecDepth 20000 in
theorem gL_law_X5_pour : GoodIn wsL_law (wsV RL 42 RX5 yX5_pour wsX5_pour) := goodIn_app (goodIn_of _ (by decide +kernel)) ggL_law_X5_pour
set_option maxRecDepth 20000 in
theorem ggL_law_X6_pour : GoodIn wsL_law wsX6_pour := goodIn_r _ [459, 460, 371, 395, 396, 397, 5, 398, 364, 293, 294, 295, 461, 462, 463, 464, 74, 411, 370, 465, 466, 467, 468, 76, 77, 72, 403, 404, 405, 406, 469, 470, 471, 472, 863, 864, 865, 866, 867, 868, 869, 870, 871, 872, 873, 874, 875, 876, 877, 878, 879, 880, 881, 882, 883, 884, 885, 886, 887, 888] (by decide +kernel) (by decide +kernel)
set_option maxRecDepth 20000 in
theorem gL_law_X6_pour : GoodIn wsL_law (wsV RL 45 RX6 yX6_pour wsX6_pour) := goodIn_app (goodIn_of _ (by decide +kernel)) ggL_law_X6_pour
set_option maxRecDepth 20000 in
theorem ggL_law_X5_in : GoodIn wsL_law wsX5_in := goodIn_r _ [476, 24, 477, 478, 29, 381, 479, 382, 327, 328, 23, 329, 128, 480, 481, 2, 482, 483, 484, 485, 486, 487, 488, 171, 489, 490, 491, 492, 853, 854, 855, 856, 857, 858, 859, 860, 861, 862, 899, 900, 901, 902, 903, 904, 893, 894, 895, 896, 897, 898] (by decide +kernel) (by decide +kernel)
set_option maxRecDepth 20000 in
theorem gL_law_X5_in : GoodIn wsL_law (wsV RL 46 RX5 yX5_in wsX5_in) := goodIn_app (goodIn_of _ (by decide +kernel)) ggL_law_X5_in
set_option maxRecDepth 20000 in
theorem ggL_law_X6_in : GoodIn wsL_law wsX6_in := goodIn_r _ [496, 497, 74, 498, 395, 396, 397, 5, 398, 364, 293, 294, 295, 499, 500, 501, 502, 503, 504, 411, 863, 864, 865, 866, 867, 868, 869, 870, 871, 872, 873, 874, 875, 876, 877, 878, 879, 880, 881, 882, 883, 884, 885, 886, 887, 888] (by decide +kernel) (by decide +kernel)
set_option maxRecDepth 20000 in
theorem gL_law_X6_in : GoodIn wsL_law (wsV RL 50 RX6 yX6_in wsX6_in) := goodIn_app (goodIn_of _ (by decide +kernel)) ggL_law_X6_in
set_option maxRecDepth 20000 in
theorem ggL_law_X5_all : GoodIn wsL_law wsX5_all := goodIn_r _ [508, 478, 29, 381, 509, 480, 481, 2, 482, 510, 511, 512, 33, 513, 65, 483, 484, 485, 486, 487, 488, 171, 489, 490, 491, 492, 853, 854, 855, 856, 857, 858, 859, 860, 861, 862, 899, 900, 901, 902, 903, 904] (by decide +kernel) (by decide +kernel)
set_option maxRecDepth 20000 in
theorem gL_law_X5_all : GoodIn wsL_law (wsV RL 51 RX5 yX5_all wsX5_all) := goodIn_app (goodIn_of _ (by decide +kernel)) ggL_law_X5_all
set_option maxRecDepth 20000 in
theorem ggL_law_X6_all : GoodIn wsL_law wsX6_all := goodIn_r _ [517, 370, 498, 499, 500, 5, 501, 293, 294, 295, 518, 519, 520, 521, 364, 74, 502, 503, 504, 411, 863, 864, 865, 866, 867, 868, 869, 870, 871, 872, 873, 874, 875, 876, 877, 878, 879, 880, 881, 882, 883, 884, 885, 886, 887, 888] (by decide +kernel) (by decide +kernel)
set_option maxRecDepth 20000 in
theorem gL_law_X6_all : GoodIn wsL_law (wsV RL 54 RX6 yX6_all wsX6_all) := goodIn_app (goodIn_of _ (by decide +kernel)) ggL_law_X6_all
set_option maxRecDepth 20000 in
theorem ggL_law_X5_drink : GoodIn wsL_law wsX5_drink := goodIn_r _ [525, 24, 376, 29, 382, 327, 328, 23, 329, 128, 526, 527, 528, 28, 529, 60, 58, 530, 531, 532, 33, 533, 65, 853, 854, 855, 856, 857, 858, 859, 860, 861, 862, 893, 894, 895, 896, 897, 898, 899, 900, 901, 902, 903, 904] (by decide +kernel) (by decide +kernel)
set_option maxRecDepth 20000 in
theorem gL_law_X5_drink : GoodIn wsL_law (wsV RL 55 RX5 yX5_drink wsX5_drink) := goodIn_app (goodIn_of _ (by decide +kernel)) ggL_law_X5_drink
set_option maxRecDepth 20000 in
theorem ggL_law_X6_drink : GoodIn wsL_law wsX6_drink := goodIn_r _ [537, 72, 395, 396, 397, 5, 398, 364, 293, 294, 295, 538, 539, 540, 541, 74, 75, 863, 864, 865, 866, 867, 868, 869, 870, 871, 872, 873, 874, 875, 876, 877, 878, 879, 880, 881, 882, 883, 884, 885, 886, 887, 888] (by decide +kernel) (by decide +kernel)
set_option maxRecDepth 20000 in
theorem gL_law_X6_drink : GoodIn wsL_law (wsV RL 59 RX6 yX6_drink wsX6_drink) := goodIn_app (goodIn_of _ (by decide +kernel)) ggL_law_X6_drink
set_option maxRecDepth 20000 in
theorem ggL_law_X5_drunk : GoodIn wsL_law wsX5_drunk := goodIn_r _ [545, 24, 477, 478, 29, 546, 382, 327, 328, 23, 329, 128, 480, 481, 2, 482, 483, 484, 485, 486, 487, 488, 171, 489, 490, 491, 492, 853, 854, 855, 856, 857, 858, 859, 860, 861, 862, 899, 900, 901, 902, 893, 894, 895, 896, 897, 898] (by decide +kernel) (by decide +kernel)
set_option maxRecDepth 20000 in
theorem gL_law_X5_drunk : GoodIn wsL_law (wsV RL 60 RX5 yX5_drunk wsX5_drunk) := goodIn_app (goodIn_of _ (by decide +kernel)) ggL_law_X5_drunk
set_option maxRecDepth 20000 in
theorem ggL_law_X6_drunk : GoodIn wsL_law wsX6_drunk := goodIn_r _ [550, 497, 75, 498, 395, 396, 397, 5, 398, 364, 293, 294, 295, 499, 500, 501, 502, 503, 504, 411, 863, 864, 865, 866, 867, 868, 869, 870, 871, 872, 873, 874, 875, 876, 877, 878, 879, 880, 881, 882, 883, 884, 885, 886, 887, 888] (by decide +kernel) (by decide +kernel)
set_option maxRecDepth 20000 in
theorem gL_law_X6_drunk : GoodIn wsL_law (wsV RL 63 RX6 yX6_drunk wsX6_drunk) := goodIn_app (goodIn_of _ (by decide +kernel)) ggL_law_X6_drunk
set_option maxRecDepth 20000 in
theorem ggL_law_X5_clear : GoodIn wsL_law wsX5_clear := goodIn_r _ [554, 29, 429, 555, 343, 344, 28, 345, 58, 60, 346, 347, 348, 349, 33, 350, 65, 351, 352, 353, 354, 355, 356, 853, 854, 855, 856, 857, 858, 859, 860, 861, 862, 899, 900, 901, 902, 903, 904] (by decide +kernel) (by decide +kernel)
set_option maxRecDepth 20000 in
theorem gL_law_X5_clear : GoodIn wsL_law (wsV RL 64 RX5 yX5_clear wsX5_clear) := goodIn_app (goodIn_of _ (by decide +kernel)) ggL_law_X5_clear
set_option maxRecDepth 20000 in
theorem ggL_law_X6_clear : GoodIn wsL_law wsX6_clear := goodIn_r _ [559, 371, 366, 367, 368, 5, 369, 74, 75, 370, 863, 864, 865, 866, 867, 868, 869, 870, 871, 872, 873, 874, 875, 876, 877, 878, 879, 880, 881, 882, 883, 884, 885, 886, 887, 888] (by decide +kernel) (by decide +kernel)
set_option maxRecDepth 20000 in
theorem gL_law_X6_clear : GoodIn wsL_law (wsV RL 67 RX6 yX6_clear wsX6_clear) := goodIn_app (goodIn_of _ (by decide +kernel)) ggL_law_X6_clear
