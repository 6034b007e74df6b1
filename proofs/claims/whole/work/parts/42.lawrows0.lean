set_option maxRecDepth 20000 in
theorem ggL_law_X5_init : GoodIn wsL_law wsX5_init := goodIn_r _ [9, 10, 11, 12, 13, 14, 15, 16, 17, 18, 19, 20, 21, 22, 23, 24, 25, 26, 27, 28, 29, 30, 31, 32, 33, 34, 35, 36, 37, 38, 39, 40, 41, 42, 43, 44, 45, 46, 47, 48, 49, 50, 51, 52, 53, 54, 55, 56, 57, 58, 59, 60, 61, 62, 63, 64, 65, 889, 890, 853, 854, 855, 856, 857, 858, 859, 860, 861, 862, 891, 892, 893, 894, 895, 896, 897, 898, 899, 900, 901, 902, 903, 904] (by decide +kernel) (by decide +kernel)
set_option maxRecDepth 20000 in
theorem gL_law_X5_init : GoodIn wsL_law (wsX5_init) := ggL_law_X5_init
set_option maxRecDepth 20000 in
theorem ggL_law_X6_init : GoodIn wsL_law wsX6_init := goodIn_r _ [68, 69, 11, 12, 48, 70, 71, 72, 73, 59, 74, 75, 76, 77, 78, 79, 80, 81, 82, 863, 864, 865, 866, 867, 868, 869, 870, 871, 872, 873, 874, 875, 876, 877, 878, 879, 880, 881, 882, 883, 884, 885, 886, 887, 888] (by decide +kernel) (by decide +kernel)
set_option maxRecDepth 20000 in
theorem gL_law_X6_init : GoodIn wsL_law (wsX6_init) := ggL_law_X6_init
set_option maxRecDepth 20000 in
theorem ggL_law_X5_letters : GoodIn wsL_law wsX5_letters := goodIn_r _ [86, 16, 87, 88, 89, 2, 90, 91, 92, 93, 94, 95, 96, 97, 15, 98, 99, 39, 853, 854, 855, 856, 857, 858, 859, 860, 861, 862, 889, 890] (by decide +kernel) (by decide +kernel)
set_option maxRecDepth 20000 in
theorem gL_law_X5_letters : GoodIn wsL_law (wsV RL 15 RX5 yX5_letters wsX5_letters) := goodIn_app (goodIn_of _ (by decide +kernel)) ggL_law_X5_letters
set_option maxRecDepth 20000 in
theorem ggL_law_X6_letters : GoodIn wsL_law wsX6_letters := goodIn_r _ [103, 104, 105, 70, 863, 864, 865, 866, 867, 868, 869, 870, 871, 872, 873, 874, 875, 876, 877, 878, 879, 880, 881, 882, 883, 884, 885, 886, 887, 888] (by decide +kernel) (by decide +kernel)
set_option maxRecDepth 20000 in
theorem gL_law_X6_letters : GoodIn wsL_law (wsV RL 19 RX6 yX6_letters wsX6_letters) := goodIn_app (goodIn_of _ (by decide +kernel)) ggL_law_X6_letters
set_option maxRecDepth 20000 in
theorem ggL_law_X5_blank : GoodIn wsL_law wsX5_blank := goodIn_r _ [109, 16, 87, 853, 854, 855, 856, 857, 858, 859, 860, 861, 862, 889, 890] (by decide +kernel) (by decide +kernel)
set_option maxRecDepth 20000 in
theorem gL_law_X5_blank : GoodIn wsL_law (wsV RL 20 RX5 yX5_blank wsX5_blank) := goodIn_app (goodIn_of _ (by decide +kernel)) ggL_law_X5_blank
set_option maxRecDepth 20000 in
theorem ggL_law_X6_blank : GoodIn wsL_law wsX6_blank := goodIn_r _ [113, 105, 863, 864, 865, 866, 867, 868, 869, 870, 871, 872, 873, 874, 875, 876, 877, 878, 879, 880, 881, 882, 883, 884, 885, 886, 887, 888] (by decide +kernel) (by decide +kernel)
set_option maxRecDepth 20000 in
theorem gL_law_X6_blank : GoodIn wsL_law (wsV RL 24 RX6 yX6_blank wsX6_blank) := goodIn_app (goodIn_of _ (by decide +kernel)) ggL_law_X6_blank
set_option maxRecDepth 20000 in
theorem ggL_law_X5_fault : GoodIn wsL_law wsX5_fault := goodIn_r _ [117, 20, 16, 87, 118, 119, 120, 19, 121, 44, 122, 123, 124, 125, 126, 23, 127, 128, 49, 52, 129, 130, 131, 15, 132, 99, 39, 133, 134, 135, 136, 137, 138, 139, 140, 141, 142, 143, 144, 145, 146, 147, 148, 149, 150, 151, 152, 153, 154, 155, 156, 157, 158, 159, 160, 161, 162, 163, 164, 165, 166, 167, 168, 169, 170, 171, 172, 173, 174, 175, 176, 177, 178, 179, 180, 181, 182, 183, 184, 185, 186, 187, 188, 189, 190, 191, 192, 193, 194, 195, 196, 197, 198, 199, 200, 201, 202, 203, 204, 205, 206, 207, 208, 209, 210, 211, 212, 213, 214, 215, 216, 217, 218, 219, 220, 221, 222, 223, 224, 225, 226, 227, 228, 229, 230, 231, 232, 233, 234, 235, 236, 237, 238, 239, 240, 241, 50, 51, 242, 2, 243, 244, 245, 246, 247, 248, 249, 250, 251, 252, 253, 254, 255, 256, 257, 258, 259, 53, 260, 261, 262, 263, 264, 265, 266, 267, 268, 853, 854, 855, 856, 857, 858, 859, 860, 861, 862, 889, 890, 891, 892, 893, 894, 895, 896, 897, 898] (by decide +kernel) (by decide +kernel)
set_option maxRecDepth 20000 in
theorem gL_law_X5_fault : GoodIn wsL_law (wsV RL 25 RX5 yX5_fault wsX5_fault) := goodIn_app (goodIn_of _ (by decide +kernel)) ggL_law_X5_fault
set_option maxRecDepth 20000 in
theorem ggL_law_X6_fault : GoodIn wsL_law wsX6_fault := goodIn_r _ [272, 273, 274, 275, 5, 276, 277, 278, 279, 105, 70, 280, 281, 282, 283, 71, 284, 285, 286, 287, 288, 289, 290, 291, 292, 293, 294, 295, 296, 297, 298, 299, 300, 301, 302, 303, 304, 863, 864, 865, 866, 867, 868, 869, 870, 871, 872, 873, 874, 875, 876, 877, 878, 879, 880, 881, 882, 883, 884, 885, 886, 887, 888] (by decide +kernel) (by decide +kernel)
set_option maxRecDepth 20000 in
theorem gL_law_X6_fault : GoodIn wsL_law (wsV RL 28 RX6 yX6_fault wsX6_fault) := goodIn_app (goodIn_of _ (by decide +kernel)) ggL_law_X6_fault
set_option maxRecDepth 20000 in
theorem ggL_law_X5_tower : GoodIn wsL_law wsX5_tower := goodIn_r _ [308, 16, 87, 20, 24, 309, 29, 310, 311, 312, 313, 115, 116, 2, 117, 118, 119, 120, 19, 121, 44, 122, 123, 124, 125, 126, 23, 127, 128, 49, 52, 129, 130, 131, 15, 132, 99, 39, 133, 134, 135, 136, 137, 138, 139, 140, 141, 142, 143, 144, 145, 146, 147, 148, 149, 150, 151, 152, 153, 154, 155, 156, 157, 158, 159, 160, 161, 162, 163, 164, 165, 166, 167, 168, 169, 170, 171, 172, 173, 174, 175, 176, 177, 178, 179, 180, 181, 182, 183, 184, 185, 186, 187, 188, 189, 190, 191, 192, 193, 194, 195, 196, 197, 198, 199, 200, 201, 202, 203, 204, 205, 206, 207, 208, 209, 210, 211, 212, 213, 214, 215, 216, 217, 218, 219, 220, 221, 222, 223, 224, 225, 226, 227, 228, 229, 230, 231, 232, 233, 234, 235, 236, 237, 238, 239, 240, 241, 50, 51, 242, 243, 244, 245, 246, 247, 248, 249, 250, 251, 252, 253, 254, 255, 256, 257, 258, 259, 53, 260, 261, 262, 263, 264, 265, 266, 267, 268, 314, 315, 316, 317, 318, 319, 320, 321, 322, 323, 324, 325, 326, 327, 328, 329, 330, 331, 332, 333, 334, 335, 336, 337, 338, 339, 340, 28, 341, 61, 342, 343, 344, 345, 58, 60, 346, 347, 348, 349, 33, 350, 65, 351, 352, 353, 354, 355, 356, 357, 358, 359, 853, 854, 855, 856, 857, 858, 859, 860, 861, 862, 889, 890, 891, 892, 893, 894, 895, 896, 897, 898, 899, 900, 901, 902, 903, 904] (by decide +kernel) (by decide +kernel)
set_option maxRecDepth 20000 in
theorem gL_law_X5_tower : GoodIn wsL_law (wsV RL 29 RX5 yX5_tower wsX5_tower) := goodIn_app (goodIn_of _ (by decide +kernel)) ggL_law_X5_tower
set_option maxRecDepth 20000 in
theorem ggL_law_X6_tower : GoodIn wsL_law wsX6_tower := goodIn_r _ [363, 105, 279, 278, 277, 364, 72, 71, 73, 365, 273, 274, 275, 5, 276, 70, 280, 281, 282, 283, 284, 285, 286, 287, 288, 289, 290, 291, 292, 293, 294, 295, 296, 297, 298, 299, 300, 301, 302, 303, 304, 366, 367, 368, 369, 74, 75, 370, 371, 863, 864, 865, 866, 867, 868, 869, 870, 871, 872, 873, 874, 875, 876, 877, 878, 879, 880, 881, 882, 883, 884, 885, 886, 887, 888] (by decide +kernel) (by decide +kernel)
set_option maxRecDepth 20000 in
theorem gL_law_X6_tower : GoodIn wsL_law (wsV RL 32 RX6 yX6_tower wsX6_tower) := goodIn_app (goodIn_of _ (by decide +kernel)) ggL_law_X6_tower
set_option maxRecDepth 20000 in
theorem ggL_law_X5_about : GoodIn wsL_law wsX5_about := goodIn_r _ [375, 24, 376, 377, 378, 379, 29, 380, 381, 382, 327, 328, 23, 329, 128, 383, 323, 324, 325, 52, 53, 326, 384, 385, 386, 33, 387, 65, 388, 389, 390, 853, 854, 855, 856, 857, 858, 859, 860, 861, 862, 893, 894, 895, 896, 897, 898, 899, 900, 901, 902, 903, 904] (by decide +kernel) (by decide +kernel)
set_option maxRecDepth 20000 in
theorem gL_law_X5_about : GoodIn wsL_law (wsV RL 33 RX5 yX5_about wsX5_about) := goodIn_app (goodIn_of _ (by decide +kernel)) ggL_law_X5_about
set_option maxRecDepth 20000 in
theorem ggL_law_X6_about : GoodIn wsL_law wsX6_about := goodIn_r _ [394, 395, 396, 397, 5, 398, 364, 293, 294, 295, 399, 400, 401, 402, 72, 73, 403, 404, 405, 406, 407, 408, 409, 410, 74, 411, 863, 864, 865, 866, 867, 868, 869, 870, 871, 872, 873, 874, 875, 876, 877, 878, 879, 880, 881, 882, 883, 884, 885, 886, 887, 888] (by decide +kernel) (by decide +kernel)
set_option maxRecDepth 20000 in
theorem gL_law_X6_about : GoodIn wsL_law (wsV RL 37 RX6 yX6_about wsX6_about) := goodIn_app (goodIn_of _ (by decide +kernel)) ggL_law_X6_about
set_option maxRecDepth 20000 in
theorem ggL_law_X5_as : GoodIn wsL_law wsX5_as := goodIn_r _ [415, 24, 382, 327, 328, 23, 329, 128, 416, 417, 418, 419, 49, 326, 853, 854, 855, 856, 857, 858, 859, 860, 861, 862, 893, 894, 895, 896, 897, 898] (by decide +kernel) (by decide +kernel)
set_option maxRecDepth 20000 in
theorem gL_law_X5_as : GoodIn wsL_law (wsV RL 38 RX5 yX5_as wsX5_as) := goodIn_app (goodIn_of _ (by decide +kernel)) ggL_law_X5_as
