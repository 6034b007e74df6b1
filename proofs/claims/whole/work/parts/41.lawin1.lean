set_option maxRecDepth 20000 in
theorem wsL_in_10 : GoodIn lw_tbl wsL_law_r10 := goodIn_p wsL_law_r10 [326, 329, 332, 336, 341, 345] (by decide +kernel) (by decide +kernel)
set_option maxRecDepth 20000 in
theorem wsL_in_11 : GoodIn lw_tbl wsL_law_r11 := goodIn_p wsL_law_r11 [349, 352, 356, 360, 364, 368, 372] (by decide +kernel) (by decide +kernel)
set_option maxRecDepth 20000 in
theorem wsL_in_12 : GoodIn lw_tbl wsL_law_r12 := goodIn_p wsL_law_r12 [376, 786, 790, 794, 797] (by decide +kernel) (by decide +kernel)
set_option maxRecDepth 20000 in
theorem wsL_in_13 : GoodIn lw_tbl wsL_law_r13 := goodIn_p wsL_law_r13 [801, 806, 810, 814, 382] (by decide +kernel) (by decide +kernel)
set_option maxRecDepth 20000 in
theorem wsL_in_14 : GoodIn lw_tbl wsL_law_r14 := goodIn_p wsL_law_r14 [387, 391, 395, 399, 403] (by decide +kernel) (by decide +kernel)
set_option maxRecDepth 20000 in
theorem wsL_in_15 : GoodIn lw_tbl wsL_law_r15 := goodIn_p wsL_law_r15 [410, 414, 418, 421, 425] (by decide +kernel) (by decide +kernel)
set_option maxRecDepth 20000 in
theorem wsL_in_16 : GoodIn lw_tbl wsL_law_r16 := goodIn_p wsL_law_r16 [819, 823, 429] (by decide +kernel) (by decide +kernel)
set_option maxRecDepth 20000 in
theorem wsL_in_17 : GoodIn lw_tbl wsL_law_r17 := goodIn_p wsL_law_r17 [435, 827, 831, 835, 839] (by decide +kernel) (by decide +kernel)
set_option maxRecDepth 20000 in
theorem wsL_in_18 : GoodIn lw_tbl wsL_law_r18 := goodIn_p wsL_law_r18 [843, 441, 445, 848, 449] (by decide +kernel) (by decide +kernel)
