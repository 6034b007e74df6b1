set_option maxRecDepth 20000 in
theorem wsL_in_28 : GoodIn lw_tbl wsL_law_r28 := goodIn_p wsL_law_r28 [579, 934, 938, 585, 942, 589] (by decide +kernel) (by decide +kernel)
set_option maxRecDepth 20000 in
theorem wsL_in_29 : GoodIn lw_tbl wsL_law_r29 := goodIn_p wsL_law_r29 [593, 947, 598, 602, 606] (by decide +kernel) (by decide +kernel)
set_option maxRecDepth 20000 in
theorem wsL_in_30 : GoodIn lw_tbl wsL_law_r30 := goodIn_p wsL_law_r30 [610, 952, 957, 961, 615, 618] (by decide +kernel) (by decide +kernel)
set_option maxRecDepth 20000 in
theorem wsL_in_31 : GoodIn lw_tbl wsL_law_r31 := goodIn_p wsL_law_r31 [625, 965, 968, 972, 629] (by decide +kernel) (by decide +kernel)
set_option maxRecDepth 20000 in
theorem wsL_in_32 : GoodIn lw_tbl wsL_law_r32 := goodIn_p wsL_law_r32 [633, 636, 642, 647, 651, 976] (by decide +kernel) (by decide +kernel)
set_option maxRecDepth 20000 in
theorem wsL_in_33 : GoodIn lw_tbl wsL_law_r33 := goodIn_p wsL_law_r33 [982, 655, 659] (by decide +kernel) (by decide +kernel)
set_option maxRecDepth 20000 in
theorem wsL_in_34 : GoodIn lw_tbl wsL_law_r34 := goodIn_p wsL_law_r34 [990, 665, 994, 669, 998, 1002] (by decide +kernel) (by decide +kernel)
set_option maxRecDepth 20000 in
theorem wsL_in_35 : GoodIn lw_tbl wsL_law_r35 := goodIn_p wsL_law_r35 [1006, 673, 678, 682] (by decide +kernel) (by decide +kernel)
set_option maxRecDepth 20000 in
theorem wsL_in_36 : GoodIn lw_tbl wsL_law_r36 := goodIn_p wsL_law_r36 [1010, 1015, 1019] (by decide +kernel) (by decide +kernel)
