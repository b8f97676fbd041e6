/-! the law: its callees words -/
set_option maxRecDepth 20000 in
theorem ggL_law_X2_init : GoodIn wsL_law wsX2_init := goodIn_r _ [8, 9, 10, 11, 12, 13, 14, 15, 16, 17, 18, 19, 20, 21, 22, 23, 24, 25, 26, 27, 28, 29, 30, 31, 32, 33, 34, 35, 36, 37, 38, 39, 40, 370, 371, 372, 373, 374, 375, 376, 377, 352, 353, 378, 379, 380, 381, 382, 383] (by decide +kernel) (by decide +kernel)
set_option maxRecDepth 20000 in
theorem gL_law_X2_init : GoodIn wsL_law (wsX2_init) := ggL_law_X2_init
set_option maxRecDepth 20000 in
theorem ggL_law_X3_init : GoodIn wsL_law wsX3_init := goodIn_r _ [43, 44, 10, 11, 25, 45, 46, 47, 48, 49, 50, 51, 52, 53, 54, 55, 56, 57, 58, 354, 355, 356, 357, 358, 359, 360, 361, 362, 363, 364, 365, 366, 367, 368, 369] (by decide +kernel) (by decide +kernel)
set_option maxRecDepth 20000 in
theorem gL_law_X3_init : GoodIn wsL_law (wsX3_init) := ggL_law_X3_init
set_option maxRecDepth 20000 in
theorem ggL_law_X2_add : GoodIn wsL_law wsX2_add := goodIn_r _ [62, 63, 17, 64, 65, 66, 67, 68, 69, 70, 71, 2, 72, 73, 74, 75, 352, 353, 378, 379, 380, 381, 382, 383] (by decide +kernel) (by decide +kernel)
set_option maxRecDepth 20000 in
theorem gL_law_X2_add : GoodIn wsL_law (wsV RL 13 RX2 yX2_add wsX2_add) := goodIn_app (goodIn_of _ (by decide +kernel)) ggL_law_X2_add
set_option maxRecDepth 20000 in
theorem ggL_law_X3_add : GoodIn wsL_law wsX3_add := goodIn_r _ [79, 80, 81, 82, 45, 46, 47, 83, 48, 84, 85, 5, 86, 354, 355, 356, 357, 358, 359, 360, 361, 362, 363, 364, 365, 366, 367, 368, 369] (by decide +kernel) (by decide +kernel)
set_option maxRecDepth 20000 in
theorem gL_law_X3_add : GoodIn wsL_law (wsV RL 17 RX3 yX3_add wsX3_add) := goodIn_app (goodIn_of _ (by decide +kernel)) ggL_law_X3_add
set_option maxRecDepth 20000 in
theorem ggL_law_X2_change : GoodIn wsL_law wsX2_change := goodIn_r _ [90, 17, 68, 69, 91, 92, 93, 2, 94, 64, 73, 74, 75, 352, 353, 378, 379, 380, 381, 382, 383] (by decide +kernel) (by decide +kernel)
set_option maxRecDepth 20000 in
theorem gL_law_X2_change : GoodIn wsL_law (wsV RL 18 RX2 yX2_change wsX2_change) := goodIn_app (goodIn_of _ (by decide +kernel)) ggL_law_X2_change
set_option maxRecDepth 20000 in
theorem ggL_law_X3_change : GoodIn wsL_law wsX3_change := goodIn_r _ [98, 81, 47, 83, 48, 84, 85, 5, 86, 354, 355, 356, 357, 358, 359, 360, 361, 362, 363, 364, 365, 366, 367, 368, 369] (by decide +kernel) (by decide +kernel)
set_option maxRecDepth 20000 in
theorem gL_law_X3_change : GoodIn wsL_law (wsV RL 22 RX3 yX3_change wsX3_change) := goodIn_app (goodIn_of _ (by decide +kernel)) ggL_law_X3_change
set_option maxRecDepth 20000 in
theorem ggL_law_X2_supply : GoodIn wsL_law wsX2_supply := goodIn_r _ [102, 17, 103, 70, 71, 2, 72, 352, 353, 378, 379, 380, 381, 382, 383] (by decide +kernel) (by decide +kernel)
set_option maxRecDepth 20000 in
theorem gL_law_X2_supply : GoodIn wsL_law (wsV RL 23 RX2 yX2_supply wsX2_supply) := goodIn_app (goodIn_of _ (by decide +kernel)) ggL_law_X2_supply
set_option maxRecDepth 20000 in
theorem ggL_law_X3_supply : GoodIn wsL_law wsX3_supply := goodIn_r _ [107, 49, 84, 85, 5, 86, 354, 355, 356, 357, 358, 359, 360, 361, 362, 363, 364, 365, 366, 367, 368, 369] (by decide +kernel) (by decide +kernel)
set_option maxRecDepth 20000 in
theorem gL_law_X3_supply : GoodIn wsL_law (wsV RL 27 RX3 yX3_supply wsX3_supply) := goodIn_app (goodIn_of _ (by decide +kernel)) ggL_law_X3_supply
set_option maxRecDepth 20000 in
theorem ggL_law_X2_clear : GoodIn wsL_law wsX2_clear := goodIn_r _ [111, 17, 64, 103, 352, 353, 378, 379, 380, 381, 382, 383] (by decide +kernel) (by decide +kernel)
set_option maxRecDepth 20000 in
theorem gL_law_X2_clear : GoodIn wsL_law (wsV RL 28 RX2 yX2_clear wsX2_clear) := goodIn_app (goodIn_of _ (by decide +kernel)) ggL_law_X2_clear
set_option maxRecDepth 20000 in
theorem ggL_law_X3_clear : GoodIn wsL_law wsX3_clear := goodIn_r _ [115, 81, 49, 354, 355, 356, 357, 358, 359, 360, 361, 362, 363, 364, 365, 366, 367, 368, 369] (by decide +kernel) (by decide +kernel)
set_option maxRecDepth 20000 in
theorem gL_law_X3_clear : GoodIn wsL_law (wsV RL 31 RX3 yX3_clear wsX3_clear) := goodIn_app (goodIn_of _ (by decide +kernel)) ggL_law_X3_clear
