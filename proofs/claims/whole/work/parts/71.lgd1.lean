/-! the law: its callees words -/
set_option maxRecDepth 20000 in
theorem ggL_law_X2_arcs : GoodIn wsL_law wsX2_arcs := goodIn_r _ [119, 17, 64, 352, 353, 378, 379, 380, 381, 382, 383] (by decide +kernel) (by decide +kernel)
set_option maxRecDepth 20000 in
theorem gL_law_X2_arcs : GoodIn wsL_law (wsV RL 32 RX2 yX2_arcs wsX2_arcs) := goodIn_app (goodIn_of _ (by decide +kernel)) ggL_law_X2_arcs
set_option maxRecDepth 20000 in
theorem ggL_law_X3_arcs : GoodIn wsL_law wsX3_arcs := goodIn_r _ [123, 81, 354, 355, 356, 357, 358, 359, 360, 361, 362, 363, 364, 365, 366, 367, 368, 369] (by decide +kernel) (by decide +kernel)
set_option maxRecDepth 20000 in
theorem gL_law_X3_arcs : GoodIn wsL_law (wsV RL 36 RX3 yX3_arcs wsX3_arcs) := goodIn_app (goodIn_of _ (by decide +kernel)) ggL_law_X3_arcs
set_option maxRecDepth 20000 in
theorem ggL_law_X2_state : GoodIn wsL_law wsX2_state := goodIn_r _ [127, 15, 128, 129, 130, 131, 132, 14, 133, 24, 134, 26, 135, 27, 136, 28, 137, 138, 139, 140, 141, 142, 143, 144, 145, 31, 146, 147, 148, 149, 150, 151, 152, 153, 154, 29, 155, 156, 157, 158, 30, 159, 160, 161, 162, 163, 32, 164, 165, 166, 167, 168, 169, 170, 171, 172, 173, 174, 175, 176, 177, 178, 179, 180, 181, 182, 183, 184, 185, 186, 187, 188, 189, 190, 191, 192, 352, 353, 370, 371, 372, 373, 374, 375, 376, 377, 378, 379, 380, 381, 382, 383] (by decide +kernel) (by decide +kernel)
set_option maxRecDepth 20000 in
theorem gL_law_X2_state : GoodIn wsL_law (wsV RL 37 RX2 yX2_state wsX2_state) := goodIn_app (goodIn_of _ (by decide +kernel)) ggL_law_X2_state
set_option maxRecDepth 20000 in
theorem ggL_law_X3_state : GoodIn wsL_law wsX3_state := goodIn_r _ [196, 197, 198, 199, 5, 200, 49, 201, 202, 203, 204, 81, 50, 48, 205, 206, 207, 208, 209, 56, 83, 210, 211, 212, 213, 45, 46, 47, 214, 215, 216, 217, 57, 218, 219, 220, 221, 53, 58, 222, 223, 224, 225, 226, 227, 228, 229, 54, 55, 230, 231, 232, 233, 234, 235, 236, 237, 354, 355, 356, 357, 358, 359, 360, 361, 362, 363, 364, 365, 366, 367, 368, 369] (by decide +kernel) (by decide +kernel)
set_option maxRecDepth 20000 in
theorem gL_law_X3_state : GoodIn wsL_law (wsV RL 40 RX3 yX3_state wsX3_state) := goodIn_app (goodIn_of _ (by decide +kernel)) ggL_law_X3_state
set_option maxRecDepth 20000 in
theorem ggL_law_X2_cost : GoodIn wsL_law wsX2_cost := goodIn_r _ [241, 15, 242, 125, 126, 2, 127, 128, 129, 130, 131, 132, 14, 133, 24, 134, 26, 135, 27, 136, 28, 137, 138, 139, 140, 141, 142, 143, 144, 145, 31, 146, 147, 148, 149, 150, 151, 152, 153, 154, 29, 155, 156, 157, 158, 30, 159, 160, 161, 162, 163, 32, 164, 165, 166, 167, 168, 169, 170, 171, 172, 173, 174, 175, 176, 177, 178, 179, 180, 181, 182, 183, 184, 185, 186, 187, 188, 189, 190, 191, 192, 243, 244, 245, 246, 352, 353, 370, 371, 372, 373, 374, 375, 376, 377, 378, 379, 380, 381, 382, 383] (by decide +kernel) (by decide +kernel)
set_option maxRecDepth 20000 in
theorem gL_law_X2_cost : GoodIn wsL_law (wsV RL 41 RX2 yX2_cost wsX2_cost) := goodIn_app (goodIn_of _ (by decide +kernel)) ggL_law_X2_cost
set_option maxRecDepth 20000 in
theorem ggL_law_X3_cost : GoodIn wsL_law wsX3_cost := goodIn_r _ [250, 204, 197, 198, 199, 5, 200, 49, 201, 202, 203, 81, 50, 48, 205, 206, 207, 208, 209, 56, 83, 210, 211, 212, 213, 45, 46, 47, 214, 215, 216, 217, 57, 218, 219, 220, 221, 53, 58, 222, 223, 224, 225, 226, 227, 228, 229, 54, 55, 230, 231, 232, 233, 234, 235, 236, 237, 354, 355, 356, 357, 358, 359, 360, 361, 362, 363, 364, 365, 366, 367, 368, 369] (by decide +kernel) (by decide +kernel)
set_option maxRecDepth 20000 in
theorem gL_law_X3_cost : GoodIn wsL_law (wsV RL 44 RX3 yX3_cost wsX3_cost) := goodIn_app (goodIn_of _ (by decide +kernel)) ggL_law_X3_cost
set_option maxRecDepth 20000 in
theorem ggL_law_X2_amount : GoodIn wsL_law wsX2_amount := goodIn_r _ [254, 15, 17, 130, 131, 132, 14, 133, 24, 134, 26, 135, 27, 136, 28, 137, 138, 139, 140, 141, 142, 143, 144, 145, 31, 146, 147, 148, 149, 150, 151, 152, 153, 154, 29, 155, 156, 157, 158, 30, 159, 160, 161, 162, 163, 32, 164, 165, 166, 167, 168, 169, 170, 171, 172, 173, 174, 175, 176, 177, 178, 179, 180, 181, 182, 183, 184, 185, 186, 187, 188, 255, 256, 257, 23, 258, 40, 259, 2, 260, 261, 262, 263, 264, 265, 266, 267, 352, 353, 370, 371, 372, 373, 374, 375, 376, 377, 378, 379, 380, 381, 382, 383] (by decide +kernel) (by decide +kernel)
set_option maxRecDepth 20000 in
theorem gL_law_X2_amount : GoodIn wsL_law (wsV RL 45 RX2 yX2_amount wsX2_amount) := goodIn_app (goodIn_of _ (by decide +kernel)) ggL_law_X2_amount
set_option maxRecDepth 20000 in
theorem ggL_law_X3_amount : GoodIn wsL_law wsX3_amount := goodIn_r _ [271, 205, 206, 207, 5, 208, 81, 209, 49, 50, 56, 83, 210, 211, 212, 213, 45, 46, 47, 48, 214, 215, 216, 217, 57, 218, 219, 220, 221, 53, 58, 222, 223, 224, 225, 354, 355, 356, 357, 358, 359, 360, 361, 362, 363, 364, 365, 366, 367, 368, 369] (by decide +kernel) (by decide +kernel)
set_option maxRecDepth 20000 in
theorem gL_law_X3_amount : GoodIn wsL_law (wsV RL 48 RX3 yX3_amount wsX3_amount) := goodIn_app (goodIn_of _ (by decide +kernel)) ggL_law_X3_amount
set_option maxRecDepth 20000 in
theorem ggL_law_X2_bottleneck : GoodIn wsL_law wsX2_bottleneck := goodIn_r _ [275, 15, 130, 131, 132, 14, 133, 24, 134, 26, 135, 27, 136, 28, 137, 138, 139, 140, 141, 142, 143, 144, 145, 31, 146, 147, 148, 149, 150, 151, 152, 153, 154, 29, 155, 156, 157, 158, 30, 159, 160, 161, 162, 163, 32, 164, 165, 166, 167, 168, 169, 170, 171, 172, 173, 174, 175, 176, 177, 178, 179, 180, 181, 182, 183, 184, 185, 186, 187, 188, 276, 277, 278, 279, 352, 353, 370, 371, 372, 373, 374, 375, 376, 377, 378, 379, 380, 381, 382, 383] (by decide +kernel) (by decide +kernel)
set_option maxRecDepth 20000 in
theorem gL_law_X2_bottleneck : GoodIn wsL_law (wsV RL 49 RX2 yX2_bottleneck wsX2_bottleneck) := goodIn_app (goodIn_of _ (by decide +kernel)) ggL_law_X2_bottleneck
set_option maxRecDepth 20000 in
theorem ggL_law_X3_bottleneck : GoodIn wsL_law wsX3_bottleneck := goodIn_r _ [283, 202, 49, 81, 45, 46, 47, 284, 354, 355, 356, 357, 358, 359, 360, 361, 362, 363, 364, 365, 366, 367, 368, 369] (by decide +kernel) (by decide +kernel)
set_option maxRecDepth 20000 in
theorem gL_law_X3_bottleneck : GoodIn wsL_law (wsV RL 52 RX3 yX3_bottleneck wsX3_bottleneck) := goodIn_app (goodIn_of _ (by decide +kernel)) ggL_law_X3_bottleneck
