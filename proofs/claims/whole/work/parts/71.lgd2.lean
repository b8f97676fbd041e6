/-! the law: its callees words -/
set_option maxRecDepth 20000 in
theorem ggL_law_X2_marginal : GoodIn wsL_law wsX2_marginal := goodIn_r _ [288, 63, 15, 289, 70, 71, 2, 72, 242, 125, 126, 127, 128, 129, 130, 131, 132, 14, 133, 24, 134, 26, 135, 27, 136, 28, 137, 138, 139, 140, 141, 142, 143, 144, 145, 31, 146, 147, 148, 149, 150, 151, 152, 153, 154, 29, 155, 156, 157, 158, 30, 159, 160, 161, 162, 163, 32, 164, 165, 166, 167, 168, 169, 170, 171, 172, 173, 174, 175, 176, 177, 178, 179, 180, 181, 182, 183, 184, 185, 186, 187, 188, 189, 190, 191, 192, 290, 291, 292, 293, 294, 295, 296, 297, 352, 353, 370, 371, 372, 373, 374, 375, 376, 377, 378, 379, 380, 381, 382, 383] (by decide +kernel) (by decide +kernel)
set_option maxRecDepth 20000 in
theorem gL_law_X2_marginal : GoodIn wsL_law (wsV RL 53 RX2 yX2_marginal wsX2_marginal) := goodIn_app (goodIn_of _ (by decide +kernel)) ggL_law_X2_marginal
set_option maxRecDepth 20000 in
theorem ggL_law_X3_marginal : GoodIn wsL_law wsX3_marginal := goodIn_r _ [301, 80, 204, 49, 202, 84, 85, 5, 86, 197, 198, 199, 200, 201, 203, 81, 50, 48, 205, 206, 207, 208, 209, 56, 83, 210, 211, 212, 213, 45, 46, 47, 214, 215, 216, 217, 57, 218, 219, 220, 221, 53, 58, 222, 223, 224, 225, 226, 227, 228, 229, 54, 55, 230, 231, 232, 233, 234, 235, 236, 237, 354, 355, 356, 357, 358, 359, 360, 361, 362, 363, 364, 365, 366, 367, 368, 369] (by decide +kernel) (by decide +kernel)
set_option maxRecDepth 20000 in
theorem gL_law_X3_marginal : GoodIn wsL_law (wsV RL 57 RX3 yX3_marginal wsX3_marginal) := goodIn_app (goodIn_of _ (by decide +kernel)) ggL_law_X3_marginal
set_option maxRecDepth 20000 in
theorem ggL_law_X2_least : GoodIn wsL_law wsX2_least := goodIn_r _ [305, 63, 15, 91, 92, 93, 2, 94, 17, 64, 242, 125, 126, 127, 128, 129, 130, 131, 132, 14, 133, 24, 134, 26, 135, 27, 136, 28, 137, 138, 139, 140, 141, 142, 143, 144, 145, 31, 146, 147, 148, 149, 150, 151, 152, 153, 154, 29, 155, 156, 157, 158, 30, 159, 160, 161, 162, 163, 32, 164, 165, 166, 167, 168, 169, 170, 171, 172, 173, 174, 175, 176, 177, 178, 179, 180, 181, 182, 183, 184, 185, 186, 187, 188, 189, 190, 191, 192, 306, 307, 308, 309, 310, 311, 312, 313, 314, 315, 316, 317, 352, 353, 378, 379, 380, 381, 382, 383, 370, 371, 372, 373, 374, 375, 376, 377] (by decide +kernel) (by decide +kernel)
set_option maxRecDepth 20000 in
theorem gL_law_X2_least : GoodIn wsL_law (wsV RL 58 RX2 yX2_least wsX2_least) := goodIn_app (goodIn_of _ (by decide +kernel)) ggL_law_X2_least
set_option maxRecDepth 20000 in
theorem ggL_law_X3_least : GoodIn wsL_law wsX3_least := goodIn_r _ [321, 81, 80, 50, 45, 46, 84, 85, 5, 86, 197, 198, 199, 200, 49, 201, 202, 203, 204, 48, 205, 206, 207, 208, 209, 56, 83, 210, 211, 212, 213, 47, 214, 215, 216, 217, 57, 218, 219, 220, 221, 53, 58, 222, 223, 224, 225, 226, 227, 228, 229, 54, 55, 230, 231, 232, 233, 234, 235, 236, 237, 322, 323, 324, 325, 326, 327, 328, 329, 51, 354, 355, 356, 357, 358, 359, 360, 361, 362, 363, 364, 365, 366, 367, 368, 369] (by decide +kernel) (by decide +kernel)
set_option maxRecDepth 20000 in
theorem gL_law_X3_least : GoodIn wsL_law (wsV RL 62 RX3 yX3_least wsX3_least) := goodIn_app (goodIn_of _ (by decide +kernel)) ggL_law_X3_least
set_option maxRecDepth 20000 in
theorem ggL_law_X2_most : GoodIn wsL_law wsX2_most := goodIn_r _ [333, 63, 15, 289, 91, 92, 93, 2, 94, 17, 64, 242, 125, 126, 127, 128, 129, 130, 131, 132, 14, 133, 24, 134, 26, 135, 27, 136, 28, 137, 138, 139, 140, 141, 142, 143, 144, 145, 31, 146, 147, 148, 149, 150, 151, 152, 153, 154, 29, 155, 156, 157, 158, 30, 159, 160, 161, 162, 163, 32, 164, 165, 166, 167, 168, 169, 170, 171, 172, 173, 174, 175, 176, 177, 178, 179, 180, 181, 182, 183, 184, 185, 186, 187, 188, 189, 190, 191, 192, 306, 307, 308, 309, 310, 311, 312, 313, 314, 315, 316, 317, 352, 353, 378, 379, 380, 381, 382, 383, 370, 371, 372, 373, 374, 375, 376, 377] (by decide +kernel) (by decide +kernel)
set_option maxRecDepth 20000 in
theorem gL_law_X2_most : GoodIn wsL_law (wsV RL 63 RX2 yX2_most wsX2_most) := goodIn_app (goodIn_of _ (by decide +kernel)) ggL_law_X2_most
set_option maxRecDepth 20000 in
theorem ggL_law_X3_most : GoodIn wsL_law wsX3_most := goodIn_r _ [337, 81, 80, 84, 85, 5, 86, 197, 198, 199, 200, 49, 201, 202, 203, 204, 50, 48, 205, 206, 207, 208, 209, 56, 83, 210, 211, 212, 213, 45, 46, 47, 214, 215, 216, 217, 57, 218, 219, 220, 221, 53, 58, 222, 223, 224, 225, 226, 227, 228, 229, 54, 55, 230, 231, 232, 233, 234, 235, 236, 237, 338, 339, 340, 341, 284, 322, 323, 324, 325, 326, 327, 328, 329, 51, 354, 355, 356, 357, 358, 359, 360, 361, 362, 363, 364, 365, 366, 367, 368, 369] (by decide +kernel) (by decide +kernel)
set_option maxRecDepth 20000 in
theorem gL_law_X3_most : GoodIn wsL_law (wsV RL 66 RX3 yX3_most wsX3_most) := goodIn_app (goodIn_of _ (by decide +kernel)) ggL_law_X3_most
set_option maxRecDepth 20000 in
theorem ggL_law_X2_slack : GoodIn wsL_law wsX2_slack := goodIn_r _ [345, 289, 17, 68, 15, 67, 66, 69, 346, 165, 166, 167, 347, 331, 332, 2, 333, 63, 91, 92, 93, 94, 64, 242, 125, 126, 127, 128, 129, 130, 131, 132, 14, 133, 24, 134, 26, 135, 27, 136, 28, 137, 138, 139, 140, 141, 142, 143, 144, 145, 31, 146, 147, 148, 149, 150, 151, 152, 153, 154, 29, 155, 156, 157, 158, 30, 159, 160, 161, 162, 163, 32, 164, 168, 169, 170, 171, 172, 173, 174, 175, 176, 177, 178, 179, 180, 181, 182, 183, 184, 185, 186, 187, 188, 189, 190, 191, 192, 306, 307, 308, 309, 310, 311, 312, 313, 314, 315, 316, 317, 290, 291, 292, 293, 294, 295, 296, 297, 352, 353, 378, 379, 380, 381, 382, 383, 370, 371, 372, 373, 374, 375, 376, 377] (by decide +kernel) (by decide +kernel)
set_option maxRecDepth 20000 in
theorem gL_law_X2_slack : GoodIn wsL_law (wsV RL 67 RX2 yX2_slack wsX2_slack) := goodIn_app (goodIn_of _ (by decide +kernel)) ggL_law_X2_slack
set_option maxRecDepth 20000 in
theorem ggL_law_X3_slack : GoodIn wsL_law wsX3_slack := goodIn_r _ [351, 81, 80, 204, 48, 202, 84, 85, 5, 86, 197, 198, 199, 200, 49, 201, 203, 50, 205, 206, 207, 208, 209, 56, 83, 210, 211, 212, 213, 45, 46, 47, 214, 215, 216, 217, 57, 218, 219, 220, 221, 53, 58, 222, 223, 224, 225, 226, 227, 228, 229, 54, 55, 230, 231, 232, 233, 234, 235, 236, 237, 338, 339, 340, 341, 284, 322, 323, 324, 325, 326, 327, 328, 329, 51, 354, 355, 356, 357, 358, 359, 360, 361, 362, 363, 364, 365, 366, 367, 368, 369] (by decide +kernel) (by decide +kernel)
set_option maxRecDepth 20000 in
theorem gL_law_X3_slack : GoodIn wsL_law (wsV RL 70 RX3 yX3_slack wsX3_slack) := goodIn_app (goodIn_of _ (by decide +kernel)) ggL_law_X3_slack
