set_option maxRecDepth 20000 in
theorem ggL_law_X5_init : GoodIn wsL_law wsX5_init := goodIn_r _ [6, 7, 8, 9, 10, 11, 12, 13, 14, 15, 16, 17, 18, 19, 20, 21, 22, 23, 24, 25, 26, 27, 28, 29, 30, 31, 32, 3, 33, 34, 35, 36, 37, 38, 39, 40, 41, 42, 43, 44, 45, 46, 47, 48, 49, 50, 51, 52, 53, 54, 55, 56, 57, 58, 412, 413, 414, 415, 406, 407, 408, 409, 410, 411, 416, 417, 418, 419, 420, 421, 422, 423, 424, 425, 426, 427] rfl (by decide +kernel)
set_option maxRecDepth 20000 in
theorem gL_law_X5_init : GoodIn wsL_law (wsX5_init) := ggL_law_X5_init
set_option maxRecDepth 20000 in
theorem ggL_law_L_cell : GoodIn wsL_law wsL_cell := goodIn_r _ [62, 63, 64] rfl (by decide +kernel)
set_option maxRecDepth 20000 in
theorem gL_law_L_cell : GoodIn wsL_law (va_wsS RL 62 yL_cell wsL_cell) := goodIn_app (goodIn_of _ (by decide +kernel)) ggL_law_L_cell
set_option maxRecDepth 20000 in
theorem ggL_law_L_low : GoodIn wsL_law wsL_low := goodIn_r _ [67, 68] rfl (by decide +kernel)
set_option maxRecDepth 20000 in
theorem gL_law_L_low : GoodIn wsL_law (va_wsS RL 65 yL_low wsL_low) := goodIn_app (goodIn_of _ (by decide +kernel)) ggL_law_L_low
set_option maxRecDepth 20000 in
theorem ggL_law_L_wide : GoodIn wsL_law wsL_wide := goodIn_r _ [71] rfl (by decide +kernel)
set_option maxRecDepth 20000 in
theorem gL_law_L_wide : GoodIn wsL_law (va_wsS RL 10 yL_wide wsL_wide) := goodIn_app (goodIn_of _ (by decide +kernel)) ggL_law_L_wide
set_option maxRecDepth 20000 in
theorem ggL_law_L_high : GoodIn wsL_law wsL_high := goodIn_r _ [74] rfl (by decide +kernel)
set_option maxRecDepth 20000 in
theorem gL_law_L_high : GoodIn wsL_law (va_wsS RL 16 yL_high wsL_high) := goodIn_app (goodIn_of _ (by decide +kernel)) ggL_law_L_high
set_option maxRecDepth 20000 in
theorem ggL_law_L_layers : GoodIn wsL_law wsL_layers := goodIn_r _ [77, 69, 70, 61, 71, 72, 73, 74] rfl (by decide +kernel)
set_option maxRecDepth 20000 in
theorem gL_law_L_layers : GoodIn wsL_law (va_wsS RL 22 yL_layers wsL_layers) := goodIn_app (goodIn_of _ (by decide +kernel)) ggL_law_L_layers
set_option maxRecDepth 20000 in
theorem ggL_law_X5_fold : GoodIn wsL_law wsX5_fold := goodIn_r _ [81, 19, 13, 82, 83, 84, 18, 85, 48, 86, 87, 88, 89, 47, 90, 91, 92, 12, 93, 32, 33, 94, 95, 96, 97, 34, 35, 98, 99, 100, 22, 101, 39, 102, 40, 41, 103, 104, 105, 106, 107, 108, 109, 110, 111, 112, 113, 114, 115, 116, 117, 118, 119, 120, 121, 122, 123, 124, 125, 126, 127, 128, 129, 2, 130, 131, 132, 133, 134, 135, 136, 137, 406, 407, 408, 409, 410, 411, 416, 417, 412, 413, 414, 415, 418, 419, 420] rfl (by decide +kernel)
set_option maxRecDepth 20000 in
theorem gL_law_X5_fold : GoodIn wsL_law (wsV RL 68 RX5 yX5_fold wsX5_fold) := goodIn_app (goodIn_of _ (by decide +kernel)) ggL_law_X5_fold
set_option maxRecDepth 20000 in
theorem ggL_law_X5_unfold : GoodIn wsL_law wsX5_unfold := goodIn_r _ [141, 19, 13, 82, 83, 84, 18, 85, 48, 86, 87, 88, 89, 47, 90, 91, 92, 12, 93, 32, 33, 94, 95, 96, 97, 34, 35, 98, 99, 100, 22, 101, 39, 102, 40, 41, 142, 143, 144, 145, 146, 147, 148, 149, 150, 151, 152, 153, 154, 122, 108, 109, 127, 128, 129, 2, 130, 131, 132, 133, 134, 135, 136, 137, 406, 407, 408, 409, 410, 411, 416, 417, 412, 413, 414, 415, 418, 419, 420] rfl (by decide +kernel)
set_option maxRecDepth 20000 in
theorem gL_law_X5_unfold : GoodIn wsL_law (wsV RL 71 RX5 yX5_unfold wsX5_unfold) := goodIn_app (goodIn_of _ (by decide +kernel)) ggL_law_X5_unfold
set_option maxRecDepth 20000 in
theorem ggL_law_X5_open : GoodIn wsL_law wsX5_open := goodIn_r _ [158, 19, 13, 82, 83, 84, 18, 85, 48, 86, 87, 88, 89, 47, 90, 91, 92, 12, 93, 32, 33, 94, 95, 96, 97, 34, 35, 98, 99, 100, 22, 101, 39, 102, 40, 41, 159, 160, 161, 162, 146, 163, 164, 165, 166, 127, 128, 129, 2, 130, 131, 132, 133, 134, 135, 136, 137, 406, 407, 408, 409, 410, 411, 416, 417, 412, 413, 414, 415, 418, 419, 420] rfl (by decide +kernel)
set_option maxRecDepth 20000 in
theorem gL_law_X5_open : GoodIn wsL_law (wsV RL 75 RX5 yX5_open wsX5_open) := goodIn_app (goodIn_of _ (by decide +kernel)) ggL_law_X5_open
set_option maxRecDepth 20000 in
theorem ggL_law_L_at : GoodIn wsL_law wsL_at := goodIn_r _ [169, 170, 171, 61, 172, 69, 70, 71, 72, 73, 74] rfl (by decide +kernel)
set_option maxRecDepth 20000 in
theorem gL_law_L_at : GoodIn wsL_law (va_wsS RL 26 yL_at wsL_at) := goodIn_app (goodIn_of _ (by decide +kernel)) ggL_law_L_at
set_option maxRecDepth 20000 in
theorem ggL_law_X5_punch : GoodIn wsL_law wsX5_punch := goodIn_r _ [176, 19, 13, 82, 83, 84, 18, 85, 48, 86, 87, 88, 89, 47, 90, 91, 92, 12, 93, 32, 33, 94, 95, 96, 97, 34, 35, 98, 99, 100, 22, 101, 39, 102, 40, 41, 177, 178, 179, 180, 181, 182, 183, 184, 185, 111, 112, 113, 186, 115, 116, 117, 123, 124, 125, 126, 187, 188, 189, 190, 191, 192, 193, 194, 195, 196, 197, 198, 199, 200, 201, 202, 151, 152, 153, 154, 203, 204, 205, 122, 108, 109, 206, 207, 208, 209, 2, 210, 127, 128, 129, 130, 131, 132, 133, 134, 135, 136, 137, 406, 407, 408, 409, 410, 411, 416, 417, 412, 413, 414, 415, 418, 419, 420] rfl (by decide +kernel)
set_option maxRecDepth 20000 in
theorem gL_law_X5_punch : GoodIn wsL_law (wsV RL 78 RX5 yX5_punch wsX5_punch) := goodIn_app (goodIn_of _ (by decide +kernel)) ggL_law_X5_punch
set_option maxRecDepth 20000 in
theorem ggL_law_L_firstWhole : GoodIn wsL_law wsL_firstWhole := goodIn_r _ [213, 75, 76, 61, 77, 69, 70, 71, 72, 73, 74, 167, 168, 169, 170, 171, 172] rfl (by decide +kernel)
set_option maxRecDepth 20000 in
theorem gL_law_L_firstWhole : GoodIn wsL_law (va_wsS RL 82 yL_firstWhole wsL_firstWhole) := goodIn_app (goodIn_of _ (by decide +kernel)) ggL_law_L_firstWhole
set_option maxRecDepth 20000 in
theorem ggL_law_L_where : GoodIn wsL_law wsL_where := goodIn_r _ [172, 69, 70, 61, 71, 72, 73, 74] rfl (by decide +kernel)
set_option maxRecDepth 20000 in
theorem gL_law_L_where : GoodIn wsL_law (va_wsS RL 19 yL_where wsL_where) := goodIn_app (goodIn_of _ (by decide +kernel)) ggL_law_L_where
set_option maxRecDepth 20000 in
theorem ggL_law_X5_ink : GoodIn wsL_law wsX5_ink := goodIn_r _ [217, 19, 13, 82, 83, 84, 18, 85, 48, 86, 87, 88, 89, 47, 90, 91, 92, 12, 93, 32, 33, 94, 95, 96, 97, 34, 35, 98, 99, 100, 22, 101, 39, 102, 40, 41, 218, 219, 220, 221, 181, 182, 183, 184, 185, 111, 112, 113, 186, 115, 116, 117, 222, 223, 224, 225, 123, 124, 125, 126, 226, 199, 200, 201, 202, 151, 152, 153, 154, 203, 204, 205, 122, 108, 109, 206, 207, 208, 209, 2, 210, 227, 228, 229, 230, 231, 232, 127, 128, 129, 130, 131, 132, 133, 134, 135, 136, 137, 406, 407, 408, 409, 410, 411, 416, 417, 412, 413, 414, 415, 418, 419, 420] rfl (by decide +kernel)
set_option maxRecDepth 20000 in
theorem gL_law_X5_ink : GoodIn wsL_law (wsV RL 86 RX5 yX5_ink wsX5_ink) := goodIn_app (goodIn_of _ (by decide +kernel)) ggL_law_X5_ink
set_option maxRecDepth 20000 in
theorem ggL_law_X5_mend : GoodIn wsL_law wsX5_mend := goodIn_r _ [236, 19, 13, 82, 83, 84, 18, 85, 48, 86, 87, 88, 89, 47, 90, 91, 92, 12, 93, 32, 33, 94, 95, 96, 97, 34, 35, 98, 99, 100, 22, 101, 39, 102, 40, 41, 237, 238, 239, 240, 241, 181, 182, 183, 184, 185, 111, 112, 113, 186, 115, 116, 117, 226, 199, 200, 201, 202, 124, 125, 126, 151, 152, 153, 154, 203, 204, 205, 122, 108, 109, 206, 207, 208, 209, 2, 210, 227, 228, 229, 230, 231, 232, 127, 128, 129, 130, 131, 132, 133, 134, 135, 136, 137, 406, 407, 408, 409, 410, 411, 416, 417, 412, 413, 414, 415, 418, 419, 420] rfl (by decide +kernel)
set_option maxRecDepth 20000 in
theorem gL_law_X5_mend : GoodIn wsL_law (wsV RL 89 RX5 yX5_mend wsX5_mend) := goodIn_app (goodIn_of _ (by decide +kernel)) ggL_law_X5_mend
set_option maxRecDepth 20000 in
theorem ggL_law_X5_aimHere : GoodIn wsL_law wsX5_aimHere := goodIn_r _ [245, 19, 13, 246, 247, 82, 83, 84, 18, 85, 48, 86, 87, 88, 89, 47, 90, 91, 92, 12, 93, 32, 33, 94, 95, 96, 97, 34, 35, 98, 99, 100, 22, 101, 39, 102, 40, 41, 248, 188, 189, 190, 191, 192, 193, 127, 128, 129, 2, 130, 131, 132, 133, 134, 135, 136, 137, 406, 407, 408, 409, 410, 411, 412, 413, 414, 415, 416, 417, 418, 419, 420] rfl (by decide +kernel)
set_option maxRecDepth 20000 in
theorem gL_law_X5_aimHere : GoodIn wsL_law (wsV RL 92 RX5 yX5_aimHere wsX5_aimHere) := goodIn_app (goodIn_of _ (by decide +kernel)) ggL_law_X5_aimHere
set_option maxRecDepth 20000 in
theorem ggL_law_X5_aim : GoodIn wsL_law wsX5_aim := goodIn_r _ [252, 19, 13, 82, 83, 84, 18, 85, 48, 86, 87, 88, 89, 47, 90, 91, 92, 12, 93, 32, 33, 94, 95, 96, 97, 34, 35, 98, 99, 100, 22, 101, 39, 102, 40, 41, 253, 254, 255, 256, 257, 2, 258, 259, 260, 127, 128, 129, 130, 131, 132, 133, 134, 135, 136, 137, 406, 407, 408, 409, 410, 411, 416, 417, 412, 413, 414, 415, 418, 419, 420] rfl (by decide +kernel)
set_option maxRecDepth 20000 in
theorem gL_law_X5_aim : GoodIn wsL_law (wsV RL 95 RX5 yX5_aim wsX5_aim) := goodIn_app (goodIn_of _ (by decide +kernel)) ggL_law_X5_aim
set_option maxRecDepth 20000 in
theorem ggL_law_L_paper : GoodIn wsL_law wsL_paper := goodIn_r _ [263, 69, 70, 61, 71, 75, 76, 77, 72, 73, 74, 170, 171, 172, 264, 265, 266, 2, 267, 13, 268, 269, 270, 271, 272, 273, 274, 22, 275, 40, 151, 152, 153, 154, 39, 122, 108, 109, 203, 204, 205, 276, 277, 278, 279, 280, 281, 282, 246, 283, 284, 285, 286, 287, 182, 183, 184, 185, 111, 112, 113, 41, 186, 115, 116, 117, 202, 124, 125, 126, 288, 199, 200, 201, 206, 207, 208, 289, 209, 210, 290, 227, 228, 291, 292, 293, 12, 294, 33, 295, 296, 297, 298, 299, 300, 301, 302, 303, 257, 258, 304, 259, 260, 305, 306, 307, 308, 247, 309, 310, 311, 312, 313, 314, 315, 316, 317, 318, 319, 320, 3, 321, 322, 323, 324, 325, 326, 327, 328, 329, 330, 331, 332, 333, 248, 188, 189, 190, 191, 192, 193, 334, 335, 336, 337, 338, 339, 340, 341, 342, 343, 344, 345, 346, 347, 348, 349, 350, 351, 352, 353, 354, 355, 356, 357, 358, 406, 407, 408, 409, 410, 411, 412, 413, 414, 415, 418, 419, 420] rfl (by decide +kernel)
set_option maxRecDepth 20000 in
theorem gL_law_L_paper : GoodIn wsL_law (va_wsS RL 98 yL_paper wsL_paper) := goodIn_app (goodIn_of _ (by decide +kernel)) ggL_law_L_paper
set_option maxRecDepth 20000 in
theorem ggL_law_L_isSame : GoodIn wsL_law wsL_isSame := goodIn_r _ [361] rfl (by decide +kernel)
set_option maxRecDepth 20000 in
theorem gL_law_L_isSame : GoodIn wsL_law (va_wsS RL 102 yL_isSame wsL_isSame) := goodIn_app (goodIn_of _ (by decide +kernel)) ggL_law_L_isSame
set_option maxRecDepth 20000 in
theorem ggL_law_L_punches : GoodIn wsL_law wsL_punches := goodIn_r _ [364, 3, 69, 70, 61, 71, 75, 76, 77, 72, 73, 74, 170, 171, 172] rfl (by decide +kernel)
set_option maxRecDepth 20000 in
theorem gL_law_L_punches : GoodIn wsL_law (va_wsS RL 106 yL_punches wsL_punches) := goodIn_app (goodIn_of _ (by decide +kernel)) ggL_law_L_punches
set_option maxRecDepth 20000 in
theorem ggL_law_X5_seen : GoodIn wsL_law wsX5_seen := goodIn_r _ [368, 13, 268, 369, 182, 183, 22, 184, 185, 111, 112, 113, 41, 186, 115, 116, 117, 40, 370, 223, 224, 12, 225, 32, 34, 123, 124, 125, 126, 226, 199, 200, 201, 202, 151, 152, 153, 154, 39, 203, 204, 205, 122, 108, 109, 206, 207, 208, 209, 2, 210, 227, 228, 289, 291, 292, 293, 294, 33, 406, 407, 408, 409, 410, 411, 412, 413, 414, 415, 418, 419, 420] rfl (by decide +kernel)
set_option maxRecDepth 20000 in
theorem gL_law_X5_seen : GoodIn wsL_law (wsV RL 110 RX5 yX5_seen wsX5_seen) := goodIn_app (goodIn_of _ (by decide +kernel)) ggL_law_X5_seen
set_option maxRecDepth 20000 in
theorem ggL_law_X5_ifPunched : GoodIn wsL_law wsX5_ifPunched := goodIn_r _ [374, 13, 268, 246, 333, 369, 182, 183, 22, 184, 185, 111, 112, 113, 41, 186, 115, 116, 117, 40, 328, 124, 125, 126, 375, 195, 196, 197, 198, 199, 200, 201, 202, 151, 152, 153, 154, 39, 203, 204, 205, 122, 108, 109, 206, 207, 208, 209, 2, 210, 334, 335, 336, 337, 338, 339, 340, 341, 342, 343, 344, 345, 346, 406, 407, 408, 409, 410, 411, 412, 413, 414, 415, 418, 419, 420] rfl (by decide +kernel)
set_option maxRecDepth 20000 in
theorem gL_law_X5_ifPunched : GoodIn wsL_law (wsV RL 113 RX5 yX5_ifPunched wsX5_ifPunched) := goodIn_app (goodIn_of _ (by decide +kernel)) ggL_law_X5_ifPunched
set_option maxRecDepth 20000 in
theorem ggL_law_L_pieces : GoodIn wsL_law wsL_pieces := goodIn_r _ [320, 3] rfl (by decide +kernel)
set_option maxRecDepth 20000 in
theorem gL_law_L_pieces : GoodIn wsL_law (va_wsS RL 52 yL_pieces wsL_pieces) := goodIn_app (goodIn_of _ (by decide +kernel)) ggL_law_L_pieces
set_option maxRecDepth 20000 in
theorem ggL_law_X5_symmetries : GoodIn wsL_law wsX5_symmetries := goodIn_r _ [379, 13, 246, 380, 381, 2, 382, 290, 227, 228, 406, 407, 408, 409, 410, 411, 412, 413, 414, 415] rfl (by decide +kernel)
set_option maxRecDepth 20000 in
theorem gL_law_X5_symmetries : GoodIn wsL_law (wsV RL 116 RX5 yX5_symmetries wsX5_symmetries) := goodIn_app (goodIn_of _ (by decide +kernel)) ggL_law_X5_symmetries
set_option maxRecDepth 20000 in
theorem ggL_law_X5_punches : GoodIn wsL_law wsX5_punches := goodIn_r _ [386, 13, 268, 247, 387, 388, 389, 22, 390, 185, 111, 112, 113, 41, 186, 115, 116, 117, 40, 202, 124, 125, 126, 391, 195, 196, 197, 198, 199, 200, 201, 151, 152, 153, 154, 39, 203, 204, 205, 122, 108, 109, 206, 207, 208, 209, 2, 210, 406, 407, 408, 409, 410, 411, 412, 413, 414, 415, 418, 419, 420] rfl (by decide +kernel)
set_option maxRecDepth 20000 in
theorem gL_law_X5_punches : GoodIn wsL_law (wsV RL 119 RX5 yX5_punches wsX5_punches) := goodIn_app (goodIn_of _ (by decide +kernel)) ggL_law_X5_punches
set_option maxRecDepth 20000 in
theorem ggL_law_X5_bestFolds : GoodIn wsL_law wsX5_bestFolds := goodIn_r _ [395, 396, 397, 398, 2, 399, 23, 13, 247, 400, 401, 402, 22, 403, 404, 164, 165, 166, 40, 41, 405, 119, 120, 121, 39, 122, 108, 109, 387, 388, 389, 390, 185, 111, 112, 113, 186, 115, 116, 117, 202, 124, 125, 126, 391, 195, 196, 197, 198, 199, 200, 201, 151, 152, 153, 154, 203, 204, 205, 206, 207, 208, 209, 210, 406, 407, 408, 409, 410, 411, 412, 413, 414, 415, 418, 419, 420] rfl (by decide +kernel)
set_option maxRecDepth 20000 in
theorem gL_law_X5_bestFolds : GoodIn wsL_law (wsV RL 121 RX5 yX5_bestFolds wsX5_bestFolds) := goodIn_app (goodIn_of _ (by decide +kernel)) ggL_law_X5_bestFolds
