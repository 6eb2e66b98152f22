set_option maxRecDepth 20000 in
theorem ggL_law_X5_init : GoodIn wsL_law wsX5_init := goodIn_r _ [8, 9, 10, 11, 12, 13, 14, 15, 16, 17, 18, 19, 20, 21, 22, 23, 24, 25, 26, 27, 28, 29, 30, 31, 32, 33, 34, 35, 36, 37, 38, 39, 40, 41, 42, 43, 44, 45, 46, 47, 48, 49, 50, 51, 52, 53, 54, 55, 56, 57, 58, 59, 60, 61, 738, 739, 740, 741, 716, 717, 718, 719, 720, 721, 742, 743, 744, 745, 746, 747, 748, 749, 750, 751, 752, 753] rfl (by decide +kernel)
set_option maxRecDepth 20000 in
theorem gL_law_X5_init : GoodIn wsL_law (wsX5_init) := ggL_law_X5_init
set_option maxRecDepth 20000 in
theorem ggL_law_X6_init : GoodIn wsL_law wsX6_init := goodIn_r _ [64, 65, 10, 11, 35, 66, 67, 68, 69, 70, 71, 72, 73, 74, 722, 723, 724, 725, 726, 727, 728, 729, 730, 731, 732, 733, 734, 735, 736, 737] rfl (by decide +kernel)
set_option maxRecDepth 20000 in
theorem gL_law_X6_init : GoodIn wsL_law (wsX6_init) := ggL_law_X6_init
set_option maxRecDepth 20000 in
theorem ggL_law_X5_fold : GoodIn wsL_law wsX5_fold := goodIn_r _ [78, 21, 15, 79, 80, 81, 20, 82, 51, 83, 84, 85, 86, 50, 87, 88, 89, 14, 90, 34, 36, 91, 92, 93, 94, 37, 38, 95, 96, 97, 24, 98, 42, 99, 43, 44, 100, 101, 102, 103, 104, 105, 106, 107, 108, 109, 110, 111, 112, 113, 114, 115, 116, 117, 118, 119, 120, 121, 122, 123, 124, 125, 126, 2, 127, 128, 129, 130, 131, 132, 133, 134, 716, 717, 718, 719, 720, 721, 742, 743, 738, 739, 740, 741, 744, 745, 746] rfl (by decide +kernel)
set_option maxRecDepth 20000 in
theorem gL_law_X5_fold : GoodIn wsL_law (wsV RL 13 RX5 yX5_fold wsX5_fold) := goodIn_app (goodIn_of _ (by decide +kernel)) ggL_law_X5_fold
set_option maxRecDepth 20000 in
theorem ggL_law_X6_fold : GoodIn wsL_law wsX6_fold := goodIn_r _ [138, 139, 140, 141, 5, 142, 143, 144, 145, 146, 147, 148, 149, 150, 151, 66, 152, 153, 154, 155, 71, 156, 157, 158, 159, 72, 160, 161, 162, 163, 164, 165, 166, 167, 168, 169, 170, 171, 172, 173, 174, 67, 175, 176, 177, 178, 722, 723, 724, 725, 726, 727, 728, 729, 730, 731, 732, 733, 734, 735, 736, 737] rfl (by decide +kernel)
set_option maxRecDepth 20000 in
theorem gL_law_X6_fold : GoodIn wsL_law (wsV RL 17 RX6 yX6_fold wsX6_fold) := goodIn_app (goodIn_of _ (by decide +kernel)) ggL_law_X6_fold
set_option maxRecDepth 20000 in
theorem ggL_law_X5_unfold : GoodIn wsL_law wsX5_unfold := goodIn_r _ [182, 21, 15, 79, 80, 81, 20, 82, 51, 83, 84, 85, 86, 50, 87, 88, 89, 14, 90, 34, 36, 91, 92, 93, 94, 37, 38, 95, 96, 97, 24, 98, 42, 99, 43, 44, 183, 184, 185, 186, 187, 188, 189, 190, 191, 192, 193, 194, 195, 119, 105, 106, 124, 125, 126, 2, 127, 128, 129, 130, 131, 132, 133, 134, 716, 717, 718, 719, 720, 721, 742, 743, 738, 739, 740, 741, 744, 745, 746] rfl (by decide +kernel)
set_option maxRecDepth 20000 in
theorem gL_law_X5_unfold : GoodIn wsL_law (wsV RL 18 RX5 yX5_unfold wsX5_unfold) := goodIn_app (goodIn_of _ (by decide +kernel)) ggL_law_X5_unfold
set_option maxRecDepth 20000 in
theorem ggL_law_X6_unfold : GoodIn wsL_law wsX6_unfold := goodIn_r _ [199, 66, 170, 171, 172, 5, 173, 174, 67, 200, 201, 202, 203, 722, 723, 724, 725, 726, 727, 728, 729, 730, 731, 732, 733, 734, 735, 736, 737] rfl (by decide +kernel)
set_option maxRecDepth 20000 in
theorem gL_law_X6_unfold : GoodIn wsL_law (wsV RL 22 RX6 yX6_unfold wsX6_unfold) := goodIn_app (goodIn_of _ (by decide +kernel)) ggL_law_X6_unfold
set_option maxRecDepth 20000 in
theorem ggL_law_X5_open : GoodIn wsL_law wsX5_open := goodIn_r _ [207, 21, 15, 79, 80, 81, 20, 82, 51, 83, 84, 85, 86, 50, 87, 88, 89, 14, 90, 34, 36, 91, 92, 93, 94, 37, 38, 95, 96, 97, 24, 98, 42, 99, 43, 44, 208, 209, 210, 211, 187, 212, 213, 214, 215, 124, 125, 126, 2, 127, 128, 129, 130, 131, 132, 133, 134, 716, 717, 718, 719, 720, 721, 742, 743, 738, 739, 740, 741, 744, 745, 746] rfl (by decide +kernel)
set_option maxRecDepth 20000 in
theorem gL_law_X5_open : GoodIn wsL_law (wsV RL 23 RX5 yX5_open wsX5_open) := goodIn_app (goodIn_of _ (by decide +kernel)) ggL_law_X5_open
set_option maxRecDepth 20000 in
theorem ggL_law_X6_open : GoodIn wsL_law wsX6_open := goodIn_r _ [219, 66, 170, 171, 172, 5, 173, 174, 67, 200, 201, 202, 203, 722, 723, 724, 725, 726, 727, 728, 729, 730, 731, 732, 733, 734, 735, 736, 737] rfl (by decide +kernel)
set_option maxRecDepth 20000 in
theorem gL_law_X6_open : GoodIn wsL_law (wsV RL 26 RX6 yX6_open wsX6_open) := goodIn_app (goodIn_of _ (by decide +kernel)) ggL_law_X6_open
set_option maxRecDepth 20000 in
theorem ggL_law_X5_size : GoodIn wsL_law wsX5_size := goodIn_r _ [223, 15, 224, 225, 226, 108, 109, 24, 110, 44, 227, 112, 113, 114, 43, 228, 121, 122, 123, 716, 717, 718, 719, 720, 721, 738, 739, 740, 741, 744, 745, 746] rfl (by decide +kernel)
set_option maxRecDepth 20000 in
theorem gL_law_X5_size : GoodIn wsL_law (wsV RL 27 RX5 yX5_size wsX5_size) := goodIn_app (goodIn_of _ (by decide +kernel)) ggL_law_X5_size
set_option maxRecDepth 20000 in
theorem ggL_law_X6_size : GoodIn wsL_law wsX6_size := goodIn_r _ [232, 143, 144, 66, 148, 149, 150, 5, 151, 152, 153, 154, 155, 71, 156, 157, 158, 159, 72, 160, 161, 162, 163, 164, 165, 166, 167, 168, 169, 722, 723, 724, 725, 726, 727, 728, 729, 730, 731, 732, 733, 734, 735, 736, 737] rfl (by decide +kernel)
set_option maxRecDepth 20000 in
theorem gL_law_X6_size : GoodIn wsL_law (wsV RL 30 RX6 yX6_size wsX6_size) := goodIn_app (goodIn_of _ (by decide +kernel)) ggL_law_X6_size
set_option maxRecDepth 20000 in
theorem ggL_law_X5_foldAt : GoodIn wsL_law wsX5_foldAt := goodIn_r _ [236, 15, 224, 237, 238, 239, 24, 240, 43, 241, 193, 194, 195, 42, 716, 717, 718, 719, 720, 721, 738, 739, 740, 741, 744, 745, 746] rfl (by decide +kernel)
set_option maxRecDepth 20000 in
theorem gL_law_X5_foldAt : GoodIn wsL_law (wsV RL 31 RX5 yX5_foldAt wsX5_foldAt) := goodIn_app (goodIn_of _ (by decide +kernel)) ggL_law_X5_foldAt
set_option maxRecDepth 20000 in
theorem ggL_law_X6_foldAt : GoodIn wsL_law wsX6_foldAt := goodIn_r _ [245, 66, 145, 146, 5, 147, 722, 723, 724, 725, 726, 727, 728, 729, 730, 731, 732, 733, 734, 735, 736, 737] rfl (by decide +kernel)
set_option maxRecDepth 20000 in
theorem gL_law_X6_foldAt : GoodIn wsL_law (wsV RL 34 RX6 yX6_foldAt wsX6_foldAt) := goodIn_app (goodIn_of _ (by decide +kernel)) ggL_law_X6_foldAt
set_option maxRecDepth 20000 in
theorem ggL_law_X5_punch : GoodIn wsL_law wsX5_punch := goodIn_r _ [249, 21, 15, 79, 80, 81, 20, 82, 51, 83, 84, 85, 86, 50, 87, 88, 89, 14, 90, 34, 36, 91, 92, 93, 94, 37, 38, 95, 96, 97, 24, 98, 42, 99, 43, 44, 250, 251, 252, 253, 254, 255, 256, 257, 258, 108, 109, 110, 259, 112, 113, 114, 120, 121, 122, 123, 260, 261, 262, 263, 264, 265, 266, 267, 268, 269, 270, 271, 272, 273, 274, 275, 192, 193, 194, 195, 276, 277, 278, 119, 105, 106, 279, 280, 281, 282, 2, 283, 124, 125, 126, 127, 128, 129, 130, 131, 132, 133, 134, 716, 717, 718, 719, 720, 721, 742, 743, 738, 739, 740, 741, 744, 745, 746] rfl (by decide +kernel)
set_option maxRecDepth 20000 in
theorem gL_law_X5_punch : GoodIn wsL_law (wsV RL 35 RX5 yX5_punch wsX5_punch) := goodIn_app (goodIn_of _ (by decide +kernel)) ggL_law_X5_punch
set_option maxRecDepth 20000 in
theorem ggL_law_X6_punch : GoodIn wsL_law wsX6_punch := goodIn_r _ [287, 288, 289, 290, 5, 291, 292, 293, 294, 295, 143, 144, 148, 149, 150, 151, 66, 152, 153, 154, 155, 71, 156, 157, 158, 159, 72, 160, 161, 162, 163, 164, 165, 166, 167, 168, 169, 145, 146, 147, 170, 171, 172, 173, 174, 67, 296, 297, 298, 299, 722, 723, 724, 725, 726, 727, 728, 729, 730, 731, 732, 733, 734, 735, 736, 737] rfl (by decide +kernel)
set_option maxRecDepth 20000 in
theorem gL_law_X6_punch : GoodIn wsL_law (wsV RL 39 RX6 yX6_punch wsX6_punch) := goodIn_app (goodIn_of _ (by decide +kernel)) ggL_law_X6_punch
set_option maxRecDepth 20000 in
theorem ggL_law_X5_ink : GoodIn wsL_law wsX5_ink := goodIn_r _ [303, 21, 15, 79, 80, 81, 20, 82, 51, 83, 84, 85, 86, 50, 87, 88, 89, 14, 90, 34, 36, 91, 92, 93, 94, 37, 38, 95, 96, 97, 24, 98, 42, 99, 43, 44, 304, 305, 306, 307, 254, 255, 256, 257, 258, 108, 109, 110, 259, 112, 113, 114, 308, 309, 310, 311, 120, 121, 122, 123, 312, 272, 273, 274, 275, 192, 193, 194, 195, 276, 277, 278, 119, 105, 106, 279, 280, 281, 282, 2, 283, 313, 314, 315, 316, 317, 318, 124, 125, 126, 127, 128, 129, 130, 131, 132, 133, 134, 716, 717, 718, 719, 720, 721, 742, 743, 738, 739, 740, 741, 744, 745, 746] rfl (by decide +kernel)
set_option maxRecDepth 20000 in
theorem gL_law_X5_ink : GoodIn wsL_law (wsV RL 40 RX5 yX5_ink wsX5_ink) := goodIn_app (goodIn_of _ (by decide +kernel)) ggL_law_X5_ink
set_option maxRecDepth 20000 in
theorem ggL_law_X6_ink : GoodIn wsL_law wsX6_ink := goodIn_r _ [322, 323, 324, 325, 5, 326, 292, 293, 294, 295, 143, 144, 148, 149, 150, 151, 66, 152, 153, 154, 155, 71, 156, 157, 158, 159, 72, 160, 161, 162, 163, 164, 165, 166, 167, 168, 169, 145, 146, 147, 170, 171, 172, 173, 174, 67, 327, 328, 329, 330, 331, 332, 333, 334, 722, 723, 724, 725, 726, 727, 728, 729, 730, 731, 732, 733, 734, 735, 736, 737] rfl (by decide +kernel)
set_option maxRecDepth 20000 in
theorem gL_law_X6_ink : GoodIn wsL_law (wsV RL 43 RX6 yX6_ink wsX6_ink) := goodIn_app (goodIn_of _ (by decide +kernel)) ggL_law_X6_ink
set_option maxRecDepth 20000 in
theorem ggL_law_X5_mend : GoodIn wsL_law wsX5_mend := goodIn_r _ [338, 21, 15, 79, 80, 81, 20, 82, 51, 83, 84, 85, 86, 50, 87, 88, 89, 14, 90, 34, 36, 91, 92, 93, 94, 37, 38, 95, 96, 97, 24, 98, 42, 99, 43, 44, 339, 340, 341, 342, 343, 254, 255, 256, 257, 258, 108, 109, 110, 259, 112, 113, 114, 312, 272, 273, 274, 275, 121, 122, 123, 192, 193, 194, 195, 276, 277, 278, 119, 105, 106, 279, 280, 281, 282, 2, 283, 313, 314, 315, 316, 317, 318, 124, 125, 126, 127, 128, 129, 130, 131, 132, 133, 134, 716, 717, 718, 719, 720, 721, 742, 743, 738, 739, 740, 741, 744, 745, 746] rfl (by decide +kernel)
set_option maxRecDepth 20000 in
theorem gL_law_X5_mend : GoodIn wsL_law (wsV RL 44 RX5 yX5_mend wsX5_mend) := goodIn_app (goodIn_of _ (by decide +kernel)) ggL_law_X5_mend
set_option maxRecDepth 20000 in
theorem ggL_law_X6_mend : GoodIn wsL_law wsX6_mend := goodIn_r _ [347, 71, 66, 292, 293, 294, 5, 295, 143, 144, 148, 149, 150, 151, 152, 153, 154, 155, 156, 157, 158, 159, 72, 160, 161, 162, 163, 164, 165, 166, 167, 168, 169, 145, 146, 147, 170, 171, 172, 173, 174, 67, 722, 723, 724, 725, 726, 727, 728, 729, 730, 731, 732, 733, 734, 735, 736, 737] rfl (by decide +kernel)
set_option maxRecDepth 20000 in
theorem gL_law_X6_mend : GoodIn wsL_law (wsV RL 48 RX6 yX6_mend wsX6_mend) := goodIn_app (goodIn_of _ (by decide +kernel)) ggL_law_X6_mend
set_option maxRecDepth 20000 in
theorem ggL_law_X5_layer : GoodIn wsL_law wsX5_layer := goodIn_r _ [351, 15, 224, 352, 353, 354, 355, 24, 356, 357, 255, 256, 257, 258, 108, 109, 110, 44, 259, 112, 113, 114, 43, 275, 121, 122, 123, 358, 272, 273, 274, 192, 193, 194, 195, 42, 276, 277, 278, 119, 105, 106, 279, 280, 281, 359, 282, 2, 283, 360, 313, 314, 361, 362, 363, 14, 364, 36, 716, 717, 718, 719, 720, 721, 738, 739, 740, 741, 744, 745, 746] rfl (by decide +kernel)
set_option maxRecDepth 20000 in
theorem gL_law_X5_layer : GoodIn wsL_law (wsV RL 49 RX5 yX5_layer wsX5_layer) := goodIn_app (goodIn_of _ (by decide +kernel)) ggL_law_X5_layer
set_option maxRecDepth 20000 in
theorem ggL_law_X6_layer : GoodIn wsL_law wsX6_layer := goodIn_r _ [368, 71, 66, 292, 293, 294, 5, 295, 143, 144, 148, 149, 150, 151, 152, 153, 154, 155, 156, 157, 158, 159, 72, 160, 161, 162, 163, 164, 165, 166, 167, 168, 169, 145, 146, 147, 722, 723, 724, 725, 726, 727, 728, 729, 730, 731, 732, 733, 734, 735, 736, 737] rfl (by decide +kernel)
set_option maxRecDepth 20000 in
theorem gL_law_X6_layer : GoodIn wsL_law (wsV RL 53 RX6 yX6_layer wsX6_layer) := goodIn_app (goodIn_of _ (by decide +kernel)) ggL_law_X6_layer
set_option maxRecDepth 20000 in
theorem ggL_law_X5_seen : GoodIn wsL_law wsX5_seen := goodIn_r _ [372, 15, 224, 373, 255, 256, 24, 257, 258, 108, 109, 110, 44, 259, 112, 113, 114, 43, 374, 309, 310, 14, 311, 34, 37, 120, 121, 122, 123, 312, 272, 273, 274, 275, 192, 193, 194, 195, 42, 276, 277, 278, 119, 105, 106, 279, 280, 281, 282, 2, 283, 313, 314, 359, 361, 362, 363, 364, 36, 716, 717, 718, 719, 720, 721, 738, 739, 740, 741, 744, 745, 746] rfl (by decide +kernel)
set_option maxRecDepth 20000 in
theorem gL_law_X5_seen : GoodIn wsL_law (wsV RL 54 RX5 yX5_seen wsX5_seen) := goodIn_app (goodIn_of _ (by decide +kernel)) ggL_law_X5_seen
set_option maxRecDepth 20000 in
theorem ggL_law_X6_seen : GoodIn wsL_law wsX6_seen := goodIn_r _ [378, 66, 292, 293, 294, 5, 295, 143, 144, 148, 149, 150, 151, 152, 153, 154, 155, 71, 156, 157, 158, 159, 72, 160, 161, 162, 163, 164, 165, 166, 167, 168, 169, 145, 146, 147, 331, 332, 333, 334, 722, 723, 724, 725, 726, 727, 728, 729, 730, 731, 732, 733, 734, 735, 736, 737] rfl (by decide +kernel)
set_option maxRecDepth 20000 in
theorem gL_law_X6_seen : GoodIn wsL_law (wsV RL 57 RX6 yX6_seen wsX6_seen) := goodIn_app (goodIn_of _ (by decide +kernel)) ggL_law_X6_seen
set_option maxRecDepth 20000 in
theorem ggL_law_X5_where : GoodIn wsL_law wsX5_where := goodIn_r _ [382, 15, 224, 383, 384, 2, 385, 386, 387, 388, 24, 389, 43, 192, 193, 194, 195, 42, 119, 105, 106, 276, 277, 278, 390, 391, 392, 716, 717, 718, 719, 720, 721, 738, 739, 740, 741, 744, 745, 746] rfl (by decide +kernel)
set_option maxRecDepth 20000 in
theorem gL_law_X5_where : GoodIn wsL_law (wsV RL 58 RX5 yX5_where wsX5_where) := goodIn_app (goodIn_of _ (by decide +kernel)) ggL_law_X5_where
set_option maxRecDepth 20000 in
theorem ggL_law_X6_where : GoodIn wsL_law wsX6_where := goodIn_r _ [396, 71, 143, 397, 398, 5, 399, 145, 146, 147, 148, 149, 150, 151, 66, 152, 153, 154, 155, 144, 156, 157, 158, 159, 72, 160, 161, 162, 163, 164, 165, 166, 167, 168, 169, 722, 723, 724, 725, 726, 727, 728, 729, 730, 731, 732, 733, 734, 735, 736, 737] rfl (by decide +kernel)
set_option maxRecDepth 20000 in
theorem gL_law_X6_where : GoodIn wsL_law (wsV RL 61 RX6 yX6_where wsX6_where) := goodIn_app (goodIn_of _ (by decide +kernel)) ggL_law_X6_where
set_option maxRecDepth 20000 in
theorem ggL_law_X5_colour : GoodIn wsL_law wsX5_colour := goodIn_r _ [403, 15, 383, 384, 2, 385, 361, 362, 363, 14, 364, 36, 716, 717, 718, 719, 720, 721, 738, 739, 740, 741] rfl (by decide +kernel)
set_option maxRecDepth 20000 in
theorem gL_law_X5_colour : GoodIn wsL_law (wsV RL 62 RX5 yX5_colour wsX5_colour) := goodIn_app (goodIn_of _ (by decide +kernel)) ggL_law_X5_colour
set_option maxRecDepth 20000 in
theorem ggL_law_X6_colour : GoodIn wsL_law wsX6_colour := goodIn_r _ [407, 66, 397, 398, 5, 399, 145, 146, 147, 722, 723, 724, 725, 726, 727, 728, 729, 730, 731, 732, 733, 734, 735, 736, 737] rfl (by decide +kernel)
set_option maxRecDepth 20000 in
theorem gL_law_X6_colour : GoodIn wsL_law (wsV RL 65 RX6 yX6_colour wsX6_colour) := goodIn_app (goodIn_of _ (by decide +kernel)) ggL_law_X6_colour
set_option maxRecDepth 20000 in
theorem ggL_law_X5_holes : GoodIn wsL_law wsX5_holes := goodIn_r _ [411, 15, 352, 412, 413, 2, 414, 415, 416, 417, 716, 717, 718, 719, 720, 721, 738, 739, 740, 741] rfl (by decide +kernel)
set_option maxRecDepth 20000 in
theorem gL_law_X5_holes : GoodIn wsL_law (wsV RL 66 RX5 yX5_holes wsX5_holes) := goodIn_app (goodIn_of _ (by decide +kernel)) ggL_law_X5_holes
set_option maxRecDepth 20000 in
theorem ggL_law_X6_holes : GoodIn wsL_law wsX6_holes := goodIn_r _ [421, 145, 146, 5, 147, 422, 423, 424, 425, 66, 722, 723, 724, 725, 726, 727, 728, 729, 730, 731, 732, 733, 734, 735, 736, 737] rfl (by decide +kernel)
set_option maxRecDepth 20000 in
theorem gL_law_X6_holes : GoodIn wsL_law (wsV RL 69 RX6 yX6_holes wsX6_holes) := goodIn_app (goodIn_of _ (by decide +kernel)) ggL_law_X6_holes
set_option maxRecDepth 20000 in
theorem ggL_law_X5_count : GoodIn wsL_law wsX5_count := goodIn_r _ [429, 15, 352, 430, 431, 432, 261, 262, 263, 264, 265, 266, 433, 434, 435, 436, 437, 438, 439, 440, 441, 442, 443, 444, 445, 446, 447, 448, 449, 450, 451, 452, 453, 454, 455, 456, 14, 457, 36, 716, 717, 718, 719, 720, 721, 738, 739, 740, 741] rfl (by decide +kernel)
set_option maxRecDepth 20000 in
theorem gL_law_X5_count : GoodIn wsL_law (wsV RL 70 RX5 yX5_count wsX5_count) := goodIn_app (goodIn_of _ (by decide +kernel)) ggL_law_X5_count
set_option maxRecDepth 20000 in
theorem ggL_law_X6_count : GoodIn wsL_law wsX6_count := goodIn_r _ [461, 66, 462, 463, 464, 5, 465, 466, 467, 468, 469, 73, 470, 471, 472, 473, 474, 475, 476, 477, 478, 479, 480, 481, 482, 483, 484, 485, 722, 723, 724, 725, 726, 727, 728, 729, 730, 731, 732, 733, 734, 735, 736, 737] rfl (by decide +kernel)
set_option maxRecDepth 20000 in
theorem gL_law_X6_count : GoodIn wsL_law (wsV RL 73 RX6 yX6_count wsX6_count) := goodIn_app (goodIn_of _ (by decide +kernel)) ggL_law_X6_count
set_option maxRecDepth 20000 in
theorem ggL_law_X5_symmetries : GoodIn wsL_law wsX5_symmetries := goodIn_r _ [489, 15, 352, 490, 491, 2, 492, 360, 313, 314, 716, 717, 718, 719, 720, 721, 738, 739, 740, 741] rfl (by decide +kernel)
set_option maxRecDepth 20000 in
theorem gL_law_X5_symmetries : GoodIn wsL_law (wsV RL 74 RX5 yX5_symmetries wsX5_symmetries) := goodIn_app (goodIn_of _ (by decide +kernel)) ggL_law_X5_symmetries
set_option maxRecDepth 20000 in
theorem ggL_law_X6_symmetries : GoodIn wsL_law wsX6_symmetries := goodIn_r _ [496, 422, 423, 424, 5, 425, 66, 722, 723, 724, 725, 726, 727, 728, 729, 730, 731, 732, 733, 734, 735, 736, 737] rfl (by decide +kernel)
set_option maxRecDepth 20000 in
theorem gL_law_X6_symmetries : GoodIn wsL_law (wsV RL 77 RX6 yX6_symmetries wsX6_symmetries) := goodIn_app (goodIn_of _ (by decide +kernel)) ggL_law_X6_symmetries
set_option maxRecDepth 20000 in
theorem ggL_law_X5_aim : GoodIn wsL_law wsX5_aim := goodIn_r _ [500, 21, 15, 79, 80, 81, 20, 82, 51, 83, 84, 85, 86, 50, 87, 88, 89, 14, 90, 34, 36, 91, 92, 93, 94, 37, 38, 95, 96, 97, 24, 98, 42, 99, 43, 44, 501, 502, 503, 504, 413, 2, 414, 416, 417, 124, 125, 126, 127, 128, 129, 130, 131, 132, 133, 134, 716, 717, 718, 719, 720, 721, 742, 743, 738, 739, 740, 741, 744, 745, 746] rfl (by decide +kernel)
set_option maxRecDepth 20000 in
theorem gL_law_X5_aim : GoodIn wsL_law (wsV RL 78 RX5 yX5_aim wsX5_aim) := goodIn_app (goodIn_of _ (by decide +kernel)) ggL_law_X5_aim
set_option maxRecDepth 20000 in
theorem ggL_law_X6_aim : GoodIn wsL_law wsX6_aim := goodIn_r _ [508, 66, 145, 146, 5, 147, 170, 171, 172, 173, 174, 67, 722, 723, 724, 725, 726, 727, 728, 729, 730, 731, 732, 733, 734, 735, 736, 737] rfl (by decide +kernel)
set_option maxRecDepth 20000 in
theorem gL_law_X6_aim : GoodIn wsL_law (wsV RL 81 RX6 yX6_aim wsX6_aim) := goodIn_app (goodIn_of _ (by decide +kernel)) ggL_law_X6_aim
set_option maxRecDepth 20000 in
theorem ggL_law_X5_aimHere : GoodIn wsL_law wsX5_aimHere := goodIn_r _ [512, 21, 15, 352, 431, 79, 80, 81, 20, 82, 51, 83, 84, 85, 86, 50, 87, 88, 89, 14, 90, 34, 36, 91, 92, 93, 94, 37, 38, 95, 96, 97, 24, 98, 42, 99, 43, 44, 432, 261, 262, 263, 264, 265, 266, 124, 125, 126, 2, 127, 128, 129, 130, 131, 132, 133, 134, 716, 717, 718, 719, 720, 721, 738, 739, 740, 741, 742, 743, 744, 745, 746] rfl (by decide +kernel)
set_option maxRecDepth 20000 in
theorem gL_law_X5_aimHere : GoodIn wsL_law (wsV RL 82 RX5 yX5_aimHere wsX5_aimHere) := goodIn_app (goodIn_of _ (by decide +kernel)) ggL_law_X5_aimHere
set_option maxRecDepth 20000 in
theorem ggL_law_X6_aimHere : GoodIn wsL_law wsX6_aimHere := goodIn_r _ [516, 66, 170, 171, 172, 5, 173, 174, 67, 517, 419, 420, 421, 145, 146, 147, 422, 423, 424, 425, 518, 459, 460, 461, 462, 463, 464, 465, 466, 467, 468, 469, 73, 470, 471, 472, 473, 474, 475, 476, 477, 478, 479, 480, 481, 482, 483, 484, 485, 722, 723, 724, 725, 726, 727, 728, 729, 730, 731, 732, 733, 734, 735, 736, 737] rfl (by decide +kernel)
set_option maxRecDepth 20000 in
theorem gL_law_X6_aimHere : GoodIn wsL_law (wsV RL 85 RX6 yX6_aimHere wsX6_aimHere) := goodIn_app (goodIn_of _ (by decide +kernel)) ggL_law_X6_aimHere
set_option maxRecDepth 20000 in
theorem ggL_law_X5_target : GoodIn wsL_law wsX5_target := goodIn_r _ [522, 15, 431, 412, 413, 2, 414, 415, 416, 417, 716, 717, 718, 719, 720, 721, 738, 739, 740, 741] rfl (by decide +kernel)
set_option maxRecDepth 20000 in
theorem gL_law_X5_target : GoodIn wsL_law (wsV RL 86 RX5 yX5_target wsX5_target) := goodIn_app (goodIn_of _ (by decide +kernel)) ggL_law_X5_target
set_option maxRecDepth 20000 in
theorem ggL_law_X6_target : GoodIn wsL_law wsX6_target := goodIn_r _ [526, 66, 145, 146, 5, 147, 722, 723, 724, 725, 726, 727, 728, 729, 730, 731, 732, 733, 734, 735, 736, 737] rfl (by decide +kernel)
set_option maxRecDepth 20000 in
theorem gL_law_X6_target : GoodIn wsL_law (wsV RL 89 RX6 yX6_target wsX6_target) := goodIn_app (goodIn_of _ (by decide +kernel)) ggL_law_X6_target
set_option maxRecDepth 20000 in
theorem ggL_law_X5_punches : GoodIn wsL_law wsX5_punches := goodIn_r _ [530, 15, 224, 431, 531, 532, 533, 24, 534, 258, 108, 109, 110, 44, 259, 112, 113, 114, 43, 275, 121, 122, 123, 535, 268, 269, 270, 271, 272, 273, 274, 192, 193, 194, 195, 42, 276, 277, 278, 119, 105, 106, 279, 280, 281, 282, 2, 283, 716, 717, 718, 719, 720, 721, 738, 739, 740, 741, 744, 745, 746] rfl (by decide +kernel)
set_option maxRecDepth 20000 in
theorem gL_law_X5_punches : GoodIn wsL_law (wsV RL 90 RX5 yX5_punches wsX5_punches) := goodIn_app (goodIn_of _ (by decide +kernel)) ggL_law_X5_punches
set_option maxRecDepth 20000 in
theorem ggL_law_X6_punches : GoodIn wsL_law wsX6_punches := goodIn_r _ [539, 148, 149, 150, 5, 151, 66, 152, 153, 154, 155, 143, 144, 71, 156, 157, 158, 159, 72, 160, 161, 162, 163, 164, 165, 166, 167, 168, 169, 540, 541, 542, 543, 482, 483, 484, 485, 722, 723, 724, 725, 726, 727, 728, 729, 730, 731, 732, 733, 734, 735, 736, 737] rfl (by decide +kernel)
set_option maxRecDepth 20000 in
theorem gL_law_X6_punches : GoodIn wsL_law (wsV RL 93 RX6 yX6_punches wsX6_punches) := goodIn_app (goodIn_of _ (by decide +kernel)) ggL_law_X6_punches
set_option maxRecDepth 20000 in
theorem ggL_law_X5_bestFolds : GoodIn wsL_law wsX5_bestFolds := goodIn_r _ [547, 548, 549, 550, 2, 551, 25, 15, 431, 552, 553, 554, 24, 555, 556, 213, 214, 215, 43, 44, 557, 116, 117, 118, 42, 119, 105, 106, 531, 532, 533, 534, 258, 108, 109, 110, 259, 112, 113, 114, 275, 121, 122, 123, 535, 268, 269, 270, 271, 272, 273, 274, 192, 193, 194, 195, 276, 277, 278, 279, 280, 281, 282, 283, 716, 717, 718, 719, 720, 721, 738, 739, 740, 741, 744, 745, 746] rfl (by decide +kernel)
set_option maxRecDepth 20000 in
theorem gL_law_X5_bestFolds : GoodIn wsL_law (wsV RL 94 RX5 yX5_bestFolds wsX5_bestFolds) := goodIn_app (goodIn_of _ (by decide +kernel)) ggL_law_X5_bestFolds
set_option maxRecDepth 20000 in
theorem ggL_law_X6_bestFolds : GoodIn wsL_law wsX6_bestFolds := goodIn_r _ [561, 152, 153, 154, 5, 155, 143, 144, 71, 66, 156, 157, 158, 159, 72, 160, 161, 162, 163, 164, 165, 166, 167, 168, 169, 540, 541, 542, 543, 482, 483, 484, 485, 722, 723, 724, 725, 726, 727, 728, 729, 730, 731, 732, 733, 734, 735, 736, 737] rfl (by decide +kernel)
set_option maxRecDepth 20000 in
theorem gL_law_X6_bestFolds : GoodIn wsL_law (wsV RL 97 RX6 yX6_bestFolds wsX6_bestFolds) := goodIn_app (goodIn_of _ (by decide +kernel)) ggL_law_X6_bestFolds
set_option maxRecDepth 20000 in
theorem ggL_law_X5_ifPunched : GoodIn wsL_law wsX5_ifPunched := goodIn_r _ [565, 15, 224, 352, 430, 373, 255, 256, 24, 257, 258, 108, 109, 110, 44, 259, 112, 113, 114, 43, 228, 121, 122, 123, 566, 268, 269, 270, 271, 272, 273, 274, 275, 192, 193, 194, 195, 42, 276, 277, 278, 119, 105, 106, 279, 280, 281, 282, 2, 283, 433, 434, 435, 436, 437, 438, 439, 440, 441, 442, 443, 444, 445, 716, 717, 718, 719, 720, 721, 738, 739, 740, 741, 744, 745, 746] rfl (by decide +kernel)
set_option maxRecDepth 20000 in
theorem gL_law_X5_ifPunched : GoodIn wsL_law (wsV RL 98 RX5 yX5_ifPunched wsX5_ifPunched) := goodIn_app (goodIn_of _ (by decide +kernel)) ggL_law_X5_ifPunched
set_option maxRecDepth 20000 in
theorem ggL_law_X6_ifPunched : GoodIn wsL_law wsX6_ifPunched := goodIn_r _ [570, 66, 71, 292, 293, 294, 5, 295, 143, 144, 148, 149, 150, 151, 152, 153, 154, 155, 156, 157, 158, 159, 72, 160, 161, 162, 163, 164, 165, 166, 167, 168, 169, 145, 146, 147, 462, 463, 464, 465, 466, 467, 468, 469, 73, 470, 471, 472, 473, 474, 475, 476, 477, 722, 723, 724, 725, 726, 727, 728, 729, 730, 731, 732, 733, 734, 735, 736, 737] rfl (by decide +kernel)
set_option maxRecDepth 20000 in
theorem gL_law_X6_ifPunched : GoodIn wsL_law (wsV RL 101 RX6 yX6_ifPunched wsX6_ifPunched) := goodIn_app (goodIn_of _ (by decide +kernel)) ggL_law_X6_ifPunched
set_option maxRecDepth 20000 in
theorem ggL_law_X5_append : GoodIn wsL_law wsX5_append := goodIn_r _ [574, 29, 575, 576, 577, 578, 28, 579, 56, 55, 716, 717, 718, 719, 720, 721, 747, 748, 749, 750, 751, 752, 753] rfl (by decide +kernel)
set_option maxRecDepth 20000 in
theorem gL_law_X5_append : GoodIn wsL_law (wsV RL 102 RX5 yX5_append wsX5_append) := goodIn_app (goodIn_of _ (by decide +kernel)) ggL_law_X5_append
set_option maxRecDepth 20000 in
theorem ggL_law_X6_append : GoodIn wsL_law wsX6_append := goodIn_r _ [583, 584, 70, 145, 146, 5, 147, 722, 723, 724, 725, 726, 727, 728, 729, 730, 731, 732, 733, 734, 735, 736, 737] rfl (by decide +kernel)
set_option maxRecDepth 20000 in
theorem gL_law_X6_append : GoodIn wsL_law (wsV RL 105 RX6 yX6_append wsX6_append) := goodIn_app (goodIn_of _ (by decide +kernel)) ggL_law_X6_append
set_option maxRecDepth 20000 in
theorem ggL_law_X5_clearText : GoodIn wsL_law wsX5_clearText := goodIn_r _ [588, 29, 575, 716, 717, 718, 719, 720, 721, 747, 748, 749, 750, 751, 752, 753] rfl (by decide +kernel)
set_option maxRecDepth 20000 in
theorem gL_law_X5_clearText : GoodIn wsL_law (wsV RL 106 RX5 yX5_clearText wsX5_clearText) := goodIn_app (goodIn_of _ (by decide +kernel)) ggL_law_X5_clearText
set_option maxRecDepth 20000 in
theorem ggL_law_X6_clearText : GoodIn wsL_law wsX6_clearText := goodIn_r _ [592, 584, 722, 723, 724, 725, 726, 727, 728, 729, 730, 731, 732, 733, 734, 735, 736, 737] rfl (by decide +kernel)
set_option maxRecDepth 20000 in
theorem gL_law_X6_clearText : GoodIn wsL_law (wsV RL 109 RX6 yX6_clearText wsX6_clearText) := goodIn_app (goodIn_of _ (by decide +kernel)) ggL_law_X6_clearText
set_option maxRecDepth 20000 in
theorem ggL_law_X5_errorPosition : GoodIn wsL_law wsX5_errorPosition := goodIn_r _ [596, 29, 597, 598, 599, 28, 600, 57, 56, 601, 602, 603, 604, 58, 605, 606, 607, 608, 55, 609, 610, 611, 612, 59, 60, 613, 614, 615, 616, 617, 618, 619, 620, 61, 621, 622, 451, 623, 624, 625, 626, 627, 716, 717, 718, 719, 720, 721, 747, 748, 749, 750, 751, 752, 753] rfl (by decide +kernel)
set_option maxRecDepth 20000 in
theorem gL_law_X5_errorPosition : GoodIn wsL_law (wsV RL 110 RX5 yX5_errorPosition wsX5_errorPosition) := goodIn_app (goodIn_of _ (by decide +kernel)) ggL_law_X5_errorPosition
set_option maxRecDepth 20000 in
theorem ggL_law_X6_errorPosition : GoodIn wsL_law wsX6_errorPosition := goodIn_r _ [631, 632, 633, 634, 584, 635, 636, 637, 5, 638, 74, 639, 640, 641, 642, 70, 643, 644, 645, 646, 647, 648, 649, 650, 651, 652, 653, 145, 146, 147, 654, 655, 656, 657, 722, 723, 724, 725, 726, 727, 728, 729, 730, 731, 732, 733, 734, 735, 736, 737] rfl (by decide +kernel)
set_option maxRecDepth 20000 in
theorem gL_law_X6_errorPosition : GoodIn wsL_law (wsV RL 113 RX6 yX6_errorPosition wsX6_errorPosition) := goodIn_app (goodIn_of _ (by decide +kernel)) ggL_law_X6_errorPosition
set_option maxRecDepth 20000 in
theorem ggL_law_X5_work : GoodIn wsL_law wsX5_work := goodIn_r _ [661, 29, 21, 15, 662, 575, 597, 598, 599, 28, 600, 57, 56, 601, 602, 603, 604, 58, 605, 606, 607, 608, 55, 609, 610, 611, 612, 59, 60, 613, 614, 615, 616, 617, 618, 619, 620, 61, 621, 622, 451, 623, 624, 625, 626, 627, 79, 80, 81, 20, 82, 51, 83, 84, 85, 86, 50, 87, 88, 89, 14, 90, 34, 36, 91, 92, 93, 94, 37, 38, 95, 96, 97, 24, 98, 42, 99, 43, 44, 663, 664, 665, 666, 2, 667, 668, 669, 670, 671, 100, 101, 102, 103, 104, 105, 106, 107, 108, 109, 110, 111, 112, 113, 114, 115, 116, 117, 118, 119, 120, 121, 122, 123, 183, 184, 185, 186, 187, 188, 189, 190, 191, 192, 193, 194, 195, 672, 673, 674, 675, 224, 228, 250, 251, 252, 253, 254, 255, 256, 257, 258, 259, 260, 261, 262, 263, 264, 265, 266, 267, 268, 269, 270, 271, 272, 273, 274, 275, 276, 277, 278, 279, 280, 281, 282, 283, 304, 305, 306, 307, 308, 309, 310, 311, 312, 313, 314, 315, 316, 317, 318, 128, 129, 130, 124, 125, 126, 127, 131, 132, 133, 134, 716, 717, 718, 719, 720, 721, 747, 748, 749, 750, 751, 752, 753, 742, 743, 738, 739, 740, 741, 744, 745, 746] rfl (by decide +kernel)
set_option maxRecDepth 20000 in
theorem gL_law_X5_work : GoodIn wsL_law (wsV RL 114 RX5 yX5_work wsX5_work) := goodIn_app (goodIn_of _ (by decide +kernel)) ggL_law_X5_work
set_option maxRecDepth 20000 in
theorem ggL_law_X6_work : GoodIn wsL_law wsX6_work := goodIn_r _ [679, 632, 584, 680, 629, 630, 5, 631, 633, 634, 635, 636, 637, 638, 74, 639, 640, 641, 642, 70, 643, 644, 645, 646, 647, 648, 649, 650, 651, 652, 653, 145, 146, 147, 654, 655, 656, 657, 170, 171, 172, 173, 174, 67, 66, 681, 682, 683, 684, 200, 201, 202, 203, 148, 149, 150, 151, 152, 153, 154, 155, 143, 144, 71, 156, 157, 158, 159, 72, 160, 161, 162, 163, 164, 165, 166, 167, 168, 169, 288, 289, 290, 291, 292, 293, 294, 295, 296, 297, 298, 299, 323, 324, 325, 326, 327, 328, 329, 330, 331, 332, 333, 334, 139, 140, 141, 142, 175, 176, 177, 178, 722, 723, 724, 725, 726, 727, 728, 729, 730, 731, 732, 733, 734, 735, 736, 737] rfl (by decide +kernel)
set_option maxRecDepth 20000 in
theorem gL_law_X6_work : GoodIn wsL_law (wsV RL 117 RX6 yX6_work wsX6_work) := goodIn_app (goodIn_of _ (by decide +kernel)) ggL_law_X6_work
set_option maxRecDepth 20000 in
theorem ggL_law_X5_undo : GoodIn wsL_law wsX5_undo := goodIn_r _ [688, 21, 15, 689, 690, 691, 692, 20, 693, 51, 83, 84, 85, 86, 50, 87, 88, 89, 14, 90, 34, 36, 91, 92, 93, 94, 37, 38, 95, 96, 97, 24, 98, 42, 99, 43, 44, 716, 717, 718, 719, 720, 721, 742, 743, 738, 739, 740, 741, 744, 745, 746] rfl (by decide +kernel)
set_option maxRecDepth 20000 in
theorem gL_law_X5_undo : GoodIn wsL_law (wsV RL 118 RX5 yX5_undo wsX5_undo) := goodIn_app (goodIn_of _ (by decide +kernel)) ggL_law_X5_undo
set_option maxRecDepth 20000 in
theorem ggL_law_X6_undo : GoodIn wsL_law wsX6_undo := goodIn_r _ [697, 174, 66, 67, 722, 723, 724, 725, 726, 727, 728, 729, 730, 731, 732, 733, 734, 735, 736, 737] rfl (by decide +kernel)
set_option maxRecDepth 20000 in
theorem gL_law_X6_undo : GoodIn wsL_law (wsV RL 121 RX6 yX6_undo wsX6_undo) := goodIn_app (goodIn_of _ (by decide +kernel)) ggL_law_X6_undo
set_option maxRecDepth 20000 in
theorem ggL_law_X5_save : GoodIn wsL_law wsX5_save := goodIn_r _ [701, 16, 15, 17, 224, 225, 702, 88, 89, 14, 90, 34, 36, 91, 92, 93, 94, 37, 38, 95, 96, 97, 24, 98, 42, 99, 43, 44, 716, 717, 718, 719, 720, 721, 738, 739, 740, 741, 744, 745, 746] rfl (by decide +kernel)
set_option maxRecDepth 20000 in
theorem gL_law_X5_save : GoodIn wsL_law (wsV RL 122 RX5 yX5_save wsX5_save) := goodIn_app (goodIn_of _ (by decide +kernel)) ggL_law_X5_save
set_option maxRecDepth 20000 in
theorem ggL_law_X6_save : GoodIn wsL_law wsX6_save := goodIn_r _ [706, 707, 68, 66, 722, 723, 724, 725, 726, 727, 728, 729, 730, 731, 732, 733, 734, 735, 736, 737] rfl (by decide +kernel)
set_option maxRecDepth 20000 in
theorem gL_law_X6_save : GoodIn wsL_law (wsV RL 125 RX6 yX6_save wsX6_save) := goodIn_app (goodIn_of _ (by decide +kernel)) ggL_law_X6_save
set_option maxRecDepth 20000 in
theorem ggL_law_X5_restore : GoodIn wsL_law wsX5_restore := goodIn_r _ [711, 17, 21, 15, 16, 224, 225, 79, 80, 81, 20, 82, 51, 83, 84, 85, 86, 50, 87, 88, 89, 14, 90, 34, 36, 91, 92, 93, 94, 37, 38, 95, 96, 97, 24, 98, 42, 99, 43, 44, 702, 124, 125, 126, 2, 127, 128, 129, 130, 131, 132, 133, 134, 716, 717, 718, 719, 720, 721, 738, 739, 740, 741, 744, 745, 746, 742, 743] rfl (by decide +kernel)
set_option maxRecDepth 20000 in
theorem gL_law_X5_restore : GoodIn wsL_law (wsV RL 126 RX5 yX5_restore wsX5_restore) := goodIn_app (goodIn_of _ (by decide +kernel)) ggL_law_X5_restore
set_option maxRecDepth 20000 in
theorem ggL_law_X6_restore : GoodIn wsL_law wsX6_restore := goodIn_r _ [715, 707, 66, 68, 170, 171, 172, 5, 173, 174, 67, 722, 723, 724, 725, 726, 727, 728, 729, 730, 731, 732, 733, 734, 735, 736, 737] rfl (by decide +kernel)
set_option maxRecDepth 20000 in
theorem gL_law_X6_restore : GoodIn wsL_law (wsV RL 129 RX6 yX6_restore wsX6_restore) := goodIn_app (goodIn_of _ (by decide +kernel)) ggL_law_X6_restore
