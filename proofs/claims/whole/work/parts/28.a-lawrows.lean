set_option maxRecDepth 20000 in
theorem ggL_law_X2_init : GoodIn wsL_law wsX2_init := goodIn_r _ [10, 11, 12, 13, 14, 15, 16, 17, 18, 19, 20, 21, 22, 23, 24, 6, 25, 26, 27, 28, 29, 30, 31, 32, 33, 34, 35, 36, 37, 38, 39, 40, 41, 42, 43, 44, 45, 46, 47, 48, 672, 673, 674, 675, 676, 677, 678, 679, 680, 701, 702, 703, 704, 705, 706, 707, 708, 709, 710, 711, 712, 713, 714, 715, 716, 717, 718, 719, 720, 721, 722] (by decide +kernel) (by decide +kernel)
set_option maxRecDepth 20000 in
theorem gL_law_X2_init : GoodIn wsL_law (wsX2_init) := ggL_law_X2_init
set_option maxRecDepth 20000 in
theorem ggL_law_X3_init : GoodIn wsL_law wsX3_init := goodIn_r _ [51, 52, 12, 13, 23, 53, 54, 55, 56, 57, 58, 59, 60, 61, 62, 63, 6, 64, 65, 66, 67, 68, 69, 681, 682, 683, 684, 685, 686, 687, 688, 689, 690, 691, 692, 693, 694, 695, 696, 697, 698, 699, 700] (by decide +kernel) (by decide +kernel)
set_option maxRecDepth 20000 in
theorem gL_law_X3_init : GoodIn wsL_law (wsX3_init) := ggL_law_X3_init
set_option maxRecDepth 20000 in
theorem ggL_law_X2_bond : GoodIn wsL_law wsX2_bond := goodIn_r _ [73, 74, 15, 16, 75, 76, 2, 77, 78, 79, 80, 81, 82, 83, 28, 84, 85, 86, 87, 88, 89, 90, 91, 92, 93, 94, 95, 96, 97, 48, 98, 99, 100, 101, 102, 103, 104, 105, 106, 107, 108, 109, 110, 111, 112, 113, 114, 115, 116, 117, 118, 119, 120, 121, 122, 123, 672, 673, 674, 675, 676, 677, 678, 679, 680, 713, 714, 715, 716, 717, 718, 719, 720, 721, 722] (by decide +kernel) (by decide +kernel)
set_option maxRecDepth 20000 in
theorem gL_law_X2_bond : GoodIn wsL_law (wsV RL 40 RX2 yX2_bond wsX2_bond) := goodIn_app (goodIn_of _ (by decide +kernel)) ggL_law_X2_bond
set_option maxRecDepth 20000 in
theorem ggL_law_X3_bond : GoodIn wsL_law wsX3_bond := goodIn_r _ [127, 128, 129, 53, 130, 131, 5, 132, 133, 134, 135, 136, 137, 138, 139, 140, 141, 681, 682, 683, 684, 685, 686, 687, 688, 689, 690, 691, 692, 693, 694, 695, 696, 697, 698, 699, 700] (by decide +kernel) (by decide +kernel)
set_option maxRecDepth 20000 in
theorem gL_law_X3_bond : GoodIn wsL_law (wsV RL 44 RX3 yX3_bond wsX3_bond) := goodIn_app (goodIn_of _ (by decide +kernel)) ggL_law_X3_bond
set_option maxRecDepth 20000 in
theorem ggL_law_X2_drop : GoodIn wsL_law wsX2_drop := goodIn_r _ [145, 15, 74, 146, 147, 148, 2, 149, 75, 76, 77, 672, 673, 674, 675, 676, 677, 678, 679, 680] (by decide +kernel) (by decide +kernel)
set_option maxRecDepth 20000 in
theorem gL_law_X2_drop : GoodIn wsL_law (wsV RL 45 RX2 yX2_drop wsX2_drop) := goodIn_app (goodIn_of _ (by decide +kernel)) ggL_law_X2_drop
set_option maxRecDepth 20000 in
theorem ggL_law_X3_drop : GoodIn wsL_law wsX3_drop := goodIn_r _ [153, 128, 129, 53, 154, 155, 156, 5, 157, 139, 140, 141, 681, 682, 683, 684, 685, 686, 687, 688, 689, 690, 691, 692, 693, 694, 695, 696, 697, 698, 699, 700] (by decide +kernel) (by decide +kernel)
set_option maxRecDepth 20000 in
theorem gL_law_X3_drop : GoodIn wsL_law (wsV RL 49 RX3 yX3_drop wsX3_drop) := goodIn_app (goodIn_of _ (by decide +kernel)) ggL_law_X3_drop
set_option maxRecDepth 20000 in
theorem ggL_law_X2_alter : GoodIn wsL_law wsX2_alter := goodIn_r _ [161, 15, 146, 147, 148, 2, 149, 74, 75, 76, 77, 162, 163, 164, 28, 165, 89, 166, 167, 168, 169, 90, 170, 171, 172, 173, 91, 672, 673, 674, 675, 676, 677, 678, 679, 680, 713, 714, 715, 716, 717, 718, 719, 720, 721, 722] (by decide +kernel) (by decide +kernel)
set_option maxRecDepth 20000 in
theorem gL_law_X2_alter : GoodIn wsL_law (wsV RL 50 RX2 yX2_alter wsX2_alter) := goodIn_app (goodIn_of _ (by decide +kernel)) ggL_law_X2_alter
set_option maxRecDepth 20000 in
theorem ggL_law_X3_alter : GoodIn wsL_law wsX3_alter := goodIn_r _ [177, 128, 178, 136, 137, 179, 53, 154, 155, 156, 5, 157, 129, 139, 140, 141, 180, 181, 182, 183, 681, 682, 683, 684, 685, 686, 687, 688, 689, 690, 691, 692, 693, 694, 695, 696, 697, 698, 699, 700] (by decide +kernel) (by decide +kernel)
set_option maxRecDepth 20000 in
theorem gL_law_X3_alter : GoodIn wsL_law (wsV RL 54 RX3 yX3_alter wsX3_alter) := goodIn_app (goodIn_of _ (by decide +kernel)) ggL_law_X3_alter
set_option maxRecDepth 20000 in
theorem ggL_law_L_of : GoodIn wsL_law wsL_of := goodIn_ca (goodIn_r _ [187, 188, 189, 190, 191, 2, 192, 193, 194, 15, 195, 196, 197, 198, 199, 200, 201, 202, 146, 147, 148, 149, 74, 75, 76, 77, 203, 204, 205, 206, 17, 18, 672, 673, 674, 675, 676, 677, 678, 679, 680, 713, 714, 715, 716, 717, 718, 719, 720, 721, 722] (by decide +kernel) (by decide +kernel)) (goodIn_sub (fun _ h => List.mem_append_right _ h) (by decide +kernel))
set_option maxRecDepth 20000 in
theorem gL_law_L_of : GoodIn wsL_law (va_wsS RL 55 yL_of wsL_of) := goodIn_app (goodIn_of _ (by decide +kernel)) ggL_law_L_of
set_option maxRecDepth 20000 in
theorem ggL_law_X3_of : GoodIn wsL_law wsX3_of := goodIn_r _ [210, 128, 154, 155, 156, 5, 157, 129, 139, 140, 141, 211, 212, 213, 214, 180, 181, 182, 183, 53, 215, 216, 217, 218, 54, 219, 220, 221, 222, 223, 224, 225, 226, 227, 228, 229, 230, 231, 232, 233, 234, 235, 236, 237, 238, 239, 240, 61, 62, 55, 56, 681, 682, 683, 684, 685, 686, 687, 688, 689, 690, 691, 692, 693, 694, 695, 696, 697, 698, 699, 700] (by decide +kernel) (by decide +kernel)
set_option maxRecDepth 20000 in
theorem gL_law_X3_of : GoodIn wsL_law (wsV RL 60 RX3 yX3_of wsX3_of) := goodIn_app (goodIn_of _ (by decide +kernel)) ggL_law_X3_of
set_option maxRecDepth 20000 in
theorem ggL_law_X3_thrown : GoodIn wsL_law wsX3_thrown := goodIn_r _ [244, 128, 681, 682, 683, 684, 685, 686, 687, 688, 689, 690, 691, 692, 693, 694, 695, 696, 697, 698, 699, 700] (by decide +kernel) (by decide +kernel)
set_option maxRecDepth 20000 in
theorem gL_law_X3_thrown : GoodIn wsL_law (wsV RL 61 RX3 yX3_thrown wsX3_thrown) := goodIn_app (goodIn_of _ (by decide +kernel)) ggL_law_X3_thrown
set_option maxRecDepth 20000 in
theorem ggL_law_X2_flow : GoodIn wsL_law wsX2_flow := goodIn_r _ [248, 15, 197, 249, 146, 147, 148, 2, 149, 74, 75, 76, 77, 672, 673, 674, 675, 676, 677, 678, 679, 680, 713, 714, 715, 716, 717, 718, 719, 720, 721, 722] (by decide +kernel) (by decide +kernel)
set_option maxRecDepth 20000 in
theorem gL_law_X2_flow : GoodIn wsL_law (wsV RL 65 RX2 yX2_flow wsX2_flow) := goodIn_app (goodIn_of _ (by decide +kernel)) ggL_law_X2_flow
set_option maxRecDepth 20000 in
theorem ggL_law_X3_flow : GoodIn wsL_law wsX3_flow := goodIn_r _ [253, 128, 154, 155, 156, 5, 157, 129, 139, 140, 141, 180, 181, 182, 183, 53, 224, 225, 226, 227, 219, 228, 229, 230, 231, 232, 233, 234, 235, 236, 681, 682, 683, 684, 685, 686, 687, 688, 689, 690, 691, 692, 693, 694, 695, 696, 697, 698, 699, 700] (by decide +kernel) (by decide +kernel)
set_option maxRecDepth 20000 in
theorem gL_law_X3_flow : GoodIn wsL_law (wsV RL 68 RX3 yX3_flow wsX3_flow) := goodIn_app (goodIn_of _ (by decide +kernel)) ggL_law_X3_flow
set_option maxRecDepth 20000 in
theorem ggL_law_X2_price : GoodIn wsL_law wsX2_price := goodIn_r _ [257, 15, 146, 147, 148, 2, 149, 74, 75, 76, 77, 258, 259, 260, 261, 262, 263, 28, 264, 89, 265, 266, 267, 268, 116, 117, 118, 119, 92, 120, 121, 122, 123, 87, 48, 98, 672, 673, 674, 675, 676, 677, 678, 679, 680, 713, 714, 715, 716, 717, 718, 719, 720, 721, 722] (by decide +kernel) (by decide +kernel)
set_option maxRecDepth 20000 in
theorem gL_law_X2_price : GoodIn wsL_law (wsV RL 69 RX2 yX2_price wsX2_price) := goodIn_app (goodIn_of _ (by decide +kernel)) ggL_law_X2_price
set_option maxRecDepth 20000 in
theorem ggL_law_X3_price : GoodIn wsL_law wsX3_price := goodIn_r _ [272, 128, 154, 155, 156, 5, 157, 129, 139, 140, 141, 273, 274, 275, 276, 277, 278, 279, 280, 180, 181, 182, 183, 53, 220, 221, 222, 223, 219, 224, 225, 226, 227, 228, 229, 230, 231, 232, 233, 234, 235, 236, 681, 682, 683, 684, 685, 686, 687, 688, 689, 690, 691, 692, 693, 694, 695, 696, 697, 698, 699, 700] (by decide +kernel) (by decide +kernel)
set_option maxRecDepth 20000 in
theorem gL_law_X3_price : GoodIn wsL_law (wsV RL 72 RX3 yX3_price wsX3_price) := goodIn_app (goodIn_of _ (by decide +kernel)) ggL_law_X3_price
set_option maxRecDepth 20000 in
theorem ggL_law_X2_rateOf : GoodIn wsL_law wsX2_rateOf := goodIn_r _ [284, 15, 146, 147, 148, 2, 149, 74, 75, 76, 77, 261, 262, 263, 28, 264, 89, 265, 266, 267, 268, 116, 117, 118, 119, 92, 120, 121, 122, 123, 87, 48, 98, 672, 673, 674, 675, 676, 677, 678, 679, 680, 713, 714, 715, 716, 717, 718, 719, 720, 721, 722] (by decide +kernel) (by decide +kernel)
set_option maxRecDepth 20000 in
theorem gL_law_X2_rateOf : GoodIn wsL_law (wsV RL 73 RX2 yX2_rateOf wsX2_rateOf) := goodIn_app (goodIn_of _ (by decide +kernel)) ggL_law_X2_rateOf
set_option maxRecDepth 20000 in
theorem ggL_law_X3_rateOf : GoodIn wsL_law wsX3_rateOf := goodIn_r _ [288, 128, 154, 155, 156, 5, 157, 129, 139, 140, 141, 277, 278, 279, 280, 180, 181, 182, 183, 53, 220, 221, 222, 223, 219, 224, 225, 226, 227, 228, 229, 230, 231, 232, 233, 234, 235, 236, 681, 682, 683, 684, 685, 686, 687, 688, 689, 690, 691, 692, 693, 694, 695, 696, 697, 698, 699, 700] (by decide +kernel) (by decide +kernel)
set_option maxRecDepth 20000 in
theorem gL_law_X3_rateOf : GoodIn wsL_law (wsV RL 76 RX3 yX3_rateOf wsX3_rateOf) := goodIn_app (goodIn_of _ (by decide +kernel)) ggL_law_X3_rateOf
set_option maxRecDepth 20000 in
theorem ggL_law_X2_contract : GoodIn wsL_law wsX2_contract := goodIn_r _ [292, 16, 17, 18, 74, 15, 258, 259, 2, 260, 75, 76, 77, 111, 112, 113, 28, 114, 115, 116, 117, 118, 119, 92, 120, 121, 122, 123, 87, 48, 98, 672, 673, 674, 675, 676, 677, 678, 679, 680, 713, 714, 715, 716, 717, 718, 719, 720, 721, 722] (by decide +kernel) (by decide +kernel)
set_option maxRecDepth 20000 in
theorem gL_law_X2_contract : GoodIn wsL_law (wsV RL 77 RX2 yX2_contract wsX2_contract) := goodIn_app (goodIn_of _ (by decide +kernel)) ggL_law_X2_contract
set_option maxRecDepth 20000 in
theorem ggL_law_X3_contract : GoodIn wsL_law wsX3_contract := goodIn_r _ [296, 128, 135, 54, 55, 56, 273, 274, 5, 275, 276, 139, 140, 141, 681, 682, 683, 684, 685, 686, 687, 688, 689, 690, 691, 692, 693, 694, 695, 696, 697, 698, 699, 700] (by decide +kernel) (by decide +kernel)
set_option maxRecDepth 20000 in
theorem gL_law_X3_contract : GoodIn wsL_law (wsV RL 80 RX3 yX3_contract wsX3_contract) := goodIn_app (goodIn_of _ (by decide +kernel)) ggL_law_X3_contract
set_option maxRecDepth 20000 in
theorem ggL_law_X2_count : GoodIn wsL_law wsX2_count := goodIn_r _ [300, 74, 16, 17, 18, 22, 301, 302, 303, 304, 305, 306, 307, 308, 2, 309, 203, 204, 205, 206, 15, 201, 197, 202, 75, 76, 77, 310, 311, 312, 313, 200, 672, 673, 674, 675, 676, 677, 678, 679, 680, 701, 702, 703, 704, 705, 706, 707, 708, 709, 710, 711, 712, 713, 714, 715, 716, 717, 718, 719, 720, 721, 722] (by decide +kernel) (by decide +kernel)
set_option maxRecDepth 20000 in
theorem gL_law_X2_count : GoodIn wsL_law (wsV RL 81 RX2 yX2_count wsX2_count) := goodIn_app (goodIn_of _ (by decide +kernel)) ggL_law_X2_count
set_option maxRecDepth 20000 in
theorem ggL_law_X3_count : GoodIn wsL_law wsX3_count := goodIn_r _ [317, 128, 129, 54, 55, 56, 318, 57, 58, 319, 60, 320, 321, 322, 5, 323, 237, 238, 239, 240, 61, 62, 180, 181, 182, 183, 53, 139, 140, 141, 215, 216, 217, 218, 219, 220, 221, 222, 223, 224, 225, 226, 227, 228, 229, 230, 231, 232, 233, 234, 235, 236, 324, 325, 326, 327, 681, 682, 683, 684, 685, 686, 687, 688, 689, 690, 691, 692, 693, 694, 695, 696, 697, 698, 699, 700] (by decide +kernel) (by decide +kernel)
set_option maxRecDepth 20000 in
theorem gL_law_X3_count : GoodIn wsL_law (wsV RL 84 RX3 yX3_count wsX3_count) := goodIn_app (goodIn_of _ (by decide +kernel)) ggL_law_X3_count
set_option maxRecDepth 20000 in
theorem ggL_law_X2_cheapest : GoodIn wsL_law wsX2_cheapest := goodIn_r _ [331, 258, 259, 2, 260, 75, 76, 77, 306, 307, 308, 309, 74, 203, 204, 205, 206, 15, 201, 197, 17, 18, 202, 332, 333, 334, 335, 336, 337, 338, 339, 24, 340, 341, 342, 261, 262, 263, 28, 264, 89, 265, 266, 267, 268, 116, 117, 118, 119, 92, 120, 121, 122, 123, 87, 48, 98, 343, 344, 345, 346, 672, 673, 674, 675, 676, 677, 678, 679, 680, 713, 714, 715, 716, 717, 718, 719, 720, 721, 722] (by decide +kernel) (by decide +kernel)
set_option maxRecDepth 20000 in
theorem gL_law_X2_cheapest : GoodIn wsL_law (wsV RL 85 RX2 yX2_cheapest wsX2_cheapest) := goodIn_app (goodIn_of _ (by decide +kernel)) ggL_law_X2_cheapest
set_option maxRecDepth 20000 in
theorem ggL_law_X3_cheapest : GoodIn wsL_law wsX3_cheapest := goodIn_r _ [350, 128, 273, 274, 5, 275, 276, 139, 140, 141, 351, 352, 353, 354, 129, 237, 238, 239, 240, 61, 62, 55, 56, 180, 181, 182, 183, 53, 215, 216, 217, 218, 54, 219, 220, 221, 222, 223, 224, 225, 226, 227, 228, 229, 230, 231, 232, 233, 234, 235, 236, 355, 356, 357, 358, 277, 278, 279, 280, 681, 682, 683, 684, 685, 686, 687, 688, 689, 690, 691, 692, 693, 694, 695, 696, 697, 698, 699, 700] (by decide +kernel) (by decide +kernel)
set_option maxRecDepth 20000 in
theorem gL_law_X3_cheapest : GoodIn wsL_law (wsV RL 88 RX3 yX3_cheapest wsX3_cheapest) := goodIn_app (goodIn_of _ (by decide +kernel)) ggL_law_X3_cheapest
set_option maxRecDepth 20000 in
theorem ggL_law_X2_ranked : GoodIn wsL_law wsX2_ranked := goodIn_r _ [362, 74, 258, 259, 2, 260, 75, 76, 77, 306, 307, 308, 309, 203, 204, 205, 206, 15, 201, 197, 17, 18, 202, 336, 337, 338, 339, 24, 340, 341, 342, 261, 262, 263, 28, 264, 89, 265, 266, 267, 268, 116, 117, 118, 119, 92, 120, 121, 122, 123, 87, 48, 98, 363, 364, 365, 366, 343, 344, 345, 346, 672, 673, 674, 675, 676, 677, 678, 679, 680, 713, 714, 715, 716, 717, 718, 719, 720, 721, 722] (by decide +kernel) (by decide +kernel)
set_option maxRecDepth 20000 in
theorem gL_law_X2_ranked : GoodIn wsL_law (wsV RL 89 RX2 yX2_ranked wsX2_ranked) := goodIn_app (goodIn_of _ (by decide +kernel)) ggL_law_X2_ranked
set_option maxRecDepth 20000 in
theorem ggL_law_X3_ranked : GoodIn wsL_law wsX3_ranked := goodIn_r _ [370, 128, 129, 273, 274, 5, 275, 276, 139, 140, 141, 237, 238, 239, 240, 61, 62, 55, 56, 180, 181, 182, 183, 53, 215, 216, 217, 218, 54, 219, 220, 221, 222, 223, 224, 225, 226, 227, 228, 229, 230, 231, 232, 233, 234, 235, 236, 355, 356, 357, 358, 277, 278, 279, 280, 681, 682, 683, 684, 685, 686, 687, 688, 689, 690, 691, 692, 693, 694, 695, 696, 697, 698, 699, 700] (by decide +kernel) (by decide +kernel)
set_option maxRecDepth 20000 in
theorem gL_law_X3_ranked : GoodIn wsL_law (wsV RL 92 RX3 yX3_ranked wsX3_ranked) := goodIn_app (goodIn_of _ (by decide +kernel)) ggL_law_X3_ranked
set_option maxRecDepth 20000 in
theorem ggL_law_X2_mark : GoodIn wsL_law wsX2_mark := goodIn_r _ [374, 375, 258, 259, 2, 260, 75, 76, 77, 306, 307, 308, 309, 74, 203, 204, 205, 206, 15, 201, 197, 17, 18, 202, 376, 377, 378, 379, 24, 380, 332, 333, 334, 335, 336, 337, 338, 339, 340, 341, 342, 261, 262, 263, 28, 264, 89, 265, 266, 267, 268, 116, 117, 118, 119, 92, 120, 121, 122, 123, 87, 48, 98, 343, 344, 345, 346, 672, 673, 674, 675, 676, 677, 678, 679, 680, 713, 714, 715, 716, 717, 718, 719, 720, 721, 722] (by decide +kernel) (by decide +kernel)
set_option maxRecDepth 20000 in
theorem gL_law_X2_mark : GoodIn wsL_law (wsV RL 93 RX2 yX2_mark wsX2_mark) := goodIn_app (goodIn_of _ (by decide +kernel)) ggL_law_X2_mark
set_option maxRecDepth 20000 in
theorem ggL_law_X3_mark : GoodIn wsL_law wsX3_mark := goodIn_r _ [384, 128, 385, 273, 274, 5, 275, 276, 139, 140, 141, 386, 387, 388, 389, 320, 321, 322, 323, 129, 237, 238, 239, 240, 61, 62, 55, 56, 180, 181, 182, 183, 53, 215, 216, 217, 218, 54, 219, 220, 221, 222, 223, 224, 225, 226, 227, 228, 229, 230, 231, 232, 233, 234, 235, 236, 390, 391, 392, 393, 351, 352, 353, 354, 355, 356, 357, 358, 277, 278, 279, 280, 681, 682, 683, 684, 685, 686, 687, 688, 689, 690, 691, 692, 693, 694, 695, 696, 697, 698, 699, 700] (by decide +kernel) (by decide +kernel)
set_option maxRecDepth 20000 in
theorem gL_law_X3_mark : GoodIn wsL_law (wsV RL 96 RX3 yX3_mark wsX3_mark) := goodIn_app (goodIn_of _ (by decide +kernel)) ggL_law_X3_mark
set_option maxRecDepth 20000 in
theorem ggL_law_L_gap : GoodIn wsL_law wsL_gap := goodIn_ca (goodIn_r _ [396, 188, 397, 398, 399, 2, 400, 193, 194, 15, 146, 147, 148, 149, 74, 75, 76, 77, 203, 204, 205, 206, 201, 197, 17, 18, 202, 258, 259, 260, 306, 307, 308, 309, 376, 377, 378, 379, 375, 24, 380, 332, 333, 334, 335, 336, 337, 338, 339, 340, 341, 342, 261, 262, 263, 28, 264, 89, 265, 266, 267, 268, 116, 117, 118, 119, 92, 120, 121, 122, 123, 87, 48, 98, 343, 344, 345, 346, 401, 402, 403, 404, 115, 672, 673, 674, 675, 676, 677, 678, 679, 680, 713, 714, 715, 716, 717, 718, 719, 720, 721, 722] (by decide +kernel) (by decide +kernel)) (goodIn_sub (fun _ h => List.mem_append_right _ h) (by decide +kernel))
set_option maxRecDepth 20000 in
theorem gL_law_L_gap : GoodIn wsL_law (va_wsS RL 97 yL_gap wsL_gap) := goodIn_app (goodIn_of _ (by decide +kernel)) ggL_law_L_gap
set_option maxRecDepth 20000 in
theorem ggL_law_X3_gap : GoodIn wsL_law wsX3_gap := goodIn_r _ [408, 128, 154, 155, 156, 5, 157, 129, 139, 140, 141, 237, 238, 239, 240, 61, 62, 55, 56, 180, 181, 182, 183, 53, 215, 216, 217, 218, 54, 219, 220, 221, 222, 223, 224, 225, 226, 227, 228, 229, 230, 231, 232, 233, 234, 235, 236, 273, 274, 275, 276, 211, 212, 213, 214, 277, 278, 279, 280, 390, 391, 392, 393, 351, 352, 353, 354, 355, 356, 357, 358, 409, 410, 411, 412, 681, 682, 683, 684, 685, 686, 687, 688, 689, 690, 691, 692, 693, 694, 695, 696, 697, 698, 699, 700] (by decide +kernel) (by decide +kernel)
set_option maxRecDepth 20000 in
theorem gL_law_X3_gap : GoodIn wsL_law (wsV RL 99 RX3 yX3_gap wsX3_gap) := goodIn_app (goodIn_of _ (by decide +kernel)) ggL_law_X3_gap
set_option maxRecDepth 20000 in
theorem ggL_law_X2_switches : GoodIn wsL_law wsX2_switches := goodIn_r _ [416, 306, 307, 308, 2, 309, 74, 203, 204, 205, 206, 15, 201, 197, 17, 18, 202, 75, 76, 77, 258, 259, 260, 417, 418, 419, 420, 340, 341, 342, 421, 422, 423, 28, 424, 92, 23, 332, 333, 334, 335, 336, 337, 338, 339, 24, 261, 262, 263, 264, 89, 265, 266, 267, 268, 116, 117, 118, 119, 120, 121, 122, 123, 87, 48, 98, 343, 344, 345, 346, 672, 673, 674, 675, 676, 677, 678, 679, 680, 713, 714, 715, 716, 717, 718, 719, 720, 721, 722] (by decide +kernel) (by decide +kernel)
set_option maxRecDepth 20000 in
theorem gL_law_X2_switches : GoodIn wsL_law (wsV RL 100 RX2 yX2_switches wsX2_switches) := goodIn_app (goodIn_of _ (by decide +kernel)) ggL_law_X2_switches
set_option maxRecDepth 20000 in
theorem ggL_law_X3_switches : GoodIn wsL_law wsX3_switches := goodIn_r _ [428, 128, 273, 274, 5, 275, 276, 139, 140, 141, 386, 387, 388, 389, 320, 321, 322, 323, 129, 237, 238, 239, 240, 61, 62, 55, 56, 180, 181, 182, 183, 53, 215, 216, 217, 218, 54, 219, 220, 221, 222, 223, 224, 225, 226, 227, 228, 229, 230, 231, 232, 233, 234, 235, 236, 351, 352, 353, 354, 355, 356, 357, 358, 277, 278, 279, 280, 681, 682, 683, 684, 685, 686, 687, 688, 689, 690, 691, 692, 693, 694, 695, 696, 697, 698, 699, 700] (by decide +kernel) (by decide +kernel)
set_option maxRecDepth 20000 in
theorem gL_law_X3_switches : GoodIn wsL_law (wsV RL 104 RX3 yX3_switches wsX3_switches) := goodIn_app (goodIn_of _ (by decide +kernel)) ggL_law_X3_switches
set_option maxRecDepth 20000 in
theorem ggL_law_X2_implied : GoodIn wsL_law wsX2_implied := goodIn_r _ [432, 306, 307, 308, 2, 309, 74, 203, 204, 205, 206, 15, 201, 197, 17, 18, 202, 75, 76, 77, 376, 377, 378, 379, 375, 24, 380, 332, 333, 334, 335, 336, 337, 338, 339, 340, 341, 342, 261, 262, 263, 28, 264, 89, 265, 266, 267, 268, 116, 117, 118, 119, 92, 120, 121, 122, 123, 87, 48, 98, 343, 344, 345, 346, 672, 673, 674, 675, 676, 677, 678, 679, 680, 713, 714, 715, 716, 717, 718, 719, 720, 721, 722] (by decide +kernel) (by decide +kernel)
set_option maxRecDepth 20000 in
theorem gL_law_X2_implied : GoodIn wsL_law (wsV RL 107 RX2 yX2_implied wsX2_implied) := goodIn_app (goodIn_of _ (by decide +kernel)) ggL_law_X2_implied
set_option maxRecDepth 20000 in
theorem ggL_law_X3_implied : GoodIn wsL_law wsX3_implied := goodIn_r _ [436, 128, 386, 387, 388, 5, 389, 320, 321, 322, 323, 129, 237, 238, 239, 240, 61, 62, 55, 56, 180, 181, 182, 183, 53, 139, 140, 141, 215, 216, 217, 218, 54, 219, 220, 221, 222, 223, 224, 225, 226, 227, 228, 229, 230, 231, 232, 233, 234, 235, 236, 390, 391, 392, 393, 351, 352, 353, 354, 355, 356, 357, 358, 277, 278, 279, 280, 681, 682, 683, 684, 685, 686, 687, 688, 689, 690, 691, 692, 693, 694, 695, 696, 697, 698, 699, 700] (by decide +kernel) (by decide +kernel)
set_option maxRecDepth 20000 in
theorem gL_law_X3_implied : GoodIn wsL_law (wsV RL 111 RX3 yX3_implied wsX3_implied) := goodIn_app (goodIn_of _ (by decide +kernel)) ggL_law_X3_implied
set_option maxRecDepth 20000 in
theorem ggL_law_X2_meet : GoodIn wsL_law wsX2_meet := goodIn_r _ [440, 26, 441, 442, 2, 443, 444, 75, 76, 77, 258, 259, 260, 146, 147, 148, 149, 74, 445, 446, 447, 448, 25, 15, 200, 449, 450, 267, 451, 306, 307, 308, 309, 203, 204, 205, 206, 201, 197, 17, 18, 202, 452, 108, 109, 110, 261, 262, 263, 28, 264, 89, 265, 266, 268, 116, 117, 118, 119, 92, 120, 121, 122, 123, 87, 48, 98, 401, 402, 403, 404, 115, 453, 454, 455, 456, 340, 341, 342, 672, 673, 674, 675, 676, 677, 678, 679, 680, 713, 714, 715, 716, 717, 718, 719, 720, 721, 722] (by decide +kernel) (by decide +kernel)
set_option maxRecDepth 20000 in
theorem gL_law_X2_meet : GoodIn wsL_law (wsV RL 112 RX2 yX2_meet wsX2_meet) := goodIn_app (goodIn_of _ (by decide +kernel)) ggL_law_X2_meet
set_option maxRecDepth 20000 in
theorem ggL_law_X3_meet : GoodIn wsL_law wsX3_meet := goodIn_r _ [460, 128, 63, 461, 462, 5, 463, 137, 464, 139, 140, 141, 273, 274, 275, 276, 154, 155, 156, 157, 129, 465, 466, 467, 468, 64, 277, 278, 279, 280, 180, 181, 182, 183, 53, 220, 221, 222, 223, 219, 224, 225, 226, 227, 228, 229, 230, 231, 232, 233, 234, 235, 236, 409, 410, 411, 412, 215, 216, 217, 218, 54, 237, 238, 239, 240, 61, 62, 55, 56, 681, 682, 683, 684, 685, 686, 687, 688, 689, 690, 691, 692, 693, 694, 695, 696, 697, 698, 699, 700] (by decide +kernel) (by decide +kernel)
set_option maxRecDepth 20000 in
theorem gL_law_X3_meet : GoodIn wsL_law (wsV RL 116 RX3 yX3_meet wsX3_meet) := goodIn_app (goodIn_of _ (by decide +kernel)) ggL_law_X3_meet
set_option maxRecDepth 20000 in
theorem ggL_law_L_cost : GoodIn wsL_law wsL_cost := goodIn_ca (goodIn_r _ [471, 188, 472, 473, 474, 2, 475, 193, 194, 74, 26, 25, 441, 442, 443, 444, 75, 76, 77, 258, 259, 260, 445, 446, 447, 448, 15, 200, 449, 450, 267, 451, 306, 307, 308, 309, 203, 204, 205, 206, 201, 197, 17, 18, 202, 452, 108, 109, 110, 261, 262, 263, 28, 264, 89, 265, 266, 268, 116, 117, 118, 119, 92, 120, 121, 122, 123, 87, 48, 98, 401, 402, 403, 404, 115, 453, 454, 455, 456, 340, 341, 342, 672, 673, 674, 675, 676, 677, 678, 679, 680, 713, 714, 715, 716, 717, 718, 719, 720, 721, 722] (by decide +kernel) (by decide +kernel)) (goodIn_sub (fun _ h => List.mem_append_right _ h) (by decide +kernel))
set_option maxRecDepth 20000 in
theorem gL_law_L_cost : GoodIn wsL_law (va_wsS RL 117 yL_cost wsL_cost) := goodIn_app (goodIn_of _ (by decide +kernel)) ggL_law_L_cost
set_option maxRecDepth 20000 in
theorem ggL_law_X3_cost : GoodIn wsL_law wsX3_cost := goodIn_r _ [479, 128, 129, 63, 64, 461, 462, 5, 463, 137, 464, 139, 140, 141, 273, 274, 275, 276, 465, 466, 467, 468, 277, 278, 279, 280, 180, 181, 182, 183, 53, 220, 221, 222, 223, 219, 224, 225, 226, 227, 228, 229, 230, 231, 232, 233, 234, 235, 236, 409, 410, 411, 412, 215, 216, 217, 218, 54, 237, 238, 239, 240, 61, 62, 55, 56, 211, 212, 213, 214, 681, 682, 683, 684, 685, 686, 687, 688, 689, 690, 691, 692, 693, 694, 695, 696, 697, 698, 699, 700] (by decide +kernel) (by decide +kernel)
set_option maxRecDepth 20000 in
theorem gL_law_X3_cost : GoodIn wsL_law (wsV RL 120 RX3 yX3_cost wsX3_cost) := goodIn_app (goodIn_of _ (by decide +kernel)) ggL_law_X3_cost
set_option maxRecDepth 20000 in
theorem ggL_law_X2_tree : GoodIn wsL_law wsX2_tree := goodIn_r _ [483, 484, 485, 444, 22, 75, 76, 2, 77, 258, 259, 260, 486, 487, 488, 21, 489, 490, 32, 33, 491, 35, 672, 673, 674, 675, 676, 677, 678, 679, 680, 701, 702, 703, 704, 705, 706, 707, 708, 709, 710, 711, 712] (by decide +kernel) (by decide +kernel)
set_option maxRecDepth 20000 in
theorem gL_law_X2_tree : GoodIn wsL_law (wsV RL 121 RX2 yX2_tree wsX2_tree) := goodIn_app (goodIn_of _ (by decide +kernel)) ggL_law_X2_tree
set_option maxRecDepth 20000 in
theorem ggL_law_X3_tree : GoodIn wsL_law wsX3_tree := goodIn_r _ [495, 128, 496, 497, 498, 499, 464, 318, 57, 58, 319, 60, 139, 140, 5, 141, 273, 274, 275, 276, 681, 682, 683, 684, 685, 686, 687, 688, 689, 690, 691, 692, 693, 694, 695, 696, 697, 698, 699, 700] (by decide +kernel) (by decide +kernel)
set_option maxRecDepth 20000 in
theorem gL_law_X3_tree : GoodIn wsL_law (wsV RL 125 RX3 yX3_tree wsX3_tree) := goodIn_app (goodIn_of _ (by decide +kernel)) ggL_law_X3_tree
set_option maxRecDepth 20000 in
theorem ggL_law_X2_rate : GoodIn wsL_law wsX2_rate := goodIn_r _ [503, 22, 504, 505, 506, 21, 507, 508, 509, 510, 511, 490, 76, 2, 77, 512, 513, 514, 515, 516, 517, 518, 519, 32, 33, 520, 450, 267, 451, 521, 266, 268, 672, 673, 674, 675, 676, 677, 678, 679, 680, 701, 702, 703, 704, 705, 706, 707, 708, 709, 710, 711, 712] (by decide +kernel) (by decide +kernel)
set_option maxRecDepth 20000 in
theorem gL_law_X2_rate : GoodIn wsL_law (wsV RL 126 RX2 yX2_rate wsX2_rate) := goodIn_app (goodIn_of _ (by decide +kernel)) ggL_law_X2_rate
set_option maxRecDepth 20000 in
theorem ggL_law_X3_rate : GoodIn wsL_law wsX3_rate := goodIn_r _ [525, 128, 526, 527, 528, 5, 529, 318, 139, 140, 141, 530, 531, 532, 533, 57, 58, 681, 682, 683, 684, 685, 686, 687, 688, 689, 690, 691, 692, 693, 694, 695, 696, 697, 698, 699, 700] (by decide +kernel) (by decide +kernel)
set_option maxRecDepth 20000 in
theorem gL_law_X3_rate : GoodIn wsL_law (wsV RL 129 RX3 yX3_rate wsX3_rate) := goodIn_app (goodIn_of _ (by decide +kernel)) ggL_law_X3_rate
set_option maxRecDepth 20000 in
theorem ggL_law_L_value : GoodIn wsL_law wsL_value := goodIn_ca (goodIn_r _ [536, 188, 537, 538, 539, 2, 540, 193, 194, 22, 541, 306, 307, 308, 309, 74, 203, 204, 205, 206, 15, 201, 197, 17, 18, 202, 75, 76, 77, 504, 505, 506, 21, 507, 508, 509, 510, 511, 490, 542, 543, 544, 545, 305, 301, 546, 547, 548, 549, 40, 550, 517, 518, 519, 32, 33, 520, 450, 267, 451, 521, 266, 268, 551, 262, 263, 28, 264, 89, 265, 116, 117, 118, 119, 92, 120, 121, 122, 123, 87, 48, 98, 552, 553, 554, 555, 43, 42, 41, 341, 342, 556, 402, 403, 404, 115, 557, 558, 559, 560, 561, 562, 563, 564, 37, 565, 491, 39, 566, 567, 568, 569, 570, 513, 514, 515, 571, 572, 573, 574, 672, 673, 674, 675, 676, 677, 678, 679, 680, 701, 702, 703, 704, 705, 706, 707, 708, 709, 710, 711, 712, 713, 714, 715, 716, 717, 718, 719, 720, 721, 722] (by decide +kernel) (by decide +kernel)) (goodIn_sub (fun _ h => List.mem_append_right _ h) (by decide +kernel))
set_option maxRecDepth 20000 in
theorem gL_law_L_value : GoodIn wsL_law (va_wsS RL 130 yL_value wsL_value) := goodIn_app (goodIn_of _ (by decide +kernel)) ggL_law_L_value
set_option maxRecDepth 20000 in
theorem ggL_law_X3_value : GoodIn wsL_law wsX3_value := goodIn_r _ [578, 128, 65, 526, 527, 528, 5, 529, 318, 139, 140, 141, 386, 387, 388, 389, 320, 321, 322, 323, 129, 237, 238, 239, 240, 61, 62, 55, 56, 180, 181, 182, 183, 53, 215, 216, 217, 218, 54, 219, 220, 221, 222, 223, 224, 225, 226, 227, 228, 229, 230, 231, 232, 233, 234, 235, 236, 211, 212, 213, 214, 579, 580, 581, 582, 67, 178, 319, 66, 583, 584, 585, 586, 68, 60, 409, 410, 411, 412, 530, 531, 532, 533, 57, 58, 277, 278, 279, 280, 587, 588, 589, 681, 682, 683, 684, 685, 686, 687, 688, 689, 690, 691, 692, 693, 694, 695, 696, 697, 698, 699, 700] (by decide +kernel) (by decide +kernel)
set_option maxRecDepth 20000 in
theorem gL_law_X3_value : GoodIn wsL_law (wsV RL 132 RX3 yX3_value wsX3_value) := goodIn_app (goodIn_of _ (by decide +kernel)) ggL_law_X3_value
set_option maxRecDepth 20000 in
theorem ggL_law_X2_act : GoodIn wsL_law wsX2_act := goodIn_r _ [593, 22, 594, 306, 307, 308, 2, 309, 74, 203, 204, 205, 206, 15, 201, 197, 17, 18, 202, 75, 76, 77, 504, 505, 506, 21, 507, 508, 509, 510, 511, 490, 542, 543, 544, 545, 305, 301, 546, 547, 548, 549, 40, 550, 517, 518, 519, 32, 33, 520, 450, 267, 451, 521, 266, 268, 551, 262, 263, 28, 264, 89, 265, 116, 117, 118, 119, 92, 120, 121, 122, 123, 87, 48, 98, 552, 553, 554, 555, 43, 42, 41, 341, 342, 556, 402, 403, 404, 115, 557, 558, 559, 560, 561, 562, 563, 564, 37, 565, 491, 39, 566, 567, 568, 569, 570, 513, 514, 515, 571, 572, 573, 574, 672, 673, 674, 675, 676, 677, 678, 679, 680, 701, 702, 703, 704, 705, 706, 707, 708, 709, 710, 711, 712, 713, 714, 715, 716, 717, 718, 719, 720, 721, 722] (by decide +kernel) (by decide +kernel)
set_option maxRecDepth 20000 in
theorem gL_law_X2_act : GoodIn wsL_law (wsV RL 133 RX2 yX2_act wsX2_act) := goodIn_app (goodIn_of _ (by decide +kernel)) ggL_law_X2_act
set_option maxRecDepth 20000 in
theorem ggL_law_X3_act : GoodIn wsL_law wsX3_act := goodIn_r _ [598, 128, 68, 526, 527, 528, 5, 529, 318, 139, 140, 141, 386, 387, 388, 389, 320, 321, 322, 323, 129, 237, 238, 239, 240, 61, 62, 55, 56, 180, 181, 182, 183, 53, 215, 216, 217, 218, 54, 219, 220, 221, 222, 223, 224, 225, 226, 227, 228, 229, 230, 231, 232, 233, 234, 235, 236, 579, 580, 581, 582, 67, 65, 178, 319, 66, 583, 584, 585, 586, 60, 409, 410, 411, 412, 530, 531, 532, 533, 57, 58, 277, 278, 279, 280, 587, 588, 589, 599, 600, 601, 602, 681, 682, 683, 684, 685, 686, 687, 688, 689, 690, 691, 692, 693, 694, 695, 696, 697, 698, 699, 700] (by decide +kernel) (by decide +kernel)
set_option maxRecDepth 20000 in
theorem gL_law_X3_act : GoodIn wsL_law (wsV RL 136 RX3 yX3_act wsX3_act) := goodIn_app (goodIn_of _ (by decide +kernel)) ggL_law_X3_act
set_option maxRecDepth 20000 in
theorem ggL_law_X2_path : GoodIn wsL_law wsX2_path := goodIn_r _ [606, 22, 301, 594, 306, 307, 308, 2, 309, 74, 203, 204, 205, 206, 15, 201, 197, 17, 18, 202, 75, 76, 77, 542, 543, 544, 545, 305, 546, 547, 548, 21, 549, 490, 40, 550, 517, 518, 519, 32, 33, 520, 450, 267, 451, 521, 266, 268, 551, 262, 263, 28, 264, 89, 265, 116, 117, 118, 119, 92, 120, 121, 122, 123, 87, 48, 98, 552, 553, 554, 555, 43, 42, 41, 341, 342, 556, 402, 403, 404, 115, 557, 558, 559, 560, 561, 562, 563, 564, 37, 565, 491, 39, 566, 567, 568, 569, 570, 513, 514, 515, 571, 572, 573, 574, 672, 673, 674, 675, 676, 677, 678, 679, 680, 701, 702, 703, 704, 705, 706, 707, 708, 709, 710, 711, 712, 713, 714, 715, 716, 717, 718, 719, 720, 721, 722] (by decide +kernel) (by decide +kernel)
set_option maxRecDepth 20000 in
theorem gL_law_X2_path : GoodIn wsL_law (wsV RL 137 RX2 yX2_path wsX2_path) := goodIn_app (goodIn_of _ (by decide +kernel)) ggL_law_X2_path
set_option maxRecDepth 20000 in
theorem ggL_law_X3_path : GoodIn wsL_law wsX3_path := goodIn_r _ [610, 128, 318, 68, 139, 140, 5, 141, 386, 387, 388, 389, 320, 321, 322, 323, 129, 237, 238, 239, 240, 61, 62, 55, 56, 180, 181, 182, 183, 53, 215, 216, 217, 218, 54, 219, 220, 221, 222, 223, 224, 225, 226, 227, 228, 229, 230, 231, 232, 233, 234, 235, 236, 579, 580, 581, 582, 67, 65, 178, 319, 66, 583, 584, 585, 586, 60, 409, 410, 411, 412, 530, 531, 532, 533, 57, 58, 277, 278, 279, 280, 587, 588, 589, 599, 600, 601, 602, 681, 682, 683, 684, 685, 686, 687, 688, 689, 690, 691, 692, 693, 694, 695, 696, 697, 698, 699, 700] (by decide +kernel) (by decide +kernel)
set_option maxRecDepth 20000 in
theorem gL_law_X3_path : GoodIn wsL_law (wsV RL 141 RX3 yX3_path wsX3_path) := goodIn_app (goodIn_of _ (by decide +kernel)) ggL_law_X3_path
set_option maxRecDepth 20000 in
theorem ggL_law_X2_often : GoodIn wsL_law wsX2_often := goodIn_r _ [614, 22, 306, 307, 308, 2, 309, 74, 203, 204, 205, 206, 15, 201, 197, 17, 18, 202, 75, 76, 77, 615, 509, 510, 21, 511, 490, 542, 543, 544, 545, 305, 301, 546, 547, 548, 549, 40, 550, 517, 518, 519, 32, 33, 520, 450, 267, 451, 521, 266, 268, 551, 262, 263, 28, 264, 89, 265, 116, 117, 118, 119, 92, 120, 121, 122, 123, 87, 48, 98, 552, 553, 554, 555, 43, 42, 41, 341, 342, 556, 402, 403, 404, 115, 557, 558, 559, 560, 561, 562, 563, 564, 37, 565, 491, 39, 566, 567, 568, 569, 570, 513, 514, 515, 571, 572, 573, 574, 616, 617, 618, 619, 44, 620, 108, 109, 110, 672, 673, 674, 675, 676, 677, 678, 679, 680, 713, 714, 715, 716, 717, 718, 719, 720, 721, 722, 701, 702, 703, 704, 705, 706, 707, 708, 709, 710, 711, 712] (by decide +kernel) (by decide +kernel)
set_option maxRecDepth 20000 in
theorem gL_law_X2_often : GoodIn wsL_law (wsV RL 142 RX2 yX2_often wsX2_often) := goodIn_app (goodIn_of _ (by decide +kernel)) ggL_law_X2_often
set_option maxRecDepth 20000 in
theorem ggL_law_X3_often : GoodIn wsL_law wsX3_often := goodIn_r _ [624, 128, 318, 69, 139, 140, 5, 141, 386, 387, 388, 389, 320, 321, 322, 323, 129, 237, 238, 239, 240, 61, 62, 55, 56, 180, 181, 182, 183, 53, 215, 216, 217, 218, 54, 219, 220, 221, 222, 223, 224, 225, 226, 227, 228, 229, 230, 231, 232, 233, 234, 235, 236, 579, 580, 581, 582, 67, 65, 178, 319, 66, 583, 584, 585, 586, 68, 60, 409, 410, 411, 412, 530, 531, 532, 533, 57, 58, 277, 278, 279, 280, 587, 588, 589, 599, 600, 601, 602, 681, 682, 683, 684, 685, 686, 687, 688, 689, 690, 691, 692, 693, 694, 695, 696, 697, 698, 699, 700] (by decide +kernel) (by decide +kernel)
set_option maxRecDepth 20000 in
theorem gL_law_X3_often : GoodIn wsL_law (wsV RL 145 RX3 yX3_often wsX3_often) := goodIn_app (goodIn_of _ (by decide +kernel)) ggL_law_X3_often
set_option maxRecDepth 20000 in
theorem ggL_law_L_fixed : GoodIn wsL_law wsL_fixed := goodIn_ca (goodIn_r _ [627, 188, 628, 629, 630, 2, 631, 193, 194, 22, 15, 74, 305, 306, 307, 308, 309, 203, 204, 205, 206, 201, 197, 17, 18, 202, 75, 76, 77, 615, 509, 510, 21, 511, 490, 546, 547, 548, 549, 40, 550, 517, 518, 519, 32, 33, 520, 450, 267, 451, 521, 266, 268, 551, 262, 263, 28, 264, 89, 265, 116, 117, 118, 119, 92, 120, 121, 122, 123, 87, 48, 98, 552, 553, 554, 555, 43, 42, 41, 341, 342, 556, 402, 403, 404, 115, 557, 558, 559, 560, 561, 562, 563, 564, 37, 565, 491, 39, 566, 567, 568, 569, 570, 513, 514, 515, 571, 572, 573, 574, 672, 673, 674, 675, 676, 677, 678, 679, 680, 701, 702, 703, 704, 705, 706, 707, 708, 709, 710, 711, 712, 713, 714, 715, 716, 717, 718, 719, 720, 721, 722] (by decide +kernel) (by decide +kernel)) (goodIn_sub (fun _ h => List.mem_append_right _ h) (by decide +kernel))
set_option maxRecDepth 20000 in
theorem gL_law_L_fixed : GoodIn wsL_law (va_wsS RL 146 yL_fixed wsL_fixed) := goodIn_app (goodIn_of _ (by decide +kernel)) ggL_law_L_fixed
set_option maxRecDepth 20000 in
theorem ggL_law_X3_fixed : GoodIn wsL_law wsX3_fixed := goodIn_r _ [635, 128, 318, 65, 139, 140, 5, 141, 386, 387, 388, 389, 320, 321, 322, 323, 129, 237, 238, 239, 240, 61, 62, 55, 56, 180, 181, 182, 183, 53, 215, 216, 217, 218, 54, 219, 220, 221, 222, 223, 224, 225, 226, 227, 228, 229, 230, 231, 232, 233, 234, 235, 236, 211, 212, 213, 214, 579, 580, 581, 582, 67, 178, 319, 66, 583, 584, 585, 586, 68, 60, 409, 410, 411, 412, 530, 531, 532, 533, 57, 58, 277, 278, 279, 280, 587, 588, 589, 681, 682, 683, 684, 685, 686, 687, 688, 689, 690, 691, 692, 693, 694, 695, 696, 697, 698, 699, 700] (by decide +kernel) (by decide +kernel)
set_option maxRecDepth 20000 in
theorem gL_law_X3_fixed : GoodIn wsL_law (wsV RL 149 RX3 yX3_fixed wsX3_fixed) := goodIn_app (goodIn_of _ (by decide +kernel)) ggL_law_X3_fixed
set_option maxRecDepth 20000 in
theorem ggL_law_L_only : GoodIn wsL_law wsL_only := goodIn_ca (goodIn_r _ [638, 188, 639, 640, 641, 2, 642, 193, 194, 146, 147, 148, 149, 74, 75, 76, 77, 203, 204, 205, 206, 15, 201, 197, 17, 18, 202, 542, 543, 544, 545, 22, 305, 301, 546, 547, 548, 21, 549, 490, 40, 550, 517, 518, 519, 32, 33, 520, 450, 267, 451, 521, 266, 268, 551, 262, 263, 28, 264, 89, 265, 116, 117, 118, 119, 92, 120, 121, 122, 123, 87, 48, 98, 552, 553, 554, 555, 43, 42, 41, 341, 342, 556, 402, 403, 404, 115, 557, 558, 559, 560, 561, 562, 563, 564, 37, 565, 491, 39, 566, 567, 568, 569, 570, 513, 514, 515, 571, 572, 573, 574, 672, 673, 674, 675, 676, 677, 678, 679, 680, 713, 714, 715, 716, 717, 718, 719, 720, 721, 722, 701, 702, 703, 704, 705, 706, 707, 708, 709, 710, 711, 712] (by decide +kernel) (by decide +kernel)) (goodIn_sub (fun _ h => List.mem_append_right _ h) (by decide +kernel))
set_option maxRecDepth 20000 in
theorem gL_law_L_only : GoodIn wsL_law (va_wsS RL 150 yL_only wsL_only) := goodIn_app (goodIn_of _ (by decide +kernel)) ggL_law_L_only
set_option maxRecDepth 20000 in
theorem ggL_law_X3_only : GoodIn wsL_law wsX3_only := goodIn_r _ [646, 128, 61, 65, 154, 155, 156, 5, 157, 129, 139, 140, 141, 237, 238, 239, 240, 62, 55, 56, 180, 181, 182, 183, 53, 215, 216, 217, 218, 54, 219, 220, 221, 222, 223, 224, 225, 226, 227, 228, 229, 230, 231, 232, 233, 234, 235, 236, 211, 212, 213, 214, 579, 580, 581, 582, 318, 67, 178, 319, 66, 583, 584, 585, 586, 68, 60, 409, 410, 411, 412, 530, 531, 532, 533, 57, 58, 277, 278, 279, 280, 587, 588, 589, 681, 682, 683, 684, 685, 686, 687, 688, 689, 690, 691, 692, 693, 694, 695, 696, 697, 698, 699, 700] (by decide +kernel) (by decide +kernel)
set_option maxRecDepth 20000 in
theorem gL_law_X3_only : GoodIn wsL_law (wsV RL 152 RX3 yX3_only wsX3_only) := goodIn_app (goodIn_of _ (by decide +kernel)) ggL_law_X3_only
set_option maxRecDepth 20000 in
theorem ggL_law_L_without : GoodIn wsL_law wsL_without := goodIn_ca (goodIn_r _ [649, 188, 650, 651, 652, 2, 653, 193, 194, 146, 147, 148, 149, 74, 75, 76, 77, 203, 204, 205, 206, 15, 201, 197, 17, 18, 202, 306, 307, 308, 309, 542, 543, 544, 545, 22, 305, 301, 546, 547, 548, 21, 549, 490, 40, 550, 517, 518, 519, 32, 33, 520, 450, 267, 451, 521, 266, 268, 551, 262, 263, 28, 264, 89, 265, 116, 117, 118, 119, 92, 120, 121, 122, 123, 87, 48, 98, 552, 553, 554, 555, 43, 42, 41, 341, 342, 556, 402, 403, 404, 115, 557, 558, 559, 560, 561, 562, 563, 564, 37, 565, 491, 39, 566, 567, 568, 569, 570, 513, 514, 515, 571, 572, 573, 574, 672, 673, 674, 675, 676, 677, 678, 679, 680, 713, 714, 715, 716, 717, 718, 719, 720, 721, 722, 701, 702, 703, 704, 705, 706, 707, 708, 709, 710, 711, 712] (by decide +kernel) (by decide +kernel)) (goodIn_sub (fun _ h => List.mem_append_right _ h) (by decide +kernel))
set_option maxRecDepth 20000 in
theorem gL_law_L_without : GoodIn wsL_law (va_wsS RL 153 yL_without wsL_without) := goodIn_app (goodIn_of _ (by decide +kernel)) ggL_law_L_without
set_option maxRecDepth 20000 in
theorem ggL_law_X3_without : GoodIn wsL_law wsX3_without := goodIn_r _ [657, 128, 65, 62, 154, 155, 156, 5, 157, 129, 139, 140, 141, 211, 212, 213, 214, 237, 238, 239, 240, 61, 55, 56, 180, 181, 182, 183, 53, 215, 216, 217, 218, 54, 219, 220, 221, 222, 223, 224, 225, 226, 227, 228, 229, 230, 231, 232, 233, 234, 235, 236, 579, 580, 581, 582, 318, 67, 178, 319, 66, 583, 584, 585, 586, 68, 60, 409, 410, 411, 412, 530, 531, 532, 533, 57, 58, 277, 278, 279, 280, 587, 588, 589, 386, 387, 388, 389, 320, 321, 322, 323, 681, 682, 683, 684, 685, 686, 687, 688, 689, 690, 691, 692, 693, 694, 695, 696, 697, 698, 699, 700] (by decide +kernel) (by decide +kernel)
set_option maxRecDepth 20000 in
theorem gL_law_X3_without : GoodIn wsL_law (wsV RL 155 RX3 yX3_without wsX3_without) := goodIn_app (goodIn_of _ (by decide +kernel)) ggL_law_X3_without
set_option maxRecDepth 20000 in
theorem ggL_law_X2_fair : GoodIn wsL_law wsX2_fair := goodIn_r _ [661, 22, 15, 74, 662, 444, 301, 306, 307, 308, 2, 309, 203, 204, 205, 206, 201, 197, 17, 18, 202, 75, 76, 77, 546, 547, 548, 21, 549, 490, 40, 550, 517, 518, 519, 32, 33, 520, 450, 267, 451, 521, 266, 268, 551, 262, 263, 28, 264, 89, 265, 116, 117, 118, 119, 92, 120, 121, 122, 123, 87, 48, 98, 552, 553, 554, 555, 43, 42, 41, 341, 342, 556, 402, 403, 404, 115, 557, 558, 559, 560, 561, 562, 563, 564, 37, 565, 491, 39, 566, 567, 568, 569, 570, 513, 514, 515, 571, 572, 573, 574, 672, 673, 674, 675, 676, 677, 678, 679, 680, 701, 702, 703, 704, 705, 706, 707, 708, 709, 710, 711, 712, 713, 714, 715, 716, 717, 718, 719, 720, 721, 722] (by decide +kernel) (by decide +kernel)
set_option maxRecDepth 20000 in
theorem gL_law_X2_fair : GoodIn wsL_law (wsV RL 156 RX2 yX2_fair wsX2_fair) := goodIn_app (goodIn_of _ (by decide +kernel)) ggL_law_X2_fair
set_option maxRecDepth 20000 in
theorem ggL_law_X3_fair : GoodIn wsL_law wsX3_fair := goodIn_r _ [666, 128, 667, 386, 387, 388, 5, 389, 320, 321, 322, 323, 129, 237, 238, 239, 240, 61, 62, 55, 56, 180, 181, 182, 183, 53, 139, 140, 141, 215, 216, 217, 218, 54, 219, 220, 221, 222, 223, 224, 225, 226, 227, 228, 229, 230, 231, 232, 233, 234, 235, 236, 668, 669, 670, 671, 60, 65, 579, 580, 581, 582, 318, 67, 178, 319, 66, 583, 584, 585, 586, 68, 409, 410, 411, 412, 530, 531, 532, 533, 57, 58, 277, 278, 279, 280, 587, 588, 589, 681, 682, 683, 684, 685, 686, 687, 688, 689, 690, 691, 692, 693, 694, 695, 696, 697, 698, 699, 700] (by decide +kernel) (by decide +kernel)
set_option maxRecDepth 20000 in
theorem gL_law_X3_fair : GoodIn wsL_law (wsV RL 159 RX3 yX3_fair wsX3_fair) := goodIn_app (goodIn_of _ (by decide +kernel)) ggL_law_X3_fair
theorem dL_law_0 : decode cL_law 0 = .ok (.new 8, 3) := by decide +kernel
theorem dL_law_3 : decode cL_law 3 = .ok (.dup, 1) := by decide +kernel
theorem dL_law_4 : decode cL_law 4 = .ok (.invokespecial 36, 3) := by decide +kernel
theorem dL_law_7 : decode cL_law 7 = .ok (.astore_n 1, 1) := by decide +kernel
theorem dL_law_8 : decode cL_law 8 = .ok (.new 37, 3) := by decide +kernel
theorem dL_law_11 : decode cL_law 11 = .ok (.dup, 1) := by decide +kernel
theorem dL_law_12 : decode cL_law 12 = .ok (.invokespecial 39, 3) := by decide +kernel
theorem dL_law_15 : decode cL_law 15 = .ok (.astore_n 2, 1) := by decide +kernel
theorem dL_law_16 : decode cL_law 16 = .ok (.iconst 1, 1) := by decide +kernel
theorem dL_law_17 : decode cL_law 17 = .ok (.newarray .long, 2) := by decide +kernel
theorem dL_law_19 : decode cL_law 19 = .ok (.astore_n 3, 1) := by decide +kernel
theorem dL_law_20 : decode cL_law 20 = .ok (.iconst 0, 1) := by decide +kernel
theorem dL_law_21 : decode cL_law 21 = .ok (.istore 4, 2) := by decide +kernel
theorem dL_law_23 : decode cL_law 23 = .ok (.iload 4, 2) := by decide +kernel
theorem dL_law_25 : decode cL_law 25 = .ok (.aload_n 0, 1) := by decide +kernel
theorem dL_law_26 : decode cL_law 26 = .ok (.arraylength, 1) := by decide +kernel
theorem dL_law_27 : decode cL_law 27 = .ok (.bipush 6, 2) := by decide +kernel
theorem dL_law_29 : decode cL_law 29 = .ok (.isub, 1) := by decide +kernel
theorem dL_law_30 : decode cL_law 30 = .ok (.if_icmp .gt 1411, 3) := by decide +kernel
theorem dL_law_33 : decode cL_law 33 = .ok (.aload_n 0, 1) := by decide +kernel
theorem dL_law_34 : decode cL_law 34 = .ok (.iload 4, 2) := by decide +kernel
theorem dL_law_36 : decode cL_law 36 = .ok (.iaload, 1) := by decide +kernel
theorem dL_law_37 : decode cL_law 37 = .ok (.bipush 31, 2) := by decide +kernel
theorem dL_law_39 : decode cL_law 39 = .ok (.iand, 1) := by decide +kernel
theorem dL_law_40 : decode cL_law 40 = .ok (.tableswitch 1395 0 26 #[124, 197, 222, 271, 339, 376, 413, 450, 499, 524, 549, 586, 612, 679, 728, 785, 846, 925, 998, 1035, 1102, 1139, 1192, 1217, 1272, 1327, 1382], 124) := by decide +kernel
theorem dL_law_164 : decode cL_law 164 = .ok (.aload_n 1, 1) := by decide +kernel
theorem dL_law_165 : decode cL_law 165 = .ok (.aload_n 0, 1) := by decide +kernel
theorem dL_law_166 : decode cL_law 166 = .ok (.iload 4, 2) := by decide +kernel
theorem dL_law_168 : decode cL_law 168 = .ok (.iconst 1, 1) := by decide +kernel
theorem dL_law_169 : decode cL_law 169 = .ok (.iadd, 1) := by decide +kernel
theorem dL_law_170 : decode cL_law 170 = .ok (.iaload, 1) := by decide +kernel
theorem dL_law_171 : decode cL_law 171 = .ok (.aload_n 0, 1) := by decide +kernel
theorem dL_law_172 : decode cL_law 172 = .ok (.iload 4, 2) := by decide +kernel
theorem dL_law_174 : decode cL_law 174 = .ok (.iconst 2, 1) := by decide +kernel
theorem dL_law_175 : decode cL_law 175 = .ok (.iadd, 1) := by decide +kernel
theorem dL_law_176 : decode cL_law 176 = .ok (.iaload, 1) := by decide +kernel
theorem dL_law_177 : decode cL_law 177 = .ok (.aload_n 0, 1) := by decide +kernel
theorem dL_law_178 : decode cL_law 178 = .ok (.iload 4, 2) := by decide +kernel
theorem dL_law_180 : decode cL_law 180 = .ok (.iconst 3, 1) := by decide +kernel
theorem dL_law_181 : decode cL_law 181 = .ok (.iadd, 1) := by decide +kernel
theorem dL_law_182 : decode cL_law 182 = .ok (.iaload, 1) := by decide +kernel
theorem dL_law_183 : decode cL_law 183 = .ok (.aload_n 0, 1) := by decide +kernel
theorem dL_law_184 : decode cL_law 184 = .ok (.iload 4, 2) := by decide +kernel
theorem dL_law_186 : decode cL_law 186 = .ok (.iconst 4, 1) := by decide +kernel
theorem dL_law_187 : decode cL_law 187 = .ok (.iadd, 1) := by decide +kernel
theorem dL_law_188 : decode cL_law 188 = .ok (.iaload, 1) := by decide +kernel
theorem dL_law_189 : decode cL_law 189 = .ok (.aload_n 0, 1) := by decide +kernel
theorem dL_law_190 : decode cL_law 190 = .ok (.iload 4, 2) := by decide +kernel
theorem dL_law_192 : decode cL_law 192 = .ok (.iconst 5, 1) := by decide +kernel
theorem dL_law_193 : decode cL_law 193 = .ok (.iadd, 1) := by decide +kernel
theorem dL_law_194 : decode cL_law 194 = .ok (.iaload, 1) := by decide +kernel
theorem dL_law_195 : decode cL_law 195 = .ok (.invokevirtual 40, 3) := by decide +kernel
theorem dL_law_198 : decode cL_law 198 = .ok (.aload_n 2, 1) := by decide +kernel
theorem dL_law_199 : decode cL_law 199 = .ok (.aload_n 0, 1) := by decide +kernel
theorem dL_law_200 : decode cL_law 200 = .ok (.iload 4, 2) := by decide +kernel
theorem dL_law_202 : decode cL_law 202 = .ok (.iconst 1, 1) := by decide +kernel
theorem dL_law_203 : decode cL_law 203 = .ok (.iadd, 1) := by decide +kernel
theorem dL_law_204 : decode cL_law 204 = .ok (.iaload, 1) := by decide +kernel
theorem dL_law_205 : decode cL_law 205 = .ok (.aload_n 0, 1) := by decide +kernel
theorem dL_law_206 : decode cL_law 206 = .ok (.iload 4, 2) := by decide +kernel
theorem dL_law_208 : decode cL_law 208 = .ok (.iconst 2, 1) := by decide +kernel
theorem dL_law_209 : decode cL_law 209 = .ok (.iadd, 1) := by decide +kernel
theorem dL_law_210 : decode cL_law 210 = .ok (.iaload, 1) := by decide +kernel
theorem dL_law_211 : decode cL_law 211 = .ok (.aload_n 0, 1) := by decide +kernel
theorem dL_law_212 : decode cL_law 212 = .ok (.iload 4, 2) := by decide +kernel
theorem dL_law_214 : decode cL_law 214 = .ok (.iconst 3, 1) := by decide +kernel
theorem dL_law_215 : decode cL_law 215 = .ok (.iadd, 1) := by decide +kernel
theorem dL_law_216 : decode cL_law 216 = .ok (.iaload, 1) := by decide +kernel
theorem dL_law_217 : decode cL_law 217 = .ok (.aload_n 0, 1) := by decide +kernel
theorem dL_law_218 : decode cL_law 218 = .ok (.iload 4, 2) := by decide +kernel
theorem dL_law_220 : decode cL_law 220 = .ok (.iconst 4, 1) := by decide +kernel
theorem dL_law_221 : decode cL_law 221 = .ok (.iadd, 1) := by decide +kernel
theorem dL_law_222 : decode cL_law 222 = .ok (.iaload, 1) := by decide +kernel
theorem dL_law_223 : decode cL_law 223 = .ok (.aload_n 0, 1) := by decide +kernel
theorem dL_law_224 : decode cL_law 224 = .ok (.iload 4, 2) := by decide +kernel
theorem dL_law_226 : decode cL_law 226 = .ok (.iconst 5, 1) := by decide +kernel
theorem dL_law_227 : decode cL_law 227 = .ok (.iadd, 1) := by decide +kernel
theorem dL_law_228 : decode cL_law 228 = .ok (.iaload, 1) := by decide +kernel
theorem dL_law_229 : decode cL_law 229 = .ok (.invokevirtual 44, 3) := by decide +kernel
theorem dL_law_232 : decode cL_law 232 = .ok (.if_icmp .eq 1203, 3) := by decide +kernel
theorem dL_law_235 : decode cL_law 235 = .ok (.iconst 0, 1) := by decide +kernel
theorem dL_law_236 : decode cL_law 236 = .ok (.ireturn, 1) := by decide +kernel
theorem dL_law_237 : decode cL_law 237 = .ok (.aload_n 1, 1) := by decide +kernel
theorem dL_law_238 : decode cL_law 238 = .ok (.aload_n 0, 1) := by decide +kernel
theorem dL_law_239 : decode cL_law 239 = .ok (.iload 4, 2) := by decide +kernel
theorem dL_law_241 : decode cL_law 241 = .ok (.iconst 1, 1) := by decide +kernel
theorem dL_law_242 : decode cL_law 242 = .ok (.iadd, 1) := by decide +kernel
theorem dL_law_243 : decode cL_law 243 = .ok (.iaload, 1) := by decide +kernel
theorem dL_law_244 : decode cL_law 244 = .ok (.invokevirtual 45, 3) := by decide +kernel
theorem dL_law_247 : decode cL_law 247 = .ok (.aload_n 2, 1) := by decide +kernel
theorem dL_law_248 : decode cL_law 248 = .ok (.aload_n 0, 1) := by decide +kernel
theorem dL_law_249 : decode cL_law 249 = .ok (.iload 4, 2) := by decide +kernel
theorem dL_law_251 : decode cL_law 251 = .ok (.iconst 1, 1) := by decide +kernel
theorem dL_law_252 : decode cL_law 252 = .ok (.iadd, 1) := by decide +kernel
theorem dL_law_253 : decode cL_law 253 = .ok (.iaload, 1) := by decide +kernel
theorem dL_law_254 : decode cL_law 254 = .ok (.invokevirtual 49, 3) := by decide +kernel
theorem dL_law_257 : decode cL_law 257 = .ok (.if_icmp .eq 1178, 3) := by decide +kernel
theorem dL_law_260 : decode cL_law 260 = .ok (.iconst 0, 1) := by decide +kernel
theorem dL_law_261 : decode cL_law 261 = .ok (.ireturn, 1) := by decide +kernel
theorem dL_law_262 : decode cL_law 262 = .ok (.aload_n 1, 1) := by decide +kernel
theorem dL_law_263 : decode cL_law 263 = .ok (.aload_n 0, 1) := by decide +kernel
theorem dL_law_264 : decode cL_law 264 = .ok (.iload 4, 2) := by decide +kernel
theorem dL_law_266 : decode cL_law 266 = .ok (.iconst 1, 1) := by decide +kernel
theorem dL_law_267 : decode cL_law 267 = .ok (.iadd, 1) := by decide +kernel
theorem dL_law_268 : decode cL_law 268 = .ok (.iaload, 1) := by decide +kernel
theorem dL_law_269 : decode cL_law 269 = .ok (.aload_n 0, 1) := by decide +kernel
theorem dL_law_270 : decode cL_law 270 = .ok (.iload 4, 2) := by decide +kernel
theorem dL_law_272 : decode cL_law 272 = .ok (.iconst 2, 1) := by decide +kernel
theorem dL_law_273 : decode cL_law 273 = .ok (.iadd, 1) := by decide +kernel
theorem dL_law_274 : decode cL_law 274 = .ok (.iaload, 1) := by decide +kernel
theorem dL_law_275 : decode cL_law 275 = .ok (.aload_n 0, 1) := by decide +kernel
theorem dL_law_276 : decode cL_law 276 = .ok (.iload 4, 2) := by decide +kernel
theorem dL_law_278 : decode cL_law 278 = .ok (.iconst 3, 1) := by decide +kernel
theorem dL_law_279 : decode cL_law 279 = .ok (.iadd, 1) := by decide +kernel
theorem dL_law_280 : decode cL_law 280 = .ok (.iaload, 1) := by decide +kernel
theorem dL_law_281 : decode cL_law 281 = .ok (.invokevirtual 50, 3) := by decide +kernel
theorem dL_law_284 : decode cL_law 284 = .ok (.aload_n 2, 1) := by decide +kernel
theorem dL_law_285 : decode cL_law 285 = .ok (.aload_n 0, 1) := by decide +kernel
theorem dL_law_286 : decode cL_law 286 = .ok (.iload 4, 2) := by decide +kernel
theorem dL_law_288 : decode cL_law 288 = .ok (.iconst 1, 1) := by decide +kernel
theorem dL_law_289 : decode cL_law 289 = .ok (.iadd, 1) := by decide +kernel
theorem dL_law_290 : decode cL_law 290 = .ok (.iaload, 1) := by decide +kernel
theorem dL_law_291 : decode cL_law 291 = .ok (.aload_n 0, 1) := by decide +kernel
theorem dL_law_292 : decode cL_law 292 = .ok (.iload 4, 2) := by decide +kernel
theorem dL_law_294 : decode cL_law 294 = .ok (.iconst 2, 1) := by decide +kernel
theorem dL_law_295 : decode cL_law 295 = .ok (.iadd, 1) := by decide +kernel
theorem dL_law_296 : decode cL_law 296 = .ok (.iaload, 1) := by decide +kernel
theorem dL_law_297 : decode cL_law 297 = .ok (.aload_n 0, 1) := by decide +kernel
theorem dL_law_298 : decode cL_law 298 = .ok (.iload 4, 2) := by decide +kernel
theorem dL_law_300 : decode cL_law 300 = .ok (.iconst 3, 1) := by decide +kernel
theorem dL_law_301 : decode cL_law 301 = .ok (.iadd, 1) := by decide +kernel
theorem dL_law_302 : decode cL_law 302 = .ok (.iaload, 1) := by decide +kernel
theorem dL_law_303 : decode cL_law 303 = .ok (.invokevirtual 54, 3) := by decide +kernel
theorem dL_law_306 : decode cL_law 306 = .ok (.if_icmp .eq 1129, 3) := by decide +kernel
theorem dL_law_309 : decode cL_law 309 = .ok (.iconst 0, 1) := by decide +kernel
theorem dL_law_310 : decode cL_law 310 = .ok (.ireturn, 1) := by decide +kernel
theorem dL_law_311 : decode cL_law 311 = .ok (.aload_n 1, 1) := by decide +kernel
theorem dL_law_312 : decode cL_law 312 = .ok (.aload_n 0, 1) := by decide +kernel
theorem dL_law_313 : decode cL_law 313 = .ok (.iload 4, 2) := by decide +kernel
theorem dL_law_315 : decode cL_law 315 = .ok (.iconst 1, 1) := by decide +kernel
theorem dL_law_316 : decode cL_law 316 = .ok (.iadd, 1) := by decide +kernel
theorem dL_law_317 : decode cL_law 317 = .ok (.iaload, 1) := by decide +kernel
theorem dL_law_318 : decode cL_law 318 = .ok (.aload_n 0, 1) := by decide +kernel
theorem dL_law_319 : decode cL_law 319 = .ok (.iload 4, 2) := by decide +kernel
theorem dL_law_321 : decode cL_law 321 = .ok (.iconst 2, 1) := by decide +kernel
theorem dL_law_322 : decode cL_law 322 = .ok (.iadd, 1) := by decide +kernel
theorem dL_law_323 : decode cL_law 323 = .ok (.iaload, 1) := by decide +kernel
theorem dL_law_324 : decode cL_law 324 = .ok (.aload_n 3, 1) := by decide +kernel
theorem dL_law_325 : decode cL_law 325 = .ok (.invokestatic 55, 3) := by decide +kernel
theorem dL_law_328 : decode cL_law 328 = .ok (.istore 5, 2) := by decide +kernel
theorem dL_law_330 : decode cL_law 330 = .ok (.aload_n 2, 1) := by decide +kernel
theorem dL_law_331 : decode cL_law 331 = .ok (.aload_n 0, 1) := by decide +kernel
theorem dL_law_332 : decode cL_law 332 = .ok (.iload 4, 2) := by decide +kernel
theorem dL_law_334 : decode cL_law 334 = .ok (.iconst 1, 1) := by decide +kernel
theorem dL_law_335 : decode cL_law 335 = .ok (.iadd, 1) := by decide +kernel
theorem dL_law_336 : decode cL_law 336 = .ok (.iaload, 1) := by decide +kernel
theorem dL_law_337 : decode cL_law 337 = .ok (.aload_n 0, 1) := by decide +kernel
theorem dL_law_338 : decode cL_law 338 = .ok (.iload 4, 2) := by decide +kernel
theorem dL_law_340 : decode cL_law 340 = .ok (.iconst 2, 1) := by decide +kernel
theorem dL_law_341 : decode cL_law 341 = .ok (.iadd, 1) := by decide +kernel
theorem dL_law_342 : decode cL_law 342 = .ok (.iaload, 1) := by decide +kernel
theorem dL_law_343 : decode cL_law 343 = .ok (.invokevirtual 60, 3) := by decide +kernel
theorem dL_law_346 : decode cL_law 346 = .ok (.istore 6, 2) := by decide +kernel
theorem dL_law_348 : decode cL_law 348 = .ok (.aload_n 2, 1) := by decide +kernel
theorem dL_law_349 : decode cL_law 349 = .ok (.invokevirtual 61, 3) := by decide +kernel
theorem dL_law_352 : decode cL_law 352 = .ok (.iload 5, 2) := by decide +kernel
theorem dL_law_354 : decode cL_law 354 = .ok (.if_icmp .eq 5, 3) := by decide +kernel
theorem dL_law_357 : decode cL_law 357 = .ok (.iconst 0, 1) := by decide +kernel
theorem dL_law_358 : decode cL_law 358 = .ok (.ireturn, 1) := by decide +kernel
theorem dL_law_359 : decode cL_law 359 = .ok (.iload 5, 2) := by decide +kernel
theorem dL_law_361 : decode cL_law 361 = .ok (.ifCond .ne 15, 3) := by decide +kernel
theorem dL_law_364 : decode cL_law 364 = .ok (.aload_n 3, 1) := by decide +kernel
theorem dL_law_365 : decode cL_law 365 = .ok (.iconst 0, 1) := by decide +kernel
theorem dL_law_366 : decode cL_law 366 = .ok (.laload, 1) := by decide +kernel
theorem dL_law_367 : decode cL_law 367 = .ok (.iload 6, 2) := by decide +kernel
theorem dL_law_369 : decode cL_law 369 = .ok (.i2l, 1) := by decide +kernel
theorem dL_law_370 : decode cL_law 370 = .ok (.lcmp, 1) := by decide +kernel
theorem dL_law_371 : decode cL_law 371 = .ok (.ifCond .eq 5, 3) := by decide +kernel
theorem dL_law_374 : decode cL_law 374 = .ok (.iconst 0, 1) := by decide +kernel
theorem dL_law_375 : decode cL_law 375 = .ok (.ireturn, 1) := by decide +kernel
theorem dL_law_376 : decode cL_law 376 = .ok (.goto 1059, 3) := by decide +kernel
theorem dL_law_379 : decode cL_law 379 = .ok (.aload_n 1, 1) := by decide +kernel
theorem dL_law_380 : decode cL_law 380 = .ok (.aload_n 0, 1) := by decide +kernel
theorem dL_law_381 : decode cL_law 381 = .ok (.iload 4, 2) := by decide +kernel
theorem dL_law_383 : decode cL_law 383 = .ok (.iconst 1, 1) := by decide +kernel
theorem dL_law_384 : decode cL_law 384 = .ok (.iadd, 1) := by decide +kernel
theorem dL_law_385 : decode cL_law 385 = .ok (.iaload, 1) := by decide +kernel
theorem dL_law_386 : decode cL_law 386 = .ok (.aload_n 0, 1) := by decide +kernel
theorem dL_law_387 : decode cL_law 387 = .ok (.iload 4, 2) := by decide +kernel
theorem dL_law_389 : decode cL_law 389 = .ok (.iconst 2, 1) := by decide +kernel
theorem dL_law_390 : decode cL_law 390 = .ok (.iadd, 1) := by decide +kernel
theorem dL_law_391 : decode cL_law 391 = .ok (.iaload, 1) := by decide +kernel
theorem dL_law_392 : decode cL_law 392 = .ok (.invokevirtual 65, 3) := by decide +kernel
theorem dL_law_395 : decode cL_law 395 = .ok (.aload_n 2, 1) := by decide +kernel
theorem dL_law_396 : decode cL_law 396 = .ok (.aload_n 0, 1) := by decide +kernel
theorem dL_law_397 : decode cL_law 397 = .ok (.iload 4, 2) := by decide +kernel
theorem dL_law_399 : decode cL_law 399 = .ok (.iconst 1, 1) := by decide +kernel
theorem dL_law_400 : decode cL_law 400 = .ok (.iadd, 1) := by decide +kernel
theorem dL_law_401 : decode cL_law 401 = .ok (.iaload, 1) := by decide +kernel
theorem dL_law_402 : decode cL_law 402 = .ok (.aload_n 0, 1) := by decide +kernel
theorem dL_law_403 : decode cL_law 403 = .ok (.iload 4, 2) := by decide +kernel
theorem dL_law_405 : decode cL_law 405 = .ok (.iconst 2, 1) := by decide +kernel
theorem dL_law_406 : decode cL_law 406 = .ok (.iadd, 1) := by decide +kernel
theorem dL_law_407 : decode cL_law 407 = .ok (.iaload, 1) := by decide +kernel
theorem dL_law_408 : decode cL_law 408 = .ok (.invokevirtual 68, 3) := by decide +kernel
theorem dL_law_411 : decode cL_law 411 = .ok (.if_icmp .eq 1024, 3) := by decide +kernel
theorem dL_law_414 : decode cL_law 414 = .ok (.iconst 0, 1) := by decide +kernel
theorem dL_law_415 : decode cL_law 415 = .ok (.ireturn, 1) := by decide +kernel
theorem dL_law_416 : decode cL_law 416 = .ok (.aload_n 1, 1) := by decide +kernel
theorem dL_law_417 : decode cL_law 417 = .ok (.aload_n 0, 1) := by decide +kernel
theorem dL_law_418 : decode cL_law 418 = .ok (.iload 4, 2) := by decide +kernel
theorem dL_law_420 : decode cL_law 420 = .ok (.iconst 1, 1) := by decide +kernel
theorem dL_law_421 : decode cL_law 421 = .ok (.iadd, 1) := by decide +kernel
theorem dL_law_422 : decode cL_law 422 = .ok (.iaload, 1) := by decide +kernel
theorem dL_law_423 : decode cL_law 423 = .ok (.aload_n 0, 1) := by decide +kernel
theorem dL_law_424 : decode cL_law 424 = .ok (.iload 4, 2) := by decide +kernel
theorem dL_law_426 : decode cL_law 426 = .ok (.iconst 2, 1) := by decide +kernel
theorem dL_law_427 : decode cL_law 427 = .ok (.iadd, 1) := by decide +kernel
theorem dL_law_428 : decode cL_law 428 = .ok (.iaload, 1) := by decide +kernel
theorem dL_law_429 : decode cL_law 429 = .ok (.invokevirtual 69, 3) := by decide +kernel
theorem dL_law_432 : decode cL_law 432 = .ok (.aload_n 2, 1) := by decide +kernel
theorem dL_law_433 : decode cL_law 433 = .ok (.aload_n 0, 1) := by decide +kernel
theorem dL_law_434 : decode cL_law 434 = .ok (.iload 4, 2) := by decide +kernel
theorem dL_law_436 : decode cL_law 436 = .ok (.iconst 1, 1) := by decide +kernel
theorem dL_law_437 : decode cL_law 437 = .ok (.iadd, 1) := by decide +kernel
theorem dL_law_438 : decode cL_law 438 = .ok (.iaload, 1) := by decide +kernel
theorem dL_law_439 : decode cL_law 439 = .ok (.aload_n 0, 1) := by decide +kernel
theorem dL_law_440 : decode cL_law 440 = .ok (.iload 4, 2) := by decide +kernel
theorem dL_law_442 : decode cL_law 442 = .ok (.iconst 2, 1) := by decide +kernel
theorem dL_law_443 : decode cL_law 443 = .ok (.iadd, 1) := by decide +kernel
theorem dL_law_444 : decode cL_law 444 = .ok (.iaload, 1) := by decide +kernel
theorem dL_law_445 : decode cL_law 445 = .ok (.invokevirtual 72, 3) := by decide +kernel
theorem dL_law_448 : decode cL_law 448 = .ok (.if_icmp .eq 987, 3) := by decide +kernel
theorem dL_law_451 : decode cL_law 451 = .ok (.iconst 0, 1) := by decide +kernel
theorem dL_law_452 : decode cL_law 452 = .ok (.ireturn, 1) := by decide +kernel
theorem dL_law_453 : decode cL_law 453 = .ok (.aload_n 1, 1) := by decide +kernel
