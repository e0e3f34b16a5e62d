/-! ===== the callees' words among the law's ===== -/
theorem inlX0 : ∀ w ∈ wsX00, w ∈ wsL_law := fun _ h => List.mem_append_left _ (List.mem_append_left _ (List.mem_append_right _ h))
theorem inlX1 : ∀ w ∈ wsX10, w ∈ wsL_law := fun _ h => List.mem_append_left _ (List.mem_append_left _ (List.mem_append_left _ (List.mem_append_right _ h)))
theorem inlX2 : ∀ w ∈ wsX20, w ∈ wsL_law := fun _ h => List.mem_append_left _ (List.mem_append_right _ h)
theorem inlX3 : ∀ w ∈ wsX30, w ∈ wsL_law := fun _ h => List.mem_append_left _ (List.mem_append_left _ (List.mem_append_left _ (List.mem_append_left _ (List.mem_append_right _ h))))
theorem inlX4 : ∀ w ∈ wsX40, w ∈ wsL_law := fun _ h => List.mem_append_left _ (List.mem_append_left _ (List.mem_append_left _ (List.mem_append_left _ (List.mem_append_left _ (List.mem_append_left _ (List.mem_append_right _ h))))))
theorem inlX5 : ∀ w ∈ wsX50, w ∈ wsL_law := fun _ h => List.mem_append_left _ (List.mem_append_left _ (List.mem_append_left _ (List.mem_append_left _ (List.mem_append_left _ (List.mem_append_right _ h)))))
set_option maxRecDepth 20000 in
theorem ggL_law_X4_init : GoodIn wsL_law wsX4_init := goodIn_r _ [8, 9, 10, 11, 12, 13, 14, 15, 16, 17, 18, 19, 20, 21, 22, 23, 24, 25, 26, 27, 28, 29, 30, 31, 32, 33, 34, 35, 36, 37, 38, 39, 40, 41, 42, 43, 44, 45, 46, 47, 677, 678, 679, 680, 681, 682, 641, 642, 643, 644, 645, 646, 647, 683, 684, 685, 686, 687, 688, 689, 690, 691, 692, 693] (by decide +kernel) (by decide +kernel)
set_option maxRecDepth 20000 in
theorem gL_law_X4_init : GoodIn wsL_law (wsX4_init) := ggL_law_X4_init
set_option maxRecDepth 20000 in
theorem ggL_law_X5_init : GoodIn wsL_law wsX5_init := goodIn_r _ [50, 51, 10, 11, 32, 52, 53, 54, 55, 56, 57, 58, 59, 60, 61, 62, 63, 64, 65, 648, 649, 650, 651, 652, 653, 654, 655, 656, 657, 658, 659, 660, 661, 662, 663, 664, 665, 666, 667, 668, 669, 670, 671, 672, 673, 674, 675, 676] (by decide +kernel) (by decide +kernel)
set_option maxRecDepth 20000 in
theorem gL_law_X5_init : GoodIn wsL_law (wsX5_init) := ggL_law_X5_init
set_option maxRecDepth 20000 in
theorem ggL_law_X4_field : GoodIn wsL_law wsX4_field := goodIn_r _ [69, 70, 15, 71, 72, 73, 74, 2, 75, 26, 76, 77, 78, 79, 80, 81, 28, 82, 83, 84, 85, 86, 87, 88, 89, 90, 91, 92, 93, 94, 95, 96, 97, 98, 99, 100, 47, 101, 102, 103, 104, 105, 106, 107, 108, 109, 110, 111, 112, 113, 114, 115, 116, 117, 118, 119, 120, 121, 122, 24, 123, 641, 642, 643, 644, 645, 646, 647, 677, 678, 679, 680, 681, 682, 690, 691, 692, 693, 687, 688, 689] (by decide +kernel) (by decide +kernel)
set_option maxRecDepth 20000 in
theorem gL_law_X4_field : GoodIn wsL_law (wsV RL 13 RX4 yX4_field wsX4_field) := goodIn_app (goodIn_of _ (by decide +kernel)) ggL_law_X4_field
set_option maxRecDepth 20000 in
theorem ggL_law_X5_field : GoodIn wsL_law wsX5_field := goodIn_r _ [127, 128, 129, 130, 131, 132, 133, 134, 135, 55, 58, 56, 59, 57, 60, 136, 137, 138, 5, 139, 140, 141, 142, 143, 144, 145, 146, 147, 148, 149, 52, 53, 150, 151, 152, 153, 154, 155, 156, 157, 158, 159, 160, 161, 54, 162, 163, 164, 165, 166, 167, 168, 169, 648, 649, 650, 651, 652, 653, 654, 655, 656, 657, 658, 659, 660, 661, 662, 663, 664, 665, 666, 667, 668, 669, 670, 671, 672, 673, 674, 675, 676] (by decide +kernel) (by decide +kernel)
set_option maxRecDepth 20000 in
theorem gL_law_X5_field : GoodIn wsL_law (wsV RL 17 RX5 yX5_field wsX5_field) := goodIn_app (goodIn_of _ (by decide +kernel)) ggL_law_X5_field
set_option maxRecDepth 20000 in
theorem ggL_law_X4_ofStander : GoodIn wsL_law wsX4_ofStander := goodIn_r _ [173, 15, 120, 121, 122, 174, 175, 176, 14, 177, 178, 641, 642, 643, 644, 645, 646, 647, 677, 678, 679, 680, 681, 682] (by decide +kernel) (by decide +kernel)
set_option maxRecDepth 20000 in
theorem gL_law_X4_ofStander : GoodIn wsL_law (wsV RL 18 RX4 yX4_ofStander wsX4_ofStander) := goodIn_app (goodIn_of _ (by decide +kernel)) ggL_law_X4_ofStander
set_option maxRecDepth 20000 in
theorem ggL_law_X5_ofStander : GoodIn wsL_law wsX5_ofStander := goodIn_r _ [182, 55, 56, 57, 183, 184, 185, 5, 186, 135, 648, 649, 650, 651, 652, 653, 654, 655, 656, 657, 658, 659, 660, 661, 662, 663, 664, 665, 666, 667, 668, 669, 670, 671, 672, 673, 674, 675, 676] (by decide +kernel) (by decide +kernel)
set_option maxRecDepth 20000 in
theorem gL_law_X5_ofStander : GoodIn wsL_law (wsV RL 22 RX5 yX5_ofStander wsX5_ofStander) := goodIn_app (goodIn_of _ (by decide +kernel)) ggL_law_X5_ofStander
set_option maxRecDepth 20000 in
theorem ggL_law_X4_walk : GoodIn wsL_law wsX4_walk := goodIn_r _ [190, 15, 121, 174, 175, 176, 14, 177, 178, 191, 192, 2, 193, 641, 642, 643, 644, 645, 646, 647, 677, 678, 679, 680, 681, 682] (by decide +kernel) (by decide +kernel)
set_option maxRecDepth 20000 in
theorem gL_law_X4_walk : GoodIn wsL_law (wsV RL 23 RX4 yX4_walk wsX4_walk) := goodIn_app (goodIn_of _ (by decide +kernel)) ggL_law_X4_walk
set_option maxRecDepth 20000 in
theorem ggL_law_X5_walk : GoodIn wsL_law wsX5_walk := goodIn_r _ [197, 56, 183, 184, 185, 5, 186, 135, 198, 199, 200, 140, 141, 142, 648, 649, 650, 651, 652, 653, 654, 655, 656, 657, 658, 659, 660, 661, 662, 663, 664, 665, 666, 667, 668, 669, 670, 671, 672, 673, 674, 675, 676] (by decide +kernel) (by decide +kernel)
set_option maxRecDepth 20000 in
theorem gL_law_X5_walk : GoodIn wsL_law (wsV RL 26 RX5 yX5_walk wsX5_walk) := goodIn_app (goodIn_of _ (by decide +kernel)) ggL_law_X5_walk
set_option maxRecDepth 20000 in
theorem ggL_law_X4_grow : GoodIn wsL_law wsX4_grow := goodIn_r _ [204, 15, 122, 174, 175, 176, 14, 177, 178, 191, 192, 2, 193, 641, 642, 643, 644, 645, 646, 647, 677, 678, 679, 680, 681, 682] (by decide +kernel) (by decide +kernel)
set_option maxRecDepth 20000 in
theorem gL_law_X4_grow : GoodIn wsL_law (wsV RL 27 RX4 yX4_grow wsX4_grow) := goodIn_app (goodIn_of _ (by decide +kernel)) ggL_law_X4_grow
set_option maxRecDepth 20000 in
theorem ggL_law_X5_grow : GoodIn wsL_law wsX5_grow := goodIn_r _ [208, 57, 183, 184, 185, 5, 186, 135, 198, 199, 200, 140, 141, 142, 648, 649, 650, 651, 652, 653, 654, 655, 656, 657, 658, 659, 660, 661, 662, 663, 664, 665, 666, 667, 668, 669, 670, 671, 672, 673, 674, 675, 676] (by decide +kernel) (by decide +kernel)
set_option maxRecDepth 20000 in
theorem gL_law_X5_grow : GoodIn wsL_law (wsV RL 30 RX5 yX5_grow wsX5_grow) := goodIn_app (goodIn_of _ (by decide +kernel)) ggL_law_X5_grow
set_option maxRecDepth 20000 in
theorem ggL_law_X4_build : GoodIn wsL_law wsX4_build := goodIn_r _ [212, 15, 119, 191, 192, 2, 193, 213, 214, 215, 14, 216, 178, 641, 642, 643, 644, 645, 646, 647, 677, 678, 679, 680, 681, 682] (by decide +kernel) (by decide +kernel)
set_option maxRecDepth 20000 in
theorem gL_law_X4_build : GoodIn wsL_law (wsV RL 31 RX4 yX4_build wsX4_build) := goodIn_app (goodIn_of _ (by decide +kernel)) ggL_law_X4_build
set_option maxRecDepth 20000 in
theorem ggL_law_X5_build : GoodIn wsL_law wsX5_build := goodIn_r _ [220, 135, 133, 198, 199, 5, 200, 140, 141, 142, 648, 649, 650, 651, 652, 653, 654, 655, 656, 657, 658, 659, 660, 661, 662, 663, 664, 665, 666, 667, 668, 669, 670, 671, 672, 673, 674, 675, 676] (by decide +kernel) (by decide +kernel)
set_option maxRecDepth 20000 in
theorem gL_law_X5_build : GoodIn wsL_law (wsV RL 35 RX5 yX5_build wsX5_build) := goodIn_app (goodIn_of _ (by decide +kernel)) ggL_law_X5_build
set_option maxRecDepth 20000 in
theorem ggL_law_X4_shade : GoodIn wsL_law wsX4_shade := goodIn_r _ [224, 15, 174, 175, 176, 14, 177, 178, 225, 226, 2, 227, 228, 229, 230, 231, 35, 33, 232, 233, 234, 235, 236, 641, 642, 643, 644, 645, 646, 647, 677, 678, 679, 680, 681, 682] (by decide +kernel) (by decide +kernel)
set_option maxRecDepth 20000 in
theorem gL_law_X4_shade : GoodIn wsL_law (wsV RL 36 RX4 yX4_shade wsX4_shade) := goodIn_app (goodIn_of _ (by decide +kernel)) ggL_law_X4_shade
set_option maxRecDepth 20000 in
theorem ggL_law_X5_shade : GoodIn wsL_law wsX5_shade := goodIn_r _ [240, 183, 184, 185, 5, 186, 135, 241, 242, 243, 140, 141, 142, 244, 245, 246, 247, 57, 55, 648, 649, 650, 651, 652, 653, 654, 655, 656, 657, 658, 659, 660, 661, 662, 663, 664, 665, 666, 667, 668, 669, 670, 671, 672, 673, 674, 675, 676] (by decide +kernel) (by decide +kernel)
set_option maxRecDepth 20000 in
theorem gL_law_X5_shade : GoodIn wsL_law (wsV RL 39 RX5 yX5_shade wsX5_shade) := goodIn_app (goodIn_of _ (by decide +kernel)) ggL_law_X5_shade
set_option maxRecDepth 20000 in
theorem ggL_law_X4_hidden : GoodIn wsL_law wsX4_hidden := goodIn_r _ [251, 15, 252, 253, 254, 2, 255, 225, 226, 227, 213, 214, 215, 14, 216, 178, 256, 257, 258, 259, 34, 236, 175, 176, 177, 260, 261, 262, 263, 264, 641, 642, 643, 644, 645, 646, 647, 677, 678, 679, 680, 681, 682] (by decide +kernel) (by decide +kernel)
set_option maxRecDepth 20000 in
theorem gL_law_X4_hidden : GoodIn wsL_law (wsV RL 40 RX4 yX4_hidden wsX4_hidden) := goodIn_app (goodIn_of _ (by decide +kernel)) ggL_law_X4_hidden
set_option maxRecDepth 20000 in
theorem ggL_law_X5_hidden : GoodIn wsL_law wsX5_hidden := goodIn_r _ [268, 135, 241, 242, 5, 243, 140, 141, 142, 269, 270, 271, 272, 273, 274, 275, 276, 56, 133, 648, 649, 650, 651, 652, 653, 654, 655, 656, 657, 658, 659, 660, 661, 662, 663, 664, 665, 666, 667, 668, 669, 670, 671, 672, 673, 674, 675, 676] (by decide +kernel) (by decide +kernel)
set_option maxRecDepth 20000 in
theorem gL_law_X5_hidden : GoodIn wsL_law (wsV RL 43 RX5 yX5_hidden wsX5_hidden) := goodIn_app (goodIn_of _ (by decide +kernel)) ggL_law_X5_hidden
set_option maxRecDepth 20000 in
theorem ggL_law_X4_census : GoodIn wsL_law wsX4_census := goodIn_r _ [280, 15, 252, 253, 254, 2, 255, 225, 226, 227, 213, 214, 215, 14, 216, 178, 281, 282, 283, 284, 285, 286, 287, 288, 20, 118, 289, 290, 291, 292, 293, 34, 294, 257, 258, 259, 236, 175, 176, 177, 260, 261, 262, 263, 264, 295, 229, 230, 231, 35, 33, 232, 233, 234, 235, 296, 297, 298, 19, 299, 300, 301, 302, 303, 304, 305, 306, 307, 308, 641, 642, 643, 644, 645, 646, 647, 677, 678, 679, 680, 681, 682, 683, 684, 685, 686] (by decide +kernel) (by decide +kernel)
set_option maxRecDepth 20000 in
theorem gL_law_X4_census : GoodIn wsL_law (wsV RL 44 RX4 yX4_census wsX4_census) := goodIn_app (goodIn_of _ (by decide +kernel)) ggL_law_X4_census
set_option maxRecDepth 20000 in
theorem ggL_law_X5_census : GoodIn wsL_law wsX5_census := goodIn_r _ [312, 135, 241, 242, 5, 243, 140, 141, 142, 313, 314, 315, 316, 317, 318, 319, 320, 321, 322, 323, 324, 62, 325, 326, 327, 328, 329, 56, 273, 274, 275, 276, 133, 244, 245, 246, 247, 57, 55, 330, 331, 332, 333, 131, 648, 649, 650, 651, 652, 653, 654, 655, 656, 657, 658, 659, 660, 661, 662, 663, 664, 665, 666, 667, 668, 669, 670, 671, 672, 673, 674, 675, 676] (by decide +kernel) (by decide +kernel)
set_option maxRecDepth 20000 in
theorem gL_law_X5_census : GoodIn wsL_law (wsV RL 47 RX5 yX5_census wsX5_census) := goodIn_app (goodIn_of _ (by decide +kernel)) ggL_law_X5_census
set_option maxRecDepth 20000 in
theorem ggL_law_X4_runs : GoodIn wsL_law wsX4_runs := goodIn_r _ [337, 20, 15, 118, 338, 339, 340, 252, 253, 254, 2, 255, 225, 226, 227, 213, 214, 215, 14, 216, 178, 281, 282, 283, 284, 290, 291, 292, 293, 34, 294, 257, 258, 259, 236, 175, 176, 177, 260, 261, 262, 263, 264, 295, 229, 230, 231, 35, 33, 232, 233, 234, 235, 296, 297, 298, 19, 299, 300, 301, 302, 303, 304, 305, 306, 307, 308, 641, 642, 643, 644, 645, 646, 647, 677, 678, 679, 680, 681, 682, 683, 684, 685, 686] (by decide +kernel) (by decide +kernel)
set_option maxRecDepth 20000 in
theorem gL_law_X4_runs : GoodIn wsL_law (wsV RL 48 RX4 yX4_runs wsX4_runs) := goodIn_app (goodIn_of _ (by decide +kernel)) ggL_law_X4_runs
set_option maxRecDepth 20000 in
theorem ggL_law_X5_runs : GoodIn wsL_law wsX5_runs := goodIn_r _ [344, 135, 322, 323, 324, 241, 242, 5, 243, 140, 141, 142, 318, 319, 320, 321, 317, 62, 325, 326, 327, 328, 329, 56, 273, 274, 275, 276, 133, 244, 245, 246, 247, 57, 55, 330, 331, 332, 333, 131, 648, 649, 650, 651, 652, 653, 654, 655, 656, 657, 658, 659, 660, 661, 662, 663, 664, 665, 666, 667, 668, 669, 670, 671, 672, 673, 674, 675, 676] (by decide +kernel) (by decide +kernel)
set_option maxRecDepth 20000 in
theorem gL_law_X5_runs : GoodIn wsL_law (wsV RL 51 RX5 yX5_runs wsX5_runs) := goodIn_app (goodIn_of _ (by decide +kernel)) ggL_law_X5_runs
set_option maxRecDepth 20000 in
theorem ggL_law_X4_fair : GoodIn wsL_law wsX4_fair := goodIn_r _ [348, 15, 213, 214, 215, 14, 216, 178, 349, 350, 351, 2, 352, 71, 353, 354, 234, 355, 281, 282, 283, 284, 285, 286, 287, 288, 20, 118, 289, 290, 291, 292, 293, 34, 294, 257, 258, 259, 236, 175, 176, 177, 260, 261, 262, 263, 264, 295, 229, 230, 231, 35, 33, 232, 233, 235, 296, 297, 298, 19, 299, 300, 301, 302, 303, 304, 305, 306, 307, 308, 641, 642, 643, 644, 645, 646, 647, 677, 678, 679, 680, 681, 682, 683, 684, 685, 686] (by decide +kernel) (by decide +kernel)
set_option maxRecDepth 20000 in
theorem gL_law_X4_fair : GoodIn wsL_law (wsV RL 52 RX4 yX4_fair wsX4_fair) := goodIn_app (goodIn_of _ (by decide +kernel)) ggL_law_X4_fair
set_option maxRecDepth 20000 in
theorem ggL_law_X5_fair : GoodIn wsL_law wsX5_fair := goodIn_r _ [359, 135, 313, 314, 315, 5, 316, 317, 318, 319, 320, 321, 322, 323, 324, 62, 325, 326, 327, 328, 329, 56, 273, 274, 275, 276, 133, 244, 245, 246, 247, 57, 55, 330, 331, 332, 333, 131, 360, 361, 362, 648, 649, 650, 651, 652, 653, 654, 655, 656, 657, 658, 659, 660, 661, 662, 663, 664, 665, 666, 667, 668, 669, 670, 671, 672, 673, 674, 675, 676] (by decide +kernel) (by decide +kernel)
set_option maxRecDepth 20000 in
theorem gL_law_X5_fair : GoodIn wsL_law (wsV RL 56 RX5 yX5_fair wsX5_fair) := goodIn_app (goodIn_of _ (by decide +kernel)) ggL_law_X5_fair
set_option maxRecDepth 20000 in
theorem ggL_law_X4_walks : GoodIn wsL_law wsX4_walks := goodIn_r _ [366, 70, 15, 72, 73, 74, 2, 75, 26, 225, 226, 227, 76, 77, 78, 367, 368, 369, 79, 80, 81, 28, 82, 83, 84, 85, 86, 87, 88, 89, 90, 91, 92, 93, 213, 214, 215, 14, 216, 178, 370, 371, 372, 373, 97, 98, 99, 100, 47, 101, 102, 103, 104, 174, 175, 176, 177, 191, 192, 193, 374, 375, 376, 377, 16, 121, 353, 354, 234, 355, 378, 379, 380, 381, 33, 34, 35, 382, 264, 383, 384, 385, 386, 236, 387, 388, 389, 390, 281, 282, 283, 284, 285, 286, 287, 288, 20, 118, 289, 290, 291, 292, 293, 294, 257, 258, 259, 260, 261, 262, 263, 295, 229, 230, 231, 232, 233, 235, 296, 297, 298, 19, 299, 300, 301, 302, 303, 304, 305, 306, 307, 308, 256, 641, 642, 643, 644, 645, 646, 647, 690, 691, 692, 693, 677, 678, 679, 680, 681, 682, 683, 684, 685, 686] (by decide +kernel) (by decide +kernel)
set_option maxRecDepth 20000 in
theorem gL_law_X4_walks : GoodIn wsL_law (wsV RL 57 RX4 yX4_walks wsX4_walks) := goodIn_app (goodIn_of _ (by decide +kernel)) ggL_law_X4_walks
set_option maxRecDepth 20000 in
theorem ggL_law_X5_walks : GoodIn wsL_law wsX5_walks := goodIn_r _ [394, 128, 135, 54, 63, 56, 137, 138, 5, 139, 140, 141, 142, 241, 242, 243, 143, 144, 145, 146, 147, 148, 149, 52, 53, 150, 151, 152, 153, 183, 184, 185, 186, 198, 199, 200, 395, 396, 397, 398, 399, 400, 401, 402, 403, 360, 361, 362, 404, 405, 406, 407, 313, 314, 315, 316, 317, 318, 319, 320, 321, 322, 323, 324, 62, 325, 326, 327, 328, 329, 273, 274, 275, 276, 133, 244, 245, 246, 247, 57, 55, 330, 331, 332, 333, 131, 269, 270, 271, 272, 648, 649, 650, 651, 652, 653, 654, 655, 656, 657, 658, 659, 660, 661, 662, 663, 664, 665, 666, 667, 668, 669, 670, 671, 672, 673, 674, 675, 676] (by decide +kernel) (by decide +kernel)
set_option maxRecDepth 20000 in
theorem gL_law_X5_walks : GoodIn wsL_law (wsV RL 61 RX5 yX5_walks wsX5_walks) := goodIn_app (goodIn_of _ (by decide +kernel)) ggL_law_X5_walks
set_option maxRecDepth 20000 in
theorem ggL_law_X4_pair : GoodIn wsL_law wsX4_pair := goodIn_r _ [411, 15, 16, 121, 174, 175, 176, 14, 177, 178, 225, 226, 2, 227, 378, 379, 380, 381, 33, 34, 35, 382, 264, 412, 261, 262, 263, 281, 282, 283, 284, 285, 286, 287, 288, 20, 118, 289, 290, 291, 292, 293, 294, 257, 258, 259, 236, 260, 295, 229, 230, 231, 232, 233, 234, 235, 296, 297, 298, 19, 299, 300, 301, 302, 303, 304, 305, 306, 307, 308, 641, 642, 643, 644, 645, 646, 647, 677, 678, 679, 680, 681, 682, 683, 684, 685, 686] (by decide +kernel) (by decide +kernel)
set_option maxRecDepth 20000 in
theorem gL_law_X4_pair : GoodIn wsL_law (wsV RL 62 RX4 yX4_pair wsX4_pair) := goodIn_app (goodIn_of _ (by decide +kernel)) ggL_law_X4_pair
set_option maxRecDepth 20000 in
theorem ggL_law_X5_pair : GoodIn wsL_law wsX5_pair := goodIn_r _ [416, 56, 183, 184, 185, 5, 186, 135, 241, 242, 243, 140, 141, 142, 273, 274, 275, 276, 133, 313, 314, 315, 316, 317, 318, 319, 320, 321, 322, 323, 324, 62, 325, 326, 327, 328, 329, 244, 245, 246, 247, 57, 55, 330, 331, 332, 333, 131, 648, 649, 650, 651, 652, 653, 654, 655, 656, 657, 658, 659, 660, 661, 662, 663, 664, 665, 666, 667, 668, 669, 670, 671, 672, 673, 674, 675, 676] (by decide +kernel) (by decide +kernel)
set_option maxRecDepth 20000 in
theorem gL_law_X5_pair : GoodIn wsL_law (wsV RL 65 RX5 yX5_pair wsX5_pair) := goodIn_app (goodIn_of _ (by decide +kernel)) ggL_law_X5_pair
set_option maxRecDepth 20000 in
theorem ggL_law_X4_send : GoodIn wsL_law wsX4_send := goodIn_r _ [420, 15, 421, 422, 423, 2, 424, 252, 253, 254, 255, 225, 226, 227, 213, 214, 215, 14, 216, 178, 281, 282, 283, 284, 425, 426, 427, 428, 429, 430, 431, 285, 286, 287, 288, 20, 118, 289, 290, 291, 292, 293, 34, 294, 257, 258, 259, 236, 175, 176, 177, 260, 261, 262, 263, 264, 295, 229, 230, 231, 35, 33, 232, 233, 234, 235, 296, 297, 298, 19, 299, 300, 301, 302, 303, 304, 305, 306, 307, 308, 641, 642, 643, 644, 645, 646, 647, 677, 678, 679, 680, 681, 682, 683, 684, 685, 686] (by decide +kernel) (by decide +kernel)
set_option maxRecDepth 20000 in
theorem gL_law_X4_send : GoodIn wsL_law (wsV RL 66 RX4 yX4_send wsX4_send) := goodIn_app (goodIn_of _ (by decide +kernel)) ggL_law_X4_send
set_option maxRecDepth 20000 in
theorem ggL_law_X5_send : GoodIn wsL_law wsX5_send := goodIn_r _ [435, 135, 329, 241, 242, 5, 243, 140, 141, 142, 436, 437, 438, 313, 314, 315, 316, 317, 318, 319, 320, 321, 322, 323, 324, 62, 325, 326, 327, 328, 56, 273, 274, 275, 276, 133, 244, 245, 246, 247, 57, 55, 330, 331, 332, 333, 131, 648, 649, 650, 651, 652, 653, 654, 655, 656, 657, 658, 659, 660, 661, 662, 663, 664, 665, 666, 667, 668, 669, 670, 671, 672, 673, 674, 675, 676] (by decide +kernel) (by decide +kernel)
set_option maxRecDepth 20000 in
theorem gL_law_X5_send : GoodIn wsL_law (wsV RL 69 RX5 yX5_send wsX5_send) := goodIn_app (goodIn_of _ (by decide +kernel)) ggL_law_X5_send
set_option maxRecDepth 20000 in
theorem ggL_law_X4_reading : GoodIn wsL_law wsX4_reading := goodIn_r _ [442, 24, 123, 421, 422, 423, 2, 424, 252, 253, 254, 255, 15, 225, 226, 227, 213, 214, 215, 14, 216, 178, 443, 444, 445, 23, 446, 447, 42, 43, 641, 642, 643, 644, 645, 646, 647, 687, 688, 689, 677, 678, 679, 680, 681, 682] (by decide +kernel) (by decide +kernel)
set_option maxRecDepth 20000 in
theorem gL_law_X4_reading : GoodIn wsL_law (wsV RL 70 RX4 yX4_reading wsX4_reading) := goodIn_app (goodIn_of _ (by decide +kernel)) ggL_law_X4_reading
set_option maxRecDepth 20000 in
theorem ggL_law_X5_reading : GoodIn wsL_law wsX5_reading := goodIn_r _ [451, 135, 136, 64, 65, 241, 242, 5, 243, 140, 141, 142, 648, 649, 650, 651, 652, 653, 654, 655, 656, 657, 658, 659, 660, 661, 662, 663, 664, 665, 666, 667, 668, 669, 670, 671, 672, 673, 674, 675, 676] (by decide +kernel) (by decide +kernel)
set_option maxRecDepth 20000 in
theorem gL_law_X5_reading : GoodIn wsL_law (wsV RL 73 RX5 yX5_reading wsX5_reading) := goodIn_app (goodIn_of _ (by decide +kernel)) ggL_law_X5_reading
set_option maxRecDepth 20000 in
theorem ggL_law_X4_back : GoodIn wsL_law wsX4_back := goodIn_r _ [455, 24, 123, 641, 642, 643, 644, 645, 646, 647, 687, 688, 689] (by decide +kernel) (by decide +kernel)
set_option maxRecDepth 20000 in
theorem gL_law_X4_back : GoodIn wsL_law (wsV RL 74 RX4 yX4_back wsX4_back) := goodIn_app (goodIn_of _ (by decide +kernel)) ggL_law_X4_back
set_option maxRecDepth 20000 in
theorem ggL_law_X5_back : GoodIn wsL_law wsX5_back := goodIn_r _ [459, 136, 140, 141, 5, 142, 648, 649, 650, 651, 652, 653, 654, 655, 656, 657, 658, 659, 660, 661, 662, 663, 664, 665, 666, 667, 668, 669, 670, 671, 672, 673, 674, 675, 676] (by decide +kernel) (by decide +kernel)
set_option maxRecDepth 20000 in
theorem gL_law_X5_back : GoodIn wsL_law (wsV RL 77 RX5 yX5_back wsX5_back) := goodIn_app (goodIn_of _ (by decide +kernel)) ggL_law_X5_back
set_option maxRecDepth 20000 in
theorem ggL_law_X4_heights : GoodIn wsL_law wsX4_heights := goodIn_r _ [463, 15, 16, 122, 174, 175, 176, 14, 177, 178, 378, 379, 380, 381, 33, 34, 35, 382, 264, 464, 465, 466, 2, 467, 24, 123, 468, 469, 281, 282, 283, 284, 285, 286, 287, 288, 20, 118, 289, 290, 291, 292, 293, 294, 257, 258, 259, 236, 260, 261, 262, 263, 295, 229, 230, 231, 232, 233, 234, 235, 296, 297, 298, 19, 299, 300, 301, 302, 303, 304, 305, 306, 307, 308, 641, 642, 643, 644, 645, 646, 647, 677, 678, 679, 680, 681, 682, 687, 688, 689, 683, 684, 685, 686] (by decide +kernel) (by decide +kernel)
set_option maxRecDepth 20000 in
theorem gL_law_X4_heights : GoodIn wsL_law (wsV RL 78 RX4 yX4_heights wsX4_heights) := goodIn_app (goodIn_of _ (by decide +kernel)) ggL_law_X4_heights
set_option maxRecDepth 20000 in
theorem ggL_law_X5_heights : GoodIn wsL_law wsX5_heights := goodIn_r _ [473, 57, 183, 184, 185, 5, 186, 135, 474, 475, 476, 477, 136, 64, 65, 313, 314, 315, 316, 317, 318, 319, 320, 321, 322, 323, 324, 62, 325, 326, 327, 328, 329, 56, 273, 274, 275, 276, 133, 244, 245, 246, 247, 55, 330, 331, 332, 333, 131, 648, 649, 650, 651, 652, 653, 654, 655, 656, 657, 658, 659, 660, 661, 662, 663, 664, 665, 666, 667, 668, 669, 670, 671, 672, 673, 674, 675, 676] (by decide +kernel) (by decide +kernel)
set_option maxRecDepth 20000 in
theorem gL_law_X5_heights : GoodIn wsL_law (wsV RL 81 RX5 yX5_heights wsX5_heights) := goodIn_app (goodIn_of _ (by decide +kernel)) ggL_law_X5_heights
set_option maxRecDepth 20000 in
theorem ggL_law_X4_kinds : GoodIn wsL_law wsX4_kinds := goodIn_r _ [481, 15, 16, 120, 174, 175, 176, 14, 177, 178, 378, 379, 380, 381, 33, 34, 35, 382, 264, 464, 465, 466, 2, 467, 24, 123, 468, 469, 281, 282, 283, 284, 285, 286, 287, 288, 20, 118, 289, 290, 291, 292, 293, 294, 257, 258, 259, 236, 260, 261, 262, 263, 295, 229, 230, 231, 232, 233, 234, 235, 296, 297, 298, 19, 299, 300, 301, 302, 303, 304, 305, 306, 307, 308, 641, 642, 643, 644, 645, 646, 647, 677, 678, 679, 680, 681, 682, 687, 688, 689, 683, 684, 685, 686] (by decide +kernel) (by decide +kernel)
set_option maxRecDepth 20000 in
theorem gL_law_X4_kinds : GoodIn wsL_law (wsV RL 82 RX4 yX4_kinds wsX4_kinds) := goodIn_app (goodIn_of _ (by decide +kernel)) ggL_law_X4_kinds
set_option maxRecDepth 20000 in
theorem ggL_law_X5_kinds : GoodIn wsL_law wsX5_kinds := goodIn_r _ [485, 55, 183, 184, 185, 5, 186, 135, 474, 475, 476, 477, 136, 64, 65, 313, 314, 315, 316, 317, 318, 319, 320, 321, 322, 323, 324, 62, 325, 326, 327, 328, 329, 56, 273, 274, 275, 276, 133, 244, 245, 246, 247, 57, 330, 331, 332, 333, 131, 648, 649, 650, 651, 652, 653, 654, 655, 656, 657, 658, 659, 660, 661, 662, 663, 664, 665, 666, 667, 668, 669, 670, 671, 672, 673, 674, 675, 676] (by decide +kernel) (by decide +kernel)
set_option maxRecDepth 20000 in
theorem gL_law_X5_kinds : GoodIn wsL_law (wsV RL 85 RX5 yX5_kinds wsX5_kinds) := goodIn_app (goodIn_of _ (by decide +kernel)) ggL_law_X5_kinds
set_option maxRecDepth 20000 in
theorem ggL_law_X4_spans : GoodIn wsL_law wsX4_spans := goodIn_r _ [489, 15, 16, 118, 213, 214, 215, 14, 216, 178, 378, 379, 380, 381, 33, 34, 35, 382, 264, 464, 465, 466, 2, 467, 24, 123, 468, 469, 281, 282, 283, 284, 285, 286, 287, 288, 20, 289, 290, 291, 292, 293, 294, 257, 258, 259, 236, 175, 176, 177, 260, 261, 262, 263, 295, 229, 230, 231, 232, 233, 234, 235, 296, 297, 298, 19, 299, 300, 301, 302, 303, 304, 305, 306, 307, 308, 641, 642, 643, 644, 645, 646, 647, 677, 678, 679, 680, 681, 682, 687, 688, 689, 683, 684, 685, 686] (by decide +kernel) (by decide +kernel)
set_option maxRecDepth 20000 in
theorem gL_law_X4_spans : GoodIn wsL_law (wsV RL 86 RX4 yX4_spans wsX4_spans) := goodIn_app (goodIn_of _ (by decide +kernel)) ggL_law_X4_spans
set_option maxRecDepth 20000 in
theorem ggL_law_X5_spans : GoodIn wsL_law wsX5_spans := goodIn_r _ [493, 135, 131, 474, 475, 476, 5, 477, 136, 64, 65, 313, 314, 315, 316, 317, 318, 319, 320, 321, 322, 323, 324, 62, 325, 326, 327, 328, 329, 56, 273, 274, 275, 276, 133, 244, 245, 246, 247, 57, 55, 330, 331, 332, 333, 648, 649, 650, 651, 652, 653, 654, 655, 656, 657, 658, 659, 660, 661, 662, 663, 664, 665, 666, 667, 668, 669, 670, 671, 672, 673, 674, 675, 676] (by decide +kernel) (by decide +kernel)
set_option maxRecDepth 20000 in
theorem gL_law_X5_spans : GoodIn wsL_law (wsV RL 89 RX5 yX5_spans wsX5_spans) := goodIn_app (goodIn_of _ (by decide +kernel)) ggL_law_X5_spans
set_option maxRecDepth 20000 in
theorem ggL_law_X4_odds : GoodIn wsL_law wsX4_odds := goodIn_r _ [497, 498, 15, 421, 422, 423, 2, 424, 252, 253, 254, 255, 225, 226, 227, 213, 214, 215, 14, 216, 178, 281, 282, 283, 284, 285, 286, 287, 288, 20, 118, 289, 290, 291, 292, 293, 34, 294, 257, 258, 259, 236, 175, 176, 177, 260, 261, 262, 263, 264, 295, 229, 230, 231, 35, 33, 232, 233, 234, 235, 296, 297, 298, 19, 299, 300, 301, 302, 303, 304, 305, 306, 307, 308, 641, 642, 643, 644, 645, 646, 647, 677, 678, 679, 680, 681, 682, 683, 684, 685, 686] (by decide +kernel) (by decide +kernel)
set_option maxRecDepth 20000 in
theorem gL_law_X4_odds : GoodIn wsL_law (wsV RL 90 RX4 yX4_odds wsX4_odds) := goodIn_app (goodIn_of _ (by decide +kernel)) ggL_law_X4_odds
set_option maxRecDepth 20000 in
theorem ggL_law_X5_odds : GoodIn wsL_law wsX5_odds := goodIn_r _ [502, 135, 503, 329, 241, 242, 5, 243, 140, 141, 142, 313, 314, 315, 316, 317, 318, 319, 320, 321, 322, 323, 324, 62, 325, 326, 327, 328, 56, 273, 274, 275, 276, 133, 244, 245, 246, 247, 57, 55, 330, 331, 332, 333, 131, 504, 505, 506, 648, 649, 650, 651, 652, 653, 654, 655, 656, 657, 658, 659, 660, 661, 662, 663, 664, 665, 666, 667, 668, 669, 670, 671, 672, 673, 674, 675, 676] (by decide +kernel) (by decide +kernel)
set_option maxRecDepth 20000 in
theorem gL_law_X5_odds : GoodIn wsL_law (wsV RL 94 RX5 yX5_odds wsX5_odds) := goodIn_app (goodIn_of _ (by decide +kernel)) ggL_law_X5_odds
set_option maxRecDepth 20000 in
theorem ggL_law_X4_sheet : GoodIn wsL_law wsX4_sheet := goodIn_r _ [510, 70, 72, 73, 74, 2, 75, 26, 76, 77, 78, 90, 91, 92, 93, 511, 512, 513, 28, 514, 83, 84, 89, 47, 641, 642, 643, 644, 645, 646, 647, 690, 691, 692, 693] (by decide +kernel) (by decide +kernel)
set_option maxRecDepth 20000 in
theorem gL_law_X4_sheet : GoodIn wsL_law (wsV RL 95 RX4 yX4_sheet wsX4_sheet) := goodIn_app (goodIn_of _ (by decide +kernel)) ggL_law_X4_sheet
set_option maxRecDepth 20000 in
theorem ggL_law_X5_sheet : GoodIn wsL_law wsX5_sheet := goodIn_r _ [518, 128, 52, 53, 54, 137, 138, 5, 139, 140, 141, 142, 143, 144, 145, 150, 151, 152, 153, 648, 649, 650, 651, 652, 653, 654, 655, 656, 657, 658, 659, 660, 661, 662, 663, 664, 665, 666, 667, 668, 669, 670, 671, 672, 673, 674, 675, 676] (by decide +kernel) (by decide +kernel)
set_option maxRecDepth 20000 in
theorem gL_law_X5_sheet : GoodIn wsL_law (wsV RL 99 RX5 yX5_sheet wsX5_sheet) := goodIn_app (goodIn_of _ (by decide +kernel)) ggL_law_X5_sheet
set_option maxRecDepth 20000 in
theorem ggL_law_X4_lose : GoodIn wsL_law wsX4_lose := goodIn_r _ [522, 523, 72, 73, 74, 2, 75, 26, 524, 525, 526, 28, 527, 83, 89, 690, 691, 692, 693, 641, 642, 643, 644, 645, 646, 647] (by decide +kernel) (by decide +kernel)
set_option maxRecDepth 20000 in
theorem gL_law_X4_lose : GoodIn wsL_law (wsV RL 100 RX4 yX4_lose wsX4_lose) := goodIn_app (goodIn_of _ (by decide +kernel)) ggL_law_X4_lose
set_option maxRecDepth 20000 in
theorem ggL_law_X5_lose : GoodIn wsL_law wsX5_lose := goodIn_r _ [531, 52, 137, 138, 5, 139, 140, 141, 142, 648, 649, 650, 651, 652, 653, 654, 655, 656, 657, 658, 659, 660, 661, 662, 663, 664, 665, 666, 667, 668, 669, 670, 671, 672, 673, 674, 675, 676] (by decide +kernel) (by decide +kernel)
set_option maxRecDepth 20000 in
theorem gL_law_X5_lose : GoodIn wsL_law (wsV RL 103 RX5 yX5_lose wsX5_lose) := goodIn_app (goodIn_of _ (by decide +kernel)) ggL_law_X5_lose
set_option maxRecDepth 20000 in
theorem ggL_law_X4_put : GoodIn wsL_law wsX4_put := goodIn_r _ [535, 70, 523, 536, 72, 73, 74, 2, 75, 26, 90, 91, 92, 93, 537, 102, 103, 28, 104, 89, 538, 539, 540, 541, 84, 641, 642, 643, 644, 645, 646, 647, 690, 691, 692, 693] (by decide +kernel) (by decide +kernel)
set_option maxRecDepth 20000 in
theorem gL_law_X4_put : GoodIn wsL_law (wsV RL 104 RX4 yX4_put wsX4_put) := goodIn_app (goodIn_of _ (by decide +kernel)) ggL_law_X4_put
set_option maxRecDepth 20000 in
theorem ggL_law_X5_put : GoodIn wsL_law wsX5_put := goodIn_r _ [545, 128, 52, 53, 54, 137, 138, 5, 139, 140, 141, 142, 150, 151, 152, 153, 648, 649, 650, 651, 652, 653, 654, 655, 656, 657, 658, 659, 660, 661, 662, 663, 664, 665, 666, 667, 668, 669, 670, 671, 672, 673, 674, 675, 676] (by decide +kernel) (by decide +kernel)
set_option maxRecDepth 20000 in
theorem gL_law_X5_put : GoodIn wsL_law (wsV RL 107 RX5 yX5_put wsX5_put) := goodIn_app (goodIn_of _ (by decide +kernel)) ggL_law_X5_put
set_option maxRecDepth 20000 in
theorem ggL_law_X4_cell : GoodIn wsL_law wsX4_cell := goodIn_r _ [549, 70, 498, 72, 73, 74, 2, 75, 26, 76, 77, 78, 79, 80, 81, 28, 82, 83, 84, 537, 102, 103, 104, 89, 97, 98, 99, 100, 47, 101, 641, 642, 643, 644, 645, 646, 647, 690, 691, 692, 693] (by decide +kernel) (by decide +kernel)
set_option maxRecDepth 20000 in
theorem gL_law_X4_cell : GoodIn wsL_law (wsV RL 108 RX4 yX4_cell wsX4_cell) := goodIn_app (goodIn_of _ (by decide +kernel)) ggL_law_X4_cell
set_option maxRecDepth 20000 in
theorem ggL_law_X5_cell : GoodIn wsL_law wsX5_cell := goodIn_r _ [553, 128, 503, 52, 53, 54, 137, 138, 5, 139, 140, 141, 142, 143, 144, 145, 554, 555, 556, 557, 648, 649, 650, 651, 652, 653, 654, 655, 656, 657, 658, 659, 660, 661, 662, 663, 664, 665, 666, 667, 668, 669, 670, 671, 672, 673, 674, 675, 676] (by decide +kernel) (by decide +kernel)
set_option maxRecDepth 20000 in
theorem gL_law_X5_cell : GoodIn wsL_law (wsV RL 111 RX5 yX5_cell wsX5_cell) := goodIn_app (goodIn_of _ (by decide +kernel)) ggL_law_X5_cell
set_option maxRecDepth 20000 in
theorem ggL_law_X4_copy : GoodIn wsL_law wsX4_copy := goodIn_r _ [561, 70, 523, 562, 536, 563, 564, 565, 566, 72, 73, 74, 2, 75, 26, 90, 91, 92, 93, 85, 86, 87, 28, 88, 89, 641, 642, 643, 644, 645, 646, 647, 690, 691, 692, 693] (by decide +kernel) (by decide +kernel)
set_option maxRecDepth 20000 in
theorem gL_law_X4_copy : GoodIn wsL_law (wsV RL 112 RX4 yX4_copy wsX4_copy) := goodIn_app (goodIn_of _ (by decide +kernel)) ggL_law_X4_copy
set_option maxRecDepth 20000 in
theorem ggL_law_X5_copy : GoodIn wsL_law wsX5_copy := goodIn_r _ [570, 128, 52, 53, 54, 137, 138, 5, 139, 140, 141, 142, 150, 151, 152, 153, 648, 649, 650, 651, 652, 653, 654, 655, 656, 657, 658, 659, 660, 661, 662, 663, 664, 665, 666, 667, 668, 669, 670, 671, 672, 673, 674, 675, 676] (by decide +kernel) (by decide +kernel)
set_option maxRecDepth 20000 in
theorem gL_law_X5_copy : GoodIn wsL_law (wsV RL 116 RX5 yX5_copy wsX5_copy) := goodIn_app (goodIn_of _ (by decide +kernel)) ggL_law_X5_copy
set_option maxRecDepth 20000 in
theorem ggL_law_X4_tell : GoodIn wsL_law wsX4_tell := goodIn_r _ [574, 15, 120, 174, 175, 176, 14, 177, 178, 575, 576, 577, 2, 578, 579, 580, 581, 582, 583, 584, 585, 586, 587, 122, 588, 589, 590, 591, 641, 642, 643, 644, 645, 646, 647, 677, 678, 679, 680, 681, 682] (by decide +kernel) (by decide +kernel)
set_option maxRecDepth 20000 in
theorem gL_law_X4_tell : GoodIn wsL_law (wsV RL 117 RX4 yX4_tell wsX4_tell) := goodIn_app (goodIn_of _ (by decide +kernel)) ggL_law_X4_tell
set_option maxRecDepth 20000 in
theorem ggL_law_X5_tell : GoodIn wsL_law wsX5_tell := goodIn_r _ [595, 57, 55, 183, 184, 185, 5, 186, 135, 596, 597, 598, 599, 600, 648, 649, 650, 651, 652, 653, 654, 655, 656, 657, 658, 659, 660, 661, 662, 663, 664, 665, 666, 667, 668, 669, 670, 671, 672, 673, 674, 675, 676] (by decide +kernel) (by decide +kernel)
set_option maxRecDepth 20000 in
theorem gL_law_X5_tell : GoodIn wsL_law (wsV RL 120 RX5 yX5_tell wsX5_tell) := goodIn_app (goodIn_of _ (by decide +kernel)) ggL_law_X5_tell
set_option maxRecDepth 20000 in
theorem ggL_law_X4_tax : GoodIn wsL_law wsX4_tax := goodIn_r _ [604, 15, 120, 174, 175, 176, 14, 177, 178, 579, 580, 581, 2, 582, 583, 641, 642, 643, 644, 645, 646, 647, 677, 678, 679, 680, 681, 682] (by decide +kernel) (by decide +kernel)
set_option maxRecDepth 20000 in
theorem gL_law_X4_tax : GoodIn wsL_law (wsV RL 121 RX4 yX4_tax wsX4_tax) := goodIn_app (goodIn_of _ (by decide +kernel)) ggL_law_X4_tax
set_option maxRecDepth 20000 in
theorem ggL_law_X5_tax : GoodIn wsL_law wsX5_tax := goodIn_r _ [608, 55, 183, 184, 185, 5, 186, 135, 596, 597, 598, 599, 600, 648, 649, 650, 651, 652, 653, 654, 655, 656, 657, 658, 659, 660, 661, 662, 663, 664, 665, 666, 667, 668, 669, 670, 671, 672, 673, 674, 675, 676] (by decide +kernel) (by decide +kernel)
set_option maxRecDepth 20000 in
theorem gL_law_X5_tax : GoodIn wsL_law (wsV RL 124 RX5 yX5_tax wsX5_tax) := goodIn_app (goodIn_of _ (by decide +kernel)) ggL_law_X5_tax
set_option maxRecDepth 20000 in
theorem ggL_law_X4_as : GoodIn wsL_law wsX4_as := goodIn_r _ [612, 70, 15, 120, 174, 175, 176, 14, 177, 178, 90, 91, 92, 2, 93, 641, 642, 643, 644, 645, 646, 647, 677, 678, 679, 680, 681, 682] (by decide +kernel) (by decide +kernel)
set_option maxRecDepth 20000 in
theorem gL_law_X4_as : GoodIn wsL_law (wsV RL 125 RX4 yX4_as wsX4_as) := goodIn_app (goodIn_of _ (by decide +kernel)) ggL_law_X4_as
set_option maxRecDepth 20000 in
theorem ggL_law_X5_as : GoodIn wsL_law wsX5_as := goodIn_r _ [616, 128, 55, 183, 184, 185, 5, 186, 135, 140, 141, 142, 150, 151, 152, 153, 648, 649, 650, 651, 652, 653, 654, 655, 656, 657, 658, 659, 660, 661, 662, 663, 664, 665, 666, 667, 668, 669, 670, 671, 672, 673, 674, 675, 676] (by decide +kernel) (by decide +kernel)
set_option maxRecDepth 20000 in
theorem gL_law_X5_as : GoodIn wsL_law (wsV RL 128 RX5 yX5_as wsX5_as) := goodIn_app (goodIn_of _ (by decide +kernel)) ggL_law_X5_as
set_option maxRecDepth 20000 in
theorem ggL_law_X4_trace : GoodIn wsL_law wsX4_trace := goodIn_r _ [620, 583, 641, 642, 643, 644, 645, 646, 647] (by decide +kernel) (by decide +kernel)
set_option maxRecDepth 20000 in
theorem gL_law_X4_trace : GoodIn wsL_law (wsV RL 129 RX4 yX4_trace wsX4_trace) := goodIn_app (goodIn_of _ (by decide +kernel)) ggL_law_X4_trace
set_option maxRecDepth 20000 in
theorem ggL_law_X5_trace : GoodIn wsL_law wsX5_trace := goodIn_r _ [624, 600, 648, 649, 650, 651, 652, 653, 654, 655, 656, 657, 658, 659, 660, 661, 662, 663, 664, 665, 666, 667, 668, 669, 670, 671, 672, 673, 674, 675, 676] (by decide +kernel) (by decide +kernel)
set_option maxRecDepth 20000 in
theorem gL_law_X5_trace : GoodIn wsL_law (wsV RL 132 RX5 yX5_trace wsX5_trace) := goodIn_app (goodIn_of _ (by decide +kernel)) ggL_law_X5_trace
set_option maxRecDepth 20000 in
theorem ggL_law_X4_fault : GoodIn wsL_law wsX4_fault := goodIn_r _ [628, 70, 641, 642, 643, 644, 645, 646, 647] (by decide +kernel) (by decide +kernel)
set_option maxRecDepth 20000 in
theorem gL_law_X4_fault : GoodIn wsL_law (wsV RL 133 RX4 yX4_fault wsX4_fault) := goodIn_app (goodIn_of _ (by decide +kernel)) ggL_law_X4_fault
set_option maxRecDepth 20000 in
theorem ggL_law_X5_fault : GoodIn wsL_law wsX5_fault := goodIn_r _ [632, 128, 648, 649, 650, 651, 652, 653, 654, 655, 656, 657, 658, 659, 660, 661, 662, 663, 664, 665, 666, 667, 668, 669, 670, 671, 672, 673, 674, 675, 676] (by decide +kernel) (by decide +kernel)
set_option maxRecDepth 20000 in
theorem gL_law_X5_fault : GoodIn wsL_law (wsV RL 136 RX5 yX5_fault wsX5_fault) := goodIn_app (goodIn_of _ (by decide +kernel)) ggL_law_X5_fault
set_option maxRecDepth 20000 in
theorem ggL_law_X4_many : GoodIn wsL_law wsX4_many := goodIn_r _ [636, 15, 71, 118, 119, 24, 123, 641, 642, 643, 644, 645, 646, 647, 677, 678, 679, 680, 681, 682, 687, 688, 689] (by decide +kernel) (by decide +kernel)
set_option maxRecDepth 20000 in
theorem gL_law_X4_many : GoodIn wsL_law (wsV RL 137 RX4 yX4_many wsX4_many) := goodIn_app (goodIn_of _ (by decide +kernel)) ggL_law_X4_many
set_option maxRecDepth 20000 in
theorem ggL_law_X5_many : GoodIn wsL_law wsX5_many := goodIn_r _ [640, 135, 131, 133, 136, 648, 649, 650, 651, 652, 653, 654, 655, 656, 657, 658, 659, 660, 661, 662, 663, 664, 665, 666, 667, 668, 669, 670, 671, 672, 673, 674, 675, 676] (by decide +kernel) (by decide +kernel)
set_option maxRecDepth 20000 in
theorem gL_law_X5_many : GoodIn wsL_law (wsV RL 140 RX5 yX5_many wsX5_many) := goodIn_app (goodIn_of _ (by decide +kernel)) ggL_law_X5_many
