set_option maxRecDepth 20000 in
theorem ggL_law_X4_block : GoodIn wsL_law wsX4_block := goodIn_r _ [545, 15, 19, 325, 326, 327, 14, 328, 211, 86, 87, 88, 36, 83, 2, 84, 354, 94, 95, 96, 97, 98, 99, 100, 101, 102, 407, 408, 409, 18, 410, 45, 411, 412, 413, 546, 547, 548, 549, 43, 550, 551, 552, 553, 44, 736, 737, 738, 739, 740, 741, 742, 759, 760, 761, 762, 763, 764, 765, 766, 767, 768, 769, 770, 771, 772, 773] (by decide +kernel) (by decide +kernel)
set_option maxRecDepth 20000 in
theorem gL_law_X4_block : GoodIn wsL_law (wsV RL 72 RX4 yX4_block wsX4_block) := goodIn_app (goodIn_of _ (by decide +kernel)) ggL_law_X4_block
set_option maxRecDepth 20000 in
theorem ggL_law_X5_block : GoodIn wsL_law wsX5_block := goodIn_r _ [557, 153, 151, 152, 342, 343, 344, 5, 345, 222, 223, 224, 186, 187, 188, 225, 226, 227, 228, 142, 367, 368, 369, 370, 233, 234, 235, 236, 371, 372, 373, 374, 375, 376, 377, 378, 379, 380, 381, 382, 148, 150, 149, 383, 384, 385, 386, 146, 147, 387, 388, 389, 390, 743, 744, 745, 746, 747, 748, 749, 750, 751, 752, 753, 754, 755, 756, 757, 758] (by decide +kernel) (by decide +kernel)
set_option maxRecDepth 20000 in
theorem gL_law_X5_block : GoodIn wsL_law (wsV RL 76 RX5 yX5_block wsX5_block) := goodIn_app (goodIn_of _ (by decide +kernel)) ggL_law_X5_block
set_option maxRecDepth 20000 in
theorem ggL_law_X4_line : GoodIn wsL_law wsX4_line := goodIn_r _ [561, 19, 198, 83, 2, 84, 562, 128, 129, 18, 130, 40, 563, 564, 565, 566, 46, 131, 132, 133, 567, 568, 569, 570, 74, 111, 112, 113, 114, 76, 115, 116, 117, 118, 571, 572, 573, 574, 47, 575, 576, 577, 578, 127, 579, 736, 737, 738, 739, 740, 741, 742, 760, 761, 762, 763, 764, 765, 766, 767, 768, 769, 770, 771, 772, 773] (by decide +kernel) (by decide +kernel)
set_option maxRecDepth 20000 in
theorem gL_law_X4_line : GoodIn wsL_law (wsV RL 77 RX4 yX4_line wsX4_line) := goodIn_app (goodIn_of _ (by decide +kernel)) ggL_law_X4_line
set_option maxRecDepth 20000 in
theorem ggL_law_X5_line : GoodIn wsL_law wsX5_line := goodIn_r _ [583, 148, 146, 142, 147, 222, 223, 5, 224, 186, 187, 188, 371, 372, 373, 374, 375, 376, 377, 378, 379, 380, 381, 382, 150, 153, 151, 152, 149, 225, 226, 227, 228, 367, 368, 369, 370, 233, 234, 235, 236, 383, 384, 385, 386, 387, 388, 389, 390, 584, 585, 586, 587, 588, 589, 590, 591, 743, 744, 745, 746, 747, 748, 749, 750, 751, 752, 753, 754, 755, 756, 757, 758] (by decide +kernel) (by decide +kernel)
set_option maxRecDepth 20000 in
theorem gL_law_X5_line : GoodIn wsL_law (wsV RL 80 RX5 yX5_line wsX5_line) := goodIn_app (goodIn_of _ (by decide +kernel)) ggL_law_X5_line
set_option maxRecDepth 20000 in
theorem ggL_law_X4_column : GoodIn wsL_law wsX4_column := goodIn_r _ [595, 15, 19, 198, 83, 2, 84, 202, 86, 87, 14, 88, 36, 562, 128, 129, 18, 130, 40, 359, 360, 361, 362, 41, 596, 597, 598, 599, 600, 601, 602, 603, 211, 418, 94, 95, 96, 97, 98, 99, 100, 101, 102, 604, 605, 606, 607, 407, 408, 409, 410, 45, 411, 412, 413, 608, 609, 610, 611, 127, 579, 564, 565, 566, 46, 131, 132, 133, 612, 568, 569, 570, 74, 111, 112, 113, 114, 76, 115, 116, 117, 118, 613, 614, 615, 616, 617, 404, 405, 406, 618, 619, 620, 621, 622, 623, 624, 625, 626, 627, 628, 629, 630, 576, 577, 578, 65, 66, 67, 68, 736, 737, 738, 739, 740, 741, 742, 759, 760, 761, 762, 763, 764, 765, 766, 767, 768, 769, 770, 771, 772, 773] (by decide +kernel) (by decide +kernel)
set_option maxRecDepth 20000 in
theorem gL_law_X4_column : GoodIn wsL_law (wsV RL 81 RX4 yX4_column wsX4_column) := goodIn_app (goodIn_of _ (by decide +kernel)) ggL_law_X4_column
set_option maxRecDepth 20000 in
theorem ggL_law_X5_column : GoodIn wsL_law wsX5_column := goodIn_r _ [634, 148, 146, 142, 153, 149, 222, 223, 5, 224, 186, 187, 188, 371, 372, 373, 374, 375, 376, 377, 378, 379, 380, 381, 382, 150, 151, 152, 225, 226, 227, 228, 367, 368, 369, 370, 233, 234, 235, 236, 383, 384, 385, 386, 147, 387, 388, 389, 390, 588, 589, 590, 591, 584, 585, 586, 587, 635, 636, 637, 638, 639, 640, 641, 642, 743, 744, 745, 746, 747, 748, 749, 750, 751, 752, 753, 754, 755, 756, 757, 758] (by decide +kernel) (by decide +kernel)
set_option maxRecDepth 20000 in
theorem gL_law_X5_column : GoodIn wsL_law (wsV RL 84 RX5 yX5_column wsX5_column) := goodIn_app (goodIn_of _ (by decide +kernel)) ggL_law_X5_column
set_option maxRecDepth 20000 in
theorem ggL_law_X4_shared : GoodIn wsL_law wsX4_shared := goodIn_r _ [646, 19, 647, 648, 649, 18, 650, 48, 651, 652, 653, 654, 655, 437, 405, 438, 127, 128, 129, 130, 40, 83, 2, 84, 579, 564, 565, 566, 46, 131, 132, 133, 656, 657, 658, 659, 660, 661, 662, 663, 630, 576, 577, 578, 736, 737, 738, 739, 740, 741, 742, 760, 761, 762, 763, 764, 765, 766, 767, 768, 769, 770, 771, 772, 773] (by decide +kernel) (by decide +kernel)
set_option maxRecDepth 20000 in
theorem gL_law_X4_shared : GoodIn wsL_law (wsV RL 85 RX4 yX4_shared wsX4_shared) := goodIn_app (goodIn_of _ (by decide +kernel)) ggL_law_X4_shared
set_option maxRecDepth 20000 in
theorem ggL_law_X5_shared : GoodIn wsL_law wsX5_shared := goodIn_r _ [667, 148, 146, 186, 187, 5, 188, 371, 372, 373, 374, 142, 375, 376, 377, 378, 379, 380, 381, 382, 150, 153, 151, 152, 149, 225, 226, 227, 228, 367, 368, 369, 370, 233, 234, 235, 236, 383, 384, 385, 386, 147, 387, 388, 389, 390, 668, 669, 670, 671, 584, 585, 586, 587, 222, 223, 224, 743, 744, 745, 746, 747, 748, 749, 750, 751, 752, 753, 754, 755, 756, 757, 758] (by decide +kernel) (by decide +kernel)
set_option maxRecDepth 20000 in
theorem gL_law_X5_shared : GoodIn wsL_law (wsV RL 88 RX5 yX5_shared wsX5_shared) := goodIn_app (goodIn_of _ (by decide +kernel)) ggL_law_X5_shared
set_option maxRecDepth 20000 in
theorem ggL_law_X4_ifStep : GoodIn wsL_law wsX4_ifStep := goodIn_r _ [675, 20, 15, 69, 70, 71, 18, 72, 73, 74, 75, 76, 77, 66, 67, 14, 68, 36, 78, 79, 80, 81, 82, 40, 42, 43, 45, 44, 41, 83, 2, 84, 85, 86, 87, 88, 89, 90, 91, 92, 93, 94, 95, 96, 97, 98, 99, 100, 101, 102, 103, 104, 105, 106, 107, 108, 109, 110, 111, 112, 113, 114, 115, 116, 117, 118, 119, 120, 121, 122, 123, 124, 125, 126, 46, 47, 127, 128, 129, 130, 131, 132, 133, 134, 135, 136, 137, 676, 677, 678, 679, 680, 609, 610, 611, 579, 564, 565, 566, 612, 568, 569, 570, 681, 682, 683, 684, 685, 686, 687, 688, 689, 619, 620, 621, 622, 623, 624, 625, 736, 737, 738, 739, 740, 741, 742, 760, 761, 762, 763, 764, 765, 766, 767, 768, 769, 770, 771, 772, 773, 759] (by decide +kernel) (by decide +kernel)
set_option maxRecDepth 20000 in
theorem gL_law_X4_ifStep : GoodIn wsL_law (wsV RL 89 RX4 yX4_ifStep wsX4_ifStep) := goodIn_app (goodIn_of _ (by decide +kernel)) ggL_law_X4_ifStep
set_option maxRecDepth 20000 in
theorem ggL_law_X5_ifStep : GoodIn wsL_law wsX5_ifStep := goodIn_r _ [693, 186, 187, 5, 188, 375, 376, 377, 378, 379, 380, 381, 382, 148, 150, 153, 151, 142, 152, 149, 225, 226, 227, 228, 367, 368, 369, 370, 233, 234, 235, 236, 383, 384, 385, 386, 146, 147, 387, 388, 389, 390, 694, 695, 696, 697, 588, 589, 590, 591, 743, 744, 745, 746, 747, 748, 749, 750, 751, 752, 753, 754, 755, 756, 757, 758] (by decide +kernel) (by decide +kernel)
set_option maxRecDepth 20000 in
theorem gL_law_X5_ifStep : GoodIn wsL_law (wsV RL 92 RX5 yX5_ifStep wsX5_ifStep) := goodIn_app (goodIn_of _ (by decide +kernel)) ggL_law_X5_ifStep
set_option maxRecDepth 20000 in
theorem ggL_law_X4_bestStep : GoodIn wsL_law wsX4_bestStep := goodIn_r _ [701, 702, 703, 704, 2, 705, 20, 15, 69, 70, 71, 18, 72, 73, 74, 75, 76, 77, 66, 67, 14, 68, 36, 78, 79, 80, 81, 82, 40, 42, 43, 45, 44, 41, 83, 84, 85, 86, 87, 88, 89, 90, 91, 92, 93, 94, 95, 96, 97, 98, 99, 100, 101, 102, 103, 104, 105, 106, 107, 108, 109, 110, 111, 112, 113, 114, 115, 116, 117, 118, 119, 120, 121, 122, 123, 124, 125, 126, 46, 47, 127, 128, 129, 130, 131, 132, 133, 134, 135, 136, 137, 676, 677, 678, 679, 680, 609, 610, 611, 579, 564, 565, 566, 612, 568, 569, 570, 736, 737, 738, 739, 740, 741, 742, 760, 761, 762, 763, 764, 765, 766, 767, 768, 769, 770, 771, 772, 773, 759] (by decide +kernel) (by decide +kernel)
set_option maxRecDepth 20000 in
theorem gL_law_X4_bestStep : GoodIn wsL_law (wsV RL 93 RX4 yX4_bestStep wsX4_bestStep) := goodIn_app (goodIn_of _ (by decide +kernel)) ggL_law_X4_bestStep
set_option maxRecDepth 20000 in
theorem ggL_law_X5_bestStep : GoodIn wsL_law wsX5_bestStep := goodIn_r _ [709, 186, 187, 5, 188, 375, 376, 377, 378, 379, 380, 381, 382, 148, 150, 153, 151, 142, 152, 149, 225, 226, 227, 228, 367, 368, 369, 370, 233, 234, 235, 236, 383, 384, 385, 386, 146, 147, 387, 388, 389, 390, 694, 695, 696, 697, 588, 589, 590, 591, 743, 744, 745, 746, 747, 748, 749, 750, 751, 752, 753, 754, 755, 756, 757, 758] (by decide +kernel) (by decide +kernel)
set_option maxRecDepth 20000 in
theorem gL_law_X5_bestStep : GoodIn wsL_law (wsV RL 96 RX5 yX5_bestStep wsX5_bestStep) := goodIn_app (goodIn_of _ (by decide +kernel)) ggL_law_X5_bestStep
set_option maxRecDepth 20000 in
theorem ggL_law_X4_count : GoodIn wsL_law wsX4_count := goodIn_r _ [713, 15, 19, 24, 31, 520, 521, 522, 14, 523, 211, 86, 87, 88, 36, 83, 2, 84, 681, 682, 683, 18, 684, 127, 128, 129, 130, 40, 676, 677, 678, 679, 680, 609, 610, 611, 579, 564, 565, 566, 46, 131, 132, 133, 612, 568, 569, 570, 74, 111, 112, 113, 114, 76, 115, 116, 117, 118, 714, 715, 716, 717, 596, 597, 598, 599, 600, 601, 602, 603, 418, 94, 95, 96, 97, 98, 99, 100, 101, 102, 562, 718, 719, 720, 721, 722, 396, 397, 398, 42, 723, 724, 725, 726, 617, 404, 405, 406, 727, 360, 361, 362, 41, 728, 729, 730, 731, 73, 499, 500, 501, 23, 502, 53, 475, 476, 477, 30, 478, 59, 65, 66, 67, 68, 736, 737, 738, 739, 740, 741, 742, 759, 760, 761, 762, 763, 764, 765, 766, 767, 768, 769, 770, 771, 772, 773, 774, 775, 776, 777, 778, 779, 780, 781, 782] (by decide +kernel) (by decide +kernel)
set_option maxRecDepth 20000 in
theorem gL_law_X4_count : GoodIn wsL_law (wsV RL 97 RX4 yX4_count wsX4_count) := goodIn_app (goodIn_of _ (by decide +kernel)) ggL_law_X4_count
set_option maxRecDepth 20000 in
theorem ggL_law_X5_count : GoodIn wsL_law wsX5_count := goodIn_r _ [735, 142, 148, 150, 149, 193, 308, 186, 187, 5, 188, 371, 372, 373, 374, 375, 376, 377, 378, 379, 380, 381, 382, 153, 151, 152, 225, 226, 227, 228, 367, 368, 369, 370, 233, 234, 235, 236, 383, 384, 385, 386, 146, 147, 387, 388, 389, 390, 635, 636, 637, 638, 529, 530, 531, 532, 694, 695, 696, 697, 588, 589, 590, 591, 743, 744, 745, 746, 747, 748, 749, 750, 751, 752, 753, 754, 755, 756, 757, 758] (by decide +kernel) (by decide +kernel)
set_option maxRecDepth 20000 in
theorem gL_law_X5_count : GoodIn wsL_law (wsV RL 100 RX5 yX5_count wsX5_count) := goodIn_app (goodIn_of _ (by decide +kernel)) ggL_law_X5_count
