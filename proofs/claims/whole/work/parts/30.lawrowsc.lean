set_option maxRecDepth 20000 in
theorem ggL_law_X4_block : GoodIn wsL_law wsX4_block := goodIn_r _ [545, 15, 19, 328, 329, 330, 14, 331, 214, 80, 81, 82, 36, 83, 2, 84, 357, 93, 94, 95, 96, 97, 98, 99, 100, 101, 410, 411, 412, 18, 413, 45, 89, 90, 91, 546, 547, 548, 549, 43, 550, 551, 552, 553, 44, 736, 737, 738, 739, 740, 741, 742, 759, 760, 761, 762, 763, 764, 765, 766, 767, 768, 769, 770, 771, 772, 773] (by decide +kernel) (by decide +kernel)
set_option maxRecDepth 20000 in
theorem gL_law_X4_block : GoodIn wsL_law (wsV RL 72 RX4 yX4_block wsX4_block) := goodIn_app (goodIn_of _ (by decide +kernel)) ggL_law_X4_block
set_option maxRecDepth 20000 in
theorem ggL_law_X5_block : GoodIn wsL_law wsX5_block := goodIn_r _ [557, 156, 154, 155, 345, 346, 347, 5, 348, 225, 226, 227, 189, 190, 191, 228, 229, 230, 231, 145, 370, 371, 372, 373, 236, 237, 238, 239, 374, 375, 376, 377, 378, 379, 380, 381, 382, 383, 384, 385, 151, 153, 152, 386, 387, 388, 389, 149, 150, 390, 391, 392, 393, 743, 744, 745, 746, 747, 748, 749, 750, 751, 752, 753, 754, 755, 756, 757, 758] (by decide +kernel) (by decide +kernel)
set_option maxRecDepth 20000 in
theorem gL_law_X5_block : GoodIn wsL_law (wsV RL 76 RX5 yX5_block wsX5_block) := goodIn_app (goodIn_of _ (by decide +kernel)) ggL_law_X5_block
set_option maxRecDepth 20000 in
theorem ggL_law_X4_line : GoodIn wsL_law wsX4_line := goodIn_r _ [561, 19, 201, 83, 2, 84, 562, 127, 128, 18, 129, 40, 563, 564, 565, 566, 46, 130, 131, 132, 567, 568, 569, 570, 74, 110, 111, 112, 113, 76, 114, 115, 116, 117, 571, 572, 573, 574, 47, 575, 576, 577, 578, 126, 579, 736, 737, 738, 739, 740, 741, 742, 760, 761, 762, 763, 764, 765, 766, 767, 768, 769, 770, 771, 772, 773] (by decide +kernel) (by decide +kernel)
set_option maxRecDepth 20000 in
theorem gL_law_X4_line : GoodIn wsL_law (wsV RL 77 RX4 yX4_line wsX4_line) := goodIn_app (goodIn_of _ (by decide +kernel)) ggL_law_X4_line
set_option maxRecDepth 20000 in
theorem ggL_law_X5_line : GoodIn wsL_law wsX5_line := goodIn_r _ [583, 151, 149, 145, 150, 225, 226, 5, 227, 189, 190, 191, 374, 375, 376, 377, 378, 379, 380, 381, 382, 383, 384, 385, 153, 156, 154, 155, 152, 228, 229, 230, 231, 370, 371, 372, 373, 236, 237, 238, 239, 386, 387, 388, 389, 390, 391, 392, 393, 584, 585, 586, 587, 588, 589, 590, 591, 743, 744, 745, 746, 747, 748, 749, 750, 751, 752, 753, 754, 755, 756, 757, 758] (by decide +kernel) (by decide +kernel)
set_option maxRecDepth 20000 in
theorem gL_law_X5_line : GoodIn wsL_law (wsV RL 80 RX5 yX5_line wsX5_line) := goodIn_app (goodIn_of _ (by decide +kernel)) ggL_law_X5_line
set_option maxRecDepth 20000 in
theorem ggL_law_X4_column : GoodIn wsL_law wsX4_column := goodIn_r _ [595, 15, 19, 201, 83, 2, 84, 205, 80, 81, 14, 82, 36, 562, 127, 128, 18, 129, 40, 362, 363, 364, 365, 41, 596, 597, 598, 599, 600, 601, 602, 603, 214, 418, 93, 94, 95, 96, 97, 98, 99, 100, 101, 604, 605, 606, 607, 410, 411, 412, 413, 45, 89, 90, 91, 608, 609, 610, 611, 126, 579, 564, 565, 566, 46, 130, 131, 132, 612, 568, 569, 570, 74, 110, 111, 112, 113, 76, 114, 115, 116, 117, 613, 614, 615, 616, 617, 407, 408, 409, 618, 619, 620, 621, 622, 623, 624, 625, 626, 627, 628, 629, 630, 576, 577, 578, 65, 66, 67, 68, 736, 737, 738, 739, 740, 741, 742, 759, 760, 761, 762, 763, 764, 765, 766, 767, 768, 769, 770, 771, 772, 773] (by decide +kernel) (by decide +kernel)
set_option maxRecDepth 20000 in
theorem gL_law_X4_column : GoodIn wsL_law (wsV RL 81 RX4 yX4_column wsX4_column) := goodIn_app (goodIn_of _ (by decide +kernel)) ggL_law_X4_column
set_option maxRecDepth 20000 in
theorem ggL_law_X5_column : GoodIn wsL_law wsX5_column := goodIn_r _ [634, 151, 149, 145, 156, 152, 225, 226, 5, 227, 189, 190, 191, 374, 375, 376, 377, 378, 379, 380, 381, 382, 383, 384, 385, 153, 154, 155, 228, 229, 230, 231, 370, 371, 372, 373, 236, 237, 238, 239, 386, 387, 388, 389, 150, 390, 391, 392, 393, 588, 589, 590, 591, 584, 585, 586, 587, 635, 636, 637, 638, 639, 640, 641, 642, 743, 744, 745, 746, 747, 748, 749, 750, 751, 752, 753, 754, 755, 756, 757, 758] (by decide +kernel) (by decide +kernel)
set_option maxRecDepth 20000 in
theorem gL_law_X5_column : GoodIn wsL_law (wsV RL 84 RX5 yX5_column wsX5_column) := goodIn_app (goodIn_of _ (by decide +kernel)) ggL_law_X5_column
set_option maxRecDepth 20000 in
theorem ggL_law_X4_shared : GoodIn wsL_law wsX4_shared := goodIn_r _ [646, 19, 647, 648, 649, 18, 650, 48, 651, 652, 653, 654, 655, 437, 408, 438, 126, 127, 128, 129, 40, 83, 2, 84, 579, 564, 565, 566, 46, 130, 131, 132, 656, 657, 658, 659, 660, 661, 662, 663, 630, 576, 577, 578, 736, 737, 738, 739, 740, 741, 742, 760, 761, 762, 763, 764, 765, 766, 767, 768, 769, 770, 771, 772, 773] (by decide +kernel) (by decide +kernel)
set_option maxRecDepth 20000 in
theorem gL_law_X4_shared : GoodIn wsL_law (wsV RL 85 RX4 yX4_shared wsX4_shared) := goodIn_app (goodIn_of _ (by decide +kernel)) ggL_law_X4_shared
set_option maxRecDepth 20000 in
theorem ggL_law_X5_shared : GoodIn wsL_law wsX5_shared := goodIn_r _ [667, 151, 149, 189, 190, 5, 191, 374, 375, 376, 377, 145, 378, 379, 380, 381, 382, 383, 384, 385, 153, 156, 154, 155, 152, 228, 229, 230, 231, 370, 371, 372, 373, 236, 237, 238, 239, 386, 387, 388, 389, 150, 390, 391, 392, 393, 668, 669, 670, 671, 584, 585, 586, 587, 225, 226, 227, 743, 744, 745, 746, 747, 748, 749, 750, 751, 752, 753, 754, 755, 756, 757, 758] (by decide +kernel) (by decide +kernel)
set_option maxRecDepth 20000 in
theorem gL_law_X5_shared : GoodIn wsL_law (wsV RL 88 RX5 yX5_shared wsX5_shared) := goodIn_app (goodIn_of _ (by decide +kernel)) ggL_law_X5_shared
set_option maxRecDepth 20000 in
theorem ggL_law_X4_ifStep : GoodIn wsL_law wsX4_ifStep := goodIn_r _ [675, 20, 15, 69, 70, 71, 18, 72, 73, 74, 75, 76, 77, 40, 42, 41, 78, 66, 67, 14, 68, 36, 79, 80, 81, 82, 83, 2, 84, 85, 86, 87, 88, 43, 45, 44, 89, 90, 91, 92, 93, 94, 95, 96, 97, 98, 99, 100, 101, 102, 103, 104, 105, 106, 107, 108, 109, 110, 111, 112, 113, 114, 115, 116, 117, 118, 119, 120, 121, 122, 123, 124, 125, 46, 47, 126, 127, 128, 129, 130, 131, 132, 133, 134, 135, 136, 137, 138, 139, 140, 676, 677, 678, 679, 680, 609, 610, 611, 579, 564, 565, 566, 612, 568, 569, 570, 681, 682, 683, 684, 685, 686, 687, 688, 689, 619, 620, 621, 622, 623, 624, 625, 736, 737, 738, 739, 740, 741, 742, 760, 761, 762, 763, 764, 765, 766, 767, 768, 769, 770, 771, 772, 773, 759] (by decide +kernel) (by decide +kernel)
set_option maxRecDepth 20000 in
theorem gL_law_X4_ifStep : GoodIn wsL_law (wsV RL 89 RX4 yX4_ifStep wsX4_ifStep) := goodIn_app (goodIn_of _ (by decide +kernel)) ggL_law_X4_ifStep
set_option maxRecDepth 20000 in
theorem ggL_law_X5_ifStep : GoodIn wsL_law wsX5_ifStep := goodIn_r _ [693, 189, 190, 5, 191, 378, 379, 380, 381, 382, 383, 384, 385, 151, 153, 156, 154, 145, 155, 152, 228, 229, 230, 231, 370, 371, 372, 373, 236, 237, 238, 239, 386, 387, 388, 389, 149, 150, 390, 391, 392, 393, 694, 695, 696, 697, 588, 589, 590, 591, 743, 744, 745, 746, 747, 748, 749, 750, 751, 752, 753, 754, 755, 756, 757, 758] (by decide +kernel) (by decide +kernel)
set_option maxRecDepth 20000 in
theorem gL_law_X5_ifStep : GoodIn wsL_law (wsV RL 92 RX5 yX5_ifStep wsX5_ifStep) := goodIn_app (goodIn_of _ (by decide +kernel)) ggL_law_X5_ifStep
set_option maxRecDepth 20000 in
theorem ggL_law_X4_bestStep : GoodIn wsL_law wsX4_bestStep := goodIn_r _ [701, 702, 703, 704, 2, 705, 20, 15, 69, 70, 71, 18, 72, 73, 74, 75, 76, 77, 40, 42, 41, 78, 66, 67, 14, 68, 36, 79, 80, 81, 82, 83, 84, 85, 86, 87, 88, 43, 45, 44, 89, 90, 91, 92, 93, 94, 95, 96, 97, 98, 99, 100, 101, 102, 103, 104, 105, 106, 107, 108, 109, 110, 111, 112, 113, 114, 115, 116, 117, 118, 119, 120, 121, 122, 123, 124, 125, 46, 47, 126, 127, 128, 129, 130, 131, 132, 133, 134, 135, 136, 137, 138, 139, 140, 676, 677, 678, 679, 680, 609, 610, 611, 579, 564, 565, 566, 612, 568, 569, 570, 736, 737, 738, 739, 740, 741, 742, 760, 761, 762, 763, 764, 765, 766, 767, 768, 769, 770, 771, 772, 773, 759] (by decide +kernel) (by decide +kernel)
set_option maxRecDepth 20000 in
theorem gL_law_X4_bestStep : GoodIn wsL_law (wsV RL 93 RX4 yX4_bestStep wsX4_bestStep) := goodIn_app (goodIn_of _ (by decide +kernel)) ggL_law_X4_bestStep
set_option maxRecDepth 20000 in
theorem ggL_law_X5_bestStep : GoodIn wsL_law wsX5_bestStep := goodIn_r _ [709, 189, 190, 5, 191, 378, 379, 380, 381, 382, 383, 384, 385, 151, 153, 156, 154, 145, 155, 152, 228, 229, 230, 231, 370, 371, 372, 373, 236, 237, 238, 239, 386, 387, 388, 389, 149, 150, 390, 391, 392, 393, 694, 695, 696, 697, 588, 589, 590, 591, 743, 744, 745, 746, 747, 748, 749, 750, 751, 752, 753, 754, 755, 756, 757, 758] (by decide +kernel) (by decide +kernel)
set_option maxRecDepth 20000 in
theorem gL_law_X5_bestStep : GoodIn wsL_law (wsV RL 96 RX5 yX5_bestStep wsX5_bestStep) := goodIn_app (goodIn_of _ (by decide +kernel)) ggL_law_X5_bestStep
set_option maxRecDepth 20000 in
theorem ggL_law_X4_count : GoodIn wsL_law wsX4_count := goodIn_r _ [713, 15, 19, 24, 31, 520, 521, 522, 14, 523, 214, 80, 81, 82, 36, 83, 2, 84, 681, 682, 683, 18, 684, 126, 127, 128, 129, 40, 676, 677, 678, 679, 680, 609, 610, 611, 579, 564, 565, 566, 46, 130, 131, 132, 612, 568, 569, 570, 74, 110, 111, 112, 113, 76, 114, 115, 116, 117, 714, 715, 716, 717, 596, 597, 598, 599, 600, 601, 602, 603, 418, 93, 94, 95, 96, 97, 98, 99, 100, 101, 562, 718, 719, 720, 721, 722, 399, 400, 401, 42, 723, 724, 725, 726, 617, 407, 408, 409, 727, 363, 364, 365, 41, 728, 729, 730, 731, 73, 499, 500, 501, 23, 502, 53, 475, 476, 477, 30, 478, 59, 65, 66, 67, 68, 736, 737, 738, 739, 740, 741, 742, 759, 760, 761, 762, 763, 764, 765, 766, 767, 768, 769, 770, 771, 772, 773, 774, 775, 776, 777, 778, 779, 780, 781, 782] (by decide +kernel) (by decide +kernel)
set_option maxRecDepth 20000 in
theorem gL_law_X4_count : GoodIn wsL_law (wsV RL 97 RX4 yX4_count wsX4_count) := goodIn_app (goodIn_of _ (by decide +kernel)) ggL_law_X4_count
set_option maxRecDepth 20000 in
theorem ggL_law_X5_count : GoodIn wsL_law wsX5_count := goodIn_r _ [735, 145, 151, 153, 152, 196, 311, 189, 190, 5, 191, 374, 375, 376, 377, 378, 379, 380, 381, 382, 383, 384, 385, 156, 154, 155, 228, 229, 230, 231, 370, 371, 372, 373, 236, 237, 238, 239, 386, 387, 388, 389, 149, 150, 390, 391, 392, 393, 635, 636, 637, 638, 529, 530, 531, 532, 694, 695, 696, 697, 588, 589, 590, 591, 743, 744, 745, 746, 747, 748, 749, 750, 751, 752, 753, 754, 755, 756, 757, 758] (by decide +kernel) (by decide +kernel)
set_option maxRecDepth 20000 in
theorem gL_law_X5_count : GoodIn wsL_law (wsV RL 100 RX5 yX5_count wsX5_count) := goodIn_app (goodIn_of _ (by decide +kernel)) ggL_law_X5_count
