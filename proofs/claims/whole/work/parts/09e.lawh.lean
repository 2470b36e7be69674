set_option maxRecDepth 20000 in
theorem ggL_law_X6_trim : GoodIn wsL_law wsX6_trim := goodIn_r _ [520, 24, 19, 154, 505, 506, 507, 23, 508, 52, 487, 297, 298, 299, 18, 300, 42, 488, 489, 490, 491, 49, 492, 301, 302, 303, 48, 304, 58, 305, 59, 61, 306, 62, 307, 308, 309, 310, 311, 312, 313, 2, 314, 315, 316, 317, 318, 319, 320, 321, 322, 323, 324, 325, 326, 327, 63, 328, 329, 330, 331, 332, 333, 223, 224, 225, 41, 493, 494, 495, 169, 496, 171, 172, 180, 181, 182, 183, 184, 177, 178, 179, 220, 173, 174, 175, 176, 10, 11, 34, 185, 186, 187, 188, 189, 450, 426, 341, 342, 343, 339, 344, 345, 346, 347, 348, 349, 350, 351, 352, 353, 354, 355, 356, 357, 358, 359, 360, 361, 362, 363, 364, 365, 366, 367, 368, 369, 370, 371, 372, 373, 374, 375, 376, 521, 255, 256, 257, 258, 226, 227, 228, 229, 28, 230, 231, 232, 233, 50, 51, 53, 234, 235, 236, 27, 237, 70, 691, 692, 693, 694, 695, 696, 697, 715, 716, 717, 718, 719, 720, 721, 722, 727, 728, 729, 730, 731, 732, 733, 734, 735, 736, 737, 738, 739, 740, 741, 742, 743, 744, 723, 724, 725, 726] (by decide +kernel) (by decide +kernel)
set_option maxRecDepth 20000 in
theorem gL_law_X6_trim : GoodIn wsL_law (wsV RL 68 RX6 yX6_trim wsX6_trim) := goodIn_app (goodIn_of _ (by decide +kernel)) ggL_law_X6_trim
set_option maxRecDepth 20000 in
theorem ggL_law_X7_trim : GoodIn wsL_law wsX7_trim := goodIn_r _ [525, 242, 513, 514, 515, 5, 516, 381, 382, 383, 384, 385, 386, 387, 388, 389, 390, 391, 392, 393, 394, 395, 79, 78, 396, 397, 398, 399, 400, 401, 402, 285, 286, 287, 288, 75, 403, 404, 405, 406, 407, 408, 409, 410, 411, 412, 413, 414, 267, 268, 269, 270, 698, 699, 700, 701, 702, 703, 704, 705, 706, 707, 708, 709, 710, 711, 712] (by decide +kernel) (by decide +kernel)
set_option maxRecDepth 20000 in
theorem gL_law_X7_trim : GoodIn wsL_law (wsV RL 71 RX7 yX7_trim wsX7_trim) := goodIn_app (goodIn_of _ (by decide +kernel)) ggL_law_X7_trim
set_option maxRecDepth 20000 in
theorem ggL_law_X6_step : GoodIn wsL_law wsX6_step := goodIn_r _ [529, 28, 19, 530, 531, 532, 533, 534, 27, 535, 70, 67, 69, 68, 536, 310, 311, 312, 537, 538, 539, 540, 541, 542, 543, 198, 199, 169, 200, 180, 544, 202, 203, 204, 181, 182, 183, 545, 546, 547, 548, 549, 550, 551, 552, 553, 554, 555, 556, 557, 558, 359, 360, 361, 362, 363, 364, 559, 560, 561, 562, 563, 564, 565, 566, 567, 568, 569, 570, 571, 572, 573, 574, 575, 576, 577, 578, 579, 580, 581, 313, 2, 314, 691, 692, 693, 694, 695, 696, 697, 723, 724, 725, 726, 715, 716, 736, 737, 738, 739, 740, 741, 742, 743, 744] (by decide +kernel) (by decide +kernel)
set_option maxRecDepth 20000 in
theorem gL_law_X6_step : GoodIn wsL_law (wsV RL 72 RX6 yX6_step wsX6_step) := goodIn_app (goodIn_of _ (by decide +kernel)) ggL_law_X6_step
set_option maxRecDepth 20000 in
theorem ggL_law_X7_step : GoodIn wsL_law wsX7_step := goodIn_r _ [585, 586, 81, 99, 100, 5, 101, 587, 588, 589, 590, 80, 591, 592, 593, 594, 595, 596, 597, 598, 242, 285, 286, 287, 288, 75, 599, 600, 601, 602, 396, 397, 398, 603, 604, 605, 606, 407, 408, 409, 410, 607, 608, 609, 610, 611, 612, 613, 614, 615, 616, 617, 618, 619, 620, 621, 622, 623, 624, 625, 626, 627, 628, 698, 699, 700, 701, 702, 703, 704, 705, 706, 707, 708, 709, 710, 711, 712] (by decide +kernel) (by decide +kernel)
set_option maxRecDepth 20000 in
theorem gL_law_X7_step : GoodIn wsL_law (wsV RL 75 RX7 yX7_step wsX7_step) := goodIn_app (goodIn_of _ (by decide +kernel)) ggL_law_X7_step
set_option maxRecDepth 20000 in
theorem ggL_law_X6_left : GoodIn wsL_law wsX6_left := goodIn_r _ [632, 28, 19, 419, 420, 2, 421, 532, 533, 534, 27, 535, 70, 67, 69, 68, 536, 310, 311, 312, 537, 538, 539, 540, 541, 542, 543, 198, 199, 169, 200, 180, 544, 202, 203, 204, 181, 182, 183, 545, 546, 547, 548, 549, 550, 551, 552, 553, 554, 555, 556, 557, 558, 359, 360, 361, 362, 363, 364, 559, 560, 561, 562, 563, 564, 565, 566, 567, 568, 569, 570, 571, 572, 573, 574, 575, 576, 577, 578, 579, 580, 581, 313, 314, 633, 634, 635, 636, 637, 195, 187, 196, 691, 692, 693, 694, 695, 696, 697, 723, 724, 725, 726, 715, 716, 736, 737, 738, 739, 740, 741, 742, 743, 744] (by decide +kernel) (by decide +kernel)
set_option maxRecDepth 20000 in
theorem gL_law_X6_left : GoodIn wsL_law (wsV RL 76 RX6 yX6_left wsX6_left) := goodIn_app (goodIn_of _ (by decide +kernel)) ggL_law_X6_left
set_option maxRecDepth 20000 in
theorem ggL_law_X7_left : GoodIn wsL_law wsX7_left := goodIn_r _ [641, 80, 435, 436, 5, 437, 99, 100, 101, 587, 588, 589, 590, 586, 591, 592, 593, 594, 595, 596, 597, 598, 242, 285, 286, 287, 288, 75, 599, 600, 601, 602, 396, 397, 398, 603, 604, 605, 606, 407, 408, 409, 410, 607, 608, 609, 610, 81, 611, 612, 613, 614, 615, 616, 617, 618, 619, 620, 621, 622, 623, 624, 625, 626, 627, 628, 698, 699, 700, 701, 702, 703, 704, 705, 706, 707, 708, 709, 710, 711, 712] (by decide +kernel) (by decide +kernel)
set_option maxRecDepth 20000 in
theorem gL_law_X7_left : GoodIn wsL_law (wsV RL 79 RX7 yX7_left wsX7_left) := goodIn_app (goodIn_of _ (by decide +kernel)) ggL_law_X7_left
set_option maxRecDepth 20000 in
theorem ggL_law_X6_end : GoodIn wsL_law wsX6_end := goodIn_r _ [645, 28, 19, 532, 533, 534, 27, 535, 70, 67, 69, 68, 536, 310, 311, 312, 537, 538, 539, 540, 541, 542, 543, 198, 199, 169, 200, 180, 544, 202, 203, 204, 181, 182, 183, 545, 546, 547, 548, 549, 550, 551, 552, 553, 554, 555, 556, 557, 558, 359, 360, 361, 362, 363, 364, 559, 560, 561, 562, 563, 564, 565, 566, 567, 568, 569, 570, 571, 572, 573, 574, 575, 576, 577, 578, 579, 580, 581, 313, 2, 314, 646, 647, 648, 649, 691, 692, 693, 694, 695, 696, 697, 723, 724, 725, 726, 715, 716, 736, 737, 738, 739, 740, 741, 742, 743, 744] (by decide +kernel) (by decide +kernel)
set_option maxRecDepth 20000 in
theorem gL_law_X6_end : GoodIn wsL_law (wsV RL 80 RX6 yX6_end wsX6_end) := goodIn_app (goodIn_of _ (by decide +kernel)) ggL_law_X6_end
set_option maxRecDepth 20000 in
theorem ggL_law_X7_end : GoodIn wsL_law wsX7_end := goodIn_r _ [653, 80, 587, 588, 589, 5, 590, 586, 591, 592, 593, 594, 595, 596, 597, 598, 242, 285, 286, 287, 288, 75, 599, 600, 601, 602, 396, 397, 398, 603, 604, 605, 606, 407, 408, 409, 410, 607, 608, 609, 610, 81, 611, 612, 613, 614, 615, 616, 617, 618, 619, 620, 621, 622, 623, 624, 625, 626, 627, 628, 698, 699, 700, 701, 702, 703, 704, 705, 706, 707, 708, 709, 710, 711, 712] (by decide +kernel) (by decide +kernel)
set_option maxRecDepth 20000 in
theorem gL_law_X7_end : GoodIn wsL_law (wsV RL 83 RX7 yX7_end wsX7_end) := goodIn_app (goodIn_of _ (by decide +kernel)) ggL_law_X7_end
set_option maxRecDepth 20000 in
theorem ggL_law_X6_image : GoodIn wsL_law wsX6_image := goodIn_r _ [657, 20, 19, 29, 658, 659, 660, 18, 661, 42, 41, 691, 692, 693, 694, 695, 696, 697, 715, 716] (by decide +kernel) (by decide +kernel)
set_option maxRecDepth 20000 in
theorem gL_law_X6_image : GoodIn wsL_law (wsV RL 84 RX6 yX6_image wsX6_image) := goodIn_app (goodIn_of _ (by decide +kernel)) ggL_law_X6_image
set_option maxRecDepth 20000 in
theorem ggL_law_X7_image : GoodIn wsL_law wsX7_image := goodIn_r _ [665, 82, 75, 242, 84, 99, 100, 5, 101, 698, 699, 700, 701, 702, 703, 704, 705, 706, 707, 708, 709, 710, 711, 712] (by decide +kernel) (by decide +kernel)
set_option maxRecDepth 20000 in
theorem gL_law_X7_image : GoodIn wsL_law (wsV RL 87 RX7 yX7_image wsX7_image) := goodIn_app (goodIn_of _ (by decide +kernel)) ggL_law_X7_image
set_option maxRecDepth 20000 in
theorem ggL_law_X6_restore : GoodIn wsL_law wsX6_restore := goodIn_r _ [669, 29, 19, 20, 521, 313, 2, 314, 658, 659, 660, 18, 661, 42, 41, 226, 227, 228, 229, 24, 28, 230, 231, 232, 23, 233, 50, 51, 52, 53, 234, 235, 236, 27, 237, 70, 691, 692, 693, 694, 695, 696, 697, 715, 716, 717, 718, 719, 720, 721, 722, 723, 724, 725, 726] (by decide +kernel) (by decide +kernel)
set_option maxRecDepth 20000 in
theorem gL_law_X6_restore : GoodIn wsL_law (wsV RL 88 RX6 yX6_restore wsX6_restore) := goodIn_app (goodIn_of _ (by decide +kernel)) ggL_law_X6_restore
set_option maxRecDepth 20000 in
theorem ggL_law_X7_restore : GoodIn wsL_law wsX7_restore := goodIn_r _ [673, 84, 75, 82, 242, 99, 100, 5, 101, 698, 699, 700, 701, 702, 703, 704, 705, 706, 707, 708, 709, 710, 711, 712] (by decide +kernel) (by decide +kernel)
set_option maxRecDepth 20000 in
theorem gL_law_X7_restore : GoodIn wsL_law (wsV RL 91 RX7 yX7_restore wsX7_restore) := goodIn_app (goodIn_of _ (by decide +kernel)) ggL_law_X7_restore
set_option maxRecDepth 20000 in
theorem ggL_law_X6_count : GoodIn wsL_law wsX6_count := goodIn_r _ [677, 19, 154, 15, 89, 30, 29, 678, 679, 680, 18, 681, 42, 41, 682, 691, 692, 693, 694, 695, 696, 697, 715, 716, 713, 714, 736, 737, 738, 739, 740, 741, 742, 743, 744] (by decide +kernel) (by decide +kernel)
set_option maxRecDepth 20000 in
theorem gL_law_X6_count : GoodIn wsL_law (wsV RL 92 RX6 yX6_count wsX6_count) := goodIn_app (goodIn_of _ (by decide +kernel)) ggL_law_X6_count
set_option maxRecDepth 20000 in
theorem ggL_law_X7_count : GoodIn wsL_law wsX7_count := goodIn_r _ [686, 242, 98, 77, 84, 99, 100, 5, 101, 687, 688, 689, 690, 285, 286, 287, 288, 75, 698, 699, 700, 701, 702, 703, 704, 705, 706, 707, 708, 709, 710, 711, 712] (by decide +kernel) (by decide +kernel)
set_option maxRecDepth 20000 in
theorem gL_law_X7_count : GoodIn wsL_law (wsV RL 95 RX7 yX7_count wsX7_count) := goodIn_app (goodIn_of _ (by decide +kernel)) ggL_law_X7_count
