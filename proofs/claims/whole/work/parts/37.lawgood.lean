set_option maxRecDepth 20000 in
theorem ggL_law_X8_init : GoodIn wsL_law wsX8_init := goodIn_r _ [9, 10, 11, 12, 13, 14, 15, 16, 17, 18, 19, 20, 21, 22, 23, 24, 25, 26, 27, 28, 29, 30, 31, 32, 33, 34, 35, 36, 37, 38, 39, 40, 41, 42, 43, 44, 45, 46, 47, 48, 49, 50, 51, 52, 53, 54, 55, 56, 57, 58, 59, 60, 61, 62, 63, 64, 65, 66, 67, 68, 69, 70, 71, 72, 73, 74, 75, 76, 77, 78, 79, 80, 2, 81, 82, 83, 84, 85, 86, 87, 88, 89, 90, 91, 92, 93, 94, 95, 96, 97, 98, 99, 100, 101, 102, 103, 104, 105, 106, 107, 108, 109, 110, 111, 112, 113, 114, 115, 116, 117, 118, 119, 120, 121, 122, 123, 124, 125, 126, 127, 128, 129, 130, 131, 132, 133, 134, 135, 136, 137, 138, 139, 140, 141, 142, 143, 144, 715, 716, 657, 658, 659, 660, 661, 662, 663, 664, 665, 666, 667, 668, 669, 670, 671, 672, 673, 674, 717, 718, 719, 720, 721, 722, 723, 724, 725, 726, 727, 728, 729, 730, 731, 732, 733, 734, 735, 736, 737, 738] (by decide +kernel) (by decide +kernel)
set_option maxRecDepth 20000 in
theorem gL_law_X8_init : GoodIn wsL_law (wsX8_init) := ggL_law_X8_init
set_option maxRecDepth 20000 in
theorem ggL_law_X9_init : GoodIn wsL_law wsX9_init := goodIn_r _ [147, 148, 11, 12, 53, 149, 150, 151, 152, 153, 154, 155, 156, 157, 158, 159, 5, 160, 161, 162, 163, 164, 165, 166, 167, 168, 169, 170, 171, 172, 173, 174, 175, 176, 177, 178, 179, 180, 181, 182, 183, 184, 185, 186, 675, 676, 677, 678, 679, 680, 681, 682, 683, 684, 685, 686, 687, 688, 689, 690, 691, 692, 693, 694, 695, 696, 697, 698, 699, 700, 701, 702, 703, 704, 705, 706, 707, 708, 709, 710, 711, 712, 713, 714] (by decide +kernel) (by decide +kernel)
set_option maxRecDepth 20000 in
theorem gL_law_X9_init : GoodIn wsL_law (wsX9_init) := ggL_law_X9_init
set_option maxRecDepth 20000 in
theorem ggL_law_L_write : GoodIn wsL_law wsL_write := goodIn_ca (goodIn_r _ [190, 191, 192, 193, 194, 2, 195, 196, 197, 83, 16, 198, 199, 200, 15, 201, 96, 202, 97, 203, 204, 205, 206, 33, 84, 207, 208, 209, 210, 21, 86, 88, 211, 212, 213, 19, 214, 56, 215, 216, 217, 218, 219, 220, 221, 222, 54, 223, 224, 225, 226, 227, 228, 229, 230, 55, 231, 232, 233, 234, 235, 236, 237, 238, 82, 239, 240, 241, 242, 243, 244, 245, 246, 20, 89, 85, 98, 99, 100, 101, 247, 248, 249, 250, 251, 252, 32, 253, 129, 254, 255, 256, 257, 130, 131, 132, 258, 259, 260, 261, 262, 263, 264, 265, 657, 658, 659, 660, 661, 662, 663, 664, 665, 666, 667, 668, 669, 670, 671, 672, 673, 674, 715, 716, 717, 718, 719, 731, 732, 733, 734] (by decide +kernel) (by decide +kernel)) (goodIn_sub (fun _ h => List.mem_append_right _ h) (by decide +kernel))
set_option maxRecDepth 20000 in
theorem gL_law_L_write : GoodIn wsL_law (va_wsS RL 23 yL_write wsL_write) := goodIn_app (goodIn_of _ (by decide +kernel)) ggL_law_L_write
set_option maxRecDepth 20000 in
theorem ggL_law_X9_write : GoodIn wsL_law wsX9_write := goodIn_r _ [269, 161, 162, 270, 163, 175, 174, 151, 165, 164, 166, 167, 168, 169, 271, 272, 273, 5, 274, 170, 275, 276, 277, 278, 279, 280, 281, 282, 283, 284, 285, 286, 287, 288, 289, 290, 172, 176, 177, 291, 292, 293, 294, 171, 675, 676, 677, 678, 679, 680, 681, 682, 683, 684, 685, 686, 687, 688, 689, 690, 691, 692, 693, 694, 695, 696, 697, 698, 699, 700, 701, 702, 703, 704, 705, 706, 707, 708, 709, 710, 711, 712, 713, 714] (by decide +kernel) (by decide +kernel)
set_option maxRecDepth 20000 in
theorem gL_law_X9_write : GoodIn wsL_law (wsV RL 28 RX9 yX9_write wsX9_write) := goodIn_app (goodIn_of _ (by decide +kernel)) ggL_law_X9_write
set_option maxRecDepth 20000 in
theorem ggL_law_X9_thrown : GoodIn wsL_law wsX9_thrown := goodIn_r _ [298, 161, 675, 676, 677, 678, 679, 680, 681, 682, 683, 684, 685, 686, 687, 688, 689, 690, 691, 692, 693, 694, 695, 696, 697, 698, 699, 700, 701, 702, 703, 704, 705, 706, 707, 708, 709, 710, 711, 712, 713, 714] (by decide +kernel) (by decide +kernel)
set_option maxRecDepth 20000 in
theorem gL_law_X9_thrown : GoodIn wsL_law (wsV RL 29 RX9 yX9_thrown wsX9_thrown) := goodIn_app (goodIn_of _ (by decide +kernel)) ggL_law_X9_thrown
set_option maxRecDepth 20000 in
theorem ggL_law_L_read : GoodIn wsL_law wsL_read := goodIn_ca (goodIn_r _ [301, 191, 302, 303, 304, 2, 305, 196, 197, 83, 16, 306, 307, 308, 15, 309, 96, 310, 311, 312, 313, 82, 33, 84, 314, 315, 316, 317, 20, 89, 90, 91, 318, 319, 320, 19, 321, 322, 323, 324, 325, 56, 54, 227, 228, 229, 230, 55, 326, 327, 328, 329, 330, 331, 332, 333, 88, 86, 334, 335, 336, 337, 87, 85, 338, 339, 340, 341, 342, 343, 344, 345, 211, 212, 213, 214, 346, 347, 348, 32, 349, 132, 350, 351, 352, 353, 129, 354, 355, 356, 357, 21, 25, 239, 240, 241, 242, 358, 359, 360, 24, 361, 109, 362, 363, 364, 365, 366, 231, 232, 233, 234, 223, 224, 225, 226, 367, 368, 369, 370, 131, 657, 658, 659, 660, 661, 662, 663, 664, 665, 666, 667, 668, 669, 670, 671, 672, 673, 674, 715, 716, 717, 718, 719, 731, 732, 733, 734, 720, 721, 722, 723] (by decide +kernel) (by decide +kernel)) (goodIn_sub (fun _ h => List.mem_append_right _ h) (by decide +kernel))
set_option maxRecDepth 20000 in
theorem gL_law_L_read : GoodIn wsL_law (va_wsS RL 33 yL_read wsL_read) := goodIn_app (goodIn_of _ (by decide +kernel)) ggL_law_L_read
set_option maxRecDepth 20000 in
theorem ggL_law_X9_read : GoodIn wsL_law wsX9_read := goodIn_r _ [374, 161, 162, 164, 175, 165, 167, 168, 171, 169, 279, 280, 281, 5, 282, 375, 376, 377, 378, 176, 177, 172, 149, 150, 379, 380, 381, 382, 173, 166, 383, 384, 385, 386, 387, 388, 389, 390, 174, 180, 271, 272, 273, 274, 170, 275, 276, 277, 278, 675, 676, 677, 678, 679, 680, 681, 682, 683, 684, 685, 686, 687, 688, 689, 690, 691, 692, 693, 694, 695, 696, 697, 698, 699, 700, 701, 702, 703, 704, 705, 706, 707, 708, 709, 710, 711, 712, 713, 714] (by decide +kernel) (by decide +kernel)
set_option maxRecDepth 20000 in
theorem gL_law_X9_read : GoodIn wsL_law (wsV RL 36 RX9 yX9_read wsX9_read) := goodIn_app (goodIn_of _ (by decide +kernel)) ggL_law_X9_read
set_option maxRecDepth 20000 in
theorem ggL_law_X8_clock : GoodIn wsL_law wsX8_clock := goodIn_r _ [394, 395, 16, 396, 397, 398, 15, 399, 96, 97, 400, 401, 402, 2, 403, 90, 33, 41, 83, 37, 29, 404, 405, 406, 407, 25, 21, 88, 358, 359, 360, 24, 361, 109, 239, 240, 241, 19, 242, 56, 318, 319, 320, 321, 322, 323, 324, 325, 54, 227, 228, 229, 230, 55, 408, 409, 410, 411, 106, 107, 108, 326, 327, 328, 329, 412, 413, 414, 415, 416, 417, 418, 419, 420, 421, 422, 423, 424, 425, 426, 427, 428, 429, 430, 431, 432, 433, 434, 435, 436, 437, 438, 439, 440, 441, 442, 443, 444, 445, 259, 260, 32, 261, 129, 446, 447, 448, 40, 449, 76, 143, 450, 451, 452, 453, 454, 455, 456, 457, 458, 459, 212, 213, 214, 460, 461, 224, 225, 226, 462, 463, 464, 465, 466, 467, 220, 221, 222, 223, 468, 469, 470, 36, 471, 70, 137, 472, 473, 474, 232, 233, 234, 475, 476, 477, 478, 28, 479, 114, 122, 480, 481, 482, 483, 115, 116, 117, 118, 119, 120, 121, 123, 124, 484, 485, 486, 487, 488, 489, 490, 491, 492, 493, 494, 495, 496, 497, 498, 499, 500, 501, 502, 503, 504, 505, 506, 20, 87, 86, 91, 211, 215, 216, 217, 218, 219, 231, 507, 508, 509, 510, 89, 511, 657, 658, 659, 660, 661, 662, 663, 664, 665, 666, 667, 668, 669, 670, 671, 672, 673, 674, 715, 716, 720, 721, 722, 723, 717, 718, 719, 731, 732, 733, 734, 737, 738, 735, 736, 724, 725, 726, 727, 728, 729, 730] (by decide +kernel) (by decide +kernel)
set_option maxRecDepth 20000 in
theorem gL_law_X8_clock : GoodIn wsL_law (wsV RL 37 RX8 yX8_clock wsX8_clock) := goodIn_app (goodIn_of _ (by decide +kernel)) ggL_law_X8_clock
set_option maxRecDepth 20000 in
theorem ggL_law_X9_clock : GoodIn wsL_law wsX9_clock := goodIn_r _ [515, 161, 516, 163, 162, 517, 518, 519, 5, 520, 184, 181, 167, 172, 177, 176, 521, 522, 523, 524, 180, 174, 151, 525, 175, 526, 527, 528, 529, 530, 531, 532, 533, 534, 535, 536, 537, 538, 539, 540, 430, 431, 432, 433, 434, 435, 541, 542, 543, 544, 545, 546, 275, 276, 277, 278, 168, 547, 548, 549, 550, 185, 186, 155, 156, 551, 552, 553, 554, 178, 153, 179, 154, 555, 556, 557, 558, 182, 183, 559, 560, 561, 562, 563, 564, 565, 566, 173, 165, 149, 150, 283, 284, 285, 286, 675, 676, 677, 678, 679, 680, 681, 682, 683, 684, 685, 686, 687, 688, 689, 690, 691, 692, 693, 694, 695, 696, 697, 698, 699, 700, 701, 702, 703, 704, 705, 706, 707, 708, 709, 710, 711, 712, 713, 714] (by decide +kernel) (by decide +kernel)
set_option maxRecDepth 20000 in
theorem gL_law_X9_clock : GoodIn wsL_law (wsV RL 40 RX9 yX9_clock wsX9_clock) := goodIn_app (goodIn_of _ (by decide +kernel)) ggL_law_X9_clock
set_option maxRecDepth 20000 in
theorem ggL_law_X8_wave : GoodIn wsL_law wsX8_wave := goodIn_r _ [570, 37, 571, 572, 573, 36, 574, 70, 575, 463, 464, 19, 465, 54, 56, 576, 577, 578, 579, 580, 220, 221, 222, 223, 224, 225, 226, 227, 228, 229, 230, 55, 581, 582, 583, 584, 585, 212, 213, 214, 657, 658, 659, 660, 661, 662, 663, 664, 665, 666, 667, 668, 669, 670, 671, 672, 673, 674, 735, 736, 717, 718, 719] (by decide +kernel) (by decide +kernel)
set_option maxRecDepth 20000 in
theorem gL_law_X8_wave : GoodIn wsL_law (wsV RL 41 RX8 yX8_wave wsX8_wave) := goodIn_app (goodIn_of _ (by decide +kernel)) ggL_law_X8_wave
set_option maxRecDepth 20000 in
theorem ggL_law_X9_wave : GoodIn wsL_law wsX9_wave := goodIn_r _ [589, 161, 178, 153, 154, 675, 676, 677, 678, 679, 680, 681, 682, 683, 684, 685, 686, 687, 688, 689, 690, 691, 692, 693, 694, 695, 696, 697, 698, 699, 700, 701, 702, 703, 704, 705, 706, 707, 708, 709, 710, 711, 712, 713, 714] (by decide +kernel) (by decide +kernel)
set_option maxRecDepth 20000 in
theorem gL_law_X9_wave : GoodIn wsL_law (wsV RL 45 RX9 yX9_wave wsX9_wave) := goodIn_app (goodIn_of _ (by decide +kernel)) ggL_law_X9_wave
set_option maxRecDepth 20000 in
theorem ggL_law_X8_frame : GoodIn wsL_law wsX8_frame := goodIn_r _ [593, 83, 37, 594, 440, 418, 441, 420, 421, 422, 423, 424, 425, 571, 572, 573, 36, 574, 70, 575, 463, 464, 19, 465, 54, 56, 595, 417, 419, 426, 427, 428, 429, 430, 431, 432, 433, 434, 435, 596, 597, 598, 439, 442, 443, 444, 576, 577, 578, 579, 580, 220, 221, 222, 223, 224, 225, 226, 227, 228, 229, 230, 55, 657, 658, 659, 660, 661, 662, 663, 664, 665, 666, 667, 668, 669, 670, 671, 672, 673, 674, 735, 736, 717, 718, 719] (by decide +kernel) (by decide +kernel)
set_option maxRecDepth 20000 in
theorem gL_law_X8_frame : GoodIn wsL_law (wsV RL 46 RX8 yX8_frame wsX8_frame) := goodIn_app (goodIn_of _ (by decide +kernel)) ggL_law_X8_frame
set_option maxRecDepth 20000 in
theorem ggL_law_X9_frame : GoodIn wsL_law wsX9_frame := goodIn_r _ [602, 161, 167, 178, 153, 154, 531, 532, 5, 533, 534, 535, 536, 528, 529, 530, 537, 538, 539, 540, 430, 431, 432, 433, 434, 435, 544, 545, 546, 675, 676, 677, 678, 679, 680, 681, 682, 683, 684, 685, 686, 687, 688, 689, 690, 691, 692, 693, 694, 695, 696, 697, 698, 699, 700, 701, 702, 703, 704, 705, 706, 707, 708, 709, 710, 711, 712, 713, 714] (by decide +kernel) (by decide +kernel)
set_option maxRecDepth 20000 in
theorem gL_law_X9_frame : GoodIn wsL_law (wsV RL 50 RX9 yX9_frame wsX9_frame) := goodIn_app (goodIn_of _ (by decide +kernel)) ggL_law_X9_frame
set_option maxRecDepth 20000 in
theorem ggL_law_X8_inputs : GoodIn wsL_law wsX8_inputs := goodIn_r _ [606, 33, 607, 608, 609, 32, 610, 130, 254, 255, 256, 257, 131, 132, 258, 259, 260, 261, 129, 262, 263, 264, 265, 657, 658, 659, 660, 661, 662, 663, 664, 665, 666, 667, 668, 669, 670, 671, 672, 673, 674, 731, 732, 733, 734] (by decide +kernel) (by decide +kernel)
set_option maxRecDepth 20000 in
theorem gL_law_X8_inputs : GoodIn wsL_law (wsV RL 51 RX8 yX8_inputs wsX8_inputs) := goodIn_app (goodIn_of _ (by decide +kernel)) ggL_law_X8_inputs
set_option maxRecDepth 20000 in
theorem ggL_law_X9_inputs : GoodIn wsL_law wsX9_inputs := goodIn_r _ [614, 161, 170, 271, 272, 273, 5, 274, 168, 275, 276, 277, 278, 291, 292, 293, 294, 171, 675, 676, 677, 678, 679, 680, 681, 682, 683, 684, 685, 686, 687, 688, 689, 690, 691, 692, 693, 694, 695, 696, 697, 698, 699, 700, 701, 702, 703, 704, 705, 706, 707, 708, 709, 710, 711, 712, 713, 714] (by decide +kernel) (by decide +kernel)
set_option maxRecDepth 20000 in
theorem gL_law_X9_inputs : GoodIn wsL_law (wsV RL 55 RX9 yX9_inputs wsX9_inputs) := goodIn_app (goodIn_of _ (by decide +kernel)) ggL_law_X9_inputs
set_option maxRecDepth 20000 in
theorem ggL_law_X8_reset : GoodIn wsL_law wsX8_reset := goodIn_r _ [618, 78, 79, 80, 2, 81, 16, 20, 21, 25, 29, 33, 37, 41, 82, 83, 84, 85, 86, 87, 88, 89, 90, 91, 92, 93, 94, 15, 95, 96, 97, 98, 99, 100, 19, 101, 55, 56, 102, 103, 104, 24, 105, 106, 107, 108, 109, 110, 111, 112, 28, 113, 114, 115, 116, 117, 118, 119, 120, 121, 122, 123, 124, 125, 126, 127, 32, 128, 129, 130, 131, 132, 133, 134, 135, 36, 136, 70, 137, 138, 139, 140, 141, 40, 142, 76, 143, 144, 657, 658, 659, 660, 661, 662, 663, 664, 665, 666, 667, 668, 669, 670, 671, 672, 673, 674, 715, 716, 717, 718, 719, 720, 721, 722, 723, 724, 725, 726, 727, 728, 729, 730, 731, 732, 733, 734, 735, 736, 737, 738] (by decide +kernel) (by decide +kernel)
set_option maxRecDepth 20000 in
theorem gL_law_X8_reset : GoodIn wsL_law (wsV RL 56 RX8 yX8_reset wsX8_reset) := goodIn_app (goodIn_of _ (by decide +kernel)) ggL_law_X8_reset
set_option maxRecDepth 20000 in
theorem ggL_law_X9_reset : GoodIn wsL_law wsX9_reset := goodIn_r _ [160, 161, 162, 163, 164, 165, 166, 167, 168, 169, 170, 171, 172, 173, 174, 175, 176, 177, 178, 179, 180, 181, 182, 183, 184, 185, 186, 675, 676, 677, 678, 679, 680, 681, 682, 683, 684, 685, 686, 687, 688, 689, 690, 691, 692, 693, 694, 695, 696, 697, 698, 699, 700, 701, 702, 703, 704, 705, 706, 707, 708, 709, 710, 711, 712, 713, 714] (by decide +kernel) (by decide +kernel)
set_option maxRecDepth 20000 in
theorem gL_law_X9_reset : GoodIn wsL_law (wsV RL 59 RX9 yX9_reset wsX9_reset) := goodIn_app (goodIn_of _ (by decide +kernel)) ggL_law_X9_reset
set_option maxRecDepth 20000 in
theorem ggL_law_X8_count : GoodIn wsL_law wsX8_count := goodIn_r _ [623, 20, 21, 90, 41, 37, 25, 29, 211, 212, 213, 19, 214, 56, 334, 335, 336, 2, 337, 87, 86, 85, 89, 88, 33, 338, 339, 340, 341, 82, 342, 343, 344, 345, 318, 319, 320, 321, 322, 323, 324, 325, 54, 227, 228, 229, 230, 55, 346, 347, 348, 32, 349, 132, 624, 625, 626, 40, 627, 76, 450, 240, 241, 242, 451, 452, 453, 454, 455, 456, 457, 458, 459, 460, 581, 582, 583, 36, 584, 70, 585, 628, 629, 630, 631, 143, 358, 359, 360, 24, 361, 109, 632, 633, 634, 28, 635, 114, 657, 658, 659, 660, 661, 662, 663, 664, 665, 666, 667, 668, 669, 670, 671, 672, 673, 674, 717, 718, 719, 731, 732, 733, 734, 737, 738, 735, 736, 720, 721, 722, 723, 724, 725, 726, 727, 728, 729, 730] (by decide +kernel) (by decide +kernel)
set_option maxRecDepth 20000 in
theorem gL_law_X8_count : GoodIn wsL_law (wsV RL 60 RX8 yX8_count wsX8_count) := goodIn_app (goodIn_of _ (by decide +kernel)) ggL_law_X8_count
set_option maxRecDepth 20000 in
theorem ggL_law_X9_count : GoodIn wsL_law wsX9_count := goodIn_r _ [639, 161, 172, 174, 184, 185, 178, 186, 180, 182, 379, 380, 381, 5, 382, 164, 173, 165, 166, 176, 175, 171, 383, 384, 385, 386, 150, 675, 676, 677, 678, 679, 680, 681, 682, 683, 684, 685, 686, 687, 688, 689, 690, 691, 692, 693, 694, 695, 696, 697, 698, 699, 700, 701, 702, 703, 704, 705, 706, 707, 708, 709, 710, 711, 712, 713, 714] (by decide +kernel) (by decide +kernel)
set_option maxRecDepth 20000 in
theorem gL_law_X9_count : GoodIn wsL_law (wsV RL 63 RX9 yX9_count wsX9_count) := goodIn_app (goodIn_of _ (by decide +kernel)) ggL_law_X9_count
set_option maxRecDepth 20000 in
theorem ggL_law_X8_run : GoodIn wsL_law wsX8_run := goodIn_r _ [643, 41, 644, 645, 646, 40, 647, 76, 459, 212, 213, 19, 214, 56, 648, 452, 453, 454, 455, 456, 457, 458, 460, 323, 324, 325, 54, 227, 228, 229, 230, 55, 649, 650, 651, 652, 657, 658, 659, 660, 661, 662, 663, 664, 665, 666, 667, 668, 669, 670, 671, 672, 673, 674, 737, 738, 717, 718, 719] (by decide +kernel) (by decide +kernel)
set_option maxRecDepth 20000 in
theorem gL_law_X8_run : GoodIn wsL_law (wsV RL 64 RX8 yX8_run wsX8_run) := goodIn_app (goodIn_of _ (by decide +kernel)) ggL_law_X8_run
set_option maxRecDepth 20000 in
theorem ggL_law_X9_run : GoodIn wsL_law wsX9_run := goodIn_r _ [656, 161, 186, 156, 155, 675, 676, 677, 678, 679, 680, 681, 682, 683, 684, 685, 686, 687, 688, 689, 690, 691, 692, 693, 694, 695, 696, 697, 698, 699, 700, 701, 702, 703, 704, 705, 706, 707, 708, 709, 710, 711, 712, 713, 714] (by decide +kernel) (by decide +kernel)
set_option maxRecDepth 20000 in
theorem gL_law_X9_run : GoodIn wsL_law (wsV RL 67 RX9 yX9_run wsX9_run) := goodIn_app (goodIn_of _ (by decide +kernel)) ggL_law_X9_run
