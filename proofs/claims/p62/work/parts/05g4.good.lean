set_option maxRecDepth 20000 in
theorem ggL_text_L_then : GoodIn wsL_text wsL_then := goodIn_r _ [236, 169, 170, 167, 171, 172] (by decide +kernel) (by decide +kernel)
set_option maxRecDepth 20000 in
theorem gL_text_L_then : GoodIn wsL_text (va_wsS RL 92 yL_then wsL_then) := goodIn_app (goodIn_of _ (by decide +kernel)) ggL_text_L_then
set_option maxRecDepth 20000 in
theorem ggL_text_L_users : GoodIn wsL_text wsL_users := goodIn_r _ [239, 169, 170, 167, 171, 172] (by decide +kernel) (by decide +kernel)
set_option maxRecDepth 20000 in
theorem gL_text_L_users : GoodIn wsL_text (va_wsS RL 48 yL_users wsL_users) := goodIn_app (goodIn_of _ (by decide +kernel)) ggL_text_L_users
set_option maxRecDepth 20000 in
theorem ggL_text_L_classOf : GoodIn wsL_text wsL_classOf := goodIn_r _ [242, 202, 203, 167, 204, 169, 170, 171, 172] (by decide +kernel) (by decide +kernel)
set_option maxRecDepth 20000 in
theorem gL_text_L_classOf : GoodIn wsL_text (va_wsS RL 101 yL_classOf wsL_classOf) := goodIn_app (goodIn_of _ (by decide +kernel)) ggL_text_L_classOf
set_option maxRecDepth 20000 in
theorem ggL_text_L_quota : GoodIn wsL_text wsL_quota := goodIn_r _ [245, 169, 170, 167, 171, 172] (by decide +kernel) (by decide +kernel)
set_option maxRecDepth 20000 in
theorem gL_text_L_quota : GoodIn wsL_text (va_wsS RL 106 yL_quota wsL_quota) := goodIn_app (goodIn_of _ (by decide +kernel)) ggL_text_L_quota
set_option maxRecDepth 20000 in
theorem ggL_text_L_holds : GoodIn wsL_text wsL_holds := goodIn_r _ [248, 169, 170, 167, 171, 172] (by decide +kernel) (by decide +kernel)
set_option maxRecDepth 20000 in
theorem gL_text_L_holds : GoodIn wsL_text (va_wsS RL 109 yL_holds wsL_holds) := goodIn_app (goodIn_of _ (by decide +kernel)) ggL_text_L_holds
set_option maxRecDepth 20000 in
theorem ggL_text_L_holder : GoodIn wsL_text wsL_holder := goodIn_r _ [251, 237, 238, 167, 239, 169, 170, 171, 172] (by decide +kernel) (by decide +kernel)
set_option maxRecDepth 20000 in
theorem gL_text_L_holder : GoodIn wsL_text (va_wsS RL 116 yL_holder wsL_holder) := goodIn_app (goodIn_of _ (by decide +kernel)) ggL_text_L_holder
set_option maxRecDepth 20000 in
theorem ggL_text_L_hasDays : GoodIn wsL_text wsL_hasDays := goodIn_r _ [254, 169, 170, 167, 171, 172] (by decide +kernel) (by decide +kernel)
set_option maxRecDepth 20000 in
theorem gL_text_L_hasDays : GoodIn wsL_text (va_wsS RL 119 yL_hasDays wsL_hasDays) := goodIn_app (goodIn_of _ (by decide +kernel)) ggL_text_L_hasDays
set_option maxRecDepth 20000 in
theorem ggL_text_L_hasWord : GoodIn wsL_text wsL_hasWord := goodIn_r _ [257, 169, 170, 167, 171, 172] (by decide +kernel) (by decide +kernel)
set_option maxRecDepth 20000 in
theorem gL_text_L_hasWord : GoodIn wsL_text (va_wsS RL 125 yL_hasWord wsL_hasWord) := goodIn_app (goodIn_of _ (by decide +kernel)) ggL_text_L_hasWord
set_option maxRecDepth 20000 in
theorem ggL_text_J4_toString_0e30d : GoodIn wsL_text wsJ4_toString_0e30d := goodIn_r _ [261, 262, 263, 22, 264, 265, 266, 267, 268, 269, 270, 12, 13, 30, 24, 29, 271, 272, 273, 274, 275, 9, 276, 18, 277, 278, 279, 280, 281, 3, 282, 283, 51, 284, 285, 54, 286, 100, 101, 102, 103, 104, 16, 287, 288, 84, 289, 86, 87, 88, 89, 90, 91, 290, 291, 292, 17, 92, 93, 76, 94, 95, 96, 97, 98, 293, 294, 295, 296, 297, 34, 298, 299, 300, 301, 150, 151, 152, 112, 113, 114, 153, 154, 155, 118, 156, 157, 121, 158, 302, 303, 304, 108, 126, 127, 36, 37, 38, 39, 305, 306, 307, 308, 313, 314, 315, 316, 309, 310, 311, 312] (by decide +kernel) (by decide +kernel)
set_option maxRecDepth 20000 in
theorem gL_text_J4_toString_0e30d : GoodIn wsL_text (wsV RL 130 RJ4 yJ4_toString_0e30d wsJ4_toString_0e30d) := goodIn_app (goodIn_of _ (by decide +kernel)) ggL_text_J4_toString_0e30d
set_option maxRecDepth 20000 in
theorem ggL_load_L_text : GoodIn wsL_load wsL_text := goodIn_r _ [4, 5, 6, 7, 8, 9, 10, 11, 12, 13, 14, 15, 16, 17, 18, 19, 20, 21, 22, 23, 24, 25, 26, 27, 28, 29, 30, 31, 32, 33, 34, 35, 36, 37, 38, 39, 40, 41, 42, 43, 44, 45, 46, 47, 48, 49, 50, 51, 52, 53, 54, 55, 56, 57, 58, 59, 60, 61, 62, 63, 64, 65, 66, 67, 68, 69, 70, 71, 72, 73, 74, 75, 76, 77, 78, 79, 80, 81, 82, 83, 84, 85, 86, 87, 88, 89, 90, 91, 92, 93, 94, 95, 96, 97, 98, 99, 100, 101, 102, 103, 104, 105, 106, 107, 108, 109, 110, 111, 112, 113, 114, 115, 116, 117, 118, 119, 120, 121, 122, 123, 124, 125, 126, 127, 128, 129, 130, 131, 132, 133, 134, 135, 136, 137, 138, 139, 140, 141, 142, 143, 144, 145, 146, 147, 148, 149, 150, 151, 152, 153, 154, 155, 156, 157, 158, 159, 160, 161, 162, 163, 164, 165, 166, 167, 168, 169, 170, 3, 171, 172, 173, 174, 175, 176, 177, 178, 179, 180, 181, 182, 183, 184, 185, 186, 187, 188, 189, 190, 191, 192, 193, 194, 195, 196, 197, 198, 199, 200, 201, 202, 203, 204, 205, 206, 207, 208, 209, 210, 211, 212, 213, 214, 215, 216, 217, 218, 219, 220, 221, 222, 223, 224, 225, 226, 227, 228, 229, 230, 231, 232, 233, 234, 235, 236, 237, 238, 239, 240, 241, 242, 243, 244, 245, 246, 247, 248, 249, 250, 251, 252, 253, 254, 255, 256, 257, 258, 259, 260, 261, 262, 263, 264, 265, 266, 267, 268, 269, 270, 271, 272, 273, 274, 275, 276, 277, 278, 279, 280, 281, 282, 283, 284, 285, 286, 287, 288, 289, 290, 291, 292, 293, 294, 295, 296, 297, 298, 299, 300, 301, 302, 303, 304, 305, 306, 307, 308, 309, 310, 311, 660, 661, 662, 663, 664, 665, 666, 667] (by decide +kernel) (by decide +kernel)
set_option maxRecDepth 20000 in
theorem gL_load_L_text : GoodIn wsL_load (va_wsS RL 134 yL_text wsL_text) := goodIn_app (goodIn_of _ (by decide +kernel)) ggL_load_L_text
set_option maxRecDepth 20000 in
theorem ggL_load_L_feed : GoodIn wsL_load wsL_feed := goodIn_r _ [314, 315, 97, 80, 98, 316, 24, 25, 26, 27, 28, 29, 30, 31, 32, 33, 34, 317, 318, 3, 319, 320, 321, 322, 323, 324, 325, 326, 327, 328, 329, 149, 330, 331, 226, 227, 122, 228, 229, 125, 230, 332, 333, 38, 334, 222, 223, 224, 116, 117, 118, 225, 305, 306, 307, 112, 130, 131, 335, 336, 337, 338, 339, 340, 341, 342, 343, 344, 345, 346, 347, 348, 349, 350, 351, 352, 353, 354, 355, 356, 357, 358, 359, 360, 361, 362, 363, 664, 665, 666, 667, 668, 669, 670, 671, 672, 673, 674, 675, 676, 677, 678, 679, 680] (by decide +kernel) (by decide +kernel)
set_option maxRecDepth 20000 in
theorem gL_load_L_feed : GoodIn wsL_load (va_wsS RL 138 yL_feed wsL_feed) := goodIn_app (goodIn_of _ (by decide +kernel)) ggL_load_L_feed
set_option maxRecDepth 20000 in
theorem ggL_load_X10_load : GoodIn wsL_load wsX10_load := goodIn_r _ [367, 368, 369, 370, 342, 371, 372, 373, 374, 375, 376, 377, 16, 17, 378, 379, 380, 381, 382, 383, 384, 385, 386, 387, 388, 389, 390, 391, 392, 393, 394, 395, 396, 397, 398, 399, 400, 401, 402, 403, 404, 405, 406, 407, 408, 409, 410, 411, 412, 79, 80, 81, 413, 414, 415, 416, 417, 418, 419, 420, 421, 422, 423, 424, 425, 426, 427, 428, 429, 430, 431, 432, 433, 434, 346, 435, 352, 353, 436, 437, 438, 439, 338, 440, 441, 442, 443, 444, 445, 446, 447, 448, 449, 450, 451, 452, 453, 454, 455, 456, 457, 97, 98, 458, 459, 460, 461, 462, 463, 464, 465, 466, 467, 468, 469, 470, 471, 472, 473, 474, 475, 476, 477, 478, 479, 480, 481, 482, 483, 484, 485, 486, 487, 488, 489, 490, 491, 492, 493, 494, 495, 496, 497, 498, 499, 500, 501, 502, 503, 504, 505, 506, 507, 508, 509, 510, 511, 512, 513, 514, 515, 516, 517, 518, 519, 520, 521, 522, 523, 524, 525, 526, 527, 528, 529, 530, 531, 532, 533, 534, 535, 536, 537, 538, 539, 540, 541, 542, 543, 544, 545, 546, 547, 548, 549, 550, 551, 552, 553, 554, 555, 556, 557, 558, 559, 560, 561, 562, 563, 564, 565, 566, 360, 361, 362, 363, 567, 568, 569, 570, 571, 572, 573, 574, 575, 576, 577, 578, 579, 580, 581, 582, 583, 584, 585, 586, 587, 588, 589, 590, 591, 592, 593, 594, 595, 596, 597, 598, 100, 101, 102, 599, 600, 601, 602, 603, 604, 605, 606, 607, 608, 609, 610, 611, 612, 613, 614, 615, 616, 617, 618, 619, 620, 621, 622, 623, 624, 625, 626, 627, 628, 629, 630, 631, 632, 633, 634, 635, 636, 681, 682, 683, 684, 685, 686, 687, 688, 689, 690, 668, 669, 670, 671, 672, 673, 674, 675, 676, 677, 678, 691, 692, 693, 694, 695, 696, 697, 698, 699, 700, 701, 702, 703, 704, 705, 706, 707, 708, 709, 710, 711, 712, 713, 714, 715, 716, 717, 718, 719, 720, 721, 722, 723, 724, 679, 680, 725, 726, 727, 728, 729, 730, 731, 732, 733, 734, 735, 736, 737] (by decide +kernel) (by decide +kernel)
set_option maxRecDepth 20000 in
theorem gL_load_X10_load : GoodIn wsL_load (wsV RL 142 RX10 yX10_load wsX10_load) := goodIn_app (goodIn_of _ (by decide +kernel)) ggL_load_X10_load
set_option maxRecDepth 20000 in
theorem ggL_load_L_users : GoodIn wsL_load wsL_users := goodIn_r _ [242, 172, 173, 3, 174, 175] (by decide +kernel) (by decide +kernel)
set_option maxRecDepth 20000 in
theorem gL_load_L_users : GoodIn wsL_load (va_wsS RL 48 yL_users wsL_users) := goodIn_app (goodIn_of _ (by decide +kernel)) ggL_load_L_users
set_option maxRecDepth 20000 in
theorem ggL_load_X10_errorCode : GoodIn wsL_load wsX10_errorCode := goodIn_r _ [640, 371, 668, 669, 670, 671, 672, 673, 674, 675, 676, 677, 678] (by decide +kernel) (by decide +kernel)
set_option maxRecDepth 20000 in
theorem gL_load_X10_errorCode : GoodIn wsL_load (wsV RL 145 RX10 yX10_errorCode wsX10_errorCode) := goodIn_app (goodIn_of _ (by decide +kernel)) ggL_load_X10_errorCode
set_option maxRecDepth 20000 in
theorem ggL_load_X10_errorPosition : GoodIn wsL_load wsX10_errorPosition := goodIn_r _ [644, 372, 668, 669, 670, 671, 672, 673, 674, 675, 676, 677, 678] (by decide +kernel) (by decide +kernel)
set_option maxRecDepth 20000 in
theorem gL_load_X10_errorPosition : GoodIn wsL_load (wsV RL 148 RX10 yX10_errorPosition wsX10_errorPosition) := goodIn_app (goodIn_of _ (by decide +kernel)) ggL_load_X10_errorPosition
set_option maxRecDepth 20000 in
theorem ggL_load_X10_count : GoodIn wsL_load wsX10_count := goodIn_r _ [648, 373, 649, 650, 338, 651, 358, 359, 652, 653, 654, 381, 655, 392, 397, 400, 402, 668, 669, 670, 671, 672, 673, 674, 675, 676, 677, 678, 691, 692, 693, 694, 695, 696, 697, 698, 699, 700, 701, 702, 703, 704, 705, 706, 723, 724, 707, 708, 709, 710, 711, 712, 713, 714, 715, 716, 717, 718, 719, 720, 721, 722] (by decide +kernel) (by decide +kernel)
set_option maxRecDepth 20000 in
theorem gL_load_X10_count : GoodIn wsL_load (wsV RL 151 RX10 yX10_count wsX10_count) := goodIn_app (goodIn_of _ (by decide +kernel)) ggL_load_X10_count
set_option maxRecDepth 20000 in
theorem ggL_load_L_classes : GoodIn wsL_load wsL_classes := goodIn_r _ [207, 172, 173, 3, 174, 175] (by decide +kernel) (by decide +kernel)
set_option maxRecDepth 20000 in
theorem gL_load_L_classes : GoodIn wsL_load (va_wsS RL 44 yL_classes wsL_classes) := goodIn_app (goodIn_of _ (by decide +kernel)) ggL_load_L_classes
set_option maxRecDepth 20000 in
theorem ggL_load_L_holds : GoodIn wsL_load wsL_holds := goodIn_r _ [251, 172, 173, 3, 174, 175] (by decide +kernel) (by decide +kernel)
set_option maxRecDepth 20000 in
theorem gL_load_L_holds : GoodIn wsL_load (va_wsS RL 109 yL_holds wsL_holds) := goodIn_app (goodIn_of _ (by decide +kernel)) ggL_load_L_holds
set_option maxRecDepth 20000 in
theorem ggL_load_X10_day : GoodIn wsL_load wsX10_day := goodIn_r _ [659, 373, 668, 669, 670, 671, 672, 673, 674, 675, 676, 677, 678, 691, 692, 693, 694, 695, 696, 697, 698, 699, 700, 701, 702, 703, 704, 705, 706] (by decide +kernel) (by decide +kernel)
set_option maxRecDepth 20000 in
theorem gL_load_X10_day : GoodIn wsL_load (wsV RL 155 RX10 yX10_day wsX10_day) := goodIn_app (goodIn_of _ (by decide +kernel)) ggL_load_X10_day
set_option maxRecDepth 20000 in
theorem ggL_parts_L_draw : GoodIn wsL_parts wsL_draw := goodIn_r _ [4, 5] (by decide +kernel) (by decide +kernel)
set_option maxRecDepth 20000 in
theorem gL_parts_L_draw : GoodIn wsL_parts (va_wsS RL 40 yL_draw wsL_draw) := goodIn_app (goodIn_of _ (by decide +kernel)) ggL_parts_L_draw
set_option maxRecDepth 20000 in
theorem ggL_sort_L_draw : GoodIn wsL_sort wsL_draw := goodIn_r _ [4, 5] (by decide +kernel) (by decide +kernel)
set_option maxRecDepth 20000 in
theorem gL_sort_L_draw : GoodIn wsL_sort (va_wsS RL 40 yL_draw wsL_draw) := goodIn_app (goodIn_of _ (by decide +kernel)) ggL_sort_L_draw
set_option maxRecDepth 20000 in
theorem ggL_hasAb_L_parts : GoodIn wsL_hasAb wsL_parts := goodIn_r _ [4, 5, 6, 3, 7, 8] (by decide +kernel) (by decide +kernel)
set_option maxRecDepth 20000 in
theorem gL_hasAb_L_parts : GoodIn wsL_hasAb (va_wsS RL 170 yL_parts wsL_parts) := goodIn_app (goodIn_of _ (by decide +kernel)) ggL_hasAb_L_parts
set_option maxRecDepth 20000 in
theorem ggL_hasAb_L_sort : GoodIn wsL_hasAb wsL_sort := goodIn_r _ [11, 5, 6, 3, 7, 8] (by decide +kernel) (by decide +kernel)
set_option maxRecDepth 20000 in
theorem gL_hasAb_L_sort : GoodIn wsL_hasAb (va_wsS RL 173 yL_sort wsL_sort) := goodIn_app (goodIn_of _ (by decide +kernel)) ggL_hasAb_L_sort
set_option maxRecDepth 20000 in
theorem ggL_size_L_parts : GoodIn wsL_size wsL_parts := goodIn_r _ [4, 5, 6, 3, 7, 8] (by decide +kernel) (by decide +kernel)
set_option maxRecDepth 20000 in
theorem gL_size_L_parts : GoodIn wsL_size (va_wsS RL 170 yL_parts wsL_parts) := goodIn_app (goodIn_of _ (by decide +kernel)) ggL_size_L_parts
set_option maxRecDepth 20000 in
theorem ggL_size_L_sort : GoodIn wsL_size wsL_sort := goodIn_r _ [11, 5, 6, 3, 7, 8] (by decide +kernel) (by decide +kernel)
set_option maxRecDepth 20000 in
theorem gL_size_L_sort : GoodIn wsL_size (va_wsS RL 173 yL_sort wsL_sort) := goodIn_app (goodIn_of _ (by decide +kernel)) ggL_size_L_sort
set_option maxRecDepth 20000 in
theorem ggL_size_L_part : GoodIn wsL_size wsL_part := goodIn_r _ [14] (by decide +kernel) (by decide +kernel)
set_option maxRecDepth 20000 in
theorem gL_size_L_part : GoodIn wsL_size (va_wsS RL 176 yL_part wsL_part) := goodIn_app (goodIn_of _ (by decide +kernel)) ggL_size_L_part
set_option maxRecDepth 20000 in
theorem ggL_size_J0_length_8abf5 : GoodIn wsL_size wsJ0_length_8abf5 := goodIn_r _ [19, 20, 21, 22, 23, 18, 24, 25, 26, 27, 28, 29, 30] (by decide +kernel) (by decide +kernel)
set_option maxRecDepth 20000 in
theorem gL_size_J0_length_8abf5 : GoodIn wsL_size (wsV RL 8 RJ0 yJ0_length_8abf5 wsJ0_length_8abf5) := goodIn_app (goodIn_of _ (by decide +kernel)) ggL_size_J0_length_8abf5
set_option maxRecDepth 20000 in
theorem ggL_recipients_L_users : GoodIn wsL_recipients wsL_users := goodIn_r _ [4, 5, 6, 3, 7, 8] (by decide +kernel) (by decide +kernel)
set_option maxRecDepth 20000 in
theorem gL_recipients_L_users : GoodIn wsL_recipients (va_wsS RL 48 yL_users wsL_users) := goodIn_app (goodIn_of _ (by decide +kernel)) ggL_recipients_L_users
set_option maxRecDepth 20000 in
theorem ggL_recipients_L_draw : GoodIn wsL_recipients wsL_draw := goodIn_r _ [7, 8] (by decide +kernel) (by decide +kernel)
set_option maxRecDepth 20000 in
theorem gL_recipients_L_draw : GoodIn wsL_recipients (va_wsS RL 40 yL_draw wsL_draw) := goodIn_app (goodIn_of _ (by decide +kernel)) ggL_recipients_L_draw
set_option maxRecDepth 20000 in
theorem ggL_special_L_draw : GoodIn wsL_special wsL_draw := goodIn_r _ [4, 5] (by decide +kernel) (by decide +kernel)
set_option maxRecDepth 20000 in
theorem gL_special_L_draw : GoodIn wsL_special (va_wsS RL 40 yL_draw wsL_draw) := goodIn_app (goodIn_of _ (by decide +kernel)) ggL_special_L_draw
set_option maxRecDepth 20000 in
theorem ggL_special_L_classes : GoodIn wsL_special wsL_classes := goodIn_r _ [8, 1, 2, 3, 4, 5] (by decide +kernel) (by decide +kernel)
set_option maxRecDepth 20000 in
theorem gL_special_L_classes : GoodIn wsL_special (va_wsS RL 44 yL_classes wsL_classes) := goodIn_app (goodIn_of _ (by decide +kernel)) ggL_special_L_classes
set_option maxRecDepth 20000 in
theorem ggL_deliver_L_sort : GoodIn wsL_deliver wsL_sort := goodIn_r _ [7, 8, 9, 6, 10, 11] (by decide +kernel) (by decide +kernel)
set_option maxRecDepth 20000 in
theorem gL_deliver_L_sort : GoodIn wsL_deliver (va_wsS RL 173 yL_sort wsL_sort) := goodIn_app (goodIn_of _ (by decide +kernel)) ggL_deliver_L_sort
set_option maxRecDepth 20000 in
theorem ggL_deliver_L_part : GoodIn wsL_deliver wsL_part := goodIn_r _ [14] (by decide +kernel) (by decide +kernel)
set_option maxRecDepth 20000 in
theorem gL_deliver_L_part : GoodIn wsL_deliver (va_wsS RL 176 yL_part wsL_part) := goodIn_app (goodIn_of _ (by decide +kernel)) ggL_deliver_L_part
set_option maxRecDepth 20000 in
theorem ggL_deliver_J4_init_a7421 : GoodIn wsL_deliver wsJ4_init_a7421 := goodIn_r _ [17, 18, 19, 20, 21, 22, 23, 24, 25, 26, 27, 28, 29, 30, 31, 32, 33, 34, 35, 36, 37, 38, 39, 40, 41, 42, 43, 44, 45, 46, 47, 48, 49, 50, 51, 52, 53, 54, 55, 3, 56, 57, 58, 59, 60, 61, 62, 63, 64, 65, 66, 67, 68, 69, 70, 71, 72, 73, 74, 75, 76, 77, 78, 79, 80, 81, 82, 83, 84, 85, 86, 87, 88, 89, 90, 91, 92, 93, 94, 95, 96, 97, 98, 99, 100, 101, 102, 103, 104, 105, 106, 107, 108, 109, 110, 111, 112, 113, 114, 115, 116, 117, 118, 119, 120, 121, 122, 123, 124, 125, 126, 127, 128, 129, 130, 131, 132, 133, 134, 135, 136, 137, 138, 139, 140, 141, 142, 143, 144, 145, 146, 147, 148, 149, 150, 151, 152, 153, 154, 155, 156, 157, 158, 159, 160, 161, 162, 163, 164, 165, 166, 167, 168, 169, 170, 171, 172, 173, 174, 175, 562, 563, 564, 565, 566, 567, 568, 569] (by decide +kernel) (by decide +kernel)
set_option maxRecDepth 20000 in
theorem gL_deliver_J4_init_a7421 : GoodIn wsL_deliver (wsJ4_init_a7421) := ggL_deliver_J4_init_a7421
set_option maxRecDepth 20000 in
theorem ggL_deliver_L_parts : GoodIn wsL_deliver wsL_parts := goodIn_r _ [178, 8, 9, 6, 10, 11] (by decide +kernel) (by decide +kernel)
set_option maxRecDepth 20000 in
theorem gL_deliver_L_parts : GoodIn wsL_deliver (va_wsS RL 170 yL_parts wsL_parts) := goodIn_app (goodIn_of _ (by decide +kernel)) ggL_deliver_L_parts
set_option maxRecDepth 20000 in
theorem ggL_deliver_J4_append_cf468 : GoodIn wsL_deliver wsJ4_append_cf468 := goodIn_r _ [182, 183, 184, 62, 185, 20, 186, 65, 29, 71, 72, 73, 74, 75, 27, 76, 77, 78, 79, 80, 26, 81, 82, 83, 84, 85, 86, 87, 88, 89, 90, 91, 92, 93, 94, 95, 96, 97, 98, 99, 100, 101, 102, 28, 103, 104, 105, 106, 107, 108, 109, 110, 111, 112, 113, 114, 115, 187, 188, 156, 189, 149, 150, 151, 152, 153, 43, 44, 45, 46, 47, 48, 49, 50, 154, 155, 157, 158, 159, 160, 161, 162, 163, 123, 124, 125, 164, 165, 33, 166, 129, 167, 168, 132, 169, 134, 135, 136, 119, 137, 138, 190, 191, 192, 193, 194, 195, 196, 197, 198, 199, 200, 201, 562, 563, 564, 565] (by decide +kernel) (by decide +kernel)
set_option maxRecDepth 20000 in
theorem gL_deliver_J4_append_cf468 : GoodIn wsL_deliver (wsV RL 76 RJ4 yJ4_append_cf468 wsJ4_append_cf468) := goodIn_app (goodIn_of _ (by decide +kernel)) ggL_deliver_J4_append_cf468
set_option maxRecDepth 20000 in
theorem ggL_deliver_J4_append_15ec4 : GoodIn wsL_deliver wsJ4_append_15ec4 := goodIn_r _ [60, 61, 52, 62, 63, 20, 64, 65, 66, 67, 68, 69, 70, 29, 71, 72, 73, 74, 75, 27, 76, 77, 78, 79, 80, 26, 81, 82, 83, 84, 85, 86, 87, 88, 89, 90, 91, 92, 93, 94, 95, 96, 97, 98, 99, 100, 101, 102, 28, 103, 104, 105, 106, 107, 108, 109, 110, 111, 112, 113, 114, 115, 116, 117, 45, 118, 119, 120, 121, 122, 123, 124, 125, 126, 127, 33, 128, 129, 130, 131, 132, 133, 134, 135, 136, 137, 138, 30, 31, 32, 34, 35, 36, 37, 38, 39, 40, 41, 139, 140, 141, 142, 143, 144, 145, 146, 147, 148, 42, 149, 150, 151, 152, 153, 43, 44, 46, 47, 48, 49, 50, 154, 155, 156, 157, 158, 159, 160, 161, 162, 163, 164, 165, 166, 167, 168, 169, 170, 171, 172, 173, 174, 175, 562, 563, 564, 565, 566, 567, 568, 569] (by decide +kernel) (by decide +kernel)
set_option maxRecDepth 20000 in
theorem gL_deliver_J4_append_15ec4 : GoodIn wsL_deliver (wsV RL 66 RJ4 yJ4_append_15ec4 wsJ4_append_15ec4) := goodIn_app (goodIn_of _ (by decide +kernel)) ggL_deliver_J4_append_15ec4
set_option maxRecDepth 20000 in
theorem ggL_deliver_J4_toString_0e30d : GoodIn wsL_deliver wsJ4_toString_0e30d := goodIn_r _ [206, 207, 208, 33, 209, 210, 211, 212, 213, 214, 215, 23, 24, 41, 35, 40, 216, 217, 218, 219, 220, 20, 221, 29, 222, 223, 224, 225, 226, 3, 227, 228, 62, 229, 230, 65, 231, 111, 112, 113, 114, 115, 27, 232, 233, 95, 234, 97, 98, 99, 100, 101, 102, 235, 236, 237, 28, 103, 104, 87, 105, 106, 107, 108, 109, 238, 239, 240, 241, 242, 45, 243, 244, 245, 246, 161, 162, 163, 123, 124, 125, 164, 165, 166, 129, 167, 168, 132, 169, 247, 248, 249, 119, 137, 138, 47, 48, 49, 50, 250, 251, 252, 253, 566, 567, 568, 569, 562, 563, 564, 565] (by decide +kernel) (by decide +kernel)
set_option maxRecDepth 20000 in
theorem gL_deliver_J4_toString_0e30d : GoodIn wsL_deliver (wsV RL 130 RJ4 yJ4_toString_0e30d wsJ4_toString_0e30d) := goodIn_app (goodIn_of _ (by decide +kernel)) ggL_deliver_J4_toString_0e30d
set_option maxRecDepth 20000 in
theorem ggL_deliver_L_feed : GoodIn wsL_deliver wsL_feed := goodIn_r _ [256, 257, 104, 87, 105, 258, 31, 32, 33, 34, 35, 36, 37, 38, 39, 40, 41, 259, 260, 6, 261, 262, 263, 264, 265, 266, 267, 268, 269, 270, 271, 156, 272, 273, 197, 198, 129, 199, 200, 132, 201, 274, 275, 45, 276, 193, 194, 195, 123, 124, 125, 196, 247, 248, 249, 119, 137, 138, 277, 278, 279, 280, 281, 282, 283, 284, 285, 286, 287, 288, 289, 290, 291, 292, 293, 294, 295, 296, 297, 298, 299, 300, 301, 302, 303, 304, 305, 566, 567, 568, 569, 570, 571, 572, 573, 574, 575, 576, 577, 578, 579, 580, 581, 582] (by decide +kernel) (by decide +kernel)
set_option maxRecDepth 20000 in
theorem gL_deliver_L_feed : GoodIn wsL_deliver (va_wsS RL 138 yL_feed wsL_feed) := goodIn_app (goodIn_of _ (by decide +kernel)) ggL_deliver_L_feed
set_option maxRecDepth 20000 in
theorem ggL_deliver_L_recipients : GoodIn wsL_deliver wsL_recipients := goodIn_r _ [308, 309, 310, 6, 311, 8, 9, 10, 11] (by decide +kernel) (by decide +kernel)
set_option maxRecDepth 20000 in
theorem gL_deliver_L_recipients : GoodIn wsL_deliver (va_wsS RL 180 yL_recipients wsL_recipients) := goodIn_app (goodIn_of _ (by decide +kernel)) ggL_deliver_L_recipients
set_option maxRecDepth 20000 in
theorem ggL_deliver_L_special : GoodIn wsL_deliver wsL_special := goodIn_r _ [314, 8, 9, 6, 10, 11, 315, 316, 317] (by decide +kernel) (by decide +kernel)
set_option maxRecDepth 20000 in
theorem gL_deliver_L_special : GoodIn wsL_deliver (va_wsS RL 183 yL_special wsL_special) := goodIn_app (goodIn_of _ (by decide +kernel)) ggL_deliver_L_special
set_option maxRecDepth 20000 in
theorem ggL_deliver_X10_deliver : GoodIn wsL_deliver wsX10_deliver := goodIn_r _ [321, 322, 323, 300, 301, 282, 283, 324, 325, 284, 326, 327, 328, 280, 329, 330, 331, 332, 333, 334, 335, 336, 337, 338, 339, 340, 341, 342, 343, 344, 345, 346, 347, 348, 349, 350, 351, 352, 353, 354, 355, 356, 357, 288, 358, 294, 295, 359, 360, 361, 362, 363, 364, 365, 366, 367, 368, 369, 370, 371, 372, 373, 374, 375, 376, 377, 378, 379, 380, 381, 382, 383, 384, 385, 386, 387, 388, 389, 390, 391, 392, 393, 394, 395, 396, 397, 398, 399, 400, 401, 402, 403, 404, 405, 406, 407, 408, 409, 410, 411, 412, 413, 414, 415, 416, 417, 418, 419, 420, 421, 422, 423, 424, 425, 426, 427, 428, 429, 430, 431, 432, 433, 434, 435, 436, 437, 438, 439, 440, 441, 442, 443, 444, 104, 87, 105, 445, 107, 108, 109, 446, 447, 448, 449, 450, 451, 452, 453, 454, 455, 456, 457, 458, 459, 460, 461, 462, 463, 464, 465, 466, 467, 468, 469, 470, 471, 472, 473, 474, 475, 476, 477, 478, 479, 480, 481, 482, 483, 484, 485, 486, 487, 488, 489, 490, 491, 492, 493, 494, 495, 496, 497, 498, 499, 500, 501, 502, 23, 24, 503, 504, 505, 506, 86, 88, 507, 508, 509, 510, 511, 512, 513, 514, 515, 516, 517, 518, 519, 520, 521, 522, 523, 28, 524, 525, 526, 527, 290, 291, 292, 293, 528, 529, 530, 531, 532, 533, 534, 535, 536, 537, 538, 539, 540, 541, 542, 543, 544, 545, 546, 547, 548, 549, 550, 551, 552, 553, 554, 555, 556, 557, 558, 559, 560, 561, 302, 303, 304, 305, 570, 571, 572, 573, 574, 575, 576, 577, 578, 579, 580, 583, 584, 585, 586, 587, 588, 589, 590, 591, 592, 593, 594, 595, 596, 597, 598, 599, 600, 601, 602, 603, 604, 605, 606, 607, 608, 609, 610, 611, 612, 613, 614, 615, 616, 617, 618, 619, 620, 581, 582, 621, 622, 623, 624, 625, 626, 627, 628, 629, 630, 631, 632, 633, 634, 635, 636, 637, 638] (by decide +kernel) (by decide +kernel)
set_option maxRecDepth 20000 in
theorem gL_deliver_X10_deliver : GoodIn wsL_deliver (wsV RL 186 RX10 yX10_deliver wsX10_deliver) := goodIn_app (goodIn_of _ (by decide +kernel)) ggL_deliver_X10_deliver
set_option maxRecDepth 20000 in
theorem ggL_wrong_L_feed : GoodIn wsL_wrong wsL_feed := goodIn_r _ [4, 5, 6, 7, 8, 9, 10, 11, 12, 13, 14, 15, 16, 17, 18, 19, 20, 21, 22, 3, 23, 24, 25, 26, 27, 28, 29, 30, 31, 32, 33, 34, 35, 36, 37, 38, 39, 40, 41, 42, 43, 44, 45, 46, 47, 48, 49, 50, 51, 52, 53, 54, 55, 56, 57, 58, 59, 60, 61, 62, 63, 64, 65, 66, 67, 68, 69, 70, 71, 72, 73, 74, 75, 76, 77, 78, 79, 80, 81, 82, 83, 84, 85, 86, 87, 88, 89, 378, 379, 380, 381, 382, 383, 384, 385, 386, 387, 388, 389, 390, 391, 392, 393, 394] (by decide +kernel) (by decide +kernel)
set_option maxRecDepth 20000 in
theorem gL_wrong_L_feed : GoodIn wsL_wrong (va_wsS RL 138 yL_feed wsL_feed) := goodIn_app (goodIn_of _ (by decide +kernel)) ggL_wrong_L_feed
set_option maxRecDepth 20000 in
theorem ggL_wrong_X10_load : GoodIn wsL_wrong wsX10_load := goodIn_r _ [93, 94, 95, 96, 68, 97, 98, 99, 100, 101, 102, 103, 104, 105, 106, 107, 108, 109, 110, 111, 112, 113, 114, 115, 116, 117, 118, 119, 120, 121, 122, 123, 124, 125, 126, 127, 128, 129, 130, 131, 132, 133, 134, 135, 136, 137, 138, 139, 140, 141, 7, 142, 143, 144, 145, 146, 147, 148, 149, 150, 151, 152, 153, 154, 155, 156, 157, 158, 159, 160, 161, 162, 163, 164, 72, 165, 78, 79, 166, 167, 168, 169, 64, 170, 171, 172, 173, 174, 175, 176, 177, 178, 179, 180, 181, 182, 183, 184, 185, 186, 187, 6, 8, 188, 189, 190, 191, 192, 193, 194, 195, 196, 197, 198, 199, 200, 201, 202, 203, 204, 205, 206, 207, 208, 209, 210, 211, 212, 213, 214, 215, 216, 217, 218, 219, 220, 221, 222, 223, 224, 225, 226, 227, 228, 229, 230, 231, 232, 233, 234, 235, 236, 237, 238, 239, 240, 241, 242, 243, 244, 245, 246, 247, 248, 249, 250, 251, 252, 253, 254, 255, 256, 257, 258, 259, 260, 261, 262, 263, 264, 265, 266, 267, 268, 269, 270, 271, 272, 273, 274, 275, 276, 277, 278, 279, 280, 281, 282, 283, 284, 285, 286, 287, 288, 289, 290, 291, 292, 293, 294, 295, 296, 86, 87, 88, 89, 297, 298, 299, 300, 301, 302, 303, 304, 305, 306, 307, 308, 309, 310, 311, 312, 313, 314, 315, 316, 317, 318, 319, 320, 321, 322, 323, 324, 325, 326, 327, 328, 329, 330, 331, 332, 333, 334, 335, 336, 337, 338, 339, 340, 341, 342, 343, 344, 345, 346, 347, 348, 349, 350, 351, 352, 353, 354, 355, 356, 357, 358, 359, 360, 361, 362, 363, 364, 365, 366, 367, 368, 369, 395, 396, 397, 398, 399, 400, 401, 402, 403, 404, 382, 383, 384, 385, 386, 387, 388, 389, 390, 391, 392, 405, 406, 407, 408, 409, 410, 411, 412, 413, 414, 415, 416, 417, 418, 419, 420, 421, 422, 423, 424, 425, 426, 427, 428, 429, 430, 431, 432, 433, 434, 435, 436, 437, 438, 393, 394, 439, 440, 441, 442, 443, 444, 445, 446, 447, 448, 449, 450, 451] (by decide +kernel) (by decide +kernel)
set_option maxRecDepth 20000 in
theorem gL_wrong_X10_load : GoodIn wsL_wrong (wsV RL 142 RX10 yX10_load wsX10_load) := goodIn_app (goodIn_of _ (by decide +kernel)) ggL_wrong_X10_load
set_option maxRecDepth 20000 in
theorem ggL_wrong_X10_errorCode : GoodIn wsL_wrong wsX10_errorCode := goodIn_r _ [373, 97, 382, 383, 384, 385, 386, 387, 388, 389, 390, 391, 392] (by decide +kernel) (by decide +kernel)
set_option maxRecDepth 20000 in
theorem gL_wrong_X10_errorCode : GoodIn wsL_wrong (wsV RL 145 RX10 yX10_errorCode wsX10_errorCode) := goodIn_app (goodIn_of _ (by decide +kernel)) ggL_wrong_X10_errorCode
set_option maxRecDepth 20000 in
theorem ggL_wrong_X10_errorPosition : GoodIn wsL_wrong wsX10_errorPosition := goodIn_r _ [377, 98, 382, 383, 384, 385, 386, 387, 388, 389, 390, 391, 392] (by decide +kernel) (by decide +kernel)
set_option maxRecDepth 20000 in
theorem gL_wrong_X10_errorPosition : GoodIn wsL_wrong (wsV RL 148 RX10 yX10_errorPosition wsX10_errorPosition) := goodIn_app (goodIn_of _ (by decide +kernel)) ggL_wrong_X10_errorPosition
set_option maxRecDepth 20000 in
theorem ggL_errors_X10_init : GoodIn wsL_errors wsX10_init := goodIn_r _ [9, 10, 11, 12, 13, 14, 15, 16, 17, 18, 19, 20, 21, 22, 23, 24, 25, 26, 27, 28, 29, 30, 31, 32, 33, 34, 35, 36, 37, 38, 39, 40, 41, 42, 43, 44, 45, 46, 47, 48, 49, 50, 51, 52, 53, 54, 55, 56, 57, 58, 59, 60, 61, 62, 63, 64, 65, 66, 67, 68, 69, 70, 71, 72, 73, 74, 75, 76, 77, 78, 79, 80, 81, 82, 83, 84, 85, 86, 87, 88, 89, 90, 91, 92, 93, 94, 95, 96, 97, 98, 99, 100, 101, 102, 103, 104, 105, 106, 107, 108, 109, 110, 111, 112, 113, 114, 115, 116, 117, 118, 119, 120, 121, 122, 123, 124, 125, 126, 127, 128, 129, 130, 131, 132, 680, 681, 682, 683, 684, 685, 686, 687, 688, 689, 690, 691, 692, 693, 694, 695, 696, 697, 665, 666, 667, 668, 669, 670, 671, 672, 673, 674, 675, 698, 699, 700, 701, 702, 703, 704, 705, 706, 707, 708, 709, 710, 711, 712, 713, 714, 715, 716, 717, 718, 719, 720, 721, 722, 723, 724, 725, 726, 727, 728, 729, 730, 731, 732, 733, 734, 735, 736, 737] (by decide +kernel) (by decide +kernel)
set_option maxRecDepth 20000 in
theorem gL_errors_X10_init : GoodIn wsL_errors (wsX10_init) := ggL_errors_X10_init
set_option maxRecDepth 20000 in
theorem ggL_errors_J4_init_da8c8 : GoodIn wsL_errors wsJ4_init_da8c8 := goodIn_r _ [135, 136, 137, 138, 139, 140, 11, 12, 141, 71, 142, 143, 144, 145, 146, 147, 148, 149, 150, 151, 676, 677, 678, 679] (by decide +kernel) (by decide +kernel)
set_option maxRecDepth 20000 in
theorem gL_errors_J4_init_da8c8 : GoodIn wsL_errors (wsJ4_init_da8c8) := ggL_errors_J4_init_da8c8
set_option maxRecDepth 20000 in
theorem ggL_errors_J4_append_15ec4 : GoodIn wsL_errors wsJ4_append_15ec4 := goodIn_r _ [155, 156, 157, 158, 159, 138, 160, 161, 162, 163, 164, 165, 166, 142, 167, 168, 169, 170, 171, 143, 172, 173, 174, 175, 176, 177, 178, 179, 180, 181, 182, 62, 63, 64, 183, 184, 185, 186, 187, 188, 189, 190, 191, 192, 193, 194, 195, 196, 71, 197, 198, 199, 200, 201, 202, 203, 204, 205, 206, 207, 208, 141, 209, 210, 146, 211, 212, 213, 214, 215, 216, 217, 218, 219, 220, 221, 222, 223, 224, 225, 226, 227, 228, 229, 230, 231, 232, 233, 234, 235, 236, 237, 238, 239, 240, 241, 242, 243, 244, 245, 246, 247, 248, 249, 250, 251, 252, 253, 254, 255, 256, 257, 258, 259, 144, 145, 147, 148, 149, 150, 151, 260, 261, 262, 263, 264, 265, 266, 267, 268, 269, 270, 271, 272, 273, 274, 275, 276, 277, 278, 279, 280, 281, 676, 677, 678, 679, 738, 739, 740, 741] (by decide +kernel) (by decide +kernel)
set_option maxRecDepth 20000 in
theorem gL_errors_J4_append_15ec4 : GoodIn wsL_errors (wsV RL 66 RJ4 yJ4_append_15ec4 wsJ4_append_15ec4) := goodIn_app (goodIn_of _ (by decide +kernel)) ggL_errors_J4_append_15ec4
set_option maxRecDepth 20000 in
theorem ggL_errors_J4_toString_0e30d : GoodIn wsL_errors wsJ4_toString_0e30d := goodIn_r _ [285, 286, 287, 221, 288, 289, 290, 291, 292, 293, 294, 11, 12, 243, 237, 242, 295, 296, 297, 298, 299, 138, 300, 142, 301, 302, 303, 304, 305, 6, 306, 307, 158, 308, 309, 161, 310, 205, 206, 207, 208, 141, 143, 311, 312, 189, 313, 191, 192, 193, 194, 195, 196, 314, 315, 316, 71, 197, 198, 63, 199, 200, 201, 202, 203, 317, 318, 319, 320, 321, 146, 322, 323, 324, 325, 267, 268, 269, 216, 217, 218, 270, 271, 272, 223, 273, 274, 226, 275, 326, 327, 328, 212, 231, 232, 148, 149, 150, 151, 329, 330, 331, 332, 738, 739, 740, 741, 676, 677, 678, 679] (by decide +kernel) (by decide +kernel)
set_option maxRecDepth 20000 in
theorem gL_errors_J4_toString_0e30d : GoodIn wsL_errors (wsV RL 130 RJ4 yJ4_toString_0e30d wsJ4_toString_0e30d) := goodIn_app (goodIn_of _ (by decide +kernel)) ggL_errors_J4_toString_0e30d
set_option maxRecDepth 20000 in
theorem ggL_errors_L_wrong : GoodIn wsL_errors wsL_wrong := goodIn_r _ [336, 337, 338, 335, 339, 340, 198, 63, 199, 341, 234, 235, 221, 236, 237, 238, 239, 240, 241, 242, 243, 342, 343, 344, 345, 346, 347, 348, 349, 350, 351, 352, 353, 354, 262, 355, 356, 357, 358, 223, 359, 360, 226, 361, 362, 363, 146, 364, 365, 366, 367, 216, 217, 218, 368, 326, 327, 328, 212, 231, 232, 369, 370, 371, 3, 372, 373, 374, 19, 375, 376, 377, 18, 378, 379, 380, 381, 382, 383, 72, 384, 385, 386, 387, 388, 389, 390, 391, 392, 393, 394, 395, 396, 397, 398, 399, 400, 401, 25, 29, 402, 403, 404, 405, 11, 12, 406, 407, 14, 15, 408, 409, 410, 35, 36, 37, 38, 39, 40, 41, 42, 32, 43, 44, 45, 46, 47, 48, 49, 50, 51, 52, 53, 54, 55, 56, 57, 58, 59, 60, 61, 62, 64, 65, 411, 412, 413, 414, 415, 416, 417, 418, 419, 420, 421, 422, 423, 424, 425, 426, 427, 428, 429, 430, 431, 432, 433, 434, 435, 436, 437, 438, 439, 440, 441, 442, 443, 444, 445, 446, 447, 448, 449, 450, 451, 452, 453, 454, 455, 456, 457, 458, 459, 460, 461, 462, 463, 464, 465, 466, 467, 468, 469, 470, 471, 472, 473, 474, 475, 476, 477, 478, 479, 480, 481, 482, 483, 484, 485, 486, 487, 488, 489, 490, 491, 492, 493, 494, 495, 496, 497, 498, 499, 500, 501, 502, 503, 504, 505, 506, 507, 508, 509, 510, 511, 512, 513, 514, 515, 516, 517, 518, 519, 520, 521, 522, 523, 524, 525, 526, 527, 528, 529, 530, 531, 532, 533, 534, 535, 536, 537, 538, 539, 540, 541, 542, 543, 544, 545, 546, 547, 548, 549, 550, 551, 552, 553, 554, 555, 556, 557, 558, 559, 560, 561, 562, 563, 564, 565, 566, 567, 568, 569, 570, 571, 572, 573, 31, 574, 575, 576, 28, 577, 84, 578, 579, 580, 85, 581, 87, 88, 89, 90, 94, 98, 582, 583, 584, 585, 201, 202, 203, 586, 587, 588, 93, 589, 590, 591, 592, 111, 112, 113, 114, 593, 594, 595, 97, 596, 121, 122, 123, 597, 598, 599, 600, 601, 602, 603, 604, 605, 606, 607, 608, 609, 610, 611, 612, 613, 614, 615, 616, 617, 618, 619, 620, 621, 622, 738, 739, 740, 741, 665, 666, 667, 668, 669, 670, 671, 672, 673, 674, 675, 696, 697, 742, 743, 744, 745, 746, 747, 748, 749, 750, 751, 702, 703, 704, 705, 706, 707, 708, 709, 710, 711, 712, 713, 714, 715, 716, 717, 680, 681, 682, 683, 684, 685, 686, 687, 688, 689, 690, 691, 692, 693, 694, 695, 718, 719, 720, 721, 722, 723, 724, 725, 726, 727, 728, 729, 730, 731, 732] (by decide +kernel) (by decide +kernel)
set_option maxRecDepth 20000 in
theorem gL_errors_L_wrong : GoodIn wsL_errors (va_wsS RL 200 yL_wrong wsL_wrong) := goodIn_app (goodIn_of _ (by decide +kernel)) ggL_errors_L_wrong
set_option maxRecDepth 20000 in
theorem ggL_errors_J4_init_a7421 : GoodIn wsL_errors wsJ4_init_a7421 := goodIn_r _ [625, 626, 627, 138, 628, 140, 11, 12, 629, 177, 143, 71, 142, 233, 234, 235, 221, 236, 237, 238, 239, 240, 241, 242, 243, 254, 144, 145, 146, 147, 148, 149, 150, 151, 630, 157, 631, 632, 633, 6, 634, 635, 153, 154, 155, 156, 158, 159, 160, 161, 162, 163, 164, 165, 166, 167, 168, 169, 170, 171, 172, 173, 174, 175, 176, 178, 179, 180, 181, 182, 62, 63, 64, 183, 184, 185, 186, 187, 188, 189, 190, 191, 192, 193, 194, 195, 196, 197, 198, 199, 200, 201, 202, 203, 204, 205, 206, 207, 208, 141, 209, 210, 211, 212, 213, 214, 215, 216, 217, 218, 219, 220, 222, 223, 224, 225, 226, 227, 228, 229, 230, 231, 232, 244, 245, 246, 247, 248, 249, 250, 251, 252, 253, 255, 256, 257, 258, 259, 260, 261, 262, 263, 264, 265, 266, 267, 268, 269, 270, 271, 272, 273, 274, 275, 276, 277, 278, 279, 280, 281, 676, 677, 678, 679, 738, 739, 740, 741] (by decide +kernel) (by decide +kernel)
set_option maxRecDepth 20000 in
theorem gL_errors_J4_init_a7421 : GoodIn wsL_errors (wsJ4_init_a7421) := ggL_errors_J4_init_a7421
set_option maxRecDepth 20000 in
theorem ggL_errors_J4_append_cf468 : GoodIn wsL_errors wsJ4_append_cf468 := goodIn_r _ [639, 640, 641, 158, 642, 138, 643, 161, 142, 167, 168, 169, 170, 171, 143, 172, 173, 174, 175, 176, 177, 178, 179, 180, 181, 182, 62, 63, 64, 183, 184, 185, 186, 187, 188, 189, 190, 191, 192, 193, 194, 195, 196, 71, 197, 198, 199, 200, 201, 202, 203, 204, 205, 206, 207, 208, 141, 644, 645, 262, 646, 255, 256, 257, 258, 259, 144, 145, 146, 147, 148, 149, 150, 151, 260, 261, 263, 264, 265, 266, 267, 268, 269, 216, 217, 218, 270, 271, 221, 272, 223, 273, 274, 226, 275, 228, 229, 230, 212, 231, 232, 647, 648, 649, 365, 366, 367, 368, 357, 358, 359, 360, 361, 676, 677, 678, 679] (by decide +kernel) (by decide +kernel)
set_option maxRecDepth 20000 in
theorem gL_errors_J4_append_cf468 : GoodIn wsL_errors (wsV RL 76 RJ4 yJ4_append_cf468 wsJ4_append_cf468) := goodIn_app (goodIn_of _ (by decide +kernel)) ggL_errors_J4_append_cf468
set_option maxRecDepth 20000 in
theorem ggL_errors_X10_count : GoodIn wsL_errors wsX10_count := goodIn_r _ [653, 29, 654, 655, 3, 656, 388, 389, 657, 658, 659, 15, 660, 42, 46, 49, 51, 665, 666, 667, 668, 669, 670, 671, 672, 673, 674, 675, 702, 703, 704, 705, 706, 707, 708, 709, 710, 711, 712, 713, 714, 715, 716, 717, 718, 719, 680, 681, 682, 683, 684, 685, 686, 687, 688, 689, 690, 691, 692, 693, 694, 695] (by decide +kernel) (by decide +kernel)
set_option maxRecDepth 20000 in
theorem gL_errors_X10_count : GoodIn wsL_errors (wsV RL 151 RX10 yX10_count wsX10_count) := goodIn_app (goodIn_of _ (by decide +kernel)) ggL_errors_X10_count
set_option maxRecDepth 20000 in
theorem ggL_errors_X10_undoCount : GoodIn wsL_errors wsX10_undoCount := goodIn_r _ [664, 568, 665, 666, 667, 668, 669, 670, 671, 672, 673, 674, 675] (by decide +kernel) (by decide +kernel)
set_option maxRecDepth 20000 in
theorem gL_errors_X10_undoCount : GoodIn wsL_errors (wsV RL 236 RX10 yX10_undoCount wsX10_undoCount) := goodIn_app (goodIn_of _ (by decide +kernel)) ggL_errors_X10_undoCount
set_option maxRecDepth 20000 in
theorem ggL_law_X10_init : GoodIn wsL_law wsX10_init := goodIn_r _ [9, 10, 11, 12, 13, 14, 15, 16, 17, 18, 19, 20, 21, 22, 23, 24, 25, 26, 27, 28, 29, 30, 31, 3, 32, 33, 34, 35, 36, 37, 38, 39, 40, 41, 42, 43, 44, 45, 46, 47, 48, 49, 50, 51, 52, 53, 54, 55, 56, 57, 58, 59, 60, 61, 62, 63, 64, 65, 66, 67, 68, 69, 70, 71, 72, 73, 74, 75, 76, 77, 78, 79, 80, 81, 82, 83, 84, 85, 86, 87, 88, 89, 90, 91, 92, 93, 94, 95, 96, 97, 98, 99, 100, 101, 102, 103, 104, 105, 106, 107, 108, 109, 110, 111, 112, 113, 114, 115, 116, 117, 118, 119, 120, 121, 122, 123, 124, 125, 126, 127, 128, 129, 130, 131, 1069, 1070, 1071, 1072, 1073, 1074, 1075, 1076, 1077, 1078, 1079, 1080, 1081, 1082, 1083, 1084, 1085, 1086, 1058, 1059, 1060, 1061, 1062, 1063, 1064, 1065, 1066, 1067, 1068, 1087, 1088, 1089, 1090, 1091, 1092, 1093, 1094, 1095, 1096, 1097, 1098, 1099, 1100, 1101, 1102, 1103, 1104, 1105, 1106, 1107, 1108, 1109, 1110, 1111, 1112, 1113, 1114, 1115, 1116, 1117, 1118, 1119, 1120, 1121, 1122, 1123, 1124, 1125, 1126] (by decide +kernel) (by decide +kernel)
set_option maxRecDepth 20000 in
theorem gL_law_X10_init : GoodIn wsL_law (wsX10_init) := ggL_law_X10_init
set_option maxRecDepth 20000 in
theorem ggL_law_L_load : GoodIn wsL_law wsL_load := goodIn_r _ [135, 136, 137, 134, 138, 139, 140, 141, 142, 143, 144, 145, 146, 147, 148, 149, 11, 12, 150, 151, 152, 70, 153, 154, 155, 156, 157, 158, 159, 160, 161, 162, 163, 164, 165, 166, 167, 168, 169, 170, 171, 172, 173, 174, 175, 176, 177, 178, 179, 180, 181, 182, 183, 184, 185, 186, 187, 188, 189, 190, 191, 192, 193, 194, 195, 196, 197, 198, 199, 200, 201, 202, 203, 204, 205, 206, 207, 208, 209, 61, 62, 63, 210, 211, 212, 213, 214, 215, 216, 217, 218, 219, 220, 221, 222, 223, 224, 225, 226, 227, 228, 229, 230, 231, 232, 233, 234, 235, 236, 237, 238, 239, 240, 241, 242, 243, 244, 245, 246, 247, 248, 249, 250, 251, 252, 253, 254, 255, 256, 257, 258, 259, 260, 261, 262, 263, 264, 265, 266, 267, 268, 269, 270, 271, 272, 273, 274, 275, 276, 277, 278, 279, 280, 281, 282, 283, 284, 285, 286, 287, 288, 289, 290, 291, 292, 293, 294, 295, 296, 297, 298, 299, 300, 301, 302, 303, 304, 305, 306, 307, 308, 309, 310, 311, 312, 313, 314, 315, 316, 317, 318, 319, 320, 321, 322, 323, 324, 325, 326, 327, 328, 329, 330, 331, 332, 333, 334, 335, 336, 337, 338, 339, 340, 341, 342, 343, 344, 345, 346, 347, 348, 349, 350, 351, 352, 353, 354, 355, 356, 357, 358, 359, 360, 361, 362, 363, 364, 365, 366, 367, 368, 369, 370, 371, 372, 373, 374, 375, 376, 377, 378, 379, 380, 381, 382, 383, 384, 385, 386, 387, 388, 389, 390, 391, 392, 393, 394, 395, 396, 397, 398, 399, 400, 401, 402, 403, 404, 405, 406, 407, 408, 409, 410, 411, 412, 413, 414, 415, 416, 417, 418, 419, 420, 421, 422, 423, 424, 425, 426, 427, 428, 429, 430, 431, 432, 433, 434, 435, 436, 437, 438, 439, 440, 441, 442, 443, 444, 445, 446, 447, 448, 449, 450, 451, 452, 453, 454, 455, 456, 457, 458, 459, 460, 461, 462, 463, 464, 465, 2, 466, 467, 468, 19, 469, 470, 471, 18, 472, 473, 474, 475, 476, 477, 71, 478, 479, 480, 481, 482, 483, 484, 485, 486, 487, 488, 489, 490, 491, 492, 493, 494, 495, 25, 29, 496, 497, 498, 499, 500, 501, 14, 15, 502, 503, 504, 34, 35, 36, 37, 38, 39, 40, 41, 3, 42, 43, 44, 45, 46, 47, 48, 49, 50, 51, 52, 53, 54, 55, 56, 57, 58, 59, 60, 64, 505, 506, 507, 508, 509, 510, 511, 512, 513, 514, 515, 516, 517, 518, 519, 520, 521, 522, 523, 524, 525, 526, 527, 528, 529, 530, 531, 532, 533, 534, 535, 536, 537, 538, 539, 540, 541, 542, 543, 544, 545, 546, 547, 548, 549, 550, 551, 552, 553, 554, 555, 556, 557, 558, 559, 560, 561, 562, 563, 564, 565, 566, 567, 568, 569, 570, 571, 572, 573, 574, 575, 576, 577, 578, 579, 580, 581, 582, 583, 584, 585, 586, 587, 588, 589, 590, 591, 592, 593, 594, 595, 596, 597, 598, 599, 600, 601, 602, 603, 604, 605, 606, 607, 608, 609, 610, 611, 612, 613, 614, 615, 616, 617, 618, 619, 620, 621, 622, 623, 624, 625, 626, 627, 628, 629, 630, 631, 632, 633, 634, 635, 636, 637, 638, 639, 640, 641, 642, 643, 644, 645, 646, 647, 648, 649, 650, 651, 652, 653, 654, 655, 656, 657, 658, 659, 660, 661, 662, 663, 664, 665, 666, 667, 31, 668, 669, 670, 28, 671, 83, 672, 673, 674, 84, 675, 86, 87, 88, 89, 93, 97, 676, 677, 678, 679, 680, 681, 682, 92, 683, 684, 685, 686, 110, 111, 112, 113, 687, 688, 689, 96, 690, 120, 121, 122, 691, 692, 693, 694, 695, 696, 697, 698, 699, 700, 701, 702, 703, 704, 705, 706, 707, 708, 709, 710, 711, 712, 713, 714, 715, 716, 717, 718, 719, 720, 721, 722, 723, 724, 725, 726, 727, 728, 729, 730, 731, 1127, 1128, 1129, 1130, 1131, 1132, 1133, 1134, 1058, 1059, 1060, 1061, 1062, 1063, 1064, 1065, 1066, 1067, 1068, 1085, 1086, 1135, 1136, 1137, 1138, 1139, 1140, 1141, 1142, 1143, 1144, 1091, 1092, 1093, 1094, 1095, 1096, 1097, 1098, 1099, 1100, 1101, 1102, 1103, 1104, 1105, 1106, 1069, 1070, 1071, 1072, 1073, 1074, 1075, 1076, 1077, 1078, 1079, 1080, 1081, 1082, 1083, 1084, 1107, 1108, 1109, 1110, 1111, 1112, 1113, 1114, 1115, 1116, 1117, 1118, 1119, 1120, 1121] (by decide +kernel) (by decide +kernel)
set_option maxRecDepth 20000 in
theorem gL_law_L_load : GoodIn wsL_law (va_wsS RL 239 yL_load wsL_load) := goodIn_app (goodIn_of _ (by decide +kernel)) ggL_law_L_load
set_option maxRecDepth 20000 in
theorem ggL_law_L_errors : GoodIn wsL_law wsL_errors := goodIn_r _ [734, 0, 1, 2, 139, 140, 141, 7, 8, 9, 10, 11, 12, 13, 14, 15, 16, 17, 18, 19, 20, 21, 22, 23, 24, 25, 26, 27, 28, 29, 30, 31, 3, 32, 33, 34, 35, 36, 37, 38, 39, 40, 41, 42, 43, 44, 45, 46, 47, 48, 49, 50, 51, 52, 53, 54, 55, 56, 57, 58, 59, 60, 61, 62, 63, 64, 65, 66, 67, 68, 69, 70, 71, 72, 73, 74, 75, 76, 77, 78, 79, 80, 81, 82, 83, 84, 85, 86, 87, 88, 89, 90, 91, 92, 93, 94, 95, 96, 97, 98, 99, 100, 101, 102, 103, 104, 105, 106, 107, 108, 109, 110, 111, 112, 113, 114, 115, 116, 117, 118, 119, 120, 121, 122, 123, 124, 125, 126, 127, 128, 129, 130, 131, 735, 736, 737, 738, 739, 147, 740, 149, 236, 153, 152, 167, 168, 169, 170, 171, 172, 173, 174, 329, 182, 183, 184, 185, 176, 186, 187, 188, 189, 190, 191, 192, 193, 194, 195, 196, 197, 198, 199, 200, 201, 202, 203, 204, 151, 205, 206, 207, 208, 209, 210, 211, 212, 213, 214, 215, 216, 217, 218, 219, 220, 221, 222, 223, 224, 225, 226, 227, 228, 229, 230, 231, 232, 233, 234, 235, 237, 238, 239, 240, 241, 242, 243, 244, 245, 246, 247, 248, 157, 249, 250, 251, 252, 253, 254, 255, 256, 257, 258, 259, 154, 155, 156, 158, 159, 160, 161, 162, 163, 164, 165, 260, 261, 262, 263, 264, 265, 266, 267, 268, 269, 166, 270, 271, 272, 273, 274, 275, 276, 277, 278, 279, 280, 281, 282, 283, 284, 285, 286, 287, 288, 289, 290, 291, 292, 293, 294, 295, 296, 389, 390, 391, 392, 393, 394, 395, 396, 397, 398, 399, 400, 401, 402, 403, 404, 405, 406, 407, 408, 409, 410, 411, 412, 413, 414, 415, 416, 417, 418, 419, 420, 421, 422, 423, 424, 425, 426, 427, 428, 429, 430, 431, 432, 433, 434, 435, 436, 437, 438, 439, 741, 742, 134, 743, 440, 441, 442, 443, 444, 445, 446, 447, 448, 449, 450, 451, 452, 453, 454, 455, 456, 457, 458, 459, 354, 355, 356, 357, 358, 460, 461, 462, 350, 351, 352, 353, 463, 464, 465, 466, 467, 468, 469, 470, 471, 472, 473, 474, 475, 476, 477, 478, 479, 480, 481, 482, 483, 484, 485, 486, 487, 488, 489, 490, 491, 492, 493, 494, 495, 496, 497, 498, 499, 500, 501, 502, 503, 504, 505, 506, 507, 508, 509, 510, 511, 512, 513, 514, 515, 516, 517, 518, 519, 520, 521, 522, 523, 524, 525, 526, 527, 528, 529, 530, 531, 532, 533, 534, 535, 536, 537, 538, 539, 540, 541, 542, 543, 544, 545, 546, 547, 548, 549, 550, 551, 552, 553, 554, 555, 556, 557, 558, 559, 560, 561, 562, 563, 564, 565, 566, 567, 568, 569, 570, 571, 572, 573, 574, 575, 576, 577, 578, 579, 580, 581, 582, 583, 584, 585, 586, 587, 588, 589, 590, 591, 592, 593, 594, 595, 596, 597, 598, 599, 600, 601, 602, 603, 604, 605, 606, 607, 608, 609, 610, 611, 612, 613, 614, 615, 616, 617, 618, 619, 620, 621, 622, 623, 624, 625, 626, 627, 628, 629, 630, 631, 632, 633, 634, 635, 636, 637, 638, 639, 640, 641, 642, 643, 644, 645, 646, 647, 648, 649, 650, 651, 652, 653, 654, 655, 656, 657, 658, 659, 660, 661, 662, 663, 664, 665, 666, 667, 668, 669, 670, 671, 672, 673, 674, 675, 676, 677, 678, 679, 680, 681, 682, 683, 684, 685, 686, 687, 688, 689, 690, 691, 692, 693, 694, 695, 696, 697, 698, 699, 700, 701, 702, 703, 704, 705, 706, 707, 708, 709, 710, 711, 712, 713, 714, 715, 716, 142, 143, 144, 145, 146, 148, 150, 175, 177, 178, 179, 180, 181, 336, 337, 338, 339, 340, 341, 342, 343, 344, 345, 346, 347, 348, 349, 717, 718, 719, 720, 721, 722, 723, 724, 725, 726, 727, 744, 745, 746, 747, 1058, 1059, 1060, 1061, 1062, 1063, 1064, 1065, 1066, 1067, 1068, 1127, 1128, 1129, 1130, 1069, 1070, 1071, 1072, 1073, 1074, 1075, 1076, 1077, 1078, 1079, 1080, 1081, 1082, 1083, 1084, 1085, 1086, 1087, 1088, 1089, 1090, 1091, 1092, 1093, 1094, 1095, 1096, 1097, 1098, 1099, 1100, 1101, 1102, 1103, 1104, 1105, 1106, 1107, 1108, 1109, 1110, 1111, 1112, 1113, 1114, 1115, 1116, 1117, 1118, 1119, 1120, 1121, 1122, 1123, 1124, 1125, 1126, 1131, 1132, 1133, 1134, 1135, 1136, 1137, 1138, 1139, 1140, 1141, 1142, 1143, 1144] (by decide +kernel) (by decide +kernel)
set_option maxRecDepth 20000 in
theorem gL_law_L_errors : GoodIn wsL_law (va_wsS RL 242 yL_errors wsL_errors) := goodIn_app (goodIn_of _ (by decide +kernel)) ggL_law_L_errors
set_option maxRecDepth 20000 in
theorem ggL_law_L_users : GoodIn wsL_law wsL_users := goodIn_r _ [370, 300, 301, 134, 302, 303] (by decide +kernel) (by decide +kernel)
set_option maxRecDepth 20000 in
theorem gL_law_L_users : GoodIn wsL_law (va_wsS RL 48 yL_users wsL_users) := goodIn_app (goodIn_of _ (by decide +kernel)) ggL_law_L_users
set_option maxRecDepth 20000 in
theorem ggL_law_L_recipients : GoodIn wsL_law wsL_recipients := goodIn_r _ [750, 368, 369, 134, 370, 300, 301, 302, 303] (by decide +kernel) (by decide +kernel)
set_option maxRecDepth 20000 in
theorem gL_law_L_recipients : GoodIn wsL_law (va_wsS RL 180 yL_recipients wsL_recipients) := goodIn_app (goodIn_of _ (by decide +kernel)) ggL_law_L_recipients
set_option maxRecDepth 20000 in
theorem ggL_law_L_size : GoodIn wsL_law wsL_size := goodIn_r _ [753, 754, 755, 134, 756, 300, 301, 302, 303, 757, 758, 759, 760, 761, 762, 444, 155, 156, 157, 158, 159, 160, 161, 162, 163, 164, 165, 1131, 1132, 1133, 1134] (by decide +kernel) (by decide +kernel)
set_option maxRecDepth 20000 in
theorem gL_law_L_size : GoodIn wsL_law (va_wsS RL 246 yL_size wsL_size) := goodIn_app (goodIn_of _ (by decide +kernel)) ggL_law_L_size
set_option maxRecDepth 20000 in
theorem ggL_law_L_quota : GoodIn wsL_law wsL_quota := goodIn_r _ [376, 300, 301, 134, 302, 303] (by decide +kernel) (by decide +kernel)
set_option maxRecDepth 20000 in
theorem gL_law_L_quota : GoodIn wsL_law (va_wsS RL 106 yL_quota wsL_quota) := goodIn_app (goodIn_of _ (by decide +kernel)) ggL_law_L_quota
set_option maxRecDepth 20000 in
theorem ggL_law_L_deliver : GoodIn wsL_law wsL_deliver := goodIn_r _ [765, 139, 140, 141, 757, 758, 134, 759, 300, 301, 302, 303, 760, 761, 762, 142, 143, 144, 145, 146, 147, 148, 149, 11, 12, 150, 151, 152, 70, 153, 154, 155, 156, 157, 158, 159, 160, 161, 162, 163, 164, 165, 166, 167, 168, 169, 170, 171, 172, 173, 174, 175, 176, 177, 178, 179, 180, 181, 182, 183, 184, 185, 186, 187, 188, 189, 190, 191, 192, 193, 194, 195, 196, 197, 198, 199, 200, 201, 202, 203, 204, 205, 206, 207, 208, 209, 61, 62, 63, 210, 211, 212, 213, 214, 215, 216, 217, 218, 219, 220, 221, 222, 223, 224, 225, 226, 227, 228, 229, 230, 231, 232, 233, 234, 235, 236, 237, 238, 239, 240, 241, 242, 243, 244, 245, 246, 247, 248, 249, 250, 251, 252, 253, 254, 255, 256, 257, 258, 259, 260, 261, 262, 263, 264, 265, 266, 267, 268, 269, 270, 271, 272, 273, 274, 275, 276, 277, 278, 279, 280, 281, 282, 283, 284, 285, 286, 287, 288, 289, 290, 291, 292, 293, 294, 295, 296, 754, 755, 756, 336, 337, 338, 339, 340, 341, 342, 343, 344, 345, 346, 347, 348, 349, 350, 351, 352, 353, 354, 355, 356, 357, 358, 329, 389, 390, 391, 392, 393, 394, 395, 396, 397, 398, 399, 400, 401, 402, 403, 404, 405, 406, 407, 408, 409, 410, 411, 412, 413, 414, 415, 416, 417, 418, 419, 420, 421, 422, 423, 424, 425, 426, 427, 428, 429, 430, 431, 432, 433, 434, 435, 436, 437, 438, 439, 440, 441, 442, 443, 444, 445, 446, 447, 448, 449, 450, 451, 452, 453, 454, 455, 456, 457, 458, 459, 460, 461, 462, 463, 464, 465, 2, 466, 467, 468, 19, 469, 470, 471, 18, 472, 473, 474, 475, 476, 477, 71, 478, 479, 480, 481, 482, 483, 484, 485, 486, 487, 748, 749, 750, 368, 369, 370, 766, 767, 768, 333, 334, 335, 769, 770, 771, 772, 773, 774, 29, 24, 775, 776, 777, 778, 779, 780, 781, 40, 782, 589, 783, 784, 785, 786, 787, 788, 789, 15, 790, 45, 791, 792, 793, 23, 794, 795, 76, 77, 78, 796, 524, 525, 526, 615, 616, 797, 798, 799, 92, 800, 801, 802, 803, 804, 684, 805, 806, 807, 808, 113, 809, 810, 811, 812, 635, 636, 813, 814, 815, 816, 110, 114, 817, 818, 819, 820, 821, 822, 823, 824, 825, 826, 827, 828, 829, 830, 831, 832, 833, 834, 835, 836, 837, 838, 839, 840, 841, 842, 658, 659, 660, 661, 662, 663, 664, 665, 666, 667, 31, 668, 669, 670, 28, 671, 83, 672, 673, 674, 84, 675, 86, 87, 88, 89, 93, 97, 676, 677, 678, 679, 680, 681, 682, 683, 685, 686, 111, 112, 687, 688, 689, 96, 690, 120, 121, 122, 691, 692, 843, 844, 845, 846, 85, 102, 103, 847, 848, 849, 850, 851, 852, 853, 854, 855, 856, 857, 858, 859, 860, 861, 862, 863, 864, 865, 866, 867, 868, 869, 104, 870, 871, 872, 873, 123, 124, 125, 126, 127, 128, 129, 130, 3, 131, 874, 875, 876, 877, 878, 879, 880, 881, 882, 17, 883, 66, 67, 68, 69, 884, 885, 886, 887, 888, 889, 890, 891, 892, 893, 894, 895, 896, 897, 898, 899, 900, 55, 901, 902, 903, 904, 905, 906, 907, 908, 909, 530, 531, 536, 537, 538, 539, 540, 910, 911, 912, 913, 1127, 1128, 1129, 1130, 1131, 1132, 1133, 1134, 1058, 1059, 1060, 1061, 1062, 1063, 1064, 1065, 1066, 1067, 1068, 1085, 1086, 1091, 1092, 1093, 1094, 1095, 1096, 1097, 1098, 1099, 1100, 1101, 1102, 1103, 1104, 1105, 1106, 1069, 1070, 1071, 1072, 1073, 1074, 1075, 1076, 1077, 1078, 1079, 1080, 1081, 1082, 1083, 1084, 1107, 1108, 1087, 1088, 1089, 1090, 1109, 1110, 1111, 1112, 1113, 1114, 1115, 1116, 1117, 1118, 1119, 1120, 1121, 1122, 1123, 1124, 1125, 1126] (by decide +kernel) (by decide +kernel)
set_option maxRecDepth 20000 in
theorem gL_law_L_deliver : GoodIn wsL_law (va_wsS RL 249 yL_deliver wsL_deliver) := goodIn_app (goodIn_of _ (by decide +kernel)) ggL_law_L_deliver
set_option maxRecDepth 20000 in
theorem ggL_law_X10_bounced : GoodIn wsL_law wsX10_bounced := goodIn_r _ [917, 29, 1058, 1059, 1060, 1061, 1062, 1063, 1064, 1065, 1066, 1067, 1068, 1091, 1092, 1093, 1094, 1095, 1096, 1097, 1098, 1099, 1100, 1101, 1102, 1103, 1104, 1105, 1106] (by decide +kernel) (by decide +kernel)
set_option maxRecDepth 20000 in
theorem gL_law_X10_bounced : GoodIn wsL_law (wsV RL 252 RX10 yX10_bounced wsX10_bounced) := goodIn_app (goodIn_of _ (by decide +kernel)) ggL_law_X10_bounced
set_option maxRecDepth 20000 in
theorem ggL_law_J6_bitCount_0f7a4 : GoodIn wsL_law wsJ6_bitCount_0f7a4 := goodIn_r _ [920, 921, 922, 923] (by decide +kernel) (by decide +kernel)
set_option maxRecDepth 20000 in
theorem gL_law_J6_bitCount_0f7a4 : GoodIn wsL_law (va_wsS RL 255 yJ6_bitCount_0f7a4 wsJ6_bitCount_0f7a4) := goodIn_app (goodIn_of _ (by decide +kernel)) ggL_law_J6_bitCount_0f7a4
set_option maxRecDepth 20000 in
theorem ggL_law_L_parts : GoodIn wsL_law wsL_parts := goodIn_r _ [756, 300, 301, 134, 302, 303] (by decide +kernel) (by decide +kernel)
set_option maxRecDepth 20000 in
theorem gL_law_L_parts : GoodIn wsL_law (va_wsS RL 170 yL_parts wsL_parts) := goodIn_app (goodIn_of _ (by decide +kernel)) ggL_law_L_parts
set_option maxRecDepth 20000 in
theorem ggL_law_L_sort : GoodIn wsL_law wsL_sort := goodIn_r _ [759, 300, 301, 134, 302, 303] (by decide +kernel) (by decide +kernel)
set_option maxRecDepth 20000 in
theorem gL_law_L_sort : GoodIn wsL_law (va_wsS RL 173 yL_sort wsL_sort) := goodIn_app (goodIn_of _ (by decide +kernel)) ggL_law_L_sort
set_option maxRecDepth 20000 in
theorem ggL_law_L_part : GoodIn wsL_law wsL_part := goodIn_r _ [762] (by decide +kernel) (by decide +kernel)
set_option maxRecDepth 20000 in
theorem gL_law_L_part : GoodIn wsL_law (va_wsS RL 176 yL_part wsL_part) := goodIn_app (goodIn_of _ (by decide +kernel)) ggL_law_L_part
set_option maxRecDepth 20000 in
theorem ggL_law_J0_length_8abf5 : GoodIn wsL_law wsJ0_length_8abf5 := goodIn_r _ [158, 159, 160, 161, 162, 157, 163, 164, 165, 1131, 1132, 1133, 1134] (by decide +kernel) (by decide +kernel)
set_option maxRecDepth 20000 in
theorem gL_law_J0_length_8abf5 : GoodIn wsL_law (wsV RL 8 RJ0 yJ0_length_8abf5 wsJ0_length_8abf5) := goodIn_app (goodIn_of _ (by decide +kernel)) ggL_law_J0_length_8abf5
set_option maxRecDepth 20000 in
theorem ggL_law_X10_partOf : GoodIn wsL_law wsX10_partOf := goodIn_r _ [927, 773, 774, 29, 928, 929, 930, 2, 931, 932, 867, 868, 28, 869, 675, 86, 104, 933, 635, 636, 1058, 1059, 1060, 1061, 1062, 1063, 1064, 1065, 1066, 1067, 1068, 1122, 1123, 1124, 1125, 1126, 1091, 1092, 1093, 1094, 1095, 1096, 1097, 1098, 1099, 1100, 1101, 1102, 1103, 1104, 1105, 1106] (by decide +kernel) (by decide +kernel)
set_option maxRecDepth 20000 in
theorem gL_law_X10_partOf : GoodIn wsL_law (wsV RL 260 RX10 yX10_partOf wsX10_partOf) := goodIn_app (goodIn_of _ (by decide +kernel)) ggL_law_X10_partOf
set_option maxRecDepth 20000 in
theorem ggL_law_L_hasAb : GoodIn wsL_law wsL_hasAb := goodIn_r _ [936, 754, 755, 134, 756, 300, 301, 302, 303, 757, 758, 759] (by decide +kernel) (by decide +kernel)
set_option maxRecDepth 20000 in
theorem gL_law_L_hasAb : GoodIn wsL_law (va_wsS RL 263 yL_hasAb wsL_hasAb) := goodIn_app (goodIn_of _ (by decide +kernel)) ggL_law_L_hasAb
set_option maxRecDepth 20000 in
theorem ggL_law_X10_state : GoodIn wsL_law wsX10_state := goodIn_r _ [940, 29, 941, 942, 943, 2, 944, 773, 774, 945, 862, 863, 28, 864, 675, 83, 87, 865, 780, 781, 40, 782, 589, 635, 636, 1058, 1059, 1060, 1061, 1062, 1063, 1064, 1065, 1066, 1067, 1068, 1091, 1092, 1093, 1094, 1095, 1096, 1097, 1098, 1099, 1100, 1101, 1102, 1103, 1104, 1105, 1106, 1069, 1070, 1071, 1072, 1073, 1074, 1075, 1076, 1077, 1078, 1079, 1080, 1081, 1082, 1083, 1084, 1107, 1108] (by decide +kernel) (by decide +kernel)
set_option maxRecDepth 20000 in
theorem gL_law_X10_state : GoodIn wsL_law (wsV RL 266 RX10 yX10_state wsX10_state) := goodIn_app (goodIn_of _ (by decide +kernel)) ggL_law_X10_state
set_option maxRecDepth 20000 in
theorem ggL_law_X10_classOf : GoodIn wsL_law wsX10_classOf := goodIn_r _ [949, 29, 941, 942, 943, 2, 944, 773, 774, 945, 862, 863, 28, 864, 675, 83, 87, 865, 780, 781, 40, 782, 589, 635, 636, 950, 951, 952, 953, 88, 1058, 1059, 1060, 1061, 1062, 1063, 1064, 1065, 1066, 1067, 1068, 1091, 1092, 1093, 1094, 1095, 1096, 1097, 1098, 1099, 1100, 1101, 1102, 1103, 1104, 1105, 1106, 1069, 1070, 1071, 1072, 1073, 1074, 1075, 1076, 1077, 1078, 1079, 1080, 1081, 1082, 1083, 1084, 1107, 1108] (by decide +kernel) (by decide +kernel)
set_option maxRecDepth 20000 in
theorem gL_law_X10_classOf : GoodIn wsL_law (wsV RL 269 RX10 yX10_classOf wsX10_classOf) := goodIn_app (goodIn_of _ (by decide +kernel)) ggL_law_X10_classOf
set_option maxRecDepth 20000 in
theorem ggL_law_L_special : GoodIn wsL_law wsL_special := goodIn_r _ [768, 300, 301, 134, 302, 303, 333, 334, 335] (by decide +kernel) (by decide +kernel)
set_option maxRecDepth 20000 in
theorem gL_law_L_special : GoodIn wsL_law (va_wsS RL 183 yL_special wsL_special) := goodIn_app (goodIn_of _ (by decide +kernel)) ggL_law_L_special
set_option maxRecDepth 20000 in
theorem ggL_law_L_classOf : GoodIn wsL_law wsL_classOf := goodIn_r _ [373, 333, 334, 134, 335, 300, 301, 302, 303] (by decide +kernel) (by decide +kernel)
set_option maxRecDepth 20000 in
theorem gL_law_L_classOf : GoodIn wsL_law (va_wsS RL 101 yL_classOf wsL_classOf) := goodIn_app (goodIn_of _ (by decide +kernel)) ggL_law_L_classOf
set_option maxRecDepth 20000 in
theorem ggL_law_X10_enteredOn : GoodIn wsL_law wsX10_enteredOn := goodIn_r _ [957, 29, 941, 942, 943, 2, 944, 773, 774, 945, 862, 863, 28, 864, 675, 83, 87, 865, 780, 781, 40, 782, 589, 635, 636, 933, 1058, 1059, 1060, 1061, 1062, 1063, 1064, 1065, 1066, 1067, 1068, 1091, 1092, 1093, 1094, 1095, 1096, 1097, 1098, 1099, 1100, 1101, 1102, 1103, 1104, 1105, 1106, 1069, 1070, 1071, 1072, 1073, 1074, 1075, 1076, 1077, 1078, 1079, 1080, 1081, 1082, 1083, 1084, 1107, 1108] (by decide +kernel) (by decide +kernel)
set_option maxRecDepth 20000 in
theorem gL_law_X10_enteredOn : GoodIn wsL_law (wsV RL 271 RX10 yX10_enteredOn wsX10_enteredOn) := goodIn_app (goodIn_of _ (by decide +kernel)) ggL_law_X10_enteredOn
set_option maxRecDepth 20000 in
theorem ggL_law_X10_readers : GoodIn wsL_law wsX10_readers := goodIn_r _ [961, 29, 928, 929, 930, 2, 931, 773, 774, 962, 963, 964, 28, 965, 83, 861, 862, 863, 864, 675, 87, 865, 780, 781, 40, 782, 589, 635, 636, 1058, 1059, 1060, 1061, 1062, 1063, 1064, 1065, 1066, 1067, 1068, 1091, 1092, 1093, 1094, 1095, 1096, 1097, 1098, 1099, 1100, 1101, 1102, 1103, 1104, 1105, 1106, 1069, 1070, 1071, 1072, 1073, 1074, 1075, 1076, 1077, 1078, 1079, 1080, 1081, 1082, 1083, 1084, 1107, 1108] (by decide +kernel) (by decide +kernel)
set_option maxRecDepth 20000 in
theorem gL_law_X10_readers : GoodIn wsL_law (wsV RL 274 RX10 yX10_readers wsX10_readers) := goodIn_app (goodIn_of _ (by decide +kernel)) ggL_law_X10_readers
set_option maxRecDepth 20000 in
theorem ggL_law_X10_message : GoodIn wsL_law wsX10_message := goodIn_r _ [969, 29, 928, 929, 930, 2, 931, 773, 774, 970, 971, 972, 482, 483, 932, 867, 868, 28, 869, 675, 86, 104, 973, 974, 975, 976, 83, 861, 862, 863, 864, 87, 865, 780, 781, 40, 782, 589, 635, 636, 1058, 1059, 1060, 1061, 1062, 1063, 1064, 1065, 1066, 1067, 1068, 1122, 1123, 1124, 1125, 1126, 1091, 1092, 1093, 1094, 1095, 1096, 1097, 1098, 1099, 1100, 1101, 1102, 1103, 1104, 1105, 1106, 1069, 1070, 1071, 1072, 1073, 1074, 1075, 1076, 1077, 1078, 1079, 1080, 1081, 1082, 1083, 1084, 1107, 1108] (by decide +kernel) (by decide +kernel)
set_option maxRecDepth 20000 in
theorem gL_law_X10_message : GoodIn wsL_law (wsV RL 277 RX10 yX10_message wsX10_message) := goodIn_app (goodIn_of _ (by decide +kernel)) ggL_law_X10_message
set_option maxRecDepth 20000 in
theorem ggL_law_X10_storedParts : GoodIn wsL_law wsX10_storedParts := goodIn_r _ [980, 29, 1058, 1059, 1060, 1061, 1062, 1063, 1064, 1065, 1066, 1067, 1068, 1091, 1092, 1093, 1094, 1095, 1096, 1097, 1098, 1099, 1100, 1101, 1102, 1103, 1104, 1105, 1106, 1109, 1110, 1111, 1112, 1113, 1114, 1115, 1116] (by decide +kernel) (by decide +kernel)
set_option maxRecDepth 20000 in
theorem gL_law_X10_storedParts : GoodIn wsL_law (wsV RL 280 RX10 yX10_storedParts wsX10_storedParts) := goodIn_app (goodIn_of _ (by decide +kernel)) ggL_law_X10_storedParts
set_option maxRecDepth 20000 in
theorem ggL_law_X10_storedBytes : GoodIn wsL_law wsX10_storedBytes := goodIn_r _ [984, 29, 985, 802, 803, 92, 804, 684, 805, 806, 807, 808, 113, 809, 810, 811, 812, 635, 2, 636, 813, 814, 815, 816, 110, 114, 1058, 1059, 1060, 1061, 1062, 1063, 1064, 1065, 1066, 1067, 1068, 1091, 1092, 1093, 1094, 1095, 1096, 1097, 1098, 1099, 1100, 1101, 1102, 1103, 1104, 1105, 1106, 1109, 1110, 1111, 1112, 1113, 1114, 1115, 1116, 1085, 1086] (by decide +kernel) (by decide +kernel)
set_option maxRecDepth 20000 in
theorem gL_law_X10_storedBytes : GoodIn wsL_law (wsV RL 283 RX10 yX10_storedBytes wsX10_storedBytes) := goodIn_app (goodIn_of _ (by decide +kernel)) ggL_law_X10_storedBytes
set_option maxRecDepth 20000 in
theorem ggL_law_X10_deadBytes : GoodIn wsL_law wsX10_deadBytes := goodIn_r _ [989, 29, 985, 802, 803, 92, 804, 684, 805, 806, 807, 808, 113, 809, 810, 811, 812, 635, 2, 636, 813, 814, 815, 816, 110, 114, 1058, 1059, 1060, 1061, 1062, 1063, 1064, 1065, 1066, 1067, 1068, 1091, 1092, 1093, 1094, 1095, 1096, 1097, 1098, 1099, 1100, 1101, 1102, 1103, 1104, 1105, 1106, 1109, 1110, 1111, 1112, 1113, 1114, 1115, 1116, 1085, 1086] (by decide +kernel) (by decide +kernel)
set_option maxRecDepth 20000 in
theorem gL_law_X10_deadBytes : GoodIn wsL_law (wsV RL 286 RX10 yX10_deadBytes wsX10_deadBytes) := goodIn_app (goodIn_of _ (by decide +kernel)) ggL_law_X10_deadBytes
set_option maxRecDepth 20000 in
theorem ggL_law_X10_messageCount : GoodIn wsL_law wsX10_messageCount := goodIn_r _ [993, 29, 1058, 1059, 1060, 1061, 1062, 1063, 1064, 1065, 1066, 1067, 1068, 1091, 1092, 1093, 1094, 1095, 1096, 1097, 1098, 1099, 1100, 1101, 1102, 1103, 1104, 1105, 1106] (by decide +kernel) (by decide +kernel)
set_option maxRecDepth 20000 in
theorem gL_law_X10_messageCount : GoodIn wsL_law (wsV RL 289 RX10 yX10_messageCount wsX10_messageCount) := goodIn_app (goodIn_of _ (by decide +kernel)) ggL_law_X10_messageCount
set_option maxRecDepth 20000 in
theorem ggL_law_X10_eventCount : GoodIn wsL_law wsX10_eventCount := goodIn_r _ [997, 29, 1058, 1059, 1060, 1061, 1062, 1063, 1064, 1065, 1066, 1067, 1068, 1091, 1092, 1093, 1094, 1095, 1096, 1097, 1098, 1099, 1100, 1101, 1102, 1103, 1104, 1105, 1106, 1117, 1118, 1119, 1120, 1121] (by decide +kernel) (by decide +kernel)
set_option maxRecDepth 20000 in
theorem gL_law_X10_eventCount : GoodIn wsL_law (wsV RL 292 RX10 yX10_eventCount wsX10_eventCount) := goodIn_app (goodIn_of _ (by decide +kernel)) ggL_law_X10_eventCount
set_option maxRecDepth 20000 in
theorem ggL_law_J0_charAt_5068e : GoodIn wsL_law wsJ0_charAt_5068e := goodIn_r _ [451, 159, 452, 453, 454, 157, 455, 164, 165, 456, 457, 277, 458, 459, 354, 355, 250, 356, 357, 253, 358, 460, 461, 169, 462, 350, 351, 352, 244, 245, 246, 353, 433, 434, 435, 240, 258, 259, 1131, 1132, 1133, 1134] (by decide +kernel) (by decide +kernel)
set_option maxRecDepth 20000 in
theorem gL_law_J0_charAt_5068e : GoodIn wsL_law (wsV RL 14 RJ0 yJ0_charAt_5068e wsJ0_charAt_5068e) := goodIn_app (goodIn_of _ (by decide +kernel)) ggL_law_J0_charAt_5068e
set_option maxRecDepth 20000 in
theorem ggL_law_X10_digest : GoodIn wsL_law wsX10_digest := goodIn_r _ [1001, 29, 1002, 1003, 1004, 2, 1005, 773, 774, 1006, 810, 811, 92, 812, 684, 113, 635, 636, 1007, 814, 815, 816, 110, 114, 1008, 1009, 1010, 18, 1011, 1012, 477, 1013, 841, 524, 525, 526, 71, 1058, 1059, 1060, 1061, 1062, 1063, 1064, 1065, 1066, 1067, 1068, 1091, 1092, 1093, 1094, 1095, 1096, 1097, 1098, 1099, 1100, 1101, 1102, 1103, 1104, 1105, 1106, 1109, 1110, 1111, 1112, 1113, 1114, 1115, 1116, 1085, 1086] (by decide +kernel) (by decide +kernel)
set_option maxRecDepth 20000 in
theorem gL_law_X10_digest : GoodIn wsL_law (wsV RL 299 RX10 yX10_digest wsX10_digest) := goodIn_app (goodIn_of _ (by decide +kernel)) ggL_law_X10_digest
set_option maxRecDepth 20000 in
theorem ggL_law_X10_part : GoodIn wsL_law wsX10_part := goodIn_r _ [1017, 29, 1002, 1003, 1004, 2, 1005, 773, 774, 1006, 810, 811, 92, 812, 684, 113, 635, 636, 970, 971, 972, 482, 483, 1007, 814, 815, 816, 110, 114, 933, 1058, 1059, 1060, 1061, 1062, 1063, 1064, 1065, 1066, 1067, 1068, 1091, 1092, 1093, 1094, 1095, 1096, 1097, 1098, 1099, 1100, 1101, 1102, 1103, 1104, 1105, 1106, 1085, 1086, 1109, 1110, 1111, 1112, 1113, 1114, 1115, 1116] (by decide +kernel) (by decide +kernel)
set_option maxRecDepth 20000 in
theorem gL_law_X10_part : GoodIn wsL_law (wsV RL 303 RX10 yX10_part wsX10_part) := goodIn_app (goodIn_of _ (by decide +kernel)) ggL_law_X10_part
set_option maxRecDepth 20000 in
theorem ggL_law_L_feed : GoodIn wsL_law wsL_feed := goodIn_r _ [442, 443, 225, 62, 226, 444, 155, 156, 157, 158, 159, 160, 161, 162, 163, 164, 165, 445, 446, 134, 447, 448, 449, 450, 451, 452, 453, 454, 455, 456, 457, 277, 458, 459, 354, 355, 250, 356, 357, 253, 358, 460, 461, 169, 462, 350, 351, 352, 244, 245, 246, 353, 433, 434, 435, 240, 258, 259, 463, 464, 465, 2, 466, 467, 468, 19, 469, 470, 471, 18, 472, 473, 474, 475, 476, 477, 71, 478, 479, 480, 481, 482, 483, 484, 485, 486, 487, 1131, 1132, 1133, 1134, 1058, 1059, 1060, 1061, 1062, 1063, 1064, 1065, 1066, 1067, 1068, 1085, 1086] (by decide +kernel) (by decide +kernel)
set_option maxRecDepth 20000 in
theorem gL_law_L_feed : GoodIn wsL_law (va_wsS RL 138 yL_feed wsL_feed) := goodIn_app (goodIn_of _ (by decide +kernel)) ggL_law_L_feed
set_option maxRecDepth 20000 in
theorem ggL_law_X10_usage : GoodIn wsL_law wsX10_usage := goodIn_r _ [1021, 29, 775, 776, 777, 2, 778, 773, 774, 779, 780, 781, 40, 782, 589, 1022, 858, 859, 28, 860, 675, 861, 862, 863, 864, 83, 87, 865, 635, 636, 866, 867, 868, 869, 86, 104, 1058, 1059, 1060, 1061, 1062, 1063, 1064, 1065, 1066, 1067, 1068, 1091, 1092, 1093, 1094, 1095, 1096, 1097, 1098, 1099, 1100, 1101, 1102, 1103, 1104, 1105, 1106, 1069, 1070, 1071, 1072, 1073, 1074, 1075, 1076, 1077, 1078, 1079, 1080, 1081, 1082, 1083, 1084, 1107, 1108, 1122, 1123, 1124, 1125, 1126] (by decide +kernel) (by decide +kernel)
set_option maxRecDepth 20000 in
theorem gL_law_X10_usage : GoodIn wsL_law (wsV RL 305 RX10 yX10_usage wsX10_usage) := goodIn_app (goodIn_of _ (by decide +kernel)) ggL_law_X10_usage
set_option maxRecDepth 20000 in
theorem ggL_law_X10_matches : GoodIn wsL_law wsX10_matches := goodIn_r _ [1026, 482, 483, 19, 29, 775, 776, 777, 2, 778, 773, 774, 779, 780, 781, 40, 782, 589, 1027, 1028, 1029, 18, 1030, 477, 1031, 841, 524, 525, 526, 71, 530, 531, 536, 537, 538, 539, 540, 484, 485, 486, 487, 1032, 1033, 1034, 28, 1035, 675, 861, 862, 863, 864, 83, 87, 865, 635, 636, 901, 902, 903, 904, 93, 866, 867, 868, 869, 86, 104, 905, 814, 815, 92, 816, 684, 110, 114, 906, 907, 908, 909, 1058, 1059, 1060, 1061, 1062, 1063, 1064, 1065, 1066, 1067, 1068, 1091, 1092, 1093, 1094, 1095, 1096, 1097, 1098, 1099, 1100, 1101, 1102, 1103, 1104, 1105, 1106, 1069, 1070, 1071, 1072, 1073, 1074, 1075, 1076, 1077, 1078, 1079, 1080, 1081, 1082, 1083, 1084, 1107, 1108, 1085, 1086, 1122, 1123, 1124, 1125, 1126, 1109, 1110, 1111, 1112, 1113, 1114, 1115, 1116] (by decide +kernel) (by decide +kernel)
set_option maxRecDepth 20000 in
theorem gL_law_X10_matches : GoodIn wsL_law (wsV RL 308 RX10 yX10_matches wsX10_matches) := goodIn_app (goodIn_of _ (by decide +kernel)) ggL_law_X10_matches
set_option maxRecDepth 20000 in
theorem ggL_law_X10_commonBytes : GoodIn wsL_law wsX10_commonBytes := goodIn_r _ [1039, 29, 32, 775, 776, 777, 2, 778, 773, 774, 779, 780, 781, 40, 782, 589, 1040, 1041, 1042, 28, 1043, 675, 1044, 1045, 216, 1046, 1047, 963, 964, 965, 83, 861, 862, 863, 864, 87, 865, 635, 636, 866, 867, 868, 869, 86, 104, 615, 616, 1048, 855, 856, 1007, 814, 815, 92, 816, 684, 110, 114, 1058, 1059, 1060, 1061, 1062, 1063, 1064, 1065, 1066, 1067, 1068, 1091, 1092, 1093, 1094, 1095, 1096, 1097, 1098, 1099, 1100, 1101, 1102, 1103, 1104, 1105, 1106, 1085, 1086, 1069, 1070, 1071, 1072, 1073, 1074, 1075, 1076, 1077, 1078, 1079, 1080, 1081, 1082, 1083, 1084, 1107, 1108, 1122, 1123, 1124, 1125, 1126, 1109, 1110, 1111, 1112, 1113, 1114, 1115, 1116] (by decide +kernel) (by decide +kernel)
set_option maxRecDepth 20000 in
theorem gL_law_X10_commonBytes : GoodIn wsL_law (wsV RL 311 RX10 yX10_commonBytes wsX10_commonBytes) := goodIn_app (goodIn_of _ (by decide +kernel)) ggL_law_X10_commonBytes
set_option maxRecDepth 20000 in
theorem ggL_law_X10_fairShare : GoodIn wsL_law wsX10_fairShare := goodIn_r _ [1052, 29, 32, 775, 776, 777, 2, 778, 773, 774, 779, 780, 781, 40, 782, 589, 1040, 1041, 1042, 28, 1043, 675, 1044, 1045, 216, 1046, 1047, 963, 964, 965, 83, 861, 862, 863, 864, 87, 865, 635, 636, 866, 867, 868, 869, 86, 104, 615, 616, 1053, 919, 314, 920, 921, 922, 923, 1048, 855, 856, 1007, 814, 815, 92, 816, 684, 110, 114, 1058, 1059, 1060, 1061, 1062, 1063, 1064, 1065, 1066, 1067, 1068, 1091, 1092, 1093, 1094, 1095, 1096, 1097, 1098, 1099, 1100, 1101, 1102, 1103, 1104, 1105, 1106, 1085, 1086, 1069, 1070, 1071, 1072, 1073, 1074, 1075, 1076, 1077, 1078, 1079, 1080, 1081, 1082, 1083, 1084, 1107, 1108, 1122, 1123, 1124, 1125, 1126, 1109, 1110, 1111, 1112, 1113, 1114, 1115, 1116] (by decide +kernel) (by decide +kernel)
set_option maxRecDepth 20000 in
theorem gL_law_X10_fairShare : GoodIn wsL_law (wsV RL 314 RX10 yX10_fairShare wsX10_fairShare) := goodIn_app (goodIn_of _ (by decide +kernel)) ggL_law_X10_fairShare
set_option maxRecDepth 20000 in
theorem ggL_law_X10_logicalBytes : GoodIn wsL_law wsX10_logicalBytes := goodIn_r _ [1057, 29, 1022, 858, 859, 28, 860, 675, 861, 862, 863, 864, 83, 87, 865, 780, 781, 40, 782, 589, 635, 2, 636, 866, 867, 868, 869, 86, 104, 1058, 1059, 1060, 1061, 1062, 1063, 1064, 1065, 1066, 1067, 1068, 1091, 1092, 1093, 1094, 1095, 1096, 1097, 1098, 1099, 1100, 1101, 1102, 1103, 1104, 1105, 1106, 1069, 1070, 1071, 1072, 1073, 1074, 1075, 1076, 1077, 1078, 1079, 1080, 1081, 1082, 1083, 1084, 1107, 1108, 1122, 1123, 1124, 1125, 1126] (by decide +kernel) (by decide +kernel)
set_option maxRecDepth 20000 in
theorem gL_law_X10_logicalBytes : GoodIn wsL_law (wsV RL 318 RX10 yX10_logicalBytes wsX10_logicalBytes) := goodIn_app (goodIn_of _ (by decide +kernel)) ggL_law_X10_logicalBytes
