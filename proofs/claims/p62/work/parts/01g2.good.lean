set_option maxRecDepth 20000 in
theorem ggX9_byteSum_X9_isStored : GoodIn wsX9_byteSum wsX9_isStored := goodIn_r _ [11, 1, 7, 12, 13, 14, 21, 22, 23, 24, 25, 26, 27, 28] (by decide +kernel) (by decide +kernel)
set_option maxRecDepth 20000 in
theorem gX9_byteSum_X9_isStored : GoodIn wsX9_byteSum (wsV RX9 52 RX9 yX9_isStored wsX9_isStored) := goodIn_app (goodIn_of _ (by decide +kernel)) ggX9_byteSum_X9_isStored
set_option maxRecDepth 20000 in
theorem ggX9_byteSum_X9_bytesOf : GoodIn wsX9_byteSum wsX9_bytesOf := goodIn_r _ [18, 1, 19, 20, 21, 22, 23, 24, 25, 26, 27, 28] (by decide +kernel) (by decide +kernel)
set_option maxRecDepth 20000 in
theorem gX9_byteSum_X9_bytesOf : GoodIn wsX9_byteSum (wsV RX9 59 RX9 yX9_bytesOf wsX9_bytesOf) := goodIn_app (goodIn_of _ (by decide +kernel)) ggX9_byteSum_X9_bytesOf
set_option maxRecDepth 20000 in
theorem ggX9_numberOf_X9_isStored : GoodIn wsX9_numberOf wsX9_isStored := goodIn_r _ [6, 1, 7, 8, 9, 10, 36, 37, 38, 39, 40, 41, 42, 43] (by decide +kernel) (by decide +kernel)
set_option maxRecDepth 20000 in
theorem gX9_numberOf_X9_isStored : GoodIn wsX9_numberOf (wsV RX9 52 RX9 yX9_isStored wsX9_isStored) := goodIn_app (goodIn_of _ (by decide +kernel)) ggX9_numberOf_X9_isStored
set_option maxRecDepth 20000 in
theorem ggX9_numberOf_X9_bytesOf : GoodIn wsX9_numberOf wsX9_bytesOf := goodIn_r _ [14, 1, 15, 16, 36, 37, 38, 39, 40, 41, 42, 43] (by decide +kernel) (by decide +kernel)
set_option maxRecDepth 20000 in
theorem gX9_numberOf_X9_bytesOf : GoodIn wsX9_numberOf (wsV RX9 59 RX9 yX9_bytesOf wsX9_bytesOf) := goodIn_app (goodIn_of _ (by decide +kernel)) ggX9_numberOf_X9_bytesOf
set_option maxRecDepth 20000 in
theorem ggX9_numberOf_X1_isEqualTo : GoodIn wsX9_numberOf wsX1_isEqualTo := goodIn_r _ [21, 22, 23, 24, 8, 9, 10, 25, 26, 27, 28, 29, 30, 31, 32, 33, 34, 35, 44, 45, 46, 47, 48, 49] (by decide +kernel) (by decide +kernel)
set_option maxRecDepth 20000 in
theorem gX9_numberOf_X1_isEqualTo : GoodIn wsX9_numberOf (wsV RX9 66 RX1 yX1_isEqualTo wsX1_isEqualTo) := goodIn_app (goodIn_of _ (by decide +kernel)) ggX9_numberOf_X1_isEqualTo
set_option maxRecDepth 20000 in
theorem ggX9_bytesWith_X9_byteSum : GoodIn wsX9_bytesWith wsX9_byteSum := goodIn_r _ [5, 6, 7, 8, 9, 4, 10, 11, 12, 13, 14, 15, 16, 17, 18, 19, 20, 21, 22, 23, 24, 66, 67, 68, 69, 70, 71, 72, 73, 74, 75] (by decide +kernel) (by decide +kernel)
set_option maxRecDepth 20000 in
theorem gX9_bytesWith_X9_byteSum : GoodIn wsX9_bytesWith (wsV RX9 72 RX9 yX9_byteSum wsX9_byteSum) := goodIn_app (goodIn_of _ (by decide +kernel)) ggX9_bytesWith_X9_byteSum
set_option maxRecDepth 20000 in
theorem ggX9_bytesWith_X1_isFirstOfItsKind : GoodIn wsX9_bytesWith wsX1_isFirstOfItsKind := goodIn_r _ [29, 30, 31, 32, 28, 33, 34, 35, 36, 37, 38, 39, 40, 16, 17, 18, 41, 42, 43, 44, 45, 46, 47, 62, 63, 64, 65, 74, 75] (by decide +kernel) (by decide +kernel)
set_option maxRecDepth 20000 in
theorem gX9_bytesWith_X1_isFirstOfItsKind : GoodIn wsX9_bytesWith (wsV RX9 79 RX1 yX1_isFirstOfItsKind wsX1_isFirstOfItsKind) := goodIn_app (goodIn_of _ (by decide +kernel)) ggX9_bytesWith_X1_isFirstOfItsKind
set_option maxRecDepth 20000 in
theorem ggX9_bytesWith_X9_numberOf : GoodIn wsX9_bytesWith wsX9_numberOf := goodIn_r _ [51, 6, 12, 13, 14, 4, 15, 11, 16, 17, 18, 19, 20, 21, 22, 23, 24, 52, 53, 54, 28, 55, 34, 35, 40, 56, 57, 58, 44, 59, 46, 60, 42, 43, 45, 47, 66, 67, 68, 69, 70, 71, 72, 73, 62, 63, 64, 65, 74, 75] (by decide +kernel) (by decide +kernel)
set_option maxRecDepth 20000 in
theorem gX9_bytesWith_X9_numberOf : GoodIn wsX9_bytesWith (wsV RX9 82 RX9 yX9_numberOf wsX9_numberOf) := goodIn_app (goodIn_of _ (by decide +kernel)) ggX9_bytesWith_X9_numberOf
set_option maxRecDepth 20000 in
theorem ggX9_bytesWith_X1_sizeAt : GoodIn wsX9_bytesWith wsX1_sizeAt := goodIn_r _ [39, 40, 35, 16, 17, 18, 62, 63, 64, 65] (by decide +kernel) (by decide +kernel)
set_option maxRecDepth 20000 in
theorem gX9_bytesWith_X1_sizeAt : GoodIn wsX9_bytesWith (wsV RX9 86 RX1 yX1_sizeAt wsX1_sizeAt) := goodIn_app (goodIn_of _ (by decide +kernel)) ggX9_bytesWith_X1_sizeAt
set_option maxRecDepth 20000 in
theorem ggX9_numberFor_X9_numberOf : GoodIn wsX9_numberFor wsX9_numberOf := goodIn_r _ [11, 1, 12, 13, 14, 10, 15, 5, 16, 17, 18, 19, 20, 21, 22, 2, 23, 24, 25, 26, 27, 28, 29, 30, 31, 32, 33, 34, 35, 36, 37, 38, 39, 40, 41, 42, 74, 75, 76, 77, 78, 79, 80, 81, 82, 83, 84, 85, 86, 87] (by decide +kernel) (by decide +kernel)
set_option maxRecDepth 20000 in
theorem gX9_numberFor_X9_numberOf : GoodIn wsX9_numberFor (wsV RX9 82 RX9 yX9_numberOf wsX9_numberOf) := goodIn_app (goodIn_of _ (by decide +kernel)) ggX9_numberFor_X9_numberOf
set_option maxRecDepth 20000 in
theorem ggX9_numberFor_X1_copyOfPlace : GoodIn wsX9_numberFor wsX1_copyOfPlace := goodIn_r _ [46, 47, 48, 35, 29, 30, 31, 49, 50, 51, 27, 52, 16, 17, 18, 53, 54, 55, 56, 57, 58, 59, 60, 61, 62, 63, 42, 64, 65, 66, 67, 38, 39, 40, 41, 37, 68, 69, 70, 71, 86, 87, 82, 83, 84, 85] (by decide +kernel) (by decide +kernel)
set_option maxRecDepth 20000 in
theorem gX9_numberFor_X1_copyOfPlace : GoodIn wsX9_numberFor (wsV RX9 90 RX1 yX1_copyOfPlace wsX1_copyOfPlace) := goodIn_app (goodIn_of _ (by decide +kernel)) ggX9_numberFor_X1_copyOfPlace
set_option maxRecDepth 20000 in
theorem ggX9_numberFor_X10_put : GoodIn wsX9_numberFor wsX10_put := goodIn_r _ [73] (by decide +kernel) (by decide +kernel)
set_option maxRecDepth 20000 in
theorem gX9_numberFor_X10_put_n93 : GoodIn wsX9_numberFor (wsX10_put) := ggX9_numberFor_X10_put
set_option maxRecDepth 20000 in
theorem ggX9_addKeeper_X10_at : GoodIn wsX9_addKeeper wsX10_at := goodIn_r _ [6] (by decide +kernel) (by decide +kernel)
set_option maxRecDepth 20000 in
theorem gX9_addKeeper_X10_at_n48 : GoodIn wsX9_addKeeper (wsX10_at) := ggX9_addKeeper_X10_at
set_option maxRecDepth 20000 in
theorem ggX9_addKeeper_X10_put : GoodIn wsX9_addKeeper wsX10_put := goodIn_r _ [8] (by decide +kernel) (by decide +kernel)
set_option maxRecDepth 20000 in
theorem gX9_addKeeper_X10_put_n93 : GoodIn wsX9_addKeeper (wsX10_put) := ggX9_addKeeper_X10_put
set_option maxRecDepth 20000 in
theorem ggX9_addKeeper_X9_isDead : GoodIn wsX9_addKeeper wsX9_isDead := goodIn_r _ [13, 2, 14, 15, 16, 12, 17, 18, 4, 5, 6, 19, 20, 21, 22, 23, 24, 25, 26] (by decide +kernel) (by decide +kernel)
set_option maxRecDepth 20000 in
theorem gX9_addKeeper_X9_isDead : GoodIn wsX9_addKeeper (wsV RX9 56 RX9 yX9_isDead wsX9_isDead) := goodIn_app (goodIn_of _ (by decide +kernel)) ggX9_addKeeper_X9_isDead
set_option maxRecDepth 20000 in
theorem ggX10_init_X7_init : GoodIn wsX10_init wsX7_init := goodIn_r _ [27, 28, 2, 3, 29, 30, 31, 32, 33, 23, 34, 35, 36, 37, 38, 39, 40, 41, 42, 43, 44, 45, 46, 47, 48, 49, 50, 51, 52, 53, 54, 55, 56, 124, 125, 126, 127, 128, 129, 130, 131, 132, 133, 134, 135, 136, 137, 138, 139, 173, 174] (by decide +kernel) (by decide +kernel)
set_option maxRecDepth 20000 in
theorem gX10_init_X7_init : GoodIn wsX10_init (wsX7_init) := ggX10_init_X7_init
set_option maxRecDepth 20000 in
theorem ggX10_init_X0_init : GoodIn wsX10_init wsX0_init := goodIn_r _ [59, 60, 2, 3, 61, 53, 54, 55, 62, 63, 140, 141] (by decide +kernel) (by decide +kernel)
set_option maxRecDepth 20000 in
theorem gX10_init_X0_init : GoodIn wsX10_init (wsX0_init) := ggX10_init_X0_init
set_option maxRecDepth 20000 in
theorem ggX10_init_X1_init : GoodIn wsX10_init wsX1_init := goodIn_r _ [66, 67, 2, 3, 68, 23, 69, 70, 153, 154, 155, 156] (by decide +kernel) (by decide +kernel)
set_option maxRecDepth 20000 in
theorem gX10_init_X1_init : GoodIn wsX10_init (wsX1_init) := ggX10_init_X1_init
set_option maxRecDepth 20000 in
theorem ggX10_init_X8_init : GoodIn wsX10_init wsX8_init := goodIn_r _ [73, 74, 2, 3, 75, 23, 76, 77, 78, 79, 80, 81, 82, 83, 84, 85, 86, 87, 88, 89, 90, 91, 92, 93, 94, 95, 96, 97, 98, 99, 100, 101, 102, 103, 104, 105, 8, 9, 106, 107, 58, 59, 60, 61, 53, 54, 55, 62, 63, 108, 109, 110, 111, 112, 113, 114, 115, 116, 117, 118, 119, 120, 121, 122, 123, 157, 158, 159, 160, 161, 162, 163, 164, 165, 166, 167, 168, 169, 170, 171, 172, 175, 176, 177, 178, 179, 180, 181, 182, 183, 184, 185, 186, 187, 188, 189, 190, 191, 192, 140, 141] (by decide +kernel) (by decide +kernel)
set_option maxRecDepth 20000 in
theorem gX10_init_X8_init : GoodIn wsX10_init (wsX8_init) := ggX10_init_X8_init
set_option maxRecDepth 20000 in
theorem ggX10_append_X0_addFour : GoodIn wsX10_append wsX0_addFour := goodIn_r _ [8, 9, 10, 11, 7, 12, 13, 14, 26, 27] (by decide +kernel) (by decide +kernel)
set_option maxRecDepth 20000 in
theorem gX10_append_X0_addFour : GoodIn wsX10_append (wsV RX10 67 RX0 yX0_addFour wsX0_addFour) := goodIn_app (goodIn_of _ (by decide +kernel)) ggX10_append_X0_addFour
set_option maxRecDepth 20000 in
theorem ggX10_truncate_X0_cutTo : GoodIn wsX10_truncate wsX0_cutTo := goodIn_r _ [8, 9, 21, 22] (by decide +kernel) (by decide +kernel)
set_option maxRecDepth 20000 in
theorem gX10_truncate_X0_cutTo : GoodIn wsX10_truncate (wsV RX10 75 RX0 yX0_cutTo wsX0_cutTo) := goodIn_app (goodIn_of _ (by decide +kernel)) ggX10_truncate_X0_cutTo
set_option maxRecDepth 20000 in
theorem ggX10_load_X6_init : GoodIn wsX10_load wsX6_init := goodIn_r _ [10, 11, 12, 13, 14, 15, 16, 17, 18, 19, 20, 21, 22, 23, 24, 25, 26, 27, 28, 29, 30, 31, 32, 33, 34, 35, 36, 37, 38, 39, 40, 41, 42, 43, 44, 45, 46, 47, 48, 49, 50, 51, 52, 289, 290, 291, 292, 293, 294, 295, 296, 297, 298, 326, 327, 328, 329, 330, 331, 332, 333, 334, 335, 336, 337, 338, 339, 340, 341, 342, 343] (by decide +kernel) (by decide +kernel)
set_option maxRecDepth 20000 in
theorem gX10_load_X6_init : GoodIn wsX10_load (wsX6_init) := ggX10_load_X6_init
set_option maxRecDepth 20000 in
theorem ggX10_load_X6_parse : GoodIn wsX10_load wsX6_parse := goodIn_r _ [56, 14, 57, 58, 59, 60, 61, 62, 63, 64, 65, 3, 66, 67, 68, 69, 70, 71, 72, 73, 74, 75, 76, 77, 78, 79, 80, 81, 82, 83, 84, 85, 86, 87, 88, 89, 90, 91, 92, 93, 94, 95, 96, 97, 98, 99, 100, 101, 50, 102, 103, 104, 105, 106, 107, 108, 18, 109, 110, 111, 112, 113, 114, 115, 116, 117, 118, 19, 119, 120, 121, 122, 123, 124, 125, 126, 127, 128, 129, 130, 131, 132, 133, 134, 135, 136, 137, 138, 139, 140, 141, 27, 142, 143, 52, 144, 145, 146, 147, 148, 149, 150, 151, 152, 153, 154, 155, 156, 157, 158, 159, 160, 161, 162, 163, 17, 164, 28, 30, 31, 32, 165, 166, 167, 168, 169, 170, 171, 172, 173, 174, 175, 176, 177, 178, 179, 180, 33, 34, 35, 181, 182, 183, 184, 185, 186, 187, 188, 189, 190, 191, 192, 193, 194, 37, 36, 195, 196, 197, 198, 199, 200, 201, 202, 203, 204, 205, 206, 207, 208, 209, 210, 211, 38, 39, 40, 41, 43, 289, 290, 291, 292, 293, 294, 295, 296, 297, 298, 344, 345, 326, 327, 328, 329, 330, 331, 332, 333, 334, 335, 336, 337, 338, 339, 340, 341, 342, 343] (by decide +kernel) (by decide +kernel)
set_option maxRecDepth 20000 in
theorem gX10_load_X6_parse : GoodIn wsX10_load (wsV RX10 81 RX6 yX6_parse wsX6_parse) := goodIn_app (goodIn_of _ (by decide +kernel)) ggX10_load_X6_parse
set_option maxRecDepth 20000 in
theorem ggX10_load_X0_cutTo : GoodIn wsX10_load wsX0_cutTo := goodIn_r _ [215, 76, 344, 345] (by decide +kernel) (by decide +kernel)
set_option maxRecDepth 20000 in
theorem gX10_load_X0_cutTo : GoodIn wsX10_load (wsV RX10 75 RX0 yX0_cutTo wsX0_cutTo) := goodIn_app (goodIn_of _ (by decide +kernel)) ggX10_load_X0_cutTo
set_option maxRecDepth 20000 in
theorem ggX10_load_X10_remember : GoodIn wsX10_load wsX10_remember := goodIn_r _ [219, 220, 221, 7, 222, 223, 224, 82, 225, 226, 227, 228, 229, 230, 231, 232, 233, 234, 235, 236, 237, 238, 239, 240, 241, 242, 243, 244, 245, 246, 101, 50, 102, 247, 248, 249, 250, 251, 252, 253, 254, 255, 256, 257, 258, 259, 260, 261, 262, 263, 264, 265, 266, 267, 268, 269, 270, 271, 272, 299, 300, 301, 302, 303, 304, 305, 306, 307, 308, 309, 310, 311, 312, 313, 314, 315, 316, 317, 318, 319, 320, 321, 322, 323, 324, 325, 346, 347, 348, 349, 350, 351, 352, 353, 354, 355, 356, 357, 358] (by decide +kernel) (by decide +kernel)
set_option maxRecDepth 20000 in
theorem gX10_load_X10_remember : GoodIn wsX10_load (wsV RX10 94 RX10 yX10_remember wsX10_remember) := goodIn_app (goodIn_of _ (by decide +kernel)) ggX10_load_X10_remember
set_option maxRecDepth 20000 in
theorem ggX10_load_X8_startWith : GoodIn wsX10_load wsX8_startWith := goodIn_r _ [276, 232, 233, 234, 235, 236, 237, 242, 243, 277, 278, 279, 17, 280, 38, 244, 82, 245, 246, 101, 50, 102, 247, 248, 249, 250, 281, 282, 283, 254, 284, 256, 257, 258, 285, 286, 287, 266, 288, 271, 272, 310, 311, 312, 313, 314, 315, 316, 317, 318, 319, 320, 321, 322, 323, 324, 325, 326, 327, 328, 329, 330, 331, 332, 333, 334, 335, 336, 337, 338, 339, 340, 341, 342, 343, 346, 347, 348, 349, 350, 351, 352, 353, 354, 355, 356, 357, 358] (by decide +kernel) (by decide +kernel)
set_option maxRecDepth 20000 in
theorem gX10_load_X8_startWith : GoodIn wsX10_load (wsV RX10 101 RX8 yX8_startWith wsX8_startWith) := goodIn_app (goodIn_of _ (by decide +kernel)) ggX10_load_X8_startWith
set_option maxRecDepth 20000 in
theorem ggX10_count_X10_needKind : GoodIn wsX10_count wsX10_needKind := goodIn_r _ [5, 6, 7] (by decide +kernel) (by decide +kernel)
set_option maxRecDepth 20000 in
theorem gX10_count_X10_needKind : GoodIn wsX10_count (va_wsS RX10 112 yX10_needKind wsX10_needKind) := goodIn_app (goodIn_of _ (by decide +kernel)) ggX10_count_X10_needKind
set_option maxRecDepth 20000 in
theorem ggX10_count_X7_namesOf : GoodIn wsX10_count wsX7_namesOf := goodIn_r _ [12, 13, 14, 15, 16, 46, 47, 48, 49, 50, 51, 52, 53, 54, 55, 56, 57, 58, 59, 60, 61] (by decide +kernel) (by decide +kernel)
set_option maxRecDepth 20000 in
theorem gX10_count_X7_namesOf : GoodIn wsX10_count (wsV RX10 115 RX7 yX7_namesOf wsX7_namesOf) := goodIn_app (goodIn_of _ (by decide +kernel)) ggX10_count_X7_namesOf
set_option maxRecDepth 20000 in
theorem ggX10_deliver_X10_needUser : GoodIn wsX10_deliver wsX10_needUser := goodIn_r _ [14, 1, 2, 7, 15, 16, 17, 18, 19, 20, 269, 270, 271, 272, 273, 274, 275, 276, 277, 278, 279, 280, 281, 282, 283, 284, 285, 286, 287, 288, 289, 290, 291, 292, 293, 294, 295, 296, 297, 298, 299, 300, 301, 302, 303, 304, 305, 306, 307, 308, 309, 310, 311, 312, 313] (by decide +kernel) (by decide +kernel)
set_option maxRecDepth 20000 in
theorem gX10_deliver_X10_needUser : GoodIn wsX10_deliver (wsV RX10 169 RX10 yX10_needUser wsX10_needUser) := goodIn_app (goodIn_of _ (by decide +kernel)) ggX10_deliver_X10_needUser
set_option maxRecDepth 20000 in
theorem ggX10_deliver_X10_needClass : GoodIn wsX10_deliver wsX10_needClass := goodIn_r _ [24, 1, 2, 7, 15, 16, 17, 18, 19, 20, 269, 270, 271, 272, 273, 274, 275, 276, 277, 278, 279, 280, 281, 282, 283, 284, 285, 286, 287, 288, 289, 290, 291, 292, 293, 294, 295, 296, 297, 298, 299, 300, 301, 302, 303, 304, 305, 306, 307, 308, 309, 310, 311, 312, 313] (by decide +kernel) (by decide +kernel)
set_option maxRecDepth 20000 in
theorem gX10_deliver_X10_needClass : GoodIn wsX10_deliver (wsV RX10 146 RX10 yX10_needClass wsX10_needClass) := goodIn_app (goodIn_of _ (by decide +kernel)) ggX10_deliver_X10_needClass
set_option maxRecDepth 20000 in
theorem ggX10_deliver_X7_allUsers : GoodIn wsX10_deliver wsX7_allUsers := goodIn_r _ [29, 30, 296, 297, 298, 299, 300, 301, 302, 303, 304, 305, 306, 307, 308, 309, 310, 311, 312, 313] (by decide +kernel) (by decide +kernel)
set_option maxRecDepth 20000 in
theorem gX10_deliver_X7_allUsers : GoodIn wsX10_deliver (wsV RX10 172 RX7 yX7_allUsers wsX7_allUsers) := goodIn_app (goodIn_of _ (by decide +kernel)) ggX10_deliver_X7_allUsers
set_option maxRecDepth 20000 in
theorem ggX10_deliver_X1_cut : GoodIn wsX10_deliver wsX1_cut := goodIn_r _ [35, 36, 37, 38, 39, 40, 41, 42, 43, 44, 45, 46, 47, 13, 48, 314, 315, 316, 317, 318, 319] (by decide +kernel) (by decide +kernel)
set_option maxRecDepth 20000 in
theorem gX10_deliver_X1_cut : GoodIn wsX10_deliver (wsV RX10 178 RX1 yX1_cut wsX1_cut) := goodIn_app (goodIn_of _ (by decide +kernel)) ggX10_deliver_X1_cut
set_option maxRecDepth 20000 in
theorem ggX10_deliver_X9_bytesWith : GoodIn wsX10_deliver wsX9_bytesWith := goodIn_r _ [53, 54, 55, 56, 52, 57, 58, 59, 60, 61, 62, 63, 64, 65, 66, 67, 68, 13, 69, 70, 71, 72, 73, 74, 75, 76, 77, 78, 34, 79, 80, 81, 82, 83, 37, 38, 84, 85, 86, 87, 39, 40, 41, 42, 43, 44, 45, 46, 88, 89, 90, 91, 92, 93, 94, 95, 96, 97, 98, 99, 100, 101, 314, 315, 316, 317, 320, 321, 322, 323, 324, 325, 326, 327, 318, 319] (by decide +kernel) (by decide +kernel)
set_option maxRecDepth 20000 in
theorem gX10_deliver_X9_bytesWith : GoodIn wsX10_deliver (wsV RX10 190 RX9 yX9_bytesWith wsX9_bytesWith) := goodIn_app (goodIn_of _ (by decide +kernel)) ggX10_deliver_X9_bytesWith
set_option maxRecDepth 20000 in
theorem ggX10_deliver_X10_remember : GoodIn wsX10_deliver wsX10_remember := goodIn_r _ [105, 106, 107, 7, 108, 109, 110, 13, 111, 112, 113, 114, 115, 116, 117, 118, 119, 120, 121, 122, 123, 124, 125, 126, 127, 128, 129, 130, 131, 132, 133, 134, 135, 136, 137, 138, 139, 140, 141, 142, 52, 143, 58, 144, 145, 74, 146, 147, 63, 148, 149, 150, 151, 152, 153, 154, 155, 156, 157, 269, 270, 271, 272, 273, 274, 275, 276, 277, 278, 279, 280, 281, 282, 283, 284, 285, 286, 287, 288, 289, 290, 291, 292, 293, 294, 295, 320, 321, 322, 323, 324, 325, 326, 327, 328, 329, 330, 331, 332] (by decide +kernel) (by decide +kernel)
set_option maxRecDepth 20000 in
theorem gX10_deliver_X10_remember : GoodIn wsX10_deliver (wsV RX10 94 RX10 yX10_remember wsX10_remember) := goodIn_app (goodIn_of _ (by decide +kernel)) ggX10_deliver_X10_remember
set_option maxRecDepth 20000 in
theorem ggX10_deliver_X8_receive : GoodIn wsX10_deliver wsX8_receive := goodIn_r _ [161, 120, 123, 162, 163, 164, 119, 128, 129, 124, 165, 166, 167, 34, 168, 36, 84, 85, 86, 87, 39, 38, 68, 13, 69, 169, 170, 171, 116, 172, 118, 122, 173, 174, 175, 176, 177, 178, 179, 180, 181, 182, 125, 183, 16, 17, 18, 19, 20, 184, 185, 186, 187, 188, 189, 190, 191, 151, 192, 156, 157, 153, 154, 155, 47, 48, 193, 194, 195, 196, 197, 198, 199, 200, 201, 202, 203, 134, 204, 205, 206, 207, 208, 209, 52, 210, 58, 74, 146, 147, 63, 144, 88, 89, 90, 91, 64, 65, 66, 67, 70, 71, 72, 73, 75, 92, 93, 94, 95, 37, 96, 97, 98, 43, 99, 45, 100, 41, 42, 44, 46, 211, 212, 213, 214, 215, 216, 217, 218, 219, 220, 221, 222, 223, 224, 225, 226, 227, 228, 229, 230, 231, 77, 78, 79, 80, 81, 82, 83, 40, 232, 233, 234, 235, 145, 59, 60, 61, 62, 236, 237, 238, 239, 240, 241, 242, 28, 243, 244, 245, 246, 247, 248, 249, 250, 251, 252, 253, 254, 255, 256, 257, 258, 259, 260, 261, 262, 263, 264, 126, 127, 280, 281, 282, 283, 284, 285, 286, 287, 288, 289, 290, 291, 292, 293, 294, 295, 333, 334, 335, 336, 337, 314, 315, 316, 317, 296, 297, 298, 299, 300, 301, 302, 303, 304, 305, 306, 307, 308, 309, 310, 311, 312, 313, 328, 329, 330, 331, 332, 320, 321, 322, 323, 324, 325, 326, 327, 318, 319] (by decide +kernel) (by decide +kernel)
set_option maxRecDepth 20000 in
theorem gX10_deliver_X8_receive : GoodIn wsX10_deliver (wsV RX10 198 RX8 yX8_receive wsX8_receive) := goodIn_app (goodIn_of _ (by decide +kernel)) ggX10_deliver_X8_receive
set_option maxRecDepth 20000 in
theorem ggX10_deliver_X0_cutTo : GoodIn wsX10_deliver wsX0_cutTo := goodIn_r _ [268, 45, 318, 319] (by decide +kernel) (by decide +kernel)
set_option maxRecDepth 20000 in
theorem gX10_deliver_X0_cutTo : GoodIn wsX10_deliver (wsV RX10 75 RX0 yX0_cutTo wsX0_cutTo) := goodIn_app (goodIn_of _ (by decide +kernel)) ggX10_deliver_X0_cutTo
set_option maxRecDepth 20000 in
theorem ggX10_message_X10_needMessage : GoodIn wsX10_message wsX10_needMessage := goodIn_r _ [6, 7, 8, 1, 40, 41, 42, 43, 44, 45, 46, 47, 48, 49, 50, 56, 57, 58, 59, 60, 61, 62, 63, 64, 65, 66, 67, 68, 69, 70, 71] (by decide +kernel) (by decide +kernel)
set_option maxRecDepth 20000 in
theorem gX10_message_X10_needMessage : GoodIn wsX10_message (wsV RX10 205 RX10 yX10_needMessage wsX10_needMessage) := goodIn_app (goodIn_of _ (by decide +kernel)) ggX10_message_X10_needMessage
set_option maxRecDepth 20000 in
theorem ggX10_message_X10_needWhat : GoodIn wsX10_message wsX10_needWhat := goodIn_r _ [11, 12, 13] (by decide +kernel) (by decide +kernel)
set_option maxRecDepth 20000 in
theorem gX10_message_X10_needWhat : GoodIn wsX10_message (va_wsS RX10 149 yX10_needWhat wsX10_needWhat) := goodIn_app (goodIn_of _ (by decide +kernel)) ggX10_message_X10_needWhat
set_option maxRecDepth 20000 in
theorem ggX10_message_X8_messageAt : GoodIn wsX10_message wsX8_messageAt := goodIn_r _ [18, 19, 20, 21, 56, 57, 58, 59, 60, 61, 62, 63, 64, 65, 66, 67, 68, 69, 70, 71] (by decide +kernel) (by decide +kernel)
set_option maxRecDepth 20000 in
theorem gX10_message_X8_messageAt : GoodIn wsX10_message (wsV RX10 208 RX8 yX8_messageAt wsX8_messageAt) := goodIn_app (goodIn_of _ (by decide +kernel)) ggX10_message_X8_messageAt
set_option maxRecDepth 20000 in
theorem ggX10_message_X8_keepsMessage : GoodIn wsX10_message wsX8_keepsMessage := goodIn_r _ [25, 26, 27, 28, 29, 17, 30, 19, 31, 32, 33, 34, 35, 36, 37, 38, 5, 39, 56, 57, 58, 59, 60, 61, 62, 63, 64, 65, 66, 67, 68, 69, 70, 71, 72, 73, 74, 75, 76, 77, 78, 79, 80, 81, 82, 83, 84, 85, 86, 87, 88, 89] (by decide +kernel) (by decide +kernel)
set_option maxRecDepth 20000 in
theorem gX10_message_X8_keepsMessage : GoodIn wsX10_message (wsV RX10 222 RX8 yX8_keepsMessage wsX8_keepsMessage) := goodIn_app (goodIn_of _ (by decide +kernel)) ggX10_message_X8_keepsMessage
set_option maxRecDepth 20000 in
theorem ggX10_partOf_X10_needMessage : GoodIn wsX10_partOf wsX10_needMessage := goodIn_r _ [8, 1, 2, 3, 20, 21, 22, 23, 24, 25, 26, 27, 28, 29, 30, 36, 37, 38, 39, 40, 41, 42, 43, 44, 45, 46, 47, 48, 49, 50, 51] (by decide +kernel) (by decide +kernel)
set_option maxRecDepth 20000 in
theorem gX10_partOf_X10_needMessage : GoodIn wsX10_partOf (wsV RX10 205 RX10 yX10_needMessage wsX10_needMessage) := goodIn_app (goodIn_of _ (by decide +kernel)) ggX10_partOf_X10_needMessage
set_option maxRecDepth 20000 in
theorem ggX10_partOf_X8_messageAt : GoodIn wsX10_partOf wsX8_messageAt := goodIn_r _ [13, 14, 15, 16, 36, 37, 38, 39, 40, 41, 42, 43, 44, 45, 46, 47, 48, 49, 50, 51] (by decide +kernel) (by decide +kernel)
set_option maxRecDepth 20000 in
theorem gX10_partOf_X8_messageAt : GoodIn wsX10_partOf (wsV RX10 208 RX8 yX8_messageAt wsX8_messageAt) := goodIn_app (goodIn_of _ (by decide +kernel)) ggX10_partOf_X8_messageAt
set_option maxRecDepth 20000 in
theorem ggX10_partOf_X10_at : GoodIn wsX10_partOf wsX10_at := goodIn_r _ [19] (by decide +kernel) (by decide +kernel)
set_option maxRecDepth 20000 in
theorem gX10_partOf_X10_at : GoodIn wsX10_partOf (va_wsS RX10 142 yX10_at wsX10_at) := goodIn_app (goodIn_of _ (by decide +kernel)) ggX10_partOf_X10_at
set_option maxRecDepth 20000 in
theorem ggX10_readers_X10_needMessage : GoodIn wsX10_readers wsX10_needMessage := goodIn_r _ [6, 7, 8, 1, 29, 30, 31, 32, 33, 34, 35, 36, 37, 38, 39, 40, 41, 42, 43, 44, 45, 46, 47, 48, 49, 50, 51, 52, 53, 54, 55] (by decide +kernel) (by decide +kernel)
set_option maxRecDepth 20000 in
theorem gX10_readers_X10_needMessage : GoodIn wsX10_readers (wsV RX10 205 RX10 yX10_needMessage wsX10_needMessage) := goodIn_app (goodIn_of _ (by decide +kernel)) ggX10_readers_X10_needMessage
set_option maxRecDepth 20000 in
theorem ggX10_readers_X8_usersIn : GoodIn wsX10_readers wsX8_usersIn := goodIn_r _ [13, 14, 15, 16, 17, 12, 18, 19, 20, 21, 22, 23, 24, 25, 26, 27, 5, 28, 40, 41, 42, 43, 44, 45, 46, 47, 48, 49, 50, 51, 52, 53, 54, 55, 56, 57, 58, 59, 60, 61, 62, 63, 64, 65, 66, 67, 68, 69, 70, 71, 72, 73] (by decide +kernel) (by decide +kernel)
set_option maxRecDepth 20000 in
theorem gX10_readers_X8_usersIn : GoodIn wsX10_readers (wsV RX10 227 RX8 yX8_usersIn wsX8_usersIn) := goodIn_app (goodIn_of _ (by decide +kernel)) ggX10_readers_X8_usersIn
set_option maxRecDepth 20000 in
theorem ggX10_state_X10_needReference : GoodIn wsX10_state wsX10_needReference := goodIn_r _ [6, 7, 8, 1, 9, 10, 11, 12, 13, 14, 15, 16, 17, 18, 19, 20, 21, 22, 23, 5, 24, 25, 26, 27, 28, 29, 30, 31, 32, 33, 34, 35, 36, 37, 38, 39, 40, 41, 42, 43, 44, 45, 46, 47, 48, 49, 50, 51, 52, 53, 54, 55, 56, 57, 58, 59, 60, 61, 62, 63, 64, 65, 66, 67, 68, 69] (by decide +kernel) (by decide +kernel)
set_option maxRecDepth 20000 in
theorem gX10_state_X10_needReference : GoodIn wsX10_state (wsV RX10 231 RX10 yX10_needReference wsX10_needReference) := goodIn_app (goodIn_of _ (by decide +kernel)) ggX10_state_X10_needReference
set_option maxRecDepth 20000 in
theorem ggX10_state_X8_stateOf : GoodIn wsX10_state wsX8_stateOf := goodIn_r _ [13, 14, 15, 16, 17, 18, 19, 20, 21, 22, 23, 5, 24, 36, 37, 38, 39, 40, 41, 42, 43, 44, 45, 46, 47, 48, 49, 50, 51, 52, 53, 54, 55, 56, 57, 58, 59, 60, 61, 62, 63, 64, 65, 66, 67, 68, 69] (by decide +kernel) (by decide +kernel)
set_option maxRecDepth 20000 in
theorem gX10_state_X8_stateOf : GoodIn wsX10_state (wsV RX10 234 RX8 yX8_stateOf wsX8_stateOf) := goodIn_app (goodIn_of _ (by decide +kernel)) ggX10_state_X8_stateOf
set_option maxRecDepth 20000 in
theorem ggX10_classOf_X10_needReference : GoodIn wsX10_classOf wsX10_needReference := goodIn_r _ [6, 7, 8, 1, 9, 10, 11, 12, 13, 14, 15, 16, 17, 18, 19, 20, 21, 22, 23, 5, 24, 30, 31, 32, 33, 34, 35, 36, 37, 38, 39, 40, 41, 42, 43, 44, 45, 46, 47, 48, 49, 50, 51, 52, 53, 54, 55, 56, 57, 58, 59, 60, 61, 62, 63, 64, 65, 66, 67, 68, 69, 70, 71, 72, 73, 74] (by decide +kernel) (by decide +kernel)
set_option maxRecDepth 20000 in
theorem gX10_classOf_X10_needReference : GoodIn wsX10_classOf (wsV RX10 231 RX10 yX10_needReference wsX10_needReference) := goodIn_app (goodIn_of _ (by decide +kernel)) ggX10_classOf_X10_needReference
set_option maxRecDepth 20000 in
theorem ggX10_classOf_X8_retentionOf : GoodIn wsX10_classOf wsX8_retentionOf := goodIn_r _ [28, 29, 23, 5, 24, 41, 42, 43, 44, 45, 46, 47, 48, 49, 50, 51, 52, 53, 54, 55, 56] (by decide +kernel) (by decide +kernel)
set_option maxRecDepth 20000 in
theorem gX10_classOf_X8_retentionOf : GoodIn wsX10_classOf (wsV RX10 238 RX8 yX8_retentionOf wsX8_retentionOf) := goodIn_app (goodIn_of _ (by decide +kernel)) ggX10_classOf_X8_retentionOf
set_option maxRecDepth 20000 in
theorem ggX10_enteredOn_X10_needReference : GoodIn wsX10_enteredOn wsX10_needReference := goodIn_r _ [6, 7, 8, 1, 9, 10, 11, 12, 13, 14, 15, 16, 17, 18, 19, 20, 21, 22, 23, 5, 24, 26, 27, 28, 29, 30, 31, 32, 33, 34, 35, 36, 37, 38, 39, 40, 41, 42, 43, 44, 45, 46, 47, 48, 49, 50, 51, 52, 53, 54, 55, 56, 57, 58, 59, 60, 61, 62, 63, 64, 65, 66, 67, 68, 69, 70] (by decide +kernel) (by decide +kernel)
set_option maxRecDepth 20000 in
theorem gX10_enteredOn_X10_needReference : GoodIn wsX10_enteredOn (wsV RX10 231 RX10 yX10_needReference wsX10_needReference) := goodIn_app (goodIn_of _ (by decide +kernel)) ggX10_enteredOn_X10_needReference
set_option maxRecDepth 20000 in
theorem ggX10_enteredOn_X10_at : GoodIn wsX10_enteredOn wsX10_at := goodIn_r _ [24] (by decide +kernel) (by decide +kernel)
set_option maxRecDepth 20000 in
theorem gX10_enteredOn_X10_at : GoodIn wsX10_enteredOn (va_wsS RX10 142 yX10_at wsX10_at) := goodIn_app (goodIn_of _ (by decide +kernel)) ggX10_enteredOn_X10_at
set_option maxRecDepth 20000 in
theorem ggX10_part_X10_needPart : GoodIn wsX10_part wsX10_needPart := goodIn_r _ [6, 7, 8, 1, 9, 10, 11, 12, 13, 14, 15, 16, 5, 17, 30, 31, 32, 33, 34, 35, 36, 37, 38, 39, 40, 41, 42, 43, 44, 45, 46, 47, 48, 49, 50, 51, 52, 53, 54, 55, 56, 59, 60, 61, 62, 63, 64, 65, 66] (by decide +kernel) (by decide +kernel)
set_option maxRecDepth 20000 in
theorem gX10_part_X10_needPart : GoodIn wsX10_part (wsV RX10 262 RX10 yX10_needPart wsX10_needPart) := goodIn_app (goodIn_of _ (by decide +kernel)) ggX10_part_X10_needPart
set_option maxRecDepth 20000 in
theorem ggX10_part_X10_needWhat : GoodIn wsX10_part wsX10_needWhat := goodIn_r _ [20, 21, 22] (by decide +kernel) (by decide +kernel)
set_option maxRecDepth 20000 in
theorem gX10_part_X10_needWhat : GoodIn wsX10_part (va_wsS RX10 149 yX10_needWhat wsX10_needWhat) := goodIn_app (goodIn_of _ (by decide +kernel)) ggX10_part_X10_needWhat
set_option maxRecDepth 20000 in
theorem ggX10_part_X9_bytesOf : GoodIn wsX10_part wsX9_bytesOf := goodIn_r _ [26, 14, 27, 28, 59, 60, 61, 62, 63, 64, 65, 66] (by decide +kernel) (by decide +kernel)
set_option maxRecDepth 20000 in
theorem gX10_part_X9_bytesOf : GoodIn wsX10_part (wsV RX10 265 RX9 yX9_bytesOf wsX9_bytesOf) := goodIn_app (goodIn_of _ (by decide +kernel)) ggX10_part_X9_bytesOf
set_option maxRecDepth 20000 in
theorem ggX10_part_X10_at : GoodIn wsX10_part wsX10_at := goodIn_r _ [17] (by decide +kernel) (by decide +kernel)
set_option maxRecDepth 20000 in
theorem gX10_part_X10_at : GoodIn wsX10_part (va_wsS RX10 142 yX10_at wsX10_at) := goodIn_app (goodIn_of _ (by decide +kernel)) ggX10_part_X10_at
set_option maxRecDepth 20000 in
theorem ggX10_digest_X10_needPart : GoodIn wsX10_digest wsX10_needPart := goodIn_r _ [6, 7, 8, 1, 9, 10, 11, 12, 13, 14, 15, 16, 5, 17, 37, 38, 39, 40, 41, 42, 43, 44, 45, 46, 47, 48, 49, 50, 51, 52, 53, 54, 55, 56, 57, 58, 59, 60, 61, 62, 63, 64, 65, 66, 67, 68, 69, 70, 71] (by decide +kernel) (by decide +kernel)
set_option maxRecDepth 20000 in
theorem gX10_digest_X10_needPart : GoodIn wsX10_digest (wsV RX10 262 RX10 yX10_needPart wsX10_needPart) := goodIn_app (goodIn_of _ (by decide +kernel)) ggX10_digest_X10_needPart
set_option maxRecDepth 20000 in
theorem ggX10_digest_X9_bytesOf : GoodIn wsX10_digest wsX9_bytesOf := goodIn_r _ [21, 14, 22, 23, 64, 65, 66, 67, 68, 69, 70, 71] (by decide +kernel) (by decide +kernel)
set_option maxRecDepth 20000 in
theorem gX10_digest_X9_bytesOf : GoodIn wsX10_digest (wsV RX10 265 RX9 yX9_bytesOf wsX9_bytesOf) := goodIn_app (goodIn_of _ (by decide +kernel)) ggX10_digest_X9_bytesOf
set_option maxRecDepth 20000 in
theorem ggX10_digest_X0_hash : GoodIn wsX10_digest wsX0_hash := goodIn_r _ [28, 29, 30, 31, 32, 33, 34, 27, 35, 36, 72, 73] (by decide +kernel) (by decide +kernel)
set_option maxRecDepth 20000 in
theorem gX10_digest_X0_hash : GoodIn wsX10_digest (wsV RX10 286 RX0 yX0_hash wsX0_hash) := goodIn_app (goodIn_of _ (by decide +kernel)) ggX10_digest_X0_hash
set_option maxRecDepth 20000 in
theorem ggX10_storedBytes_X9_byteSum : GoodIn wsX10_storedBytes wsX9_byteSum := goodIn_r _ [6, 7, 8, 9, 10, 5, 11, 12, 13, 14, 15, 16, 17, 18, 19, 20, 21, 22, 23, 24, 25, 53, 54, 55, 56, 57, 58, 59, 60, 61, 62] (by decide +kernel) (by decide +kernel)
set_option maxRecDepth 20000 in
theorem gX10_storedBytes_X9_byteSum : GoodIn wsX10_storedBytes (wsV RX10 289 RX9 yX9_byteSum wsX9_byteSum) := goodIn_app (goodIn_of _ (by decide +kernel)) ggX10_storedBytes_X9_byteSum
set_option maxRecDepth 20000 in
theorem ggX10_deadBytes_X9_byteSum : GoodIn wsX10_deadBytes wsX9_byteSum := goodIn_r _ [6, 7, 8, 9, 10, 5, 11, 12, 13, 14, 15, 16, 17, 18, 19, 20, 21, 22, 23, 24, 25, 53, 54, 55, 56, 57, 58, 59, 60, 61, 62] (by decide +kernel) (by decide +kernel)
set_option maxRecDepth 20000 in
theorem gX10_deadBytes_X9_byteSum : GoodIn wsX10_deadBytes (wsV RX10 289 RX9 yX9_byteSum wsX9_byteSum) := goodIn_app (goodIn_of _ (by decide +kernel)) ggX10_deadBytes_X9_byteSum
set_option maxRecDepth 20000 in
theorem ggX10_logicalBytes_X8_usageOf : GoodIn wsX10_logicalBytes wsX8_usageOf := goodIn_r _ [6, 7, 8, 9, 10, 5, 11, 12, 13, 14, 15, 16, 17, 18, 19, 20, 21, 22, 23, 24, 25, 26, 27, 28, 40, 41, 42, 43, 44, 45, 46, 47, 48, 49, 50, 51, 52, 53, 54, 55, 74, 75, 76, 77, 78, 56, 57, 58, 59, 60, 61, 62, 63, 64, 65, 66, 67, 68, 69, 70, 71, 72, 73] (by decide +kernel) (by decide +kernel)
set_option maxRecDepth 20000 in
theorem gX10_logicalBytes_X8_usageOf : GoodIn wsX10_logicalBytes (wsV RX10 293 RX8 yX8_usageOf wsX8_usageOf) := goodIn_app (goodIn_of _ (by decide +kernel)) ggX10_logicalBytes_X8_usageOf
set_option maxRecDepth 20000 in
theorem ggX10_usage_X10_needUser : GoodIn wsX10_usage wsX10_needUser := goodIn_r _ [6, 7, 8, 1, 9, 10, 11, 12, 13, 14, 36, 37, 38, 39, 40, 41, 42, 43, 44, 45, 46, 47, 48, 49, 50, 51, 52, 53, 54, 55, 56, 57, 58, 59, 60, 61, 62, 63, 64, 65, 66, 67, 68, 69, 70, 71, 72, 73, 74, 75, 76, 77, 78, 79, 80] (by decide +kernel) (by decide +kernel)
set_option maxRecDepth 20000 in
theorem gX10_usage_X10_needUser : GoodIn wsX10_usage (wsV RX10 169 RX10 yX10_needUser wsX10_needUser) := goodIn_app (goodIn_of _ (by decide +kernel)) ggX10_usage_X10_needUser
set_option maxRecDepth 20000 in
theorem ggX10_usage_X8_usageOf : GoodIn wsX10_usage wsX8_usageOf := goodIn_r _ [19, 20, 21, 22, 23, 18, 24, 25, 26, 27, 10, 11, 12, 13, 14, 28, 5, 29, 30, 31, 32, 33, 34, 35, 47, 48, 49, 50, 51, 52, 53, 54, 55, 56, 57, 58, 59, 60, 61, 62, 81, 82, 83, 84, 85, 63, 64, 65, 66, 67, 68, 69, 70, 71, 72, 73, 74, 75, 76, 77, 78, 79, 80] (by decide +kernel) (by decide +kernel)
set_option maxRecDepth 20000 in
theorem gX10_usage_X8_usageOf : GoodIn wsX10_usage (wsV RX10 293 RX8 yX8_usageOf wsX8_usageOf) := goodIn_app (goodIn_of _ (by decide +kernel)) ggX10_usage_X8_usageOf
set_option maxRecDepth 20000 in
theorem ggX10_fairShare_X10_needUser : GoodIn wsX10_fairShare wsX10_needUser := goodIn_r _ [7, 8, 9, 1, 10, 11, 12, 13, 14, 15, 65, 66, 67, 68, 69, 70, 71, 72, 73, 74, 75, 76, 77, 78, 79, 80, 81, 82, 83, 84, 85, 86, 87, 88, 89, 90, 91, 94, 95, 96, 97, 98, 99, 100, 101, 102, 103, 104, 105, 106, 107, 108, 109, 110, 111] (by decide +kernel) (by decide +kernel)
set_option maxRecDepth 20000 in
theorem gX10_fairShare_X10_needUser : GoodIn wsX10_fairShare (wsV RX10 169 RX10 yX10_needUser wsX10_needUser) := goodIn_app (goodIn_of _ (by decide +kernel)) ggX10_fairShare_X10_needUser
set_option maxRecDepth 20000 in
theorem ggX10_fairShare_X8_gatherReaders : GoodIn wsX10_fairShare wsX8_gatherReaders := goodIn_r _ [20, 21, 22, 23, 24, 25, 26, 27, 28, 19, 29, 30, 31, 32, 33, 34, 35, 36, 11, 12, 13, 14, 15, 37, 6, 38, 39, 40, 41, 42, 43, 44, 45, 46, 76, 77, 78, 79, 80, 81, 82, 83, 84, 85, 86, 87, 88, 89, 90, 91, 112, 113, 114, 115, 116, 94, 95, 96, 97, 98, 99, 100, 101, 102, 103, 104, 105, 106, 107, 108, 109, 110, 111] (by decide +kernel) (by decide +kernel)
set_option maxRecDepth 20000 in
theorem gX10_fairShare_X8_gatherReaders : GoodIn wsX10_fairShare (wsV RX10 302 RX8 yX8_gatherReaders wsX8_gatherReaders) := goodIn_app (goodIn_of _ (by decide +kernel)) ggX10_fairShare_X8_gatherReaders
set_option maxRecDepth 20000 in
theorem ggX10_fairShare_J6_bitCount_0f7a4 : GoodIn wsX10_fairShare wsJ6_bitCount_0f7a4 := goodIn_r _ [50, 51, 52, 53] (by decide +kernel) (by decide +kernel)
set_option maxRecDepth 20000 in
theorem gX10_fairShare_J6_bitCount_0f7a4 : GoodIn wsX10_fairShare (va_wsS RX10 306 yJ6_bitCount_0f7a4 wsJ6_bitCount_0f7a4) := goodIn_app (goodIn_of _ (by decide +kernel)) ggX10_fairShare_J6_bitCount_0f7a4
set_option maxRecDepth 20000 in
theorem ggX10_fairShare_X10_hasBit : GoodIn wsX10_fairShare wsX10_hasBit := goodIn_r _ [56] (by decide +kernel) (by decide +kernel)
set_option maxRecDepth 20000 in
theorem gX10_fairShare_X10_hasBit : GoodIn wsX10_fairShare (va_wsS RX10 311 yX10_hasBit wsX10_hasBit) := goodIn_app (goodIn_of _ (by decide +kernel)) ggX10_fairShare_X10_hasBit
set_option maxRecDepth 20000 in
theorem ggX10_fairShare_X9_bytesOf : GoodIn wsX10_fairShare wsX9_bytesOf := goodIn_r _ [61, 62, 63, 64, 117, 118, 119, 120, 121, 122, 123, 124] (by decide +kernel) (by decide +kernel)
set_option maxRecDepth 20000 in
theorem gX10_fairShare_X9_bytesOf : GoodIn wsX10_fairShare (wsV RX10 265 RX9 yX9_bytesOf wsX9_bytesOf) := goodIn_app (goodIn_of _ (by decide +kernel)) ggX10_fairShare_X9_bytesOf
set_option maxRecDepth 20000 in
theorem ggX10_matches_X10_needUser : GoodIn wsX10_matches wsX10_needUser := goodIn_r _ [9, 10, 11, 4, 12, 13, 14, 15, 16, 17, 79, 80, 81, 82, 83, 84, 85, 86, 87, 88, 89, 90, 91, 92, 93, 94, 95, 96, 97, 98, 99, 100, 101, 102, 103, 104, 105, 106, 107, 108, 109, 110, 111, 112, 113, 114, 115, 116, 117, 118, 119, 120, 121, 122, 123] (by decide +kernel) (by decide +kernel)
set_option maxRecDepth 20000 in
theorem gX10_matches_X10_needUser : GoodIn wsX10_matches (wsV RX10 169 RX10 yX10_needUser wsX10_needUser) := goodIn_app (goodIn_of _ (by decide +kernel)) ggX10_matches_X10_needUser
set_option maxRecDepth 20000 in
theorem ggX10_matches_X0_wholeWord : GoodIn wsX10_matches wsX0_wholeWord := goodIn_r _ [22, 23, 24, 25, 26, 27, 21, 28, 29, 30, 8, 31, 32, 33, 34, 35, 36, 124, 125] (by decide +kernel) (by decide +kernel)
set_option maxRecDepth 20000 in
theorem gX10_matches_X0_wholeWord : GoodIn wsX10_matches (wsV RX10 119 RX0 yX0_wholeWord wsX0_wholeWord) := goodIn_app (goodIn_of _ (by decide +kernel)) ggX10_matches_X0_wholeWord
set_option maxRecDepth 20000 in
theorem ggX10_matches_X0_cutTo : GoodIn wsX10_matches wsX0_cutTo := goodIn_r _ [40, 23, 124, 125] (by decide +kernel) (by decide +kernel)
set_option maxRecDepth 20000 in
theorem gX10_matches_X0_cutTo : GoodIn wsX10_matches (wsV RX10 75 RX0 yX0_cutTo wsX0_cutTo) := goodIn_app (goodIn_of _ (by decide +kernel)) ggX10_matches_X0_cutTo
set_option maxRecDepth 20000 in
theorem ggX10_matches_X8_liveWithWord : GoodIn wsX10_matches wsX8_liveWithWord := goodIn_r _ [45, 46, 47, 48, 49, 44, 50, 51, 52, 53, 13, 14, 15, 16, 17, 54, 8, 55, 56, 57, 58, 59, 60, 61, 62, 63, 64, 65, 66, 67, 68, 69, 70, 71, 72, 73, 74, 75, 76, 77, 21, 78, 23, 25, 26, 27, 28, 29, 30, 31, 32, 33, 34, 35, 36, 90, 91, 92, 93, 94, 95, 96, 97, 98, 99, 100, 101, 102, 103, 104, 105, 106, 107, 108, 109, 110, 111, 112, 113, 114, 115, 116, 117, 118, 119, 120, 121, 122, 123, 126, 127, 128, 129, 130, 131, 132, 133, 134, 135, 136, 137, 138, 124, 125] (by decide +kernel) (by decide +kernel)
set_option maxRecDepth 20000 in
theorem gX10_matches_X8_liveWithWord : GoodIn wsX10_matches (wsV RX10 319 RX8 yX8_liveWithWord wsX8_liveWithWord) := goodIn_app (goodIn_of _ (by decide +kernel)) ggX10_matches_X8_liveWithWord
set_option maxRecDepth 20000 in
theorem ggX10_commonBytes_X10_needUser : GoodIn wsX10_commonBytes wsX10_needUser := goodIn_r _ [7, 8, 9, 1, 10, 11, 12, 13, 14, 15, 58, 59, 60, 61, 62, 63, 64, 65, 66, 67, 68, 69, 70, 71, 72, 73, 74, 75, 76, 77, 78, 79, 80, 81, 82, 83, 84, 87, 88, 89, 90, 91, 92, 93, 94, 95, 96, 97, 98, 99, 100, 101, 102, 103, 104] (by decide +kernel) (by decide +kernel)
set_option maxRecDepth 20000 in
theorem gX10_commonBytes_X10_needUser : GoodIn wsX10_commonBytes (wsV RX10 169 RX10 yX10_needUser wsX10_needUser) := goodIn_app (goodIn_of _ (by decide +kernel)) ggX10_commonBytes_X10_needUser
set_option maxRecDepth 20000 in
theorem ggX10_commonBytes_X8_gatherReaders : GoodIn wsX10_commonBytes wsX8_gatherReaders := goodIn_r _ [20, 21, 22, 23, 24, 25, 26, 27, 28, 19, 29, 30, 31, 32, 33, 34, 35, 36, 11, 12, 13, 14, 15, 37, 6, 38, 39, 40, 41, 42, 43, 44, 45, 46, 69, 70, 71, 72, 73, 74, 75, 76, 77, 78, 79, 80, 81, 82, 83, 84, 105, 106, 107, 108, 109, 87, 88, 89, 90, 91, 92, 93, 94, 95, 96, 97, 98, 99, 100, 101, 102, 103, 104] (by decide +kernel) (by decide +kernel)
set_option maxRecDepth 20000 in
theorem gX10_commonBytes_X8_gatherReaders : GoodIn wsX10_commonBytes (wsV RX10 302 RX8 yX8_gatherReaders wsX8_gatherReaders) := goodIn_app (goodIn_of _ (by decide +kernel)) ggX10_commonBytes_X8_gatherReaders
set_option maxRecDepth 20000 in
theorem ggX10_commonBytes_X10_hasBit : GoodIn wsX10_commonBytes wsX10_hasBit := goodIn_r _ [49] (by decide +kernel) (by decide +kernel)
set_option maxRecDepth 20000 in
theorem gX10_commonBytes_X10_hasBit : GoodIn wsX10_commonBytes (va_wsS RX10 311 yX10_hasBit wsX10_hasBit) := goodIn_app (goodIn_of _ (by decide +kernel)) ggX10_commonBytes_X10_hasBit
set_option maxRecDepth 20000 in
theorem ggX10_commonBytes_X9_bytesOf : GoodIn wsX10_commonBytes wsX9_bytesOf := goodIn_r _ [54, 55, 56, 57, 110, 111, 112, 113, 114, 115, 116, 117] (by decide +kernel) (by decide +kernel)
set_option maxRecDepth 20000 in
theorem gX10_commonBytes_X9_bytesOf : GoodIn wsX10_commonBytes (wsV RX10 265 RX9 yX9_bytesOf wsX9_bytesOf) := goodIn_app (goodIn_of _ (by decide +kernel)) ggX10_commonBytes_X9_bytesOf
set_option maxRecDepth 20000 in
theorem ggX10_remember_X10_pastAt : GoodIn wsX10_remember wsX10_pastAt := goodIn_r _ [8, 2, 9, 59, 60, 61, 62, 63, 64, 65, 66, 67, 68, 69] (by decide +kernel) (by decide +kernel)
set_option maxRecDepth 20000 in
theorem gX10_remember_X10_pastAt : GoodIn wsX10_remember (wsV RX10 407 RX10 yX10_pastAt wsX10_pastAt) := goodIn_app (goodIn_of _ (by decide +kernel)) ggX10_remember_X10_pastAt
set_option maxRecDepth 20000 in
theorem ggX10_remember_X8_copyFrom : GoodIn wsX10_remember wsX8_copyFrom := goodIn_r _ [14, 15, 16, 17, 18, 19, 20, 21, 22, 23, 24, 25, 26, 27, 7, 28, 29, 30, 31, 32, 33, 34, 35, 36, 37, 38, 39, 40, 41, 42, 43, 44, 45, 46, 47, 48, 49, 50, 51, 52, 53, 54, 55, 56, 57, 58, 70, 71, 72, 73, 74, 75, 76, 77, 78, 79, 80, 81, 82, 83, 84, 85, 86, 87, 88, 89, 90, 91, 92, 93, 94, 95, 96, 97, 98] (by decide +kernel) (by decide +kernel)
set_option maxRecDepth 20000 in
theorem gX10_remember_X8_copyFrom : GoodIn wsX10_remember (wsV RX10 411 RX8 yX8_copyFrom wsX8_copyFrom) := goodIn_app (goodIn_of _ (by decide +kernel)) ggX10_remember_X8_copyFrom
set_option maxRecDepth 20000 in
theorem ggX10_needClass_X5_has : GoodIn wsX10_needClass wsX5_has := goodIn_r _ [8, 9, 53, 54] (by decide +kernel) (by decide +kernel)
set_option maxRecDepth 20000 in
theorem gX10_needClass_X5_has : GoodIn wsX10_needClass (wsV RX10 130 RX5 yX5_has wsX5_has) := goodIn_app (goodIn_of _ (by decide +kernel)) ggX10_needClass_X5_has
set_option maxRecDepth 20000 in
theorem ggX10_needUser_X5_has : GoodIn wsX10_needUser wsX5_has := goodIn_r _ [8, 9, 53, 54] (by decide +kernel) (by decide +kernel)
set_option maxRecDepth 20000 in
theorem gX10_needUser_X5_has : GoodIn wsX10_needUser (wsV RX10 130 RX5 yX5_has wsX5_has) := goodIn_app (goodIn_of _ (by decide +kernel)) ggX10_needUser_X5_has
set_option maxRecDepth 20000 in
theorem ggX10_needReference_X8_stateOf : GoodIn wsX10_needReference wsX8_stateOf := goodIn_r _ [8, 9, 10, 11, 12, 13, 14, 15, 16, 17, 18, 19, 20, 32, 33, 34, 35, 36, 37, 38, 39, 40, 41, 42, 43, 44, 45, 46, 47, 48, 49, 50, 51, 52, 53, 54, 55, 56, 57, 58, 59, 60, 61, 62, 63, 64, 65] (by decide +kernel) (by decide +kernel)
set_option maxRecDepth 20000 in
theorem gX10_needReference_X8_stateOf : GoodIn wsX10_needReference (wsV RX10 234 RX8 yX8_stateOf wsX8_stateOf) := goodIn_app (goodIn_of _ (by decide +kernel)) ggX10_needReference_X8_stateOf
set_option maxRecDepth 20000 in
theorem ggX10_needPart_X9_isStored : GoodIn wsX10_needPart wsX9_isStored := goodIn_r _ [8, 9, 10, 11, 12, 13, 41, 42, 43, 44, 45, 46, 47, 48] (by decide +kernel) (by decide +kernel)
set_option maxRecDepth 20000 in
theorem gX10_needPart_X9_isStored : GoodIn wsX10_needPart (wsV RX10 376 RX9 yX9_isStored wsX9_isStored) := goodIn_app (goodIn_of _ (by decide +kernel)) ggX10_needPart_X9_isStored
set_option maxRecDepth 20000 in
theorem ggJ5_init_d00df_J2_newBytesFor_77867 : GoodIn wsJ5_init_d00df wsJ2_newBytesFor_77867 := goodIn_r _ [11, 5, 12, 13, 10, 14, 15] (by decide +kernel) (by decide +kernel)
set_option maxRecDepth 20000 in
theorem gJ5_init_d00df_J2_newBytesFor_77867 : GoodIn wsJ5_init_d00df (va_wsS RJ5 26 yJ2_newBytesFor_77867 wsJ2_newBytesFor_77867) := goodIn_app (goodIn_of _ (by decide +kernel)) ggJ5_init_d00df_J2_newBytesFor_77867
set_option maxRecDepth 20000 in
theorem ggJ5_init_a7421_J0_length_8abf5 : GoodIn wsJ5_init_a7421 wsJ0_length_8abf5 := goodIn_r _ [13, 14, 15, 16, 17, 12, 18, 19, 20, 161, 162, 163, 164] (by decide +kernel) (by decide +kernel)
set_option maxRecDepth 20000 in
theorem gJ5_init_a7421_J0_length_8abf5 : GoodIn wsJ5_init_a7421 (wsV RJ5 32 RJ0 yJ0_length_8abf5 wsJ0_length_8abf5) := goodIn_app (goodIn_of _ (by decide +kernel)) ggJ5_init_a7421_J0_length_8abf5
set_option maxRecDepth 20000 in
theorem ggJ5_init_a7421_J0_coder_7d493 : GoodIn wsJ5_init_a7421 wsJ0_coder_7d493 := goodIn_r _ [18, 19, 20, 161, 162, 163, 164] (by decide +kernel) (by decide +kernel)
