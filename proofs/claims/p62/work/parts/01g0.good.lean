set_option maxRecDepth 20000 in
theorem ggX0_addFour_X0_add : GoodIn wsX0_addFour wsX0_add := goodIn_r _ [5, 6, 7, 8, 9] (by decide +kernel) (by decide +kernel)
set_option maxRecDepth 20000 in
theorem gX0_addFour_X0_add : GoodIn wsX0_addFour (wsV RX0 25 RX0 yX0_add wsX0_add) := goodIn_app (goodIn_of _ (by decide +kernel)) ggX0_addFour_X0_add
set_option maxRecDepth 20000 in
theorem ggX0_addRange_X0_byteAt : GoodIn wsX0_addRange wsX0_byteAt := goodIn_r _ [5, 6, 7, 12, 13] (by decide +kernel) (by decide +kernel)
set_option maxRecDepth 20000 in
theorem gX0_addRange_X0_byteAt : GoodIn wsX0_addRange (wsV RX0 33 RX0 yX0_byteAt wsX0_byteAt) := goodIn_app (goodIn_of _ (by decide +kernel)) ggX0_addRange_X0_byteAt
set_option maxRecDepth 20000 in
theorem ggX0_addRange_X0_add : GoodIn wsX0_addRange wsX0_add := goodIn_r _ [11, 6, 7, 12, 13] (by decide +kernel) (by decide +kernel)
set_option maxRecDepth 20000 in
theorem gX0_addRange_X0_add : GoodIn wsX0_addRange (wsV RX0 25 RX0 yX0_add wsX0_add) := goodIn_app (goodIn_of _ (by decide +kernel)) ggX0_addRange_X0_add
set_option maxRecDepth 20000 in
theorem ggX0_isRange_X0_byteAt : GoodIn wsX0_isRange wsX0_byteAt := goodIn_r _ [6, 1, 7, 8, 9] (by decide +kernel) (by decide +kernel)
set_option maxRecDepth 20000 in
theorem gX0_isRange_X0_byteAt : GoodIn wsX0_isRange (wsV RX0 33 RX0 yX0_byteAt wsX0_byteAt) := goodIn_app (goodIn_of _ (by decide +kernel)) ggX0_isRange_X0_byteAt
set_option maxRecDepth 20000 in
theorem ggX0_wholeWord_X0_byteAt : GoodIn wsX0_wholeWord wsX0_byteAt := goodIn_r _ [7, 1, 8, 17, 18] (by decide +kernel) (by decide +kernel)
set_option maxRecDepth 20000 in
theorem gX0_wholeWord_X0_byteAt : GoodIn wsX0_wholeWord (wsV RX0 33 RX0 yX0_byteAt wsX0_byteAt) := goodIn_app (goodIn_of _ (by decide +kernel)) ggX0_wholeWord_X0_byteAt
set_option maxRecDepth 20000 in
theorem ggX0_wholeWord_X10_isLetter : GoodIn wsX0_wholeWord wsX10_isLetter := goodIn_r _ [11] (by decide +kernel) (by decide +kernel)
set_option maxRecDepth 20000 in
theorem gX0_wholeWord_X10_isLetter_n37 : GoodIn wsX0_wholeWord (wsX10_isLetter) := ggX0_wholeWord_X10_isLetter
set_option maxRecDepth 20000 in
theorem ggX0_wholeWord_X10_withLetter : GoodIn wsX0_wholeWord wsX10_withLetter := goodIn_r _ [13, 14, 15, 16] (by decide +kernel) (by decide +kernel)
set_option maxRecDepth 20000 in
theorem gX0_wholeWord_X10_withLetter_n41 : GoodIn wsX0_wholeWord (wsX10_withLetter) := ggX0_wholeWord_X10_withLetter
set_option maxRecDepth 20000 in
theorem ggX0_hasWord_X0_byteAt : GoodIn wsX0_hasWord wsX0_byteAt := goodIn_r _ [6, 1, 7, 16, 17] (by decide +kernel) (by decide +kernel)
set_option maxRecDepth 20000 in
theorem gX0_hasWord_X0_byteAt : GoodIn wsX0_hasWord (wsV RX0 33 RX0 yX0_byteAt wsX0_byteAt) := goodIn_app (goodIn_of _ (by decide +kernel)) ggX0_hasWord_X0_byteAt
set_option maxRecDepth 20000 in
theorem ggX0_hasWord_X10_isLetter : GoodIn wsX0_hasWord wsX10_isLetter := goodIn_r _ [10] (by decide +kernel) (by decide +kernel)
set_option maxRecDepth 20000 in
theorem gX0_hasWord_X10_isLetter_n37 : GoodIn wsX0_hasWord (wsX10_isLetter) := ggX0_hasWord_X10_isLetter
set_option maxRecDepth 20000 in
theorem ggX0_hasWord_X10_withLetter : GoodIn wsX0_hasWord wsX10_withLetter := goodIn_r _ [12, 13, 14, 15] (by decide +kernel) (by decide +kernel)
set_option maxRecDepth 20000 in
theorem gX0_hasWord_X10_withLetter_n41 : GoodIn wsX0_hasWord (wsX10_withLetter) := ggX0_hasWord_X10_withLetter
set_option maxRecDepth 20000 in
theorem ggX0_hash_X0_byteAt : GoodIn wsX0_hash wsX0_byteAt := goodIn_r _ [8, 2, 9, 10, 11] (by decide +kernel) (by decide +kernel)
set_option maxRecDepth 20000 in
theorem gX0_hash_X0_byteAt : GoodIn wsX0_hash (wsV RX0 33 RX0 yX0_byteAt wsX0_byteAt) := goodIn_app (goodIn_of _ (by decide +kernel)) ggX0_hash_X0_byteAt
set_option maxRecDepth 20000 in
theorem ggX1_cut_X0_byteAt : GoodIn wsX1_cut wsX0_byteAt := goodIn_r _ [9, 10, 11, 19, 20] (by decide +kernel) (by decide +kernel)
set_option maxRecDepth 20000 in
theorem gX1_cut_X0_byteAt : GoodIn wsX1_cut (wsV RX1 31 RX0 yX0_byteAt wsX0_byteAt) := goodIn_app (goodIn_of _ (by decide +kernel)) ggX1_cut_X0_byteAt
set_option maxRecDepth 20000 in
theorem ggX1_cut_X10_put : GoodIn wsX1_cut wsX10_put := goodIn_r _ [14] (by decide +kernel) (by decide +kernel)
set_option maxRecDepth 20000 in
theorem gX1_cut_X10_put_n35 : GoodIn wsX1_cut (wsX10_put) := ggX1_cut_X10_put
set_option maxRecDepth 20000 in
theorem ggX1_sizeAt_X10_at : GoodIn wsX1_sizeAt wsX10_at := goodIn_r _ [5] (by decide +kernel) (by decide +kernel)
set_option maxRecDepth 20000 in
theorem gX1_sizeAt_X10_at_n39 : GoodIn wsX1_sizeAt (wsX10_at) := ggX1_sizeAt_X10_at
set_option maxRecDepth 20000 in
theorem ggX1_sizeOfAll_X1_sizeAt : GoodIn wsX1_sizeOfAll wsX1_sizeAt := goodIn_r _ [6, 7, 8, 9, 10, 11, 12, 13, 14, 15] (by decide +kernel) (by decide +kernel)
set_option maxRecDepth 20000 in
theorem gX1_sizeOfAll_X1_sizeAt : GoodIn wsX1_sizeOfAll (wsV RX1 43 RX1 yX1_sizeAt wsX1_sizeAt) := goodIn_app (goodIn_of _ (by decide +kernel)) ggX1_sizeOfAll_X1_sizeAt
set_option maxRecDepth 20000 in
theorem ggX1_isEqualTo_X10_at : GoodIn wsX1_isEqualTo wsX10_at := goodIn_r _ [6] (by decide +kernel) (by decide +kernel)
set_option maxRecDepth 20000 in
theorem gX1_isEqualTo_X10_at_n39 : GoodIn wsX1_isEqualTo (wsX10_at) := ggX1_isEqualTo_X10_at
set_option maxRecDepth 20000 in
theorem ggX1_isEqualTo_X0_isRange : GoodIn wsX1_isEqualTo wsX0_isRange := goodIn_r _ [11, 12, 13, 14, 15, 10, 16, 17, 22, 23] (by decide +kernel) (by decide +kernel)
set_option maxRecDepth 20000 in
theorem gX1_isEqualTo_X0_isRange : GoodIn wsX1_isEqualTo (wsV RX1 46 RX0 yX0_isRange wsX0_isRange) := goodIn_app (goodIn_of _ (by decide +kernel)) ggX1_isEqualTo_X0_isRange
set_option maxRecDepth 20000 in
theorem ggX1_isFirstOfItsKind_X1_areEqual : GoodIn wsX1_isFirstOfItsKind wsX1_areEqual := goodIn_r _ [5, 6, 7, 8, 9, 10, 4, 11, 12, 13, 14, 15, 16, 17, 18, 19, 20, 21, 22, 23, 24, 25, 26, 27, 28] (by decide +kernel) (by decide +kernel)
set_option maxRecDepth 20000 in
theorem gX1_isFirstOfItsKind_X1_areEqual : GoodIn wsX1_isFirstOfItsKind (wsV RX1 50 RX1 yX1_areEqual wsX1_areEqual) := goodIn_app (goodIn_of _ (by decide +kernel)) ggX1_isFirstOfItsKind_X1_areEqual
set_option maxRecDepth 20000 in
theorem ggX1_areEqual_X1_sizeAt : GoodIn wsX1_areEqual wsX1_sizeAt := goodIn_r _ [7, 8, 2, 9, 10, 11, 19, 20, 21, 22] (by decide +kernel) (by decide +kernel)
set_option maxRecDepth 20000 in
theorem gX1_areEqual_X1_sizeAt : GoodIn wsX1_areEqual (wsV RX1 43 RX1 yX1_sizeAt wsX1_sizeAt) := goodIn_app (goodIn_of _ (by decide +kernel)) ggX1_areEqual_X1_sizeAt
set_option maxRecDepth 20000 in
theorem ggX1_areEqual_X10_at : GoodIn wsX1_areEqual wsX10_at := goodIn_r _ [11] (by decide +kernel) (by decide +kernel)
set_option maxRecDepth 20000 in
theorem gX1_areEqual_X10_at_n39 : GoodIn wsX1_areEqual (wsX10_at) := ggX1_areEqual_X10_at
set_option maxRecDepth 20000 in
theorem ggX1_areEqual_X0_byteAt : GoodIn wsX1_areEqual wsX0_byteAt := goodIn_r _ [16, 17, 18, 23, 24] (by decide +kernel) (by decide +kernel)
set_option maxRecDepth 20000 in
theorem gX1_areEqual_X0_byteAt : GoodIn wsX1_areEqual (wsV RX1 31 RX0 yX0_byteAt wsX0_byteAt) := goodIn_app (goodIn_of _ (by decide +kernel)) ggX1_areEqual_X0_byteAt
set_option maxRecDepth 20000 in
theorem ggX1_copyOfPlace_X1_sizeAt : GoodIn wsX1_copyOfPlace wsX1_sizeAt := goodIn_r _ [11, 6, 5, 12, 13, 14, 42, 43, 44, 45] (by decide +kernel) (by decide +kernel)
set_option maxRecDepth 20000 in
theorem gX1_copyOfPlace_X1_sizeAt : GoodIn wsX1_copyOfPlace (wsV RX1 43 RX1 yX1_sizeAt wsX1_sizeAt) := goodIn_app (goodIn_of _ (by decide +kernel)) ggX1_copyOfPlace_X1_sizeAt
set_option maxRecDepth 20000 in
theorem ggX1_copyOfPlace_X0_init : GoodIn wsX1_copyOfPlace wsX0_init := goodIn_r _ [17, 18, 19, 20, 21, 22, 23, 24, 25, 26, 40, 41] (by decide +kernel) (by decide +kernel)
set_option maxRecDepth 20000 in
theorem gX1_copyOfPlace_X0_init : GoodIn wsX1_copyOfPlace (wsX0_init) := ggX1_copyOfPlace_X0_init
set_option maxRecDepth 20000 in
theorem ggX1_copyOfPlace_X10_at : GoodIn wsX1_copyOfPlace wsX10_at := goodIn_r _ [14] (by decide +kernel) (by decide +kernel)
set_option maxRecDepth 20000 in
theorem gX1_copyOfPlace_X10_at_n39 : GoodIn wsX1_copyOfPlace (wsX10_at) := ggX1_copyOfPlace_X10_at
set_option maxRecDepth 20000 in
theorem ggX1_copyOfPlace_X0_addRange : GoodIn wsX1_copyOfPlace wsX0_addRange := goodIn_r _ [30, 31, 32, 33, 3, 34, 35, 26, 36, 37, 38, 39, 40, 41] (by decide +kernel) (by decide +kernel)
set_option maxRecDepth 20000 in
theorem gX1_copyOfPlace_X0_addRange : GoodIn wsX1_copyOfPlace (wsV RX1 57 RX0 yX0_addRange wsX0_addRange) := goodIn_app (goodIn_of _ (by decide +kernel)) ggX1_copyOfPlace_X0_addRange
set_option maxRecDepth 20000 in
theorem ggX2_copyFrom_X10_copyRow : GoodIn wsX2_copyFrom wsX10_copyRow := goodIn_r _ [8, 9, 10, 11, 12, 13, 14, 15, 16] (by decide +kernel) (by decide +kernel)
set_option maxRecDepth 20000 in
theorem gX2_copyFrom_X10_copyRow_n28 : GoodIn wsX2_copyFrom (wsX10_copyRow) := ggX2_copyFrom_X10_copyRow
set_option maxRecDepth 20000 in
theorem ggX2_note_X10_put : GoodIn wsX2_note wsX10_put := goodIn_r _ [8] (by decide +kernel) (by decide +kernel)
set_option maxRecDepth 20000 in
theorem gX2_note_X10_put_n32 : GoodIn wsX2_note (wsX10_put) := ggX2_note_X10_put
set_option maxRecDepth 20000 in
theorem ggX6_init_X7_init : GoodIn wsX6_init wsX7_init := goodIn_r _ [12, 13, 2, 3, 14, 15, 16, 17, 18, 19, 20, 21, 22, 23, 24, 25, 26, 27, 28, 29, 30, 31, 32, 33, 34, 35, 36, 37, 38, 39, 40, 41, 42, 53, 54, 55, 56, 57, 58, 59, 60, 61, 62, 63, 64, 65, 66, 67, 68, 69, 70] (by decide +kernel) (by decide +kernel)
set_option maxRecDepth 20000 in
theorem gX6_init_X7_init : GoodIn wsX6_init (wsX7_init) := ggX6_init_X7_init
set_option maxRecDepth 20000 in
theorem ggX6_parse_X6_nextToken : GoodIn wsX6_parse wsX6_nextToken := goodIn_r _ [12, 13, 1, 14, 3, 15, 16, 2, 17, 18, 19, 20, 21, 22, 23, 24, 25, 11, 26, 27, 28, 29, 30, 31, 32, 33, 34, 35, 36, 37, 38, 39, 40, 41, 42, 43, 44, 45, 46, 47, 48, 49, 178, 179, 180, 181, 182, 183, 184, 185, 186, 187, 188, 189] (by decide +kernel) (by decide +kernel)
set_option maxRecDepth 20000 in
theorem gX6_parse_X6_nextToken : GoodIn wsX6_parse (wsV RX6 26 RX6 yX6_nextToken wsX6_nextToken) := goodIn_app (goodIn_of _ (by decide +kernel)) ggX6_parse_X6_nextToken
set_option maxRecDepth 20000 in
theorem ggX6_parse_X6_spoolStatement : GoodIn wsX6_parse wsX6_spoolStatement := goodIn_r _ [53, 54, 55, 56, 57, 58, 59, 60, 11, 61, 3, 62, 63, 64, 65, 66, 14, 67, 8, 9, 10, 12, 13, 1, 15, 16, 2, 17, 18, 19, 20, 21, 22, 23, 24, 25, 26, 27, 28, 29, 30, 31, 32, 33, 34, 35, 36, 37, 38, 39, 40, 41, 42, 43, 44, 45, 46, 47, 48, 49, 68, 69, 70, 71, 72, 73, 74, 75, 76, 77, 78, 79, 178, 179, 180, 181, 182, 183, 184, 185, 186, 187, 190, 191, 192, 193, 194, 195, 196, 197, 198, 199, 200, 201, 202, 203, 204, 205, 188, 189] (by decide +kernel) (by decide +kernel)
set_option maxRecDepth 20000 in
theorem gX6_parse_X6_spoolStatement : GoodIn wsX6_parse (wsV RX6 29 RX6 yX6_spoolStatement wsX6_spoolStatement) := goodIn_app (goodIn_of _ (by decide +kernel)) ggX6_parse_X6_spoolStatement
set_option maxRecDepth 20000 in
theorem ggX6_parse_X6_classStatement : GoodIn wsX6_parse wsX6_classStatement := goodIn_r _ [83, 56, 84, 3, 85, 86, 87, 88, 89, 90, 91, 92, 93, 94, 62, 63, 64, 11, 65, 66, 14, 67, 8, 9, 10, 12, 13, 1, 15, 16, 2, 17, 18, 19, 20, 21, 22, 23, 24, 25, 26, 27, 28, 29, 30, 31, 32, 33, 34, 35, 36, 37, 38, 39, 40, 41, 42, 43, 44, 45, 46, 47, 48, 49, 95, 96, 97, 98, 99, 100, 101, 102, 103, 104, 105, 106, 107, 58, 59, 60, 61, 68, 69, 70, 71, 108, 109, 110, 111, 72, 73, 74, 75, 76, 77, 78, 79, 112, 113, 114, 115, 116, 117, 118, 119, 120, 121, 122, 123, 124, 125, 126, 178, 179, 180, 181, 182, 183, 184, 185, 186, 187, 190, 191, 192, 193, 194, 195, 196, 197, 198, 199, 200, 201, 202, 203, 204, 205, 206, 207, 188, 189] (by decide +kernel) (by decide +kernel)
set_option maxRecDepth 20000 in
theorem gX6_parse_X6_classStatement : GoodIn wsX6_parse (wsV RX6 50 RX6 yX6_classStatement wsX6_classStatement) := goodIn_app (goodIn_of _ (by decide +kernel)) ggX6_parse_X6_classStatement
set_option maxRecDepth 20000 in
theorem ggX6_parse_X6_userStatement : GoodIn wsX6_parse wsX6_userStatement := goodIn_r _ [130, 56, 4, 131, 132, 88, 89, 90, 91, 92, 93, 94, 62, 63, 64, 11, 65, 66, 14, 67, 8, 9, 10, 12, 13, 1, 3, 15, 16, 2, 17, 18, 19, 20, 21, 22, 23, 24, 25, 26, 27, 28, 29, 30, 31, 32, 33, 34, 35, 36, 37, 38, 39, 40, 41, 42, 43, 44, 45, 46, 47, 48, 49, 95, 96, 97, 98, 99, 100, 101, 102, 103, 104, 105, 106, 107, 58, 59, 60, 61, 108, 109, 110, 111, 68, 69, 70, 71, 72, 73, 74, 75, 76, 77, 78, 79, 133, 134, 135, 115, 136, 137, 138, 139, 121, 122, 123, 124, 125, 126, 178, 179, 180, 181, 182, 183, 184, 185, 186, 187, 190, 191, 192, 193, 194, 195, 196, 197, 198, 199, 200, 201, 202, 203, 204, 205, 206, 207, 188, 189] (by decide +kernel) (by decide +kernel)
set_option maxRecDepth 20000 in
theorem gX6_parse_X6_userStatement : GoodIn wsX6_parse (wsV RX6 56 RX6 yX6_userStatement wsX6_userStatement) := goodIn_app (goodIn_of _ (by decide +kernel)) ggX6_parse_X6_userStatement
set_option maxRecDepth 20000 in
theorem ggX6_parse_X6_groupStatement : GoodIn wsX6_parse wsX6_groupStatement := goodIn_r _ [143, 56, 1, 88, 89, 90, 91, 92, 93, 94, 62, 63, 64, 11, 65, 66, 14, 67, 8, 9, 10, 12, 13, 3, 15, 16, 2, 17, 18, 19, 20, 21, 22, 23, 24, 25, 26, 27, 28, 29, 30, 31, 32, 33, 34, 35, 36, 37, 38, 39, 40, 41, 42, 43, 44, 45, 46, 47, 48, 49, 95, 96, 97, 98, 99, 100, 101, 102, 103, 104, 105, 106, 107, 144, 145, 146, 147, 148, 149, 76, 77, 78, 79, 72, 73, 74, 75, 150, 151, 152, 115, 153, 154, 155, 121, 122, 123, 124, 125, 126, 178, 179, 180, 181, 182, 183, 184, 185, 186, 187, 190, 191, 192, 193, 194, 195, 196, 197, 198, 199, 200, 201, 202, 203, 204, 205, 206, 207, 188, 189] (by decide +kernel) (by decide +kernel)
set_option maxRecDepth 20000 in
theorem gX6_parse_X6_groupStatement : GoodIn wsX6_parse (wsV RX6 62 RX6 yX6_groupStatement wsX6_groupStatement) := goodIn_app (goodIn_of _ (by decide +kernel)) ggX6_parse_X6_groupStatement
set_option maxRecDepth 20000 in
theorem ggX6_parse_X6_holdStatement : GoodIn wsX6_parse wsX6_holdStatement := goodIn_r _ [159, 56, 5, 160, 3, 161, 162, 163, 88, 89, 90, 91, 92, 93, 94, 62, 63, 64, 11, 65, 66, 14, 67, 8, 9, 10, 12, 13, 1, 15, 16, 2, 17, 18, 19, 20, 21, 22, 23, 24, 25, 26, 27, 28, 29, 30, 31, 32, 33, 34, 35, 36, 37, 38, 39, 40, 41, 42, 43, 44, 45, 46, 47, 48, 49, 95, 96, 97, 98, 99, 100, 101, 102, 103, 104, 105, 106, 107, 58, 59, 60, 61, 108, 109, 110, 111, 68, 69, 70, 71, 164, 165, 166, 167, 168, 72, 73, 74, 75, 76, 77, 78, 79, 169, 170, 171, 115, 172, 173, 174, 175, 176, 177, 121, 122, 123, 124, 125, 126, 178, 179, 180, 181, 182, 183, 184, 185, 186, 187, 190, 191, 192, 193, 194, 195, 196, 197, 198, 199, 200, 201, 202, 203, 204, 205, 206, 207, 188, 189] (by decide +kernel) (by decide +kernel)
set_option maxRecDepth 20000 in
theorem gX6_parse_X6_holdStatement : GoodIn wsX6_parse (wsV RX6 68 RX6 yX6_holdStatement wsX6_holdStatement) := goodIn_app (goodIn_of _ (by decide +kernel)) ggX6_parse_X6_holdStatement
set_option maxRecDepth 20000 in
theorem ggX6_parse_X6_fail : GoodIn wsX6_parse wsX6_fail := goodIn_r _ [65, 66, 14, 67, 178, 179, 180, 181, 182, 183, 184, 185, 186, 187] (by decide +kernel) (by decide +kernel)
set_option maxRecDepth 20000 in
theorem gX6_parse_X6_fail : GoodIn wsX6_parse (wsV RX6 71 RX6 yX6_fail wsX6_fail) := goodIn_app (goodIn_of _ (by decide +kernel)) ggX6_parse_X6_fail
set_option maxRecDepth 20000 in
theorem ggX6_spoolStatement_X6_take : GoodIn wsX6_spoolStatement wsX6_take := goodIn_r _ [9, 10, 11, 12, 13, 8, 14, 15, 16, 17, 18, 19, 20, 21, 22, 23, 24, 25, 26, 27, 28, 29, 30, 31, 32, 33, 34, 35, 36, 37, 38, 39, 40, 41, 42, 43, 44, 45, 46, 47, 48, 49, 50, 51, 52, 53, 54, 55, 56, 57, 58, 59, 72, 73, 74, 75, 76, 77, 78, 79, 80, 81, 98, 99] (by decide +kernel) (by decide +kernel)
set_option maxRecDepth 20000 in
theorem gX6_spoolStatement_X6_take : GoodIn wsX6_spoolStatement (wsV RX6 78 RX6 yX6_take wsX6_take) := goodIn_app (goodIn_of _ (by decide +kernel)) ggX6_spoolStatement_X6_take
set_option maxRecDepth 20000 in
theorem ggX6_spoolStatement_X6_takeNumber : GoodIn wsX6_spoolStatement wsX6_takeNumber := goodIn_r _ [63, 26, 25, 11, 12, 13, 8, 14, 15, 16, 17, 18, 19, 20, 21, 22, 23, 10, 24, 27, 28, 29, 30, 31, 32, 33, 34, 35, 36, 37, 38, 39, 40, 41, 42, 43, 44, 45, 46, 47, 48, 49, 50, 51, 52, 53, 54, 55, 56, 57, 58, 59, 72, 73, 74, 75, 76, 77, 78, 79, 80, 81, 98, 99] (by decide +kernel) (by decide +kernel)
set_option maxRecDepth 20000 in
theorem gX6_spoolStatement_X6_takeNumber : GoodIn wsX6_spoolStatement (wsV RX6 85 RX6 yX6_takeNumber wsX6_takeNumber) := goodIn_app (goodIn_of _ (by decide +kernel)) ggX6_spoolStatement_X6_takeNumber
set_option maxRecDepth 20000 in
theorem ggX6_spoolStatement_X6_takeSymbol : GoodIn wsX6_spoolStatement wsX6_takeSymbol := goodIn_r _ [67, 68, 69, 70, 8, 71, 26, 25, 11, 12, 13, 14, 15, 16, 17, 18, 19, 20, 21, 22, 23, 10, 24, 27, 28, 29, 30, 31, 32, 33, 34, 35, 36, 37, 38, 39, 40, 41, 42, 43, 44, 45, 46, 47, 48, 49, 50, 51, 52, 53, 54, 55, 56, 57, 58, 59, 72, 73, 74, 75, 76, 77, 78, 79, 80, 81, 98, 99] (by decide +kernel) (by decide +kernel)
set_option maxRecDepth 20000 in
theorem gX6_spoolStatement_X6_takeSymbol : GoodIn wsX6_spoolStatement (wsV RX6 98 RX6 yX6_takeSymbol wsX6_takeSymbol) := goodIn_app (goodIn_of _ (by decide +kernel)) ggX6_spoolStatement_X6_takeSymbol
set_option maxRecDepth 20000 in
theorem ggX6_classStatement_X5_isFull : GoodIn wsX6_classStatement wsX5_isFull := goodIn_r _ [11, 12, 13, 138, 139] (by decide +kernel) (by decide +kernel)
set_option maxRecDepth 20000 in
theorem gX6_classStatement_X5_isFull : GoodIn wsX6_classStatement (wsV RX6 105 RX5 yX5_isFull wsX5_isFull) := goodIn_app (goodIn_of _ (by decide +kernel)) ggX6_classStatement_X5_isFull
set_option maxRecDepth 20000 in
theorem ggX6_classStatement_X6_fail : GoodIn wsX6_classStatement wsX6_fail := goodIn_r _ [18, 19, 20, 21, 112, 113, 114, 115, 116, 117, 118, 119, 120, 121] (by decide +kernel) (by decide +kernel)
set_option maxRecDepth 20000 in
theorem gX6_classStatement_X6_fail : GoodIn wsX6_classStatement (wsV RX6 71 RX6 yX6_fail wsX6_fail) := goodIn_app (goodIn_of _ (by decide +kernel)) ggX6_classStatement_X6_fail
set_option maxRecDepth 20000 in
theorem ggX6_classStatement_X6_nextToken : GoodIn wsX6_classStatement wsX6_nextToken := goodIn_r _ [25, 26, 27, 20, 3, 28, 29, 30, 31, 32, 33, 34, 35, 36, 37, 38, 39, 17, 40, 41, 42, 43, 44, 45, 46, 47, 48, 49, 50, 51, 52, 53, 54, 55, 56, 57, 58, 59, 60, 61, 62, 63, 112, 113, 114, 115, 116, 117, 118, 119, 120, 121, 140, 141] (by decide +kernel) (by decide +kernel)
set_option maxRecDepth 20000 in
theorem gX6_classStatement_X6_nextToken : GoodIn wsX6_classStatement (wsV RX6 26 RX6 yX6_nextToken wsX6_nextToken) := goodIn_app (goodIn_of _ (by decide +kernel)) ggX6_classStatement_X6_nextToken
set_option maxRecDepth 20000 in
theorem ggX6_classStatement_X6_takeNewName : GoodIn wsX6_classStatement wsX6_takeNewName := goodIn_r _ [67, 28, 68, 69, 70, 17, 71, 30, 3, 72, 14, 15, 16, 18, 19, 20, 21, 73, 74, 75, 10, 76, 12, 13, 22, 23, 24, 25, 26, 27, 29, 31, 32, 33, 34, 35, 36, 37, 38, 39, 40, 41, 42, 43, 44, 45, 46, 47, 48, 49, 50, 51, 52, 53, 54, 55, 56, 57, 58, 59, 60, 61, 62, 63, 112, 113, 114, 115, 116, 117, 118, 119, 120, 121, 138, 139, 140, 141] (by decide +kernel) (by decide +kernel)
set_option maxRecDepth 20000 in
theorem gX6_classStatement_X6_takeNewName : GoodIn wsX6_classStatement (wsV RX6 110 RX6 yX6_takeNewName wsX6_takeNewName) := goodIn_app (goodIn_of _ (by decide +kernel)) ggX6_classStatement_X6_takeNewName
set_option maxRecDepth 20000 in
theorem ggX6_classStatement_X6_take : GoodIn wsX6_classStatement wsX6_take := goodIn_r _ [80, 3, 14, 15, 16, 17, 18, 19, 20, 21, 22, 23, 24, 25, 26, 27, 28, 29, 30, 31, 32, 33, 34, 35, 36, 37, 38, 39, 40, 41, 42, 43, 44, 45, 46, 47, 48, 49, 50, 51, 52, 53, 54, 55, 56, 57, 58, 59, 60, 61, 62, 63, 112, 113, 114, 115, 116, 117, 118, 119, 120, 121, 140, 141] (by decide +kernel) (by decide +kernel)
set_option maxRecDepth 20000 in
theorem gX6_classStatement_X6_take : GoodIn wsX6_classStatement (wsV RX6 78 RX6 yX6_take wsX6_take) := goodIn_app (goodIn_of _ (by decide +kernel)) ggX6_classStatement_X6_take
set_option maxRecDepth 20000 in
theorem ggX6_classStatement_X6_takeNumber : GoodIn wsX6_classStatement wsX6_takeNumber := goodIn_r _ [84, 30, 29, 14, 15, 16, 17, 18, 19, 20, 21, 22, 23, 24, 25, 26, 27, 3, 28, 31, 32, 33, 34, 35, 36, 37, 38, 39, 40, 41, 42, 43, 44, 45, 46, 47, 48, 49, 50, 51, 52, 53, 54, 55, 56, 57, 58, 59, 60, 61, 62, 63, 112, 113, 114, 115, 116, 117, 118, 119, 120, 121, 140, 141] (by decide +kernel) (by decide +kernel)
set_option maxRecDepth 20000 in
theorem gX6_classStatement_X6_takeNumber : GoodIn wsX6_classStatement (wsV RX6 85 RX6 yX6_takeNumber wsX6_takeNumber) := goodIn_app (goodIn_of _ (by decide +kernel)) ggX6_classStatement_X6_takeNumber
set_option maxRecDepth 20000 in
theorem ggX6_classStatement_X6_takeKnown : GoodIn wsX6_classStatement wsX6_takeKnown := goodIn_r _ [88, 28, 68, 69, 70, 17, 71, 30, 3, 72, 73, 74, 75, 10, 76, 12, 13, 14, 15, 16, 18, 19, 20, 21, 22, 23, 24, 25, 26, 27, 29, 31, 32, 33, 34, 35, 36, 37, 38, 39, 40, 41, 42, 43, 44, 45, 46, 47, 48, 49, 50, 51, 52, 53, 54, 55, 56, 57, 58, 59, 60, 61, 62, 63, 112, 113, 114, 115, 116, 117, 118, 119, 120, 121, 138, 139, 140, 141] (by decide +kernel) (by decide +kernel)
set_option maxRecDepth 20000 in
theorem gX6_classStatement_X6_takeKnown : GoodIn wsX6_classStatement (wsV RX6 126 RX6 yX6_takeKnown wsX6_takeKnown) := goodIn_app (goodIn_of _ (by decide +kernel)) ggX6_classStatement_X6_takeKnown
set_option maxRecDepth 20000 in
theorem ggX6_classStatement_X6_takeSymbol : GoodIn wsX6_classStatement wsX6_takeSymbol := goodIn_r _ [92, 93, 94, 95, 17, 96, 30, 29, 14, 15, 16, 18, 19, 20, 21, 22, 23, 24, 25, 26, 27, 3, 28, 31, 32, 33, 34, 35, 36, 37, 38, 39, 40, 41, 42, 43, 44, 45, 46, 47, 48, 49, 50, 51, 52, 53, 54, 55, 56, 57, 58, 59, 60, 61, 62, 63, 112, 113, 114, 115, 116, 117, 118, 119, 120, 121, 140, 141] (by decide +kernel) (by decide +kernel)
set_option maxRecDepth 20000 in
theorem gX6_classStatement_X6_takeSymbol : GoodIn wsX6_classStatement (wsV RX6 98 RX6 yX6_takeSymbol wsX6_takeSymbol) := goodIn_app (goodIn_of _ (by decide +kernel)) ggX6_classStatement_X6_takeSymbol
set_option maxRecDepth 20000 in
theorem ggX6_classStatement_X7_addClass : GoodIn wsX6_classStatement wsX7_addClass := goodIn_r _ [101, 102, 103, 104, 105, 106, 107, 108, 10, 109, 12, 13, 110, 42, 111, 122, 123, 124, 125, 126, 127, 128, 129, 130, 131, 132, 133, 134, 135, 136, 137, 138, 139] (by decide +kernel) (by decide +kernel)
set_option maxRecDepth 20000 in
theorem gX6_classStatement_X7_addClass : GoodIn wsX6_classStatement (wsV RX6 130 RX7 yX7_addClass wsX7_addClass) := goodIn_app (goodIn_of _ (by decide +kernel)) ggX6_classStatement_X7_addClass
set_option maxRecDepth 20000 in
theorem ggX6_userStatement_X5_isFull : GoodIn wsX6_userStatement wsX5_isFull := goodIn_r _ [9, 10, 11, 136, 137] (by decide +kernel) (by decide +kernel)
set_option maxRecDepth 20000 in
theorem gX6_userStatement_X5_isFull : GoodIn wsX6_userStatement (wsV RX6 105 RX5 yX5_isFull wsX5_isFull) := goodIn_app (goodIn_of _ (by decide +kernel)) ggX6_userStatement_X5_isFull
set_option maxRecDepth 20000 in
theorem ggX6_userStatement_X6_fail : GoodIn wsX6_userStatement wsX6_fail := goodIn_r _ [16, 17, 18, 19, 110, 111, 112, 113, 114, 115, 116, 117, 118, 119] (by decide +kernel) (by decide +kernel)
set_option maxRecDepth 20000 in
theorem gX6_userStatement_X6_fail : GoodIn wsX6_userStatement (wsV RX6 71 RX6 yX6_fail wsX6_fail) := goodIn_app (goodIn_of _ (by decide +kernel)) ggX6_userStatement_X6_fail
set_option maxRecDepth 20000 in
theorem ggX6_userStatement_X6_nextToken : GoodIn wsX6_userStatement wsX6_nextToken := goodIn_r _ [23, 24, 25, 18, 26, 27, 28, 29, 30, 31, 32, 33, 34, 35, 36, 37, 38, 15, 39, 40, 41, 42, 43, 44, 45, 46, 47, 48, 49, 50, 51, 52, 53, 54, 55, 56, 57, 58, 59, 60, 61, 62, 110, 111, 112, 113, 114, 115, 116, 117, 118, 119, 138, 139] (by decide +kernel) (by decide +kernel)
set_option maxRecDepth 20000 in
theorem gX6_userStatement_X6_nextToken : GoodIn wsX6_userStatement (wsV RX6 26 RX6 yX6_nextToken wsX6_nextToken) := goodIn_app (goodIn_of _ (by decide +kernel)) ggX6_userStatement_X6_nextToken
set_option maxRecDepth 20000 in
theorem ggX6_userStatement_X6_takeNewName : GoodIn wsX6_userStatement wsX6_takeNewName := goodIn_r _ [66, 27, 67, 68, 69, 15, 70, 29, 26, 71, 12, 13, 14, 16, 17, 18, 19, 72, 73, 74, 8, 75, 10, 11, 20, 21, 22, 23, 24, 25, 28, 30, 31, 32, 33, 34, 35, 36, 37, 38, 39, 40, 41, 42, 43, 44, 45, 46, 47, 48, 49, 50, 51, 52, 53, 54, 55, 56, 57, 58, 59, 60, 61, 62, 110, 111, 112, 113, 114, 115, 116, 117, 118, 119, 136, 137, 138, 139] (by decide +kernel) (by decide +kernel)
set_option maxRecDepth 20000 in
theorem gX6_userStatement_X6_takeNewName : GoodIn wsX6_userStatement (wsV RX6 110 RX6 yX6_takeNewName wsX6_takeNewName) := goodIn_app (goodIn_of _ (by decide +kernel)) ggX6_userStatement_X6_takeNewName
set_option maxRecDepth 20000 in
theorem ggX6_userStatement_X6_take : GoodIn wsX6_userStatement wsX6_take := goodIn_r _ [79, 26, 12, 13, 14, 15, 16, 17, 18, 19, 20, 21, 22, 23, 24, 25, 27, 28, 29, 30, 31, 32, 33, 34, 35, 36, 37, 38, 39, 40, 41, 42, 43, 44, 45, 46, 47, 48, 49, 50, 51, 52, 53, 54, 55, 56, 57, 58, 59, 60, 61, 62, 110, 111, 112, 113, 114, 115, 116, 117, 118, 119, 138, 139] (by decide +kernel) (by decide +kernel)
set_option maxRecDepth 20000 in
theorem gX6_userStatement_X6_take : GoodIn wsX6_userStatement (wsV RX6 78 RX6 yX6_take wsX6_take) := goodIn_app (goodIn_of _ (by decide +kernel)) ggX6_userStatement_X6_take
set_option maxRecDepth 20000 in
theorem ggX6_userStatement_X6_takeKnown : GoodIn wsX6_userStatement wsX6_takeKnown := goodIn_r _ [83, 27, 67, 68, 69, 15, 70, 29, 26, 71, 72, 73, 74, 8, 75, 10, 11, 12, 13, 14, 16, 17, 18, 19, 20, 21, 22, 23, 24, 25, 28, 30, 31, 32, 33, 34, 35, 36, 37, 38, 39, 40, 41, 42, 43, 44, 45, 46, 47, 48, 49, 50, 51, 52, 53, 54, 55, 56, 57, 58, 59, 60, 61, 62, 110, 111, 112, 113, 114, 115, 116, 117, 118, 119, 136, 137, 138, 139] (by decide +kernel) (by decide +kernel)
set_option maxRecDepth 20000 in
theorem gX6_userStatement_X6_takeKnown : GoodIn wsX6_userStatement (wsV RX6 126 RX6 yX6_takeKnown wsX6_takeKnown) := goodIn_app (goodIn_of _ (by decide +kernel)) ggX6_userStatement_X6_takeKnown
set_option maxRecDepth 20000 in
theorem ggX6_userStatement_X6_takeNumber : GoodIn wsX6_userStatement wsX6_takeNumber := goodIn_r _ [87, 29, 28, 12, 13, 14, 15, 16, 17, 18, 19, 20, 21, 22, 23, 24, 25, 26, 27, 30, 31, 32, 33, 34, 35, 36, 37, 38, 39, 40, 41, 42, 43, 44, 45, 46, 47, 48, 49, 50, 51, 52, 53, 54, 55, 56, 57, 58, 59, 60, 61, 62, 110, 111, 112, 113, 114, 115, 116, 117, 118, 119, 138, 139] (by decide +kernel) (by decide +kernel)
set_option maxRecDepth 20000 in
theorem gX6_userStatement_X6_takeNumber : GoodIn wsX6_userStatement (wsV RX6 85 RX6 yX6_takeNumber wsX6_takeNumber) := goodIn_app (goodIn_of _ (by decide +kernel)) ggX6_userStatement_X6_takeNumber
set_option maxRecDepth 20000 in
theorem ggX6_userStatement_X6_takeSymbol : GoodIn wsX6_userStatement wsX6_takeSymbol := goodIn_r _ [91, 92, 93, 94, 15, 95, 29, 28, 12, 13, 14, 16, 17, 18, 19, 20, 21, 22, 23, 24, 25, 26, 27, 30, 31, 32, 33, 34, 35, 36, 37, 38, 39, 40, 41, 42, 43, 44, 45, 46, 47, 48, 49, 50, 51, 52, 53, 54, 55, 56, 57, 58, 59, 60, 61, 62, 110, 111, 112, 113, 114, 115, 116, 117, 118, 119, 138, 139] (by decide +kernel) (by decide +kernel)
set_option maxRecDepth 20000 in
theorem gX6_userStatement_X6_takeSymbol : GoodIn wsX6_userStatement (wsV RX6 98 RX6 yX6_takeSymbol wsX6_takeSymbol) := goodIn_app (goodIn_of _ (by decide +kernel)) ggX6_userStatement_X6_takeSymbol
set_option maxRecDepth 20000 in
theorem ggX6_userStatement_X7_addUser : GoodIn wsX6_userStatement wsX7_addUser := goodIn_r _ [100, 101, 102, 103, 104, 105, 106, 8, 107, 10, 11, 108, 41, 109, 120, 121, 122, 123, 124, 125, 126, 127, 128, 129, 130, 131, 132, 133, 134, 135, 136, 137] (by decide +kernel) (by decide +kernel)
set_option maxRecDepth 20000 in
theorem gX6_userStatement_X7_addUser : GoodIn wsX6_userStatement (wsV RX6 145 RX7 yX7_addUser wsX7_addUser) := goodIn_app (goodIn_of _ (by decide +kernel)) ggX6_userStatement_X7_addUser
set_option maxRecDepth 20000 in
theorem ggX6_groupStatement_X5_isFull : GoodIn wsX6_groupStatement wsX5_isFull := goodIn_r _ [7, 8, 9, 126, 127] (by decide +kernel) (by decide +kernel)
set_option maxRecDepth 20000 in
theorem gX6_groupStatement_X5_isFull : GoodIn wsX6_groupStatement (wsV RX6 105 RX5 yX5_isFull wsX5_isFull) := goodIn_app (goodIn_of _ (by decide +kernel)) ggX6_groupStatement_X5_isFull
set_option maxRecDepth 20000 in
theorem ggX6_groupStatement_X6_fail : GoodIn wsX6_groupStatement wsX6_fail := goodIn_r _ [14, 15, 16, 17, 100, 101, 102, 103, 104, 105, 106, 107, 108, 109] (by decide +kernel) (by decide +kernel)
set_option maxRecDepth 20000 in
theorem gX6_groupStatement_X6_fail : GoodIn wsX6_groupStatement (wsV RX6 71 RX6 yX6_fail wsX6_fail) := goodIn_app (goodIn_of _ (by decide +kernel)) ggX6_groupStatement_X6_fail
set_option maxRecDepth 20000 in
theorem ggX6_groupStatement_X6_nextToken : GoodIn wsX6_groupStatement wsX6_nextToken := goodIn_r _ [21, 22, 2, 16, 23, 24, 25, 26, 27, 28, 29, 30, 31, 32, 33, 34, 35, 13, 36, 37, 38, 39, 40, 41, 42, 43, 44, 45, 46, 47, 48, 49, 50, 51, 52, 53, 54, 55, 56, 57, 58, 59, 100, 101, 102, 103, 104, 105, 106, 107, 108, 109, 128, 129] (by decide +kernel) (by decide +kernel)
set_option maxRecDepth 20000 in
theorem gX6_groupStatement_X6_nextToken : GoodIn wsX6_groupStatement (wsV RX6 26 RX6 yX6_nextToken wsX6_nextToken) := goodIn_app (goodIn_of _ (by decide +kernel)) ggX6_groupStatement_X6_nextToken
set_option maxRecDepth 20000 in
theorem ggX6_groupStatement_X6_takeNewName : GoodIn wsX6_groupStatement wsX6_takeNewName := goodIn_r _ [63, 24, 64, 65, 66, 13, 67, 26, 23, 68, 10, 11, 12, 14, 15, 16, 17, 69, 70, 71, 6, 72, 8, 9, 18, 19, 20, 21, 22, 2, 25, 27, 28, 29, 30, 31, 32, 33, 34, 35, 36, 37, 38, 39, 40, 41, 42, 43, 44, 45, 46, 47, 48, 49, 50, 51, 52, 53, 54, 55, 56, 57, 58, 59, 100, 101, 102, 103, 104, 105, 106, 107, 108, 109, 126, 127, 128, 129] (by decide +kernel) (by decide +kernel)
set_option maxRecDepth 20000 in
theorem gX6_groupStatement_X6_takeNewName : GoodIn wsX6_groupStatement (wsV RX6 110 RX6 yX6_takeNewName wsX6_takeNewName) := goodIn_app (goodIn_of _ (by decide +kernel)) ggX6_groupStatement_X6_takeNewName
set_option maxRecDepth 20000 in
theorem ggX6_groupStatement_X6_takeMember : GoodIn wsX6_groupStatement wsX6_takeMember := goodIn_r _ [76, 1, 24, 64, 65, 66, 13, 67, 26, 23, 68, 69, 70, 71, 6, 72, 8, 9, 10, 11, 12, 14, 15, 16, 17, 18, 19, 20, 21, 22, 2, 25, 27, 28, 29, 30, 31, 32, 33, 34, 35, 36, 37, 38, 39, 40, 41, 42, 43, 44, 45, 46, 47, 48, 49, 50, 51, 52, 53, 54, 55, 56, 57, 58, 59, 77, 78, 100, 101, 102, 103, 104, 105, 106, 107, 108, 109, 110, 111, 112, 113, 114, 115, 116, 117, 118, 119, 120, 121, 122, 123, 124, 125, 126, 127, 128, 129] (by decide +kernel) (by decide +kernel)
set_option maxRecDepth 20000 in
theorem gX6_groupStatement_X6_takeMember : GoodIn wsX6_groupStatement (wsV RX6 149 RX6 yX6_takeMember wsX6_takeMember) := goodIn_app (goodIn_of _ (by decide +kernel)) ggX6_groupStatement_X6_takeMember
set_option maxRecDepth 20000 in
theorem ggX6_groupStatement_X6_isSymbol : GoodIn wsX6_groupStatement wsX6_isSymbol := goodIn_r _ [82, 26, 25, 100, 101, 102, 103, 104, 105, 106, 107, 108, 109] (by decide +kernel) (by decide +kernel)
set_option maxRecDepth 20000 in
theorem gX6_groupStatement_X6_isSymbol : GoodIn wsX6_groupStatement (wsV RX6 153 RX6 yX6_isSymbol wsX6_isSymbol) := goodIn_app (goodIn_of _ (by decide +kernel)) ggX6_groupStatement_X6_isSymbol
set_option maxRecDepth 20000 in
theorem ggX6_groupStatement_X6_takeSymbol : GoodIn wsX6_groupStatement wsX6_takeSymbol := goodIn_r _ [86, 79, 80, 81, 13, 82, 26, 25, 10, 11, 12, 14, 15, 16, 17, 18, 19, 20, 21, 22, 2, 23, 24, 27, 28, 29, 30, 31, 32, 33, 34, 35, 36, 37, 38, 39, 40, 41, 42, 43, 44, 45, 46, 47, 48, 49, 50, 51, 52, 53, 54, 55, 56, 57, 58, 59, 100, 101, 102, 103, 104, 105, 106, 107, 108, 109, 128, 129] (by decide +kernel) (by decide +kernel)
set_option maxRecDepth 20000 in
theorem gX6_groupStatement_X6_takeSymbol : GoodIn wsX6_groupStatement (wsV RX6 98 RX6 yX6_takeSymbol wsX6_takeSymbol) := goodIn_app (goodIn_of _ (by decide +kernel)) ggX6_groupStatement_X6_takeSymbol
set_option maxRecDepth 20000 in
theorem ggX6_groupStatement_X7_addGroup : GoodIn wsX6_groupStatement wsX7_addGroup := goodIn_r _ [91, 92, 93, 94, 95, 96, 6, 97, 8, 9, 98, 38, 99, 110, 111, 112, 113, 114, 115, 116, 117, 118, 119, 120, 121, 122, 123, 124, 125, 126, 127] (by decide +kernel) (by decide +kernel)
set_option maxRecDepth 20000 in
theorem gX6_groupStatement_X7_addGroup : GoodIn wsX6_groupStatement (wsV RX6 156 RX7 yX7_addGroup wsX7_addGroup) := goodIn_app (goodIn_of _ (by decide +kernel)) ggX6_groupStatement_X7_addGroup
set_option maxRecDepth 20000 in
theorem ggX6_holdStatement_X5_isFull : GoodIn wsX6_holdStatement wsX5_isFull := goodIn_r _ [12, 13, 14, 145, 146] (by decide +kernel) (by decide +kernel)
set_option maxRecDepth 20000 in
theorem gX6_holdStatement_X5_isFull : GoodIn wsX6_holdStatement (wsV RX6 105 RX5 yX5_isFull wsX5_isFull) := goodIn_app (goodIn_of _ (by decide +kernel)) ggX6_holdStatement_X5_isFull
set_option maxRecDepth 20000 in
theorem ggX6_holdStatement_X6_fail : GoodIn wsX6_holdStatement wsX6_fail := goodIn_r _ [19, 20, 21, 22, 119, 120, 121, 122, 123, 124, 125, 126, 127, 128] (by decide +kernel) (by decide +kernel)
set_option maxRecDepth 20000 in
theorem gX6_holdStatement_X6_fail : GoodIn wsX6_holdStatement (wsV RX6 71 RX6 yX6_fail wsX6_fail) := goodIn_app (goodIn_of _ (by decide +kernel)) ggX6_holdStatement_X6_fail
set_option maxRecDepth 20000 in
theorem ggX6_holdStatement_X6_nextToken : GoodIn wsX6_holdStatement wsX6_nextToken := goodIn_r _ [26, 27, 28, 21, 4, 29, 30, 31, 32, 33, 34, 35, 36, 37, 38, 39, 40, 18, 41, 42, 43, 44, 45, 46, 47, 48, 49, 50, 51, 52, 53, 54, 55, 56, 57, 58, 59, 60, 61, 62, 63, 64, 119, 120, 121, 122, 123, 124, 125, 126, 127, 128, 147, 148] (by decide +kernel) (by decide +kernel)
set_option maxRecDepth 20000 in
theorem gX6_holdStatement_X6_nextToken : GoodIn wsX6_holdStatement (wsV RX6 26 RX6 yX6_nextToken wsX6_nextToken) := goodIn_app (goodIn_of _ (by decide +kernel)) ggX6_holdStatement_X6_nextToken
set_option maxRecDepth 20000 in
theorem ggX6_holdStatement_X6_takeNewName : GoodIn wsX6_holdStatement wsX6_takeNewName := goodIn_r _ [68, 29, 69, 70, 71, 18, 72, 31, 4, 73, 15, 16, 17, 19, 20, 21, 22, 74, 75, 76, 11, 77, 13, 14, 23, 24, 25, 26, 27, 28, 30, 32, 33, 34, 35, 36, 37, 38, 39, 40, 41, 42, 43, 44, 45, 46, 47, 48, 49, 50, 51, 52, 53, 54, 55, 56, 57, 58, 59, 60, 61, 62, 63, 64, 119, 120, 121, 122, 123, 124, 125, 126, 127, 128, 145, 146, 147, 148] (by decide +kernel) (by decide +kernel)
set_option maxRecDepth 20000 in
theorem gX6_holdStatement_X6_takeNewName : GoodIn wsX6_holdStatement (wsV RX6 110 RX6 yX6_takeNewName wsX6_takeNewName) := goodIn_app (goodIn_of _ (by decide +kernel)) ggX6_holdStatement_X6_takeNewName
set_option maxRecDepth 20000 in
theorem ggX6_holdStatement_X6_take : GoodIn wsX6_holdStatement wsX6_take := goodIn_r _ [81, 4, 15, 16, 17, 18, 19, 20, 21, 22, 23, 24, 25, 26, 27, 28, 29, 30, 31, 32, 33, 34, 35, 36, 37, 38, 39, 40, 41, 42, 43, 44, 45, 46, 47, 48, 49, 50, 51, 52, 53, 54, 55, 56, 57, 58, 59, 60, 61, 62, 63, 64, 119, 120, 121, 122, 123, 124, 125, 126, 127, 128, 147, 148] (by decide +kernel) (by decide +kernel)
set_option maxRecDepth 20000 in
theorem gX6_holdStatement_X6_take : GoodIn wsX6_holdStatement (wsV RX6 78 RX6 yX6_take wsX6_take) := goodIn_app (goodIn_of _ (by decide +kernel)) ggX6_holdStatement_X6_take
set_option maxRecDepth 20000 in
theorem ggX6_holdStatement_X6_takeKnown : GoodIn wsX6_holdStatement wsX6_takeKnown := goodIn_r _ [85, 29, 69, 70, 71, 18, 72, 31, 4, 73, 74, 75, 76, 11, 77, 13, 14, 15, 16, 17, 19, 20, 21, 22, 23, 24, 25, 26, 27, 28, 30, 32, 33, 34, 35, 36, 37, 38, 39, 40, 41, 42, 43, 44, 45, 46, 47, 48, 49, 50, 51, 52, 53, 54, 55, 56, 57, 58, 59, 60, 61, 62, 63, 64, 119, 120, 121, 122, 123, 124, 125, 126, 127, 128, 145, 146, 147, 148] (by decide +kernel) (by decide +kernel)
set_option maxRecDepth 20000 in
theorem gX6_holdStatement_X6_takeKnown : GoodIn wsX6_holdStatement (wsV RX6 126 RX6 yX6_takeKnown wsX6_takeKnown) := goodIn_app (goodIn_of _ (by decide +kernel)) ggX6_holdStatement_X6_takeKnown
set_option maxRecDepth 20000 in
theorem ggX6_holdStatement_X6_takeNumber : GoodIn wsX6_holdStatement wsX6_takeNumber := goodIn_r _ [89, 31, 30, 15, 16, 17, 18, 19, 20, 21, 22, 23, 24, 25, 26, 27, 28, 4, 29, 32, 33, 34, 35, 36, 37, 38, 39, 40, 41, 42, 43, 44, 45, 46, 47, 48, 49, 50, 51, 52, 53, 54, 55, 56, 57, 58, 59, 60, 61, 62, 63, 64, 119, 120, 121, 122, 123, 124, 125, 126, 127, 128, 147, 148] (by decide +kernel) (by decide +kernel)
set_option maxRecDepth 20000 in
theorem gX6_holdStatement_X6_takeNumber : GoodIn wsX6_holdStatement (wsV RX6 85 RX6 yX6_takeNumber wsX6_takeNumber) := goodIn_app (goodIn_of _ (by decide +kernel)) ggX6_holdStatement_X6_takeNumber
set_option maxRecDepth 20000 in
theorem ggX6_holdStatement_X6_takeWord : GoodIn wsX6_holdStatement wsX6_takeWord := goodIn_r _ [93, 31, 29, 94, 15, 16, 17, 18, 19, 20, 21, 22, 23, 24, 25, 26, 27, 28, 4, 30, 32, 33, 34, 35, 36, 37, 38, 39, 40, 41, 42, 43, 44, 45, 46, 47, 48, 49, 50, 51, 52, 53, 54, 55, 56, 57, 58, 59, 60, 61, 62, 63, 64, 119, 120, 121, 122, 123, 124, 125, 126, 127, 128, 147, 148] (by decide +kernel) (by decide +kernel)
set_option maxRecDepth 20000 in
theorem gX6_holdStatement_X6_takeWord : GoodIn wsX6_holdStatement (wsV RX6 173 RX6 yX6_takeWord wsX6_takeWord) := goodIn_app (goodIn_of _ (by decide +kernel)) ggX6_holdStatement_X6_takeWord
set_option maxRecDepth 20000 in
theorem ggX6_holdStatement_X6_takeSymbol : GoodIn wsX6_holdStatement wsX6_takeSymbol := goodIn_r _ [98, 99, 100, 101, 18, 102, 31, 30, 15, 16, 17, 19, 20, 21, 22, 23, 24, 25, 26, 27, 28, 4, 29, 32, 33, 34, 35, 36, 37, 38, 39, 40, 41, 42, 43, 44, 45, 46, 47, 48, 49, 50, 51, 52, 53, 54, 55, 56, 57, 58, 59, 60, 61, 62, 63, 64, 119, 120, 121, 122, 123, 124, 125, 126, 127, 128, 147, 148] (by decide +kernel) (by decide +kernel)
set_option maxRecDepth 20000 in
theorem gX6_holdStatement_X6_takeSymbol : GoodIn wsX6_holdStatement (wsV RX6 98 RX6 yX6_takeSymbol wsX6_takeSymbol) := goodIn_app (goodIn_of _ (by decide +kernel)) ggX6_holdStatement_X6_takeSymbol
set_option maxRecDepth 20000 in
theorem ggX6_holdStatement_X7_addHold : GoodIn wsX6_holdStatement wsX7_addHold := goodIn_r _ [107, 108, 109, 110, 111, 112, 113, 114, 115, 11, 116, 13, 14, 117, 43, 118, 129, 130, 131, 132, 133, 134, 135, 136, 137, 138, 139, 140, 141, 142, 143, 144, 145, 146] (by decide +kernel) (by decide +kernel)
set_option maxRecDepth 20000 in
theorem gX6_holdStatement_X7_addHold : GoodIn wsX6_holdStatement (wsV RX6 177 RX7 yX7_addHold wsX7_addHold) := goodIn_app (goodIn_of _ (by decide +kernel)) ggX6_holdStatement_X7_addHold
set_option maxRecDepth 20000 in
theorem ggX6_take_X6_fail : GoodIn wsX6_take wsX6_fail := goodIn_r _ [6, 7, 8, 9, 52, 53, 54, 55, 56, 57, 58, 59, 60, 61] (by decide +kernel) (by decide +kernel)
set_option maxRecDepth 20000 in
theorem gX6_take_X6_fail : GoodIn wsX6_take (wsV RX6 71 RX6 yX6_fail wsX6_fail) := goodIn_app (goodIn_of _ (by decide +kernel)) ggX6_take_X6_fail
set_option maxRecDepth 20000 in
theorem ggX6_take_X6_nextToken : GoodIn wsX6_take wsX6_nextToken := goodIn_r _ [13, 14, 15, 8, 1, 16, 17, 18, 19, 20, 21, 22, 23, 24, 25, 26, 27, 5, 28, 29, 30, 31, 32, 33, 34, 35, 36, 37, 38, 39, 40, 41, 42, 43, 44, 45, 46, 47, 48, 49, 50, 51, 52, 53, 54, 55, 56, 57, 58, 59, 60, 61, 62, 63] (by decide +kernel) (by decide +kernel)
set_option maxRecDepth 20000 in
theorem gX6_take_X6_nextToken : GoodIn wsX6_take (wsV RX6 26 RX6 yX6_nextToken wsX6_nextToken) := goodIn_app (goodIn_of _ (by decide +kernel)) ggX6_take_X6_nextToken
set_option maxRecDepth 20000 in
theorem ggX6_takeSymbol_X6_isSymbol : GoodIn wsX6_takeSymbol wsX6_isSymbol := goodIn_r _ [5, 6, 7, 56, 57, 58, 59, 60, 61, 62, 63, 64, 65] (by decide +kernel) (by decide +kernel)
set_option maxRecDepth 20000 in
theorem gX6_takeSymbol_X6_isSymbol : GoodIn wsX6_takeSymbol (wsV RX6 153 RX6 yX6_isSymbol wsX6_isSymbol) := goodIn_app (goodIn_of _ (by decide +kernel)) ggX6_takeSymbol_X6_isSymbol
set_option maxRecDepth 20000 in
theorem ggX6_takeSymbol_X6_fail : GoodIn wsX6_takeSymbol wsX6_fail := goodIn_r _ [11, 12, 13, 14, 56, 57, 58, 59, 60, 61, 62, 63, 64, 65] (by decide +kernel) (by decide +kernel)
set_option maxRecDepth 20000 in
theorem gX6_takeSymbol_X6_fail : GoodIn wsX6_takeSymbol (wsV RX6 71 RX6 yX6_fail wsX6_fail) := goodIn_app (goodIn_of _ (by decide +kernel)) ggX6_takeSymbol_X6_fail
set_option maxRecDepth 20000 in
theorem ggX6_takeSymbol_X6_nextToken : GoodIn wsX6_takeSymbol wsX6_nextToken := goodIn_r _ [18, 19, 20, 13, 21, 22, 7, 6, 23, 24, 25, 26, 27, 28, 29, 30, 31, 4, 32, 33, 34, 35, 36, 37, 38, 39, 40, 41, 42, 43, 44, 45, 46, 47, 48, 49, 50, 51, 52, 53, 54, 55, 56, 57, 58, 59, 60, 61, 62, 63, 64, 65, 66, 67] (by decide +kernel) (by decide +kernel)
set_option maxRecDepth 20000 in
theorem gX6_takeSymbol_X6_nextToken : GoodIn wsX6_takeSymbol (wsV RX6 26 RX6 yX6_nextToken wsX6_nextToken) := goodIn_app (goodIn_of _ (by decide +kernel)) ggX6_takeSymbol_X6_nextToken
set_option maxRecDepth 20000 in
theorem ggX6_takeNumber_X6_fail : GoodIn wsX6_takeNumber wsX6_fail := goodIn_r _ [7, 8, 9, 10, 52, 53, 54, 55, 56, 57, 58, 59, 60, 61] (by decide +kernel) (by decide +kernel)
set_option maxRecDepth 20000 in
theorem gX6_takeNumber_X6_fail : GoodIn wsX6_takeNumber (wsV RX6 71 RX6 yX6_fail wsX6_fail) := goodIn_app (goodIn_of _ (by decide +kernel)) ggX6_takeNumber_X6_fail
set_option maxRecDepth 20000 in
theorem ggX6_takeNumber_X6_nextToken : GoodIn wsX6_takeNumber wsX6_nextToken := goodIn_r _ [14, 15, 16, 9, 17, 18, 2, 1, 19, 20, 21, 22, 23, 24, 25, 26, 27, 6, 28, 29, 30, 31, 32, 33, 34, 35, 36, 37, 38, 39, 40, 41, 42, 43, 44, 45, 46, 47, 48, 49, 50, 51, 52, 53, 54, 55, 56, 57, 58, 59, 60, 61, 62, 63] (by decide +kernel) (by decide +kernel)
set_option maxRecDepth 20000 in
theorem gX6_takeNumber_X6_nextToken : GoodIn wsX6_takeNumber (wsV RX6 26 RX6 yX6_nextToken wsX6_nextToken) := goodIn_app (goodIn_of _ (by decide +kernel)) ggX6_takeNumber_X6_nextToken
set_option maxRecDepth 20000 in
theorem ggX6_takeNewName_X6_isName : GoodIn wsX6_takeNewName wsX6_isName := goodIn_r _ [6, 7, 8, 1, 9, 64, 65, 66, 67, 68, 69, 70, 71, 72, 73] (by decide +kernel) (by decide +kernel)
set_option maxRecDepth 20000 in
theorem gX6_takeNewName_X6_isName : GoodIn wsX6_takeNewName (wsV RX6 196 RX6 yX6_isName wsX6_isName) := goodIn_app (goodIn_of _ (by decide +kernel)) ggX6_takeNewName_X6_isName
set_option maxRecDepth 20000 in
theorem ggX6_takeNewName_X6_fail : GoodIn wsX6_takeNewName wsX6_fail := goodIn_r _ [13, 14, 15, 16, 64, 65, 66, 67, 68, 69, 70, 71, 72, 73] (by decide +kernel) (by decide +kernel)
set_option maxRecDepth 20000 in
theorem gX6_takeNewName_X6_fail : GoodIn wsX6_takeNewName (wsV RX6 71 RX6 yX6_fail wsX6_fail) := goodIn_app (goodIn_of _ (by decide +kernel)) ggX6_takeNewName_X6_fail
set_option maxRecDepth 20000 in
theorem ggX6_takeNewName_X5_numberOf : GoodIn wsX6_takeNewName wsX5_numberOf := goodIn_r _ [21, 22, 23, 74, 75] (by decide +kernel) (by decide +kernel)
set_option maxRecDepth 20000 in
theorem gX6_takeNewName_X5_numberOf : GoodIn wsX6_takeNewName (wsV RX6 199 RX5 yX5_numberOf wsX5_numberOf) := goodIn_app (goodIn_of _ (by decide +kernel)) ggX6_takeNewName_X5_numberOf
set_option maxRecDepth 20000 in
theorem ggX6_takeNewName_X6_nextToken : GoodIn wsX6_takeNewName wsX6_nextToken := goodIn_r _ [27, 28, 29, 15, 8, 1, 30, 7, 31, 32, 33, 34, 35, 36, 37, 38, 39, 5, 40, 41, 42, 43, 44, 45, 46, 47, 48, 49, 50, 51, 52, 53, 54, 55, 56, 57, 58, 59, 60, 61, 62, 63, 64, 65, 66, 67, 68, 69, 70, 71, 72, 73, 76, 77] (by decide +kernel) (by decide +kernel)
