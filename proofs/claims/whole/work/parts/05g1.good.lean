set_option maxRecDepth 20000 in
theorem ggX8_usageOf_X8_messageAt : GoodIn wsX8_usageOf wsX8_messageAt := goodIn_r _ [21, 1, 22, 23, 24, 25, 26, 27, 28, 29, 30, 31, 32, 33, 34, 35, 36, 37, 38, 39] rfl (by decide +kernel)
set_option maxRecDepth 20000 in
theorem gX8_usageOf_X8_messageAt : GoodIn wsX8_usageOf (wsV RX8 123 RX8 yX8_messageAt wsX8_messageAt) := goodIn_app (goodIn_of _ (by decide +kernel)) ggX8_usageOf_X8_messageAt
set_option maxRecDepth 20000 in
theorem ggX8_liveOf_X8_stateOf : GoodIn wsX8_liveOf wsX8_stateOf := goodIn_r _ [6, 1, 7, 8, 9, 10, 11, 12, 13, 14, 15, 16, 17, 18, 19, 20, 21, 22, 23, 24, 25, 26, 27, 28, 29, 30, 31, 32, 33, 34, 35, 36, 37, 38, 39, 40, 41, 42, 43, 44, 45, 46, 47, 48, 49, 50, 51] rfl (by decide +kernel)
set_option maxRecDepth 20000 in
theorem gX8_liveOf_X8_stateOf : GoodIn wsX8_liveOf (wsV RX8 116 RX8 yX8_stateOf wsX8_stateOf) := goodIn_app (goodIn_of _ (by decide +kernel)) ggX8_liveOf_X8_stateOf
set_option maxRecDepth 20000 in
theorem ggX8_liveInClass_X8_stateOf : GoodIn wsX8_liveInClass wsX8_stateOf := goodIn_r _ [6, 1, 7, 8, 9, 10, 11, 12, 13, 14, 15, 16, 17, 23, 24, 25, 26, 27, 28, 29, 30, 31, 32, 33, 34, 35, 36, 37, 38, 39, 40, 41, 42, 43, 44, 45, 46, 47, 48, 49, 50, 51, 52, 53, 54, 55, 56] rfl (by decide +kernel)
set_option maxRecDepth 20000 in
theorem gX8_liveInClass_X8_stateOf : GoodIn wsX8_liveInClass (wsV RX8 116 RX8 yX8_stateOf wsX8_stateOf) := goodIn_app (goodIn_of _ (by decide +kernel)) ggX8_liveInClass_X8_stateOf
set_option maxRecDepth 20000 in
theorem ggX8_liveInClass_X8_retentionOf : GoodIn wsX8_liveInClass wsX8_retentionOf := goodIn_r _ [21, 22, 15, 16, 17, 23, 24, 25, 26, 27, 28, 29, 30, 31, 32, 33, 34, 35, 36, 37, 38] rfl (by decide +kernel)
set_option maxRecDepth 20000 in
theorem gX8_liveInClass_X8_retentionOf : GoodIn wsX8_liveInClass (wsV RX8 135 RX8 yX8_retentionOf wsX8_retentionOf) := goodIn_app (goodIn_of _ (by decide +kernel)) ggX8_liveInClass_X8_retentionOf
set_option maxRecDepth 20000 in
theorem ggX8_classKeeps_X8_retentionOf : GoodIn wsX8_classKeeps wsX8_retentionOf := goodIn_r _ [6, 7, 8, 9, 10, 27, 28, 29, 30, 31, 32, 33, 34, 35, 36, 37, 38, 39, 40, 41, 42] rfl (by decide +kernel)
set_option maxRecDepth 20000 in
theorem gX8_classKeeps_X8_retentionOf : GoodIn wsX8_classKeeps (wsV RX8 135 RX8 yX8_retentionOf wsX8_retentionOf) := goodIn_app (goodIn_of _ (by decide +kernel)) ggX8_classKeeps_X8_retentionOf
set_option maxRecDepth 20000 in
theorem ggX8_classKeeps_X8_stateOf : GoodIn wsX8_classKeeps wsX8_stateOf := goodIn_r _ [14, 15, 1, 16, 17, 18, 19, 20, 21, 22, 8, 9, 10, 27, 28, 29, 30, 31, 32, 33, 34, 35, 36, 37, 38, 39, 40, 41, 42, 43, 44, 45, 46, 47, 48, 49, 50, 51, 52, 53, 54, 55, 56, 57, 58, 59, 60] rfl (by decide +kernel)
set_option maxRecDepth 20000 in
theorem gX8_classKeeps_X8_stateOf : GoodIn wsX8_classKeeps (wsV RX8 116 RX8 yX8_stateOf wsX8_stateOf) := goodIn_app (goodIn_of _ (by decide +kernel)) ggX8_classKeeps_X8_stateOf
set_option maxRecDepth 20000 in
theorem ggX8_classKeeps_X8_liveInClass : GoodIn wsX8_classKeeps wsX8_liveInClass := goodIn_r _ [26, 15, 11, 12, 13, 5, 14, 1, 16, 17, 18, 19, 20, 21, 22, 8, 9, 10, 2, 3, 4, 6, 7, 27, 28, 29, 30, 31, 32, 33, 34, 35, 36, 37, 38, 39, 40, 41, 42, 43, 44, 45, 46, 47, 48, 49, 50, 51, 52, 53, 54, 55, 56, 57, 58, 59, 60] rfl (by decide +kernel)
set_option maxRecDepth 20000 in
theorem gX8_classKeeps_X8_liveInClass : GoodIn wsX8_classKeeps (wsV RX8 138 RX8 yX8_liveInClass wsX8_liveInClass) := goodIn_app (goodIn_of _ (by decide +kernel)) ggX8_classKeeps_X8_liveInClass
set_option maxRecDepth 20000 in
theorem ggX8_classKeeps_X10_at : GoodIn wsX8_classKeeps wsX10_at := goodIn_r _ [10] rfl (by decide +kernel)
set_option maxRecDepth 20000 in
theorem gX8_classKeeps_X10_at_n112 : GoodIn wsX8_classKeeps (wsX10_at) := ggX8_classKeeps_X10_at
set_option maxRecDepth 20000 in
theorem ggX8_expiryOf_X8_retentionOf : GoodIn wsX8_expiryOf wsX8_retentionOf := goodIn_r _ [12, 13, 14, 15, 16, 36, 37, 38, 39, 40, 41, 42, 43, 44, 45, 46, 47, 48, 49, 50, 51] rfl (by decide +kernel)
set_option maxRecDepth 20000 in
theorem gX8_expiryOf_X8_retentionOf : GoodIn wsX8_expiryOf (wsV RX8 135 RX8 yX8_retentionOf wsX8_retentionOf) := goodIn_app (goodIn_of _ (by decide +kernel)) ggX8_expiryOf_X8_retentionOf
set_option maxRecDepth 20000 in
theorem ggX8_expiryOf_X7_ladderFrom : GoodIn wsX8_expiryOf wsX7_ladderFrom := goodIn_r _ [21, 22, 23, 14, 15, 16, 52, 53, 54, 55, 56, 57, 58, 59, 60, 61, 62, 63, 64, 65, 66, 67] rfl (by decide +kernel)
set_option maxRecDepth 20000 in
theorem gX8_expiryOf_X7_ladderFrom : GoodIn wsX8_expiryOf (wsV RX8 145 RX7 yX7_ladderFrom wsX7_ladderFrom) := goodIn_app (goodIn_of _ (by decide +kernel)) ggX8_expiryOf_X7_ladderFrom
set_option maxRecDepth 20000 in
theorem ggX8_expiryOf_X8_stateOf : GoodIn wsX8_expiryOf wsX8_stateOf := goodIn_r _ [27, 28, 1, 29, 30, 31, 32, 33, 34, 35, 14, 15, 16, 36, 37, 38, 39, 40, 41, 42, 43, 44, 45, 46, 47, 48, 49, 50, 51, 52, 53, 54, 55, 56, 57, 58, 59, 60, 61, 62, 63, 64, 65, 66, 67, 68, 69] rfl (by decide +kernel)
set_option maxRecDepth 20000 in
theorem gX8_expiryOf_X8_stateOf : GoodIn wsX8_expiryOf (wsV RX8 116 RX8 yX8_stateOf wsX8_stateOf) := goodIn_app (goodIn_of _ (by decide +kernel)) ggX8_expiryOf_X8_stateOf
set_option maxRecDepth 20000 in
theorem ggX8_expiryOf_X10_at : GoodIn wsX8_expiryOf wsX10_at := goodIn_r _ [16] rfl (by decide +kernel)
set_option maxRecDepth 20000 in
theorem gX8_expiryOf_X10_at_n112 : GoodIn wsX8_expiryOf (wsX10_at) := ggX8_expiryOf_X10_at
set_option maxRecDepth 20000 in
theorem ggX8_hasWord_X8_messageAt : GoodIn wsX8_hasWord wsX8_messageAt := goodIn_r _ [6, 7, 8, 9, 42, 43, 44, 45, 46, 47, 48, 49, 50, 51, 52, 53, 54, 55, 56, 57] rfl (by decide +kernel)
set_option maxRecDepth 20000 in
theorem gX8_hasWord_X8_messageAt : GoodIn wsX8_hasWord (wsV RX8 123 RX8 yX8_messageAt wsX8_messageAt) := goodIn_app (goodIn_of _ (by decide +kernel)) ggX8_hasWord_X8_messageAt
set_option maxRecDepth 20000 in
theorem ggX8_hasWord_X9_bytesOf : GoodIn wsX8_hasWord wsX9_bytesOf := goodIn_r _ [14, 15, 16, 17, 58, 59, 60, 61, 62, 63, 64, 65] rfl (by decide +kernel)
set_option maxRecDepth 20000 in
theorem gX8_hasWord_X9_bytesOf : GoodIn wsX8_hasWord (wsV RX8 159 RX9 yX9_bytesOf wsX9_bytesOf) := goodIn_app (goodIn_of _ (by decide +kernel)) ggX8_hasWord_X9_bytesOf
set_option maxRecDepth 20000 in
theorem ggX8_hasWord_X0_hasWord : GoodIn wsX8_hasWord wsX0_hasWord := goodIn_r _ [22, 23, 24, 25, 26, 21, 27, 28, 29, 30, 31, 32, 33, 34, 35, 36, 66, 67] rfl (by decide +kernel)
set_option maxRecDepth 20000 in
theorem gX8_hasWord_X0_hasWord : GoodIn wsX8_hasWord (wsV RX8 163 RX0 yX0_hasWord wsX0_hasWord) := goodIn_app (goodIn_of _ (by decide +kernel)) ggX8_hasWord_X0_hasWord
set_option maxRecDepth 20000 in
theorem ggX8_liveWithWord_X8_stateOf : GoodIn wsX8_liveWithWord wsX8_stateOf := goodIn_r _ [6, 1, 7, 8, 9, 10, 11, 12, 13, 14, 15, 16, 17, 55, 56, 57, 58, 59, 60, 61, 62, 63, 64, 65, 66, 67, 68, 69, 70, 71, 72, 73, 74, 75, 76, 77, 78, 79, 80, 81, 82, 83, 84, 85, 86, 87, 88] rfl (by decide +kernel)
set_option maxRecDepth 20000 in
theorem gX8_liveWithWord_X8_stateOf : GoodIn wsX8_liveWithWord (wsV RX8 116 RX8 yX8_stateOf wsX8_stateOf) := goodIn_app (goodIn_of _ (by decide +kernel)) ggX8_liveWithWord_X8_stateOf
set_option maxRecDepth 20000 in
theorem ggX8_liveWithWord_X8_hasWord : GoodIn wsX8_liveWithWord wsX8_hasWord := goodIn_r _ [21, 22, 23, 24, 25, 5, 26, 1, 27, 28, 29, 30, 31, 32, 33, 34, 35, 36, 37, 38, 39, 40, 41, 42, 43, 44, 45, 46, 47, 48, 16, 49, 50, 51, 52, 53, 54, 89, 90, 91, 92, 93, 55, 56, 57, 58, 59, 60, 61, 62, 63, 64, 65, 66, 67, 68, 69, 70, 94, 95, 96, 97, 98, 99, 100, 101, 102, 103] rfl (by decide +kernel)
set_option maxRecDepth 20000 in
theorem gX8_liveWithWord_X8_hasWord : GoodIn wsX8_liveWithWord (wsV RX8 169 RX8 yX8_hasWord wsX8_hasWord) := goodIn_app (goodIn_of _ (by decide +kernel)) ggX8_liveWithWord_X8_hasWord
set_option maxRecDepth 20000 in
theorem ggX8_gatherReaders_J7_fill_53178 : GoodIn wsX8_gatherReaders wsJ7_fill_53178 := goodIn_r _ [5] rfl (by decide +kernel)
set_option maxRecDepth 20000 in
theorem gX8_gatherReaders_J7_fill_53178 : GoodIn wsX8_gatherReaders (va_wsS RX8 172 yJ7_fill_53178 wsJ7_fill_53178) := goodIn_app (goodIn_of _ (by decide +kernel)) ggX8_gatherReaders_J7_fill_53178
set_option maxRecDepth 20000 in
theorem ggX8_gatherReaders_X8_usersIn : GoodIn wsX8_gatherReaders wsX8_usersIn := goodIn_r _ [10, 11, 12, 13, 14, 9, 15, 1, 16, 17, 18, 19, 20, 21, 22, 23, 24, 25, 34, 35, 36, 37, 38, 39, 40, 41, 42, 43, 44, 45, 46, 47, 48, 49, 55, 56, 57, 58, 59, 60, 61, 62, 63, 64, 65, 66, 67, 68, 69, 70, 71, 72] rfl (by decide +kernel)
set_option maxRecDepth 20000 in
theorem gX8_gatherReaders_X8_usersIn : GoodIn wsX8_gatherReaders (wsV RX8 178 RX8 yX8_usersIn wsX8_usersIn) := goodIn_app (goodIn_of _ (by decide +kernel)) ggX8_gatherReaders_X8_usersIn
set_option maxRecDepth 20000 in
theorem ggX8_gatherReaders_X8_messageAt : GoodIn wsX8_gatherReaders wsX8_messageAt := goodIn_r _ [29, 1, 30, 31, 34, 35, 36, 37, 38, 39, 40, 41, 42, 43, 44, 45, 46, 47, 48, 49] rfl (by decide +kernel)
set_option maxRecDepth 20000 in
theorem gX8_gatherReaders_X8_messageAt : GoodIn wsX8_gatherReaders (wsV RX8 123 RX8 yX8_messageAt wsX8_messageAt) := goodIn_app (goodIn_of _ (by decide +kernel)) ggX8_gatherReaders_X8_messageAt
set_option maxRecDepth 20000 in
theorem ggX8_gatherReaders_X10_at : GoodIn wsX8_gatherReaders wsX10_at := goodIn_r _ [25] rfl (by decide +kernel)
set_option maxRecDepth 20000 in
theorem gX8_gatherReaders_X10_at_n112 : GoodIn wsX8_gatherReaders (wsX10_at) := ggX8_gatherReaders_X10_at
set_option maxRecDepth 20000 in
theorem ggX8_gatherReaders_X10_put : GoodIn wsX8_gatherReaders wsX10_put := goodIn_r _ [33] rfl (by decide +kernel)
set_option maxRecDepth 20000 in
theorem gX8_gatherReaders_X10_put_n181 : GoodIn wsX8_gatherReaders (wsX10_put) := ggX8_gatherReaders_X10_put
set_option maxRecDepth 20000 in
theorem ggX8_hiddenOnlyBy_X10_at : GoodIn wsX8_hiddenOnlyBy wsX10_at := goodIn_r _ [5] rfl (by decide +kernel)
set_option maxRecDepth 20000 in
theorem gX8_hiddenOnlyBy_X10_at_n112 : GoodIn wsX8_hiddenOnlyBy (wsX10_at) := ggX8_hiddenOnlyBy_X10_at
set_option maxRecDepth 20000 in
theorem ggX8_hiddenOnlyBy_X8_isHidden : GoodIn wsX8_hiddenOnlyBy wsX8_isHidden := goodIn_r _ [10, 11, 12, 13, 9, 14, 2, 1, 15, 16, 17, 18, 19, 20, 21, 3, 4, 5, 40, 41, 42, 43, 44, 45, 46, 47, 48, 49, 50, 51, 52, 53, 54, 55, 56, 57, 58, 59, 60, 61, 62, 63, 64, 65, 66, 67, 68, 69, 70, 71, 72, 73] rfl (by decide +kernel)
set_option maxRecDepth 20000 in
theorem gX8_hiddenOnlyBy_X8_isHidden : GoodIn wsX8_hiddenOnlyBy (wsV RX8 188 RX8 yX8_isHidden wsX8_isHidden) := goodIn_app (goodIn_of _ (by decide +kernel)) ggX8_hiddenOnlyBy_X8_isHidden
set_option maxRecDepth 20000 in
theorem ggX8_hiddenOnlyBy_X8_holdsCovering : GoodIn wsX8_hiddenOnlyBy wsX8_holdsCovering := goodIn_r _ [25, 26, 1, 27, 28, 29, 9, 30, 2, 31, 32, 33, 34, 35, 36, 37, 38, 39, 3, 4, 5, 40, 41, 42, 43, 44, 45, 46, 47, 48, 49, 50, 51, 52, 53, 54, 55, 74, 75, 76, 77, 78, 56, 57, 58, 59, 60, 61, 62, 63, 64, 65, 66, 67, 68, 69, 70, 71, 72, 73] rfl (by decide +kernel)
set_option maxRecDepth 20000 in
theorem gX8_hiddenOnlyBy_X8_holdsCovering : GoodIn wsX8_hiddenOnlyBy (wsV RX8 192 RX8 yX8_holdsCovering wsX8_holdsCovering) := goodIn_app (goodIn_of _ (by decide +kernel)) ggX8_hiddenOnlyBy_X8_holdsCovering
set_option maxRecDepth 20000 in
theorem ggX8_receive_X1_sizeOfAll : GoodIn wsX8_receive wsX1_sizeOfAll := goodIn_r _ [14, 15, 16, 17, 18, 13, 19, 20, 21, 22, 23, 24, 212, 213, 214, 215] rfl (by decide +kernel)
set_option maxRecDepth 20000 in
theorem gX8_receive_X1_sizeOfAll : GoodIn wsX8_receive (wsV RX8 195 RX1 yX1_sizeOfAll wsX1_sizeOfAll) := goodIn_app (goodIn_of _ (by decide +kernel)) ggX8_receive_X1_sizeOfAll
set_option maxRecDepth 20000 in
theorem ggX8_receive_X8_bounce : GoodIn wsX8_receive wsX8_bounce := goodIn_r _ [29, 30, 31, 8, 6, 32, 23, 33, 34, 35, 36, 28, 37, 2, 38, 39, 40, 41, 42, 43, 44, 45, 46, 47, 48, 22, 24, 49, 50, 51, 52, 9, 53, 54, 55, 56, 57, 58, 59, 60, 61, 62, 63, 64, 65, 191, 192, 193, 194, 195, 196, 197, 198, 199, 200, 201, 202, 203, 204, 205, 206, 216, 217, 218, 219, 220, 221, 222, 223, 224, 225, 226, 227, 228, 229, 230, 231, 232, 233, 207, 208, 209, 210, 211, 234, 235, 236, 237, 238] rfl (by decide +kernel)
set_option maxRecDepth 20000 in
theorem gX8_receive_X8_bounce : GoodIn wsX8_receive (wsV RX8 200 RX8 yX8_bounce wsX8_bounce) := goodIn_app (goodIn_of _ (by decide +kernel)) ggX8_receive_X8_bounce
set_option maxRecDepth 20000 in
theorem ggX8_receive_X4_init : GoodIn wsX8_receive wsX4_init := goodIn_r _ [68, 69, 70, 71, 72, 73, 74, 75, 76, 77, 78, 79, 80, 207, 208, 209, 210, 211] rfl (by decide +kernel)
set_option maxRecDepth 20000 in
theorem gX8_receive_X4_init : GoodIn wsX8_receive (wsX4_init) := ggX8_receive_X4_init
set_option maxRecDepth 20000 in
theorem ggX8_receive_X9_numberFor : GoodIn wsX8_receive wsX9_numberFor := goodIn_r _ [85, 86, 87, 88, 89, 90, 91, 92, 93, 94, 84, 95, 96, 97, 98, 99, 22, 23, 24, 100, 101, 102, 103, 104, 105, 106, 107, 13, 108, 109, 21, 20, 110, 111, 112, 113, 114, 115, 116, 117, 118, 119, 120, 121, 122, 123, 124, 125, 126, 16, 17, 18, 19, 127, 128, 129, 130, 70, 71, 131, 76, 77, 78, 132, 133, 134, 135, 136, 137, 138, 139, 140, 64, 65, 239, 240, 241, 242, 243, 244, 245, 246, 212, 213, 214, 215, 247, 248] rfl (by decide +kernel)
set_option maxRecDepth 20000 in
theorem gX8_receive_X9_numberFor : GoodIn wsX8_receive (wsV RX8 206 RX9 yX9_numberFor wsX9_numberFor) := goodIn_app (goodIn_of _ (by decide +kernel)) ggX8_receive_X9_numberFor
set_option maxRecDepth 20000 in
theorem ggX8_receive_X10_put : GoodIn wsX8_receive wsX10_put := goodIn_r _ [65] rfl (by decide +kernel)
set_option maxRecDepth 20000 in
theorem gX8_receive_X10_put_n181 : GoodIn wsX8_receive (wsX10_put) := ggX8_receive_X10_put
set_option maxRecDepth 20000 in
theorem ggX8_receive_X1_isFirstOfItsKind : GoodIn wsX8_receive wsX1_isFirstOfItsKind := goodIn_r _ [144, 145, 146, 147, 13, 148, 109, 21, 16, 17, 18, 19, 20, 22, 23, 24, 149, 117, 118, 113, 119, 115, 120, 212, 213, 214, 215, 247, 248] rfl (by decide +kernel)
set_option maxRecDepth 20000 in
theorem gX8_receive_X1_isFirstOfItsKind : GoodIn wsX8_receive (wsV RX8 210 RX1 yX1_isFirstOfItsKind wsX1_isFirstOfItsKind) := goodIn_app (goodIn_of _ (by decide +kernel)) ggX8_receive_X1_isFirstOfItsKind
set_option maxRecDepth 20000 in
theorem ggX8_receive_X9_addKeeper : GoodIn wsX8_receive wsX9_addKeeper := goodIn_r _ [153, 89, 90, 154, 22, 23, 24, 64, 65, 155, 156, 157, 84, 158, 96, 97, 98, 99, 86, 239, 240, 241, 242, 243, 244, 245, 246] rfl (by decide +kernel)
set_option maxRecDepth 20000 in
theorem gX8_receive_X9_addKeeper : GoodIn wsX8_receive (wsV RX8 213 RX9 yX9_addKeeper wsX9_addKeeper) := goodIn_app (goodIn_of _ (by decide +kernel)) ggX8_receive_X9_addKeeper
set_option maxRecDepth 20000 in
theorem ggX8_receive_X2_note : GoodIn wsX8_receive wsX2_note := goodIn_r _ [58, 59, 60, 61, 62, 63, 64, 23, 65, 234, 235, 236, 237, 238] rfl (by decide +kernel)
set_option maxRecDepth 20000 in
theorem gX8_receive_X2_note : GoodIn wsX8_receive (wsV RX8 216 RX2 yX2_note wsX2_note) := goodIn_app (goodIn_of _ (by decide +kernel)) ggX8_receive_X2_note
set_option maxRecDepth 20000 in
theorem ggX8_receive_X8_holdsAskingFor : GoodIn wsX8_receive wsX8_holdsAskingFor := goodIn_r _ [162, 30, 6, 163, 164, 165, 166, 167, 168, 22, 23, 24, 169, 170, 171, 28, 172, 7, 49, 50, 51, 52, 2, 9, 53, 173, 101, 102, 84, 103, 86, 87, 104, 174, 175, 176, 113, 177, 115, 116, 117, 118, 119, 120, 178, 179, 180, 181, 182, 183, 184, 191, 192, 193, 194, 195, 196, 197, 198, 199, 200, 201, 202, 203, 204, 205, 206, 216, 217, 218, 219, 220, 221, 222, 223, 224, 225, 226, 227, 228, 229, 230, 231, 232, 233, 207, 208, 209, 210, 211, 239, 240, 241, 242, 243, 244, 245, 246, 247, 248] rfl (by decide +kernel)
set_option maxRecDepth 20000 in
theorem gX8_receive_X8_holdsAskingFor : GoodIn wsX8_receive (wsV RX8 220 RX8 yX8_holdsAskingFor wsX8_holdsAskingFor) := goodIn_app (goodIn_of _ (by decide +kernel)) ggX8_receive_X8_holdsAskingFor
set_option maxRecDepth 20000 in
theorem ggX8_receive_X8_addReferences : GoodIn wsX8_receive wsX8_addReferences := goodIn_r _ [188, 42, 189, 30, 190, 6, 32, 23, 33, 64, 65, 22, 24, 191, 192, 193, 194, 195, 196, 197, 198, 199, 200, 201, 202, 203, 204, 205, 206, 216, 217, 218, 219, 220, 221, 222, 223, 224, 225, 226, 227, 228, 229, 230, 231] rfl (by decide +kernel)
set_option maxRecDepth 20000 in
theorem gX8_receive_X8_addReferences : GoodIn wsX8_receive (wsV RX8 223 RX8 yX8_addReferences wsX8_addReferences) := goodIn_app (goodIn_of _ (by decide +kernel)) ggX8_receive_X8_addReferences
set_option maxRecDepth 20000 in
theorem ggX8_bounce_X10_hasBit : GoodIn wsX8_bounce wsX10_hasBit := goodIn_r _ [7] rfl (by decide +kernel)
set_option maxRecDepth 20000 in
theorem gX8_bounce_X10_hasBit_n226 : GoodIn wsX8_bounce (wsX10_hasBit) := ggX8_bounce_X10_hasBit
set_option maxRecDepth 20000 in
theorem ggX8_bounce_X8_usageOf : GoodIn wsX8_bounce wsX8_usageOf := goodIn_r _ [12, 13, 14, 15, 16, 11, 17, 1, 18, 19, 20, 21, 22, 23, 24, 25, 6, 26, 27, 28, 29, 30, 31, 32, 45, 46, 47, 48, 49, 50, 51, 52, 53, 54, 55, 56, 57, 58, 59, 60, 79, 80, 81, 82, 83, 61, 62, 63, 64, 65, 66, 67, 68, 69, 70, 71, 72, 73, 74, 75, 76, 77, 78] rfl (by decide +kernel)
set_option maxRecDepth 20000 in
theorem gX8_bounce_X8_usageOf : GoodIn wsX8_bounce (wsV RX8 229 RX8 yX8_usageOf wsX8_usageOf) := goodIn_app (goodIn_of _ (by decide +kernel)) ggX8_bounce_X8_usageOf
set_option maxRecDepth 20000 in
theorem ggX8_bounce_X10_at : GoodIn wsX8_bounce wsX10_at := goodIn_r _ [26] rfl (by decide +kernel)
set_option maxRecDepth 20000 in
theorem gX8_bounce_X10_at_n112 : GoodIn wsX8_bounce (wsX10_at) := ggX8_bounce_X10_at
set_option maxRecDepth 20000 in
theorem ggX8_bounce_X2_note : GoodIn wsX8_bounce wsX2_note := goodIn_r _ [37, 38, 39, 40, 41, 42, 43, 6, 44, 84, 85, 86, 87, 88] rfl (by decide +kernel)
set_option maxRecDepth 20000 in
theorem gX8_bounce_X2_note : GoodIn wsX8_bounce (wsV RX8 216 RX2 yX2_note wsX2_note) := goodIn_app (goodIn_of _ (by decide +kernel)) ggX8_bounce_X2_note
set_option maxRecDepth 20000 in
theorem ggX8_holdsAskingFor_X7_wordOfHold : GoodIn wsX8_holdsAskingFor wsX7_wordOfHold := goodIn_r _ [7, 8, 67, 68, 69, 70, 71, 72, 73, 74, 75, 76, 77, 78, 79, 80, 81, 82] rfl (by decide +kernel)
set_option maxRecDepth 20000 in
theorem gX8_holdsAskingFor_X7_wordOfHold : GoodIn wsX8_holdsAskingFor (wsV RX8 234 RX7 yX7_wordOfHold wsX7_wordOfHold) := goodIn_app (goodIn_of _ (by decide +kernel)) ggX8_holdsAskingFor_X7_wordOfHold
set_option maxRecDepth 20000 in
theorem ggX8_holdsAskingFor_X10_at : GoodIn wsX8_holdsAskingFor wsX10_at := goodIn_r _ [11] rfl (by decide +kernel)
set_option maxRecDepth 20000 in
theorem gX8_holdsAskingFor_X10_at_n112 : GoodIn wsX8_holdsAskingFor (wsX10_at) := ggX8_holdsAskingFor_X10_at
set_option maxRecDepth 20000 in
theorem ggX8_holdsAskingFor_X8_hasWord : GoodIn wsX8_holdsAskingFor wsX8_hasWord := goodIn_r _ [16, 17, 18, 19, 20, 15, 21, 22, 23, 24, 25, 26, 27, 28, 29, 30, 31, 32, 33, 34, 35, 36, 37, 38, 39, 40, 41, 42, 43, 44, 10, 45, 46, 47, 48, 49, 50, 85, 86, 87, 88, 89, 51, 52, 53, 54, 55, 56, 57, 58, 59, 60, 61, 62, 63, 64, 65, 66, 90, 91, 92, 93, 94, 95, 96, 97, 98, 99] rfl (by decide +kernel)
set_option maxRecDepth 20000 in
theorem gX8_holdsAskingFor_X8_hasWord : GoodIn wsX8_holdsAskingFor (wsV RX8 169 RX8 yX8_hasWord wsX8_hasWord) := goodIn_app (goodIn_of _ (by decide +kernel)) ggX8_holdsAskingFor_X8_hasWord
set_option maxRecDepth 20000 in
theorem ggX8_addReferences_X10_hasBit : GoodIn wsX8_addReferences wsX10_hasBit := goodIn_r _ [8] rfl (by decide +kernel)
set_option maxRecDepth 20000 in
theorem gX8_addReferences_X10_hasBit_n226 : GoodIn wsX8_addReferences (wsX10_hasBit) := ggX8_addReferences_X10_hasBit
set_option maxRecDepth 20000 in
theorem ggX8_addReferences_X10_put : GoodIn wsX8_addReferences wsX10_put := goodIn_r _ [10] rfl (by decide +kernel)
set_option maxRecDepth 20000 in
theorem gX8_addReferences_X10_put_n181 : GoodIn wsX8_addReferences (wsX10_put) := ggX8_addReferences_X10_put
set_option maxRecDepth 20000 in
theorem ggX8_addReferences_X10_at : GoodIn wsX8_addReferences wsX10_at := goodIn_r _ [12] rfl (by decide +kernel)
set_option maxRecDepth 20000 in
theorem gX8_addReferences_X10_at_n112 : GoodIn wsX8_addReferences (wsX10_at) := ggX8_addReferences_X10_at
set_option maxRecDepth 20000 in
theorem ggX8_enterClass_X10_put : GoodIn wsX8_enterClass wsX10_put := goodIn_r _ [6] rfl (by decide +kernel)
set_option maxRecDepth 20000 in
theorem gX8_enterClass_X10_put_n181 : GoodIn wsX8_enterClass (wsX10_put) := ggX8_enterClass_X10_put
set_option maxRecDepth 20000 in
theorem ggX8_bringBack_X10_put : GoodIn wsX8_bringBack wsX10_put := goodIn_r _ [6] rfl (by decide +kernel)
set_option maxRecDepth 20000 in
theorem gX8_bringBack_X10_put_n181 : GoodIn wsX8_bringBack (wsX10_put) := ggX8_bringBack_X10_put
set_option maxRecDepth 20000 in
theorem ggX8_endReference_X8_holdsCovering : GoodIn wsX8_endReference wsX8_holdsCovering := goodIn_r _ [8, 9, 10, 11, 12, 13, 7, 14, 15, 16, 17, 18, 19, 20, 21, 22, 23, 24, 25, 26, 27, 73, 74, 75, 76, 77, 78, 79, 80, 81, 82, 83, 84, 85, 86, 87, 88, 89, 90, 91, 92, 93, 94, 95, 96, 97, 98, 99, 100, 101, 102, 103, 104, 105, 106, 107, 108, 109, 110, 111] rfl (by decide +kernel)
set_option maxRecDepth 20000 in
theorem gX8_endReference_X8_holdsCovering : GoodIn wsX8_endReference (wsV RX8 192 RX8 yX8_holdsCovering wsX8_holdsCovering) := goodIn_app (goodIn_of _ (by decide +kernel)) ggX8_endReference_X8_holdsCovering
set_option maxRecDepth 20000 in
theorem ggX8_endReference_X10_put : GoodIn wsX8_endReference wsX10_put := goodIn_r _ [29] rfl (by decide +kernel)
set_option maxRecDepth 20000 in
theorem gX8_endReference_X10_put_n181 : GoodIn wsX8_endReference (wsX10_put) := ggX8_endReference_X10_put
set_option maxRecDepth 20000 in
theorem ggX8_endReference_X2_note : GoodIn wsX8_endReference wsX2_note := goodIn_r _ [34, 35, 36, 37, 38, 39, 28, 26, 29, 112, 113, 114, 115, 116] rfl (by decide +kernel)
set_option maxRecDepth 20000 in
theorem gX8_endReference_X2_note : GoodIn wsX8_endReference (wsV RX8 216 RX2 yX2_note wsX2_note) := goodIn_app (goodIn_of _ (by decide +kernel)) ggX8_endReference_X2_note
set_option maxRecDepth 20000 in
theorem ggX8_endReference_X8_keepsMessage : GoodIn wsX8_endReference wsX8_keepsMessage := goodIn_r _ [43, 10, 44, 45, 46, 7, 47, 15, 1, 48, 49, 50, 51, 52, 53, 25, 26, 27, 73, 74, 75, 76, 77, 78, 79, 80, 81, 82, 83, 84, 85, 86, 87, 88, 94, 95, 96, 97, 98, 99, 100, 101, 102, 103, 104, 105, 106, 107, 108, 109, 110, 111] rfl (by decide +kernel)
set_option maxRecDepth 20000 in
theorem gX8_endReference_X8_keepsMessage : GoodIn wsX8_endReference (wsV RX8 247 RX8 yX8_keepsMessage wsX8_keepsMessage) := goodIn_app (goodIn_of _ (by decide +kernel)) ggX8_endReference_X8_keepsMessage
set_option maxRecDepth 20000 in
theorem ggX8_endReference_X8_messageAt : GoodIn wsX8_endReference wsX8_messageAt := goodIn_r _ [14, 15, 16, 17, 73, 74, 75, 76, 77, 78, 79, 80, 81, 82, 83, 84, 85, 86, 87, 88] rfl (by decide +kernel)
set_option maxRecDepth 20000 in
theorem gX8_endReference_X8_messageAt : GoodIn wsX8_endReference (wsV RX8 123 RX8 yX8_messageAt wsX8_messageAt) := goodIn_app (goodIn_of _ (by decide +kernel)) ggX8_endReference_X8_messageAt
set_option maxRecDepth 20000 in
theorem ggX8_endReference_X8_dropParts : GoodIn wsX8_endReference wsX8_dropParts := goodIn_r _ [57, 58, 3, 2, 59, 60, 61, 62, 63, 64, 65, 66, 67, 68, 69, 70, 71, 72, 25, 26, 27, 28, 29, 30, 31, 32, 33, 34, 35, 36, 37, 38, 39, 73, 74, 75, 76, 77, 78, 79, 80, 81, 82, 83, 84, 85, 86, 87, 88, 89, 90, 91, 92, 93, 117, 118, 119, 120, 121, 122, 123, 124, 112, 113, 114, 115, 116] rfl (by decide +kernel)
set_option maxRecDepth 20000 in
theorem gX8_endReference_X8_dropParts : GoodIn wsX8_endReference (wsV RX8 250 RX8 yX8_dropParts wsX8_dropParts) := goodIn_app (goodIn_of _ (by decide +kernel)) ggX8_endReference_X8_dropParts
set_option maxRecDepth 20000 in
theorem ggX8_dropParts_X4_partAbove : GoodIn wsX8_dropParts wsX4_partAbove := goodIn_r _ [8, 9, 49, 50, 51, 52, 53] rfl (by decide +kernel)
set_option maxRecDepth 20000 in
theorem gX8_dropParts_X4_partAbove : GoodIn wsX8_dropParts (wsV RX8 254 RX4 yX4_partAbove wsX4_partAbove) := goodIn_app (goodIn_of _ (by decide +kernel)) ggX8_dropParts_X4_partAbove
set_option maxRecDepth 20000 in
theorem ggX8_dropParts_X9_dropKeeper : GoodIn wsX8_dropParts wsX9_dropKeeper := goodIn_r _ [14, 15, 16, 17, 18, 19, 20, 21, 22, 54, 55, 56, 57, 58, 59, 60, 61] rfl (by decide +kernel)
set_option maxRecDepth 20000 in
theorem gX8_dropParts_X9_dropKeeper : GoodIn wsX8_dropParts (wsV RX8 257 RX9 yX9_dropKeeper wsX9_dropKeeper) := goodIn_app (goodIn_of _ (by decide +kernel)) ggX8_dropParts_X9_dropKeeper
set_option maxRecDepth 20000 in
theorem ggX8_dropParts_X2_note : GoodIn wsX8_dropParts wsX2_note := goodIn_r _ [27, 28, 29, 30, 31, 32, 21, 19, 22, 62, 63, 64, 65, 66] rfl (by decide +kernel)
set_option maxRecDepth 20000 in
theorem gX8_dropParts_X2_note : GoodIn wsX8_dropParts (wsV RX8 216 RX2 yX2_note wsX2_note) := goodIn_app (goodIn_of _ (by decide +kernel)) ggX8_dropParts_X2_note
set_option maxRecDepth 20000 in
theorem ggX8_releaseHold_X10_at : GoodIn wsX8_releaseHold wsX10_at := goodIn_r _ [6] rfl (by decide +kernel)
set_option maxRecDepth 20000 in
theorem gX8_releaseHold_X10_at_n112 : GoodIn wsX8_releaseHold (wsX10_at) := ggX8_releaseHold_X10_at
set_option maxRecDepth 20000 in
theorem ggX8_releaseHold_X8_isHidden : GoodIn wsX8_releaseHold wsX8_isHidden := goodIn_r _ [11, 12, 13, 14, 10, 15, 3, 2, 16, 17, 18, 19, 20, 21, 22, 4, 5, 6, 81, 82, 83, 84, 85, 86, 87, 88, 89, 90, 91, 92, 93, 94, 95, 96, 97, 98, 99, 100, 101, 102, 103, 104, 105, 106, 107, 108, 109, 110, 111, 112, 113, 114] rfl (by decide +kernel)
set_option maxRecDepth 20000 in
theorem gX8_releaseHold_X8_isHidden : GoodIn wsX8_releaseHold (wsV RX8 188 RX8 yX8_isHidden wsX8_isHidden) := goodIn_app (goodIn_of _ (by decide +kernel)) ggX8_releaseHold_X8_isHidden
set_option maxRecDepth 20000 in
theorem ggX8_releaseHold_X8_holdsCovering : GoodIn wsX8_releaseHold wsX8_holdsCovering := goodIn_r _ [26, 1, 2, 27, 28, 29, 10, 30, 3, 31, 32, 33, 34, 35, 36, 37, 38, 39, 4, 5, 6, 81, 82, 83, 84, 85, 86, 87, 88, 89, 90, 91, 92, 93, 94, 95, 96, 115, 116, 117, 118, 119, 97, 98, 99, 100, 101, 102, 103, 104, 105, 106, 107, 108, 109, 110, 111, 112, 113, 114] rfl (by decide +kernel)
set_option maxRecDepth 20000 in
theorem gX8_releaseHold_X8_holdsCovering : GoodIn wsX8_releaseHold (wsV RX8 192 RX8 yX8_holdsCovering wsX8_holdsCovering) := goodIn_app (goodIn_of _ (by decide +kernel)) ggX8_releaseHold_X8_holdsCovering
set_option maxRecDepth 20000 in
theorem ggX8_releaseHold_X8_endReference : GoodIn wsX8_releaseHold wsX8_endReference := goodIn_r _ [43, 16, 44, 45, 23, 24, 25, 10, 26, 1, 2, 27, 28, 29, 30, 3, 31, 32, 33, 34, 35, 36, 37, 38, 39, 4, 5, 6, 46, 47, 48, 49, 50, 51, 52, 53, 54, 55, 56, 57, 58, 59, 60, 61, 12, 13, 14, 15, 17, 18, 19, 20, 21, 22, 62, 63, 64, 65, 66, 67, 68, 69, 70, 71, 72, 73, 74, 75, 76, 77, 78, 79, 80, 81, 82, 83, 84, 85, 86, 87, 88, 89, 90, 91, 92, 93, 94, 95, 96, 115, 116, 117, 118, 119, 97, 98, 99, 100, 101, 102, 103, 104, 105, 106, 107, 108, 109, 110, 111, 112, 113, 114, 120, 121, 122, 123, 124, 125, 126, 127, 128, 129, 130, 131, 132] rfl (by decide +kernel)
set_option maxRecDepth 20000 in
theorem gX8_releaseHold_X8_endReference : GoodIn wsX8_releaseHold (wsV RX8 260 RX8 yX8_endReference wsX8_endReference) := goodIn_app (goodIn_of _ (by decide +kernel)) ggX8_releaseHold_X8_endReference
set_option maxRecDepth 20000 in
theorem ggX8_planLeaving_X8_planLeavingOf : GoodIn wsX8_planLeaving wsX8_planLeavingOf := goodIn_r _ [8, 9, 10, 1, 11, 2, 12, 13, 14, 15, 16, 17, 18, 19, 20, 21, 22, 7, 23, 3, 24, 25, 26, 27, 28, 29, 30, 31, 32, 33, 34, 35, 36, 37, 38, 39, 40, 41, 42, 43, 44, 45, 46, 47, 48, 49, 50, 51, 52, 53, 54, 55, 56, 57, 58, 59, 60, 61, 62, 63, 64, 65, 66, 67, 68, 69, 70, 71, 72, 73, 74, 75, 76, 77, 78, 79, 80, 81, 82, 83] rfl (by decide +kernel)
set_option maxRecDepth 20000 in
theorem gX8_planLeaving_X8_planLeavingOf : GoodIn wsX8_planLeaving (wsV RX8 263 RX8 yX8_planLeavingOf wsX8_planLeavingOf) := goodIn_app (goodIn_of _ (by decide +kernel)) ggX8_planLeaving_X8_planLeavingOf
set_option maxRecDepth 20000 in
theorem ggX8_planLeavingOf_J7_fill_53178 : GoodIn wsX8_planLeavingOf wsJ7_fill_53178 := goodIn_r _ [13] rfl (by decide +kernel)
set_option maxRecDepth 20000 in
theorem gX8_planLeavingOf_J7_fill_53178 : GoodIn wsX8_planLeavingOf (va_wsS RX8 172 yJ7_fill_53178 wsJ7_fill_53178) := goodIn_app (goodIn_of _ (by decide +kernel)) ggX8_planLeavingOf_J7_fill_53178
set_option maxRecDepth 20000 in
theorem ggX8_planLeavingOf_X8_stateOf : GoodIn wsX8_planLeavingOf wsX8_stateOf := goodIn_r _ [18, 2, 19, 20, 21, 22, 23, 24, 25, 26, 27, 28, 29, 46, 47, 48, 49, 50, 51, 52, 53, 54, 55, 56, 57, 58, 59, 60, 61, 62, 63, 64, 65, 66, 67, 68, 69, 70, 71, 72, 73, 74, 75, 76, 77, 78, 79] rfl (by decide +kernel)
set_option maxRecDepth 20000 in
theorem gX8_planLeavingOf_X8_stateOf : GoodIn wsX8_planLeavingOf (wsV RX8 116 RX8 yX8_stateOf wsX8_stateOf) := goodIn_app (goodIn_of _ (by decide +kernel)) ggX8_planLeavingOf_X8_stateOf
set_option maxRecDepth 20000 in
theorem ggX8_planLeavingOf_X8_retentionOf : GoodIn wsX8_planLeavingOf wsX8_retentionOf := goodIn_r _ [33, 34, 27, 28, 29, 46, 47, 48, 49, 50, 51, 52, 53, 54, 55, 56, 57, 58, 59, 60, 61] rfl (by decide +kernel)
set_option maxRecDepth 20000 in
theorem gX8_planLeavingOf_X8_retentionOf : GoodIn wsX8_planLeavingOf (wsV RX8 135 RX8 yX8_retentionOf wsX8_retentionOf) := goodIn_app (goodIn_of _ (by decide +kernel)) ggX8_planLeavingOf_X8_retentionOf
set_option maxRecDepth 20000 in
theorem ggX8_planLeavingOf_X10_at : GoodIn wsX8_planLeavingOf wsX10_at := goodIn_r _ [29] rfl (by decide +kernel)
set_option maxRecDepth 20000 in
theorem gX8_planLeavingOf_X10_at_n112 : GoodIn wsX8_planLeavingOf (wsX10_at) := ggX8_planLeavingOf_X10_at
set_option maxRecDepth 20000 in
theorem ggX8_planLeavingOf_X8_dueDay : GoodIn wsX8_planLeavingOf wsX8_dueDay := goodIn_r _ [38, 19, 3, 39, 40, 41, 42, 8, 43, 30, 31, 32, 17, 33, 34, 27, 28, 29, 46, 47, 48, 49, 50, 51, 52, 53, 54, 55, 56, 57, 58, 59, 60, 61, 62, 63, 64, 65, 66, 67, 68, 69, 70, 71, 72, 73, 74, 75, 76, 77] rfl (by decide +kernel)
set_option maxRecDepth 20000 in
theorem gX8_planLeavingOf_X8_dueDay : GoodIn wsX8_planLeavingOf (wsV RX8 267 RX8 yX8_dueDay wsX8_dueDay) := goodIn_app (goodIn_of _ (by decide +kernel)) ggX8_planLeavingOf_X8_dueDay
set_option maxRecDepth 20000 in
theorem ggX8_planLeavingOf_X10_put : GoodIn wsX8_planLeavingOf wsX10_put := goodIn_r _ [45] rfl (by decide +kernel)
set_option maxRecDepth 20000 in
theorem gX8_planLeavingOf_X10_put_n181 : GoodIn wsX8_planLeavingOf (wsX10_put) := ggX8_planLeavingOf_X10_put
set_option maxRecDepth 20000 in
theorem ggX8_dueDay_X8_retentionOf : GoodIn wsX8_dueDay wsX8_retentionOf := goodIn_r _ [13, 14, 15, 16, 17, 18, 19, 20, 21, 22, 23, 24, 25, 26, 27, 28, 29, 30, 31, 32, 33] rfl (by decide +kernel)
set_option maxRecDepth 20000 in
theorem gX8_dueDay_X8_retentionOf : GoodIn wsX8_dueDay (wsV RX8 135 RX8 yX8_retentionOf wsX8_retentionOf) := goodIn_app (goodIn_of _ (by decide +kernel)) ggX8_dueDay_X8_retentionOf
set_option maxRecDepth 20000 in
theorem ggX8_dueDay_X10_at : GoodIn wsX8_dueDay wsX10_at := goodIn_r _ [17] rfl (by decide +kernel)
set_option maxRecDepth 20000 in
theorem gX8_dueDay_X10_at_n112 : GoodIn wsX8_dueDay (wsX10_at) := ggX8_dueDay_X10_at
set_option maxRecDepth 20000 in
theorem ggX8_beginDay_X8_leaveClasses : GoodIn wsX8_beginDay wsX8_leaveClasses := goodIn_r _ [10, 11, 3, 12, 1, 5, 13, 14, 15, 9, 16, 17, 18, 19, 20, 21, 22, 23, 24, 25, 26, 27, 28, 29, 30, 31, 32, 33, 34, 35, 36, 37, 38, 39, 40, 41, 42, 43, 44, 45, 46, 47, 48, 49, 50, 51, 52, 53, 54, 55, 56, 57, 58, 59, 60, 61, 62, 63, 64, 65, 66, 67, 68, 69, 70, 71, 72, 73, 4, 74, 75, 76, 77, 78, 79, 80, 81, 82, 83, 84, 85, 86, 87, 88, 89, 90, 91, 92, 133, 134, 135, 136, 137, 138, 139, 140, 141, 142, 143, 144, 145, 146, 147, 148, 149, 150, 151, 152, 153, 154, 155, 156, 157, 158, 159, 160, 161, 162, 163, 164, 165, 166, 167, 168, 169, 170, 171, 172, 173, 174, 175, 176, 177, 178, 179, 180, 181, 182, 183, 184] rfl (by decide +kernel)
set_option maxRecDepth 20000 in
theorem gX8_beginDay_X8_leaveClasses : GoodIn wsX8_beginDay (wsV RX8 276 RX8 yX8_leaveClasses wsX8_leaveClasses) := goodIn_app (goodIn_of _ (by decide +kernel)) ggX8_beginDay_X8_leaveClasses
set_option maxRecDepth 20000 in
theorem ggX8_beginDay_X8_planLeaving : GoodIn wsX8_beginDay wsX8_planLeaving := goodIn_r _ [96, 97, 2, 3, 98, 99, 100, 9, 101, 102, 11, 12, 103, 104, 105, 106, 107, 108, 109, 110, 60, 61, 62, 63, 25, 64, 65, 66, 67, 68, 69, 18, 19, 20, 13, 14, 15, 16, 17, 111, 112, 113, 114, 1, 92, 115, 116, 117, 44, 45, 133, 134, 135, 136, 137, 138, 139, 140, 141, 142, 143, 144, 145, 146, 147, 148, 149, 150, 151, 152, 153, 154, 155, 156, 157, 158, 159, 160, 161, 162, 163, 164, 165, 166] rfl (by decide +kernel)
set_option maxRecDepth 20000 in
theorem gX8_beginDay_X8_planLeaving : GoodIn wsX8_beginDay (wsV RX8 279 RX8 yX8_planLeaving wsX8_planLeaving) := goodIn_app (goodIn_of _ (by decide +kernel)) ggX8_beginDay_X8_planLeaving
set_option maxRecDepth 20000 in
theorem ggX8_beginDay_X9_removeDead : GoodIn wsX8_beginDay wsX9_removeDead := goodIn_r _ [121, 122, 87, 86, 123, 124, 125, 126, 83, 127, 128, 129, 130, 131, 18, 19, 20, 44, 45, 132, 47, 48, 49, 50, 51, 52, 53, 54, 55, 177, 178, 179, 180, 181, 182, 183, 184, 172, 173, 174, 175, 176] rfl (by decide +kernel)
set_option maxRecDepth 20000 in
theorem gX8_beginDay_X9_removeDead : GoodIn wsX8_beginDay (wsV RX8 288 RX9 yX9_removeDead wsX9_removeDead) := goodIn_app (goodIn_of _ (by decide +kernel)) ggX8_beginDay_X9_removeDead
set_option maxRecDepth 20000 in
theorem ggX8_beginDay_X2_note : GoodIn wsX8_beginDay wsX2_note := goodIn_r _ [50, 51, 52, 53, 54, 55, 44, 19, 45, 172, 173, 174, 175, 176] rfl (by decide +kernel)
set_option maxRecDepth 20000 in
theorem gX8_beginDay_X2_note : GoodIn wsX8_beginDay (wsV RX8 216 RX2 yX2_note wsX2_note) := goodIn_app (goodIn_of _ (by decide +kernel)) ggX8_beginDay_X2_note
set_option maxRecDepth 20000 in
theorem ggX8_leaveClasses_X8_retentionOf : GoodIn wsX8_leaveClasses wsX8_retentionOf := goodIn_r _ [10, 11, 12, 13, 14, 88, 89, 90, 91, 92, 93, 94, 95, 96, 97, 98, 99, 100, 101, 102, 103] rfl (by decide +kernel)
set_option maxRecDepth 20000 in
theorem gX8_leaveClasses_X8_retentionOf : GoodIn wsX8_leaveClasses (wsV RX8 135 RX8 yX8_retentionOf wsX8_retentionOf) := goodIn_app (goodIn_of _ (by decide +kernel)) ggX8_leaveClasses_X8_retentionOf
set_option maxRecDepth 20000 in
theorem ggX8_leaveClasses_X10_at : GoodIn wsX8_leaveClasses wsX10_at := goodIn_r _ [14] rfl (by decide +kernel)
set_option maxRecDepth 20000 in
theorem gX8_leaveClasses_X10_at_n112 : GoodIn wsX8_leaveClasses (wsX10_at) := ggX8_leaveClasses_X10_at
set_option maxRecDepth 20000 in
theorem ggX8_leaveClasses_X8_endReference : GoodIn wsX8_leaveClasses wsX8_endReference := goodIn_r _ [18, 19, 5, 4, 20, 21, 22, 9, 23, 24, 2, 25, 26, 27, 28, 1, 29, 30, 31, 32, 33, 34, 35, 36, 37, 12, 13, 14, 38, 39, 40, 41, 42, 43, 44, 45, 46, 47, 48, 49, 50, 51, 52, 53, 54, 55, 56, 57, 58, 59, 60, 61, 62, 63, 64, 65, 66, 67, 68, 69, 70, 71, 72, 73, 74, 75, 76, 77, 78, 79, 80, 81, 82, 88, 89, 90, 91, 92, 93, 94, 95, 96, 97, 98, 99, 100, 101, 102, 103, 122, 123, 124, 125, 126, 104, 105, 106, 107, 108, 109, 110, 111, 112, 113, 114, 115, 116, 117, 118, 119, 120, 121, 127, 128, 129, 130, 131, 132, 133, 134, 135, 136, 137, 138, 139] rfl (by decide +kernel)
set_option maxRecDepth 20000 in
theorem gX8_leaveClasses_X8_endReference : GoodIn wsX8_leaveClasses (wsV RX8 260 RX8 yX8_endReference wsX8_endReference) := goodIn_app (goodIn_of _ (by decide +kernel)) ggX8_leaveClasses_X8_endReference
set_option maxRecDepth 20000 in
theorem ggX8_leaveClasses_X8_enterClass : GoodIn wsX8_leaveClasses wsX8_enterClass := goodIn_r _ [86, 11, 87, 4, 38, 13, 39, 88, 89, 90, 91, 92, 93, 94, 95, 96, 97, 98, 99, 100, 101, 102, 103] rfl (by decide +kernel)
set_option maxRecDepth 20000 in
theorem gX8_leaveClasses_X8_enterClass : GoodIn wsX8_leaveClasses (wsV RX8 295 RX8 yX8_enterClass wsX8_enterClass) := goodIn_app (goodIn_of _ (by decide +kernel)) ggX8_leaveClasses_X8_enterClass
set_option maxRecDepth 20000 in
theorem ggX8_leaveClasses_X2_note : GoodIn wsX8_leaveClasses wsX2_note := goodIn_r _ [44, 45, 46, 47, 48, 49, 38, 13, 39, 127, 128, 129, 130, 131] rfl (by decide +kernel)
set_option maxRecDepth 20000 in
theorem gX8_leaveClasses_X2_note : GoodIn wsX8_leaveClasses (wsV RX8 216 RX2 yX2_note wsX2_note) := goodIn_app (goodIn_of _ (by decide +kernel)) ggX8_leaveClasses_X2_note
set_option maxRecDepth 20000 in
theorem ggX9_init_X0_init : GoodIn wsX9_init wsX0_init := goodIn_r _ [15, 16, 2, 3, 17, 18, 19, 20, 21, 22, 31, 32] rfl (by decide +kernel)
set_option maxRecDepth 20000 in
theorem gX9_init_X0_init : GoodIn wsX9_init (wsX0_init) := ggX9_init_X0_init
set_option maxRecDepth 20000 in
theorem ggX9_copyFrom_X10_copyRow : GoodIn wsX9_copyFrom wsX10_copyRow := goodIn_r _ [10, 11, 12, 13, 14, 15, 16, 17, 18] rfl (by decide +kernel)
set_option maxRecDepth 20000 in
theorem gX9_copyFrom_X10_copyRow_n44 : GoodIn wsX9_copyFrom (wsX10_copyRow) := ggX9_copyFrom_X10_copyRow
set_option maxRecDepth 20000 in
theorem ggX9_isStored_X10_at : GoodIn wsX9_isStored wsX10_at := goodIn_r _ [5] rfl (by decide +kernel)
set_option maxRecDepth 20000 in
theorem gX9_isStored_X10_at_n48 : GoodIn wsX9_isStored (wsX10_at) := ggX9_isStored_X10_at
set_option maxRecDepth 20000 in
theorem ggX9_isDead_X9_isStored : GoodIn wsX9_isDead wsX9_isStored := goodIn_r _ [6, 7, 1, 8, 9, 10, 11, 12, 13, 14, 15, 16, 17, 18] rfl (by decide +kernel)
set_option maxRecDepth 20000 in
theorem gX9_isDead_X9_isStored : GoodIn wsX9_isDead (wsV RX9 52 RX9 yX9_isStored wsX9_isStored) := goodIn_app (goodIn_of _ (by decide +kernel)) ggX9_isDead_X9_isStored
set_option maxRecDepth 20000 in
theorem ggX9_isDead_X10_at : GoodIn wsX9_isDead wsX10_at := goodIn_r _ [10] rfl (by decide +kernel)
set_option maxRecDepth 20000 in
theorem gX9_isDead_X10_at_n48 : GoodIn wsX9_isDead (wsX10_at) := ggX9_isDead_X10_at
set_option maxRecDepth 20000 in
theorem ggX9_storedAt_X9_isStored : GoodIn wsX9_storedAt wsX9_isStored := goodIn_r _ [6, 1, 7, 8, 9, 10, 11, 12, 13, 14, 15, 16, 17, 18] rfl (by decide +kernel)
set_option maxRecDepth 20000 in
theorem gX9_storedAt_X9_isStored : GoodIn wsX9_storedAt (wsV RX9 52 RX9 yX9_isStored wsX9_isStored) := goodIn_app (goodIn_of _ (by decide +kernel)) ggX9_storedAt_X9_isStored
set_option maxRecDepth 20000 in
theorem ggX9_byteSum_X9_isDead : GoodIn wsX9_byteSum wsX9_isDead := goodIn_r _ [6, 7, 8, 9, 10, 5, 11, 1, 12, 13, 14, 21, 22, 23, 24, 25, 26, 27, 28] rfl (by decide +kernel)
set_option maxRecDepth 20000 in
theorem gX9_byteSum_X9_isDead : GoodIn wsX9_byteSum (wsV RX9 56 RX9 yX9_isDead wsX9_isDead) := goodIn_app (goodIn_of _ (by decide +kernel)) ggX9_byteSum_X9_isDead
set_option maxRecDepth 20000 in
theorem ggX9_byteSum_X9_isStored : GoodIn wsX9_byteSum wsX9_isStored := goodIn_r _ [11, 1, 7, 12, 13, 14, 21, 22, 23, 24, 25, 26, 27, 28] rfl (by decide +kernel)
set_option maxRecDepth 20000 in
theorem gX9_byteSum_X9_isStored : GoodIn wsX9_byteSum (wsV RX9 52 RX9 yX9_isStored wsX9_isStored) := goodIn_app (goodIn_of _ (by decide +kernel)) ggX9_byteSum_X9_isStored
set_option maxRecDepth 20000 in
theorem ggX9_byteSum_X9_bytesOf : GoodIn wsX9_byteSum wsX9_bytesOf := goodIn_r _ [18, 1, 19, 20, 21, 22, 23, 24, 25, 26, 27, 28] rfl (by decide +kernel)
set_option maxRecDepth 20000 in
theorem gX9_byteSum_X9_bytesOf : GoodIn wsX9_byteSum (wsV RX9 59 RX9 yX9_bytesOf wsX9_bytesOf) := goodIn_app (goodIn_of _ (by decide +kernel)) ggX9_byteSum_X9_bytesOf
set_option maxRecDepth 20000 in
theorem ggX9_mostKept_X9_isStored : GoodIn wsX9_mostKept wsX9_isStored := goodIn_r _ [7, 1, 8, 9, 10, 11, 12, 13, 14, 15, 16, 17, 18, 19] rfl (by decide +kernel)
set_option maxRecDepth 20000 in
theorem gX9_mostKept_X9_isStored : GoodIn wsX9_mostKept (wsV RX9 52 RX9 yX9_isStored wsX9_isStored) := goodIn_app (goodIn_of _ (by decide +kernel)) ggX9_mostKept_X9_isStored
set_option maxRecDepth 20000 in
theorem ggX9_mostKept_X10_at : GoodIn wsX9_mostKept wsX10_at := goodIn_r _ [11] rfl (by decide +kernel)
set_option maxRecDepth 20000 in
theorem gX9_mostKept_X10_at_n48 : GoodIn wsX9_mostKept (wsX10_at) := ggX9_mostKept_X10_at
set_option maxRecDepth 20000 in
theorem ggX9_numberOf_X9_isStored : GoodIn wsX9_numberOf wsX9_isStored := goodIn_r _ [6, 1, 7, 8, 9, 10, 36, 37, 38, 39, 40, 41, 42, 43] rfl (by decide +kernel)
set_option maxRecDepth 20000 in
theorem gX9_numberOf_X9_isStored : GoodIn wsX9_numberOf (wsV RX9 52 RX9 yX9_isStored wsX9_isStored) := goodIn_app (goodIn_of _ (by decide +kernel)) ggX9_numberOf_X9_isStored
set_option maxRecDepth 20000 in
theorem ggX9_numberOf_X9_bytesOf : GoodIn wsX9_numberOf wsX9_bytesOf := goodIn_r _ [14, 1, 15, 16, 36, 37, 38, 39, 40, 41, 42, 43] rfl (by decide +kernel)
set_option maxRecDepth 20000 in
theorem gX9_numberOf_X9_bytesOf : GoodIn wsX9_numberOf (wsV RX9 59 RX9 yX9_bytesOf wsX9_bytesOf) := goodIn_app (goodIn_of _ (by decide +kernel)) ggX9_numberOf_X9_bytesOf
set_option maxRecDepth 20000 in
theorem ggX9_numberOf_X1_isEqualTo : GoodIn wsX9_numberOf wsX1_isEqualTo := goodIn_r _ [21, 22, 23, 24, 8, 9, 10, 25, 26, 27, 28, 29, 30, 31, 32, 33, 34, 35, 44, 45, 46, 47, 48, 49] rfl (by decide +kernel)
set_option maxRecDepth 20000 in
theorem gX9_numberOf_X1_isEqualTo : GoodIn wsX9_numberOf (wsV RX9 66 RX1 yX1_isEqualTo wsX1_isEqualTo) := goodIn_app (goodIn_of _ (by decide +kernel)) ggX9_numberOf_X1_isEqualTo
set_option maxRecDepth 20000 in
theorem ggX9_bytesWith_X9_byteSum : GoodIn wsX9_bytesWith wsX9_byteSum := goodIn_r _ [5, 6, 7, 8, 9, 4, 10, 11, 12, 13, 14, 15, 16, 17, 18, 19, 20, 21, 22, 23, 24, 66, 67, 68, 69, 70, 71, 72, 73, 74, 75] rfl (by decide +kernel)
set_option maxRecDepth 20000 in
theorem gX9_bytesWith_X9_byteSum : GoodIn wsX9_bytesWith (wsV RX9 72 RX9 yX9_byteSum wsX9_byteSum) := goodIn_app (goodIn_of _ (by decide +kernel)) ggX9_bytesWith_X9_byteSum
set_option maxRecDepth 20000 in
theorem ggX9_bytesWith_X1_isFirstOfItsKind : GoodIn wsX9_bytesWith wsX1_isFirstOfItsKind := goodIn_r _ [29, 30, 31, 32, 28, 33, 34, 35, 36, 37, 38, 39, 40, 16, 17, 18, 41, 42, 43, 44, 45, 46, 47, 62, 63, 64, 65, 74, 75] rfl (by decide +kernel)
set_option maxRecDepth 20000 in
theorem gX9_bytesWith_X1_isFirstOfItsKind : GoodIn wsX9_bytesWith (wsV RX9 79 RX1 yX1_isFirstOfItsKind wsX1_isFirstOfItsKind) := goodIn_app (goodIn_of _ (by decide +kernel)) ggX9_bytesWith_X1_isFirstOfItsKind
set_option maxRecDepth 20000 in
theorem ggX9_bytesWith_X9_numberOf : GoodIn wsX9_bytesWith wsX9_numberOf := goodIn_r _ [51, 6, 12, 13, 14, 4, 15, 11, 16, 17, 18, 19, 20, 21, 22, 23, 24, 52, 53, 54, 28, 55, 34, 35, 40, 56, 57, 58, 44, 59, 46, 60, 42, 43, 45, 47, 66, 67, 68, 69, 70, 71, 72, 73, 62, 63, 64, 65, 74, 75] rfl (by decide +kernel)
set_option maxRecDepth 20000 in
theorem gX9_bytesWith_X9_numberOf : GoodIn wsX9_bytesWith (wsV RX9 82 RX9 yX9_numberOf wsX9_numberOf) := goodIn_app (goodIn_of _ (by decide +kernel)) ggX9_bytesWith_X9_numberOf
set_option maxRecDepth 20000 in
theorem ggX9_bytesWith_X1_sizeAt : GoodIn wsX9_bytesWith wsX1_sizeAt := goodIn_r _ [39, 40, 35, 16, 17, 18, 62, 63, 64, 65] rfl (by decide +kernel)
set_option maxRecDepth 20000 in
theorem gX9_bytesWith_X1_sizeAt : GoodIn wsX9_bytesWith (wsV RX9 86 RX1 yX1_sizeAt wsX1_sizeAt) := goodIn_app (goodIn_of _ (by decide +kernel)) ggX9_bytesWith_X1_sizeAt
set_option maxRecDepth 20000 in
theorem ggX9_numberFor_X9_numberOf : GoodIn wsX9_numberFor wsX9_numberOf := goodIn_r _ [11, 1, 12, 13, 14, 10, 15, 5, 16, 17, 18, 19, 20, 21, 22, 2, 23, 24, 25, 26, 27, 28, 29, 30, 31, 32, 33, 34, 35, 36, 37, 38, 39, 40, 41, 42, 74, 75, 76, 77, 78, 79, 80, 81, 82, 83, 84, 85, 86, 87] rfl (by decide +kernel)
set_option maxRecDepth 20000 in
theorem gX9_numberFor_X9_numberOf : GoodIn wsX9_numberFor (wsV RX9 82 RX9 yX9_numberOf wsX9_numberOf) := goodIn_app (goodIn_of _ (by decide +kernel)) ggX9_numberFor_X9_numberOf
set_option maxRecDepth 20000 in
theorem ggX9_numberFor_X1_copyOfPlace : GoodIn wsX9_numberFor wsX1_copyOfPlace := goodIn_r _ [46, 47, 48, 35, 29, 30, 31, 49, 50, 51, 27, 52, 16, 17, 18, 53, 54, 55, 56, 57, 58, 59, 60, 61, 62, 63, 42, 64, 65, 66, 67, 38, 39, 40, 41, 37, 68, 69, 70, 71, 86, 87, 82, 83, 84, 85] rfl (by decide +kernel)
set_option maxRecDepth 20000 in
theorem gX9_numberFor_X1_copyOfPlace : GoodIn wsX9_numberFor (wsV RX9 90 RX1 yX1_copyOfPlace wsX1_copyOfPlace) := goodIn_app (goodIn_of _ (by decide +kernel)) ggX9_numberFor_X1_copyOfPlace
set_option maxRecDepth 20000 in
theorem ggX9_numberFor_X10_put : GoodIn wsX9_numberFor wsX10_put := goodIn_r _ [73] rfl (by decide +kernel)
set_option maxRecDepth 20000 in
theorem gX9_numberFor_X10_put_n93 : GoodIn wsX9_numberFor (wsX10_put) := ggX9_numberFor_X10_put
set_option maxRecDepth 20000 in
theorem ggX9_addKeeper_X10_at : GoodIn wsX9_addKeeper wsX10_at := goodIn_r _ [6] rfl (by decide +kernel)
set_option maxRecDepth 20000 in
theorem gX9_addKeeper_X10_at_n48 : GoodIn wsX9_addKeeper (wsX10_at) := ggX9_addKeeper_X10_at
set_option maxRecDepth 20000 in
theorem ggX9_addKeeper_X10_put : GoodIn wsX9_addKeeper wsX10_put := goodIn_r _ [8] rfl (by decide +kernel)
set_option maxRecDepth 20000 in
theorem gX9_addKeeper_X10_put_n93 : GoodIn wsX9_addKeeper (wsX10_put) := ggX9_addKeeper_X10_put
set_option maxRecDepth 20000 in
theorem ggX9_addKeeper_X9_isDead : GoodIn wsX9_addKeeper wsX9_isDead := goodIn_r _ [13, 2, 14, 15, 16, 12, 17, 18, 4, 5, 6, 19, 20, 21, 22, 23, 24, 25, 26] rfl (by decide +kernel)
set_option maxRecDepth 20000 in
theorem gX9_addKeeper_X9_isDead : GoodIn wsX9_addKeeper (wsV RX9 56 RX9 yX9_isDead wsX9_isDead) := goodIn_app (goodIn_of _ (by decide +kernel)) ggX9_addKeeper_X9_isDead
set_option maxRecDepth 20000 in
theorem ggX9_dropKeeper_X10_at : GoodIn wsX9_dropKeeper wsX10_at := goodIn_r _ [6] rfl (by decide +kernel)
set_option maxRecDepth 20000 in
theorem gX9_dropKeeper_X10_at_n48 : GoodIn wsX9_dropKeeper (wsX10_at) := ggX9_dropKeeper_X10_at
set_option maxRecDepth 20000 in
theorem ggX9_dropKeeper_X10_put : GoodIn wsX9_dropKeeper wsX10_put := goodIn_r _ [8] rfl (by decide +kernel)
set_option maxRecDepth 20000 in
theorem gX9_dropKeeper_X10_put_n93 : GoodIn wsX9_dropKeeper (wsX10_put) := ggX9_dropKeeper_X10_put
set_option maxRecDepth 20000 in
theorem ggX9_removeDead_X9_isDead : GoodIn wsX9_removeDead wsX9_isDead := goodIn_r _ [9, 3, 10, 11, 12, 8, 13, 1, 14, 15, 16, 29, 30, 31, 32, 33, 34, 35, 36] rfl (by decide +kernel)
set_option maxRecDepth 20000 in
theorem gX9_removeDead_X9_isDead : GoodIn wsX9_removeDead (wsV RX9 56 RX9 yX9_isDead wsX9_isDead) := goodIn_app (goodIn_of _ (by decide +kernel)) ggX9_removeDead_X9_isDead
set_option maxRecDepth 20000 in
theorem ggX9_removeDead_X10_at : GoodIn wsX9_removeDead wsX10_at := goodIn_r _ [16] rfl (by decide +kernel)
set_option maxRecDepth 20000 in
theorem gX9_removeDead_X10_at_n48 : GoodIn wsX9_removeDead (wsX10_at) := ggX9_removeDead_X10_at
set_option maxRecDepth 20000 in
theorem ggX9_removeDead_X10_put : GoodIn wsX9_removeDead wsX10_put := goodIn_r _ [18] rfl (by decide +kernel)
set_option maxRecDepth 20000 in
theorem gX9_removeDead_X10_put_n93 : GoodIn wsX9_removeDead (wsX10_put) := ggX9_removeDead_X10_put
set_option maxRecDepth 20000 in
theorem ggX9_removeDead_X2_note : GoodIn wsX9_removeDead wsX2_note := goodIn_r _ [23, 24, 25, 26, 27, 28, 17, 15, 18, 37, 38, 39, 40, 41] rfl (by decide +kernel)
set_option maxRecDepth 20000 in
theorem gX9_removeDead_X2_note : GoodIn wsX9_removeDead (wsV RX9 97 RX2 yX2_note wsX2_note) := goodIn_app (goodIn_of _ (by decide +kernel)) ggX9_removeDead_X2_note
set_option maxRecDepth 20000 in
theorem ggX10_init_X7_init : GoodIn wsX10_init wsX7_init := goodIn_r _ [27, 28, 2, 3, 29, 30, 31, 32, 33, 23, 34, 35, 36, 37, 38, 39, 40, 41, 42, 43, 44, 45, 46, 47, 48, 49, 50, 51, 52, 53, 54, 55, 56, 124, 125, 126, 127, 128, 129, 130, 131, 132, 133, 134, 135, 136, 137, 138, 139, 173, 174] rfl (by decide +kernel)
set_option maxRecDepth 20000 in
theorem gX10_init_X7_init : GoodIn wsX10_init (wsX7_init) := ggX10_init_X7_init
set_option maxRecDepth 20000 in
theorem ggX10_init_X0_init : GoodIn wsX10_init wsX0_init := goodIn_r _ [59, 60, 2, 3, 61, 53, 54, 55, 62, 63, 140, 141] rfl (by decide +kernel)
set_option maxRecDepth 20000 in
theorem gX10_init_X0_init : GoodIn wsX10_init (wsX0_init) := ggX10_init_X0_init
set_option maxRecDepth 20000 in
theorem ggX10_init_X1_init : GoodIn wsX10_init wsX1_init := goodIn_r _ [66, 67, 2, 3, 68, 23, 69, 70, 153, 154, 155, 156] rfl (by decide +kernel)
set_option maxRecDepth 20000 in
theorem gX10_init_X1_init : GoodIn wsX10_init (wsX1_init) := ggX10_init_X1_init
set_option maxRecDepth 20000 in
theorem ggX10_init_X8_init : GoodIn wsX10_init wsX8_init := goodIn_r _ [73, 74, 2, 3, 75, 23, 76, 77, 78, 79, 80, 81, 82, 83, 84, 85, 86, 87, 88, 89, 90, 91, 92, 93, 94, 95, 96, 97, 98, 99, 100, 101, 102, 103, 104, 105, 8, 9, 106, 107, 58, 59, 60, 61, 53, 54, 55, 62, 63, 108, 109, 110, 111, 112, 113, 114, 115, 116, 117, 118, 119, 120, 121, 122, 123, 157, 158, 159, 160, 161, 162, 163, 164, 165, 166, 167, 168, 169, 170, 171, 172, 175, 176, 177, 178, 179, 180, 181, 182, 183, 184, 185, 186, 187, 188, 189, 190, 191, 192, 140, 141] rfl (by decide +kernel)
set_option maxRecDepth 20000 in
theorem gX10_init_X8_init : GoodIn wsX10_init (wsX8_init) := ggX10_init_X8_init
set_option maxRecDepth 20000 in
theorem ggX10_append_X0_addFour : GoodIn wsX10_append wsX0_addFour := goodIn_r _ [8, 9, 10, 11, 7, 12, 13, 14, 26, 27] rfl (by decide +kernel)
set_option maxRecDepth 20000 in
theorem gX10_append_X0_addFour : GoodIn wsX10_append (wsV RX10 67 RX0 yX0_addFour wsX0_addFour) := goodIn_app (goodIn_of _ (by decide +kernel)) ggX10_append_X0_addFour
set_option maxRecDepth 20000 in
theorem ggX10_truncate_X0_cutTo : GoodIn wsX10_truncate wsX0_cutTo := goodIn_r _ [8, 9, 21, 22] rfl (by decide +kernel)
set_option maxRecDepth 20000 in
theorem gX10_truncate_X0_cutTo : GoodIn wsX10_truncate (wsV RX10 75 RX0 yX0_cutTo wsX0_cutTo) := goodIn_app (goodIn_of _ (by decide +kernel)) ggX10_truncate_X0_cutTo
set_option maxRecDepth 20000 in
theorem ggX10_load_X6_init : GoodIn wsX10_load wsX6_init := goodIn_r _ [10, 11, 12, 13, 14, 15, 16, 17, 18, 19, 20, 21, 22, 23, 24, 25, 26, 27, 28, 29, 30, 31, 32, 33, 34, 35, 36, 37, 38, 39, 40, 41, 42, 43, 44, 45, 46, 47, 48, 49, 50, 51, 52, 289, 290, 291, 292, 293, 294, 295, 296, 297, 298, 326, 327, 328, 329, 330, 331, 332, 333, 334, 335, 336, 337, 338, 339, 340, 341, 342, 343] rfl (by decide +kernel)
set_option maxRecDepth 20000 in
theorem gX10_load_X6_init : GoodIn wsX10_load (wsX6_init) := ggX10_load_X6_init
set_option maxRecDepth 20000 in
theorem ggX10_load_X6_parse : GoodIn wsX10_load wsX6_parse := goodIn_r _ [56, 14, 57, 58, 59, 60, 61, 62, 63, 64, 65, 3, 66, 67, 68, 69, 70, 71, 72, 73, 74, 75, 76, 77, 78, 79, 80, 81, 82, 83, 84, 85, 86, 87, 88, 89, 90, 91, 92, 93, 94, 95, 96, 97, 98, 99, 100, 101, 50, 102, 103, 104, 105, 106, 107, 108, 18, 109, 110, 111, 112, 113, 114, 115, 116, 117, 118, 19, 119, 120, 121, 122, 123, 124, 125, 126, 127, 128, 129, 130, 131, 132, 133, 134, 135, 136, 137, 138, 139, 140, 141, 27, 142, 143, 52, 144, 145, 146, 147, 148, 149, 150, 151, 152, 153, 154, 155, 156, 157, 158, 159, 160, 161, 162, 163, 17, 164, 28, 30, 31, 32, 165, 166, 167, 168, 169, 170, 171, 172, 173, 174, 175, 176, 177, 178, 179, 180, 33, 34, 35, 181, 182, 183, 184, 185, 186, 187, 188, 189, 190, 191, 192, 193, 194, 37, 36, 195, 196, 197, 198, 199, 200, 201, 202, 203, 204, 205, 206, 207, 208, 209, 210, 211, 38, 39, 40, 41, 43, 289, 290, 291, 292, 293, 294, 295, 296, 297, 298, 344, 345, 326, 327, 328, 329, 330, 331, 332, 333, 334, 335, 336, 337, 338, 339, 340, 341, 342, 343] rfl (by decide +kernel)
set_option maxRecDepth 20000 in
theorem gX10_load_X6_parse : GoodIn wsX10_load (wsV RX10 81 RX6 yX6_parse wsX6_parse) := goodIn_app (goodIn_of _ (by decide +kernel)) ggX10_load_X6_parse
set_option maxRecDepth 20000 in
theorem ggX10_load_X0_cutTo : GoodIn wsX10_load wsX0_cutTo := goodIn_r _ [215, 76, 344, 345] rfl (by decide +kernel)
set_option maxRecDepth 20000 in
theorem gX10_load_X0_cutTo : GoodIn wsX10_load (wsV RX10 75 RX0 yX0_cutTo wsX0_cutTo) := goodIn_app (goodIn_of _ (by decide +kernel)) ggX10_load_X0_cutTo
set_option maxRecDepth 20000 in
theorem ggX10_load_X10_remember : GoodIn wsX10_load wsX10_remember := goodIn_r _ [219, 220, 221, 7, 222, 223, 224, 82, 225, 226, 227, 228, 229, 230, 231, 232, 233, 234, 235, 236, 237, 238, 239, 240, 241, 242, 243, 244, 245, 246, 101, 50, 102, 247, 248, 249, 250, 251, 252, 253, 254, 255, 256, 257, 258, 259, 260, 261, 262, 263, 264, 265, 266, 267, 268, 269, 270, 271, 272, 299, 300, 301, 302, 303, 304, 305, 306, 307, 308, 309, 310, 311, 312, 313, 314, 315, 316, 317, 318, 319, 320, 321, 322, 323, 324, 325, 346, 347, 348, 349, 350, 351, 352, 353, 354, 355, 356, 357, 358] rfl (by decide +kernel)
set_option maxRecDepth 20000 in
theorem gX10_load_X10_remember : GoodIn wsX10_load (wsV RX10 94 RX10 yX10_remember wsX10_remember) := goodIn_app (goodIn_of _ (by decide +kernel)) ggX10_load_X10_remember
set_option maxRecDepth 20000 in
theorem ggX10_load_X8_startWith : GoodIn wsX10_load wsX8_startWith := goodIn_r _ [276, 232, 233, 234, 235, 236, 237, 242, 243, 277, 278, 279, 17, 280, 38, 244, 82, 245, 246, 101, 50, 102, 247, 248, 249, 250, 281, 282, 283, 254, 284, 256, 257, 258, 285, 286, 287, 266, 288, 271, 272, 310, 311, 312, 313, 314, 315, 316, 317, 318, 319, 320, 321, 322, 323, 324, 325, 326, 327, 328, 329, 330, 331, 332, 333, 334, 335, 336, 337, 338, 339, 340, 341, 342, 343, 346, 347, 348, 349, 350, 351, 352, 353, 354, 355, 356, 357, 358] rfl (by decide +kernel)
set_option maxRecDepth 20000 in
theorem gX10_load_X8_startWith : GoodIn wsX10_load (wsV RX10 101 RX8 yX8_startWith wsX8_startWith) := goodIn_app (goodIn_of _ (by decide +kernel)) ggX10_load_X8_startWith
set_option maxRecDepth 20000 in
theorem ggX10_find_X10_needKind : GoodIn wsX10_find wsX10_needKind := goodIn_ca (goodIn_r _ [6, 7, 8] rfl (by decide +kernel)) (goodIn_sub (fun _ h => List.mem_cons_of_mem _ (List.mem_append_right _ h)) (by decide +kernel))
set_option maxRecDepth 20000 in
theorem gX10_find_X10_needKind : GoodIn wsX10_find (va_wsS RX10 112 yX10_needKind wsX10_needKind) := goodIn_app (goodIn_of _ (by decide +kernel)) ggX10_find_X10_needKind
set_option maxRecDepth 20000 in
theorem ggX10_find_X7_namesOf : GoodIn wsX10_find wsX7_namesOf := goodIn_r _ [13, 14, 15, 16, 17, 75, 76, 77, 78, 79, 80, 81, 82, 83, 84, 85, 86, 87, 88, 89, 90] rfl (by decide +kernel)
set_option maxRecDepth 20000 in
theorem gX10_find_X7_namesOf : GoodIn wsX10_find (wsV RX10 115 RX7 yX7_namesOf wsX7_namesOf) := goodIn_app (goodIn_of _ (by decide +kernel)) ggX10_find_X7_namesOf
set_option maxRecDepth 20000 in
theorem ggX10_find_X0_wholeWord : GoodIn wsX10_find wsX0_wholeWord := goodIn_r _ [22, 23, 24, 25, 26, 27, 21, 28, 29, 30, 5, 31, 32, 33, 34, 35, 36, 91, 92] rfl (by decide +kernel)
set_option maxRecDepth 20000 in
theorem gX10_find_X0_wholeWord : GoodIn wsX10_find (wsV RX10 119 RX0 yX0_wholeWord wsX0_wholeWord) := goodIn_app (goodIn_of _ (by decide +kernel)) ggX10_find_X0_wholeWord
set_option maxRecDepth 20000 in
theorem ggX10_find_X5_numberOf : GoodIn wsX10_find wsX5_numberOf := goodIn_r _ [41, 42, 43, 93, 94] rfl (by decide +kernel)
set_option maxRecDepth 20000 in
theorem gX10_find_X5_numberOf : GoodIn wsX10_find (wsV RX10 123 RX5 yX5_numberOf wsX5_numberOf) := goodIn_app (goodIn_of _ (by decide +kernel)) ggX10_find_X5_numberOf
set_option maxRecDepth 20000 in
theorem ggX10_find_X0_cutTo : GoodIn wsX10_find wsX0_cutTo := goodIn_r _ [47, 23, 91, 92] rfl (by decide +kernel)
set_option maxRecDepth 20000 in
theorem gX10_find_X0_cutTo : GoodIn wsX10_find (wsV RX10 75 RX0 yX0_cutTo wsX0_cutTo) := goodIn_app (goodIn_of _ (by decide +kernel)) ggX10_find_X0_cutTo
set_option maxRecDepth 20000 in
theorem ggX10_count_X10_needKind : GoodIn wsX10_count wsX10_needKind := goodIn_ca (goodIn_r _ [5, 6, 7] rfl (by decide +kernel)) (goodIn_sub (fun _ h => List.mem_cons_of_mem _ (List.mem_append_right _ h)) (by decide +kernel))
set_option maxRecDepth 20000 in
theorem gX10_count_X10_needKind : GoodIn wsX10_count (va_wsS RX10 112 yX10_needKind wsX10_needKind) := goodIn_app (goodIn_of _ (by decide +kernel)) ggX10_count_X10_needKind
set_option maxRecDepth 20000 in
theorem ggX10_count_X7_namesOf : GoodIn wsX10_count wsX7_namesOf := goodIn_r _ [12, 13, 14, 15, 16, 46, 47, 48, 49, 50, 51, 52, 53, 54, 55, 56, 57, 58, 59, 60, 61] rfl (by decide +kernel)
set_option maxRecDepth 20000 in
theorem gX10_count_X7_namesOf : GoodIn wsX10_count (wsV RX10 115 RX7 yX7_namesOf wsX7_namesOf) := goodIn_app (goodIn_of _ (by decide +kernel)) ggX10_count_X7_namesOf
set_option maxRecDepth 20000 in
theorem ggX10_members_X5_has : GoodIn wsX10_members wsX5_has := goodIn_r _ [8, 9, 57, 58] rfl (by decide +kernel)
set_option maxRecDepth 20000 in
theorem gX10_members_X5_has : GoodIn wsX10_members (wsV RX10 130 RX5 yX5_has wsX5_has) := goodIn_app (goodIn_of _ (by decide +kernel)) ggX10_members_X5_has
set_option maxRecDepth 20000 in
theorem ggX10_members_X10_at : GoodIn wsX10_members wsX10_at := goodIn_r _ [13] rfl (by decide +kernel)
set_option maxRecDepth 20000 in
theorem gX10_members_X10_at : GoodIn wsX10_members (va_wsS RX10 142 yX10_at wsX10_at) := goodIn_app (goodIn_of _ (by decide +kernel)) ggX10_members_X10_at
set_option maxRecDepth 20000 in
theorem ggX10_retention_X10_needClass : GoodIn wsX10_retention wsX10_needClass := goodIn_ca (goodIn_r _ [6, 7, 8, 1, 9, 10, 11, 12, 13, 14, 23, 24, 25, 26, 27, 28, 29, 30, 31, 32, 33, 34, 35, 36, 37, 38, 39, 40, 41, 42, 43, 44, 45, 46, 47, 48, 49, 50, 51, 52, 53, 54, 55, 56, 57, 58, 59, 60, 61, 62, 63, 64, 65, 66, 67] rfl (by decide +kernel)) (goodIn_sub (fun _ h => List.mem_cons_of_mem _ (List.mem_append_left _ (List.mem_append_right _ h))) (by decide +kernel))
set_option maxRecDepth 20000 in
theorem gX10_retention_X10_needClass : GoodIn wsX10_retention (wsV RX10 146 RX10 yX10_needClass wsX10_needClass) := goodIn_app (goodIn_of _ (by decide +kernel)) ggX10_retention_X10_needClass
set_option maxRecDepth 20000 in
theorem ggX10_retention_X10_needWhat : GoodIn wsX10_retention wsX10_needWhat := goodIn_ca (goodIn_r _ [17, 18, 19] rfl (by decide +kernel)) (goodIn_sub (fun _ h => List.mem_cons_of_mem _ (List.mem_append_right _ h)) (by decide +kernel))
set_option maxRecDepth 20000 in
theorem gX10_retention_X10_needWhat : GoodIn wsX10_retention (va_wsS RX10 149 yX10_needWhat wsX10_needWhat) := goodIn_app (goodIn_of _ (by decide +kernel)) ggX10_retention_X10_needWhat
set_option maxRecDepth 20000 in
theorem ggX10_retention_X10_at : GoodIn wsX10_retention wsX10_at := goodIn_r _ [22] rfl (by decide +kernel)
set_option maxRecDepth 20000 in
theorem gX10_retention_X10_at : GoodIn wsX10_retention (va_wsS RX10 142 yX10_at wsX10_at) := goodIn_app (goodIn_of _ (by decide +kernel)) ggX10_retention_X10_at
set_option maxRecDepth 20000 in
theorem ggX10_ladderDays_X10_needClass : GoodIn wsX10_ladderDays wsX10_needClass := goodIn_ca (goodIn_r _ [6, 7, 8, 1, 9, 10, 11, 12, 13, 14, 24, 25, 26, 27, 28, 29, 30, 31, 32, 33, 34, 35, 36, 37, 38, 39, 40, 41, 42, 43, 44, 45, 46, 47, 48, 49, 50, 51, 52, 53, 54, 55, 56, 57, 58, 59, 60, 61, 62, 63, 64, 65, 66, 67, 68] rfl (by decide +kernel)) (goodIn_sub (fun _ h => List.mem_cons_of_mem _ (List.mem_append_right _ h)) (by decide +kernel))
set_option maxRecDepth 20000 in
theorem gX10_ladderDays_X10_needClass : GoodIn wsX10_ladderDays (wsV RX10 146 RX10 yX10_needClass wsX10_needClass) := goodIn_app (goodIn_of _ (by decide +kernel)) ggX10_ladderDays_X10_needClass
set_option maxRecDepth 20000 in
theorem ggX10_ladderDays_X7_ladderFrom : GoodIn wsX10_ladderDays wsX7_ladderFrom := goodIn_r _ [19, 20, 21, 22, 5, 23, 51, 52, 53, 54, 55, 56, 57, 58, 59, 60, 61, 62, 63, 64, 65, 66] rfl (by decide +kernel)
set_option maxRecDepth 20000 in
theorem gX10_ladderDays_X7_ladderFrom : GoodIn wsX10_ladderDays (wsV RX10 162 RX7 yX7_ladderFrom wsX7_ladderFrom) := goodIn_app (goodIn_of _ (by decide +kernel)) ggX10_ladderDays_X7_ladderFrom
set_option maxRecDepth 20000 in
theorem ggX10_deliver_X10_needUser : GoodIn wsX10_deliver wsX10_needUser := goodIn_ca (goodIn_r _ [14, 1, 2, 7, 15, 16, 17, 18, 19, 20, 269, 270, 271, 272, 273, 274, 275, 276, 277, 278, 279, 280, 281, 282, 283, 284, 285, 286, 287, 288, 289, 290, 291, 292, 293, 294, 295, 296, 297, 298, 299, 300, 301, 302, 303, 304, 305, 306, 307, 308, 309, 310, 311, 312, 313] rfl (by decide +kernel)) (goodIn_sub (fun _ h => List.mem_cons_of_mem _ (List.mem_append_left _ (List.mem_append_left _ (List.mem_append_right _ h)))) (by decide +kernel))
set_option maxRecDepth 20000 in
theorem gX10_deliver_X10_needUser : GoodIn wsX10_deliver (wsV RX10 169 RX10 yX10_needUser wsX10_needUser) := goodIn_app (goodIn_of _ (by decide +kernel)) ggX10_deliver_X10_needUser
set_option maxRecDepth 20000 in
theorem ggX10_deliver_X10_needClass : GoodIn wsX10_deliver wsX10_needClass := goodIn_ca (goodIn_r _ [24, 1, 2, 7, 15, 16, 17, 18, 19, 20, 269, 270, 271, 272, 273, 274, 275, 276, 277, 278, 279, 280, 281, 282, 283, 284, 285, 286, 287, 288, 289, 290, 291, 292, 293, 294, 295, 296, 297, 298, 299, 300, 301, 302, 303, 304, 305, 306, 307, 308, 309, 310, 311, 312, 313] rfl (by decide +kernel)) (goodIn_sub (fun _ h => List.mem_cons_of_mem _ (List.mem_append_left _ (List.mem_append_left _ (List.mem_append_right _ h)))) (by decide +kernel))
set_option maxRecDepth 20000 in
theorem gX10_deliver_X10_needClass : GoodIn wsX10_deliver (wsV RX10 146 RX10 yX10_needClass wsX10_needClass) := goodIn_app (goodIn_of _ (by decide +kernel)) ggX10_deliver_X10_needClass
set_option maxRecDepth 20000 in
theorem ggX10_deliver_X7_allUsers : GoodIn wsX10_deliver wsX7_allUsers := goodIn_r _ [29, 30, 296, 297, 298, 299, 300, 301, 302, 303, 304, 305, 306, 307, 308, 309, 310, 311, 312, 313] rfl (by decide +kernel)
set_option maxRecDepth 20000 in
theorem gX10_deliver_X7_allUsers : GoodIn wsX10_deliver (wsV RX10 172 RX7 yX7_allUsers wsX7_allUsers) := goodIn_app (goodIn_of _ (by decide +kernel)) ggX10_deliver_X7_allUsers
set_option maxRecDepth 20000 in
theorem ggX10_deliver_X1_cut : GoodIn wsX10_deliver wsX1_cut := goodIn_r _ [35, 36, 37, 38, 39, 40, 41, 42, 43, 44, 45, 46, 47, 13, 48, 314, 315, 316, 317, 318, 319] rfl (by decide +kernel)
set_option maxRecDepth 20000 in
theorem gX10_deliver_X1_cut : GoodIn wsX10_deliver (wsV RX10 178 RX1 yX1_cut wsX1_cut) := goodIn_app (goodIn_of _ (by decide +kernel)) ggX10_deliver_X1_cut
set_option maxRecDepth 20000 in
theorem ggX10_deliver_X9_bytesWith : GoodIn wsX10_deliver wsX9_bytesWith := goodIn_r _ [53, 54, 55, 56, 52, 57, 58, 59, 60, 61, 62, 63, 64, 65, 66, 67, 68, 13, 69, 70, 71, 72, 73, 74, 75, 76, 77, 78, 34, 79, 80, 81, 82, 83, 37, 38, 84, 85, 86, 87, 39, 40, 41, 42, 43, 44, 45, 46, 88, 89, 90, 91, 92, 93, 94, 95, 96, 97, 98, 99, 100, 101, 314, 315, 316, 317, 320, 321, 322, 323, 324, 325, 326, 327, 318, 319] rfl (by decide +kernel)
set_option maxRecDepth 20000 in
theorem gX10_deliver_X9_bytesWith : GoodIn wsX10_deliver (wsV RX10 190 RX9 yX9_bytesWith wsX9_bytesWith) := goodIn_app (goodIn_of _ (by decide +kernel)) ggX10_deliver_X9_bytesWith
set_option maxRecDepth 20000 in
theorem ggX10_deliver_X10_remember : GoodIn wsX10_deliver wsX10_remember := goodIn_r _ [105, 106, 107, 7, 108, 109, 110, 13, 111, 112, 113, 114, 115, 116, 117, 118, 119, 120, 121, 122, 123, 124, 125, 126, 127, 128, 129, 130, 131, 132, 133, 134, 135, 136, 137, 138, 139, 140, 141, 142, 52, 143, 58, 144, 145, 74, 146, 147, 63, 148, 149, 150, 151, 152, 153, 154, 155, 156, 157, 269, 270, 271, 272, 273, 274, 275, 276, 277, 278, 279, 280, 281, 282, 283, 284, 285, 286, 287, 288, 289, 290, 291, 292, 293, 294, 295, 320, 321, 322, 323, 324, 325, 326, 327, 328, 329, 330, 331, 332] rfl (by decide +kernel)
set_option maxRecDepth 20000 in
theorem gX10_deliver_X10_remember : GoodIn wsX10_deliver (wsV RX10 94 RX10 yX10_remember wsX10_remember) := goodIn_app (goodIn_of _ (by decide +kernel)) ggX10_deliver_X10_remember
set_option maxRecDepth 20000 in
theorem ggX10_deliver_X8_receive : GoodIn wsX10_deliver wsX8_receive := goodIn_r _ [161, 120, 123, 162, 163, 164, 119, 128, 129, 124, 165, 166, 167, 34, 168, 36, 84, 85, 86, 87, 39, 38, 68, 13, 69, 169, 170, 171, 116, 172, 118, 122, 173, 174, 175, 176, 177, 178, 179, 180, 181, 182, 125, 183, 16, 17, 18, 19, 20, 184, 185, 186, 187, 188, 189, 190, 191, 151, 192, 156, 157, 153, 154, 155, 47, 48, 193, 194, 195, 196, 197, 198, 199, 200, 201, 202, 203, 134, 204, 205, 206, 207, 208, 209, 52, 210, 58, 74, 146, 147, 63, 144, 88, 89, 90, 91, 64, 65, 66, 67, 70, 71, 72, 73, 75, 92, 93, 94, 95, 37, 96, 97, 98, 43, 99, 45, 100, 41, 42, 44, 46, 211, 212, 213, 214, 215, 216, 217, 218, 219, 220, 221, 222, 223, 224, 225, 226, 227, 228, 229, 230, 231, 77, 78, 79, 80, 81, 82, 83, 40, 232, 233, 234, 235, 145, 59, 60, 61, 62, 236, 237, 238, 239, 240, 241, 242, 28, 243, 244, 245, 246, 247, 248, 249, 250, 251, 252, 253, 254, 255, 256, 257, 258, 259, 260, 261, 262, 263, 264, 126, 127, 280, 281, 282, 283, 284, 285, 286, 287, 288, 289, 290, 291, 292, 293, 294, 295, 333, 334, 335, 336, 337, 314, 315, 316, 317, 296, 297, 298, 299, 300, 301, 302, 303, 304, 305, 306, 307, 308, 309, 310, 311, 312, 313, 328, 329, 330, 331, 332, 320, 321, 322, 323, 324, 325, 326, 327, 318, 319] rfl (by decide +kernel)
set_option maxRecDepth 20000 in
theorem gX10_deliver_X8_receive : GoodIn wsX10_deliver (wsV RX10 198 RX8 yX8_receive wsX8_receive) := goodIn_app (goodIn_of _ (by decide +kernel)) ggX10_deliver_X8_receive
set_option maxRecDepth 20000 in
theorem ggX10_deliver_X0_cutTo : GoodIn wsX10_deliver wsX0_cutTo := goodIn_r _ [268, 45, 318, 319] rfl (by decide +kernel)
set_option maxRecDepth 20000 in
theorem gX10_deliver_X0_cutTo : GoodIn wsX10_deliver (wsV RX10 75 RX0 yX0_cutTo wsX0_cutTo) := goodIn_app (goodIn_of _ (by decide +kernel)) ggX10_deliver_X0_cutTo
