set_option maxRecDepth 20000 in
theorem gX6_takeNewName_X6_nextToken : GoodIn wsX6_takeNewName (wsV RX6 26 RX6 yX6_nextToken wsX6_nextToken) := goodIn_app (goodIn_of _ (by decide +kernel)) ggX6_takeNewName_X6_nextToken
set_option maxRecDepth 20000 in
theorem ggX6_takeKnown_X6_isName : GoodIn wsX6_takeKnown wsX6_isName := goodIn_r _ [6, 7, 8, 1, 9, 64, 65, 66, 67, 68, 69, 70, 71, 72, 73] (by decide +kernel) (by decide +kernel)
set_option maxRecDepth 20000 in
theorem gX6_takeKnown_X6_isName : GoodIn wsX6_takeKnown (wsV RX6 196 RX6 yX6_isName wsX6_isName) := goodIn_app (goodIn_of _ (by decide +kernel)) ggX6_takeKnown_X6_isName
set_option maxRecDepth 20000 in
theorem ggX6_takeKnown_X5_numberOf : GoodIn wsX6_takeKnown wsX5_numberOf := goodIn_r _ [14, 15, 16, 74, 75] (by decide +kernel) (by decide +kernel)
set_option maxRecDepth 20000 in
theorem gX6_takeKnown_X5_numberOf : GoodIn wsX6_takeKnown (wsV RX6 199 RX5 yX5_numberOf wsX5_numberOf) := goodIn_app (goodIn_of _ (by decide +kernel)) ggX6_takeKnown_X5_numberOf
set_option maxRecDepth 20000 in
theorem ggX6_takeKnown_X6_fail : GoodIn wsX6_takeKnown wsX6_fail := goodIn_r _ [20, 21, 22, 23, 64, 65, 66, 67, 68, 69, 70, 71, 72, 73] (by decide +kernel) (by decide +kernel)
set_option maxRecDepth 20000 in
theorem gX6_takeKnown_X6_fail : GoodIn wsX6_takeKnown (wsV RX6 71 RX6 yX6_fail wsX6_fail) := goodIn_app (goodIn_of _ (by decide +kernel)) ggX6_takeKnown_X6_fail
set_option maxRecDepth 20000 in
theorem ggX6_takeKnown_X6_nextToken : GoodIn wsX6_takeKnown wsX6_nextToken := goodIn_r _ [27, 28, 29, 22, 8, 1, 30, 7, 31, 32, 33, 34, 35, 36, 37, 38, 39, 5, 40, 41, 42, 43, 44, 45, 46, 47, 48, 49, 50, 51, 52, 53, 54, 55, 56, 57, 58, 59, 60, 61, 62, 63, 64, 65, 66, 67, 68, 69, 70, 71, 72, 73, 76, 77] (by decide +kernel) (by decide +kernel)
set_option maxRecDepth 20000 in
theorem gX6_takeKnown_X6_nextToken : GoodIn wsX6_takeKnown (wsV RX6 26 RX6 yX6_nextToken wsX6_nextToken) := goodIn_app (goodIn_of _ (by decide +kernel)) ggX6_takeKnown_X6_nextToken
set_option maxRecDepth 20000 in
theorem ggX6_takeMember_X6_isName : GoodIn wsX6_takeMember wsX6_isName := goodIn_r _ [7, 8, 9, 2, 10, 67, 68, 69, 70, 71, 72, 73, 74, 75, 76] (by decide +kernel) (by decide +kernel)
set_option maxRecDepth 20000 in
theorem gX6_takeMember_X6_isName : GoodIn wsX6_takeMember (wsV RX6 196 RX6 yX6_isName wsX6_isName) := goodIn_app (goodIn_of _ (by decide +kernel)) ggX6_takeMember_X6_isName
set_option maxRecDepth 20000 in
theorem ggX6_takeMember_X5_numberOf : GoodIn wsX6_takeMember wsX5_numberOf := goodIn_r _ [15, 16, 17, 93, 94] (by decide +kernel) (by decide +kernel)
set_option maxRecDepth 20000 in
theorem gX6_takeMember_X5_numberOf : GoodIn wsX6_takeMember (wsV RX6 199 RX5 yX5_numberOf wsX5_numberOf) := goodIn_app (goodIn_of _ (by decide +kernel)) ggX6_takeMember_X5_numberOf
set_option maxRecDepth 20000 in
theorem ggX6_takeMember_X6_fail : GoodIn wsX6_takeMember wsX6_fail := goodIn_r _ [21, 22, 23, 24, 67, 68, 69, 70, 71, 72, 73, 74, 75, 76] (by decide +kernel) (by decide +kernel)
set_option maxRecDepth 20000 in
theorem gX6_takeMember_X6_fail : GoodIn wsX6_takeMember (wsV RX6 71 RX6 yX6_fail wsX6_fail) := goodIn_app (goodIn_of _ (by decide +kernel)) ggX6_takeMember_X6_fail
set_option maxRecDepth 20000 in
theorem ggX6_takeMember_X6_nextToken : GoodIn wsX6_takeMember wsX6_nextToken := goodIn_r _ [28, 29, 30, 23, 9, 2, 31, 8, 32, 33, 34, 35, 36, 37, 38, 39, 40, 6, 41, 42, 43, 44, 45, 46, 47, 48, 49, 50, 51, 52, 53, 54, 55, 56, 57, 58, 59, 60, 61, 62, 63, 64, 67, 68, 69, 70, 71, 72, 73, 74, 75, 76, 95, 96] (by decide +kernel) (by decide +kernel)
set_option maxRecDepth 20000 in
theorem gX6_takeMember_X6_nextToken : GoodIn wsX6_takeMember (wsV RX6 26 RX6 yX6_nextToken wsX6_nextToken) := goodIn_app (goodIn_of _ (by decide +kernel)) ggX6_takeMember_X6_nextToken
set_option maxRecDepth 20000 in
theorem ggX6_takeMember_X10_at : GoodIn wsX6_takeMember wsX10_at := goodIn_r _ [66] (by decide +kernel) (by decide +kernel)
set_option maxRecDepth 20000 in
theorem gX6_takeMember_X10_at_n207 : GoodIn wsX6_takeMember (wsX10_at) := ggX6_takeMember_X10_at
set_option maxRecDepth 20000 in
theorem ggX6_takeWord_X6_fail : GoodIn wsX6_takeWord wsX6_fail := goodIn_r _ [8, 9, 10, 11, 53, 54, 55, 56, 57, 58, 59, 60, 61, 62] (by decide +kernel) (by decide +kernel)
set_option maxRecDepth 20000 in
theorem gX6_takeWord_X6_fail : GoodIn wsX6_takeWord (wsV RX6 71 RX6 yX6_fail wsX6_fail) := goodIn_app (goodIn_of _ (by decide +kernel)) ggX6_takeWord_X6_fail
set_option maxRecDepth 20000 in
theorem ggX6_takeWord_X6_nextToken : GoodIn wsX6_takeWord wsX6_nextToken := goodIn_r _ [15, 16, 17, 10, 18, 2, 19, 1, 20, 21, 22, 23, 24, 25, 26, 27, 28, 7, 29, 30, 31, 32, 33, 34, 35, 36, 37, 38, 39, 40, 41, 42, 43, 44, 45, 46, 47, 48, 49, 50, 51, 52, 53, 54, 55, 56, 57, 58, 59, 60, 61, 62, 63, 64] (by decide +kernel) (by decide +kernel)
set_option maxRecDepth 20000 in
theorem gX6_takeWord_X6_nextToken : GoodIn wsX6_takeWord (wsV RX6 26 RX6 yX6_nextToken wsX6_nextToken) := goodIn_app (goodIn_of _ (by decide +kernel)) ggX6_takeWord_X6_nextToken
set_option maxRecDepth 20000 in
theorem ggX6_nextToken_X0_byteAt : GoodIn wsX6_nextToken wsX0_byteAt := goodIn_r _ [12, 13, 14, 52, 53] (by decide +kernel) (by decide +kernel)
set_option maxRecDepth 20000 in
theorem gX6_nextToken_X0_byteAt : GoodIn wsX6_nextToken (wsV RX6 216 RX0 yX0_byteAt wsX0_byteAt) := goodIn_app (goodIn_of _ (by decide +kernel)) ggX6_nextToken_X0_byteAt
set_option maxRecDepth 20000 in
theorem ggX6_nextToken_X6_isBlank : GoodIn wsX6_nextToken wsX6_isBlank := goodIn_r _ [18] (by decide +kernel) (by decide +kernel)
set_option maxRecDepth 20000 in
theorem gX6_nextToken_X6_isBlank : GoodIn wsX6_nextToken (va_wsS RX6 220 yX6_isBlank wsX6_isBlank) := goodIn_app (goodIn_of _ (by decide +kernel)) ggX6_nextToken_X6_isBlank
set_option maxRecDepth 20000 in
theorem ggX6_nextToken_X10_isLetter : GoodIn wsX6_nextToken wsX10_isLetter := goodIn_r _ [21] (by decide +kernel) (by decide +kernel)
set_option maxRecDepth 20000 in
theorem gX6_nextToken_X10_isLetter_n223 : GoodIn wsX6_nextToken (wsX10_isLetter) := ggX6_nextToken_X10_isLetter
set_option maxRecDepth 20000 in
theorem ggX6_nextToken_X6_readWord : GoodIn wsX6_nextToken wsX6_readWord := goodIn_r _ [25, 7, 1, 2, 5, 4, 8, 9, 10, 11, 12, 13, 14, 19, 20, 21, 26, 27, 28, 29, 30, 42, 43, 44, 45, 46, 47, 48, 49, 50, 51, 52, 53] (by decide +kernel) (by decide +kernel)
set_option maxRecDepth 20000 in
theorem gX6_nextToken_X6_readWord : GoodIn wsX6_nextToken (wsV RX6 226 RX6 yX6_readWord wsX6_readWord) := goodIn_app (goodIn_of _ (by decide +kernel)) ggX6_nextToken_X6_readWord
set_option maxRecDepth 20000 in
theorem ggX6_nextToken_X10_isDigit : GoodIn wsX6_nextToken wsX10_isDigit := goodIn_r _ [32] (by decide +kernel) (by decide +kernel)
set_option maxRecDepth 20000 in
theorem gX6_nextToken_X10_isDigit_n229 : GoodIn wsX6_nextToken (wsX10_isDigit) := ggX6_nextToken_X10_isDigit
set_option maxRecDepth 20000 in
theorem ggX6_nextToken_X6_readNumber : GoodIn wsX6_nextToken wsX6_readNumber := goodIn_r _ [36, 7, 1, 2, 37, 6, 38, 39, 40, 41, 8, 9, 10, 11, 12, 13, 14, 31, 20, 32, 42, 43, 44, 45, 46, 47, 48, 49, 50, 51, 52, 53] (by decide +kernel) (by decide +kernel)
set_option maxRecDepth 20000 in
theorem gX6_nextToken_X6_readNumber : GoodIn wsX6_nextToken (wsV RX6 232 RX6 yX6_readNumber wsX6_readNumber) := goodIn_app (goodIn_of _ (by decide +kernel)) ggX6_nextToken_X6_readNumber
set_option maxRecDepth 20000 in
theorem ggX6_readWord_X0_byteAt : GoodIn wsX6_readWord wsX0_byteAt := goodIn_r _ [10, 11, 12, 31, 32] (by decide +kernel) (by decide +kernel)
set_option maxRecDepth 20000 in
theorem gX6_readWord_X0_byteAt : GoodIn wsX6_readWord (wsV RX6 216 RX0 yX0_byteAt wsX0_byteAt) := goodIn_app (goodIn_of _ (by decide +kernel)) ggX6_readWord_X0_byteAt
set_option maxRecDepth 20000 in
theorem ggX6_readWord_X10_isLetter : GoodIn wsX6_readWord wsX10_isLetter := goodIn_r _ [15] (by decide +kernel) (by decide +kernel)
set_option maxRecDepth 20000 in
theorem gX6_readWord_X10_isLetter_n223 : GoodIn wsX6_readWord (wsX10_isLetter) := ggX6_readWord_X10_isLetter
set_option maxRecDepth 20000 in
theorem ggX6_readWord_X10_withLetter : GoodIn wsX6_readWord wsX10_withLetter := goodIn_r _ [17, 18, 19, 20] (by decide +kernel) (by decide +kernel)
set_option maxRecDepth 20000 in
theorem gX6_readWord_X10_withLetter_n235 : GoodIn wsX6_readWord (wsX10_withLetter) := ggX6_readWord_X10_withLetter
set_option maxRecDepth 20000 in
theorem ggX6_readNumber_X0_byteAt : GoodIn wsX6_readNumber wsX0_byteAt := goodIn_r _ [14, 15, 16, 30, 31] (by decide +kernel) (by decide +kernel)
set_option maxRecDepth 20000 in
theorem gX6_readNumber_X0_byteAt : GoodIn wsX6_readNumber (wsV RX6 216 RX0 yX0_byteAt wsX0_byteAt) := goodIn_app (goodIn_of _ (by decide +kernel)) ggX6_readNumber_X0_byteAt
set_option maxRecDepth 20000 in
theorem ggX6_readNumber_X10_isDigit : GoodIn wsX6_readNumber wsX10_isDigit := goodIn_r _ [19] (by decide +kernel) (by decide +kernel)
set_option maxRecDepth 20000 in
theorem gX6_readNumber_X10_isDigit_n229 : GoodIn wsX6_readNumber (wsX10_isDigit) := ggX6_readNumber_X10_isDigit
set_option maxRecDepth 20000 in
theorem ggX7_init_X5_init : GoodIn wsX7_init wsX5_init := goodIn_r _ [26, 27, 2, 3, 28, 29, 30, 31, 22, 32, 49, 50] (by decide +kernel) (by decide +kernel)
set_option maxRecDepth 20000 in
theorem gX7_init_X5_init : GoodIn wsX7_init (wsX5_init) := ggX7_init_X5_init
set_option maxRecDepth 20000 in
theorem ggX7_addClass_X5_add : GoodIn wsX7_addClass wsX5_add := goodIn_r _ [9, 10, 11, 31, 32] (by decide +kernel) (by decide +kernel)
set_option maxRecDepth 20000 in
theorem gX7_addClass_X5_add : GoodIn wsX7_addClass (wsV RX7 65 RX5 yX5_add wsX5_add) := goodIn_app (goodIn_of _ (by decide +kernel)) ggX7_addClass_X5_add
set_option maxRecDepth 20000 in
theorem ggX7_addClass_X10_put : GoodIn wsX7_addClass wsX10_put := goodIn_r _ [14] (by decide +kernel) (by decide +kernel)
set_option maxRecDepth 20000 in
theorem gX7_addClass_X10_put_n69 : GoodIn wsX7_addClass (wsX10_put) := ggX7_addClass_X10_put
set_option maxRecDepth 20000 in
theorem ggX7_addUser_X5_add : GoodIn wsX7_addUser wsX5_add := goodIn_r _ [8, 9, 10, 30, 31] (by decide +kernel) (by decide +kernel)
set_option maxRecDepth 20000 in
theorem gX7_addUser_X5_add : GoodIn wsX7_addUser (wsV RX7 65 RX5 yX5_add wsX5_add) := goodIn_app (goodIn_of _ (by decide +kernel)) ggX7_addUser_X5_add
set_option maxRecDepth 20000 in
theorem ggX7_addUser_X10_put : GoodIn wsX7_addUser wsX10_put := goodIn_r _ [13] (by decide +kernel) (by decide +kernel)
set_option maxRecDepth 20000 in
theorem gX7_addUser_X10_put_n69 : GoodIn wsX7_addUser (wsX10_put) := ggX7_addUser_X10_put
set_option maxRecDepth 20000 in
theorem ggX7_addGroup_X5_add : GoodIn wsX7_addGroup wsX5_add := goodIn_r _ [7, 8, 9, 29, 30] (by decide +kernel) (by decide +kernel)
set_option maxRecDepth 20000 in
theorem gX7_addGroup_X5_add : GoodIn wsX7_addGroup (wsV RX7 65 RX5 yX5_add wsX5_add) := goodIn_app (goodIn_of _ (by decide +kernel)) ggX7_addGroup_X5_add
set_option maxRecDepth 20000 in
theorem ggX7_addGroup_X10_put : GoodIn wsX7_addGroup wsX10_put := goodIn_r _ [12] (by decide +kernel) (by decide +kernel)
set_option maxRecDepth 20000 in
theorem gX7_addGroup_X10_put_n69 : GoodIn wsX7_addGroup (wsX10_put) := ggX7_addGroup_X10_put
set_option maxRecDepth 20000 in
theorem ggX7_addHold_X5_add : GoodIn wsX7_addHold wsX5_add := goodIn_r _ [10, 11, 12, 32, 33] (by decide +kernel) (by decide +kernel)
set_option maxRecDepth 20000 in
theorem gX7_addHold_X5_add : GoodIn wsX7_addHold (wsV RX7 65 RX5 yX5_add wsX5_add) := goodIn_app (goodIn_of _ (by decide +kernel)) ggX7_addHold_X5_add
set_option maxRecDepth 20000 in
theorem ggX7_addHold_X10_put : GoodIn wsX7_addHold wsX10_put := goodIn_r _ [15] (by decide +kernel) (by decide +kernel)
set_option maxRecDepth 20000 in
theorem gX7_addHold_X10_put_n69 : GoodIn wsX7_addHold (wsX10_put) := ggX7_addHold_X10_put
set_option maxRecDepth 20000 in
theorem ggX8_init_X9_init : GoodIn wsX8_init wsX9_init := goodIn_r _ [29, 30, 2, 3, 31, 32, 5, 33, 34, 35, 36, 37, 38, 39, 40, 41, 42, 43, 44, 45, 46, 47, 48, 81, 82, 83, 84, 85, 86, 87, 88, 99, 100] (by decide +kernel) (by decide +kernel)
set_option maxRecDepth 20000 in
theorem gX8_init_X9_init : GoodIn wsX8_init (wsX9_init) := ggX8_init_X9_init
set_option maxRecDepth 20000 in
theorem ggX8_init_X2_init : GoodIn wsX8_init wsX2_init := goodIn_r _ [51, 52, 2, 3, 5, 53, 54, 55, 89, 90, 91, 92, 93] (by decide +kernel) (by decide +kernel)
set_option maxRecDepth 20000 in
theorem gX8_init_X2_init : GoodIn wsX8_init (wsX2_init) := ggX8_init_X2_init
set_option maxRecDepth 20000 in
theorem ggX8_init_X4_init : GoodIn wsX8_init wsX4_init := goodIn_r _ [58, 59, 2, 3, 60, 61, 62, 63, 44, 45, 46, 5, 64, 94, 95, 96, 97, 98] (by decide +kernel) (by decide +kernel)
set_option maxRecDepth 20000 in
theorem gX8_init_X4_init : GoodIn wsX8_init (wsX4_init) := ggX8_init_X4_init
set_option maxRecDepth 20000 in
theorem ggX8_startWith_X7_allHolds : GoodIn wsX8_startWith wsX7_allHolds := goodIn_r _ [13, 14, 57, 58, 59, 60, 61, 62, 63, 64, 65, 66, 67, 68, 69, 70, 71, 72, 73, 74] (by decide +kernel) (by decide +kernel)
set_option maxRecDepth 20000 in
theorem gX8_startWith_X7_allHolds : GoodIn wsX8_startWith (wsV RX8 72 RX7 yX7_allHolds wsX7_allHolds) := goodIn_app (goodIn_of _ (by decide +kernel)) ggX8_startWith_X7_allHolds
set_option maxRecDepth 20000 in
theorem ggX8_startWith_X10_copyRow : GoodIn wsX8_startWith wsX10_copyRow := goodIn_r _ [17, 18, 19, 20, 21, 22, 23, 24, 25] (by decide +kernel) (by decide +kernel)
set_option maxRecDepth 20000 in
theorem gX8_startWith_X10_copyRow_n84 : GoodIn wsX8_startWith (wsX10_copyRow) := ggX8_startWith_X10_copyRow
set_option maxRecDepth 20000 in
theorem ggX8_startWith_X9_clear : GoodIn wsX8_startWith wsX9_clear := goodIn_r _ [30, 31, 32, 33, 75, 76, 77, 78, 79, 80, 81, 82] (by decide +kernel) (by decide +kernel)
set_option maxRecDepth 20000 in
theorem gX8_startWith_X9_clear : GoodIn wsX8_startWith (wsV RX8 91 RX9 yX9_clear wsX9_clear) := goodIn_app (goodIn_of _ (by decide +kernel)) ggX8_startWith_X9_clear
set_option maxRecDepth 20000 in
theorem ggX8_startWith_X2_clear : GoodIn wsX8_startWith wsX2_clear := goodIn_r _ [38, 39, 40, 83, 84, 85, 86, 87] (by decide +kernel) (by decide +kernel)
set_option maxRecDepth 20000 in
theorem gX8_startWith_X2_clear : GoodIn wsX8_startWith (wsV RX8 94 RX2 yX2_clear wsX2_clear) := goodIn_app (goodIn_of _ (by decide +kernel)) ggX8_startWith_X2_clear
set_option maxRecDepth 20000 in
theorem ggX8_copyFrom_X10_copyRow : GoodIn wsX8_copyFrom wsX10_copyRow := goodIn_r _ [15, 16, 17, 18, 19, 20, 21, 22, 23] (by decide +kernel) (by decide +kernel)
set_option maxRecDepth 20000 in
theorem gX8_copyFrom_X10_copyRow_n84 : GoodIn wsX8_copyFrom (wsX10_copyRow) := ggX8_copyFrom_X10_copyRow
set_option maxRecDepth 20000 in
theorem ggX8_copyFrom_X9_copyFrom : GoodIn wsX8_copyFrom wsX9_copyFrom := goodIn_r _ [28, 29, 30, 31, 32, 33, 34, 35, 13, 14, 15, 16, 17, 18, 19, 20, 21, 22, 23, 62, 63, 64, 65, 66, 67, 68, 69] (by decide +kernel) (by decide +kernel)
set_option maxRecDepth 20000 in
theorem gX8_copyFrom_X9_copyFrom : GoodIn wsX8_copyFrom (wsV RX8 95 RX9 yX9_copyFrom wsX9_copyFrom) := goodIn_app (goodIn_of _ (by decide +kernel)) ggX8_copyFrom_X9_copyFrom
set_option maxRecDepth 20000 in
theorem ggX8_copyFrom_X2_copyFrom : GoodIn wsX8_copyFrom wsX2_copyFrom := goodIn_r _ [40, 41, 42, 43, 44, 45, 13, 14, 15, 16, 17, 18, 19, 20, 21, 22, 23, 70, 71, 72, 73, 74] (by decide +kernel) (by decide +kernel)
set_option maxRecDepth 20000 in
theorem gX8_copyFrom_X2_copyFrom : GoodIn wsX8_copyFrom (wsV RX8 99 RX2 yX2_copyFrom wsX2_copyFrom) := goodIn_app (goodIn_of _ (by decide +kernel)) ggX8_copyFrom_X2_copyFrom
set_option maxRecDepth 20000 in
theorem ggX8_stateOf_X5_has : GoodIn wsX8_stateOf wsX5_has := goodIn_r _ [8, 9, 45, 46] (by decide +kernel) (by decide +kernel)
set_option maxRecDepth 20000 in
theorem gX8_stateOf_X5_has : GoodIn wsX8_stateOf (wsV RX8 106 RX5 yX5_has wsX5_has) := goodIn_app (goodIn_of _ (by decide +kernel)) ggX8_stateOf_X5_has
set_option maxRecDepth 20000 in
theorem ggX8_stateOf_X10_at : GoodIn wsX8_stateOf wsX10_at := goodIn_r _ [12] (by decide +kernel) (by decide +kernel)
set_option maxRecDepth 20000 in
theorem gX8_stateOf_X10_at_n112 : GoodIn wsX8_stateOf (wsX10_at) := ggX8_stateOf_X10_at
set_option maxRecDepth 20000 in
theorem ggX8_retentionOf_X10_at : GoodIn wsX8_retentionOf wsX10_at := goodIn_r _ [4] (by decide +kernel) (by decide +kernel)
set_option maxRecDepth 20000 in
theorem gX8_retentionOf_X10_at_n112 : GoodIn wsX8_retentionOf (wsX10_at) := ggX8_retentionOf_X10_at
set_option maxRecDepth 20000 in
theorem ggX8_usersIn_X8_stateOf : GoodIn wsX8_usersIn wsX8_stateOf := goodIn_r _ [6, 7, 1, 8, 9, 10, 11, 12, 13, 14, 15, 16, 17, 18, 19, 20, 21, 22, 23, 24, 25, 26, 27, 28, 29, 30, 31, 32, 33, 34, 35, 36, 37, 38, 39, 40, 41, 42, 43, 44, 45, 46, 47, 48, 49, 50, 51] (by decide +kernel) (by decide +kernel)
set_option maxRecDepth 20000 in
theorem gX8_usersIn_X8_stateOf : GoodIn wsX8_usersIn (wsV RX8 116 RX8 yX8_stateOf wsX8_stateOf) := goodIn_app (goodIn_of _ (by decide +kernel)) ggX8_usersIn_X8_stateOf
set_option maxRecDepth 20000 in
theorem ggX8_keepsMessage_X8_stateOf : GoodIn wsX8_keepsMessage wsX8_stateOf := goodIn_r _ [6, 7, 1, 8, 9, 10, 11, 12, 13, 14, 15, 16, 17, 18, 19, 20, 21, 22, 23, 24, 25, 26, 27, 28, 29, 30, 31, 32, 33, 34, 35, 36, 37, 38, 39, 40, 41, 42, 43, 44, 45, 46, 47, 48, 49, 50, 51] (by decide +kernel) (by decide +kernel)
set_option maxRecDepth 20000 in
theorem gX8_keepsMessage_X8_stateOf : GoodIn wsX8_keepsMessage (wsV RX8 116 RX8 yX8_stateOf wsX8_stateOf) := goodIn_app (goodIn_of _ (by decide +kernel)) ggX8_keepsMessage_X8_stateOf
set_option maxRecDepth 20000 in
theorem ggX8_usageOf_X8_stateOf : GoodIn wsX8_usageOf wsX8_stateOf := goodIn_r _ [6, 1, 7, 8, 9, 10, 11, 12, 13, 14, 15, 16, 17, 24, 25, 26, 27, 28, 29, 30, 31, 32, 33, 34, 35, 36, 37, 38, 39, 45, 46, 47, 48, 49, 50, 51, 52, 53, 54, 55, 56, 57, 58, 59, 60, 61, 62] (by decide +kernel) (by decide +kernel)
set_option maxRecDepth 20000 in
theorem gX8_usageOf_X8_stateOf : GoodIn wsX8_usageOf (wsV RX8 116 RX8 yX8_stateOf wsX8_stateOf) := goodIn_app (goodIn_of _ (by decide +kernel)) ggX8_usageOf_X8_stateOf
set_option maxRecDepth 20000 in
theorem ggX8_usageOf_X8_messageAt : GoodIn wsX8_usageOf wsX8_messageAt := goodIn_r _ [21, 1, 22, 23, 24, 25, 26, 27, 28, 29, 30, 31, 32, 33, 34, 35, 36, 37, 38, 39] (by decide +kernel) (by decide +kernel)
set_option maxRecDepth 20000 in
theorem gX8_usageOf_X8_messageAt : GoodIn wsX8_usageOf (wsV RX8 123 RX8 yX8_messageAt wsX8_messageAt) := goodIn_app (goodIn_of _ (by decide +kernel)) ggX8_usageOf_X8_messageAt
set_option maxRecDepth 20000 in
theorem ggX8_hasWord_X8_messageAt : GoodIn wsX8_hasWord wsX8_messageAt := goodIn_r _ [6, 7, 8, 9, 42, 43, 44, 45, 46, 47, 48, 49, 50, 51, 52, 53, 54, 55, 56, 57] (by decide +kernel) (by decide +kernel)
set_option maxRecDepth 20000 in
theorem gX8_hasWord_X8_messageAt : GoodIn wsX8_hasWord (wsV RX8 123 RX8 yX8_messageAt wsX8_messageAt) := goodIn_app (goodIn_of _ (by decide +kernel)) ggX8_hasWord_X8_messageAt
set_option maxRecDepth 20000 in
theorem ggX8_hasWord_X9_bytesOf : GoodIn wsX8_hasWord wsX9_bytesOf := goodIn_r _ [14, 15, 16, 17, 58, 59, 60, 61, 62, 63, 64, 65] (by decide +kernel) (by decide +kernel)
set_option maxRecDepth 20000 in
theorem gX8_hasWord_X9_bytesOf : GoodIn wsX8_hasWord (wsV RX8 159 RX9 yX9_bytesOf wsX9_bytesOf) := goodIn_app (goodIn_of _ (by decide +kernel)) ggX8_hasWord_X9_bytesOf
set_option maxRecDepth 20000 in
theorem ggX8_hasWord_X0_hasWord : GoodIn wsX8_hasWord wsX0_hasWord := goodIn_r _ [22, 23, 24, 25, 26, 21, 27, 28, 29, 30, 31, 32, 33, 34, 35, 36, 66, 67] (by decide +kernel) (by decide +kernel)
set_option maxRecDepth 20000 in
theorem gX8_hasWord_X0_hasWord : GoodIn wsX8_hasWord (wsV RX8 163 RX0 yX0_hasWord wsX0_hasWord) := goodIn_app (goodIn_of _ (by decide +kernel)) ggX8_hasWord_X0_hasWord
set_option maxRecDepth 20000 in
theorem ggX8_liveWithWord_X8_stateOf : GoodIn wsX8_liveWithWord wsX8_stateOf := goodIn_r _ [6, 1, 7, 8, 9, 10, 11, 12, 13, 14, 15, 16, 17, 55, 56, 57, 58, 59, 60, 61, 62, 63, 64, 65, 66, 67, 68, 69, 70, 71, 72, 73, 74, 75, 76, 77, 78, 79, 80, 81, 82, 83, 84, 85, 86, 87, 88] (by decide +kernel) (by decide +kernel)
set_option maxRecDepth 20000 in
theorem gX8_liveWithWord_X8_stateOf : GoodIn wsX8_liveWithWord (wsV RX8 116 RX8 yX8_stateOf wsX8_stateOf) := goodIn_app (goodIn_of _ (by decide +kernel)) ggX8_liveWithWord_X8_stateOf
set_option maxRecDepth 20000 in
theorem ggX8_liveWithWord_X8_hasWord : GoodIn wsX8_liveWithWord wsX8_hasWord := goodIn_r _ [21, 22, 23, 24, 25, 5, 26, 1, 27, 28, 29, 30, 31, 32, 33, 34, 35, 36, 37, 38, 39, 40, 41, 42, 43, 44, 45, 46, 47, 48, 16, 49, 50, 51, 52, 53, 54, 89, 90, 91, 92, 93, 55, 56, 57, 58, 59, 60, 61, 62, 63, 64, 65, 66, 67, 68, 69, 70, 94, 95, 96, 97, 98, 99, 100, 101, 102, 103] (by decide +kernel) (by decide +kernel)
set_option maxRecDepth 20000 in
theorem gX8_liveWithWord_X8_hasWord : GoodIn wsX8_liveWithWord (wsV RX8 169 RX8 yX8_hasWord wsX8_hasWord) := goodIn_app (goodIn_of _ (by decide +kernel)) ggX8_liveWithWord_X8_hasWord
set_option maxRecDepth 20000 in
theorem ggX8_gatherReaders_J7_fill_53178 : GoodIn wsX8_gatherReaders wsJ7_fill_53178 := goodIn_r _ [5] (by decide +kernel) (by decide +kernel)
set_option maxRecDepth 20000 in
theorem gX8_gatherReaders_J7_fill_53178 : GoodIn wsX8_gatherReaders (va_wsS RX8 172 yJ7_fill_53178 wsJ7_fill_53178) := goodIn_app (goodIn_of _ (by decide +kernel)) ggX8_gatherReaders_J7_fill_53178
set_option maxRecDepth 20000 in
theorem ggX8_gatherReaders_X8_usersIn : GoodIn wsX8_gatherReaders wsX8_usersIn := goodIn_r _ [10, 11, 12, 13, 14, 9, 15, 1, 16, 17, 18, 19, 20, 21, 22, 23, 24, 25, 34, 35, 36, 37, 38, 39, 40, 41, 42, 43, 44, 45, 46, 47, 48, 49, 55, 56, 57, 58, 59, 60, 61, 62, 63, 64, 65, 66, 67, 68, 69, 70, 71, 72] (by decide +kernel) (by decide +kernel)
set_option maxRecDepth 20000 in
theorem gX8_gatherReaders_X8_usersIn : GoodIn wsX8_gatherReaders (wsV RX8 178 RX8 yX8_usersIn wsX8_usersIn) := goodIn_app (goodIn_of _ (by decide +kernel)) ggX8_gatherReaders_X8_usersIn
set_option maxRecDepth 20000 in
theorem ggX8_gatherReaders_X8_messageAt : GoodIn wsX8_gatherReaders wsX8_messageAt := goodIn_r _ [29, 1, 30, 31, 34, 35, 36, 37, 38, 39, 40, 41, 42, 43, 44, 45, 46, 47, 48, 49] (by decide +kernel) (by decide +kernel)
set_option maxRecDepth 20000 in
theorem gX8_gatherReaders_X8_messageAt : GoodIn wsX8_gatherReaders (wsV RX8 123 RX8 yX8_messageAt wsX8_messageAt) := goodIn_app (goodIn_of _ (by decide +kernel)) ggX8_gatherReaders_X8_messageAt
set_option maxRecDepth 20000 in
theorem ggX8_gatherReaders_X10_at : GoodIn wsX8_gatherReaders wsX10_at := goodIn_r _ [25] (by decide +kernel) (by decide +kernel)
set_option maxRecDepth 20000 in
theorem gX8_gatherReaders_X10_at_n112 : GoodIn wsX8_gatherReaders (wsX10_at) := ggX8_gatherReaders_X10_at
set_option maxRecDepth 20000 in
theorem ggX8_gatherReaders_X10_put : GoodIn wsX8_gatherReaders wsX10_put := goodIn_r _ [33] (by decide +kernel) (by decide +kernel)
set_option maxRecDepth 20000 in
theorem gX8_gatherReaders_X10_put_n181 : GoodIn wsX8_gatherReaders (wsX10_put) := ggX8_gatherReaders_X10_put
set_option maxRecDepth 20000 in
theorem ggX8_receive_X1_sizeOfAll : GoodIn wsX8_receive wsX1_sizeOfAll := goodIn_r _ [14, 15, 16, 17, 18, 13, 19, 20, 21, 22, 23, 24, 212, 213, 214, 215] (by decide +kernel) (by decide +kernel)
set_option maxRecDepth 20000 in
theorem gX8_receive_X1_sizeOfAll : GoodIn wsX8_receive (wsV RX8 195 RX1 yX1_sizeOfAll wsX1_sizeOfAll) := goodIn_app (goodIn_of _ (by decide +kernel)) ggX8_receive_X1_sizeOfAll
set_option maxRecDepth 20000 in
theorem ggX8_receive_X8_bounce : GoodIn wsX8_receive wsX8_bounce := goodIn_r _ [29, 30, 31, 8, 6, 32, 23, 33, 34, 35, 36, 28, 37, 2, 38, 39, 40, 41, 42, 43, 44, 45, 46, 47, 48, 22, 24, 49, 50, 51, 52, 9, 53, 54, 55, 56, 57, 58, 59, 60, 61, 62, 63, 64, 65, 191, 192, 193, 194, 195, 196, 197, 198, 199, 200, 201, 202, 203, 204, 205, 206, 216, 217, 218, 219, 220, 221, 222, 223, 224, 225, 226, 227, 228, 229, 230, 231, 232, 233, 207, 208, 209, 210, 211, 234, 235, 236, 237, 238] (by decide +kernel) (by decide +kernel)
set_option maxRecDepth 20000 in
theorem gX8_receive_X8_bounce : GoodIn wsX8_receive (wsV RX8 200 RX8 yX8_bounce wsX8_bounce) := goodIn_app (goodIn_of _ (by decide +kernel)) ggX8_receive_X8_bounce
set_option maxRecDepth 20000 in
theorem ggX8_receive_X4_init : GoodIn wsX8_receive wsX4_init := goodIn_r _ [68, 69, 70, 71, 72, 73, 74, 75, 76, 77, 78, 79, 80, 207, 208, 209, 210, 211] (by decide +kernel) (by decide +kernel)
set_option maxRecDepth 20000 in
theorem gX8_receive_X4_init : GoodIn wsX8_receive (wsX4_init) := ggX8_receive_X4_init
set_option maxRecDepth 20000 in
theorem ggX8_receive_X9_numberFor : GoodIn wsX8_receive wsX9_numberFor := goodIn_r _ [85, 86, 87, 88, 89, 90, 91, 92, 93, 94, 84, 95, 96, 97, 98, 99, 22, 23, 24, 100, 101, 102, 103, 104, 105, 106, 107, 13, 108, 109, 21, 20, 110, 111, 112, 113, 114, 115, 116, 117, 118, 119, 120, 121, 122, 123, 124, 125, 126, 16, 17, 18, 19, 127, 128, 129, 130, 70, 71, 131, 76, 77, 78, 132, 133, 134, 135, 136, 137, 138, 139, 140, 64, 65, 239, 240, 241, 242, 243, 244, 245, 246, 212, 213, 214, 215, 247, 248] (by decide +kernel) (by decide +kernel)
set_option maxRecDepth 20000 in
theorem gX8_receive_X9_numberFor : GoodIn wsX8_receive (wsV RX8 206 RX9 yX9_numberFor wsX9_numberFor) := goodIn_app (goodIn_of _ (by decide +kernel)) ggX8_receive_X9_numberFor
set_option maxRecDepth 20000 in
theorem ggX8_receive_X10_put : GoodIn wsX8_receive wsX10_put := goodIn_r _ [65] (by decide +kernel) (by decide +kernel)
set_option maxRecDepth 20000 in
theorem gX8_receive_X10_put_n181 : GoodIn wsX8_receive (wsX10_put) := ggX8_receive_X10_put
set_option maxRecDepth 20000 in
theorem ggX8_receive_X1_isFirstOfItsKind : GoodIn wsX8_receive wsX1_isFirstOfItsKind := goodIn_r _ [144, 145, 146, 147, 13, 148, 109, 21, 16, 17, 18, 19, 20, 22, 23, 24, 149, 117, 118, 113, 119, 115, 120, 212, 213, 214, 215, 247, 248] (by decide +kernel) (by decide +kernel)
set_option maxRecDepth 20000 in
theorem gX8_receive_X1_isFirstOfItsKind : GoodIn wsX8_receive (wsV RX8 210 RX1 yX1_isFirstOfItsKind wsX1_isFirstOfItsKind) := goodIn_app (goodIn_of _ (by decide +kernel)) ggX8_receive_X1_isFirstOfItsKind
set_option maxRecDepth 20000 in
theorem ggX8_receive_X9_addKeeper : GoodIn wsX8_receive wsX9_addKeeper := goodIn_r _ [153, 89, 90, 154, 22, 23, 24, 64, 65, 155, 156, 157, 84, 158, 96, 97, 98, 99, 86, 239, 240, 241, 242, 243, 244, 245, 246] (by decide +kernel) (by decide +kernel)
set_option maxRecDepth 20000 in
theorem gX8_receive_X9_addKeeper : GoodIn wsX8_receive (wsV RX8 213 RX9 yX9_addKeeper wsX9_addKeeper) := goodIn_app (goodIn_of _ (by decide +kernel)) ggX8_receive_X9_addKeeper
set_option maxRecDepth 20000 in
theorem ggX8_receive_X2_note : GoodIn wsX8_receive wsX2_note := goodIn_r _ [58, 59, 60, 61, 62, 63, 64, 23, 65, 234, 235, 236, 237, 238] (by decide +kernel) (by decide +kernel)
set_option maxRecDepth 20000 in
theorem gX8_receive_X2_note : GoodIn wsX8_receive (wsV RX8 216 RX2 yX2_note wsX2_note) := goodIn_app (goodIn_of _ (by decide +kernel)) ggX8_receive_X2_note
set_option maxRecDepth 20000 in
theorem ggX8_receive_X8_holdsAskingFor : GoodIn wsX8_receive wsX8_holdsAskingFor := goodIn_r _ [162, 30, 6, 163, 164, 165, 166, 167, 168, 22, 23, 24, 169, 170, 171, 28, 172, 7, 49, 50, 51, 52, 2, 9, 53, 173, 101, 102, 84, 103, 86, 87, 104, 174, 175, 176, 113, 177, 115, 116, 117, 118, 119, 120, 178, 179, 180, 181, 182, 183, 184, 191, 192, 193, 194, 195, 196, 197, 198, 199, 200, 201, 202, 203, 204, 205, 206, 216, 217, 218, 219, 220, 221, 222, 223, 224, 225, 226, 227, 228, 229, 230, 231, 232, 233, 207, 208, 209, 210, 211, 239, 240, 241, 242, 243, 244, 245, 246, 247, 248] (by decide +kernel) (by decide +kernel)
set_option maxRecDepth 20000 in
theorem gX8_receive_X8_holdsAskingFor : GoodIn wsX8_receive (wsV RX8 220 RX8 yX8_holdsAskingFor wsX8_holdsAskingFor) := goodIn_app (goodIn_of _ (by decide +kernel)) ggX8_receive_X8_holdsAskingFor
set_option maxRecDepth 20000 in
theorem ggX8_receive_X8_addReferences : GoodIn wsX8_receive wsX8_addReferences := goodIn_r _ [188, 42, 189, 30, 190, 6, 32, 23, 33, 64, 65, 22, 24, 191, 192, 193, 194, 195, 196, 197, 198, 199, 200, 201, 202, 203, 204, 205, 206, 216, 217, 218, 219, 220, 221, 222, 223, 224, 225, 226, 227, 228, 229, 230, 231] (by decide +kernel) (by decide +kernel)
set_option maxRecDepth 20000 in
theorem gX8_receive_X8_addReferences : GoodIn wsX8_receive (wsV RX8 223 RX8 yX8_addReferences wsX8_addReferences) := goodIn_app (goodIn_of _ (by decide +kernel)) ggX8_receive_X8_addReferences
set_option maxRecDepth 20000 in
theorem ggX8_bounce_X10_hasBit : GoodIn wsX8_bounce wsX10_hasBit := goodIn_r _ [7] (by decide +kernel) (by decide +kernel)
set_option maxRecDepth 20000 in
theorem gX8_bounce_X10_hasBit_n226 : GoodIn wsX8_bounce (wsX10_hasBit) := ggX8_bounce_X10_hasBit
set_option maxRecDepth 20000 in
theorem ggX8_bounce_X8_usageOf : GoodIn wsX8_bounce wsX8_usageOf := goodIn_r _ [12, 13, 14, 15, 16, 11, 17, 1, 18, 19, 20, 21, 22, 23, 24, 25, 6, 26, 27, 28, 29, 30, 31, 32, 45, 46, 47, 48, 49, 50, 51, 52, 53, 54, 55, 56, 57, 58, 59, 60, 79, 80, 81, 82, 83, 61, 62, 63, 64, 65, 66, 67, 68, 69, 70, 71, 72, 73, 74, 75, 76, 77, 78] (by decide +kernel) (by decide +kernel)
set_option maxRecDepth 20000 in
theorem gX8_bounce_X8_usageOf : GoodIn wsX8_bounce (wsV RX8 229 RX8 yX8_usageOf wsX8_usageOf) := goodIn_app (goodIn_of _ (by decide +kernel)) ggX8_bounce_X8_usageOf
set_option maxRecDepth 20000 in
theorem ggX8_bounce_X10_at : GoodIn wsX8_bounce wsX10_at := goodIn_r _ [26] (by decide +kernel) (by decide +kernel)
set_option maxRecDepth 20000 in
theorem gX8_bounce_X10_at_n112 : GoodIn wsX8_bounce (wsX10_at) := ggX8_bounce_X10_at
set_option maxRecDepth 20000 in
theorem ggX8_bounce_X2_note : GoodIn wsX8_bounce wsX2_note := goodIn_r _ [37, 38, 39, 40, 41, 42, 43, 6, 44, 84, 85, 86, 87, 88] (by decide +kernel) (by decide +kernel)
set_option maxRecDepth 20000 in
theorem gX8_bounce_X2_note : GoodIn wsX8_bounce (wsV RX8 216 RX2 yX2_note wsX2_note) := goodIn_app (goodIn_of _ (by decide +kernel)) ggX8_bounce_X2_note
set_option maxRecDepth 20000 in
theorem ggX8_holdsAskingFor_X7_wordOfHold : GoodIn wsX8_holdsAskingFor wsX7_wordOfHold := goodIn_r _ [7, 8, 67, 68, 69, 70, 71, 72, 73, 74, 75, 76, 77, 78, 79, 80, 81, 82] (by decide +kernel) (by decide +kernel)
set_option maxRecDepth 20000 in
theorem gX8_holdsAskingFor_X7_wordOfHold : GoodIn wsX8_holdsAskingFor (wsV RX8 234 RX7 yX7_wordOfHold wsX7_wordOfHold) := goodIn_app (goodIn_of _ (by decide +kernel)) ggX8_holdsAskingFor_X7_wordOfHold
set_option maxRecDepth 20000 in
theorem ggX8_holdsAskingFor_X10_at : GoodIn wsX8_holdsAskingFor wsX10_at := goodIn_r _ [11] (by decide +kernel) (by decide +kernel)
set_option maxRecDepth 20000 in
theorem gX8_holdsAskingFor_X10_at_n112 : GoodIn wsX8_holdsAskingFor (wsX10_at) := ggX8_holdsAskingFor_X10_at
set_option maxRecDepth 20000 in
theorem ggX8_holdsAskingFor_X8_hasWord : GoodIn wsX8_holdsAskingFor wsX8_hasWord := goodIn_r _ [16, 17, 18, 19, 20, 15, 21, 22, 23, 24, 25, 26, 27, 28, 29, 30, 31, 32, 33, 34, 35, 36, 37, 38, 39, 40, 41, 42, 43, 44, 10, 45, 46, 47, 48, 49, 50, 85, 86, 87, 88, 89, 51, 52, 53, 54, 55, 56, 57, 58, 59, 60, 61, 62, 63, 64, 65, 66, 90, 91, 92, 93, 94, 95, 96, 97, 98, 99] (by decide +kernel) (by decide +kernel)
set_option maxRecDepth 20000 in
theorem gX8_holdsAskingFor_X8_hasWord : GoodIn wsX8_holdsAskingFor (wsV RX8 169 RX8 yX8_hasWord wsX8_hasWord) := goodIn_app (goodIn_of _ (by decide +kernel)) ggX8_holdsAskingFor_X8_hasWord
set_option maxRecDepth 20000 in
theorem ggX8_addReferences_X10_hasBit : GoodIn wsX8_addReferences wsX10_hasBit := goodIn_r _ [8] (by decide +kernel) (by decide +kernel)
set_option maxRecDepth 20000 in
theorem gX8_addReferences_X10_hasBit_n226 : GoodIn wsX8_addReferences (wsX10_hasBit) := ggX8_addReferences_X10_hasBit
set_option maxRecDepth 20000 in
theorem ggX8_addReferences_X10_put : GoodIn wsX8_addReferences wsX10_put := goodIn_r _ [10] (by decide +kernel) (by decide +kernel)
set_option maxRecDepth 20000 in
theorem gX8_addReferences_X10_put_n181 : GoodIn wsX8_addReferences (wsX10_put) := ggX8_addReferences_X10_put
set_option maxRecDepth 20000 in
theorem ggX8_addReferences_X10_at : GoodIn wsX8_addReferences wsX10_at := goodIn_r _ [12] (by decide +kernel) (by decide +kernel)
set_option maxRecDepth 20000 in
theorem gX8_addReferences_X10_at_n112 : GoodIn wsX8_addReferences (wsX10_at) := ggX8_addReferences_X10_at
set_option maxRecDepth 20000 in
theorem ggX9_init_X0_init : GoodIn wsX9_init wsX0_init := goodIn_r _ [15, 16, 2, 3, 17, 18, 19, 20, 21, 22, 31, 32] (by decide +kernel) (by decide +kernel)
set_option maxRecDepth 20000 in
theorem gX9_init_X0_init : GoodIn wsX9_init (wsX0_init) := ggX9_init_X0_init
set_option maxRecDepth 20000 in
theorem ggX9_copyFrom_X10_copyRow : GoodIn wsX9_copyFrom wsX10_copyRow := goodIn_r _ [10, 11, 12, 13, 14, 15, 16, 17, 18] (by decide +kernel) (by decide +kernel)
set_option maxRecDepth 20000 in
theorem gX9_copyFrom_X10_copyRow_n44 : GoodIn wsX9_copyFrom (wsX10_copyRow) := ggX9_copyFrom_X10_copyRow
set_option maxRecDepth 20000 in
theorem ggX9_isStored_X10_at : GoodIn wsX9_isStored wsX10_at := goodIn_r _ [5] (by decide +kernel) (by decide +kernel)
set_option maxRecDepth 20000 in
theorem gX9_isStored_X10_at_n48 : GoodIn wsX9_isStored (wsX10_at) := ggX9_isStored_X10_at
set_option maxRecDepth 20000 in
theorem ggX9_isDead_X9_isStored : GoodIn wsX9_isDead wsX9_isStored := goodIn_r _ [6, 7, 1, 8, 9, 10, 11, 12, 13, 14, 15, 16, 17, 18] (by decide +kernel) (by decide +kernel)
set_option maxRecDepth 20000 in
theorem gX9_isDead_X9_isStored : GoodIn wsX9_isDead (wsV RX9 52 RX9 yX9_isStored wsX9_isStored) := goodIn_app (goodIn_of _ (by decide +kernel)) ggX9_isDead_X9_isStored
set_option maxRecDepth 20000 in
theorem ggX9_isDead_X10_at : GoodIn wsX9_isDead wsX10_at := goodIn_r _ [10] (by decide +kernel) (by decide +kernel)
set_option maxRecDepth 20000 in
theorem gX9_isDead_X10_at_n48 : GoodIn wsX9_isDead (wsX10_at) := ggX9_isDead_X10_at
set_option maxRecDepth 20000 in
theorem ggX9_byteSum_X9_isDead : GoodIn wsX9_byteSum wsX9_isDead := goodIn_r _ [6, 7, 8, 9, 10, 5, 11, 1, 12, 13, 14, 21, 22, 23, 24, 25, 26, 27, 28] (by decide +kernel) (by decide +kernel)
set_option maxRecDepth 20000 in
theorem gX9_byteSum_X9_isDead : GoodIn wsX9_byteSum (wsV RX9 56 RX9 yX9_isDead wsX9_isDead) := goodIn_app (goodIn_of _ (by decide +kernel)) ggX9_byteSum_X9_isDead
