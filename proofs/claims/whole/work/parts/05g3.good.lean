set_option maxRecDepth 20000 in
theorem ggX11_stateOf_X11_refAt : GoodIn wsX11_stateOf wsX11_refAt := goodIn_r _ [5] rfl (by decide +kernel)
set_option maxRecDepth 20000 in
theorem gX11_stateOf_X11_refAt : GoodIn wsX11_stateOf (va_wsS RX11 68 yX11_refAt wsX11_refAt) := goodIn_app (goodIn_of _ (by decide +kernel)) ggX11_stateOf_X11_refAt
set_option maxRecDepth 20000 in
theorem ggX11_isRef_X11_isMessage : GoodIn wsX11_isRef wsX11_isMessage := goodIn_r _ [5, 6, 7, 8, 4, 9, 21, 22, 23, 24, 25, 26, 27, 28, 29, 30, 31, 32, 33, 34, 35, 36, 37, 38, 39, 40, 41, 42, 43, 44, 45, 46, 47, 48, 49, 50] rfl (by decide +kernel)
set_option maxRecDepth 20000 in
theorem gX11_isRef_X11_isMessage : GoodIn wsX11_isRef (wsV RX11 72 RX11 yX11_isMessage wsX11_isMessage) := goodIn_app (goodIn_of _ (by decide +kernel)) ggX11_isRef_X11_isMessage
set_option maxRecDepth 20000 in
theorem ggX11_isRef_X11_isUser : GoodIn wsX11_isRef wsX11_isUser := goodIn_r _ [13, 6, 7, 8, 4, 9, 21, 22, 23, 24, 25, 26, 27, 28, 29, 30, 31, 32, 33, 34, 35, 36, 37, 38, 39, 40, 41, 42, 43, 44, 45, 46, 47, 48, 49, 50] rfl (by decide +kernel)
set_option maxRecDepth 20000 in
theorem gX11_isRef_X11_isUser : GoodIn wsX11_isRef (wsV RX11 76 RX11 yX11_isUser wsX11_isUser) := goodIn_app (goodIn_of _ (by decide +kernel)) ggX11_isRef_X11_isUser
set_option maxRecDepth 20000 in
theorem ggX11_isRef_X11_stateOf : GoodIn wsX11_isRef wsX11_stateOf := goodIn_r _ [17, 6, 18, 19, 4, 20, 21, 22, 23, 24, 25, 26, 27, 28, 29, 30, 31, 32, 33, 34, 35, 36, 37, 38, 39, 40, 41, 42, 43, 44, 45, 46, 47, 48, 49, 50] rfl (by decide +kernel)
set_option maxRecDepth 20000 in
theorem gX11_isRef_X11_stateOf : GoodIn wsX11_isRef (wsV RX11 79 RX11 yX11_stateOf wsX11_stateOf) := goodIn_app (goodIn_of _ (by decide +kernel)) ggX11_isRef_X11_stateOf
set_option maxRecDepth 20000 in
theorem ggX11_isLive_X11_stateOf : GoodIn wsX11_isLive wsX11_stateOf := goodIn_r _ [5, 6, 7, 8, 4, 9, 10, 11, 12, 13, 14, 15, 16, 17, 18, 19, 20, 21, 22, 23, 24, 25, 26, 27, 28, 29, 30, 31, 32, 33, 34, 35, 36, 37, 38, 39] rfl (by decide +kernel)
set_option maxRecDepth 20000 in
theorem gX11_isLive_X11_stateOf : GoodIn wsX11_isLive (wsV RX11 79 RX11 yX11_stateOf wsX11_stateOf) := goodIn_app (goodIn_of _ (by decide +kernel)) ggX11_isLive_X11_stateOf
set_option maxRecDepth 20000 in
theorem ggX11_isHidden_X11_stateOf : GoodIn wsX11_isHidden wsX11_stateOf := goodIn_r _ [6, 7, 8, 9, 5, 10, 14, 15, 16, 17, 18, 19, 20, 21, 22, 23, 24, 25, 26, 27, 28, 29, 30, 31, 32, 33, 34, 35, 36, 37, 38, 39, 40, 41, 42, 43] rfl (by decide +kernel)
set_option maxRecDepth 20000 in
theorem gX11_isHidden_X11_stateOf : GoodIn wsX11_isHidden (wsV RX11 79 RX11 yX11_stateOf wsX11_stateOf) := goodIn_app (goodIn_of _ (by decide +kernel)) ggX11_isHidden_X11_stateOf
set_option maxRecDepth 20000 in
theorem ggX11_isHidden_X11_in : GoodIn wsX11_isHidden wsX11_in := goodIn_r _ [13] rfl (by decide +kernel)
set_option maxRecDepth 20000 in
theorem gX11_isHidden_X11_in : GoodIn wsX11_isHidden (va_wsS RX11 64 yX11_in wsX11_in) := goodIn_app (goodIn_of _ (by decide +kernel)) ggX11_isHidden_X11_in
set_option maxRecDepth 20000 in
theorem ggX11_isStored_X11_in : GoodIn wsX11_isStored wsX11_in := goodIn_r _ [5] rfl (by decide +kernel)
set_option maxRecDepth 20000 in
theorem gX11_isStored_X11_in : GoodIn wsX11_isStored (va_wsS RX11 64 yX11_in wsX11_in) := goodIn_app (goodIn_of _ (by decide +kernel)) ggX11_isStored_X11_in
set_option maxRecDepth 20000 in
theorem ggX11_isStored_X11_partValue : GoodIn wsX11_isStored wsX11_partValue := goodIn_r _ [9, 1, 10, 11, 12, 13, 14, 15, 16, 17, 18, 19, 20, 21, 22, 23, 24, 25, 26, 27, 28, 29, 30, 31, 32, 33, 34, 35, 36, 37, 38, 39] rfl (by decide +kernel)
set_option maxRecDepth 20000 in
theorem gX11_isStored_X11_partValue : GoodIn wsX11_isStored (wsV RX11 84 RX11 yX11_partValue wsX11_partValue) := goodIn_app (goodIn_of _ (by decide +kernel)) ggX11_isStored_X11_partValue
set_option maxRecDepth 20000 in
theorem ggX11_isDead_X11_partValue : GoodIn wsX11_isDead wsX11_partValue := goodIn_r _ [5, 6, 7, 8, 9, 10, 11, 12, 13, 14, 15, 16, 17, 18, 19, 20, 21, 22, 23, 24, 25, 26, 27, 28, 29, 30, 31, 32, 33, 34, 35, 36] rfl (by decide +kernel)
set_option maxRecDepth 20000 in
theorem gX11_isDead_X11_partValue : GoodIn wsX11_isDead (wsV RX11 84 RX11 yX11_partValue wsX11_partValue) := goodIn_app (goodIn_of _ (by decide +kernel)) ggX11_isDead_X11_partValue
set_option maxRecDepth 20000 in
theorem ggX11_append_X11_passes : GoodIn wsX11_append wsX11_passes := goodIn_r _ [6, 7, 8, 9, 5, 10, 11, 17, 18, 19, 20, 21, 22, 23, 24, 25, 26, 27, 28, 29, 30, 31, 32, 33, 34, 35, 36, 37, 38, 39, 40, 41, 42, 43, 44, 45, 46] rfl (by decide +kernel)
set_option maxRecDepth 20000 in
theorem gX11_append_X11_passes : GoodIn wsX11_append (wsV RX11 94 RX11 yX11_passes wsX11_passes) := goodIn_app (goodIn_of _ (by decide +kernel)) ggX11_append_X11_passes
set_option maxRecDepth 20000 in
theorem ggX11_append_X11_appendFour : GoodIn wsX11_append wsX11_appendFour := goodIn_r _ [15, 16, 1, 17, 18, 19, 20, 21, 22, 23, 24, 25, 26, 27, 28, 29, 30, 31, 32, 33, 34, 35, 36, 37, 38, 39, 40, 41, 42, 43, 44, 45, 46] rfl (by decide +kernel)
set_option maxRecDepth 20000 in
theorem gX11_append_X11_appendFour : GoodIn wsX11_append (wsV RX11 98 RX11 yX11_appendFour wsX11_appendFour) := goodIn_app (goodIn_of _ (by decide +kernel)) ggX11_append_X11_appendFour
set_option maxRecDepth 20000 in
theorem ggX11_truncate_X11_in : GoodIn wsX11_truncate wsX11_in := goodIn_r _ [5] rfl (by decide +kernel)
set_option maxRecDepth 20000 in
theorem gX11_truncate_X11_in : GoodIn wsX11_truncate (va_wsS RX11 64 yX11_in wsX11_in) := goodIn_app (goodIn_of _ (by decide +kernel)) ggX11_truncate_X11_in
set_option maxRecDepth 20000 in
theorem ggX11_truncate_X11_passes : GoodIn wsX11_truncate wsX11_passes := goodIn_r _ [9, 10, 11, 12, 4, 13, 14, 15, 16, 17, 18, 19, 20, 21, 22, 23, 24, 25, 26, 27, 28, 29, 30, 31, 32, 33, 34, 35, 36, 37, 38, 39, 40, 41, 42, 43, 44] rfl (by decide +kernel)
set_option maxRecDepth 20000 in
theorem gX11_truncate_X11_passes : GoodIn wsX11_truncate (wsV RX11 94 RX11 yX11_passes wsX11_passes) := goodIn_app (goodIn_of _ (by decide +kernel)) ggX11_truncate_X11_passes
set_option maxRecDepth 20000 in
theorem ggX11_errs_X11_good : GoodIn wsX11_errs wsX11_good := goodIn_r _ [8, 1, 9, 10, 11, 12, 13, 14, 15, 16, 17, 18, 19, 20, 21, 22, 23, 24, 25, 26, 27, 28, 29, 30, 31, 32, 33, 34, 35, 36, 37, 38] rfl (by decide +kernel)
set_option maxRecDepth 20000 in
theorem gX11_errs_X11_good : GoodIn wsX11_errs (wsV RX11 105 RX11 yX11_good wsX11_good) := goodIn_app (goodIn_of _ (by decide +kernel)) ggX11_errs_X11_good
set_option maxRecDepth 20000 in
theorem ggX11_scan_X11_byteAt : GoodIn wsX11_scan wsX11_byteAt := goodIn_r _ [18, 19, 20, 24, 25, 26, 27, 28, 29, 30, 31, 32, 33, 34, 35, 36, 37, 38, 39, 40, 41, 42, 43, 44, 45, 46, 47, 48, 49, 50, 51, 52, 53] rfl (by decide +kernel)
set_option maxRecDepth 20000 in
theorem gX11_scan_X11_byteAt : GoodIn wsX11_scan (wsV RX11 118 RX11 yX11_byteAt wsX11_byteAt) := goodIn_app (goodIn_of _ (by decide +kernel)) ggX11_scan_X11_byteAt
set_option maxRecDepth 20000 in
theorem ggX11_scan_X11_in : GoodIn wsX11_scan wsX11_in := goodIn_r _ [23] rfl (by decide +kernel)
set_option maxRecDepth 20000 in
theorem gX11_scan_X11_in : GoodIn wsX11_scan (va_wsS RX11 64 yX11_in wsX11_in) := goodIn_app (goodIn_of _ (by decide +kernel)) ggX11_scan_X11_in
set_option maxRecDepth 20000 in
theorem ggX11_goOn_X11_good : GoodIn wsX11_goOn wsX11_good := goodIn_r _ [5, 6, 33, 34, 35, 36, 37, 38, 39, 40, 41, 42, 43, 44, 45, 46, 47, 48, 49, 50, 51, 52, 53, 54, 55, 56, 57, 58, 59, 60, 61, 62] rfl (by decide +kernel)
set_option maxRecDepth 20000 in
theorem gX11_goOn_X11_good : GoodIn wsX11_goOn (wsV RX11 105 RX11 yX11_good wsX11_good) := goodIn_app (goodIn_of _ (by decide +kernel)) ggX11_goOn_X11_good
set_option maxRecDepth 20000 in
theorem ggX11_goOn_X11_scan : GoodIn wsX11_goOn wsX11_scan := goodIn_r _ [10, 11, 12, 13, 14, 15, 16, 17, 18, 19, 20, 21, 22, 23, 24, 25, 26, 4, 27, 28, 29, 30, 31, 32, 33, 34, 35, 36, 37, 38, 39, 40, 41, 42, 43, 44, 45, 46, 47, 48, 49, 50, 51, 52, 53, 54, 55, 56, 57, 58, 59, 60, 61, 62] rfl (by decide +kernel)
set_option maxRecDepth 20000 in
theorem gX11_goOn_X11_scan : GoodIn wsX11_goOn (wsV RX11 142 RX11 yX11_scan wsX11_scan) := goodIn_app (goodIn_of _ (by decide +kernel)) ggX11_goOn_X11_scan
set_option maxRecDepth 20000 in
theorem ggX11_isText_X11_good : GoodIn wsX11_isText wsX11_good := goodIn_r _ [9, 10, 60, 61, 62, 63, 64, 65, 66, 67, 68, 69, 70, 71, 72, 73, 74, 75, 76, 77, 78, 79, 80, 81, 82, 83, 84, 85, 86, 87, 88, 89] rfl (by decide +kernel)
set_option maxRecDepth 20000 in
theorem gX11_isText_X11_good : GoodIn wsX11_isText (wsV RX11 105 RX11 yX11_good wsX11_good) := goodIn_app (goodIn_of _ (by decide +kernel)) ggX11_isText_X11_good
set_option maxRecDepth 20000 in
theorem ggX11_isText_J0_length_8abf5 : GoodIn wsX11_isText wsJ0_length_8abf5 := goodIn_r _ [15, 16, 17, 18, 19, 14, 20, 21, 22] rfl (by decide +kernel)
set_option maxRecDepth 20000 in
theorem gX11_isText_J0_length_8abf5 : GoodIn wsX11_isText (wsV RX11 145 RJ0 yJ0_length_8abf5 wsJ0_length_8abf5) := goodIn_app (goodIn_of _ (by decide +kernel)) ggX11_isText_J0_length_8abf5
set_option maxRecDepth 20000 in
theorem ggX11_isText_J0_charAt_5068e : GoodIn wsX11_isText wsJ0_charAt_5068e := goodIn_r _ [26, 16, 27, 28, 29, 14, 30, 21, 22, 31, 32, 33, 34, 35, 36, 37, 38, 39, 40, 41, 42, 43, 44, 45, 46, 47, 48, 49, 50, 51, 52, 53, 54, 55, 56, 57, 58, 59] rfl (by decide +kernel)
set_option maxRecDepth 20000 in
theorem gX11_isText_J0_charAt_5068e : GoodIn wsX11_isText (wsV RX11 151 RJ0 yJ0_charAt_5068e wsJ0_charAt_5068e) := goodIn_app (goodIn_of _ (by decide +kernel)) ggX11_isText_J0_charAt_5068e
set_option maxRecDepth 20000 in
theorem ggX11_isSymbol_X11_good : GoodIn wsX11_isSymbol wsX11_good := goodIn_r _ [7, 8, 9, 10, 11, 12, 13, 14, 15, 16, 17, 18, 19, 20, 21, 22, 23, 24, 25, 26, 27, 28, 29, 30, 31, 32, 33, 34, 35, 36, 37, 38] rfl (by decide +kernel)
set_option maxRecDepth 20000 in
theorem gX11_isSymbol_X11_good : GoodIn wsX11_isSymbol (wsV RX11 105 RX11 yX11_good wsX11_good) := goodIn_app (goodIn_of _ (by decide +kernel)) ggX11_isSymbol_X11_good
set_option maxRecDepth 20000 in
theorem ggX11_isKeyword_X11_isText : GoodIn wsX11_isKeyword wsX11_isText := goodIn_r _ [5, 6, 7, 8, 9, 10, 11, 12, 4, 13, 14, 15, 16, 17, 18, 19, 20, 21, 22, 23, 24, 25, 26, 27, 28, 29, 30, 31, 32, 33, 34, 35, 36, 37, 38, 39, 40, 41, 42, 43, 44, 45, 46, 47, 48, 49, 50, 51, 52, 53, 54, 55, 56, 57, 58, 59, 60, 61, 62, 63, 64, 65, 66, 67, 68, 69, 70, 71, 72, 73, 74, 75, 76, 77, 78, 79, 80, 81, 82, 83, 84, 85, 86, 87, 88, 89, 90, 91, 92, 93] rfl (by decide +kernel)
set_option maxRecDepth 20000 in
theorem gX11_isKeyword_X11_isText : GoodIn wsX11_isKeyword (wsV RX11 157 RX11 yX11_isText wsX11_isText) := goodIn_app (goodIn_of _ (by decide +kernel)) ggX11_isKeyword_X11_isText
set_option maxRecDepth 20000 in
theorem ggX11_word_X11_isText : GoodIn wsX11_word wsX11_isText := goodIn_r _ [5, 6, 7, 8, 9, 10, 11, 12, 4, 13, 14, 15, 16, 17, 18, 19, 20, 21, 22, 23, 24, 25, 26, 27, 28, 29, 30, 31, 32, 33, 34, 35, 36, 37, 38, 39, 40, 41, 42, 43, 44, 45, 46, 47, 48, 49, 50, 51, 52, 53, 54, 55, 56, 57, 58, 59, 60, 61, 62, 63, 95, 96, 97, 98, 99, 100, 101, 102, 103, 104, 105, 106, 107, 108, 109, 110, 111, 112, 113, 114, 115, 116, 117, 118, 119, 120, 121, 122, 123, 124] rfl (by decide +kernel)
set_option maxRecDepth 20000 in
theorem gX11_word_X11_isText : GoodIn wsX11_word (wsV RX11 157 RX11 yX11_isText wsX11_isText) := goodIn_app (goodIn_of _ (by decide +kernel)) ggX11_word_X11_isText
set_option maxRecDepth 20000 in
theorem ggX11_word_X11_errs : GoodIn wsX11_word wsX11_errs := goodIn_r _ [67, 14, 8, 68, 10, 11, 12, 4, 13, 95, 96, 97, 98, 99, 100, 101, 102, 103, 104, 105, 106, 107, 108, 109, 110, 111, 112, 113, 114, 115, 116, 117, 118, 119, 120, 121, 122, 123, 124] rfl (by decide +kernel)
set_option maxRecDepth 20000 in
theorem gX11_word_X11_errs : GoodIn wsX11_word (wsV RX11 189 RX11 yX11_errs wsX11_errs) := goodIn_app (goodIn_of _ (by decide +kernel)) ggX11_word_X11_errs
set_option maxRecDepth 20000 in
theorem ggX11_word_X11_goOn : GoodIn wsX11_word wsX11_goOn := goodIn_r _ [72, 10, 11, 12, 4, 13, 14, 73, 74, 75, 76, 7, 8, 6, 77, 78, 79, 80, 81, 82, 83, 84, 85, 86, 87, 88, 89, 90, 91, 9, 92, 93, 94, 95, 96, 97, 98, 99, 100, 101, 102, 103, 104, 105, 106, 107, 108, 109, 110, 111, 112, 113, 114, 115, 116, 117, 118, 119, 120, 121, 122, 123, 124] rfl (by decide +kernel)
set_option maxRecDepth 20000 in
theorem gX11_word_X11_goOn : GoodIn wsX11_word (wsV RX11 192 RX11 yX11_goOn wsX11_goOn) := goodIn_app (goodIn_of _ (by decide +kernel)) ggX11_word_X11_goOn
set_option maxRecDepth 20000 in
theorem ggX11_number_X11_good : GoodIn wsX11_number wsX11_good := goodIn_r _ [7, 8, 42, 43, 44, 45, 46, 47, 48, 49, 50, 51, 52, 53, 54, 55, 56, 57, 58, 59, 60, 61, 62, 63, 64, 65, 66, 67, 68, 69, 70, 71] rfl (by decide +kernel)
set_option maxRecDepth 20000 in
theorem gX11_number_X11_good : GoodIn wsX11_number (wsV RX11 105 RX11 yX11_good wsX11_good) := goodIn_app (goodIn_of _ (by decide +kernel)) ggX11_number_X11_good
set_option maxRecDepth 20000 in
theorem ggX11_number_X11_errs : GoodIn wsX11_number wsX11_errs := goodIn_r _ [12, 8, 13, 14, 3, 4, 5, 6, 7, 42, 43, 44, 45, 46, 47, 48, 49, 50, 51, 52, 53, 54, 55, 56, 57, 58, 59, 60, 61, 62, 63, 64, 65, 66, 67, 68, 69, 70, 71] rfl (by decide +kernel)
set_option maxRecDepth 20000 in
theorem gX11_number_X11_errs : GoodIn wsX11_number (wsV RX11 189 RX11 yX11_errs wsX11_errs) := goodIn_app (goodIn_of _ (by decide +kernel)) ggX11_number_X11_errs
set_option maxRecDepth 20000 in
theorem ggX11_number_X11_in : GoodIn wsX11_number wsX11_in := goodIn_r _ [17] rfl (by decide +kernel)
set_option maxRecDepth 20000 in
theorem gX11_number_X11_in : GoodIn wsX11_number (va_wsS RX11 64 yX11_in wsX11_in) := goodIn_app (goodIn_of _ (by decide +kernel)) ggX11_number_X11_in
set_option maxRecDepth 20000 in
theorem ggX11_number_X11_goOn : GoodIn wsX11_number wsX11_goOn := goodIn_r _ [21, 3, 4, 5, 6, 7, 8, 22, 23, 24, 25, 26, 13, 1, 27, 28, 29, 30, 2, 31, 32, 33, 34, 35, 36, 37, 38, 39, 40, 41, 15, 16, 17, 42, 43, 44, 45, 46, 47, 48, 49, 50, 51, 52, 53, 54, 55, 56, 57, 58, 59, 60, 61, 62, 63, 64, 65, 66, 67, 68, 69, 70, 71] rfl (by decide +kernel)
set_option maxRecDepth 20000 in
theorem gX11_number_X11_goOn : GoodIn wsX11_number (wsV RX11 192 RX11 yX11_goOn wsX11_goOn) := goodIn_app (goodIn_of _ (by decide +kernel)) ggX11_number_X11_goOn
set_option maxRecDepth 20000 in
theorem ggX11_numberAfter_X11_word : GoodIn wsX11_numberAfter wsX11_word := goodIn_r _ [5, 6, 7, 8, 4, 9, 10, 11, 12, 13, 14, 15, 16, 17, 18, 19, 20, 21, 22, 23, 24, 25, 26, 27, 28, 29, 30, 31, 32, 33, 34, 35, 36, 37, 38, 39, 40, 41, 42, 43, 44, 45, 46, 47, 48, 49, 50, 51, 52, 53, 54, 55, 56, 57, 58, 59, 60, 61, 62, 63, 64, 65, 66, 67, 68, 69, 70, 71, 72, 73, 74, 75, 76, 77, 78, 79, 80, 81, 82, 83, 84, 85, 86, 87, 88, 89, 90, 91, 92, 93, 94, 95, 96, 97, 98, 103, 104, 105, 106, 107, 108, 109, 110, 111, 112, 113, 114, 115, 116, 117, 118, 119, 120, 121, 122, 123, 124, 125, 126, 127, 128, 129, 130, 131, 132] rfl (by decide +kernel)
set_option maxRecDepth 20000 in
theorem gX11_numberAfter_X11_word : GoodIn wsX11_numberAfter (wsV RX11 195 RX11 yX11_word wsX11_word) := goodIn_app (goodIn_of _ (by decide +kernel)) ggX11_numberAfter_X11_word
set_option maxRecDepth 20000 in
theorem ggX11_numberAfter_X11_number : GoodIn wsX11_numberAfter wsX11_number := goodIn_r _ [102, 10, 85, 14, 15, 16, 4, 17, 18, 68, 69, 70, 71, 12, 72, 96, 97, 98, 73, 74, 75, 76, 77, 78, 79, 80, 11, 81, 82, 83, 84, 86, 87, 88, 89, 90, 91, 92, 93, 94, 95, 13, 103, 104, 105, 106, 107, 108, 109, 110, 111, 112, 113, 114, 115, 116, 117, 118, 119, 120, 121, 122, 123, 124, 125, 126, 127, 128, 129, 130, 131, 132] rfl (by decide +kernel)
set_option maxRecDepth 20000 in
theorem gX11_numberAfter_X11_number : GoodIn wsX11_numberAfter (wsV RX11 198 RX11 yX11_number wsX11_number) := goodIn_app (goodIn_of _ (by decide +kernel)) ggX11_numberAfter_X11_number
set_option maxRecDepth 20000 in
theorem ggX11_named_X11_letter : GoodIn wsX11_named wsX11_letter := goodIn_r _ [8, 1, 2, 9, 10, 11, 12, 13, 14, 15, 16, 17, 18, 19, 20, 21, 22, 23, 24, 25, 26, 27, 28, 29, 30, 31, 32, 33, 34, 35, 36, 37, 38, 39] rfl (by decide +kernel)
set_option maxRecDepth 20000 in
theorem gX11_named_X11_letter : GoodIn wsX11_named (wsV RX11 201 RX11 yX11_letter wsX11_letter) := goodIn_app (goodIn_of _ (by decide +kernel)) ggX11_named_X11_letter
set_option maxRecDepth 20000 in
theorem ggX11_kindNamed_X11_named : GoodIn wsX11_kindNamed wsX11_named := goodIn_r _ [6, 7, 8, 1, 9, 10, 11, 5, 12, 13, 14, 15, 16, 17, 18, 19, 20, 21, 22, 23, 24, 25, 26, 27, 28, 29, 30, 31, 32, 33, 34, 35, 36, 37, 38, 39, 40, 41, 42, 43] rfl (by decide +kernel)
set_option maxRecDepth 20000 in
theorem gX11_kindNamed_X11_named : GoodIn wsX11_kindNamed (wsV RX11 204 RX11 yX11_named wsX11_named) := goodIn_app (goodIn_of _ (by decide +kernel)) ggX11_kindNamed_X11_named
set_option maxRecDepth 20000 in
theorem ggX11_checkName_X11_good : GoodIn wsX11_checkName wsX11_good := goodIn_r _ [8, 9, 73, 74, 75, 76, 77, 78, 79, 80, 81, 82, 83, 84, 85, 86, 87, 88, 89, 90, 91, 92, 93, 94, 95, 96, 97, 98, 99, 100, 101, 102] rfl (by decide +kernel)
set_option maxRecDepth 20000 in
theorem gX11_checkName_X11_good : GoodIn wsX11_checkName (wsV RX11 105 RX11 yX11_good wsX11_good) := goodIn_app (goodIn_of _ (by decide +kernel)) ggX11_checkName_X11_good
set_option maxRecDepth 20000 in
theorem ggX11_checkName_X11_isKeyword : GoodIn wsX11_checkName wsX11_isKeyword := goodIn_r _ [13, 14, 15, 16, 7, 17, 1, 2, 3, 18, 4, 5, 6, 8, 9, 19, 20, 21, 22, 23, 24, 25, 26, 27, 28, 29, 30, 31, 32, 33, 34, 35, 36, 37, 38, 39, 40, 41, 42, 43, 44, 45, 46, 47, 48, 49, 50, 51, 52, 53, 54, 55, 56, 57, 58, 59, 60, 61, 62, 63, 64, 65, 66, 67, 73, 74, 75, 76, 77, 78, 79, 80, 81, 82, 83, 84, 85, 86, 87, 88, 89, 90, 91, 92, 93, 94, 95, 96, 97, 98, 99, 100, 101, 102] rfl (by decide +kernel)
set_option maxRecDepth 20000 in
theorem gX11_checkName_X11_isKeyword : GoodIn wsX11_checkName (wsV RX11 208 RX11 yX11_isKeyword wsX11_isKeyword) := goodIn_app (goodIn_of _ (by decide +kernel)) ggX11_checkName_X11_isKeyword
set_option maxRecDepth 20000 in
theorem ggX11_checkName_X11_errs : GoodIn wsX11_checkName wsX11_errs := goodIn_r _ [71, 9, 3, 72, 4, 5, 6, 7, 8, 73, 74, 75, 76, 77, 78, 79, 80, 81, 82, 83, 84, 85, 86, 87, 88, 89, 90, 91, 92, 93, 94, 95, 96, 97, 98, 99, 100, 101, 102] rfl (by decide +kernel)
set_option maxRecDepth 20000 in
theorem gX11_checkName_X11_errs : GoodIn wsX11_checkName (wsV RX11 189 RX11 yX11_errs wsX11_errs) := goodIn_app (goodIn_of _ (by decide +kernel)) ggX11_checkName_X11_errs
set_option maxRecDepth 20000 in
theorem ggX11_newName_X11_checkName : GoodIn wsX11_newName wsX11_checkName := goodIn_r _ [6, 7, 8, 9, 10, 11, 12, 5, 13, 14, 15, 16, 17, 18, 19, 20, 21, 22, 23, 24, 25, 26, 27, 28, 29, 30, 31, 32, 33, 34, 35, 36, 37, 38, 39, 40, 41, 42, 43, 44, 45, 46, 47, 48, 49, 50, 51, 52, 53, 54, 55, 56, 57, 58, 59, 60, 61, 62, 63, 64, 65, 66, 67, 68, 69, 70, 71, 72, 73, 74, 75, 76, 77, 116, 117, 118, 119, 120, 121, 122, 123, 124, 125, 126, 127, 128, 129, 130, 131, 132, 133, 134, 135, 136, 137, 138, 139, 140, 141, 142, 143, 144, 145] rfl (by decide +kernel)
set_option maxRecDepth 20000 in
theorem gX11_newName_X11_checkName : GoodIn wsX11_newName (wsV RX11 211 RX11 yX11_checkName wsX11_checkName) := goodIn_app (goodIn_of _ (by decide +kernel)) ggX11_newName_X11_checkName
set_option maxRecDepth 20000 in
theorem ggX11_newName_X11_good : GoodIn wsX11_newName wsX11_good := goodIn_r _ [13, 14, 116, 117, 118, 119, 120, 121, 122, 123, 124, 125, 126, 127, 128, 129, 130, 131, 132, 133, 134, 135, 136, 137, 138, 139, 140, 141, 142, 143, 144, 145] rfl (by decide +kernel)
set_option maxRecDepth 20000 in
theorem gX11_newName_X11_good : GoodIn wsX11_newName (wsV RX11 105 RX11 yX11_good wsX11_good) := goodIn_app (goodIn_of _ (by decide +kernel)) ggX11_newName_X11_good
set_option maxRecDepth 20000 in
theorem ggX11_newName_X11_kindNamed : GoodIn wsX11_newName wsX11_kindNamed := goodIn_r _ [81, 1, 82, 83, 84, 5, 85, 8, 9, 86, 87, 88, 89, 23, 116, 117, 118, 119, 120, 121, 122, 123, 124, 125, 126, 127, 128, 129, 130, 131, 132, 133, 134, 135, 136, 137, 138, 139, 140, 141, 142, 143, 144, 145] rfl (by decide +kernel)
set_option maxRecDepth 20000 in
theorem gX11_newName_X11_kindNamed : GoodIn wsX11_newName (wsV RX11 214 RX11 yX11_kindNamed wsX11_kindNamed) := goodIn_app (goodIn_of _ (by decide +kernel)) ggX11_newName_X11_kindNamed
set_option maxRecDepth 20000 in
theorem ggX11_newName_X11_errs : GoodIn wsX11_newName wsX11_errs := goodIn_r _ [76, 14, 9, 77, 10, 11, 12, 5, 13, 116, 117, 118, 119, 120, 121, 122, 123, 124, 125, 126, 127, 128, 129, 130, 131, 132, 133, 134, 135, 136, 137, 138, 139, 140, 141, 142, 143, 144, 145] rfl (by decide +kernel)
set_option maxRecDepth 20000 in
theorem gX11_newName_X11_errs : GoodIn wsX11_newName (wsV RX11 189 RX11 yX11_errs wsX11_errs) := goodIn_app (goodIn_of _ (by decide +kernel)) ggX11_newName_X11_errs
set_option maxRecDepth 20000 in
theorem ggX11_newName_X11_letter : GoodIn wsX11_newName wsX11_letter := goodIn_r _ [89, 8, 9, 23, 116, 117, 118, 119, 120, 121, 122, 123, 124, 125, 126, 127, 128, 129, 130, 131, 132, 133, 134, 135, 136, 137, 138, 139, 140, 141, 142, 143, 144, 145] rfl (by decide +kernel)
set_option maxRecDepth 20000 in
theorem gX11_newName_X11_letter : GoodIn wsX11_newName (wsV RX11 201 RX11 yX11_letter wsX11_letter) := goodIn_app (goodIn_of _ (by decide +kernel)) ggX11_newName_X11_letter
set_option maxRecDepth 20000 in
theorem ggX11_newName_X11_goOn : GoodIn wsX11_newName wsX11_goOn := goodIn_r _ [93, 10, 11, 12, 5, 13, 14, 94, 95, 96, 97, 8, 9, 7, 98, 99, 100, 101, 102, 103, 104, 105, 106, 107, 108, 109, 110, 111, 112, 23, 113, 114, 115, 116, 117, 118, 119, 120, 121, 122, 123, 124, 125, 126, 127, 128, 129, 130, 131, 132, 133, 134, 135, 136, 137, 138, 139, 140, 141, 142, 143, 144, 145] rfl (by decide +kernel)
set_option maxRecDepth 20000 in
theorem gX11_newName_X11_goOn : GoodIn wsX11_newName (wsV RX11 192 RX11 yX11_goOn wsX11_goOn) := goodIn_app (goodIn_of _ (by decide +kernel)) ggX11_newName_X11_goOn
set_option maxRecDepth 20000 in
theorem ggX11_oldName_X11_checkName : GoodIn wsX11_oldName wsX11_checkName := goodIn_r _ [5, 6, 7, 8, 9, 10, 11, 4, 12, 13, 14, 15, 16, 17, 18, 19, 20, 21, 22, 23, 24, 25, 26, 27, 28, 29, 30, 31, 32, 33, 34, 35, 36, 37, 38, 39, 40, 41, 42, 43, 44, 45, 46, 47, 48, 49, 50, 51, 52, 53, 54, 55, 56, 57, 58, 59, 60, 61, 62, 63, 64, 65, 66, 67, 68, 69, 70, 71, 72, 73, 74, 75, 76, 116, 117, 118, 119, 120, 121, 122, 123, 124, 125, 126, 127, 128, 129, 130, 131, 132, 133, 134, 135, 136, 137, 138, 139, 140, 141, 142, 143, 144, 145] rfl (by decide +kernel)
set_option maxRecDepth 20000 in
theorem gX11_oldName_X11_checkName : GoodIn wsX11_oldName (wsV RX11 211 RX11 yX11_checkName wsX11_checkName) := goodIn_app (goodIn_of _ (by decide +kernel)) ggX11_oldName_X11_checkName
set_option maxRecDepth 20000 in
theorem ggX11_oldName_X11_good : GoodIn wsX11_oldName wsX11_good := goodIn_r _ [12, 13, 116, 117, 118, 119, 120, 121, 122, 123, 124, 125, 126, 127, 128, 129, 130, 131, 132, 133, 134, 135, 136, 137, 138, 139, 140, 141, 142, 143, 144, 145] rfl (by decide +kernel)
set_option maxRecDepth 20000 in
theorem gX11_oldName_X11_good : GoodIn wsX11_oldName (wsV RX11 105 RX11 yX11_good wsX11_good) := goodIn_app (goodIn_of _ (by decide +kernel)) ggX11_oldName_X11_good
set_option maxRecDepth 20000 in
theorem ggX11_oldName_X11_kindNamed : GoodIn wsX11_oldName wsX11_kindNamed := goodIn_r _ [80, 81, 82, 83, 84, 4, 85, 7, 8, 86, 87, 88, 89, 22, 116, 117, 118, 119, 120, 121, 122, 123, 124, 125, 126, 127, 128, 129, 130, 131, 132, 133, 134, 135, 136, 137, 138, 139, 140, 141, 142, 143, 144, 145] rfl (by decide +kernel)
set_option maxRecDepth 20000 in
theorem gX11_oldName_X11_kindNamed : GoodIn wsX11_oldName (wsV RX11 214 RX11 yX11_kindNamed wsX11_kindNamed) := goodIn_app (goodIn_of _ (by decide +kernel)) ggX11_oldName_X11_kindNamed
set_option maxRecDepth 20000 in
theorem ggX11_oldName_X11_errs : GoodIn wsX11_oldName wsX11_errs := goodIn_r _ [75, 13, 8, 76, 9, 10, 11, 4, 12, 116, 117, 118, 119, 120, 121, 122, 123, 124, 125, 126, 127, 128, 129, 130, 131, 132, 133, 134, 135, 136, 137, 138, 139, 140, 141, 142, 143, 144, 145] rfl (by decide +kernel)
set_option maxRecDepth 20000 in
theorem gX11_oldName_X11_errs : GoodIn wsX11_oldName (wsV RX11 189 RX11 yX11_errs wsX11_errs) := goodIn_app (goodIn_of _ (by decide +kernel)) ggX11_oldName_X11_errs
set_option maxRecDepth 20000 in
theorem ggX11_oldName_X11_goOn : GoodIn wsX11_oldName wsX11_goOn := goodIn_r _ [93, 9, 10, 11, 4, 12, 13, 94, 95, 96, 97, 7, 8, 6, 98, 99, 100, 101, 102, 103, 104, 105, 106, 107, 108, 109, 110, 111, 112, 22, 113, 114, 115, 116, 117, 118, 119, 120, 121, 122, 123, 124, 125, 126, 127, 128, 129, 130, 131, 132, 133, 134, 135, 136, 137, 138, 139, 140, 141, 142, 143, 144, 145] rfl (by decide +kernel)
set_option maxRecDepth 20000 in
theorem gX11_oldName_X11_goOn : GoodIn wsX11_oldName (wsV RX11 192 RX11 yX11_goOn wsX11_goOn) := goodIn_app (goodIn_of _ (by decide +kernel)) ggX11_oldName_X11_goOn
set_option maxRecDepth 20000 in
theorem ggX11_begins_X11_errs : GoodIn wsX11_begins wsX11_errs := goodIn_r _ [5, 6, 7, 8, 9, 10, 11, 4, 12, 42, 43, 44, 45, 46, 47, 48, 49, 50, 51, 52, 53, 54, 55, 56, 57, 58, 59, 60, 61, 62, 63, 64, 65, 66, 67, 68, 69, 70, 71] rfl (by decide +kernel)
set_option maxRecDepth 20000 in
theorem gX11_begins_X11_errs : GoodIn wsX11_begins (wsV RX11 189 RX11 yX11_errs wsX11_errs) := goodIn_app (goodIn_of _ (by decide +kernel)) ggX11_begins_X11_errs
set_option maxRecDepth 20000 in
theorem ggX11_begins_X11_goOn : GoodIn wsX11_begins wsX11_goOn := goodIn_r _ [16, 9, 10, 11, 4, 12, 6, 17, 18, 19, 20, 21, 7, 22, 23, 24, 25, 26, 27, 28, 29, 30, 31, 32, 33, 34, 35, 36, 37, 38, 39, 40, 41, 42, 43, 44, 45, 46, 47, 48, 49, 50, 51, 52, 53, 54, 55, 56, 57, 58, 59, 60, 61, 62, 63, 64, 65, 66, 67, 68, 69, 70, 71] rfl (by decide +kernel)
set_option maxRecDepth 20000 in
theorem gX11_begins_X11_goOn : GoodIn wsX11_begins (wsV RX11 192 RX11 yX11_goOn wsX11_goOn) := goodIn_app (goodIn_of _ (by decide +kernel)) ggX11_begins_X11_goOn
set_option maxRecDepth 20000 in
theorem ggX11_begins_X11_good : GoodIn wsX11_begins wsX11_good := goodIn_r _ [12, 6, 42, 43, 44, 45, 46, 47, 48, 49, 50, 51, 52, 53, 54, 55, 56, 57, 58, 59, 60, 61, 62, 63, 64, 65, 66, 67, 68, 69, 70, 71] rfl (by decide +kernel)
set_option maxRecDepth 20000 in
theorem gX11_begins_X11_good : GoodIn wsX11_begins (wsV RX11 105 RX11 yX11_good wsX11_good) := goodIn_app (goodIn_of _ (by decide +kernel)) ggX11_begins_X11_good
set_option maxRecDepth 20000 in
theorem ggX11_parseClass_X11_begins : GoodIn wsX11_parseClass wsX11_begins := goodIn_r _ [6, 7, 8, 9, 5, 10, 11, 12, 13, 14, 15, 16, 17, 18, 19, 20, 21, 22, 23, 24, 25, 26, 27, 28, 29, 30, 31, 32, 33, 34, 35, 36, 37, 38, 39, 40, 41, 42, 43, 44, 45, 46, 140, 141, 142, 143, 144, 145, 146, 147, 148, 149, 150, 151, 152, 153, 154, 155, 156, 157, 158, 159, 160, 161, 162, 163, 164, 165, 166, 167, 168, 169] rfl (by decide +kernel)
set_option maxRecDepth 20000 in
theorem gX11_parseClass_X11_begins : GoodIn wsX11_parseClass (wsV RX11 217 RX11 yX11_begins wsX11_begins) := goodIn_app (goodIn_of _ (by decide +kernel)) ggX11_parseClass_X11_begins
set_option maxRecDepth 20000 in
theorem ggX11_parseClass_X11_newName : GoodIn wsX11_parseClass wsX11_newName := goodIn_r _ [50, 1, 51, 52, 53, 5, 54, 27, 26, 12, 14, 15, 16, 17, 11, 55, 56, 57, 58, 59, 60, 61, 62, 43, 63, 64, 65, 66, 67, 68, 69, 70, 71, 72, 73, 74, 75, 76, 77, 78, 79, 80, 81, 82, 83, 84, 85, 86, 87, 88, 89, 90, 91, 92, 93, 94, 95, 96, 97, 98, 99, 100, 101, 102, 103, 104, 105, 106, 107, 108, 109, 110, 111, 7, 8, 9, 10, 13, 112, 113, 114, 115, 116, 117, 118, 119, 120, 121, 122, 123, 18, 19, 20, 21, 22, 23, 24, 25, 28, 29, 30, 31, 32, 33, 34, 35, 36, 37, 38, 39, 40, 41, 42, 44, 45, 46, 140, 141, 142, 143, 144, 145, 146, 147, 148, 149, 150, 151, 152, 153, 154, 155, 156, 157, 158, 159, 160, 161, 162, 163, 164, 165, 166, 167, 168, 169] rfl (by decide +kernel)
set_option maxRecDepth 20000 in
theorem gX11_parseClass_X11_newName : GoodIn wsX11_parseClass (wsV RX11 220 RX11 yX11_newName wsX11_newName) := goodIn_app (goodIn_of _ (by decide +kernel)) ggX11_parseClass_X11_newName
set_option maxRecDepth 20000 in
theorem ggX11_parseClass_X11_word : GoodIn wsX11_parseClass wsX11_word := goodIn_r _ [127, 59, 60, 61, 5, 62, 27, 26, 12, 43, 14, 15, 16, 17, 11, 63, 64, 65, 66, 67, 68, 69, 70, 71, 72, 73, 74, 75, 76, 77, 78, 79, 80, 81, 82, 83, 84, 85, 86, 87, 88, 89, 90, 91, 92, 93, 94, 95, 96, 97, 98, 99, 100, 101, 102, 103, 104, 105, 106, 107, 108, 109, 110, 111, 7, 8, 9, 10, 13, 18, 19, 20, 21, 22, 23, 24, 25, 28, 29, 30, 31, 32, 33, 34, 35, 36, 37, 38, 39, 40, 41, 42, 44, 45, 46, 140, 141, 142, 143, 144, 145, 146, 147, 148, 149, 150, 151, 152, 153, 154, 155, 156, 157, 158, 159, 160, 161, 162, 163, 164, 165, 166, 167, 168, 169] rfl (by decide +kernel)
set_option maxRecDepth 20000 in
theorem gX11_parseClass_X11_word : GoodIn wsX11_parseClass (wsV RX11 195 RX11 yX11_word wsX11_word) := goodIn_app (goodIn_of _ (by decide +kernel)) ggX11_parseClass_X11_word
set_option maxRecDepth 20000 in
theorem ggX11_parseClass_X11_isText : GoodIn wsX11_parseClass wsX11_isText := goodIn_r _ [62, 27, 26, 12, 43, 14, 15, 16, 5, 17, 11, 63, 64, 65, 66, 67, 68, 69, 70, 71, 72, 73, 74, 75, 76, 77, 78, 79, 80, 81, 82, 83, 84, 85, 86, 87, 88, 89, 90, 91, 92, 93, 94, 95, 96, 97, 98, 99, 100, 101, 102, 103, 104, 105, 106, 107, 108, 109, 110, 111, 140, 141, 142, 143, 144, 145, 146, 147, 148, 149, 150, 151, 152, 153, 154, 155, 156, 157, 158, 159, 160, 161, 162, 163, 164, 165, 166, 167, 168, 169] rfl (by decide +kernel)
set_option maxRecDepth 20000 in
theorem gX11_parseClass_X11_isText : GoodIn wsX11_parseClass (wsV RX11 157 RX11 yX11_isText wsX11_isText) := goodIn_app (goodIn_of _ (by decide +kernel)) ggX11_parseClass_X11_isText
set_option maxRecDepth 20000 in
theorem ggX11_parseClass_X11_goOn : GoodIn wsX11_parseClass wsX11_goOn := goodIn_r _ [21, 14, 15, 16, 5, 17, 11, 22, 23, 24, 25, 26, 12, 27, 28, 29, 30, 31, 32, 33, 34, 35, 36, 37, 38, 39, 40, 41, 42, 43, 44, 45, 46, 140, 141, 142, 143, 144, 145, 146, 147, 148, 149, 150, 151, 152, 153, 154, 155, 156, 157, 158, 159, 160, 161, 162, 163, 164, 165, 166, 167, 168, 169] rfl (by decide +kernel)
set_option maxRecDepth 20000 in
theorem gX11_parseClass_X11_goOn : GoodIn wsX11_parseClass (wsV RX11 192 RX11 yX11_goOn wsX11_goOn) := goodIn_app (goodIn_of _ (by decide +kernel)) ggX11_parseClass_X11_goOn
set_option maxRecDepth 20000 in
theorem ggX11_parseClass_X11_number : GoodIn wsX11_parseClass wsX11_number := goodIn_r _ [131, 27, 32, 14, 15, 16, 5, 17, 11, 7, 8, 9, 10, 12, 13, 44, 45, 46, 18, 19, 20, 21, 22, 23, 24, 25, 26, 28, 29, 30, 31, 33, 34, 35, 36, 37, 38, 39, 40, 41, 42, 43, 140, 141, 142, 143, 144, 145, 146, 147, 148, 149, 150, 151, 152, 153, 154, 155, 156, 157, 158, 159, 160, 161, 162, 163, 164, 165, 166, 167, 168, 169] rfl (by decide +kernel)
set_option maxRecDepth 20000 in
theorem gX11_parseClass_X11_number : GoodIn wsX11_parseClass (wsV RX11 198 RX11 yX11_number wsX11_number) := goodIn_app (goodIn_of _ (by decide +kernel)) ggX11_parseClass_X11_number
set_option maxRecDepth 20000 in
theorem ggX11_parseClass_X11_numberAfter : GoodIn wsX11_parseClass wsX11_numberAfter := goodIn_r _ [135, 124, 125, 126, 5, 127, 59, 60, 61, 62, 27, 26, 12, 43, 14, 15, 16, 17, 11, 63, 64, 65, 66, 67, 68, 69, 70, 71, 72, 73, 74, 75, 76, 77, 78, 79, 80, 81, 82, 83, 84, 85, 86, 87, 88, 89, 90, 91, 92, 93, 94, 95, 96, 97, 98, 99, 100, 101, 102, 103, 104, 105, 106, 107, 108, 109, 110, 111, 7, 8, 9, 10, 13, 18, 19, 20, 21, 22, 23, 24, 25, 28, 29, 30, 31, 32, 33, 34, 35, 36, 37, 38, 39, 40, 41, 42, 44, 45, 46, 128, 129, 130, 131, 140, 141, 142, 143, 144, 145, 146, 147, 148, 149, 150, 151, 152, 153, 154, 155, 156, 157, 158, 159, 160, 161, 162, 163, 164, 165, 166, 167, 168, 169] rfl (by decide +kernel)
set_option maxRecDepth 20000 in
theorem gX11_parseClass_X11_numberAfter : GoodIn wsX11_parseClass (wsV RX11 224 RX11 yX11_numberAfter wsX11_numberAfter) := goodIn_app (goodIn_of _ (by decide +kernel)) ggX11_parseClass_X11_numberAfter
set_option maxRecDepth 20000 in
theorem ggX11_parseClass_X11_oldName : GoodIn wsX11_parseClass wsX11_oldName := goodIn_r _ [139, 51, 52, 53, 5, 54, 27, 26, 12, 14, 15, 16, 17, 11, 55, 56, 57, 58, 59, 60, 61, 62, 43, 63, 64, 65, 66, 67, 68, 69, 70, 71, 72, 73, 74, 75, 76, 77, 78, 79, 80, 81, 82, 83, 84, 85, 86, 87, 88, 89, 90, 91, 92, 93, 94, 95, 96, 97, 98, 99, 100, 101, 102, 103, 104, 105, 106, 107, 108, 109, 110, 111, 7, 8, 9, 10, 13, 112, 113, 114, 115, 1, 116, 117, 118, 119, 120, 121, 122, 123, 18, 19, 20, 21, 22, 23, 24, 25, 28, 29, 30, 31, 32, 33, 34, 35, 36, 37, 38, 39, 40, 41, 42, 44, 45, 46, 140, 141, 142, 143, 144, 145, 146, 147, 148, 149, 150, 151, 152, 153, 154, 155, 156, 157, 158, 159, 160, 161, 162, 163, 164, 165, 166, 167, 168, 169] rfl (by decide +kernel)
set_option maxRecDepth 20000 in
theorem gX11_parseClass_X11_oldName : GoodIn wsX11_parseClass (wsV RX11 228 RX11 yX11_oldName wsX11_oldName) := goodIn_app (goodIn_of _ (by decide +kernel)) ggX11_parseClass_X11_oldName
set_option maxRecDepth 20000 in
theorem ggX11_parseUser_X11_begins : GoodIn wsX11_parseUser wsX11_begins := goodIn_r _ [7, 8, 9, 10, 6, 11, 12, 13, 14, 15, 16, 17, 18, 19, 20, 21, 22, 23, 24, 25, 26, 27, 28, 29, 30, 31, 32, 33, 34, 35, 36, 37, 38, 39, 40, 41, 42, 43, 44, 45, 46, 47, 141, 142, 143, 144, 145, 146, 147, 148, 149, 150, 151, 152, 153, 154, 155, 156, 157, 158, 159, 160, 161, 162, 163, 164, 165, 166, 167, 168, 169, 170] rfl (by decide +kernel)
set_option maxRecDepth 20000 in
theorem gX11_parseUser_X11_begins : GoodIn wsX11_parseUser (wsV RX11 217 RX11 yX11_begins wsX11_begins) := goodIn_app (goodIn_of _ (by decide +kernel)) ggX11_parseUser_X11_begins
set_option maxRecDepth 20000 in
theorem ggX11_parseUser_X11_newName : GoodIn wsX11_parseUser wsX11_newName := goodIn_r _ [51, 1, 52, 53, 54, 6, 55, 28, 27, 13, 15, 16, 17, 18, 12, 56, 57, 58, 59, 60, 61, 62, 63, 44, 64, 65, 66, 67, 68, 69, 70, 71, 72, 73, 74, 75, 76, 77, 78, 79, 80, 81, 82, 83, 84, 85, 86, 87, 88, 89, 90, 91, 92, 93, 94, 95, 96, 97, 98, 99, 100, 101, 102, 103, 104, 105, 106, 107, 108, 109, 110, 111, 112, 8, 9, 10, 11, 14, 113, 114, 115, 116, 117, 118, 119, 120, 121, 122, 123, 124, 19, 20, 21, 22, 23, 24, 25, 26, 29, 30, 31, 32, 33, 34, 35, 36, 37, 38, 39, 40, 41, 42, 43, 45, 46, 47, 141, 142, 143, 144, 145, 146, 147, 148, 149, 150, 151, 152, 153, 154, 155, 156, 157, 158, 159, 160, 161, 162, 163, 164, 165, 166, 167, 168, 169, 170] rfl (by decide +kernel)
set_option maxRecDepth 20000 in
theorem gX11_parseUser_X11_newName : GoodIn wsX11_parseUser (wsV RX11 220 RX11 yX11_newName wsX11_newName) := goodIn_app (goodIn_of _ (by decide +kernel)) ggX11_parseUser_X11_newName
set_option maxRecDepth 20000 in
theorem ggX11_parseUser_X11_word : GoodIn wsX11_parseUser wsX11_word := goodIn_r _ [128, 60, 61, 62, 6, 63, 28, 27, 13, 44, 15, 16, 17, 18, 12, 64, 65, 66, 67, 68, 69, 70, 71, 72, 73, 74, 75, 76, 77, 78, 79, 80, 81, 82, 83, 84, 85, 86, 87, 88, 89, 90, 91, 92, 93, 94, 95, 96, 97, 98, 99, 100, 101, 102, 103, 104, 105, 106, 107, 108, 109, 110, 111, 112, 8, 9, 10, 11, 14, 19, 20, 21, 22, 23, 24, 25, 26, 29, 30, 31, 32, 33, 34, 35, 36, 37, 38, 39, 40, 41, 42, 43, 45, 46, 47, 141, 142, 143, 144, 145, 146, 147, 148, 149, 150, 151, 152, 153, 154, 155, 156, 157, 158, 159, 160, 161, 162, 163, 164, 165, 166, 167, 168, 169, 170] rfl (by decide +kernel)
set_option maxRecDepth 20000 in
theorem gX11_parseUser_X11_word : GoodIn wsX11_parseUser (wsV RX11 195 RX11 yX11_word wsX11_word) := goodIn_app (goodIn_of _ (by decide +kernel)) ggX11_parseUser_X11_word
set_option maxRecDepth 20000 in
theorem ggX11_parseUser_X11_oldName : GoodIn wsX11_parseUser wsX11_oldName := goodIn_r _ [132, 52, 53, 54, 6, 55, 28, 27, 13, 15, 16, 17, 18, 12, 56, 57, 58, 59, 60, 61, 62, 63, 44, 64, 65, 66, 67, 68, 69, 70, 71, 72, 73, 74, 75, 76, 77, 78, 79, 80, 81, 82, 83, 84, 85, 86, 87, 88, 89, 90, 91, 92, 93, 94, 95, 96, 97, 98, 99, 100, 101, 102, 103, 104, 105, 106, 107, 108, 109, 110, 111, 112, 8, 9, 10, 11, 14, 113, 114, 115, 116, 1, 117, 118, 119, 120, 121, 122, 123, 124, 19, 20, 21, 22, 23, 24, 25, 26, 29, 30, 31, 32, 33, 34, 35, 36, 37, 38, 39, 40, 41, 42, 43, 45, 46, 47, 141, 142, 143, 144, 145, 146, 147, 148, 149, 150, 151, 152, 153, 154, 155, 156, 157, 158, 159, 160, 161, 162, 163, 164, 165, 166, 167, 168, 169, 170] rfl (by decide +kernel)
set_option maxRecDepth 20000 in
theorem gX11_parseUser_X11_oldName : GoodIn wsX11_parseUser (wsV RX11 228 RX11 yX11_oldName wsX11_oldName) := goodIn_app (goodIn_of _ (by decide +kernel)) ggX11_parseUser_X11_oldName
set_option maxRecDepth 20000 in
theorem ggX11_parseUser_X11_numberAfter : GoodIn wsX11_parseUser wsX11_numberAfter := goodIn_r _ [136, 125, 126, 127, 6, 128, 60, 61, 62, 63, 28, 27, 13, 44, 15, 16, 17, 18, 12, 64, 65, 66, 67, 68, 69, 70, 71, 72, 73, 74, 75, 76, 77, 78, 79, 80, 81, 82, 83, 84, 85, 86, 87, 88, 89, 90, 91, 92, 93, 94, 95, 96, 97, 98, 99, 100, 101, 102, 103, 104, 105, 106, 107, 108, 109, 110, 111, 112, 8, 9, 10, 11, 14, 19, 20, 21, 22, 23, 24, 25, 26, 29, 30, 31, 32, 33, 34, 35, 36, 37, 38, 39, 40, 41, 42, 43, 45, 46, 47, 137, 138, 139, 140, 141, 142, 143, 144, 145, 146, 147, 148, 149, 150, 151, 152, 153, 154, 155, 156, 157, 158, 159, 160, 161, 162, 163, 164, 165, 166, 167, 168, 169, 170] rfl (by decide +kernel)
set_option maxRecDepth 20000 in
theorem gX11_parseUser_X11_numberAfter : GoodIn wsX11_parseUser (wsV RX11 224 RX11 yX11_numberAfter wsX11_numberAfter) := goodIn_app (goodIn_of _ (by decide +kernel)) ggX11_parseUser_X11_numberAfter
set_option maxRecDepth 20000 in
theorem ggX11_member_X11_checkName : GoodIn wsX11_member wsX11_checkName := goodIn_r _ [6, 7, 8, 9, 10, 11, 12, 5, 13, 14, 15, 16, 17, 18, 19, 20, 21, 22, 23, 24, 25, 26, 27, 28, 29, 30, 31, 32, 33, 34, 35, 36, 37, 38, 39, 40, 41, 42, 43, 44, 45, 46, 47, 48, 49, 50, 51, 52, 53, 54, 55, 56, 57, 58, 59, 60, 61, 62, 63, 64, 65, 66, 67, 68, 69, 70, 71, 72, 73, 74, 75, 76, 77, 116, 117, 118, 119, 120, 121, 122, 123, 124, 125, 126, 127, 128, 129, 130, 131, 132, 133, 134, 135, 136, 137, 138, 139, 140, 141, 142, 143, 144, 145] rfl (by decide +kernel)
set_option maxRecDepth 20000 in
theorem gX11_member_X11_checkName : GoodIn wsX11_member (wsV RX11 211 RX11 yX11_checkName wsX11_checkName) := goodIn_app (goodIn_of _ (by decide +kernel)) ggX11_member_X11_checkName
set_option maxRecDepth 20000 in
theorem ggX11_member_X11_good : GoodIn wsX11_member wsX11_good := goodIn_r _ [13, 14, 116, 117, 118, 119, 120, 121, 122, 123, 124, 125, 126, 127, 128, 129, 130, 131, 132, 133, 134, 135, 136, 137, 138, 139, 140, 141, 142, 143, 144, 145] rfl (by decide +kernel)
set_option maxRecDepth 20000 in
theorem gX11_member_X11_good : GoodIn wsX11_member (wsV RX11 105 RX11 yX11_good wsX11_good) := goodIn_app (goodIn_of _ (by decide +kernel)) ggX11_member_X11_good
set_option maxRecDepth 20000 in
theorem ggX11_member_X11_kindNamed : GoodIn wsX11_member wsX11_kindNamed := goodIn_r _ [81, 1, 82, 83, 84, 5, 85, 8, 9, 86, 87, 88, 89, 23, 116, 117, 118, 119, 120, 121, 122, 123, 124, 125, 126, 127, 128, 129, 130, 131, 132, 133, 134, 135, 136, 137, 138, 139, 140, 141, 142, 143, 144, 145] rfl (by decide +kernel)
set_option maxRecDepth 20000 in
theorem gX11_member_X11_kindNamed : GoodIn wsX11_member (wsV RX11 214 RX11 yX11_kindNamed wsX11_kindNamed) := goodIn_app (goodIn_of _ (by decide +kernel)) ggX11_member_X11_kindNamed
set_option maxRecDepth 20000 in
theorem ggX11_member_X11_errs : GoodIn wsX11_member wsX11_errs := goodIn_r _ [76, 14, 9, 77, 10, 11, 12, 5, 13, 116, 117, 118, 119, 120, 121, 122, 123, 124, 125, 126, 127, 128, 129, 130, 131, 132, 133, 134, 135, 136, 137, 138, 139, 140, 141, 142, 143, 144, 145] rfl (by decide +kernel)
set_option maxRecDepth 20000 in
theorem gX11_member_X11_errs : GoodIn wsX11_member (wsV RX11 189 RX11 yX11_errs wsX11_errs) := goodIn_app (goodIn_of _ (by decide +kernel)) ggX11_member_X11_errs
set_option maxRecDepth 20000 in
theorem ggX11_member_X11_goOn : GoodIn wsX11_member wsX11_goOn := goodIn_r _ [93, 10, 11, 12, 5, 13, 14, 94, 95, 96, 97, 8, 9, 7, 98, 99, 100, 101, 102, 103, 104, 105, 106, 107, 108, 109, 110, 111, 112, 23, 113, 114, 115, 116, 117, 118, 119, 120, 121, 122, 123, 124, 125, 126, 127, 128, 129, 130, 131, 132, 133, 134, 135, 136, 137, 138, 139, 140, 141, 142, 143, 144, 145] rfl (by decide +kernel)
set_option maxRecDepth 20000 in
theorem gX11_member_X11_goOn : GoodIn wsX11_member (wsV RX11 192 RX11 yX11_goOn wsX11_goOn) := goodIn_app (goodIn_of _ (by decide +kernel)) ggX11_member_X11_goOn
set_option maxRecDepth 20000 in
theorem ggX11_parseGroup_X11_begins : GoodIn wsX11_parseGroup wsX11_begins := goodIn_r _ [6, 7, 8, 9, 5, 10, 11, 12, 13, 14, 15, 16, 17, 18, 19, 20, 21, 22, 23, 24, 25, 26, 27, 28, 29, 30, 31, 32, 33, 34, 35, 36, 37, 38, 39, 40, 41, 42, 43, 44, 45, 46, 132, 133, 134, 135, 136, 137, 138, 139, 140, 141, 142, 143, 144, 145, 146, 147, 148, 149, 150, 151, 152, 153, 154, 155, 156, 157, 158, 159, 160, 161] rfl (by decide +kernel)
set_option maxRecDepth 20000 in
theorem gX11_parseGroup_X11_begins : GoodIn wsX11_parseGroup (wsV RX11 217 RX11 yX11_begins wsX11_begins) := goodIn_app (goodIn_of _ (by decide +kernel)) ggX11_parseGroup_X11_begins
set_option maxRecDepth 20000 in
theorem ggX11_parseGroup_X11_newName : GoodIn wsX11_parseGroup wsX11_newName := goodIn_r _ [50, 1, 51, 52, 53, 5, 54, 27, 26, 12, 14, 15, 16, 17, 11, 55, 56, 57, 58, 59, 60, 61, 62, 43, 63, 64, 65, 66, 67, 68, 69, 70, 71, 72, 73, 74, 75, 76, 77, 78, 79, 80, 81, 82, 83, 84, 85, 86, 87, 88, 89, 90, 91, 92, 93, 94, 95, 96, 97, 98, 99, 100, 101, 102, 103, 104, 105, 106, 107, 108, 109, 110, 111, 7, 8, 9, 10, 13, 112, 113, 114, 115, 116, 117, 118, 119, 120, 121, 122, 123, 18, 19, 20, 21, 22, 23, 24, 25, 28, 29, 30, 31, 32, 33, 34, 35, 36, 37, 38, 39, 40, 41, 42, 44, 45, 46, 132, 133, 134, 135, 136, 137, 138, 139, 140, 141, 142, 143, 144, 145, 146, 147, 148, 149, 150, 151, 152, 153, 154, 155, 156, 157, 158, 159, 160, 161] rfl (by decide +kernel)
set_option maxRecDepth 20000 in
theorem gX11_parseGroup_X11_newName : GoodIn wsX11_parseGroup (wsV RX11 220 RX11 yX11_newName wsX11_newName) := goodIn_app (goodIn_of _ (by decide +kernel)) ggX11_parseGroup_X11_newName
set_option maxRecDepth 20000 in
theorem ggX11_parseGroup_X11_member : GoodIn wsX11_parseGroup wsX11_member := goodIn_r _ [127, 1, 51, 52, 53, 5, 54, 27, 26, 12, 14, 15, 16, 17, 11, 55, 56, 57, 58, 59, 60, 61, 62, 43, 63, 64, 65, 66, 67, 68, 69, 70, 71, 72, 73, 74, 75, 76, 77, 78, 79, 80, 81, 82, 83, 84, 85, 86, 87, 88, 89, 90, 91, 92, 93, 94, 95, 96, 97, 98, 99, 100, 101, 102, 103, 104, 105, 106, 107, 108, 109, 110, 111, 7, 8, 9, 10, 13, 112, 113, 114, 115, 116, 117, 118, 119, 120, 121, 122, 123, 18, 19, 20, 21, 22, 23, 24, 25, 28, 29, 30, 31, 32, 33, 34, 35, 36, 37, 38, 39, 40, 41, 42, 44, 45, 46, 132, 133, 134, 135, 136, 137, 138, 139, 140, 141, 142, 143, 144, 145, 146, 147, 148, 149, 150, 151, 152, 153, 154, 155, 156, 157, 158, 159, 160, 161] rfl (by decide +kernel)
set_option maxRecDepth 20000 in
theorem gX11_parseGroup_X11_member : GoodIn wsX11_parseGroup (wsV RX11 232 RX11 yX11_member wsX11_member) := goodIn_app (goodIn_of _ (by decide +kernel)) ggX11_parseGroup_X11_member
set_option maxRecDepth 20000 in
theorem ggX11_parseGroup_X11_isSymbol : GoodIn wsX11_parseGroup wsX11_isSymbol := goodIn_r _ [131, 27, 32, 14, 15, 16, 5, 17, 11, 132, 133, 134, 135, 136, 137, 138, 139, 140, 141, 142, 143, 144, 145, 146, 147, 148, 149, 150, 151, 152, 153, 154, 155, 156, 157, 158, 159, 160, 161] rfl (by decide +kernel)
set_option maxRecDepth 20000 in
theorem gX11_parseGroup_X11_isSymbol : GoodIn wsX11_parseGroup (wsV RX11 235 RX11 yX11_isSymbol wsX11_isSymbol) := goodIn_app (goodIn_of _ (by decide +kernel)) ggX11_parseGroup_X11_isSymbol
set_option maxRecDepth 20000 in
theorem ggX11_parseGroup_X11_goOn : GoodIn wsX11_parseGroup wsX11_goOn := goodIn_r _ [21, 14, 15, 16, 5, 17, 11, 22, 23, 24, 25, 26, 12, 27, 28, 29, 30, 31, 32, 33, 34, 35, 36, 37, 38, 39, 40, 41, 42, 43, 44, 45, 46, 132, 133, 134, 135, 136, 137, 138, 139, 140, 141, 142, 143, 144, 145, 146, 147, 148, 149, 150, 151, 152, 153, 154, 155, 156, 157, 158, 159, 160, 161] rfl (by decide +kernel)
set_option maxRecDepth 20000 in
theorem gX11_parseGroup_X11_goOn : GoodIn wsX11_parseGroup (wsV RX11 192 RX11 yX11_goOn wsX11_goOn) := goodIn_app (goodIn_of _ (by decide +kernel)) ggX11_parseGroup_X11_goOn
set_option maxRecDepth 20000 in
theorem ggX11_parseWord_X11_goOn : GoodIn wsX11_parseWord wsX11_goOn := goodIn_r _ [9, 10, 11, 12, 8, 13, 14, 15, 16, 17, 18, 2, 3, 1, 19, 20, 21, 22, 23, 24, 25, 26, 27, 28, 29, 30, 31, 32, 33, 34, 35, 36, 37, 47, 48, 49, 50, 51, 52, 53, 54, 55, 56, 57, 58, 59, 60, 61, 62, 63, 64, 65, 66, 67, 68, 69, 70, 71, 72, 73, 74, 75, 76] rfl (by decide +kernel)
set_option maxRecDepth 20000 in
theorem gX11_parseWord_X11_goOn : GoodIn wsX11_parseWord (wsV RX11 192 RX11 yX11_goOn wsX11_goOn) := goodIn_app (goodIn_of _ (by decide +kernel)) ggX11_parseWord_X11_goOn
set_option maxRecDepth 20000 in
theorem ggX11_parseWord_X11_good : GoodIn wsX11_parseWord wsX11_good := goodIn_r _ [13, 14, 47, 48, 49, 50, 51, 52, 53, 54, 55, 56, 57, 58, 59, 60, 61, 62, 63, 64, 65, 66, 67, 68, 69, 70, 71, 72, 73, 74, 75, 76] rfl (by decide +kernel)
set_option maxRecDepth 20000 in
theorem gX11_parseWord_X11_good : GoodIn wsX11_parseWord (wsV RX11 105 RX11 yX11_good wsX11_good) := goodIn_app (goodIn_of _ (by decide +kernel)) ggX11_parseWord_X11_good
set_option maxRecDepth 20000 in
theorem ggX11_parseWord_X11_errs : GoodIn wsX11_parseWord wsX11_errs := goodIn_r _ [41, 14, 3, 42, 10, 11, 12, 8, 13, 47, 48, 49, 50, 51, 52, 53, 54, 55, 56, 57, 58, 59, 60, 61, 62, 63, 64, 65, 66, 67, 68, 69, 70, 71, 72, 73, 74, 75, 76] rfl (by decide +kernel)
set_option maxRecDepth 20000 in
theorem gX11_parseWord_X11_errs : GoodIn wsX11_parseWord (wsV RX11 189 RX11 yX11_errs wsX11_errs) := goodIn_app (goodIn_of _ (by decide +kernel)) ggX11_parseWord_X11_errs
set_option maxRecDepth 20000 in
theorem ggX11_parseWord_X11_letter : GoodIn wsX11_parseWord wsX11_letter := goodIn_r _ [46, 2, 3, 34, 47, 48, 49, 50, 51, 52, 53, 54, 55, 56, 57, 58, 59, 60, 61, 62, 63, 64, 65, 66, 67, 68, 69, 70, 71, 72, 73, 74, 75, 76] rfl (by decide +kernel)
set_option maxRecDepth 20000 in
theorem gX11_parseWord_X11_letter : GoodIn wsX11_parseWord (wsV RX11 201 RX11 yX11_letter wsX11_letter) := goodIn_app (goodIn_of _ (by decide +kernel)) ggX11_parseWord_X11_letter
set_option maxRecDepth 20000 in
theorem ggX11_parseHold_X11_begins : GoodIn wsX11_parseHold wsX11_begins := goodIn_r _ [6, 7, 8, 9, 5, 10, 11, 12, 13, 14, 15, 16, 17, 18, 19, 20, 21, 22, 23, 24, 25, 26, 27, 28, 29, 30, 31, 32, 33, 34, 35, 36, 37, 38, 39, 40, 41, 42, 43, 44, 45, 46, 144, 145, 146, 147, 148, 149, 150, 151, 152, 153, 154, 155, 156, 157, 158, 159, 160, 161, 162, 163, 164, 165, 166, 167, 168, 169, 170, 171, 172, 173] rfl (by decide +kernel)
set_option maxRecDepth 20000 in
theorem gX11_parseHold_X11_begins : GoodIn wsX11_parseHold (wsV RX11 217 RX11 yX11_begins wsX11_begins) := goodIn_app (goodIn_of _ (by decide +kernel)) ggX11_parseHold_X11_begins
set_option maxRecDepth 20000 in
theorem ggX11_parseHold_X11_newName : GoodIn wsX11_parseHold wsX11_newName := goodIn_r _ [50, 1, 51, 52, 53, 5, 54, 27, 26, 12, 14, 15, 16, 17, 11, 55, 56, 57, 58, 59, 60, 61, 62, 43, 63, 64, 65, 66, 67, 68, 69, 70, 71, 72, 73, 74, 75, 76, 77, 78, 79, 80, 81, 82, 83, 84, 85, 86, 87, 88, 89, 90, 91, 92, 93, 94, 95, 96, 97, 98, 99, 100, 101, 102, 103, 104, 105, 106, 107, 108, 109, 110, 111, 7, 8, 9, 10, 13, 112, 113, 114, 115, 116, 117, 118, 119, 120, 121, 122, 123, 18, 19, 20, 21, 22, 23, 24, 25, 28, 29, 30, 31, 32, 33, 34, 35, 36, 37, 38, 39, 40, 41, 42, 44, 45, 46, 144, 145, 146, 147, 148, 149, 150, 151, 152, 153, 154, 155, 156, 157, 158, 159, 160, 161, 162, 163, 164, 165, 166, 167, 168, 169, 170, 171, 172, 173] rfl (by decide +kernel)
set_option maxRecDepth 20000 in
theorem gX11_parseHold_X11_newName : GoodIn wsX11_parseHold (wsV RX11 220 RX11 yX11_newName wsX11_newName) := goodIn_app (goodIn_of _ (by decide +kernel)) ggX11_parseHold_X11_newName
set_option maxRecDepth 20000 in
theorem ggX11_parseHold_X11_word : GoodIn wsX11_parseHold wsX11_word := goodIn_r _ [127, 59, 60, 61, 5, 62, 27, 26, 12, 43, 14, 15, 16, 17, 11, 63, 64, 65, 66, 67, 68, 69, 70, 71, 72, 73, 74, 75, 76, 77, 78, 79, 80, 81, 82, 83, 84, 85, 86, 87, 88, 89, 90, 91, 92, 93, 94, 95, 96, 97, 98, 99, 100, 101, 102, 103, 104, 105, 106, 107, 108, 109, 110, 111, 7, 8, 9, 10, 13, 18, 19, 20, 21, 22, 23, 24, 25, 28, 29, 30, 31, 32, 33, 34, 35, 36, 37, 38, 39, 40, 41, 42, 44, 45, 46, 144, 145, 146, 147, 148, 149, 150, 151, 152, 153, 154, 155, 156, 157, 158, 159, 160, 161, 162, 163, 164, 165, 166, 167, 168, 169, 170, 171, 172, 173] rfl (by decide +kernel)
set_option maxRecDepth 20000 in
theorem gX11_parseHold_X11_word : GoodIn wsX11_parseHold (wsV RX11 195 RX11 yX11_word wsX11_word) := goodIn_app (goodIn_of _ (by decide +kernel)) ggX11_parseHold_X11_word
set_option maxRecDepth 20000 in
theorem ggX11_parseHold_X11_oldName : GoodIn wsX11_parseHold wsX11_oldName := goodIn_r _ [131, 51, 52, 53, 5, 54, 27, 26, 12, 14, 15, 16, 17, 11, 55, 56, 57, 58, 59, 60, 61, 62, 43, 63, 64, 65, 66, 67, 68, 69, 70, 71, 72, 73, 74, 75, 76, 77, 78, 79, 80, 81, 82, 83, 84, 85, 86, 87, 88, 89, 90, 91, 92, 93, 94, 95, 96, 97, 98, 99, 100, 101, 102, 103, 104, 105, 106, 107, 108, 109, 110, 111, 7, 8, 9, 10, 13, 112, 113, 114, 115, 1, 116, 117, 118, 119, 120, 121, 122, 123, 18, 19, 20, 21, 22, 23, 24, 25, 28, 29, 30, 31, 32, 33, 34, 35, 36, 37, 38, 39, 40, 41, 42, 44, 45, 46, 144, 145, 146, 147, 148, 149, 150, 151, 152, 153, 154, 155, 156, 157, 158, 159, 160, 161, 162, 163, 164, 165, 166, 167, 168, 169, 170, 171, 172, 173] rfl (by decide +kernel)
set_option maxRecDepth 20000 in
theorem gX11_parseHold_X11_oldName : GoodIn wsX11_parseHold (wsV RX11 228 RX11 yX11_oldName wsX11_oldName) := goodIn_app (goodIn_of _ (by decide +kernel)) ggX11_parseHold_X11_oldName
set_option maxRecDepth 20000 in
theorem ggX11_parseHold_X11_isText : GoodIn wsX11_parseHold wsX11_isText := goodIn_r _ [62, 27, 26, 12, 43, 14, 15, 16, 5, 17, 11, 63, 64, 65, 66, 67, 68, 69, 70, 71, 72, 73, 74, 75, 76, 77, 78, 79, 80, 81, 82, 83, 84, 85, 86, 87, 88, 89, 90, 91, 92, 93, 94, 95, 96, 97, 98, 99, 100, 101, 102, 103, 104, 105, 106, 107, 108, 109, 110, 111, 144, 145, 146, 147, 148, 149, 150, 151, 152, 153, 154, 155, 156, 157, 158, 159, 160, 161, 162, 163, 164, 165, 166, 167, 168, 169, 170, 171, 172, 173] rfl (by decide +kernel)
set_option maxRecDepth 20000 in
theorem gX11_parseHold_X11_isText : GoodIn wsX11_parseHold (wsV RX11 157 RX11 yX11_isText wsX11_isText) := goodIn_app (goodIn_of _ (by decide +kernel)) ggX11_parseHold_X11_isText
set_option maxRecDepth 20000 in
theorem ggX11_parseHold_X11_goOn : GoodIn wsX11_parseHold wsX11_goOn := goodIn_r _ [21, 14, 15, 16, 5, 17, 11, 22, 23, 24, 25, 26, 12, 27, 28, 29, 30, 31, 32, 33, 34, 35, 36, 37, 38, 39, 40, 41, 42, 43, 44, 45, 46, 144, 145, 146, 147, 148, 149, 150, 151, 152, 153, 154, 155, 156, 157, 158, 159, 160, 161, 162, 163, 164, 165, 166, 167, 168, 169, 170, 171, 172, 173] rfl (by decide +kernel)
set_option maxRecDepth 20000 in
theorem gX11_parseHold_X11_goOn : GoodIn wsX11_parseHold (wsV RX11 192 RX11 yX11_goOn wsX11_goOn) := goodIn_app (goodIn_of _ (by decide +kernel)) ggX11_parseHold_X11_goOn
set_option maxRecDepth 20000 in
theorem ggX11_parseHold_X11_number : GoodIn wsX11_parseHold wsX11_number := goodIn_r _ [135, 27, 32, 14, 15, 16, 5, 17, 11, 7, 8, 9, 10, 12, 13, 44, 45, 46, 18, 19, 20, 21, 22, 23, 24, 25, 26, 28, 29, 30, 31, 33, 34, 35, 36, 37, 38, 39, 40, 41, 42, 43, 144, 145, 146, 147, 148, 149, 150, 151, 152, 153, 154, 155, 156, 157, 158, 159, 160, 161, 162, 163, 164, 165, 166, 167, 168, 169, 170, 171, 172, 173] rfl (by decide +kernel)
set_option maxRecDepth 20000 in
theorem gX11_parseHold_X11_number : GoodIn wsX11_parseHold (wsV RX11 198 RX11 yX11_number wsX11_number) := goodIn_app (goodIn_of _ (by decide +kernel)) ggX11_parseHold_X11_number
set_option maxRecDepth 20000 in
theorem ggX11_parseHold_X11_numberAfter : GoodIn wsX11_parseHold wsX11_numberAfter := goodIn_r _ [139, 124, 125, 126, 5, 127, 59, 60, 61, 62, 27, 26, 12, 43, 14, 15, 16, 17, 11, 63, 64, 65, 66, 67, 68, 69, 70, 71, 72, 73, 74, 75, 76, 77, 78, 79, 80, 81, 82, 83, 84, 85, 86, 87, 88, 89, 90, 91, 92, 93, 94, 95, 96, 97, 98, 99, 100, 101, 102, 103, 104, 105, 106, 107, 108, 109, 110, 111, 7, 8, 9, 10, 13, 18, 19, 20, 21, 22, 23, 24, 25, 28, 29, 30, 31, 32, 33, 34, 35, 36, 37, 38, 39, 40, 41, 42, 44, 45, 46, 132, 133, 134, 135, 144, 145, 146, 147, 148, 149, 150, 151, 152, 153, 154, 155, 156, 157, 158, 159, 160, 161, 162, 163, 164, 165, 166, 167, 168, 169, 170, 171, 172, 173] rfl (by decide +kernel)
set_option maxRecDepth 20000 in
theorem gX11_parseHold_X11_numberAfter : GoodIn wsX11_parseHold (wsV RX11 224 RX11 yX11_numberAfter wsX11_numberAfter) := goodIn_app (goodIn_of _ (by decide +kernel)) ggX11_parseHold_X11_numberAfter
set_option maxRecDepth 20000 in
theorem ggX11_parseHold_X11_parseWord : GoodIn wsX11_parseHold wsX11_parseWord := goodIn_r _ [143, 27, 26, 12, 1, 18, 19, 20, 5, 21, 14, 15, 16, 17, 11, 22, 23, 24, 25, 28, 29, 30, 31, 32, 33, 34, 35, 36, 37, 38, 39, 40, 41, 42, 43, 44, 45, 46, 7, 8, 9, 10, 13, 120, 121, 122, 123, 144, 145, 146, 147, 148, 149, 150, 151, 152, 153, 154, 155, 156, 157, 158, 159, 160, 161, 162, 163, 164, 165, 166, 167, 168, 169, 170, 171, 172, 173] rfl (by decide +kernel)
set_option maxRecDepth 20000 in
theorem gX11_parseHold_X11_parseWord : GoodIn wsX11_parseHold (wsV RX11 238 RX11 yX11_parseWord wsX11_parseWord) := goodIn_app (goodIn_of _ (by decide +kernel)) ggX11_parseHold_X11_parseWord
set_option maxRecDepth 20000 in
theorem ggX11_parseStatement_X11_isText : GoodIn wsX11_parseStatement wsX11_isText := goodIn_r _ [5, 6, 7, 8, 9, 10, 11, 12, 4, 13, 14, 15, 16, 17, 18, 19, 20, 21, 22, 23, 24, 25, 26, 27, 28, 29, 30, 31, 32, 33, 34, 35, 36, 37, 38, 39, 40, 41, 42, 43, 44, 45, 46, 47, 48, 49, 50, 51, 52, 53, 54, 55, 56, 57, 58, 59, 60, 61, 62, 63, 169, 170, 171, 172, 173, 174, 175, 176, 177, 178, 179, 180, 181, 182, 183, 184, 185, 186, 187, 188, 189, 190, 191, 192, 193, 194, 195, 196, 197, 198] rfl (by decide +kernel)
set_option maxRecDepth 20000 in
theorem gX11_parseStatement_X11_isText : GoodIn wsX11_parseStatement (wsV RX11 157 RX11 yX11_isText wsX11_isText) := goodIn_app (goodIn_of _ (by decide +kernel)) ggX11_parseStatement_X11_isText
set_option maxRecDepth 20000 in
theorem ggX11_parseStatement_X11_parseClass : GoodIn wsX11_parseStatement wsX11_parseClass := goodIn_r _ [67, 68, 69, 70, 71, 4, 72, 73, 74, 75, 76, 14, 8, 77, 10, 11, 12, 13, 78, 79, 80, 81, 82, 83, 84, 85, 7, 6, 86, 87, 88, 89, 90, 91, 92, 93, 94, 95, 96, 97, 98, 99, 100, 9, 101, 102, 103, 104, 105, 106, 107, 108, 109, 110, 111, 112, 113, 114, 115, 1, 2, 3, 5, 15, 16, 17, 18, 19, 20, 21, 22, 23, 24, 25, 26, 27, 28, 29, 30, 31, 32, 33, 34, 35, 36, 37, 38, 39, 40, 41, 42, 43, 44, 45, 46, 47, 48, 49, 50, 51, 52, 53, 54, 55, 56, 57, 58, 59, 60, 61, 62, 63, 116, 117, 118, 119, 120, 121, 122, 123, 124, 125, 126, 127, 128, 129, 130, 131, 132, 133, 134, 135, 136, 137, 138, 139, 140, 141, 142, 143, 169, 170, 171, 172, 173, 174, 175, 176, 177, 178, 179, 180, 181, 182, 183, 184, 185, 186, 187, 188, 189, 190, 191, 192, 193, 194, 195, 196, 197, 198] rfl (by decide +kernel)
set_option maxRecDepth 20000 in
theorem gX11_parseStatement_X11_parseClass : GoodIn wsX11_parseStatement (wsV RX11 241 RX11 yX11_parseClass wsX11_parseClass) := goodIn_app (goodIn_of _ (by decide +kernel)) ggX11_parseStatement_X11_parseClass
set_option maxRecDepth 20000 in
theorem ggX11_parseStatement_X11_parseUser : GoodIn wsX11_parseStatement wsX11_parseUser := goodIn_r _ [147, 68, 148, 69, 70, 71, 4, 72, 73, 74, 75, 76, 14, 8, 77, 10, 11, 12, 13, 78, 79, 80, 81, 82, 83, 84, 85, 7, 6, 86, 87, 88, 89, 90, 91, 92, 93, 94, 95, 96, 97, 98, 99, 100, 9, 101, 102, 103, 104, 105, 106, 107, 108, 109, 110, 111, 112, 113, 114, 115, 1, 2, 3, 5, 15, 16, 17, 18, 19, 20, 21, 22, 23, 24, 25, 26, 27, 28, 29, 30, 31, 32, 33, 34, 35, 36, 37, 38, 39, 40, 41, 42, 43, 44, 45, 46, 47, 48, 49, 50, 51, 52, 53, 54, 55, 56, 57, 58, 59, 60, 61, 62, 63, 116, 117, 118, 119, 120, 121, 122, 123, 124, 125, 126, 127, 128, 129, 130, 131, 140, 141, 142, 143, 136, 137, 138, 139, 132, 133, 134, 135, 169, 170, 171, 172, 173, 174, 175, 176, 177, 178, 179, 180, 181, 182, 183, 184, 185, 186, 187, 188, 189, 190, 191, 192, 193, 194, 195, 196, 197, 198] rfl (by decide +kernel)
set_option maxRecDepth 20000 in
theorem gX11_parseStatement_X11_parseUser : GoodIn wsX11_parseStatement (wsV RX11 244 RX11 yX11_parseUser wsX11_parseUser) := goodIn_app (goodIn_of _ (by decide +kernel)) ggX11_parseStatement_X11_parseUser
set_option maxRecDepth 20000 in
theorem ggX11_parseStatement_X11_parseGroup : GoodIn wsX11_parseStatement wsX11_parseGroup := goodIn_r _ [152, 68, 69, 70, 71, 4, 72, 73, 74, 75, 76, 14, 8, 77, 10, 11, 12, 13, 78, 79, 80, 81, 82, 83, 84, 85, 7, 6, 86, 87, 88, 89, 90, 91, 92, 93, 94, 95, 96, 97, 98, 99, 100, 9, 101, 102, 103, 104, 105, 106, 107, 108, 109, 110, 111, 112, 113, 114, 115, 1, 2, 3, 5, 15, 16, 17, 18, 19, 20, 21, 22, 23, 24, 25, 26, 27, 28, 29, 30, 31, 32, 33, 34, 35, 36, 37, 38, 39, 40, 41, 42, 43, 44, 45, 46, 47, 48, 49, 50, 51, 52, 53, 54, 55, 56, 57, 58, 59, 60, 61, 62, 63, 116, 117, 118, 119, 120, 121, 122, 123, 124, 125, 126, 127, 153, 154, 155, 156, 157, 158, 159, 160, 169, 170, 171, 172, 173, 174, 175, 176, 177, 178, 179, 180, 181, 182, 183, 184, 185, 186, 187, 188, 189, 190, 191, 192, 193, 194, 195, 196, 197, 198] rfl (by decide +kernel)
set_option maxRecDepth 20000 in
theorem gX11_parseStatement_X11_parseGroup : GoodIn wsX11_parseStatement (wsV RX11 247 RX11 yX11_parseGroup wsX11_parseGroup) := goodIn_app (goodIn_of _ (by decide +kernel)) ggX11_parseStatement_X11_parseGroup
set_option maxRecDepth 20000 in
theorem ggX11_parseStatement_X11_parseHold : GoodIn wsX11_parseStatement wsX11_parseHold := goodIn_r _ [164, 68, 69, 70, 71, 4, 72, 73, 74, 75, 76, 14, 8, 77, 10, 11, 12, 13, 78, 79, 80, 81, 82, 83, 84, 85, 7, 6, 86, 87, 88, 89, 90, 91, 92, 93, 94, 95, 96, 97, 98, 99, 100, 9, 101, 102, 103, 104, 105, 106, 107, 108, 109, 110, 111, 112, 113, 114, 115, 1, 2, 3, 5, 15, 16, 17, 18, 19, 20, 21, 22, 23, 24, 25, 26, 27, 28, 29, 30, 31, 32, 33, 34, 35, 36, 37, 38, 39, 40, 41, 42, 43, 44, 45, 46, 47, 48, 49, 50, 51, 52, 53, 54, 55, 56, 57, 58, 59, 60, 61, 62, 63, 116, 117, 118, 119, 120, 121, 122, 123, 124, 125, 126, 127, 128, 129, 130, 131, 140, 141, 142, 143, 132, 133, 134, 135, 136, 137, 138, 139, 165, 166, 167, 168, 169, 170, 171, 172, 173, 174, 175, 176, 177, 178, 179, 180, 181, 182, 183, 184, 185, 186, 187, 188, 189, 190, 191, 192, 193, 194, 195, 196, 197, 198] rfl (by decide +kernel)
set_option maxRecDepth 20000 in
theorem gX11_parseStatement_X11_parseHold : GoodIn wsX11_parseStatement (wsV RX11 250 RX11 yX11_parseHold wsX11_parseHold) := goodIn_app (goodIn_of _ (by decide +kernel)) ggX11_parseStatement_X11_parseHold
set_option maxRecDepth 20000 in
theorem ggX11_parseStatement_X11_errs : GoodIn wsX11_parseStatement wsX11_errs := goodIn_r _ [76, 14, 8, 77, 10, 11, 12, 4, 13, 169, 170, 171, 172, 173, 174, 175, 176, 177, 178, 179, 180, 181, 182, 183, 184, 185, 186, 187, 188, 189, 190, 191, 192, 193, 194, 195, 196, 197, 198] rfl (by decide +kernel)
set_option maxRecDepth 20000 in
theorem gX11_parseStatement_X11_errs : GoodIn wsX11_parseStatement (wsV RX11 189 RX11 yX11_errs wsX11_errs) := goodIn_app (goodIn_of _ (by decide +kernel)) ggX11_parseStatement_X11_errs
set_option maxRecDepth 20000 in
theorem ggX11_parseStatement_X11_isSymbol : GoodIn wsX11_parseStatement wsX11_isSymbol := goodIn_r _ [160, 6, 90, 10, 11, 12, 4, 13, 14, 169, 170, 171, 172, 173, 174, 175, 176, 177, 178, 179, 180, 181, 182, 183, 184, 185, 186, 187, 188, 189, 190, 191, 192, 193, 194, 195, 196, 197, 198] rfl (by decide +kernel)
set_option maxRecDepth 20000 in
theorem gX11_parseStatement_X11_isSymbol : GoodIn wsX11_parseStatement (wsV RX11 235 RX11 yX11_isSymbol wsX11_isSymbol) := goodIn_app (goodIn_of _ (by decide +kernel)) ggX11_parseStatement_X11_isSymbol
set_option maxRecDepth 20000 in
theorem ggX11_parseStatement_X11_goOn : GoodIn wsX11_parseStatement wsX11_goOn := goodIn_r _ [81, 10, 11, 12, 4, 13, 14, 82, 83, 84, 85, 7, 8, 6, 86, 87, 88, 89, 90, 91, 92, 93, 94, 95, 96, 97, 98, 99, 100, 9, 101, 102, 103, 169, 170, 171, 172, 173, 174, 175, 176, 177, 178, 179, 180, 181, 182, 183, 184, 185, 186, 187, 188, 189, 190, 191, 192, 193, 194, 195, 196, 197, 198] rfl (by decide +kernel)
set_option maxRecDepth 20000 in
theorem gX11_parseStatement_X11_goOn : GoodIn wsX11_parseStatement (wsV RX11 192 RX11 yX11_goOn wsX11_goOn) := goodIn_app (goodIn_of _ (by decide +kernel)) ggX11_parseStatement_X11_goOn
set_option maxRecDepth 20000 in
theorem ggX11_load_X11_scan : GoodIn wsX11_load wsX11_scan := goodIn_r _ [15, 4, 16, 9, 17, 18, 19, 20, 21, 22, 23, 24, 25, 26, 27, 28, 29, 14, 30, 3, 31, 32, 33, 34, 187, 188, 189, 190, 191, 192, 193, 194, 195, 196, 197, 198, 199, 200, 201, 202, 203, 204, 205, 206, 207, 208, 209, 210, 211, 212, 213, 214, 215, 216] rfl (by decide +kernel)
set_option maxRecDepth 20000 in
theorem gX11_load_X11_scan : GoodIn wsX11_load (wsV RX11 142 RX11 yX11_scan wsX11_scan) := goodIn_app (goodIn_of _ (by decide +kernel)) ggX11_load_X11_scan
set_option maxRecDepth 20000 in
theorem ggX11_load_X11_word : GoodIn wsX11_load wsX11_word := goodIn_r _ [38, 39, 40, 41, 14, 42, 9, 4, 16, 31, 43, 44, 45, 46, 5, 47, 48, 49, 50, 51, 52, 53, 54, 55, 56, 57, 58, 59, 60, 61, 62, 63, 64, 65, 66, 67, 68, 69, 70, 71, 72, 73, 74, 75, 76, 77, 78, 79, 80, 81, 82, 83, 84, 85, 86, 87, 88, 89, 90, 91, 92, 93, 94, 95, 96, 97, 98, 99, 6, 100, 101, 102, 103, 11, 12, 13, 15, 17, 18, 19, 20, 21, 22, 23, 24, 25, 26, 27, 28, 29, 30, 3, 32, 33, 34, 187, 188, 189, 190, 191, 192, 193, 194, 195, 196, 197, 198, 199, 200, 201, 202, 203, 204, 205, 206, 207, 208, 209, 210, 211, 212, 213, 214, 215, 216] rfl (by decide +kernel)
set_option maxRecDepth 20000 in
theorem gX11_load_X11_word : GoodIn wsX11_load (wsV RX11 195 RX11 yX11_word wsX11_word) := goodIn_app (goodIn_of _ (by decide +kernel)) ggX11_load_X11_word
set_option maxRecDepth 20000 in
theorem ggX11_load_X11_numberAfter : GoodIn wsX11_load wsX11_numberAfter := goodIn_r _ [107, 35, 36, 37, 14, 38, 39, 40, 41, 42, 9, 4, 16, 31, 43, 44, 45, 46, 5, 47, 48, 49, 50, 51, 52, 53, 54, 55, 56, 57, 58, 59, 60, 61, 62, 63, 64, 65, 66, 67, 68, 69, 70, 71, 72, 73, 74, 75, 76, 77, 78, 79, 80, 81, 82, 83, 84, 85, 86, 87, 88, 89, 90, 91, 92, 93, 94, 95, 96, 97, 98, 99, 6, 100, 101, 102, 103, 11, 12, 13, 15, 17, 18, 19, 20, 21, 22, 23, 24, 25, 26, 27, 28, 29, 30, 3, 32, 33, 34, 108, 109, 110, 111, 187, 188, 189, 190, 191, 192, 193, 194, 195, 196, 197, 198, 199, 200, 201, 202, 203, 204, 205, 206, 207, 208, 209, 210, 211, 212, 213, 214, 215, 216] rfl (by decide +kernel)
set_option maxRecDepth 20000 in
theorem gX11_load_X11_numberAfter : GoodIn wsX11_load (wsV RX11 224 RX11 yX11_numberAfter wsX11_numberAfter) := goodIn_app (goodIn_of _ (by decide +kernel)) ggX11_load_X11_numberAfter
set_option maxRecDepth 20000 in
theorem ggX11_load_X11_isSymbol : GoodIn wsX11_load wsX11_isSymbol := goodIn_r _ [115, 9, 21, 43, 44, 45, 14, 46, 5, 187, 188, 189, 190, 191, 192, 193, 194, 195, 196, 197, 198, 199, 200, 201, 202, 203, 204, 205, 206, 207, 208, 209, 210, 211, 212, 213, 214, 215, 216] rfl (by decide +kernel)
set_option maxRecDepth 20000 in
theorem gX11_load_X11_isSymbol : GoodIn wsX11_load (wsV RX11 235 RX11 yX11_isSymbol wsX11_isSymbol) := goodIn_app (goodIn_of _ (by decide +kernel)) ggX11_load_X11_isSymbol
set_option maxRecDepth 20000 in
theorem ggX11_load_X11_errs : GoodIn wsX11_load wsX11_errs := goodIn_r _ [99, 5, 16, 6, 43, 44, 45, 14, 46, 187, 188, 189, 190, 191, 192, 193, 194, 195, 196, 197, 198, 199, 200, 201, 202, 203, 204, 205, 206, 207, 208, 209, 210, 211, 212, 213, 214, 215, 216] rfl (by decide +kernel)
set_option maxRecDepth 20000 in
theorem gX11_load_X11_errs : GoodIn wsX11_load (wsV RX11 189 RX11 yX11_errs wsX11_errs) := goodIn_app (goodIn_of _ (by decide +kernel)) ggX11_load_X11_errs
set_option maxRecDepth 20000 in
theorem ggX11_load_X11_goOn : GoodIn wsX11_load wsX11_goOn := goodIn_r _ [103, 43, 44, 45, 14, 46, 5, 11, 12, 13, 15, 4, 16, 9, 17, 18, 19, 20, 21, 22, 23, 24, 25, 26, 27, 28, 29, 30, 3, 31, 32, 33, 34, 187, 188, 189, 190, 191, 192, 193, 194, 195, 196, 197, 198, 199, 200, 201, 202, 203, 204, 205, 206, 207, 208, 209, 210, 211, 212, 213, 214, 215, 216] rfl (by decide +kernel)
set_option maxRecDepth 20000 in
theorem gX11_load_X11_goOn : GoodIn wsX11_load (wsV RX11 192 RX11 yX11_goOn wsX11_goOn) := goodIn_app (goodIn_of _ (by decide +kernel)) ggX11_load_X11_goOn
set_option maxRecDepth 20000 in
theorem ggX11_load_X11_good : GoodIn wsX11_load wsX11_good := goodIn_r _ [46, 5, 187, 188, 189, 190, 191, 192, 193, 194, 195, 196, 197, 198, 199, 200, 201, 202, 203, 204, 205, 206, 207, 208, 209, 210, 211, 212, 213, 214, 215, 216] rfl (by decide +kernel)
set_option maxRecDepth 20000 in
theorem gX11_load_X11_good : GoodIn wsX11_load (wsV RX11 105 RX11 yX11_good wsX11_good) := goodIn_app (goodIn_of _ (by decide +kernel)) ggX11_load_X11_good
set_option maxRecDepth 20000 in
theorem ggX11_load_X11_parseStatement : GoodIn wsX11_load wsX11_parseStatement := goodIn_r _ [119, 39, 40, 41, 14, 42, 9, 4, 16, 31, 43, 44, 45, 46, 5, 47, 48, 49, 50, 51, 52, 53, 54, 55, 56, 57, 58, 59, 60, 61, 62, 63, 64, 65, 66, 67, 68, 69, 70, 71, 72, 73, 74, 75, 76, 77, 78, 79, 80, 81, 82, 83, 84, 85, 86, 87, 88, 89, 90, 91, 92, 93, 94, 95, 120, 121, 122, 123, 8, 124, 125, 126, 127, 96, 97, 98, 99, 6, 100, 101, 102, 103, 11, 12, 13, 15, 17, 18, 19, 20, 21, 22, 23, 24, 25, 26, 27, 28, 29, 30, 3, 32, 33, 34, 128, 129, 130, 131, 132, 133, 134, 135, 136, 137, 138, 139, 140, 141, 142, 143, 144, 145, 146, 147, 148, 149, 150, 151, 35, 36, 37, 38, 108, 109, 110, 111, 104, 105, 106, 107, 152, 153, 154, 155, 156, 157, 158, 159, 160, 161, 162, 163, 164, 165, 166, 167, 168, 112, 113, 114, 115, 169, 170, 171, 172, 173, 174, 175, 176, 187, 188, 189, 190, 191, 192, 193, 194, 195, 196, 197, 198, 199, 200, 201, 202, 203, 204, 205, 206, 207, 208, 209, 210, 211, 212, 213, 214, 215, 216] rfl (by decide +kernel)
set_option maxRecDepth 20000 in
theorem gX11_load_X11_parseStatement : GoodIn wsX11_load (wsV RX11 253 RX11 yX11_parseStatement wsX11_parseStatement) := goodIn_app (goodIn_of _ (by decide +kernel)) ggX11_load_X11_parseStatement
set_option maxRecDepth 20000 in
theorem ggX11_load_X11_remember : GoodIn wsX11_load wsX11_remember := goodIn_r _ [180, 181, 182, 183, 10, 184, 185, 186, 187, 188, 189, 190, 191, 192, 193, 194, 195, 196, 197, 198, 199, 200, 201, 202, 203, 204, 205, 206, 207, 208, 209, 210, 211, 212, 213, 214, 215, 216] rfl (by decide +kernel)
set_option maxRecDepth 20000 in
theorem gX11_load_X11_remember : GoodIn wsX11_load (wsV RX11 256 RX11 yX11_remember wsX11_remember) := goodIn_app (goodIn_of _ (by decide +kernel)) ggX11_load_X11_remember
set_option maxRecDepth 20000 in
theorem ggX11_isInputWord_X11_in : GoodIn wsX11_isInputWord wsX11_in := goodIn_r _ [10] rfl (by decide +kernel)
set_option maxRecDepth 20000 in
theorem gX11_isInputWord_X11_in : GoodIn wsX11_isInputWord (va_wsS RX11 64 yX11_in wsX11_in) := goodIn_app (goodIn_of _ (by decide +kernel)) ggX11_isInputWord_X11_in
set_option maxRecDepth 20000 in
theorem ggX11_find_X11_in : GoodIn wsX11_find wsX11_in := goodIn_r _ [6] rfl (by decide +kernel)
set_option maxRecDepth 20000 in
theorem gX11_find_X11_in : GoodIn wsX11_find (va_wsS RX11 64 yX11_in wsX11_in) := goodIn_app (goodIn_of _ (by decide +kernel)) ggX11_find_X11_in
set_option maxRecDepth 20000 in
theorem ggX11_find_X11_passes : GoodIn wsX11_find wsX11_passes := goodIn_r _ [10, 11, 12, 13, 5, 14, 15, 38, 39, 40, 41, 42, 43, 44, 45, 46, 47, 48, 49, 50, 51, 52, 53, 54, 55, 56, 57, 58, 59, 60, 61, 62, 63, 64, 65, 66, 67] rfl (by decide +kernel)
set_option maxRecDepth 20000 in
theorem gX11_find_X11_passes : GoodIn wsX11_find (wsV RX11 94 RX11 yX11_passes wsX11_passes) := goodIn_app (goodIn_of _ (by decide +kernel)) ggX11_find_X11_passes
set_option maxRecDepth 20000 in
theorem ggX11_find_X11_isInputWord : GoodIn wsX11_find wsX11_isInputWord := goodIn_r _ [19, 20, 2, 21, 22, 23, 24, 3, 4, 5, 6, 38, 39, 40, 41, 42, 43, 44, 45, 46, 47, 48, 49, 50, 51, 52, 53, 54, 55, 56, 57, 58, 59, 60, 61, 62, 63, 64, 65, 66, 67] rfl (by decide +kernel)
set_option maxRecDepth 20000 in
theorem gX11_find_X11_isInputWord : GoodIn wsX11_find (wsV RX11 261 RX11 yX11_isInputWord wsX11_isInputWord) := goodIn_app (goodIn_of _ (by decide +kernel)) ggX11_find_X11_isInputWord
set_option maxRecDepth 20000 in
theorem ggX11_find_X11_kindNamed : GoodIn wsX11_find wsX11_kindNamed := goodIn_r _ [28, 29, 30, 31, 32, 5, 33, 21, 20, 34, 35, 36, 37, 22, 38, 39, 40, 41, 42, 43, 44, 45, 46, 47, 48, 49, 50, 51, 52, 53, 54, 55, 56, 57, 58, 59, 60, 61, 62, 63, 64, 65, 66, 67] rfl (by decide +kernel)
set_option maxRecDepth 20000 in
theorem gX11_find_X11_kindNamed : GoodIn wsX11_find (wsV RX11 214 RX11 yX11_kindNamed wsX11_kindNamed) := goodIn_app (goodIn_of _ (by decide +kernel)) ggX11_find_X11_kindNamed
set_option maxRecDepth 20000 in
theorem ggX11_count_X11_in : GoodIn wsX11_count wsX11_in := goodIn_r _ [6] rfl (by decide +kernel)
set_option maxRecDepth 20000 in
theorem gX11_count_X11_in : GoodIn wsX11_count (va_wsS RX11 64 yX11_in wsX11_in) := goodIn_app (goodIn_of _ (by decide +kernel)) ggX11_count_X11_in
set_option maxRecDepth 20000 in
theorem ggX11_count_X11_passes : GoodIn wsX11_count wsX11_passes := goodIn_r _ [10, 11, 12, 13, 5, 14, 15, 16, 17, 18, 19, 20, 21, 22, 23, 24, 25, 26, 27, 28, 29, 30, 31, 32, 33, 34, 35, 36, 37, 38, 39, 40, 41, 42, 43, 44, 45] rfl (by decide +kernel)
set_option maxRecDepth 20000 in
theorem gX11_count_X11_passes : GoodIn wsX11_count (wsV RX11 94 RX11 yX11_passes wsX11_passes) := goodIn_app (goodIn_of _ (by decide +kernel)) ggX11_count_X11_passes
set_option maxRecDepth 20000 in
theorem ggX11_members_X11_in : GoodIn wsX11_members wsX11_in := goodIn_r _ [5] rfl (by decide +kernel)
set_option maxRecDepth 20000 in
theorem gX11_members_X11_in : GoodIn wsX11_members (va_wsS RX11 64 yX11_in wsX11_in) := goodIn_app (goodIn_of _ (by decide +kernel)) ggX11_members_X11_in
set_option maxRecDepth 20000 in
theorem ggX11_members_X11_passes : GoodIn wsX11_members wsX11_passes := goodIn_r _ [9, 10, 11, 12, 4, 13, 14, 15, 16, 17, 18, 19, 20, 21, 22, 23, 24, 25, 26, 27, 28, 29, 30, 31, 32, 33, 34, 35, 36, 37, 38, 39, 40, 41, 42, 43, 44] rfl (by decide +kernel)
set_option maxRecDepth 20000 in
theorem gX11_members_X11_passes : GoodIn wsX11_members (wsV RX11 94 RX11 yX11_passes wsX11_passes) := goodIn_app (goodIn_of _ (by decide +kernel)) ggX11_members_X11_passes
set_option maxRecDepth 20000 in
theorem ggX11_retention_X11_isClass : GoodIn wsX11_retention wsX11_isClass := goodIn_r _ [6, 7, 8, 9, 5, 10, 24, 25, 26, 27, 28, 29, 30, 31, 32, 33, 34, 35, 36, 37, 38, 39, 40, 41, 42, 43, 44, 45, 46, 47, 48, 49, 50, 51, 52, 53] rfl (by decide +kernel)
set_option maxRecDepth 20000 in
theorem gX11_retention_X11_isClass : GoodIn wsX11_retention (wsV RX11 264 RX11 yX11_isClass wsX11_isClass) := goodIn_app (goodIn_of _ (by decide +kernel)) ggX11_retention_X11_isClass
set_option maxRecDepth 20000 in
theorem ggX11_retention_X11_in : GoodIn wsX11_retention wsX11_in := goodIn_r _ [10] rfl (by decide +kernel)
set_option maxRecDepth 20000 in
theorem gX11_retention_X11_in : GoodIn wsX11_retention (va_wsS RX11 64 yX11_in wsX11_in) := goodIn_app (goodIn_of _ (by decide +kernel)) ggX11_retention_X11_in
set_option maxRecDepth 20000 in
theorem ggX11_retention_X11_passes2 : GoodIn wsX11_retention wsX11_passes2 := goodIn_r _ [14, 15, 16, 17, 5, 18, 19, 24, 25, 26, 27, 28, 29, 30, 31, 32, 33, 34, 35, 36, 37, 38, 39, 40, 41, 42, 43, 44, 45, 46, 47, 48, 49, 50, 51, 52, 53] rfl (by decide +kernel)
set_option maxRecDepth 20000 in
theorem gX11_retention_X11_passes2 : GoodIn wsX11_retention (wsV RX11 267 RX11 yX11_passes2 wsX11_passes2) := goodIn_app (goodIn_of _ (by decide +kernel)) ggX11_retention_X11_passes2
set_option maxRecDepth 20000 in
theorem ggX11_retention_X11_classValue : GoodIn wsX11_retention wsX11_classValue := goodIn_r _ [23, 7, 24, 25, 26, 27, 28, 29, 30, 31, 32, 33, 34, 35, 36, 37, 38, 39, 40, 41, 42, 43, 44, 45, 46, 47, 48, 49, 50, 51, 52, 53] rfl (by decide +kernel)
set_option maxRecDepth 20000 in
theorem gX11_retention_X11_classValue : GoodIn wsX11_retention (wsV RX11 271 RX11 yX11_classValue wsX11_classValue) := goodIn_app (goodIn_of _ (by decide +kernel)) ggX11_retention_X11_classValue
set_option maxRecDepth 20000 in
theorem ggX11_ladder_X11_classValue : GoodIn wsX11_ladder wsX11_classValue := goodIn_r _ [5, 6, 7, 8, 9, 10, 11, 12, 13, 14, 15, 16, 17, 18, 19, 20, 21, 22, 23, 24, 25, 26, 27, 28, 29, 30, 31, 32, 33, 34, 35, 36] rfl (by decide +kernel)
set_option maxRecDepth 20000 in
theorem gX11_ladder_X11_classValue : GoodIn wsX11_ladder (wsV RX11 271 RX11 yX11_classValue wsX11_classValue) := goodIn_app (goodIn_of _ (by decide +kernel)) ggX11_ladder_X11_classValue
set_option maxRecDepth 20000 in
theorem ggX11_ladderDays_X11_isClass : GoodIn wsX11_ladderDays wsX11_isClass := goodIn_r _ [5, 6, 7, 8, 4, 9, 27, 28, 29, 30, 31, 32, 33, 34, 35, 36, 37, 38, 39, 40, 41, 42, 43, 44, 45, 46, 47, 48, 49, 50, 51, 52, 53, 54, 55, 56] rfl (by decide +kernel)
set_option maxRecDepth 20000 in
theorem gX11_ladderDays_X11_isClass : GoodIn wsX11_ladderDays (wsV RX11 264 RX11 yX11_isClass wsX11_isClass) := goodIn_app (goodIn_of _ (by decide +kernel)) ggX11_ladderDays_X11_isClass
set_option maxRecDepth 20000 in
theorem ggX11_ladderDays_X11_passes : GoodIn wsX11_ladderDays wsX11_passes := goodIn_r _ [13, 14, 15, 16, 4, 17, 18, 27, 28, 29, 30, 31, 32, 33, 34, 35, 36, 37, 38, 39, 40, 41, 42, 43, 44, 45, 46, 47, 48, 49, 50, 51, 52, 53, 54, 55, 56] rfl (by decide +kernel)
set_option maxRecDepth 20000 in
theorem gX11_ladderDays_X11_passes : GoodIn wsX11_ladderDays (wsV RX11 94 RX11 yX11_passes wsX11_passes) := goodIn_app (goodIn_of _ (by decide +kernel)) ggX11_ladderDays_X11_passes
set_option maxRecDepth 20000 in
theorem ggX11_ladderDays_X11_ladder : GoodIn wsX11_ladderDays wsX11_ladder := goodIn_r _ [22, 23, 24, 25, 4, 26, 6, 27, 28, 29, 30, 31, 32, 33, 34, 35, 36, 37, 38, 39, 40, 41, 42, 43, 44, 45, 46, 47, 48, 49, 50, 51, 52, 53, 54, 55, 56] rfl (by decide +kernel)
set_option maxRecDepth 20000 in
theorem gX11_ladderDays_X11_ladder : GoodIn wsX11_ladderDays (wsV RX11 274 RX11 yX11_ladder wsX11_ladder) := goodIn_app (goodIn_of _ (by decide +kernel)) ggX11_ladderDays_X11_ladder
set_option maxRecDepth 20000 in
theorem ggX11_isLetterIn_X11_partValue : GoodIn wsX11_isLetterIn wsX11_partValue := goodIn_r _ [7, 8, 17, 18, 19, 20, 21, 22, 23, 24, 25, 26, 27, 28, 29, 30, 31, 32, 33, 34, 35, 36, 37, 38, 39, 40, 41, 42, 43, 44, 45, 46] rfl (by decide +kernel)
set_option maxRecDepth 20000 in
theorem gX11_isLetterIn_X11_partValue : GoodIn wsX11_isLetterIn (wsV RX11 84 RX11 yX11_partValue wsX11_partValue) := goodIn_app (goodIn_of _ (by decide +kernel)) ggX11_isLetterIn_X11_partValue
set_option maxRecDepth 20000 in
theorem ggX11_isLetterIn_X11_partByteAt : GoodIn wsX11_isLetterIn wsX11_partByteAt := goodIn_r _ [12, 13, 17, 18, 19, 20, 21, 22, 23, 24, 25, 26, 27, 28, 29, 30, 31, 32, 33, 34, 35, 36, 37, 38, 39, 40, 41, 42, 43, 44, 45, 46] rfl (by decide +kernel)
set_option maxRecDepth 20000 in
theorem gX11_isLetterIn_X11_partByteAt : GoodIn wsX11_isLetterIn (wsV RX11 277 RX11 yX11_partByteAt wsX11_partByteAt) := goodIn_app (goodIn_of _ (by decide +kernel)) ggX11_isLetterIn_X11_partByteAt
set_option maxRecDepth 20000 in
theorem ggX11_isLetterIn_X11_in : GoodIn wsX11_isLetterIn wsX11_in := goodIn_r _ [16] rfl (by decide +kernel)
set_option maxRecDepth 20000 in
theorem gX11_isLetterIn_X11_in : GoodIn wsX11_isLetterIn (va_wsS RX11 64 yX11_in wsX11_in) := goodIn_app (goodIn_of _ (by decide +kernel)) ggX11_isLetterIn_X11_in
set_option maxRecDepth 20000 in
theorem ggX11_isWordAt_X11_isLetterIn : GoodIn wsX11_isWordAt wsX11_isLetterIn := goodIn_r _ [7, 8, 9, 10, 11, 12, 6, 13, 14, 15, 16, 17, 18, 19, 20, 21, 22, 23, 24, 25, 26, 27, 28, 29, 30, 31, 32, 33, 34, 35, 36, 37, 38, 39, 40, 41, 42, 43, 44, 45, 46, 47, 48, 49, 50, 51, 52] rfl (by decide +kernel)
set_option maxRecDepth 20000 in
theorem gX11_isWordAt_X11_isLetterIn : GoodIn wsX11_isWordAt (wsV RX11 280 RX11 yX11_isLetterIn wsX11_isLetterIn) := goodIn_app (goodIn_of _ (by decide +kernel)) ggX11_isWordAt_X11_isLetterIn
set_option maxRecDepth 20000 in
theorem ggX11_isWordAt_X11_partByteAt : GoodIn wsX11_isWordAt wsX11_partByteAt := goodIn_r _ [18, 19, 23, 24, 25, 26, 27, 28, 29, 30, 31, 32, 33, 34, 35, 36, 37, 38, 39, 40, 41, 42, 43, 44, 45, 46, 47, 48, 49, 50, 51, 52] rfl (by decide +kernel)
set_option maxRecDepth 20000 in
theorem gX11_isWordAt_X11_partByteAt : GoodIn wsX11_isWordAt (wsV RX11 277 RX11 yX11_partByteAt wsX11_partByteAt) := goodIn_app (goodIn_of _ (by decide +kernel)) ggX11_isWordAt_X11_partByteAt
set_option maxRecDepth 20000 in
theorem ggX11_contains_X11_messageValue : GoodIn wsX11_contains wsX11_messageValue := goodIn_r _ [6, 7, 31, 32, 33, 34, 35, 36, 37, 38, 39, 40, 41, 42, 43, 44, 45, 46, 47, 48, 49, 50, 51, 52, 53, 54, 55, 56, 57, 58, 59, 60] rfl (by decide +kernel)
set_option maxRecDepth 20000 in
theorem gX11_contains_X11_messageValue : GoodIn wsX11_contains (wsV RX11 287 RX11 yX11_messageValue wsX11_messageValue) := goodIn_app (goodIn_of _ (by decide +kernel)) ggX11_contains_X11_messageValue
set_option maxRecDepth 20000 in
theorem ggX11_contains_X11_partValue : GoodIn wsX11_contains wsX11_partValue := goodIn_r _ [11, 7, 31, 32, 33, 34, 35, 36, 37, 38, 39, 40, 41, 42, 43, 44, 45, 46, 47, 48, 49, 50, 51, 52, 53, 54, 55, 56, 57, 58, 59, 60] rfl (by decide +kernel)
set_option maxRecDepth 20000 in
theorem gX11_contains_X11_partValue : GoodIn wsX11_contains (wsV RX11 84 RX11 yX11_partValue wsX11_partValue) := goodIn_app (goodIn_of _ (by decide +kernel)) ggX11_contains_X11_partValue
set_option maxRecDepth 20000 in
theorem ggX11_contains_X11_isWordAt : GoodIn wsX11_contains wsX11_isWordAt := goodIn_r _ [15, 1, 16, 17, 18, 19, 5, 20, 21, 22, 8, 9, 10, 11, 7, 23, 24, 25, 26, 27, 28, 29, 30, 31, 32, 33, 34, 35, 36, 37, 38, 39, 40, 41, 42, 43, 44, 45, 46, 47, 48, 49, 50, 51, 52, 53, 54, 55, 56, 57, 58, 59, 60] rfl (by decide +kernel)
set_option maxRecDepth 20000 in
theorem gX11_contains_X11_isWordAt : GoodIn wsX11_contains (wsV RX11 290 RX11 yX11_isWordAt wsX11_isWordAt) := goodIn_app (goodIn_of _ (by decide +kernel)) ggX11_contains_X11_isWordAt
set_option maxRecDepth 20000 in
theorem ggX11_isCovered_X11_holdValue : GoodIn wsX11_isCovered wsX11_holdValue := goodIn_r _ [7, 8, 39, 40, 41, 42, 43, 44, 45, 46, 47, 48, 49, 50, 51, 52, 53, 54, 55, 56, 57, 58, 59, 60, 61, 62, 63, 64, 65, 66, 67, 68] rfl (by decide +kernel)
set_option maxRecDepth 20000 in
theorem gX11_isCovered_X11_holdValue : GoodIn wsX11_isCovered (wsV RX11 293 RX11 yX11_holdValue wsX11_holdValue) := goodIn_app (goodIn_of _ (by decide +kernel)) ggX11_isCovered_X11_holdValue
set_option maxRecDepth 20000 in
theorem ggX11_isCovered_X11_messageValue : GoodIn wsX11_isCovered wsX11_messageValue := goodIn_r _ [12, 8, 39, 40, 41, 42, 43, 44, 45, 46, 47, 48, 49, 50, 51, 52, 53, 54, 55, 56, 57, 58, 59, 60, 61, 62, 63, 64, 65, 66, 67, 68] rfl (by decide +kernel)
set_option maxRecDepth 20000 in
theorem gX11_isCovered_X11_messageValue : GoodIn wsX11_isCovered (wsV RX11 287 RX11 yX11_messageValue wsX11_messageValue) := goodIn_app (goodIn_of _ (by decide +kernel)) ggX11_isCovered_X11_messageValue
set_option maxRecDepth 20000 in
theorem ggX11_isCovered_X11_in : GoodIn wsX11_isCovered wsX11_in := goodIn_r _ [15] rfl (by decide +kernel)
set_option maxRecDepth 20000 in
theorem gX11_isCovered_X11_in : GoodIn wsX11_isCovered (va_wsS RX11 64 yX11_in wsX11_in) := goodIn_app (goodIn_of _ (by decide +kernel)) ggX11_isCovered_X11_in
set_option maxRecDepth 20000 in
theorem ggX11_isCovered_X11_contains : GoodIn wsX11_isCovered wsX11_contains := goodIn_r _ [19, 1, 9, 10, 11, 6, 12, 8, 20, 21, 22, 23, 24, 25, 26, 27, 2, 28, 29, 30, 31, 32, 33, 34, 35, 36, 37, 38, 13, 14, 15, 39, 40, 41, 42, 43, 44, 45, 46, 47, 48, 49, 50, 51, 52, 53, 54, 55, 56, 57, 58, 59, 60, 61, 62, 63, 64, 65, 66, 67, 68] rfl (by decide +kernel)
set_option maxRecDepth 20000 in
theorem gX11_isCovered_X11_contains : GoodIn wsX11_isCovered (wsV RX11 296 RX11 yX11_contains wsX11_contains) := goodIn_app (goodIn_of _ (by decide +kernel)) ggX11_isCovered_X11_contains
set_option maxRecDepth 20000 in
theorem ggX11_covers_X11_isCovered : GoodIn wsX11_covers wsX11_isCovered := goodIn_r _ [6, 7, 8, 9, 10, 11, 5, 12, 1, 13, 14, 15, 16, 17, 18, 19, 20, 21, 22, 23, 24, 25, 26, 27, 28, 29, 30, 31, 32, 33, 34, 35, 36, 37, 38, 39, 40, 41, 42, 43, 44, 45, 46, 47, 48, 49, 50, 51, 52, 53, 54, 55, 56, 57, 58, 59, 60, 61, 62, 63, 64, 65, 66, 67, 68, 69, 70, 71, 72] rfl (by decide +kernel)
set_option maxRecDepth 20000 in
theorem gX11_covers_X11_isCovered : GoodIn wsX11_covers (wsV RX11 299 RX11 yX11_isCovered wsX11_isCovered) := goodIn_app (goodIn_of _ (by decide +kernel)) ggX11_covers_X11_isCovered
set_option maxRecDepth 20000 in
theorem ggX11_isKeptMessage_X11_stateOf : GoodIn wsX11_isKeptMessage wsX11_stateOf := goodIn_r _ [7, 1, 8, 9, 6, 10, 14, 15, 16, 17, 18, 19, 20, 21, 22, 23, 24, 25, 26, 27, 28, 29, 30, 31, 32, 33, 34, 35, 36, 37, 38, 39, 40, 41, 42, 43] rfl (by decide +kernel)
set_option maxRecDepth 20000 in
theorem gX11_isKeptMessage_X11_stateOf : GoodIn wsX11_isKeptMessage (wsV RX11 79 RX11 yX11_stateOf wsX11_stateOf) := goodIn_app (goodIn_of _ (by decide +kernel)) ggX11_isKeptMessage_X11_stateOf
set_option maxRecDepth 20000 in
theorem ggX11_isKeptMessage_X11_in : GoodIn wsX11_isKeptMessage wsX11_in := goodIn_r _ [13] rfl (by decide +kernel)
set_option maxRecDepth 20000 in
theorem gX11_isKeptMessage_X11_in : GoodIn wsX11_isKeptMessage (va_wsS RX11 64 yX11_in wsX11_in) := goodIn_app (goodIn_of _ (by decide +kernel)) ggX11_isKeptMessage_X11_in
set_option maxRecDepth 20000 in
theorem ggX11_has_X11_messageValue : GoodIn wsX11_has wsX11_messageValue := goodIn_r _ [5, 6, 7, 8, 9, 10, 11, 12, 13, 14, 15, 16, 17, 18, 19, 20, 21, 22, 23, 24, 25, 26, 27, 28, 29, 30, 31, 32, 33, 34, 35, 36] rfl (by decide +kernel)
set_option maxRecDepth 20000 in
theorem gX11_has_X11_messageValue : GoodIn wsX11_has (wsV RX11 287 RX11 yX11_messageValue wsX11_messageValue) := goodIn_app (goodIn_of _ (by decide +kernel)) ggX11_has_X11_messageValue
set_option maxRecDepth 20000 in
theorem ggX11_keepers_X11_has : GoodIn wsX11_keepers wsX11_has := goodIn_r _ [6, 7, 8, 9, 5, 10, 1, 26, 27, 28, 29, 30, 31, 32, 33, 34, 35, 36, 37, 38, 39, 40, 41, 42, 43, 44, 45, 46, 47, 48, 49, 50, 51, 52, 53, 54, 55] rfl (by decide +kernel)
set_option maxRecDepth 20000 in
theorem gX11_keepers_X11_has : GoodIn wsX11_keepers (wsV RX11 303 RX11 yX11_has wsX11_has) := goodIn_app (goodIn_of _ (by decide +kernel)) ggX11_keepers_X11_has
set_option maxRecDepth 20000 in
theorem ggX11_keepers_X11_isKeptMessage : GoodIn wsX11_keepers wsX11_isKeptMessage := goodIn_r _ [14, 1, 15, 16, 17, 18, 5, 19, 20, 21, 22, 23, 24, 25, 26, 27, 28, 29, 30, 31, 32, 33, 34, 35, 36, 37, 38, 39, 40, 41, 42, 43, 44, 45, 46, 47, 48, 49, 50, 51, 52, 53, 54, 55] rfl (by decide +kernel)
set_option maxRecDepth 20000 in
theorem gX11_keepers_X11_isKeptMessage : GoodIn wsX11_keepers (wsV RX11 306 RX11 yX11_isKeptMessage wsX11_isKeptMessage) := goodIn_app (goodIn_of _ (by decide +kernel)) ggX11_keepers_X11_isKeptMessage
set_option maxRecDepth 20000 in
theorem ggX11_buryParts_X11_isKeptMessage : GoodIn wsX11_buryParts wsX11_isKeptMessage := goodIn_r _ [6, 1, 7, 8, 9, 10, 5, 11, 12, 13, 14, 15, 16, 17, 43, 44, 45, 46, 47, 48, 49, 50, 51, 52, 53, 54, 55, 56, 57, 58, 59, 60, 61, 62, 63, 64, 65, 66, 67, 68, 69, 70, 71, 72] rfl (by decide +kernel)
set_option maxRecDepth 20000 in
theorem gX11_buryParts_X11_isKeptMessage : GoodIn wsX11_buryParts (wsV RX11 306 RX11 yX11_isKeptMessage wsX11_isKeptMessage) := goodIn_app (goodIn_of _ (by decide +kernel)) ggX11_buryParts_X11_isKeptMessage
