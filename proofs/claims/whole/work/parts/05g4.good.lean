set_option maxRecDepth 20000 in
theorem ggX11_buryParts_X11_has : GoodIn wsX11_buryParts wsX11_has := goodIn_r _ [21, 22, 23, 24, 5, 25, 1, 43, 44, 45, 46, 47, 48, 49, 50, 51, 52, 53, 54, 55, 56, 57, 58, 59, 60, 61, 62, 63, 64, 65, 66, 67, 68, 69, 70, 71, 72] rfl (by decide +kernel)
set_option maxRecDepth 20000 in
theorem gX11_buryParts_X11_has : GoodIn wsX11_buryParts (wsV RX11 303 RX11 yX11_has wsX11_has) := goodIn_app (goodIn_of _ (by decide +kernel)) ggX11_buryParts_X11_has
set_option maxRecDepth 20000 in
theorem ggX11_buryParts_X11_isDead : GoodIn wsX11_buryParts wsX11_isDead := goodIn_r _ [29, 30, 31, 32, 5, 33, 1, 43, 44, 45, 46, 47, 48, 49, 50, 51, 52, 53, 54, 55, 56, 57, 58, 59, 60, 61, 62, 63, 64, 65, 66, 67, 68, 69, 70, 71, 72] rfl (by decide +kernel)
set_option maxRecDepth 20000 in
theorem gX11_buryParts_X11_isDead : GoodIn wsX11_buryParts (wsV RX11 309 RX11 yX11_isDead wsX11_isDead) := goodIn_app (goodIn_of _ (by decide +kernel)) ggX11_buryParts_X11_isDead
set_option maxRecDepth 20000 in
theorem ggX11_buryParts_X11_keepers : GoodIn wsX11_buryParts wsX11_keepers := goodIn_r _ [37, 1, 18, 19, 20, 5, 21, 22, 23, 24, 25, 2, 3, 4, 6, 7, 8, 9, 10, 11, 12, 13, 14, 15, 16, 17, 43, 44, 45, 46, 47, 48, 49, 50, 51, 52, 53, 54, 55, 56, 57, 58, 59, 60, 61, 62, 63, 64, 65, 66, 67, 68, 69, 70, 71, 72] rfl (by decide +kernel)
set_option maxRecDepth 20000 in
theorem gX11_buryParts_X11_keepers : GoodIn wsX11_buryParts (wsV RX11 312 RX11 yX11_keepers wsX11_keepers) := goodIn_app (goodIn_of _ (by decide +kernel)) ggX11_buryParts_X11_keepers
set_option maxRecDepth 20000 in
theorem ggX11_buryParts_X11_log : GoodIn wsX11_buryParts wsX11_log := goodIn_r _ [41, 42, 1, 43, 44, 45, 46, 47, 48, 49, 50, 51, 52, 53, 54, 55, 56, 57, 58, 59, 60, 61, 62, 63, 64, 65, 66, 67, 68, 69, 70, 71, 72] rfl (by decide +kernel)
set_option maxRecDepth 20000 in
theorem gX11_buryParts_X11_log : GoodIn wsX11_buryParts (wsV RX11 315 RX11 yX11_log wsX11_log) := goodIn_app (goodIn_of _ (by decide +kernel)) ggX11_buryParts_X11_log
set_option maxRecDepth 20000 in
theorem ggX11_ceases_X11_covers : GoodIn wsX11_ceases wsX11_covers := goodIn_r _ [6, 1, 7, 8, 9, 5, 10, 11, 12, 13, 14, 15, 16, 17, 18, 19, 20, 21, 22, 23, 24, 25, 26, 27, 28, 29, 30, 31, 32, 33, 34, 35, 36, 37, 38, 39, 40, 41, 42, 43, 44, 45, 46, 80, 81, 82, 83, 84, 85, 86, 87, 88, 89, 90, 91, 92, 93, 94, 95, 96, 97, 98, 99, 100, 101, 102, 103, 104, 105, 106, 107, 108, 109] rfl (by decide +kernel)
set_option maxRecDepth 20000 in
theorem gX11_ceases_X11_covers : GoodIn wsX11_ceases (wsV RX11 319 RX11 yX11_covers wsX11_covers) := goodIn_app (goodIn_of _ (by decide +kernel)) ggX11_ceases_X11_covers
set_option maxRecDepth 20000 in
theorem ggX11_ceases_X11_refAt : GoodIn wsX11_ceases wsX11_refAt := goodIn_r _ [49] rfl (by decide +kernel)
set_option maxRecDepth 20000 in
theorem gX11_ceases_X11_refAt : GoodIn wsX11_ceases (va_wsS RX11 68 yX11_refAt wsX11_refAt) := goodIn_app (goodIn_of _ (by decide +kernel)) ggX11_ceases_X11_refAt
set_option maxRecDepth 20000 in
theorem ggX11_ceases_X11_log : GoodIn wsX11_ceases wsX11_log := goodIn_r _ [53, 54, 1, 80, 81, 82, 83, 84, 85, 86, 87, 88, 89, 90, 91, 92, 93, 94, 95, 96, 97, 98, 99, 100, 101, 102, 103, 104, 105, 106, 107, 108, 109] rfl (by decide +kernel)
set_option maxRecDepth 20000 in
theorem gX11_ceases_X11_log : GoodIn wsX11_ceases (wsV RX11 315 RX11 yX11_log wsX11_log) := goodIn_app (goodIn_of _ (by decide +kernel)) ggX11_ceases_X11_log
set_option maxRecDepth 20000 in
theorem ggX11_ceases_X11_buryParts : GoodIn wsX11_ceases wsX11_buryParts := goodIn_r _ [58, 1, 59, 60, 61, 5, 62, 63, 64, 65, 66, 67, 47, 48, 49, 21, 22, 23, 68, 69, 70, 71, 17, 18, 19, 20, 72, 73, 74, 75, 28, 29, 30, 31, 76, 77, 78, 79, 50, 51, 52, 53, 54, 80, 81, 82, 83, 84, 85, 86, 87, 88, 89, 90, 91, 92, 93, 94, 95, 96, 97, 98, 99, 100, 101, 102, 103, 104, 105, 106, 107, 108, 109] rfl (by decide +kernel)
set_option maxRecDepth 20000 in
theorem gX11_ceases_X11_buryParts : GoodIn wsX11_ceases (wsV RX11 322 RX11 yX11_buryParts wsX11_buryParts) := goodIn_app (goodIn_of _ (by decide +kernel)) ggX11_ceases_X11_buryParts
set_option maxRecDepth 20000 in
theorem ggX11_ceases_X11_stateOf : GoodIn wsX11_ceases wsX11_stateOf := goodIn_r _ [67, 1, 47, 48, 5, 49, 80, 81, 82, 83, 84, 85, 86, 87, 88, 89, 90, 91, 92, 93, 94, 95, 96, 97, 98, 99, 100, 101, 102, 103, 104, 105, 106, 107, 108, 109] rfl (by decide +kernel)
set_option maxRecDepth 20000 in
theorem gX11_ceases_X11_stateOf : GoodIn wsX11_ceases (wsV RX11 79 RX11 yX11_stateOf wsX11_stateOf) := goodIn_app (goodIn_of _ (by decide +kernel)) ggX11_ceases_X11_stateOf
set_option maxRecDepth 20000 in
theorem ggX11_isContent_X11_cutInput : GoodIn wsX11_isContent wsX11_cutInput := goodIn_r _ [7, 1, 8, 9, 10, 18, 19, 20, 21, 22, 23, 24, 25, 26, 27, 28, 29, 30, 31, 32, 33, 34, 35, 36, 37, 38, 39, 40, 41, 42, 43, 44, 45, 46, 47] rfl (by decide +kernel)
set_option maxRecDepth 20000 in
theorem gX11_isContent_X11_cutInput : GoodIn wsX11_isContent (wsV RX11 328 RX11 yX11_cutInput wsX11_cutInput) := goodIn_app (goodIn_of _ (by decide +kernel)) ggX11_isContent_X11_cutInput
set_option maxRecDepth 20000 in
theorem ggX11_isContent_X11_lengthIn : GoodIn wsX11_isContent wsX11_lengthIn := goodIn_r _ [14, 8, 18, 19, 20, 21, 22, 23, 24, 25, 26, 27, 28, 29, 30, 31, 32, 33, 34, 35, 36, 37, 38, 39, 40, 41, 42, 43, 44, 45, 46, 47] rfl (by decide +kernel)
set_option maxRecDepth 20000 in
theorem gX11_isContent_X11_lengthIn : GoodIn wsX11_isContent (wsV RX11 331 RX11 yX11_lengthIn wsX11_lengthIn) := goodIn_app (goodIn_of _ (by decide +kernel)) ggX11_isContent_X11_lengthIn
set_option maxRecDepth 20000 in
theorem ggX11_isContent_X11_in : GoodIn wsX11_isContent wsX11_in := goodIn_r _ [17] rfl (by decide +kernel)
set_option maxRecDepth 20000 in
theorem gX11_isContent_X11_in : GoodIn wsX11_isContent (va_wsS RX11 64 yX11_in wsX11_in) := goodIn_app (goodIn_of _ (by decide +kernel)) ggX11_isContent_X11_in
set_option maxRecDepth 20000 in
theorem ggX11_storedLike_X11_isStored : GoodIn wsX11_storedLike wsX11_isStored := goodIn_r _ [8, 1, 9, 10, 7, 11, 12, 13, 14, 15, 25, 26, 27, 28, 29, 30, 31, 32, 33, 34, 35, 36, 37, 38, 39, 40, 41, 42, 43, 44, 45, 46, 47, 48, 49, 50, 51, 52, 53, 54] rfl (by decide +kernel)
set_option maxRecDepth 20000 in
theorem gX11_storedLike_X11_isStored : GoodIn wsX11_storedLike (wsV RX11 336 RX11 yX11_isStored wsX11_isStored) := goodIn_app (goodIn_of _ (by decide +kernel)) ggX11_storedLike_X11_isStored
set_option maxRecDepth 20000 in
theorem ggX11_storedLike_X11_partValue : GoodIn wsX11_storedLike wsX11_partValue := goodIn_r _ [15, 1, 25, 26, 27, 28, 29, 30, 31, 32, 33, 34, 35, 36, 37, 38, 39, 40, 41, 42, 43, 44, 45, 46, 47, 48, 49, 50, 51, 52, 53, 54] rfl (by decide +kernel)
set_option maxRecDepth 20000 in
theorem gX11_storedLike_X11_partValue : GoodIn wsX11_storedLike (wsV RX11 84 RX11 yX11_partValue wsX11_partValue) := goodIn_app (goodIn_of _ (by decide +kernel)) ggX11_storedLike_X11_partValue
set_option maxRecDepth 20000 in
theorem ggX11_storedLike_X11_lengthIn : GoodIn wsX11_storedLike wsX11_lengthIn := goodIn_r _ [19, 3, 25, 26, 27, 28, 29, 30, 31, 32, 33, 34, 35, 36, 37, 38, 39, 40, 41, 42, 43, 44, 45, 46, 47, 48, 49, 50, 51, 52, 53, 54] rfl (by decide +kernel)
set_option maxRecDepth 20000 in
theorem gX11_storedLike_X11_lengthIn : GoodIn wsX11_storedLike (wsV RX11 331 RX11 yX11_lengthIn wsX11_lengthIn) := goodIn_app (goodIn_of _ (by decide +kernel)) ggX11_storedLike_X11_lengthIn
set_option maxRecDepth 20000 in
theorem ggX11_storedLike_X11_partByteAt : GoodIn wsX11_storedLike wsX11_partByteAt := goodIn_r _ [23, 24, 25, 26, 27, 28, 29, 30, 31, 32, 33, 34, 35, 36, 37, 38, 39, 40, 41, 42, 43, 44, 45, 46, 47, 48, 49, 50, 51, 52, 53, 54] rfl (by decide +kernel)
set_option maxRecDepth 20000 in
theorem gX11_storedLike_X11_partByteAt : GoodIn wsX11_storedLike (wsV RX11 277 RX11 yX11_partByteAt wsX11_partByteAt) := goodIn_app (goodIn_of _ (by decide +kernel)) ggX11_storedLike_X11_partByteAt
set_option maxRecDepth 20000 in
theorem ggX11_areSame_X11_lengthIn : GoodIn wsX11_areSame wsX11_lengthIn := goodIn_r _ [7, 2, 8, 9, 10, 11, 12, 13, 14, 15, 16, 17, 18, 19, 20, 21, 22, 23, 24, 25, 26, 27, 28, 29, 30, 31, 32, 33, 34, 35, 36, 37] rfl (by decide +kernel)
set_option maxRecDepth 20000 in
theorem gX11_areSame_X11_lengthIn : GoodIn wsX11_areSame (wsV RX11 331 RX11 yX11_lengthIn wsX11_lengthIn) := goodIn_app (goodIn_of _ (by decide +kernel)) ggX11_areSame_X11_lengthIn
set_option maxRecDepth 20000 in
theorem ggX11_stored_X11_isStored : GoodIn wsX11_stored wsX11_isStored := goodIn_r _ [6, 1, 7, 8, 5, 9, 10, 11, 12, 13, 14, 15, 16, 17, 18, 19, 20, 21, 22, 23, 24, 25, 26, 27, 28, 29, 30, 31, 32, 33, 34, 35, 36, 37, 38, 39, 40, 41, 42, 43] rfl (by decide +kernel)
set_option maxRecDepth 20000 in
theorem gX11_stored_X11_isStored : GoodIn wsX11_stored (wsV RX11 336 RX11 yX11_isStored wsX11_isStored) := goodIn_app (goodIn_of _ (by decide +kernel)) ggX11_stored_X11_isStored
set_option maxRecDepth 20000 in
theorem ggX11_stored_X11_partValue : GoodIn wsX11_stored wsX11_partValue := goodIn_r _ [13, 1, 14, 15, 16, 17, 18, 19, 20, 21, 22, 23, 24, 25, 26, 27, 28, 29, 30, 31, 32, 33, 34, 35, 36, 37, 38, 39, 40, 41, 42, 43] rfl (by decide +kernel)
set_option maxRecDepth 20000 in
theorem gX11_stored_X11_partValue : GoodIn wsX11_stored (wsV RX11 84 RX11 yX11_partValue wsX11_partValue) := goodIn_app (goodIn_of _ (by decide +kernel)) ggX11_stored_X11_partValue
set_option maxRecDepth 20000 in
theorem ggX11_hasRoom_X11_stored : GoodIn wsX11_hasRoom wsX11_stored := goodIn_r _ [6, 7, 8, 9, 10, 5, 11, 12, 13, 14, 15, 16, 17, 18, 38, 39, 40, 41, 42, 43, 44, 45, 46, 47, 48, 49, 50, 51, 52, 53, 54, 55, 56, 57, 58, 59, 60, 61, 62, 63, 64, 65, 66, 67] rfl (by decide +kernel)
set_option maxRecDepth 20000 in
theorem gX11_hasRoom_X11_stored : GoodIn wsX11_hasRoom (wsV RX11 339 RX11 yX11_stored wsX11_stored) := goodIn_app (goodIn_of _ (by decide +kernel)) ggX11_hasRoom_X11_stored
set_option maxRecDepth 20000 in
theorem ggX11_hasRoom_X11_storedLike : GoodIn wsX11_hasRoom wsX11_storedLike := goodIn_r _ [22, 7, 23, 24, 8, 9, 10, 5, 11, 12, 13, 14, 15, 16, 17, 18, 25, 26, 27, 28, 29, 30, 31, 32, 33, 38, 39, 40, 41, 42, 43, 44, 45, 46, 47, 48, 49, 50, 51, 52, 53, 54, 55, 56, 57, 58, 59, 60, 61, 62, 63, 64, 65, 66, 67] rfl (by decide +kernel)
set_option maxRecDepth 20000 in
theorem gX11_hasRoom_X11_storedLike : GoodIn wsX11_hasRoom (wsV RX11 342 RX11 yX11_storedLike wsX11_storedLike) := goodIn_app (goodIn_of _ (by decide +kernel)) ggX11_hasRoom_X11_storedLike
set_option maxRecDepth 20000 in
theorem ggX11_hasRoom_X11_areSame : GoodIn wsX11_hasRoom wsX11_areSame := goodIn_r _ [37, 23, 24, 25, 26, 27, 5, 28, 38, 39, 40, 41, 42, 43, 44, 45, 46, 47, 48, 49, 50, 51, 52, 53, 54, 55, 56, 57, 58, 59, 60, 61, 62, 63, 64, 65, 66, 67] rfl (by decide +kernel)
set_option maxRecDepth 20000 in
theorem gX11_hasRoom_X11_areSame : GoodIn wsX11_hasRoom (wsV RX11 345 RX11 yX11_areSame wsX11_areSame) := goodIn_app (goodIn_of _ (by decide +kernel)) ggX11_hasRoom_X11_areSame
set_option maxRecDepth 20000 in
theorem ggX11_hasRoom_X11_lengthIn : GoodIn wsX11_hasRoom wsX11_lengthIn := goodIn_r _ [28, 24, 38, 39, 40, 41, 42, 43, 44, 45, 46, 47, 48, 49, 50, 51, 52, 53, 54, 55, 56, 57, 58, 59, 60, 61, 62, 63, 64, 65, 66, 67] rfl (by decide +kernel)
set_option maxRecDepth 20000 in
theorem gX11_hasRoom_X11_lengthIn : GoodIn wsX11_hasRoom (wsV RX11 331 RX11 yX11_lengthIn wsX11_lengthIn) := goodIn_app (goodIn_of _ (by decide +kernel)) ggX11_hasRoom_X11_lengthIn
set_option maxRecDepth 20000 in
theorem ggX11_sizeOf_X11_messageValue : GoodIn wsX11_sizeOf wsX11_messageValue := goodIn_r _ [5, 6, 11, 12, 13, 14, 15, 16, 17, 18, 19, 20, 21, 22, 23, 24, 25, 26, 27, 28, 29, 30, 31, 32, 33, 34, 35, 36, 37, 38, 39, 40] rfl (by decide +kernel)
set_option maxRecDepth 20000 in
theorem gX11_sizeOf_X11_messageValue : GoodIn wsX11_sizeOf (wsV RX11 287 RX11 yX11_messageValue wsX11_messageValue) := goodIn_app (goodIn_of _ (by decide +kernel)) ggX11_sizeOf_X11_messageValue
set_option maxRecDepth 20000 in
theorem ggX11_sizeOf_X11_partValue : GoodIn wsX11_sizeOf wsX11_partValue := goodIn_r _ [10, 6, 11, 12, 13, 14, 15, 16, 17, 18, 19, 20, 21, 22, 23, 24, 25, 26, 27, 28, 29, 30, 31, 32, 33, 34, 35, 36, 37, 38, 39, 40] rfl (by decide +kernel)
set_option maxRecDepth 20000 in
theorem gX11_sizeOf_X11_partValue : GoodIn wsX11_sizeOf (wsV RX11 84 RX11 yX11_partValue wsX11_partValue) := goodIn_app (goodIn_of _ (by decide +kernel)) ggX11_sizeOf_X11_partValue
set_option maxRecDepth 20000 in
theorem ggX11_usageOf_X11_isLive : GoodIn wsX11_usageOf wsX11_isLive := goodIn_r _ [6, 7, 8, 9, 5, 10, 1, 11, 12, 13, 26, 27, 28, 29, 30, 31, 32, 33, 34, 35, 36, 37, 38, 39, 40, 41, 42, 43, 44, 45, 46, 47, 48, 49, 50, 51, 52, 53, 54, 55] rfl (by decide +kernel)
set_option maxRecDepth 20000 in
theorem gX11_usageOf_X11_isLive : GoodIn wsX11_usageOf (wsV RX11 348 RX11 yX11_isLive wsX11_isLive) := goodIn_app (goodIn_of _ (by decide +kernel)) ggX11_usageOf_X11_isLive
set_option maxRecDepth 20000 in
theorem ggX11_usageOf_X11_sizeOf : GoodIn wsX11_usageOf wsX11_sizeOf := goodIn_r _ [17, 18, 19, 20, 5, 21, 1, 22, 23, 24, 25, 26, 27, 28, 29, 30, 31, 32, 33, 34, 35, 36, 37, 38, 39, 40, 41, 42, 43, 44, 45, 46, 47, 48, 49, 50, 51, 52, 53, 54, 55] rfl (by decide +kernel)
set_option maxRecDepth 20000 in
theorem gX11_usageOf_X11_sizeOf : GoodIn wsX11_usageOf (wsV RX11 351 RX11 yX11_sizeOf wsX11_sizeOf) := goodIn_app (goodIn_of _ (by decide +kernel)) ggX11_usageOf_X11_sizeOf
set_option maxRecDepth 20000 in
theorem ggX11_storePart_X11_lengthIn : GoodIn wsX11_storePart wsX11_lengthIn := goodIn_r _ [9, 4, 10, 11, 12, 13, 14, 15, 16, 17, 18, 19, 20, 21, 22, 23, 24, 25, 26, 27, 28, 29, 30, 31, 32, 33, 34, 35, 36, 37, 38, 39] rfl (by decide +kernel)
set_option maxRecDepth 20000 in
theorem gX11_storePart_X11_lengthIn : GoodIn wsX11_storePart (wsV RX11 331 RX11 yX11_lengthIn wsX11_lengthIn) := goodIn_app (goodIn_of _ (by decide +kernel)) ggX11_storePart_X11_lengthIn
set_option maxRecDepth 20000 in
theorem ggX11_storeParts_X11_storedLike : GoodIn wsX11_storeParts wsX11_storedLike := goodIn_r _ [7, 2, 8, 9, 10, 11, 12, 6, 13, 14, 15, 16, 17, 18, 19, 20, 21, 22, 23, 24, 25, 26, 27, 28, 29, 43, 44, 45, 46, 47, 48, 49, 50, 51, 52, 53, 54, 55, 56, 57, 58, 59, 60, 61, 62, 63, 64, 65, 66, 67, 68, 69, 70, 71, 72] rfl (by decide +kernel)
set_option maxRecDepth 20000 in
theorem gX11_storeParts_X11_storedLike : GoodIn wsX11_storeParts (wsV RX11 342 RX11 yX11_storedLike wsX11_storedLike) := goodIn_app (goodIn_of _ (by decide +kernel)) ggX11_storeParts_X11_storedLike
set_option maxRecDepth 20000 in
theorem ggX11_storeParts_X11_storePart : GoodIn wsX11_storeParts wsX11_storePart := goodIn_r _ [33, 2, 29, 8, 9, 21, 22, 23, 6, 24, 43, 44, 45, 46, 47, 48, 49, 50, 51, 52, 53, 54, 55, 56, 57, 58, 59, 60, 61, 62, 63, 64, 65, 66, 67, 68, 69, 70, 71, 72] rfl (by decide +kernel)
set_option maxRecDepth 20000 in
theorem gX11_storeParts_X11_storePart : GoodIn wsX11_storeParts (wsV RX11 354 RX11 yX11_storePart wsX11_storePart) := goodIn_app (goodIn_of _ (by decide +kernel)) ggX11_storeParts_X11_storePart
set_option maxRecDepth 20000 in
theorem ggX11_storeParts_X11_isDead : GoodIn wsX11_storeParts wsX11_isDead := goodIn_r _ [37, 17, 18, 19, 6, 20, 2, 43, 44, 45, 46, 47, 48, 49, 50, 51, 52, 53, 54, 55, 56, 57, 58, 59, 60, 61, 62, 63, 64, 65, 66, 67, 68, 69, 70, 71, 72] rfl (by decide +kernel)
set_option maxRecDepth 20000 in
theorem gX11_storeParts_X11_isDead : GoodIn wsX11_storeParts (wsV RX11 309 RX11 yX11_isDead wsX11_isDead) := goodIn_app (goodIn_of _ (by decide +kernel)) ggX11_storeParts_X11_isDead
set_option maxRecDepth 20000 in
theorem ggX11_storeParts_X11_log : GoodIn wsX11_storeParts wsX11_log := goodIn_r _ [41, 42, 2, 43, 44, 45, 46, 47, 48, 49, 50, 51, 52, 53, 54, 55, 56, 57, 58, 59, 60, 61, 62, 63, 64, 65, 66, 67, 68, 69, 70, 71, 72] rfl (by decide +kernel)
set_option maxRecDepth 20000 in
theorem gX11_storeParts_X11_log : GoodIn wsX11_storeParts (wsV RX11 315 RX11 yX11_log wsX11_log) := goodIn_app (goodIn_of _ (by decide +kernel)) ggX11_storeParts_X11_log
set_option maxRecDepth 20000 in
theorem ggX11_areUsers_X11_everyUser : GoodIn wsX11_areUsers wsX11_everyUser := goodIn_r _ [5, 6, 7, 8, 9, 10, 11, 12, 13, 14, 15, 16, 17, 18, 19, 20, 21, 22, 23, 24, 25, 26, 27, 28, 29, 30, 31, 32, 33, 34, 35, 36] rfl (by decide +kernel)
set_option maxRecDepth 20000 in
theorem gX11_areUsers_X11_everyUser : GoodIn wsX11_areUsers (wsV RX11 357 RX11 yX11_everyUser wsX11_everyUser) := goodIn_app (goodIn_of _ (by decide +kernel)) ggX11_areUsers_X11_everyUser
set_option maxRecDepth 20000 in
theorem ggX11_sizeIn_X11_lengthIn : GoodIn wsX11_sizeIn wsX11_lengthIn := goodIn_r _ [6, 7, 8, 9, 10, 11, 12, 13, 14, 15, 16, 17, 18, 19, 20, 21, 22, 23, 24, 25, 26, 27, 28, 29, 30, 31, 32, 33, 34, 35, 36, 37] rfl (by decide +kernel)
set_option maxRecDepth 20000 in
theorem gX11_sizeIn_X11_lengthIn : GoodIn wsX11_sizeIn (wsV RX11 331 RX11 yX11_lengthIn wsX11_lengthIn) := goodIn_app (goodIn_of _ (by decide +kernel)) ggX11_sizeIn_X11_lengthIn
set_option maxRecDepth 20000 in
theorem ggX11_deliver_X11_isUser : GoodIn wsX11_deliver wsX11_isUser := goodIn_r _ [7, 1, 8, 9, 6, 10, 133, 134, 135, 136, 137, 138, 139, 140, 141, 142, 143, 144, 145, 146, 147, 148, 149, 150, 151, 152, 153, 154, 155, 156, 157, 158, 159, 160, 161, 162] rfl (by decide +kernel)
set_option maxRecDepth 20000 in
theorem gX11_deliver_X11_isUser : GoodIn wsX11_deliver (wsV RX11 76 RX11 yX11_isUser wsX11_isUser) := goodIn_app (goodIn_of _ (by decide +kernel)) ggX11_deliver_X11_isUser
set_option maxRecDepth 20000 in
theorem ggX11_deliver_X11_areUsers : GoodIn wsX11_deliver wsX11_areUsers := goodIn_r _ [14, 15, 16, 17, 6, 18, 1, 133, 134, 135, 136, 137, 138, 139, 140, 141, 142, 143, 144, 145, 146, 147, 148, 149, 150, 151, 152, 153, 154, 155, 156, 157, 158, 159, 160, 161, 162] rfl (by decide +kernel)
set_option maxRecDepth 20000 in
theorem gX11_deliver_X11_areUsers : GoodIn wsX11_deliver (wsV RX11 360 RX11 yX11_areUsers wsX11_areUsers) := goodIn_app (goodIn_of _ (by decide +kernel)) ggX11_deliver_X11_areUsers
set_option maxRecDepth 20000 in
theorem ggX11_deliver_X11_isClass : GoodIn wsX11_deliver wsX11_isClass := goodIn_r _ [22, 1, 8, 9, 6, 10, 133, 134, 135, 136, 137, 138, 139, 140, 141, 142, 143, 144, 145, 146, 147, 148, 149, 150, 151, 152, 153, 154, 155, 156, 157, 158, 159, 160, 161, 162] rfl (by decide +kernel)
set_option maxRecDepth 20000 in
theorem gX11_deliver_X11_isClass : GoodIn wsX11_deliver (wsV RX11 264 RX11 yX11_isClass wsX11_isClass) := goodIn_app (goodIn_of _ (by decide +kernel)) ggX11_deliver_X11_isClass
set_option maxRecDepth 20000 in
theorem ggX11_deliver_X11_isContent : GoodIn wsX11_deliver wsX11_isContent := goodIn_r _ [26, 27, 28, 29, 30, 31, 6, 32, 33, 2, 34, 35, 36, 37, 38, 8, 9, 10, 133, 134, 135, 136, 137, 138, 139, 140, 141, 142, 143, 144, 145, 146, 147, 148, 149, 150, 151, 152, 153, 154, 155, 156, 157, 158, 159, 160, 161, 162] rfl (by decide +kernel)
set_option maxRecDepth 20000 in
theorem gX11_deliver_X11_isContent : GoodIn wsX11_deliver (wsV RX11 363 RX11 yX11_isContent wsX11_isContent) := goodIn_app (goodIn_of _ (by decide +kernel)) ggX11_deliver_X11_isContent
set_option maxRecDepth 20000 in
theorem ggX11_deliver_X11_hasRoom : GoodIn wsX11_deliver wsX11_hasRoom := goodIn_r _ [42, 27, 43, 44, 45, 6, 46, 1, 47, 48, 49, 50, 8, 9, 10, 51, 52, 53, 54, 55, 56, 57, 58, 34, 33, 35, 36, 37, 38, 59, 60, 61, 62, 63, 64, 65, 66, 67, 133, 134, 135, 136, 137, 138, 139, 140, 141, 142, 143, 144, 145, 146, 147, 148, 149, 150, 151, 152, 153, 154, 155, 156, 157, 158, 159, 160, 161, 162] rfl (by decide +kernel)
set_option maxRecDepth 20000 in
theorem gX11_deliver_X11_hasRoom : GoodIn wsX11_deliver (wsV RX11 366 RX11 yX11_hasRoom wsX11_hasRoom) := goodIn_app (goodIn_of _ (by decide +kernel)) ggX11_deliver_X11_hasRoom
set_option maxRecDepth 20000 in
theorem ggX11_deliver_X11_passes3 : GoodIn wsX11_deliver wsX11_passes3 := goodIn_r _ [71, 72, 133, 134, 135, 136, 137, 138, 139, 140, 141, 142, 143, 144, 145, 146, 147, 148, 149, 150, 151, 152, 153, 154, 155, 156, 157, 158, 159, 160, 161, 162] rfl (by decide +kernel)
set_option maxRecDepth 20000 in
theorem gX11_deliver_X11_passes3 : GoodIn wsX11_deliver (wsV RX11 7 RX11 yX11_passes3 wsX11_passes3) := goodIn_app (goodIn_of _ (by decide +kernel)) ggX11_deliver_X11_passes3
set_option maxRecDepth 20000 in
theorem ggX11_deliver_X11_remember : GoodIn wsX11_deliver wsX11_remember := goodIn_r _ [76, 77, 78, 79, 1, 80, 81, 63, 133, 134, 135, 136, 137, 138, 139, 140, 141, 142, 143, 144, 145, 146, 147, 148, 149, 150, 151, 152, 153, 154, 155, 156, 157, 158, 159, 160, 161, 162] rfl (by decide +kernel)
set_option maxRecDepth 20000 in
theorem gX11_deliver_X11_remember : GoodIn wsX11_deliver (wsV RX11 256 RX11 yX11_remember wsX11_remember) := goodIn_app (goodIn_of _ (by decide +kernel)) ggX11_deliver_X11_remember
set_option maxRecDepth 20000 in
theorem ggX11_deliver_X11_sizeIn : GoodIn wsX11_deliver wsX11_sizeIn := goodIn_r _ [85, 27, 35, 36, 37, 6, 38, 33, 133, 134, 135, 136, 137, 138, 139, 140, 141, 142, 143, 144, 145, 146, 147, 148, 149, 150, 151, 152, 153, 154, 155, 156, 157, 158, 159, 160, 161, 162] rfl (by decide +kernel)
set_option maxRecDepth 20000 in
theorem gX11_deliver_X11_sizeIn : GoodIn wsX11_deliver (wsV RX11 369 RX11 yX11_sizeIn wsX11_sizeIn) := goodIn_app (goodIn_of _ (by decide +kernel)) ggX11_deliver_X11_sizeIn
set_option maxRecDepth 20000 in
theorem ggX11_deliver_X11_hasBit : GoodIn wsX11_deliver wsX11_hasBit := goodIn_r _ [88] rfl (by decide +kernel)
set_option maxRecDepth 20000 in
theorem gX11_deliver_X11_hasBit : GoodIn wsX11_deliver (va_wsS RX11 372 yX11_hasBit wsX11_hasBit) := goodIn_app (goodIn_of _ (by decide +kernel)) ggX11_deliver_X11_hasBit
set_option maxRecDepth 20000 in
theorem ggX11_deliver_X11_usageOf : GoodIn wsX11_deliver wsX11_usageOf := goodIn_r _ [92, 1, 93, 94, 95, 6, 96, 97, 98, 99, 100, 101, 102, 103, 104, 105, 106, 107, 108, 109, 110, 111, 51, 52, 53, 54, 133, 134, 135, 136, 137, 138, 139, 140, 141, 142, 143, 144, 145, 146, 147, 148, 149, 150, 151, 152, 153, 154, 155, 156, 157, 158, 159, 160, 161, 162] rfl (by decide +kernel)
set_option maxRecDepth 20000 in
theorem gX11_deliver_X11_usageOf : GoodIn wsX11_deliver (wsV RX11 375 RX11 yX11_usageOf wsX11_usageOf) := goodIn_app (goodIn_of _ (by decide +kernel)) ggX11_deliver_X11_usageOf
set_option maxRecDepth 20000 in
theorem ggX11_deliver_X11_log : GoodIn wsX11_deliver wsX11_log := goodIn_r _ [115, 116, 1, 133, 134, 135, 136, 137, 138, 139, 140, 141, 142, 143, 144, 145, 146, 147, 148, 149, 150, 151, 152, 153, 154, 155, 156, 157, 158, 159, 160, 161, 162] rfl (by decide +kernel)
set_option maxRecDepth 20000 in
theorem gX11_deliver_X11_log : GoodIn wsX11_deliver (wsV RX11 315 RX11 yX11_log wsX11_log) := goodIn_app (goodIn_of _ (by decide +kernel)) ggX11_deliver_X11_log
set_option maxRecDepth 20000 in
theorem ggX11_deliver_X11_storeMessage : GoodIn wsX11_deliver wsX11_storeMessage := goodIn_r _ [120, 1, 27, 121, 122, 123, 6, 124, 55, 56, 57, 58, 34, 33, 47, 48, 49, 50, 8, 9, 10, 51, 52, 53, 54, 35, 36, 37, 38, 59, 60, 61, 62, 63, 125, 126, 127, 128, 129, 130, 131, 132, 112, 113, 114, 115, 116, 101, 102, 103, 86, 87, 88, 133, 134, 135, 136, 137, 138, 139, 140, 141, 142, 143, 144, 145, 146, 147, 148, 149, 150, 151, 152, 153, 154, 155, 156, 157, 158, 159, 160, 161, 162] rfl (by decide +kernel)
set_option maxRecDepth 20000 in
theorem gX11_deliver_X11_storeMessage : GoodIn wsX11_deliver (wsV RX11 378 RX11 yX11_storeMessage wsX11_storeMessage) := goodIn_app (goodIn_of _ (by decide +kernel)) ggX11_deliver_X11_storeMessage
set_option maxRecDepth 20000 in
theorem ggX11_storeMessage_X11_storeParts : GoodIn wsX11_storeMessage wsX11_storeParts := goodIn_r _ [7, 2, 1, 8, 9, 10, 6, 11, 12, 13, 14, 15, 16, 17, 18, 19, 20, 21, 22, 23, 24, 25, 26, 27, 28, 29, 30, 31, 32, 33, 34, 35, 36, 37, 38, 39, 40, 41, 42, 43, 44, 45, 46, 53, 54, 55, 56, 57, 58, 59, 60, 61, 62, 63, 64, 65, 66, 67, 68, 69, 70, 71, 72, 73, 74, 75, 76, 77, 78, 79, 80, 81, 82] rfl (by decide +kernel)
set_option maxRecDepth 20000 in
theorem gX11_storeMessage_X11_storeParts : GoodIn wsX11_storeMessage (wsV RX11 382 RX11 yX11_storeParts wsX11_storeParts) := goodIn_app (goodIn_of _ (by decide +kernel)) ggX11_storeMessage_X11_storeParts
set_option maxRecDepth 20000 in
theorem ggX11_storeMessage_X11_refAt : GoodIn wsX11_storeMessage wsX11_refAt := goodIn_r _ [49] rfl (by decide +kernel)
set_option maxRecDepth 20000 in
theorem gX11_storeMessage_X11_refAt : GoodIn wsX11_storeMessage (va_wsS RX11 68 yX11_refAt wsX11_refAt) := goodIn_app (goodIn_of _ (by decide +kernel)) ggX11_storeMessage_X11_refAt
set_option maxRecDepth 20000 in
theorem ggX11_storeMessage_X11_hasBit : GoodIn wsX11_storeMessage wsX11_hasBit := goodIn_r _ [52] rfl (by decide +kernel)
set_option maxRecDepth 20000 in
theorem gX11_storeMessage_X11_hasBit : GoodIn wsX11_storeMessage (va_wsS RX11 372 yX11_hasBit wsX11_hasBit) := goodIn_app (goodIn_of _ (by decide +kernel)) ggX11_storeMessage_X11_hasBit
set_option maxRecDepth 20000 in
theorem ggX11_storeMessage_X11_log : GoodIn wsX11_storeMessage wsX11_log := goodIn_r _ [45, 46, 1, 53, 54, 55, 56, 57, 58, 59, 60, 61, 62, 63, 64, 65, 66, 67, 68, 69, 70, 71, 72, 73, 74, 75, 76, 77, 78, 79, 80, 81, 82] rfl (by decide +kernel)
set_option maxRecDepth 20000 in
theorem gX11_storeMessage_X11_log : GoodIn wsX11_storeMessage (wsV RX11 315 RX11 yX11_log wsX11_log) := goodIn_app (goodIn_of _ (by decide +kernel)) ggX11_storeMessage_X11_log
set_option maxRecDepth 20000 in
theorem ggX11_message_X11_isMessage : GoodIn wsX11_message wsX11_isMessage := goodIn_r _ [6, 7, 8, 9, 5, 10, 44, 45, 46, 47, 48, 49, 50, 51, 52, 53, 54, 55, 56, 57, 58, 59, 60, 61, 62, 63, 64, 65, 66, 67, 68, 69, 70, 71, 72, 73] rfl (by decide +kernel)
set_option maxRecDepth 20000 in
theorem gX11_message_X11_isMessage : GoodIn wsX11_message (wsV RX11 72 RX11 yX11_isMessage wsX11_isMessage) := goodIn_app (goodIn_of _ (by decide +kernel)) ggX11_message_X11_isMessage
set_option maxRecDepth 20000 in
theorem ggX11_message_X11_in : GoodIn wsX11_message wsX11_in := goodIn_r _ [10] rfl (by decide +kernel)
set_option maxRecDepth 20000 in
theorem gX11_message_X11_in : GoodIn wsX11_message (va_wsS RX11 64 yX11_in wsX11_in) := goodIn_app (goodIn_of _ (by decide +kernel)) ggX11_message_X11_in
set_option maxRecDepth 20000 in
theorem ggX11_message_X11_passes2 : GoodIn wsX11_message wsX11_passes2 := goodIn_r _ [14, 15, 16, 17, 5, 18, 19, 44, 45, 46, 47, 48, 49, 50, 51, 52, 53, 54, 55, 56, 57, 58, 59, 60, 61, 62, 63, 64, 65, 66, 67, 68, 69, 70, 71, 72, 73] rfl (by decide +kernel)
set_option maxRecDepth 20000 in
theorem gX11_message_X11_passes2 : GoodIn wsX11_message (wsV RX11 267 RX11 yX11_passes2 wsX11_passes2) := goodIn_app (goodIn_of _ (by decide +kernel)) ggX11_message_X11_passes2
set_option maxRecDepth 20000 in
theorem ggX11_message_X11_messageValue : GoodIn wsX11_message wsX11_messageValue := goodIn_r _ [23, 7, 44, 45, 46, 47, 48, 49, 50, 51, 52, 53, 54, 55, 56, 57, 58, 59, 60, 61, 62, 63, 64, 65, 66, 67, 68, 69, 70, 71, 72, 73] rfl (by decide +kernel)
set_option maxRecDepth 20000 in
theorem gX11_message_X11_messageValue : GoodIn wsX11_message (wsV RX11 287 RX11 yX11_messageValue wsX11_messageValue) := goodIn_app (goodIn_of _ (by decide +kernel)) ggX11_message_X11_messageValue
set_option maxRecDepth 20000 in
theorem ggX11_message_X11_sizeOf : GoodIn wsX11_message wsX11_sizeOf := goodIn_r _ [27, 20, 21, 22, 5, 23, 7, 28, 29, 30, 31, 44, 45, 46, 47, 48, 49, 50, 51, 52, 53, 54, 55, 56, 57, 58, 59, 60, 61, 62, 63, 64, 65, 66, 67, 68, 69, 70, 71, 72, 73] rfl (by decide +kernel)
set_option maxRecDepth 20000 in
theorem gX11_message_X11_sizeOf : GoodIn wsX11_message (wsV RX11 351 RX11 yX11_sizeOf wsX11_sizeOf) := goodIn_app (goodIn_of _ (by decide +kernel)) ggX11_message_X11_sizeOf
set_option maxRecDepth 20000 in
theorem ggX11_message_X11_isKeptMessage : GoodIn wsX11_message wsX11_isKeptMessage := goodIn_r _ [35, 7, 36, 37, 38, 39, 5, 40, 41, 42, 43, 8, 9, 10, 44, 45, 46, 47, 48, 49, 50, 51, 52, 53, 54, 55, 56, 57, 58, 59, 60, 61, 62, 63, 64, 65, 66, 67, 68, 69, 70, 71, 72, 73] rfl (by decide +kernel)
set_option maxRecDepth 20000 in
theorem gX11_message_X11_isKeptMessage : GoodIn wsX11_message (wsV RX11 306 RX11 yX11_isKeptMessage wsX11_isKeptMessage) := goodIn_app (goodIn_of _ (by decide +kernel)) ggX11_message_X11_isKeptMessage
set_option maxRecDepth 20000 in
theorem ggX11_partOf_X11_isMessage : GoodIn wsX11_partOf wsX11_isMessage := goodIn_r _ [5, 6, 7, 8, 4, 9, 23, 24, 25, 26, 27, 28, 29, 30, 31, 32, 33, 34, 35, 36, 37, 38, 39, 40, 41, 42, 43, 44, 45, 46, 47, 48, 49, 50, 51, 52] rfl (by decide +kernel)
set_option maxRecDepth 20000 in
theorem gX11_partOf_X11_isMessage : GoodIn wsX11_partOf (wsV RX11 72 RX11 yX11_isMessage wsX11_isMessage) := goodIn_app (goodIn_of _ (by decide +kernel)) ggX11_partOf_X11_isMessage
set_option maxRecDepth 20000 in
theorem ggX11_partOf_X11_messageValue : GoodIn wsX11_partOf wsX11_messageValue := goodIn_r _ [13, 6, 23, 24, 25, 26, 27, 28, 29, 30, 31, 32, 33, 34, 35, 36, 37, 38, 39, 40, 41, 42, 43, 44, 45, 46, 47, 48, 49, 50, 51, 52] rfl (by decide +kernel)
set_option maxRecDepth 20000 in
theorem gX11_partOf_X11_messageValue : GoodIn wsX11_partOf (wsV RX11 287 RX11 yX11_messageValue wsX11_messageValue) := goodIn_app (goodIn_of _ (by decide +kernel)) ggX11_partOf_X11_messageValue
set_option maxRecDepth 20000 in
theorem ggX11_partOf_X11_in : GoodIn wsX11_partOf wsX11_in := goodIn_r _ [9] rfl (by decide +kernel)
set_option maxRecDepth 20000 in
theorem gX11_partOf_X11_in : GoodIn wsX11_partOf (va_wsS RX11 64 yX11_in wsX11_in) := goodIn_app (goodIn_of _ (by decide +kernel)) ggX11_partOf_X11_in
set_option maxRecDepth 20000 in
theorem ggX11_partOf_X11_passes : GoodIn wsX11_partOf wsX11_passes := goodIn_r _ [17, 18, 19, 20, 4, 21, 22, 23, 24, 25, 26, 27, 28, 29, 30, 31, 32, 33, 34, 35, 36, 37, 38, 39, 40, 41, 42, 43, 44, 45, 46, 47, 48, 49, 50, 51, 52] rfl (by decide +kernel)
set_option maxRecDepth 20000 in
theorem gX11_partOf_X11_passes : GoodIn wsX11_partOf (wsV RX11 94 RX11 yX11_passes wsX11_passes) := goodIn_app (goodIn_of _ (by decide +kernel)) ggX11_partOf_X11_passes
set_option maxRecDepth 20000 in
theorem ggX11_readers_X11_isMessage : GoodIn wsX11_readers wsX11_isMessage := goodIn_r _ [6, 1, 7, 8, 5, 9, 30, 31, 32, 33, 34, 35, 36, 37, 38, 39, 40, 41, 42, 43, 44, 45, 46, 47, 48, 49, 50, 51, 52, 53, 54, 55, 56, 57, 58, 59] rfl (by decide +kernel)
set_option maxRecDepth 20000 in
theorem gX11_readers_X11_isMessage : GoodIn wsX11_readers (wsV RX11 72 RX11 yX11_isMessage wsX11_isMessage) := goodIn_app (goodIn_of _ (by decide +kernel)) ggX11_readers_X11_isMessage
set_option maxRecDepth 20000 in
theorem ggX11_readers_X11_passes : GoodIn wsX11_readers wsX11_passes := goodIn_r _ [13, 14, 15, 16, 5, 17, 18, 30, 31, 32, 33, 34, 35, 36, 37, 38, 39, 40, 41, 42, 43, 44, 45, 46, 47, 48, 49, 50, 51, 52, 53, 54, 55, 56, 57, 58, 59] rfl (by decide +kernel)
set_option maxRecDepth 20000 in
theorem gX11_readers_X11_passes : GoodIn wsX11_readers (wsV RX11 94 RX11 yX11_passes wsX11_passes) := goodIn_app (goodIn_of _ (by decide +kernel)) ggX11_readers_X11_passes
set_option maxRecDepth 20000 in
theorem ggX11_readers_X11_isLive : GoodIn wsX11_readers wsX11_isLive := goodIn_r _ [22, 23, 24, 25, 5, 26, 1, 27, 28, 29, 30, 31, 32, 33, 34, 35, 36, 37, 38, 39, 40, 41, 42, 43, 44, 45, 46, 47, 48, 49, 50, 51, 52, 53, 54, 55, 56, 57, 58, 59] rfl (by decide +kernel)
set_option maxRecDepth 20000 in
theorem gX11_readers_X11_isLive : GoodIn wsX11_readers (wsV RX11 348 RX11 yX11_isLive wsX11_isLive) := goodIn_app (goodIn_of _ (by decide +kernel)) ggX11_readers_X11_isLive
set_option maxRecDepth 20000 in
theorem ggX11_hidden_X11_isMessage : GoodIn wsX11_hidden wsX11_isMessage := goodIn_r _ [6, 1, 7, 8, 5, 9, 31, 32, 33, 34, 35, 36, 37, 38, 39, 40, 41, 42, 43, 44, 45, 46, 47, 48, 49, 50, 51, 52, 53, 54, 55, 56, 57, 58, 59, 60] rfl (by decide +kernel)
set_option maxRecDepth 20000 in
theorem gX11_hidden_X11_isMessage : GoodIn wsX11_hidden (wsV RX11 72 RX11 yX11_isMessage wsX11_isMessage) := goodIn_app (goodIn_of _ (by decide +kernel)) ggX11_hidden_X11_isMessage
set_option maxRecDepth 20000 in
theorem ggX11_hidden_X11_passes : GoodIn wsX11_hidden wsX11_passes := goodIn_r _ [13, 14, 15, 16, 5, 17, 18, 31, 32, 33, 34, 35, 36, 37, 38, 39, 40, 41, 42, 43, 44, 45, 46, 47, 48, 49, 50, 51, 52, 53, 54, 55, 56, 57, 58, 59, 60] rfl (by decide +kernel)
set_option maxRecDepth 20000 in
theorem gX11_hidden_X11_passes : GoodIn wsX11_hidden (wsV RX11 94 RX11 yX11_passes wsX11_passes) := goodIn_app (goodIn_of _ (by decide +kernel)) ggX11_hidden_X11_passes
set_option maxRecDepth 20000 in
theorem ggX11_hidden_X11_isHidden : GoodIn wsX11_hidden wsX11_isHidden := goodIn_r _ [22, 23, 24, 25, 26, 5, 27, 1, 28, 29, 30, 7, 8, 9, 31, 32, 33, 34, 35, 36, 37, 38, 39, 40, 41, 42, 43, 44, 45, 46, 47, 48, 49, 50, 51, 52, 53, 54, 55, 56, 57, 58, 59, 60] rfl (by decide +kernel)
set_option maxRecDepth 20000 in
theorem gX11_hidden_X11_isHidden : GoodIn wsX11_hidden (wsV RX11 387 RX11 yX11_isHidden wsX11_isHidden) := goodIn_app (goodIn_of _ (by decide +kernel)) ggX11_hidden_X11_isHidden
set_option maxRecDepth 20000 in
theorem ggX11_refValue_X11_isRef : GoodIn wsX11_refValue wsX11_isRef := goodIn_r _ [6, 7, 8, 9, 5, 10, 1, 11, 12, 13, 14, 15, 16, 17, 18, 19, 20, 21, 22, 23, 24, 34, 35, 36, 37, 38, 39, 40, 41, 42, 43, 44, 45, 46, 47, 48, 49, 50, 51, 52, 53, 54, 55, 56, 57, 58, 59, 60, 61, 62, 63] rfl (by decide +kernel)
set_option maxRecDepth 20000 in
theorem gX11_refValue_X11_isRef : GoodIn wsX11_refValue (wsV RX11 390 RX11 yX11_isRef wsX11_isRef) := goodIn_app (goodIn_of _ (by decide +kernel)) ggX11_refValue_X11_isRef
set_option maxRecDepth 20000 in
theorem ggX11_refValue_X11_passes : GoodIn wsX11_refValue wsX11_passes := goodIn_r _ [28, 29, 30, 31, 5, 32, 33, 34, 35, 36, 37, 38, 39, 40, 41, 42, 43, 44, 45, 46, 47, 48, 49, 50, 51, 52, 53, 54, 55, 56, 57, 58, 59, 60, 61, 62, 63] rfl (by decide +kernel)
set_option maxRecDepth 20000 in
theorem gX11_refValue_X11_passes : GoodIn wsX11_refValue (wsV RX11 94 RX11 yX11_passes wsX11_passes) := goodIn_app (goodIn_of _ (by decide +kernel)) ggX11_refValue_X11_passes
set_option maxRecDepth 20000 in
theorem ggX11_refValue_X11_refAt : GoodIn wsX11_refValue wsX11_refAt := goodIn_r _ [24] rfl (by decide +kernel)
set_option maxRecDepth 20000 in
theorem gX11_refValue_X11_refAt : GoodIn wsX11_refValue (va_wsS RX11 68 yX11_refAt wsX11_refAt) := goodIn_app (goodIn_of _ (by decide +kernel)) ggX11_refValue_X11_refAt
set_option maxRecDepth 20000 in
theorem ggX11_state_X11_refValue : GoodIn wsX11_state wsX11_refValue := goodIn_r _ [5, 6, 7, 8, 9, 4, 10, 11, 12, 13, 14, 15, 16, 17, 18, 19, 20, 21, 22, 23, 24, 25, 26, 27, 28, 29, 30, 31, 32, 33, 34, 35, 36, 37, 38, 39, 40, 41, 42, 43, 44, 45, 46, 47, 48, 49, 50, 51, 52, 53, 54, 55, 56, 57, 58, 59, 60, 61, 62, 63, 64, 65, 66, 67] rfl (by decide +kernel)
set_option maxRecDepth 20000 in
theorem gX11_state_X11_refValue : GoodIn wsX11_state (wsV RX11 393 RX11 yX11_refValue wsX11_refValue) := goodIn_app (goodIn_of _ (by decide +kernel)) ggX11_state_X11_refValue
set_option maxRecDepth 20000 in
theorem ggX11_classOf_X11_refValue : GoodIn wsX11_classOf wsX11_refValue := goodIn_r _ [5, 6, 7, 8, 9, 4, 10, 11, 12, 13, 14, 15, 16, 17, 18, 19, 20, 21, 22, 23, 24, 25, 26, 27, 28, 29, 30, 31, 32, 33, 34, 35, 36, 37, 38, 39, 40, 41, 42, 43, 44, 45, 46, 47, 48, 49, 50, 51, 52, 53, 54, 55, 56, 57, 58, 59, 60, 61, 62, 63, 64, 65, 66, 67] rfl (by decide +kernel)
set_option maxRecDepth 20000 in
theorem gX11_classOf_X11_refValue : GoodIn wsX11_classOf (wsV RX11 393 RX11 yX11_refValue wsX11_refValue) := goodIn_app (goodIn_of _ (by decide +kernel)) ggX11_classOf_X11_refValue
set_option maxRecDepth 20000 in
theorem ggX11_enteredOn_X11_refValue : GoodIn wsX11_enteredOn wsX11_refValue := goodIn_r _ [5, 6, 7, 8, 9, 4, 10, 11, 12, 13, 14, 15, 16, 17, 18, 19, 20, 21, 22, 23, 24, 25, 26, 27, 28, 29, 30, 31, 32, 33, 34, 35, 36, 37, 38, 39, 40, 41, 42, 43, 44, 45, 46, 47, 48, 49, 50, 51, 52, 53, 54, 55, 56, 57, 58, 59, 60, 61, 62, 63, 64, 65, 66, 67] rfl (by decide +kernel)
set_option maxRecDepth 20000 in
theorem gX11_enteredOn_X11_refValue : GoodIn wsX11_enteredOn (wsV RX11 393 RX11 yX11_refValue wsX11_refValue) := goodIn_app (goodIn_of _ (by decide +kernel)) ggX11_enteredOn_X11_refValue
set_option maxRecDepth 20000 in
theorem ggX11_expiresOn_X11_isRef : GoodIn wsX11_expiresOn wsX11_isRef := goodIn_r _ [10, 11, 12, 13, 9, 14, 1, 15, 16, 17, 18, 19, 20, 21, 22, 23, 24, 25, 26, 27, 28, 50, 51, 52, 53, 54, 55, 56, 57, 58, 59, 60, 61, 62, 63, 64, 65, 66, 67, 68, 69, 70, 71, 72, 73, 74, 75, 76, 77, 78, 79] rfl (by decide +kernel)
set_option maxRecDepth 20000 in
theorem gX11_expiresOn_X11_isRef : GoodIn wsX11_expiresOn (wsV RX11 390 RX11 yX11_isRef wsX11_isRef) := goodIn_app (goodIn_of _ (by decide +kernel)) ggX11_expiresOn_X11_isRef
set_option maxRecDepth 20000 in
theorem ggX11_expiresOn_X11_passes : GoodIn wsX11_expiresOn wsX11_passes := goodIn_r _ [32, 33, 34, 35, 9, 36, 37, 50, 51, 52, 53, 54, 55, 56, 57, 58, 59, 60, 61, 62, 63, 64, 65, 66, 67, 68, 69, 70, 71, 72, 73, 74, 75, 76, 77, 78, 79] rfl (by decide +kernel)
set_option maxRecDepth 20000 in
theorem gX11_expiresOn_X11_passes : GoodIn wsX11_expiresOn (wsV RX11 94 RX11 yX11_passes wsX11_passes) := goodIn_app (goodIn_of _ (by decide +kernel)) ggX11_expiresOn_X11_passes
set_option maxRecDepth 20000 in
theorem ggX11_expiresOn_X11_refAt : GoodIn wsX11_expiresOn wsX11_refAt := goodIn_r _ [28] rfl (by decide +kernel)
set_option maxRecDepth 20000 in
theorem gX11_expiresOn_X11_refAt : GoodIn wsX11_expiresOn (va_wsS RX11 68 yX11_refAt wsX11_refAt) := goodIn_app (goodIn_of _ (by decide +kernel)) ggX11_expiresOn_X11_refAt
set_option maxRecDepth 20000 in
theorem ggX11_expiresOn_X11_isLive : GoodIn wsX11_expiresOn wsX11_isLive := goodIn_r _ [41, 22, 23, 24, 9, 25, 1, 26, 27, 28, 50, 51, 52, 53, 54, 55, 56, 57, 58, 59, 60, 61, 62, 63, 64, 65, 66, 67, 68, 69, 70, 71, 72, 73, 74, 75, 76, 77, 78, 79] rfl (by decide +kernel)
set_option maxRecDepth 20000 in
theorem gX11_expiresOn_X11_isLive : GoodIn wsX11_expiresOn (wsV RX11 348 RX11 yX11_isLive wsX11_isLive) := goodIn_app (goodIn_of _ (by decide +kernel)) ggX11_expiresOn_X11_isLive
set_option maxRecDepth 20000 in
theorem ggX11_expiresOn_X11_ladder : GoodIn wsX11_expiresOn wsX11_ladder := goodIn_r _ [45, 46, 47, 48, 9, 49, 1, 50, 51, 52, 53, 54, 55, 56, 57, 58, 59, 60, 61, 62, 63, 64, 65, 66, 67, 68, 69, 70, 71, 72, 73, 74, 75, 76, 77, 78, 79] rfl (by decide +kernel)
set_option maxRecDepth 20000 in
theorem gX11_expiresOn_X11_ladder : GoodIn wsX11_expiresOn (wsV RX11 274 RX11 yX11_ladder wsX11_ladder) := goodIn_app (goodIn_of _ (by decide +kernel)) ggX11_expiresOn_X11_ladder
set_option maxRecDepth 20000 in
theorem ggX11_expiresOn_X11_classValue : GoodIn wsX11_expiresOn wsX11_classValue := goodIn_r _ [49, 1, 50, 51, 52, 53, 54, 55, 56, 57, 58, 59, 60, 61, 62, 63, 64, 65, 66, 67, 68, 69, 70, 71, 72, 73, 74, 75, 76, 77, 78, 79] rfl (by decide +kernel)
set_option maxRecDepth 20000 in
theorem gX11_expiresOn_X11_classValue : GoodIn wsX11_expiresOn (wsV RX11 271 RX11 yX11_classValue wsX11_classValue) := goodIn_app (goodIn_of _ (by decide +kernel)) ggX11_expiresOn_X11_classValue
set_option maxRecDepth 20000 in
theorem ggX11_isKeptRef_X11_refAt : GoodIn wsX11_isKeptRef wsX11_refAt := goodIn_r _ [5] rfl (by decide +kernel)
set_option maxRecDepth 20000 in
theorem gX11_isKeptRef_X11_refAt : GoodIn wsX11_isKeptRef (va_wsS RX11 68 yX11_refAt wsX11_refAt) := goodIn_app (goodIn_of _ (by decide +kernel)) ggX11_isKeptRef_X11_refAt
set_option maxRecDepth 20000 in
theorem ggX11_isKeptRef_X11_isLive : GoodIn wsX11_isKeptRef wsX11_isLive := goodIn_r _ [9, 10, 11, 12, 4, 13, 1, 2, 3, 5, 18, 19, 20, 21, 22, 23, 24, 25, 26, 27, 28, 29, 30, 31, 32, 33, 34, 35, 36, 37, 38, 39, 40, 41, 42, 43, 44, 45, 46, 47] rfl (by decide +kernel)
set_option maxRecDepth 20000 in
theorem gX11_isKeptRef_X11_isLive : GoodIn wsX11_isKeptRef (wsV RX11 348 RX11 yX11_isLive wsX11_isLive) := goodIn_app (goodIn_of _ (by decide +kernel)) ggX11_isKeptRef_X11_isLive
set_option maxRecDepth 20000 in
theorem ggX11_isKeptRef_X11_classValue : GoodIn wsX11_isKeptRef wsX11_classValue := goodIn_r _ [17, 1, 18, 19, 20, 21, 22, 23, 24, 25, 26, 27, 28, 29, 30, 31, 32, 33, 34, 35, 36, 37, 38, 39, 40, 41, 42, 43, 44, 45, 46, 47] rfl (by decide +kernel)
set_option maxRecDepth 20000 in
theorem gX11_isKeptRef_X11_classValue : GoodIn wsX11_isKeptRef (wsV RX11 271 RX11 yX11_classValue wsX11_classValue) := goodIn_app (goodIn_of _ (by decide +kernel)) ggX11_isKeptRef_X11_classValue
set_option maxRecDepth 20000 in
theorem ggX11_isKept_X11_isRef : GoodIn wsX11_isKept wsX11_isRef := goodIn_r _ [5, 6, 7, 8, 4, 9, 10, 11, 12, 13, 14, 15, 16, 17, 18, 19, 20, 21, 22, 23, 24, 46, 47, 48, 49, 50, 51, 52, 53, 54, 55, 56, 57, 58, 59, 60, 61, 62, 63, 64, 65, 66, 67, 68, 69, 70, 71, 72, 73, 74, 75] rfl (by decide +kernel)
set_option maxRecDepth 20000 in
theorem gX11_isKept_X11_isRef : GoodIn wsX11_isKept (wsV RX11 390 RX11 yX11_isRef wsX11_isRef) := goodIn_app (goodIn_of _ (by decide +kernel)) ggX11_isKept_X11_isRef
set_option maxRecDepth 20000 in
theorem ggX11_isKept_X11_passes : GoodIn wsX11_isKept wsX11_passes := goodIn_r _ [28, 29, 30, 31, 4, 32, 33, 46, 47, 48, 49, 50, 51, 52, 53, 54, 55, 56, 57, 58, 59, 60, 61, 62, 63, 64, 65, 66, 67, 68, 69, 70, 71, 72, 73, 74, 75] rfl (by decide +kernel)
set_option maxRecDepth 20000 in
theorem gX11_isKept_X11_passes : GoodIn wsX11_isKept (wsV RX11 94 RX11 yX11_passes wsX11_passes) := goodIn_app (goodIn_of _ (by decide +kernel)) ggX11_isKept_X11_passes
set_option maxRecDepth 20000 in
theorem ggX11_isKept_X11_isLive : GoodIn wsX11_isKept wsX11_isLive := goodIn_r _ [37, 18, 19, 20, 4, 21, 10, 22, 23, 24, 46, 47, 48, 49, 50, 51, 52, 53, 54, 55, 56, 57, 58, 59, 60, 61, 62, 63, 64, 65, 66, 67, 68, 69, 70, 71, 72, 73, 74, 75] rfl (by decide +kernel)
set_option maxRecDepth 20000 in
theorem gX11_isKept_X11_isLive : GoodIn wsX11_isKept (wsV RX11 348 RX11 yX11_isLive wsX11_isLive) := goodIn_app (goodIn_of _ (by decide +kernel)) ggX11_isKept_X11_isLive
set_option maxRecDepth 20000 in
theorem ggX11_isKept_X11_isKeptRef : GoodIn wsX11_isKept wsX11_isKeptRef := goodIn_r _ [41, 10, 22, 23, 4, 24, 34, 35, 36, 37, 18, 19, 20, 21, 42, 43, 44, 45, 46, 47, 48, 49, 50, 51, 52, 53, 54, 55, 56, 57, 58, 59, 60, 61, 62, 63, 64, 65, 66, 67, 68, 69, 70, 71, 72, 73, 74, 75] rfl (by decide +kernel)
set_option maxRecDepth 20000 in
theorem gX11_isKept_X11_isKeptRef : GoodIn wsX11_isKept (wsV RX11 400 RX11 yX11_isKeptRef wsX11_isKeptRef) := goodIn_app (goodIn_of _ (by decide +kernel)) ggX11_isKept_X11_isKeptRef
set_option maxRecDepth 20000 in
theorem ggX11_holdsOn_X11_isRef : GoodIn wsX11_holdsOn wsX11_isRef := goodIn_r _ [5, 6, 7, 8, 4, 9, 10, 11, 12, 13, 14, 15, 16, 17, 18, 19, 20, 21, 22, 23, 24, 75, 76, 77, 78, 79, 80, 81, 82, 83, 84, 85, 86, 87, 88, 89, 90, 91, 92, 93, 94, 95, 96, 97, 98, 99, 100, 101, 102, 103, 104] rfl (by decide +kernel)
set_option maxRecDepth 20000 in
theorem gX11_holdsOn_X11_isRef : GoodIn wsX11_holdsOn (wsV RX11 390 RX11 yX11_isRef wsX11_isRef) := goodIn_app (goodIn_of _ (by decide +kernel)) ggX11_holdsOn_X11_isRef
set_option maxRecDepth 20000 in
theorem ggX11_holdsOn_X11_passes : GoodIn wsX11_holdsOn wsX11_passes := goodIn_r _ [28, 29, 30, 31, 4, 32, 33, 75, 76, 77, 78, 79, 80, 81, 82, 83, 84, 85, 86, 87, 88, 89, 90, 91, 92, 93, 94, 95, 96, 97, 98, 99, 100, 101, 102, 103, 104] rfl (by decide +kernel)
set_option maxRecDepth 20000 in
theorem gX11_holdsOn_X11_passes : GoodIn wsX11_holdsOn (wsV RX11 94 RX11 yX11_passes wsX11_passes) := goodIn_app (goodIn_of _ (by decide +kernel)) ggX11_holdsOn_X11_passes
set_option maxRecDepth 20000 in
theorem ggX11_holdsOn_X11_covers : GoodIn wsX11_holdsOn wsX11_covers := goodIn_r _ [37, 10, 38, 39, 40, 4, 41, 42, 43, 44, 45, 46, 47, 48, 49, 50, 51, 11, 12, 13, 52, 53, 54, 55, 56, 57, 58, 59, 60, 61, 62, 63, 64, 65, 66, 67, 68, 69, 70, 71, 72, 73, 74, 75, 76, 77, 78, 79, 80, 81, 82, 83, 84, 85, 86, 87, 88, 89, 90, 91, 92, 93, 94, 95, 96, 97, 98, 99, 100, 101, 102, 103, 104] rfl (by decide +kernel)
set_option maxRecDepth 20000 in
theorem gX11_holdsOn_X11_covers : GoodIn wsX11_holdsOn (wsV RX11 319 RX11 yX11_covers wsX11_covers) := goodIn_app (goodIn_of _ (by decide +kernel)) ggX11_holdsOn_X11_covers
set_option maxRecDepth 20000 in
theorem ggX11_storedParts_X11_isStored : GoodIn wsX11_storedParts wsX11_isStored := goodIn_r _ [7, 2, 8, 9, 6, 10, 11, 12, 13, 14, 15, 16, 17, 18, 19, 20, 21, 22, 23, 24, 25, 26, 27, 28, 29, 30, 31, 32, 33, 34, 35, 36, 37, 38, 39, 40, 41, 42, 43, 44] rfl (by decide +kernel)
set_option maxRecDepth 20000 in
theorem gX11_storedParts_X11_isStored : GoodIn wsX11_storedParts (wsV RX11 336 RX11 yX11_isStored wsX11_isStored) := goodIn_app (goodIn_of _ (by decide +kernel)) ggX11_storedParts_X11_isStored
set_option maxRecDepth 20000 in
theorem ggX11_storedPart_X11_isStored : GoodIn wsX11_storedPart wsX11_isStored := goodIn_r _ [7, 1, 8, 9, 6, 10, 11, 12, 13, 14, 15, 16, 17, 18, 19, 20, 21, 22, 23, 24, 25, 26, 27, 28, 29, 30, 31, 32, 33, 34, 35, 36, 37, 38, 39, 40, 41, 42, 43, 44] rfl (by decide +kernel)
set_option maxRecDepth 20000 in
theorem gX11_storedPart_X11_isStored : GoodIn wsX11_storedPart (wsV RX11 336 RX11 yX11_isStored wsX11_isStored) := goodIn_app (goodIn_of _ (by decide +kernel)) ggX11_storedPart_X11_isStored
set_option maxRecDepth 20000 in
theorem ggX11_firstWith_X11_has : GoodIn wsX11_firstWith wsX11_has := goodIn_r _ [5, 6, 7, 8, 4, 9, 10, 11, 12, 13, 14, 15, 16, 17, 18, 19, 20, 21, 22, 23, 24, 25, 26, 27, 28, 29, 30, 31, 32, 33, 34, 35, 36, 37, 38, 39, 40] rfl (by decide +kernel)
set_option maxRecDepth 20000 in
theorem gX11_firstWith_X11_has : GoodIn wsX11_firstWith (wsV RX11 303 RX11 yX11_has wsX11_has) := goodIn_app (goodIn_of _ (by decide +kernel)) ggX11_firstWith_X11_has
set_option maxRecDepth 20000 in
theorem ggX11_part_X11_isStored : GoodIn wsX11_part wsX11_isStored := goodIn_r _ [6, 7, 8, 9, 5, 10, 11, 12, 13, 14, 52, 53, 54, 55, 56, 57, 58, 59, 60, 61, 62, 63, 64, 65, 66, 67, 68, 69, 70, 71, 72, 73, 74, 75, 76, 77, 78, 79, 80, 81] rfl (by decide +kernel)
set_option maxRecDepth 20000 in
theorem gX11_part_X11_isStored : GoodIn wsX11_part (wsV RX11 336 RX11 yX11_isStored wsX11_isStored) := goodIn_app (goodIn_of _ (by decide +kernel)) ggX11_part_X11_isStored
set_option maxRecDepth 20000 in
theorem ggX11_part_X11_in : GoodIn wsX11_part wsX11_in := goodIn_r _ [10] rfl (by decide +kernel)
set_option maxRecDepth 20000 in
theorem gX11_part_X11_in : GoodIn wsX11_part (va_wsS RX11 64 yX11_in wsX11_in) := goodIn_app (goodIn_of _ (by decide +kernel)) ggX11_part_X11_in
set_option maxRecDepth 20000 in
theorem ggX11_part_X11_passes2 : GoodIn wsX11_part wsX11_passes2 := goodIn_r _ [18, 19, 20, 21, 5, 22, 23, 52, 53, 54, 55, 56, 57, 58, 59, 60, 61, 62, 63, 64, 65, 66, 67, 68, 69, 70, 71, 72, 73, 74, 75, 76, 77, 78, 79, 80, 81] rfl (by decide +kernel)
set_option maxRecDepth 20000 in
theorem gX11_part_X11_passes2 : GoodIn wsX11_part (wsV RX11 267 RX11 yX11_passes2 wsX11_passes2) := goodIn_app (goodIn_of _ (by decide +kernel)) ggX11_part_X11_passes2
set_option maxRecDepth 20000 in
theorem ggX11_part_X11_partValue : GoodIn wsX11_part wsX11_partValue := goodIn_r _ [14, 7, 52, 53, 54, 55, 56, 57, 58, 59, 60, 61, 62, 63, 64, 65, 66, 67, 68, 69, 70, 71, 72, 73, 74, 75, 76, 77, 78, 79, 80, 81] rfl (by decide +kernel)
set_option maxRecDepth 20000 in
theorem gX11_part_X11_partValue : GoodIn wsX11_part (wsV RX11 84 RX11 yX11_partValue wsX11_partValue) := goodIn_app (goodIn_of _ (by decide +kernel)) ggX11_part_X11_partValue
set_option maxRecDepth 20000 in
theorem ggX11_part_X11_keepers : GoodIn wsX11_part wsX11_keepers := goodIn_r _ [27, 7, 28, 29, 30, 5, 31, 32, 33, 34, 35, 36, 37, 38, 39, 40, 41, 42, 43, 44, 45, 46, 47, 8, 9, 10, 52, 53, 54, 55, 56, 57, 58, 59, 60, 61, 62, 63, 64, 65, 66, 67, 68, 69, 70, 71, 72, 73, 74, 75, 76, 77, 78, 79, 80, 81] rfl (by decide +kernel)
set_option maxRecDepth 20000 in
theorem gX11_part_X11_keepers : GoodIn wsX11_part (wsV RX11 312 RX11 yX11_keepers wsX11_keepers) := goodIn_app (goodIn_of _ (by decide +kernel)) ggX11_part_X11_keepers
set_option maxRecDepth 20000 in
theorem ggX11_part_X11_firstWith : GoodIn wsX11_part wsX11_firstWith := goodIn_r _ [51, 28, 29, 30, 5, 31, 32, 33, 34, 35, 7, 52, 53, 54, 55, 56, 57, 58, 59, 60, 61, 62, 63, 64, 65, 66, 67, 68, 69, 70, 71, 72, 73, 74, 75, 76, 77, 78, 79, 80, 81] rfl (by decide +kernel)
set_option maxRecDepth 20000 in
theorem gX11_part_X11_firstWith : GoodIn wsX11_part (wsV RX11 403 RX11 yX11_firstWith wsX11_firstWith) := goodIn_app (goodIn_of _ (by decide +kernel)) ggX11_part_X11_firstWith
set_option maxRecDepth 20000 in
theorem ggX11_partByte_X11_isStored : GoodIn wsX11_partByte wsX11_isStored := goodIn_r _ [5, 6, 7, 8, 4, 9, 10, 11, 12, 13, 28, 29, 30, 31, 32, 33, 34, 35, 36, 37, 38, 39, 40, 41, 42, 43, 44, 45, 46, 47, 48, 49, 50, 51, 52, 53, 54, 55, 56, 57] rfl (by decide +kernel)
set_option maxRecDepth 20000 in
theorem gX11_partByte_X11_isStored : GoodIn wsX11_partByte (wsV RX11 336 RX11 yX11_isStored wsX11_isStored) := goodIn_app (goodIn_of _ (by decide +kernel)) ggX11_partByte_X11_isStored
set_option maxRecDepth 20000 in
theorem ggX11_partByte_X11_partValue : GoodIn wsX11_partByte wsX11_partValue := goodIn_r _ [13, 6, 28, 29, 30, 31, 32, 33, 34, 35, 36, 37, 38, 39, 40, 41, 42, 43, 44, 45, 46, 47, 48, 49, 50, 51, 52, 53, 54, 55, 56, 57] rfl (by decide +kernel)
set_option maxRecDepth 20000 in
theorem gX11_partByte_X11_partValue : GoodIn wsX11_partByte (wsV RX11 84 RX11 yX11_partValue wsX11_partValue) := goodIn_app (goodIn_of _ (by decide +kernel)) ggX11_partByte_X11_partValue
set_option maxRecDepth 20000 in
theorem ggX11_partByte_X11_in : GoodIn wsX11_partByte wsX11_in := goodIn_r _ [9] rfl (by decide +kernel)
set_option maxRecDepth 20000 in
theorem gX11_partByte_X11_in : GoodIn wsX11_partByte (va_wsS RX11 64 yX11_in wsX11_in) := goodIn_app (goodIn_of _ (by decide +kernel)) ggX11_partByte_X11_in
set_option maxRecDepth 20000 in
theorem ggX11_partByte_X11_passes2 : GoodIn wsX11_partByte wsX11_passes2 := goodIn_r _ [17, 18, 19, 20, 4, 21, 22, 28, 29, 30, 31, 32, 33, 34, 35, 36, 37, 38, 39, 40, 41, 42, 43, 44, 45, 46, 47, 48, 49, 50, 51, 52, 53, 54, 55, 56, 57] rfl (by decide +kernel)
set_option maxRecDepth 20000 in
theorem gX11_partByte_X11_passes2 : GoodIn wsX11_partByte (wsV RX11 267 RX11 yX11_passes2 wsX11_passes2) := goodIn_app (goodIn_of _ (by decide +kernel)) ggX11_partByte_X11_passes2
set_option maxRecDepth 20000 in
theorem ggX11_partByte_X11_partByteAt : GoodIn wsX11_partByte wsX11_partByteAt := goodIn_r _ [26, 27, 28, 29, 30, 31, 32, 33, 34, 35, 36, 37, 38, 39, 40, 41, 42, 43, 44, 45, 46, 47, 48, 49, 50, 51, 52, 53, 54, 55, 56, 57] rfl (by decide +kernel)
set_option maxRecDepth 20000 in
theorem gX11_partByte_X11_partByteAt : GoodIn wsX11_partByte (wsV RX11 277 RX11 yX11_partByteAt wsX11_partByteAt) := goodIn_app (goodIn_of _ (by decide +kernel)) ggX11_partByte_X11_partByteAt
set_option maxRecDepth 20000 in
theorem ggX11_digest_X11_isStored : GoodIn wsX11_digest wsX11_isStored := goodIn_r _ [7, 8, 9, 10, 6, 11, 12, 13, 14, 15, 30, 31, 32, 33, 34, 35, 36, 37, 38, 39, 40, 41, 42, 43, 44, 45, 46, 47, 48, 49, 50, 51, 52, 53, 54, 55, 56, 57, 58, 59] rfl (by decide +kernel)
set_option maxRecDepth 20000 in
theorem gX11_digest_X11_isStored : GoodIn wsX11_digest (wsV RX11 336 RX11 yX11_isStored wsX11_isStored) := goodIn_app (goodIn_of _ (by decide +kernel)) ggX11_digest_X11_isStored
set_option maxRecDepth 20000 in
theorem ggX11_digest_X11_passes : GoodIn wsX11_digest wsX11_passes := goodIn_r _ [19, 20, 21, 22, 6, 23, 24, 30, 31, 32, 33, 34, 35, 36, 37, 38, 39, 40, 41, 42, 43, 44, 45, 46, 47, 48, 49, 50, 51, 52, 53, 54, 55, 56, 57, 58, 59] rfl (by decide +kernel)
set_option maxRecDepth 20000 in
theorem gX11_digest_X11_passes : GoodIn wsX11_digest (wsV RX11 94 RX11 yX11_passes wsX11_passes) := goodIn_app (goodIn_of _ (by decide +kernel)) ggX11_digest_X11_passes
set_option maxRecDepth 20000 in
theorem ggX11_digest_X11_partValue : GoodIn wsX11_digest wsX11_partValue := goodIn_r _ [15, 8, 30, 31, 32, 33, 34, 35, 36, 37, 38, 39, 40, 41, 42, 43, 44, 45, 46, 47, 48, 49, 50, 51, 52, 53, 54, 55, 56, 57, 58, 59] rfl (by decide +kernel)
set_option maxRecDepth 20000 in
theorem gX11_digest_X11_partValue : GoodIn wsX11_digest (wsV RX11 84 RX11 yX11_partValue wsX11_partValue) := goodIn_app (goodIn_of _ (by decide +kernel)) ggX11_digest_X11_partValue
set_option maxRecDepth 20000 in
theorem ggX11_digest_X11_partByteAt : GoodIn wsX11_digest wsX11_partByteAt := goodIn_r _ [28, 29, 30, 31, 32, 33, 34, 35, 36, 37, 38, 39, 40, 41, 42, 43, 44, 45, 46, 47, 48, 49, 50, 51, 52, 53, 54, 55, 56, 57, 58, 59] rfl (by decide +kernel)
set_option maxRecDepth 20000 in
theorem gX11_digest_X11_partByteAt : GoodIn wsX11_digest (wsV RX11 277 RX11 yX11_partByteAt wsX11_partByteAt) := goodIn_app (goodIn_of _ (by decide +kernel)) ggX11_digest_X11_partByteAt
set_option maxRecDepth 20000 in
theorem ggX11_storedBytes_X11_stored : GoodIn wsX11_storedBytes wsX11_stored := goodIn_r _ [6, 7, 8, 9, 10, 5, 11, 12, 13, 14, 15, 16, 17, 18, 19, 20, 21, 22, 23, 24, 25, 26, 27, 28, 29, 30, 31, 32, 33, 34, 35, 36, 37, 38, 39, 40, 41, 42, 43, 44, 45, 46, 47, 48] rfl (by decide +kernel)
set_option maxRecDepth 20000 in
theorem gX11_storedBytes_X11_stored : GoodIn wsX11_storedBytes (wsV RX11 339 RX11 yX11_stored wsX11_stored) := goodIn_app (goodIn_of _ (by decide +kernel)) ggX11_storedBytes_X11_stored
set_option maxRecDepth 20000 in
theorem ggX11_deadBytes_X11_isStored : GoodIn wsX11_deadBytes wsX11_isStored := goodIn_r _ [7, 2, 8, 9, 6, 10, 11, 12, 13, 14, 19, 20, 21, 22, 23, 24, 25, 26, 27, 28, 29, 30, 31, 32, 33, 34, 35, 36, 37, 38, 39, 40, 41, 42, 43, 44, 45, 46, 47, 48] rfl (by decide +kernel)
set_option maxRecDepth 20000 in
theorem gX11_deadBytes_X11_isStored : GoodIn wsX11_deadBytes (wsV RX11 336 RX11 yX11_isStored wsX11_isStored) := goodIn_app (goodIn_of _ (by decide +kernel)) ggX11_deadBytes_X11_isStored
set_option maxRecDepth 20000 in
theorem ggX11_deadBytes_X11_isDead : GoodIn wsX11_deadBytes wsX11_isDead := goodIn_r _ [18, 11, 12, 13, 6, 14, 2, 19, 20, 21, 22, 23, 24, 25, 26, 27, 28, 29, 30, 31, 32, 33, 34, 35, 36, 37, 38, 39, 40, 41, 42, 43, 44, 45, 46, 47, 48] rfl (by decide +kernel)
set_option maxRecDepth 20000 in
theorem gX11_deadBytes_X11_isDead : GoodIn wsX11_deadBytes (wsV RX11 309 RX11 yX11_isDead wsX11_isDead) := goodIn_app (goodIn_of _ (by decide +kernel)) ggX11_deadBytes_X11_isDead
set_option maxRecDepth 20000 in
theorem ggX11_deadBytes_X11_partValue : GoodIn wsX11_deadBytes wsX11_partValue := goodIn_r _ [14, 2, 19, 20, 21, 22, 23, 24, 25, 26, 27, 28, 29, 30, 31, 32, 33, 34, 35, 36, 37, 38, 39, 40, 41, 42, 43, 44, 45, 46, 47, 48] rfl (by decide +kernel)
set_option maxRecDepth 20000 in
theorem gX11_deadBytes_X11_partValue : GoodIn wsX11_deadBytes (wsV RX11 84 RX11 yX11_partValue wsX11_partValue) := goodIn_app (goodIn_of _ (by decide +kernel)) ggX11_deadBytes_X11_partValue
set_option maxRecDepth 20000 in
theorem ggX11_logicalBytes_X11_usageOf : GoodIn wsX11_logicalBytes wsX11_usageOf := goodIn_r _ [7, 2, 8, 9, 10, 6, 11, 12, 13, 14, 15, 16, 17, 18, 19, 20, 21, 22, 23, 24, 25, 26, 27, 28, 29, 30, 31, 32, 33, 34, 35, 36, 37, 38, 39, 40, 41, 42, 43, 44, 45, 46, 47, 48, 49, 50, 51, 52, 53, 54, 55, 56, 57, 58, 59, 60] rfl (by decide +kernel)
set_option maxRecDepth 20000 in
theorem gX11_logicalBytes_X11_usageOf : GoodIn wsX11_logicalBytes (wsV RX11 375 RX11 yX11_usageOf wsX11_usageOf) := goodIn_app (goodIn_of _ (by decide +kernel)) ggX11_logicalBytes_X11_usageOf
set_option maxRecDepth 20000 in
theorem ggX11_mostShared_X11_isStored : GoodIn wsX11_mostShared wsX11_isStored := goodIn_r _ [7, 2, 8, 9, 6, 10, 11, 12, 13, 14, 39, 40, 41, 42, 43, 44, 45, 46, 47, 48, 49, 50, 51, 52, 53, 54, 55, 56, 57, 58, 59, 60, 61, 62, 63, 64, 65, 66, 67, 68] rfl (by decide +kernel)
set_option maxRecDepth 20000 in
theorem gX11_mostShared_X11_isStored : GoodIn wsX11_mostShared (wsV RX11 336 RX11 yX11_isStored wsX11_isStored) := goodIn_app (goodIn_of _ (by decide +kernel)) ggX11_mostShared_X11_isStored
set_option maxRecDepth 20000 in
theorem ggX11_mostShared_X11_keepers : GoodIn wsX11_mostShared wsX11_keepers := goodIn_r _ [18, 2, 19, 20, 21, 6, 22, 23, 24, 25, 26, 27, 28, 29, 30, 31, 32, 33, 34, 35, 36, 37, 38, 8, 9, 10, 39, 40, 41, 42, 43, 44, 45, 46, 47, 48, 49, 50, 51, 52, 53, 54, 55, 56, 57, 58, 59, 60, 61, 62, 63, 64, 65, 66, 67, 68] rfl (by decide +kernel)
set_option maxRecDepth 20000 in
theorem gX11_mostShared_X11_keepers : GoodIn wsX11_mostShared (wsV RX11 312 RX11 yX11_keepers wsX11_keepers) := goodIn_app (goodIn_of _ (by decide +kernel)) ggX11_mostShared_X11_keepers
set_option maxRecDepth 20000 in
theorem ggX11_usage_X11_isUser : GoodIn wsX11_usage wsX11_isUser := goodIn_r _ [5, 6, 7, 8, 4, 9, 46, 47, 48, 49, 50, 51, 52, 53, 54, 55, 56, 57, 58, 59, 60, 61, 62, 63, 64, 65, 66, 67, 68, 69, 70, 71, 72, 73, 74, 75] rfl (by decide +kernel)
set_option maxRecDepth 20000 in
theorem gX11_usage_X11_isUser : GoodIn wsX11_usage (wsV RX11 76 RX11 yX11_isUser wsX11_isUser) := goodIn_app (goodIn_of _ (by decide +kernel)) ggX11_usage_X11_isUser
set_option maxRecDepth 20000 in
theorem ggX11_usage_X11_passes : GoodIn wsX11_usage wsX11_passes := goodIn_r _ [13, 14, 15, 16, 4, 17, 18, 46, 47, 48, 49, 50, 51, 52, 53, 54, 55, 56, 57, 58, 59, 60, 61, 62, 63, 64, 65, 66, 67, 68, 69, 70, 71, 72, 73, 74, 75] rfl (by decide +kernel)
set_option maxRecDepth 20000 in
theorem gX11_usage_X11_passes : GoodIn wsX11_usage (wsV RX11 94 RX11 yX11_passes wsX11_passes) := goodIn_app (goodIn_of _ (by decide +kernel)) ggX11_usage_X11_passes
set_option maxRecDepth 20000 in
theorem ggX11_usage_X11_usageOf : GoodIn wsX11_usage wsX11_usageOf := goodIn_r _ [22, 6, 23, 24, 25, 4, 26, 27, 28, 29, 30, 31, 32, 33, 34, 35, 36, 37, 38, 39, 40, 41, 42, 43, 44, 45, 46, 47, 48, 49, 50, 51, 52, 53, 54, 55, 56, 57, 58, 59, 60, 61, 62, 63, 64, 65, 66, 67, 68, 69, 70, 71, 72, 73, 74, 75] rfl (by decide +kernel)
set_option maxRecDepth 20000 in
theorem gX11_usage_X11_usageOf : GoodIn wsX11_usage (wsV RX11 375 RX11 yX11_usageOf wsX11_usageOf) := goodIn_app (goodIn_of _ (by decide +kernel)) ggX11_usage_X11_usageOf
set_option maxRecDepth 20000 in
theorem ggX11_quota_X11_isUser : GoodIn wsX11_quota wsX11_isUser := goodIn_r _ [6, 1, 7, 8, 5, 9, 19, 20, 21, 22, 23, 24, 25, 26, 27, 28, 29, 30, 31, 32, 33, 34, 35, 36, 37, 38, 39, 40, 41, 42, 43, 44, 45, 46, 47, 48] rfl (by decide +kernel)
set_option maxRecDepth 20000 in
theorem gX11_quota_X11_isUser : GoodIn wsX11_quota (wsV RX11 76 RX11 yX11_isUser wsX11_isUser) := goodIn_app (goodIn_of _ (by decide +kernel)) ggX11_quota_X11_isUser
set_option maxRecDepth 20000 in
theorem ggX11_quota_X11_passes : GoodIn wsX11_quota wsX11_passes := goodIn_r _ [13, 14, 15, 16, 5, 17, 18, 19, 20, 21, 22, 23, 24, 25, 26, 27, 28, 29, 30, 31, 32, 33, 34, 35, 36, 37, 38, 39, 40, 41, 42, 43, 44, 45, 46, 47, 48] rfl (by decide +kernel)
set_option maxRecDepth 20000 in
theorem gX11_quota_X11_passes : GoodIn wsX11_quota (wsV RX11 94 RX11 yX11_passes wsX11_passes) := goodIn_app (goodIn_of _ (by decide +kernel)) ggX11_quota_X11_passes
set_option maxRecDepth 20000 in
theorem ggX11_reads_X11_isLive : GoodIn wsX11_reads wsX11_isLive := goodIn_r _ [6, 7, 8, 9, 5, 10, 1, 11, 12, 13, 22, 23, 24, 25, 26, 27, 28, 29, 30, 31, 32, 33, 34, 35, 36, 37, 38, 39, 40, 41, 42, 43, 44, 45, 46, 47, 48, 49, 50, 51] rfl (by decide +kernel)
set_option maxRecDepth 20000 in
theorem gX11_reads_X11_isLive : GoodIn wsX11_reads (wsV RX11 348 RX11 yX11_isLive wsX11_isLive) := goodIn_app (goodIn_of _ (by decide +kernel)) ggX11_reads_X11_isLive
set_option maxRecDepth 20000 in
theorem ggX11_reads_X11_has : GoodIn wsX11_reads wsX11_has := goodIn_r _ [17, 18, 19, 20, 5, 21, 1, 22, 23, 24, 25, 26, 27, 28, 29, 30, 31, 32, 33, 34, 35, 36, 37, 38, 39, 40, 41, 42, 43, 44, 45, 46, 47, 48, 49, 50, 51] rfl (by decide +kernel)
set_option maxRecDepth 20000 in
theorem gX11_reads_X11_has : GoodIn wsX11_reads (wsV RX11 303 RX11 yX11_has wsX11_has) := goodIn_app (goodIn_of _ (by decide +kernel)) ggX11_reads_X11_has
set_option maxRecDepth 20000 in
theorem ggX11_fairShare_X11_isUser : GoodIn wsX11_fairShare wsX11_isUser := goodIn_r _ [6, 1, 7, 8, 5, 9, 46, 47, 48, 49, 50, 51, 52, 53, 54, 55, 56, 57, 58, 59, 60, 61, 62, 63, 64, 65, 66, 67, 68, 69, 70, 71, 72, 73, 74, 75] rfl (by decide +kernel)
set_option maxRecDepth 20000 in
theorem gX11_fairShare_X11_isUser : GoodIn wsX11_fairShare (wsV RX11 76 RX11 yX11_isUser wsX11_isUser) := goodIn_app (goodIn_of _ (by decide +kernel)) ggX11_fairShare_X11_isUser
set_option maxRecDepth 20000 in
theorem ggX11_fairShare_X11_passes : GoodIn wsX11_fairShare wsX11_passes := goodIn_r _ [13, 14, 15, 16, 5, 17, 18, 46, 47, 48, 49, 50, 51, 52, 53, 54, 55, 56, 57, 58, 59, 60, 61, 62, 63, 64, 65, 66, 67, 68, 69, 70, 71, 72, 73, 74, 75] rfl (by decide +kernel)
set_option maxRecDepth 20000 in
theorem gX11_fairShare_X11_passes : GoodIn wsX11_fairShare (wsV RX11 94 RX11 yX11_passes wsX11_passes) := goodIn_app (goodIn_of _ (by decide +kernel)) ggX11_fairShare_X11_passes
set_option maxRecDepth 20000 in
theorem ggX11_fairShare_X11_reads : GoodIn wsX11_fairShare wsX11_reads := goodIn_r _ [22, 1, 23, 24, 25, 5, 26, 27, 28, 29, 30, 31, 32, 33, 34, 35, 36, 37, 38, 39, 40, 41, 46, 47, 48, 49, 50, 51, 52, 53, 54, 55, 56, 57, 58, 59, 60, 61, 62, 63, 64, 65, 66, 67, 68, 69, 70, 71, 72, 73, 74, 75] rfl (by decide +kernel)
set_option maxRecDepth 20000 in
theorem gX11_fairShare_X11_reads : GoodIn wsX11_fairShare (wsV RX11 410 RX11 yX11_reads wsX11_reads) := goodIn_app (goodIn_of _ (by decide +kernel)) ggX11_fairShare_X11_reads
set_option maxRecDepth 20000 in
theorem ggX11_fairShare_X11_partValue : GoodIn wsX11_fairShare wsX11_partValue := goodIn_r _ [45, 1, 46, 47, 48, 49, 50, 51, 52, 53, 54, 55, 56, 57, 58, 59, 60, 61, 62, 63, 64, 65, 66, 67, 68, 69, 70, 71, 72, 73, 74, 75] rfl (by decide +kernel)
set_option maxRecDepth 20000 in
theorem gX11_fairShare_X11_partValue : GoodIn wsX11_fairShare (wsV RX11 84 RX11 yX11_partValue wsX11_partValue) := goodIn_app (goodIn_of _ (by decide +kernel)) ggX11_fairShare_X11_partValue
set_option maxRecDepth 20000 in
theorem ggX11_inClass_X11_isUser : GoodIn wsX11_inClass wsX11_isUser := goodIn_r _ [6, 1, 7, 8, 5, 9, 34, 35, 36, 37, 38, 39, 40, 41, 42, 43, 44, 45, 46, 47, 48, 49, 50, 51, 52, 53, 54, 55, 56, 57, 58, 59, 60, 61, 62, 63] rfl (by decide +kernel)
set_option maxRecDepth 20000 in
theorem gX11_inClass_X11_isUser : GoodIn wsX11_inClass (wsV RX11 76 RX11 yX11_isUser wsX11_isUser) := goodIn_app (goodIn_of _ (by decide +kernel)) ggX11_inClass_X11_isUser
set_option maxRecDepth 20000 in
theorem ggX11_inClass_X11_isClass : GoodIn wsX11_inClass wsX11_isClass := goodIn_r _ [13, 1, 7, 8, 5, 9, 34, 35, 36, 37, 38, 39, 40, 41, 42, 43, 44, 45, 46, 47, 48, 49, 50, 51, 52, 53, 54, 55, 56, 57, 58, 59, 60, 61, 62, 63] rfl (by decide +kernel)
set_option maxRecDepth 20000 in
theorem gX11_inClass_X11_isClass : GoodIn wsX11_inClass (wsV RX11 264 RX11 yX11_isClass wsX11_isClass) := goodIn_app (goodIn_of _ (by decide +kernel)) ggX11_inClass_X11_isClass
set_option maxRecDepth 20000 in
theorem ggX11_inClass_X11_passes : GoodIn wsX11_inClass wsX11_passes := goodIn_r _ [17, 18, 19, 20, 5, 21, 22, 34, 35, 36, 37, 38, 39, 40, 41, 42, 43, 44, 45, 46, 47, 48, 49, 50, 51, 52, 53, 54, 55, 56, 57, 58, 59, 60, 61, 62, 63] rfl (by decide +kernel)
set_option maxRecDepth 20000 in
theorem gX11_inClass_X11_passes : GoodIn wsX11_inClass (wsV RX11 94 RX11 yX11_passes wsX11_passes) := goodIn_app (goodIn_of _ (by decide +kernel)) ggX11_inClass_X11_passes
set_option maxRecDepth 20000 in
theorem ggX11_inClass_X11_isLive : GoodIn wsX11_inClass wsX11_isLive := goodIn_r _ [26, 27, 28, 29, 5, 30, 1, 31, 32, 33, 34, 35, 36, 37, 38, 39, 40, 41, 42, 43, 44, 45, 46, 47, 48, 49, 50, 51, 52, 53, 54, 55, 56, 57, 58, 59, 60, 61, 62, 63] rfl (by decide +kernel)
set_option maxRecDepth 20000 in
theorem gX11_inClass_X11_isLive : GoodIn wsX11_inClass (wsV RX11 348 RX11 yX11_isLive wsX11_isLive) := goodIn_app (goodIn_of _ (by decide +kernel)) ggX11_inClass_X11_isLive
set_option maxRecDepth 20000 in
theorem ggX11_inClass_X11_refAt : GoodIn wsX11_inClass wsX11_refAt := goodIn_r _ [33] rfl (by decide +kernel)
set_option maxRecDepth 20000 in
theorem gX11_inClass_X11_refAt : GoodIn wsX11_inClass (va_wsS RX11 68 yX11_refAt wsX11_refAt) := goodIn_app (goodIn_of _ (by decide +kernel)) ggX11_inClass_X11_refAt
set_option maxRecDepth 20000 in
theorem ggX11_matches_X11_isUser : GoodIn wsX11_matches wsX11_isUser := goodIn_r _ [10, 5, 11, 12, 9, 13, 67, 68, 69, 70, 71, 72, 73, 74, 75, 76, 77, 78, 79, 80, 81, 82, 83, 84, 85, 86, 87, 88, 89, 90, 91, 92, 93, 94, 95, 96] rfl (by decide +kernel)
set_option maxRecDepth 20000 in
theorem gX11_matches_X11_isUser : GoodIn wsX11_matches (wsV RX11 76 RX11 yX11_isUser wsX11_isUser) := goodIn_app (goodIn_of _ (by decide +kernel)) ggX11_matches_X11_isUser
set_option maxRecDepth 20000 in
theorem ggX11_matches_X11_isInputWord : GoodIn wsX11_matches wsX11_isInputWord := goodIn_r _ [17, 18, 1, 19, 4, 20, 21, 11, 12, 9, 13, 67, 68, 69, 70, 71, 72, 73, 74, 75, 76, 77, 78, 79, 80, 81, 82, 83, 84, 85, 86, 87, 88, 89, 90, 91, 92, 93, 94, 95, 96] rfl (by decide +kernel)
set_option maxRecDepth 20000 in
theorem gX11_matches_X11_isInputWord : GoodIn wsX11_matches (wsV RX11 261 RX11 yX11_isInputWord wsX11_isInputWord) := goodIn_app (goodIn_of _ (by decide +kernel)) ggX11_matches_X11_isInputWord
set_option maxRecDepth 20000 in
theorem ggX11_matches_X11_passes2 : GoodIn wsX11_matches wsX11_passes2 := goodIn_r _ [25, 26, 27, 28, 9, 29, 30, 67, 68, 69, 70, 71, 72, 73, 74, 75, 76, 77, 78, 79, 80, 81, 82, 83, 84, 85, 86, 87, 88, 89, 90, 91, 92, 93, 94, 95, 96] rfl (by decide +kernel)
set_option maxRecDepth 20000 in
theorem gX11_matches_X11_passes2 : GoodIn wsX11_matches (wsV RX11 267 RX11 yX11_passes2 wsX11_passes2) := goodIn_app (goodIn_of _ (by decide +kernel)) ggX11_matches_X11_passes2
set_option maxRecDepth 20000 in
theorem ggX11_matches_X11_isLive : GoodIn wsX11_matches wsX11_isLive := goodIn_r _ [34, 35, 36, 37, 9, 38, 5, 39, 40, 41, 67, 68, 69, 70, 71, 72, 73, 74, 75, 76, 77, 78, 79, 80, 81, 82, 83, 84, 85, 86, 87, 88, 89, 90, 91, 92, 93, 94, 95, 96] rfl (by decide +kernel)
set_option maxRecDepth 20000 in
theorem gX11_matches_X11_isLive : GoodIn wsX11_matches (wsV RX11 348 RX11 yX11_isLive wsX11_isLive) := goodIn_app (goodIn_of _ (by decide +kernel)) ggX11_matches_X11_isLive
set_option maxRecDepth 20000 in
theorem ggX11_matches_X11_contains : GoodIn wsX11_matches wsX11_contains := goodIn_r _ [45, 2, 46, 47, 48, 9, 49, 5, 50, 51, 52, 53, 54, 55, 56, 57, 3, 58, 59, 60, 61, 20, 21, 62, 63, 64, 65, 66, 11, 12, 13, 67, 68, 69, 70, 71, 72, 73, 74, 75, 76, 77, 78, 79, 80, 81, 82, 83, 84, 85, 86, 87, 88, 89, 90, 91, 92, 93, 94, 95, 96] rfl (by decide +kernel)
set_option maxRecDepth 20000 in
theorem gX11_matches_X11_contains : GoodIn wsX11_matches (wsV RX11 296 RX11 yX11_contains wsX11_contains) := goodIn_app (goodIn_of _ (by decide +kernel)) ggX11_matches_X11_contains
set_option maxRecDepth 20000 in
theorem ggX11_commonBytes_X11_isUser : GoodIn wsX11_commonBytes wsX11_isUser := goodIn_r _ [6, 1, 7, 8, 5, 9, 46, 47, 48, 49, 50, 51, 52, 53, 54, 55, 56, 57, 58, 59, 60, 61, 62, 63, 64, 65, 66, 67, 68, 69, 70, 71, 72, 73, 74, 75] rfl (by decide +kernel)
set_option maxRecDepth 20000 in
theorem gX11_commonBytes_X11_isUser : GoodIn wsX11_commonBytes (wsV RX11 76 RX11 yX11_isUser wsX11_isUser) := goodIn_app (goodIn_of _ (by decide +kernel)) ggX11_commonBytes_X11_isUser
set_option maxRecDepth 20000 in
theorem ggX11_commonBytes_X11_passes : GoodIn wsX11_commonBytes wsX11_passes := goodIn_r _ [13, 14, 15, 16, 5, 17, 18, 46, 47, 48, 49, 50, 51, 52, 53, 54, 55, 56, 57, 58, 59, 60, 61, 62, 63, 64, 65, 66, 67, 68, 69, 70, 71, 72, 73, 74, 75] rfl (by decide +kernel)
set_option maxRecDepth 20000 in
theorem gX11_commonBytes_X11_passes : GoodIn wsX11_commonBytes (wsV RX11 94 RX11 yX11_passes wsX11_passes) := goodIn_app (goodIn_of _ (by decide +kernel)) ggX11_commonBytes_X11_passes
set_option maxRecDepth 20000 in
theorem ggX11_commonBytes_X11_reads : GoodIn wsX11_commonBytes wsX11_reads := goodIn_r _ [22, 1, 23, 24, 25, 5, 26, 27, 28, 29, 30, 31, 32, 33, 34, 35, 36, 37, 38, 39, 40, 41, 46, 47, 48, 49, 50, 51, 52, 53, 54, 55, 56, 57, 58, 59, 60, 61, 62, 63, 64, 65, 66, 67, 68, 69, 70, 71, 72, 73, 74, 75] rfl (by decide +kernel)
set_option maxRecDepth 20000 in
theorem gX11_commonBytes_X11_reads : GoodIn wsX11_commonBytes (wsV RX11 410 RX11 yX11_reads wsX11_reads) := goodIn_app (goodIn_of _ (by decide +kernel)) ggX11_commonBytes_X11_reads
set_option maxRecDepth 20000 in
theorem ggX11_commonBytes_X11_partValue : GoodIn wsX11_commonBytes wsX11_partValue := goodIn_r _ [45, 1, 46, 47, 48, 49, 50, 51, 52, 53, 54, 55, 56, 57, 58, 59, 60, 61, 62, 63, 64, 65, 66, 67, 68, 69, 70, 71, 72, 73, 74, 75] rfl (by decide +kernel)
set_option maxRecDepth 20000 in
theorem gX11_commonBytes_X11_partValue : GoodIn wsX11_commonBytes (wsV RX11 84 RX11 yX11_partValue wsX11_partValue) := goodIn_app (goodIn_of _ (by decide +kernel)) ggX11_commonBytes_X11_partValue
set_option maxRecDepth 20000 in
theorem ggX11_enter_X11_refAt : GoodIn wsX11_enter wsX11_refAt := goodIn_r _ [5] rfl (by decide +kernel)
set_option maxRecDepth 20000 in
theorem gX11_enter_X11_refAt : GoodIn wsX11_enter (va_wsS RX11 68 yX11_refAt wsX11_refAt) := goodIn_app (goodIn_of _ (by decide +kernel)) ggX11_enter_X11_refAt
set_option maxRecDepth 20000 in
theorem ggX11_file_X11_isClass : GoodIn wsX11_file wsX11_isClass := goodIn_r _ [6, 1, 7, 8, 5, 9, 56, 57, 58, 59, 60, 61, 62, 63, 64, 65, 66, 67, 68, 69, 70, 71, 72, 73, 74, 75, 76, 77, 78, 79, 80, 81, 82, 83, 84, 85] rfl (by decide +kernel)
set_option maxRecDepth 20000 in
theorem gX11_file_X11_isClass : GoodIn wsX11_file (wsV RX11 264 RX11 yX11_isClass wsX11_isClass) := goodIn_app (goodIn_of _ (by decide +kernel)) ggX11_file_X11_isClass
set_option maxRecDepth 20000 in
theorem ggX11_file_X11_isRef : GoodIn wsX11_file wsX11_isRef := goodIn_r _ [13, 14, 15, 16, 5, 17, 1, 7, 8, 9, 18, 19, 20, 21, 22, 23, 24, 25, 26, 27, 28, 56, 57, 58, 59, 60, 61, 62, 63, 64, 65, 66, 67, 68, 69, 70, 71, 72, 73, 74, 75, 76, 77, 78, 79, 80, 81, 82, 83, 84, 85] rfl (by decide +kernel)
set_option maxRecDepth 20000 in
theorem gX11_file_X11_isRef : GoodIn wsX11_file (wsV RX11 390 RX11 yX11_isRef wsX11_isRef) := goodIn_app (goodIn_of _ (by decide +kernel)) ggX11_file_X11_isRef
