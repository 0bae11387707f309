set_option maxRecDepth 20000 in
theorem ggX11_file_X11_isLive : GoodIn wsX11_file wsX11_isLive := goodIn_r _ [32, 22, 23, 24, 5, 25, 1, 26, 27, 28, 56, 57, 58, 59, 60, 61, 62, 63, 64, 65, 66, 67, 68, 69, 70, 71, 72, 73, 74, 75, 76, 77, 78, 79, 80, 81, 82, 83, 84, 85] rfl (by decide +kernel)
set_option maxRecDepth 20000 in
theorem gX11_file_X11_isLive : GoodIn wsX11_file (wsV RX11 348 RX11 yX11_isLive wsX11_isLive) := goodIn_app (goodIn_of _ (by decide +kernel)) ggX11_file_X11_isLive
set_option maxRecDepth 20000 in
theorem ggX11_file_X11_passes2 : GoodIn wsX11_file wsX11_passes2 := goodIn_r _ [36, 37, 38, 39, 5, 40, 41, 56, 57, 58, 59, 60, 61, 62, 63, 64, 65, 66, 67, 68, 69, 70, 71, 72, 73, 74, 75, 76, 77, 78, 79, 80, 81, 82, 83, 84, 85] rfl (by decide +kernel)
set_option maxRecDepth 20000 in
theorem gX11_file_X11_passes2 : GoodIn wsX11_file (wsV RX11 267 RX11 yX11_passes2 wsX11_passes2) := goodIn_app (goodIn_of _ (by decide +kernel)) ggX11_file_X11_passes2
set_option maxRecDepth 20000 in
theorem ggX11_file_X11_refAt : GoodIn wsX11_file wsX11_refAt := goodIn_r _ [28] rfl (by decide +kernel)
set_option maxRecDepth 20000 in
theorem gX11_file_X11_refAt : GoodIn wsX11_file (va_wsS RX11 68 yX11_refAt wsX11_refAt) := goodIn_app (goodIn_of _ (by decide +kernel)) ggX11_file_X11_refAt
set_option maxRecDepth 20000 in
theorem ggX11_file_X11_remember : GoodIn wsX11_file wsX11_remember := goodIn_r _ [45, 46, 47, 48, 1, 49, 50, 51, 56, 57, 58, 59, 60, 61, 62, 63, 64, 65, 66, 67, 68, 69, 70, 71, 72, 73, 74, 75, 76, 77, 78, 79, 80, 81, 82, 83, 84, 85] rfl (by decide +kernel)
set_option maxRecDepth 20000 in
theorem gX11_file_X11_remember : GoodIn wsX11_file (wsV RX11 256 RX11 yX11_remember wsX11_remember) := goodIn_app (goodIn_of _ (by decide +kernel)) ggX11_file_X11_remember
set_option maxRecDepth 20000 in
theorem ggX11_file_X11_enter : GoodIn wsX11_file wsX11_enter := goodIn_r _ [55, 1, 26, 27, 5, 28, 56, 57, 58, 59, 60, 61, 62, 63, 64, 65, 66, 67, 68, 69, 70, 71, 72, 73, 74, 75, 76, 77, 78, 79, 80, 81, 82, 83, 84, 85] rfl (by decide +kernel)
set_option maxRecDepth 20000 in
theorem gX11_file_X11_enter : GoodIn wsX11_file (wsV RX11 413 RX11 yX11_enter wsX11_enter) := goodIn_app (goodIn_of _ (by decide +kernel)) ggX11_file_X11_enter
set_option maxRecDepth 20000 in
theorem ggX11_delete_X11_isRef : GoodIn wsX11_delete wsX11_isRef := goodIn_r _ [5, 6, 7, 8, 4, 9, 10, 11, 12, 13, 14, 15, 16, 17, 18, 19, 20, 21, 22, 23, 24, 118, 119, 120, 121, 122, 123, 124, 125, 126, 127, 128, 129, 130, 131, 132, 133, 134, 135, 136, 137, 138, 139, 140, 141, 142, 143, 144, 145, 146, 147] rfl (by decide +kernel)
set_option maxRecDepth 20000 in
theorem gX11_delete_X11_isRef : GoodIn wsX11_delete (wsV RX11 390 RX11 yX11_isRef wsX11_isRef) := goodIn_app (goodIn_of _ (by decide +kernel)) ggX11_delete_X11_isRef
set_option maxRecDepth 20000 in
theorem ggX11_delete_X11_isLive : GoodIn wsX11_delete wsX11_isLive := goodIn_r _ [28, 18, 19, 20, 4, 21, 10, 22, 23, 24, 118, 119, 120, 121, 122, 123, 124, 125, 126, 127, 128, 129, 130, 131, 132, 133, 134, 135, 136, 137, 138, 139, 140, 141, 142, 143, 144, 145, 146, 147] rfl (by decide +kernel)
set_option maxRecDepth 20000 in
theorem gX11_delete_X11_isLive : GoodIn wsX11_delete (wsV RX11 348 RX11 yX11_isLive wsX11_isLive) := goodIn_app (goodIn_of _ (by decide +kernel)) ggX11_delete_X11_isLive
set_option maxRecDepth 20000 in
theorem ggX11_delete_X11_passes2 : GoodIn wsX11_delete wsX11_passes2 := goodIn_r _ [32, 33, 34, 35, 4, 36, 37, 118, 119, 120, 121, 122, 123, 124, 125, 126, 127, 128, 129, 130, 131, 132, 133, 134, 135, 136, 137, 138, 139, 140, 141, 142, 143, 144, 145, 146, 147] rfl (by decide +kernel)
set_option maxRecDepth 20000 in
theorem gX11_delete_X11_passes2 : GoodIn wsX11_delete (wsV RX11 267 RX11 yX11_passes2 wsX11_passes2) := goodIn_app (goodIn_of _ (by decide +kernel)) ggX11_delete_X11_passes2
set_option maxRecDepth 20000 in
theorem ggX11_delete_X11_remember : GoodIn wsX11_delete wsX11_remember := goodIn_r _ [41, 42, 43, 44, 10, 45, 46, 47, 118, 119, 120, 121, 122, 123, 124, 125, 126, 127, 128, 129, 130, 131, 132, 133, 134, 135, 136, 137, 138, 139, 140, 141, 142, 143, 144, 145, 146, 147] rfl (by decide +kernel)
set_option maxRecDepth 20000 in
theorem gX11_delete_X11_remember : GoodIn wsX11_delete (wsV RX11 256 RX11 yX11_remember wsX11_remember) := goodIn_app (goodIn_of _ (by decide +kernel)) ggX11_delete_X11_remember
set_option maxRecDepth 20000 in
theorem ggX11_delete_X11_ceases : GoodIn wsX11_delete wsX11_ceases := goodIn_r _ [51, 10, 52, 53, 54, 4, 55, 56, 57, 58, 59, 60, 61, 62, 63, 64, 65, 66, 67, 68, 69, 11, 12, 13, 70, 71, 72, 73, 74, 75, 76, 77, 78, 79, 80, 81, 82, 83, 84, 85, 86, 87, 88, 89, 90, 91, 47, 22, 23, 24, 92, 93, 94, 95, 96, 97, 98, 99, 100, 101, 102, 103, 104, 105, 18, 19, 20, 21, 106, 107, 108, 109, 110, 111, 112, 113, 114, 115, 116, 117, 118, 119, 120, 121, 122, 123, 124, 125, 126, 127, 128, 129, 130, 131, 132, 133, 134, 135, 136, 137, 138, 139, 140, 141, 142, 143, 144, 145, 146, 147] rfl (by decide +kernel)
set_option maxRecDepth 20000 in
theorem gX11_delete_X11_ceases : GoodIn wsX11_delete (wsV RX11 416 RX11 yX11_ceases wsX11_ceases) := goodIn_app (goodIn_of _ (by decide +kernel)) ggX11_delete_X11_ceases
set_option maxRecDepth 20000 in
theorem ggX11_recover_X11_isRef : GoodIn wsX11_recover wsX11_isRef := goodIn_r _ [6, 7, 8, 9, 5, 10, 1, 11, 12, 13, 14, 15, 16, 17, 18, 19, 20, 21, 22, 23, 24, 49, 50, 51, 52, 53, 54, 55, 56, 57, 58, 59, 60, 61, 62, 63, 64, 65, 66, 67, 68, 69, 70, 71, 72, 73, 74, 75, 76, 77, 78] rfl (by decide +kernel)
set_option maxRecDepth 20000 in
theorem gX11_recover_X11_isRef : GoodIn wsX11_recover (wsV RX11 390 RX11 yX11_isRef wsX11_isRef) := goodIn_app (goodIn_of _ (by decide +kernel)) ggX11_recover_X11_isRef
set_option maxRecDepth 20000 in
theorem ggX11_recover_X11_isHidden : GoodIn wsX11_recover wsX11_isHidden := goodIn_r _ [28, 29, 18, 19, 20, 5, 21, 1, 22, 23, 24, 11, 12, 13, 49, 50, 51, 52, 53, 54, 55, 56, 57, 58, 59, 60, 61, 62, 63, 64, 65, 66, 67, 68, 69, 70, 71, 72, 73, 74, 75, 76, 77, 78] rfl (by decide +kernel)
set_option maxRecDepth 20000 in
theorem gX11_recover_X11_isHidden : GoodIn wsX11_recover (wsV RX11 387 RX11 yX11_isHidden wsX11_isHidden) := goodIn_app (goodIn_of _ (by decide +kernel)) ggX11_recover_X11_isHidden
set_option maxRecDepth 20000 in
theorem ggX11_recover_X11_passes2 : GoodIn wsX11_recover wsX11_passes2 := goodIn_r _ [33, 34, 35, 36, 5, 37, 38, 49, 50, 51, 52, 53, 54, 55, 56, 57, 58, 59, 60, 61, 62, 63, 64, 65, 66, 67, 68, 69, 70, 71, 72, 73, 74, 75, 76, 77, 78] rfl (by decide +kernel)
set_option maxRecDepth 20000 in
theorem gX11_recover_X11_passes2 : GoodIn wsX11_recover (wsV RX11 267 RX11 yX11_passes2 wsX11_passes2) := goodIn_app (goodIn_of _ (by decide +kernel)) ggX11_recover_X11_passes2
set_option maxRecDepth 20000 in
theorem ggX11_recover_X11_remember : GoodIn wsX11_recover wsX11_remember := goodIn_r _ [42, 43, 44, 45, 1, 46, 47, 48, 49, 50, 51, 52, 53, 54, 55, 56, 57, 58, 59, 60, 61, 62, 63, 64, 65, 66, 67, 68, 69, 70, 71, 72, 73, 74, 75, 76, 77, 78] rfl (by decide +kernel)
set_option maxRecDepth 20000 in
theorem gX11_recover_X11_remember : GoodIn wsX11_recover (wsV RX11 256 RX11 yX11_remember wsX11_remember) := goodIn_app (goodIn_of _ (by decide +kernel)) ggX11_recover_X11_remember
set_option maxRecDepth 20000 in
theorem ggX11_recover_X11_stateOf : GoodIn wsX11_recover wsX11_stateOf := goodIn_r _ [21, 1, 22, 23, 5, 24, 49, 50, 51, 52, 53, 54, 55, 56, 57, 58, 59, 60, 61, 62, 63, 64, 65, 66, 67, 68, 69, 70, 71, 72, 73, 74, 75, 76, 77, 78] rfl (by decide +kernel)
set_option maxRecDepth 20000 in
theorem gX11_recover_X11_stateOf : GoodIn wsX11_recover (wsV RX11 79 RX11 yX11_stateOf wsX11_stateOf) := goodIn_app (goodIn_of _ (by decide +kernel)) ggX11_recover_X11_stateOf
set_option maxRecDepth 20000 in
theorem ggX11_recover_X11_refAt : GoodIn wsX11_recover wsX11_refAt := goodIn_r _ [24] rfl (by decide +kernel)
set_option maxRecDepth 20000 in
theorem gX11_recover_X11_refAt : GoodIn wsX11_recover (va_wsS RX11 68 yX11_refAt wsX11_refAt) := goodIn_app (goodIn_of _ (by decide +kernel)) ggX11_recover_X11_refAt
set_option maxRecDepth 20000 in
theorem ggX11_isActive_X11_isHold : GoodIn wsX11_isActive wsX11_isHold := goodIn_r _ [5, 6, 7, 8, 4, 9, 23, 24, 25, 26, 27, 28, 29, 30, 31, 32, 33, 34, 35, 36, 37, 38, 39, 40, 41, 42, 43, 44, 45, 46, 47, 48, 49, 50, 51, 52] rfl (by decide +kernel)
set_option maxRecDepth 20000 in
theorem gX11_isActive_X11_isHold : GoodIn wsX11_isActive (wsV RX11 419 RX11 yX11_isHold wsX11_isHold) := goodIn_app (goodIn_of _ (by decide +kernel)) ggX11_isActive_X11_isHold
set_option maxRecDepth 20000 in
theorem ggX11_isActive_X11_passes : GoodIn wsX11_isActive wsX11_passes := goodIn_r _ [13, 14, 15, 16, 4, 17, 18, 23, 24, 25, 26, 27, 28, 29, 30, 31, 32, 33, 34, 35, 36, 37, 38, 39, 40, 41, 42, 43, 44, 45, 46, 47, 48, 49, 50, 51, 52] rfl (by decide +kernel)
set_option maxRecDepth 20000 in
theorem gX11_isActive_X11_passes : GoodIn wsX11_isActive (wsV RX11 94 RX11 yX11_passes wsX11_passes) := goodIn_app (goodIn_of _ (by decide +kernel)) ggX11_isActive_X11_passes
set_option maxRecDepth 20000 in
theorem ggX11_isActive_X11_holdValue : GoodIn wsX11_isActive wsX11_holdValue := goodIn_r _ [22, 6, 23, 24, 25, 26, 27, 28, 29, 30, 31, 32, 33, 34, 35, 36, 37, 38, 39, 40, 41, 42, 43, 44, 45, 46, 47, 48, 49, 50, 51, 52] rfl (by decide +kernel)
set_option maxRecDepth 20000 in
theorem gX11_isActive_X11_holdValue : GoodIn wsX11_isActive (wsV RX11 293 RX11 yX11_holdValue wsX11_holdValue) := goodIn_app (goodIn_of _ (by decide +kernel)) ggX11_isActive_X11_holdValue
set_option maxRecDepth 20000 in
theorem ggX11_release_X11_isHidden : GoodIn wsX11_release wsX11_isHidden := goodIn_r _ [6, 7, 8, 9, 10, 5, 11, 1, 12, 13, 14, 15, 16, 17, 84, 85, 86, 87, 88, 89, 90, 91, 92, 93, 94, 95, 96, 97, 98, 99, 100, 101, 102, 103, 104, 105, 106, 107, 108, 109, 110, 111, 112, 113] rfl (by decide +kernel)
set_option maxRecDepth 20000 in
theorem gX11_release_X11_isHidden : GoodIn wsX11_release (wsV RX11 387 RX11 yX11_isHidden wsX11_isHidden) := goodIn_app (goodIn_of _ (by decide +kernel)) ggX11_release_X11_isHidden
set_option maxRecDepth 20000 in
theorem ggX11_release_X11_covers : GoodIn wsX11_release wsX11_covers := goodIn_r _ [21, 1, 22, 23, 24, 5, 25, 26, 27, 28, 29, 30, 31, 32, 33, 34, 35, 15, 16, 17, 36, 37, 38, 39, 40, 41, 42, 43, 44, 45, 46, 47, 48, 49, 50, 51, 52, 53, 54, 55, 56, 57, 58, 84, 85, 86, 87, 88, 89, 90, 91, 92, 93, 94, 95, 96, 97, 98, 99, 100, 101, 102, 103, 104, 105, 106, 107, 108, 109, 110, 111, 112, 113] rfl (by decide +kernel)
set_option maxRecDepth 20000 in
theorem gX11_release_X11_covers : GoodIn wsX11_release (wsV RX11 319 RX11 yX11_covers wsX11_covers) := goodIn_app (goodIn_of _ (by decide +kernel)) ggX11_release_X11_covers
set_option maxRecDepth 20000 in
theorem ggX11_release_X11_refAt : GoodIn wsX11_release wsX11_refAt := goodIn_r _ [14] rfl (by decide +kernel)
set_option maxRecDepth 20000 in
theorem gX11_release_X11_refAt : GoodIn wsX11_release (va_wsS RX11 68 yX11_refAt wsX11_refAt) := goodIn_app (goodIn_of _ (by decide +kernel)) ggX11_release_X11_refAt
set_option maxRecDepth 20000 in
theorem ggX11_release_X11_log : GoodIn wsX11_release wsX11_log := goodIn_r _ [62, 63, 1, 84, 85, 86, 87, 88, 89, 90, 91, 92, 93, 94, 95, 96, 97, 98, 99, 100, 101, 102, 103, 104, 105, 106, 107, 108, 109, 110, 111, 112, 113] rfl (by decide +kernel)
set_option maxRecDepth 20000 in
theorem gX11_release_X11_log : GoodIn wsX11_release (wsV RX11 315 RX11 yX11_log wsX11_log) := goodIn_app (goodIn_of _ (by decide +kernel)) ggX11_release_X11_log
set_option maxRecDepth 20000 in
theorem ggX11_release_X11_buryParts : GoodIn wsX11_release wsX11_buryParts := goodIn_r _ [67, 1, 68, 69, 70, 5, 71, 7, 8, 9, 10, 11, 12, 13, 14, 15, 16, 17, 72, 73, 74, 75, 32, 33, 34, 35, 76, 77, 78, 79, 40, 41, 42, 43, 80, 81, 82, 83, 59, 60, 61, 62, 63, 84, 85, 86, 87, 88, 89, 90, 91, 92, 93, 94, 95, 96, 97, 98, 99, 100, 101, 102, 103, 104, 105, 106, 107, 108, 109, 110, 111, 112, 113] rfl (by decide +kernel)
set_option maxRecDepth 20000 in
theorem gX11_release_X11_buryParts : GoodIn wsX11_release (wsV RX11 322 RX11 yX11_buryParts wsX11_buryParts) := goodIn_app (goodIn_of _ (by decide +kernel)) ggX11_release_X11_buryParts
set_option maxRecDepth 20000 in
theorem ggX11_setHold_X11_isHold : GoodIn wsX11_setHold wsX11_isHold := goodIn_r _ [6, 1, 7, 8, 5, 9, 110, 111, 112, 113, 114, 115, 116, 117, 118, 119, 120, 121, 122, 123, 124, 125, 126, 127, 128, 129, 130, 131, 132, 133, 134, 135, 136, 137, 138, 139] rfl (by decide +kernel)
set_option maxRecDepth 20000 in
theorem gX11_setHold_X11_isHold : GoodIn wsX11_setHold (wsV RX11 419 RX11 yX11_isHold wsX11_isHold) := goodIn_app (goodIn_of _ (by decide +kernel)) ggX11_setHold_X11_isHold
set_option maxRecDepth 20000 in
theorem ggX11_setHold_X11_passes : GoodIn wsX11_setHold wsX11_passes := goodIn_r _ [13, 14, 15, 16, 5, 17, 18, 110, 111, 112, 113, 114, 115, 116, 117, 118, 119, 120, 121, 122, 123, 124, 125, 126, 127, 128, 129, 130, 131, 132, 133, 134, 135, 136, 137, 138, 139] rfl (by decide +kernel)
set_option maxRecDepth 20000 in
theorem gX11_setHold_X11_passes : GoodIn wsX11_setHold (wsV RX11 94 RX11 yX11_passes wsX11_passes) := goodIn_app (goodIn_of _ (by decide +kernel)) ggX11_setHold_X11_passes
set_option maxRecDepth 20000 in
theorem ggX11_setHold_X11_holdValue : GoodIn wsX11_setHold wsX11_holdValue := goodIn_r _ [22, 1, 110, 111, 112, 113, 114, 115, 116, 117, 118, 119, 120, 121, 122, 123, 124, 125, 126, 127, 128, 129, 130, 131, 132, 133, 134, 135, 136, 137, 138, 139] rfl (by decide +kernel)
set_option maxRecDepth 20000 in
theorem gX11_setHold_X11_holdValue : GoodIn wsX11_setHold (wsV RX11 293 RX11 yX11_holdValue wsX11_holdValue) := goodIn_app (goodIn_of _ (by decide +kernel)) ggX11_setHold_X11_holdValue
set_option maxRecDepth 20000 in
theorem ggX11_setHold_X11_remember : GoodIn wsX11_setHold wsX11_remember := goodIn_r _ [26, 27, 28, 29, 1, 30, 31, 32, 110, 111, 112, 113, 114, 115, 116, 117, 118, 119, 120, 121, 122, 123, 124, 125, 126, 127, 128, 129, 130, 131, 132, 133, 134, 135, 136, 137, 138, 139] rfl (by decide +kernel)
set_option maxRecDepth 20000 in
theorem gX11_setHold_X11_remember : GoodIn wsX11_setHold (wsV RX11 256 RX11 yX11_remember wsX11_remember) := goodIn_app (goodIn_of _ (by decide +kernel)) ggX11_setHold_X11_remember
set_option maxRecDepth 20000 in
theorem ggX11_setHold_X11_release : GoodIn wsX11_setHold wsX11_release := goodIn_r _ [36, 1, 37, 38, 39, 5, 40, 41, 42, 43, 44, 45, 46, 47, 48, 7, 8, 9, 49, 50, 51, 52, 53, 54, 55, 56, 57, 58, 19, 20, 21, 22, 59, 60, 61, 62, 63, 64, 65, 66, 67, 68, 69, 70, 71, 72, 73, 74, 75, 76, 77, 78, 79, 80, 81, 82, 83, 84, 32, 85, 86, 87, 88, 89, 90, 91, 92, 93, 94, 95, 96, 97, 98, 99, 100, 101, 102, 103, 104, 105, 106, 107, 108, 109, 110, 111, 112, 113, 114, 115, 116, 117, 118, 119, 120, 121, 122, 123, 124, 125, 126, 127, 128, 129, 130, 131, 132, 133, 134, 135, 136, 137, 138, 139] rfl (by decide +kernel)
set_option maxRecDepth 20000 in
theorem gX11_setHold_X11_release : GoodIn wsX11_setHold (wsV RX11 422 RX11 yX11_release wsX11_release) := goodIn_app (goodIn_of _ (by decide +kernel)) ggX11_setHold_X11_release
set_option maxRecDepth 20000 in
theorem ggX11_heldOnlyBy_X11_isHold : GoodIn wsX11_heldOnlyBy wsX11_isHold := goodIn_r _ [6, 1, 7, 8, 5, 9, 72, 73, 74, 75, 76, 77, 78, 79, 80, 81, 82, 83, 84, 85, 86, 87, 88, 89, 90, 91, 92, 93, 94, 95, 96, 97, 98, 99, 100, 101] rfl (by decide +kernel)
set_option maxRecDepth 20000 in
theorem gX11_heldOnlyBy_X11_isHold : GoodIn wsX11_heldOnlyBy (wsV RX11 419 RX11 yX11_isHold wsX11_isHold) := goodIn_app (goodIn_of _ (by decide +kernel)) ggX11_heldOnlyBy_X11_isHold
set_option maxRecDepth 20000 in
theorem ggX11_heldOnlyBy_X11_passes : GoodIn wsX11_heldOnlyBy wsX11_passes := goodIn_r _ [13, 14, 15, 16, 5, 17, 18, 72, 73, 74, 75, 76, 77, 78, 79, 80, 81, 82, 83, 84, 85, 86, 87, 88, 89, 90, 91, 92, 93, 94, 95, 96, 97, 98, 99, 100, 101] rfl (by decide +kernel)
set_option maxRecDepth 20000 in
theorem gX11_heldOnlyBy_X11_passes : GoodIn wsX11_heldOnlyBy (wsV RX11 94 RX11 yX11_passes wsX11_passes) := goodIn_app (goodIn_of _ (by decide +kernel)) ggX11_heldOnlyBy_X11_passes
set_option maxRecDepth 20000 in
theorem ggX11_heldOnlyBy_X11_holdValue : GoodIn wsX11_heldOnlyBy wsX11_holdValue := goodIn_r _ [22, 1, 72, 73, 74, 75, 76, 77, 78, 79, 80, 81, 82, 83, 84, 85, 86, 87, 88, 89, 90, 91, 92, 93, 94, 95, 96, 97, 98, 99, 100, 101] rfl (by decide +kernel)
set_option maxRecDepth 20000 in
theorem gX11_heldOnlyBy_X11_holdValue : GoodIn wsX11_heldOnlyBy (wsV RX11 293 RX11 yX11_holdValue wsX11_holdValue) := goodIn_app (goodIn_of _ (by decide +kernel)) ggX11_heldOnlyBy_X11_holdValue
set_option maxRecDepth 20000 in
theorem ggX11_heldOnlyBy_X11_isHidden : GoodIn wsX11_heldOnlyBy wsX11_isHidden := goodIn_r _ [26, 27, 28, 29, 30, 5, 31, 1, 32, 33, 34, 7, 8, 9, 72, 73, 74, 75, 76, 77, 78, 79, 80, 81, 82, 83, 84, 85, 86, 87, 88, 89, 90, 91, 92, 93, 94, 95, 96, 97, 98, 99, 100, 101] rfl (by decide +kernel)
set_option maxRecDepth 20000 in
theorem gX11_heldOnlyBy_X11_isHidden : GoodIn wsX11_heldOnlyBy (wsV RX11 387 RX11 yX11_isHidden wsX11_isHidden) := goodIn_app (goodIn_of _ (by decide +kernel)) ggX11_heldOnlyBy_X11_isHidden
set_option maxRecDepth 20000 in
theorem ggX11_heldOnlyBy_X11_covers : GoodIn wsX11_heldOnlyBy wsX11_covers := goodIn_r _ [38, 1, 39, 40, 41, 5, 42, 43, 44, 19, 20, 21, 22, 45, 46, 47, 48, 7, 8, 9, 49, 50, 51, 52, 53, 54, 55, 56, 57, 58, 59, 60, 61, 62, 63, 64, 65, 66, 67, 68, 69, 70, 71, 72, 73, 74, 75, 76, 77, 78, 79, 80, 81, 82, 83, 84, 85, 86, 87, 88, 89, 90, 91, 92, 93, 94, 95, 96, 97, 98, 99, 100, 101] rfl (by decide +kernel)
set_option maxRecDepth 20000 in
theorem gX11_heldOnlyBy_X11_covers : GoodIn wsX11_heldOnlyBy (wsV RX11 319 RX11 yX11_covers wsX11_covers) := goodIn_app (goodIn_of _ (by decide +kernel)) ggX11_heldOnlyBy_X11_covers
set_option maxRecDepth 20000 in
theorem ggX11_setQuota_X11_isUser : GoodIn wsX11_setQuota wsX11_isUser := goodIn_r _ [7, 2, 8, 9, 6, 10, 30, 31, 32, 33, 34, 35, 36, 37, 38, 39, 40, 41, 42, 43, 44, 45, 46, 47, 48, 49, 50, 51, 52, 53, 54, 55, 56, 57, 58, 59] rfl (by decide +kernel)
set_option maxRecDepth 20000 in
theorem gX11_setQuota_X11_isUser : GoodIn wsX11_setQuota (wsV RX11 76 RX11 yX11_isUser wsX11_isUser) := goodIn_app (goodIn_of _ (by decide +kernel)) ggX11_setQuota_X11_isUser
set_option maxRecDepth 20000 in
theorem ggX11_setQuota_X11_in : GoodIn wsX11_setQuota wsX11_in := goodIn_r _ [10] rfl (by decide +kernel)
set_option maxRecDepth 20000 in
theorem gX11_setQuota_X11_in : GoodIn wsX11_setQuota (va_wsS RX11 64 yX11_in wsX11_in) := goodIn_app (goodIn_of _ (by decide +kernel)) ggX11_setQuota_X11_in
set_option maxRecDepth 20000 in
theorem ggX11_setQuota_X11_passes2 : GoodIn wsX11_setQuota wsX11_passes2 := goodIn_r _ [14, 15, 16, 17, 6, 18, 19, 30, 31, 32, 33, 34, 35, 36, 37, 38, 39, 40, 41, 42, 43, 44, 45, 46, 47, 48, 49, 50, 51, 52, 53, 54, 55, 56, 57, 58, 59] rfl (by decide +kernel)
set_option maxRecDepth 20000 in
theorem gX11_setQuota_X11_passes2 : GoodIn wsX11_setQuota (wsV RX11 267 RX11 yX11_passes2 wsX11_passes2) := goodIn_app (goodIn_of _ (by decide +kernel)) ggX11_setQuota_X11_passes2
set_option maxRecDepth 20000 in
theorem ggX11_setQuota_X11_remember : GoodIn wsX11_setQuota wsX11_remember := goodIn_r _ [23, 24, 25, 26, 2, 27, 28, 29, 30, 31, 32, 33, 34, 35, 36, 37, 38, 39, 40, 41, 42, 43, 44, 45, 46, 47, 48, 49, 50, 51, 52, 53, 54, 55, 56, 57, 58, 59] rfl (by decide +kernel)
set_option maxRecDepth 20000 in
theorem gX11_setQuota_X11_remember : GoodIn wsX11_setQuota (wsV RX11 256 RX11 yX11_remember wsX11_remember) := goodIn_app (goodIn_of _ (by decide +kernel)) ggX11_setQuota_X11_remember
set_option maxRecDepth 20000 in
theorem ggX11_countLives_X11_refAt : GoodIn wsX11_countLives wsX11_refAt := goodIn_r _ [7] rfl (by decide +kernel)
set_option maxRecDepth 20000 in
theorem gX11_countLives_X11_refAt : GoodIn wsX11_countLives (va_wsS RX11 68 yX11_refAt wsX11_refAt) := goodIn_app (goodIn_of _ (by decide +kernel)) ggX11_countLives_X11_refAt
set_option maxRecDepth 20000 in
theorem ggX11_leave_X11_refAt : GoodIn wsX11_leave wsX11_refAt := goodIn_r _ [6] rfl (by decide +kernel)
set_option maxRecDepth 20000 in
theorem gX11_leave_X11_refAt : GoodIn wsX11_leave (va_wsS RX11 68 yX11_refAt wsX11_refAt) := goodIn_app (goodIn_of _ (by decide +kernel)) ggX11_leave_X11_refAt
set_option maxRecDepth 20000 in
theorem ggX11_leave_X11_ceases : GoodIn wsX11_leave wsX11_ceases := goodIn_r _ [10, 2, 11, 12, 13, 5, 14, 15, 16, 17, 18, 19, 20, 21, 22, 23, 24, 25, 26, 27, 28, 29, 30, 31, 32, 33, 34, 35, 36, 37, 38, 39, 40, 41, 42, 43, 44, 45, 46, 47, 48, 49, 50, 51, 52, 53, 54, 3, 4, 6, 55, 56, 57, 58, 59, 60, 61, 62, 63, 64, 65, 66, 67, 68, 69, 70, 71, 72, 73, 74, 75, 76, 77, 78, 79, 80, 81, 82, 83, 84, 89, 90, 91, 92, 93, 94, 95, 96, 97, 98, 99, 100, 101, 102, 103, 104, 105, 106, 107, 108, 109, 110, 111, 112, 113, 114, 115, 116, 117, 118] rfl (by decide +kernel)
set_option maxRecDepth 20000 in
theorem gX11_leave_X11_ceases : GoodIn wsX11_leave (wsV RX11 416 RX11 yX11_ceases wsX11_ceases) := goodIn_app (goodIn_of _ (by decide +kernel)) ggX11_leave_X11_ceases
set_option maxRecDepth 20000 in
theorem ggX11_leave_X11_enter : GoodIn wsX11_leave wsX11_enter := goodIn_r _ [88, 2, 3, 4, 5, 6, 89, 90, 91, 92, 93, 94, 95, 96, 97, 98, 99, 100, 101, 102, 103, 104, 105, 106, 107, 108, 109, 110, 111, 112, 113, 114, 115, 116, 117, 118] rfl (by decide +kernel)
set_option maxRecDepth 20000 in
theorem gX11_leave_X11_enter : GoodIn wsX11_leave (wsV RX11 413 RX11 yX11_enter wsX11_enter) := goodIn_app (goodIn_of _ (by decide +kernel)) ggX11_leave_X11_enter
set_option maxRecDepth 20000 in
theorem ggX11_leave_X11_log : GoodIn wsX11_leave wsX11_log := goodIn_r _ [58, 59, 2, 89, 90, 91, 92, 93, 94, 95, 96, 97, 98, 99, 100, 101, 102, 103, 104, 105, 106, 107, 108, 109, 110, 111, 112, 113, 114, 115, 116, 117, 118] rfl (by decide +kernel)
set_option maxRecDepth 20000 in
theorem gX11_leave_X11_log : GoodIn wsX11_leave (wsV RX11 315 RX11 yX11_log wsX11_log) := goodIn_app (goodIn_of _ (by decide +kernel)) ggX11_leave_X11_log
set_option maxRecDepth 20000 in
theorem ggX11_leaveAll_X11_countLives : GoodIn wsX11_leaveAll wsX11_countLives := goodIn_r _ [7, 8, 2, 1, 9, 10, 6, 11, 106, 107, 108, 109, 110, 111, 112, 113, 114, 115, 116, 117, 118, 119, 120, 121, 122, 123, 124, 125, 126, 127, 128, 129, 130, 131, 132, 133, 134, 135] rfl (by decide +kernel)
set_option maxRecDepth 20000 in
theorem gX11_leaveAll_X11_countLives : GoodIn wsX11_leaveAll (wsV RX11 427 RX11 yX11_countLives wsX11_countLives) := goodIn_app (goodIn_of _ (by decide +kernel)) ggX11_leaveAll_X11_countLives
set_option maxRecDepth 20000 in
theorem ggX11_leaveAll_X11_refAt : GoodIn wsX11_leaveAll wsX11_refAt := goodIn_r _ [11] rfl (by decide +kernel)
set_option maxRecDepth 20000 in
theorem gX11_leaveAll_X11_refAt : GoodIn wsX11_leaveAll (va_wsS RX11 68 yX11_refAt wsX11_refAt) := goodIn_app (goodIn_of _ (by decide +kernel)) ggX11_leaveAll_X11_refAt
set_option maxRecDepth 20000 in
theorem ggX11_leaveAll_X11_isDue : GoodIn wsX11_leaveAll wsX11_isDue := goodIn_r _ [15, 1, 8, 2, 106, 107, 108, 109, 110, 111, 112, 113, 114, 115, 116, 117, 118, 119, 120, 121, 122, 123, 124, 125, 126, 127, 128, 129, 130, 131, 132, 133, 134, 135] rfl (by decide +kernel)
set_option maxRecDepth 20000 in
theorem gX11_leaveAll_X11_isDue : GoodIn wsX11_leaveAll (wsV RX11 430 RX11 yX11_isDue wsX11_isDue) := goodIn_app (goodIn_of _ (by decide +kernel)) ggX11_leaveAll_X11_isDue
set_option maxRecDepth 20000 in
theorem ggX11_leaveAll_X11_classValue : GoodIn wsX11_leaveAll wsX11_classValue := goodIn_r _ [19, 1, 106, 107, 108, 109, 110, 111, 112, 113, 114, 115, 116, 117, 118, 119, 120, 121, 122, 123, 124, 125, 126, 127, 128, 129, 130, 131, 132, 133, 134, 135] rfl (by decide +kernel)
set_option maxRecDepth 20000 in
theorem gX11_leaveAll_X11_classValue : GoodIn wsX11_leaveAll (wsV RX11 271 RX11 yX11_classValue wsX11_classValue) := goodIn_app (goodIn_of _ (by decide +kernel)) ggX11_leaveAll_X11_classValue
set_option maxRecDepth 20000 in
theorem ggX11_leaveAll_X11_leave : GoodIn wsX11_leaveAll wsX11_leave := goodIn_r _ [23, 8, 1, 9, 10, 6, 11, 24, 25, 26, 27, 28, 29, 30, 31, 32, 33, 34, 35, 36, 37, 38, 39, 40, 41, 42, 43, 44, 45, 46, 47, 48, 49, 50, 51, 52, 53, 54, 55, 56, 57, 58, 59, 60, 61, 62, 63, 64, 65, 66, 67, 68, 69, 70, 71, 72, 73, 74, 75, 76, 77, 78, 79, 80, 81, 82, 83, 84, 85, 86, 87, 88, 89, 90, 91, 92, 93, 94, 95, 96, 97, 98, 99, 100, 101, 102, 103, 104, 105, 106, 107, 108, 109, 110, 111, 112, 113, 114, 115, 116, 117, 118, 119, 120, 121, 122, 123, 124, 125, 126, 127, 128, 129, 130, 131, 132, 133, 134, 135] rfl (by decide +kernel)
set_option maxRecDepth 20000 in
theorem gX11_leaveAll_X11_leave : GoodIn wsX11_leaveAll (wsV RX11 433 RX11 yX11_leave wsX11_leave) := goodIn_app (goodIn_of _ (by decide +kernel)) ggX11_leaveAll_X11_leave
set_option maxRecDepth 20000 in
theorem ggX11_layAging_X11_refAt : GoodIn wsX11_layAging wsX11_refAt := goodIn_r _ [7] rfl (by decide +kernel)
set_option maxRecDepth 20000 in
theorem gX11_layAging_X11_refAt : GoodIn wsX11_layAging (va_wsS RX11 68 yX11_refAt wsX11_refAt) := goodIn_app (goodIn_of _ (by decide +kernel)) ggX11_layAging_X11_refAt
set_option maxRecDepth 20000 in
theorem ggX11_leaveInThought_X11_leaveAll : GoodIn wsX11_leaveInThought wsX11_leaveAll := goodIn_r _ [8, 2, 9, 10, 11, 12, 7, 13, 14, 15, 16, 17, 18, 19, 20, 21, 22, 23, 24, 25, 26, 27, 28, 29, 30, 31, 32, 33, 34, 35, 36, 37, 38, 39, 40, 41, 42, 43, 44, 45, 46, 47, 48, 49, 50, 51, 52, 53, 54, 55, 56, 57, 58, 59, 60, 61, 62, 63, 64, 65, 66, 67, 68, 69, 70, 71, 72, 73, 74, 75, 76, 77, 78, 79, 80, 81, 82, 83, 84, 85, 86, 87, 88, 89, 90, 91, 92, 93, 94, 95, 96, 97, 98, 99, 100, 101, 102, 103, 104, 105, 106, 107, 108, 109, 110, 111, 117, 118, 119, 120, 121, 122, 123, 124, 125, 126, 127, 128, 129, 130, 131, 132, 133, 134, 135, 136, 137, 138, 139, 140, 141, 142, 143, 144, 145, 146] rfl (by decide +kernel)
set_option maxRecDepth 20000 in
theorem gX11_leaveInThought_X11_leaveAll : GoodIn wsX11_leaveInThought (wsV RX11 445 RX11 yX11_leaveAll wsX11_leaveAll) := goodIn_app (goodIn_of _ (by decide +kernel)) ggX11_leaveInThought_X11_leaveAll
set_option maxRecDepth 20000 in
theorem ggX11_leaveInThought_X11_layAging : GoodIn wsX11_leaveInThought wsX11_layAging := goodIn_r _ [115, 116, 3, 2, 15, 16, 7, 17, 117, 118, 119, 120, 121, 122, 123, 124, 125, 126, 127, 128, 129, 130, 131, 132, 133, 134, 135, 136, 137, 138, 139, 140, 141, 142, 143, 144, 145, 146] rfl (by decide +kernel)
set_option maxRecDepth 20000 in
theorem gX11_leaveInThought_X11_layAging : GoodIn wsX11_leaveInThought (wsV RX11 448 RX11 yX11_layAging wsX11_layAging) := goodIn_app (goodIn_of _ (by decide +kernel)) ggX11_leaveInThought_X11_layAging
set_option maxRecDepth 20000 in
theorem ggX11_round_X11_isStored : GoodIn wsX11_round wsX11_isStored := goodIn_r _ [6, 1, 7, 8, 5, 9, 10, 11, 12, 13, 23, 24, 25, 26, 27, 28, 29, 30, 31, 32, 33, 34, 35, 36, 37, 38, 39, 40, 41, 42, 43, 44, 45, 46, 47, 48, 49, 50, 51, 52] rfl (by decide +kernel)
set_option maxRecDepth 20000 in
theorem gX11_round_X11_isStored : GoodIn wsX11_round (wsV RX11 336 RX11 yX11_isStored wsX11_isStored) := goodIn_app (goodIn_of _ (by decide +kernel)) ggX11_round_X11_isStored
set_option maxRecDepth 20000 in
theorem ggX11_round_X11_isDead : GoodIn wsX11_round wsX11_isDead := goodIn_r _ [17, 10, 11, 12, 5, 13, 1, 23, 24, 25, 26, 27, 28, 29, 30, 31, 32, 33, 34, 35, 36, 37, 38, 39, 40, 41, 42, 43, 44, 45, 46, 47, 48, 49, 50, 51, 52] rfl (by decide +kernel)
set_option maxRecDepth 20000 in
theorem gX11_round_X11_isDead : GoodIn wsX11_round (wsV RX11 309 RX11 yX11_isDead wsX11_isDead) := goodIn_app (goodIn_of _ (by decide +kernel)) ggX11_round_X11_isDead
set_option maxRecDepth 20000 in
theorem ggX11_round_X11_partValue : GoodIn wsX11_round wsX11_partValue := goodIn_r _ [13, 1, 23, 24, 25, 26, 27, 28, 29, 30, 31, 32, 33, 34, 35, 36, 37, 38, 39, 40, 41, 42, 43, 44, 45, 46, 47, 48, 49, 50, 51, 52] rfl (by decide +kernel)
set_option maxRecDepth 20000 in
theorem gX11_round_X11_partValue : GoodIn wsX11_round (wsV RX11 84 RX11 yX11_partValue wsX11_partValue) := goodIn_app (goodIn_of _ (by decide +kernel)) ggX11_round_X11_partValue
set_option maxRecDepth 20000 in
theorem ggX11_round_X11_log : GoodIn wsX11_round wsX11_log := goodIn_r _ [21, 22, 1, 23, 24, 25, 26, 27, 28, 29, 30, 31, 32, 33, 34, 35, 36, 37, 38, 39, 40, 41, 42, 43, 44, 45, 46, 47, 48, 49, 50, 51, 52] rfl (by decide +kernel)
set_option maxRecDepth 20000 in
theorem gX11_round_X11_log : GoodIn wsX11_round (wsV RX11 315 RX11 yX11_log wsX11_log) := goodIn_app (goodIn_of _ (by decide +kernel)) ggX11_round_X11_log
set_option maxRecDepth 20000 in
theorem ggX11_passDay_X11_leaveAll : GoodIn wsX11_passDay wsX11_leaveAll := goodIn_r _ [7, 1, 8, 9, 10, 11, 6, 12, 13, 14, 15, 16, 17, 18, 19, 20, 21, 22, 23, 24, 25, 26, 27, 28, 29, 30, 31, 32, 33, 34, 35, 36, 37, 38, 39, 40, 41, 42, 43, 44, 45, 46, 47, 48, 49, 50, 51, 52, 53, 54, 55, 56, 57, 58, 59, 60, 61, 62, 63, 64, 65, 66, 67, 68, 69, 70, 71, 72, 73, 74, 75, 76, 77, 78, 79, 80, 2, 81, 82, 83, 84, 85, 86, 87, 88, 89, 90, 91, 92, 93, 94, 95, 96, 97, 98, 99, 100, 101, 102, 103, 104, 105, 106, 107, 108, 109, 129, 130, 131, 132, 133, 134, 135, 136, 137, 138, 139, 140, 141, 142, 143, 144, 145, 146, 147, 148, 149, 150, 151, 152, 153, 154, 155, 156, 157, 158] rfl (by decide +kernel)
set_option maxRecDepth 20000 in
theorem gX11_passDay_X11_leaveAll : GoodIn wsX11_passDay (wsV RX11 445 RX11 yX11_leaveAll wsX11_leaveAll) := goodIn_app (goodIn_of _ (by decide +kernel)) ggX11_passDay_X11_leaveAll
set_option maxRecDepth 20000 in
theorem ggX11_passDay_X11_leaveInThought : GoodIn wsX11_passDay wsX11_leaveInThought := goodIn_r _ [113, 114, 1, 115, 3, 4, 5, 6, 7, 8, 9, 10, 11, 12, 13, 14, 15, 16, 17, 18, 19, 20, 21, 22, 23, 24, 25, 26, 27, 28, 29, 30, 31, 32, 33, 34, 35, 36, 37, 38, 39, 40, 41, 42, 43, 44, 45, 46, 47, 48, 49, 50, 51, 52, 53, 54, 55, 56, 57, 58, 59, 60, 61, 62, 63, 64, 65, 66, 67, 68, 69, 70, 71, 72, 73, 74, 75, 76, 77, 78, 79, 80, 2, 81, 82, 83, 84, 85, 86, 87, 88, 89, 90, 91, 92, 93, 94, 95, 96, 97, 98, 99, 100, 101, 102, 103, 104, 105, 106, 107, 108, 109, 116, 117, 118, 119, 120, 129, 130, 131, 132, 133, 134, 135, 136, 137, 138, 139, 140, 141, 142, 143, 144, 145, 146, 147, 148, 149, 150, 151, 152, 153, 154, 155, 156, 157, 158] rfl (by decide +kernel)
set_option maxRecDepth 20000 in
theorem gX11_passDay_X11_leaveInThought : GoodIn wsX11_passDay (wsV RX11 451 RX11 yX11_leaveInThought wsX11_leaveInThought) := goodIn_app (goodIn_of _ (by decide +kernel)) ggX11_passDay_X11_leaveInThought
set_option maxRecDepth 20000 in
theorem ggX11_passDay_X11_round : GoodIn wsX11_passDay wsX11_round := goodIn_r _ [124, 1, 125, 126, 127, 6, 128, 51, 52, 53, 58, 59, 60, 61, 98, 99, 100, 101, 77, 78, 79, 80, 2, 129, 130, 131, 132, 133, 134, 135, 136, 137, 138, 139, 140, 141, 142, 143, 144, 145, 146, 147, 148, 149, 150, 151, 152, 153, 154, 155, 156, 157, 158] rfl (by decide +kernel)
set_option maxRecDepth 20000 in
theorem gX11_passDay_X11_round : GoodIn wsX11_passDay (wsV RX11 454 RX11 yX11_round wsX11_round) := goodIn_app (goodIn_of _ (by decide +kernel)) ggX11_passDay_X11_round
set_option maxRecDepth 20000 in
theorem ggX11_passDay_X11_log : GoodIn wsX11_passDay wsX11_log := goodIn_r _ [80, 2, 1, 129, 130, 131, 132, 133, 134, 135, 136, 137, 138, 139, 140, 141, 142, 143, 144, 145, 146, 147, 148, 149, 150, 151, 152, 153, 154, 155, 156, 157, 158] rfl (by decide +kernel)
set_option maxRecDepth 20000 in
theorem gX11_passDay_X11_log : GoodIn wsX11_passDay (wsV RX11 315 RX11 yX11_log wsX11_log) := goodIn_app (goodIn_of _ (by decide +kernel)) ggX11_passDay_X11_log
set_option maxRecDepth 20000 in
theorem ggX11_advance_X11_in : GoodIn wsX11_advance wsX11_in := goodIn_r _ [7] rfl (by decide +kernel)
set_option maxRecDepth 20000 in
theorem gX11_advance_X11_in : GoodIn wsX11_advance (va_wsS RX11 64 yX11_in wsX11_in) := goodIn_app (goodIn_of _ (by decide +kernel)) ggX11_advance_X11_in
set_option maxRecDepth 20000 in
theorem ggX11_advance_X11_passes2 : GoodIn wsX11_advance wsX11_passes2 := goodIn_r _ [11, 12, 13, 14, 6, 15, 16, 153, 154, 155, 156, 157, 158, 159, 160, 161, 162, 163, 164, 165, 166, 167, 168, 169, 170, 171, 172, 173, 174, 175, 176, 177, 178, 179, 180, 181, 182] rfl (by decide +kernel)
set_option maxRecDepth 20000 in
theorem gX11_advance_X11_passes2 : GoodIn wsX11_advance (wsV RX11 267 RX11 yX11_passes2 wsX11_passes2) := goodIn_app (goodIn_of _ (by decide +kernel)) ggX11_advance_X11_passes2
set_option maxRecDepth 20000 in
theorem ggX11_advance_X11_remember : GoodIn wsX11_advance wsX11_remember := goodIn_r _ [20, 21, 22, 23, 2, 24, 25, 26, 153, 154, 155, 156, 157, 158, 159, 160, 161, 162, 163, 164, 165, 166, 167, 168, 169, 170, 171, 172, 173, 174, 175, 176, 177, 178, 179, 180, 181, 182] rfl (by decide +kernel)
set_option maxRecDepth 20000 in
theorem gX11_advance_X11_remember : GoodIn wsX11_advance (wsV RX11 256 RX11 yX11_remember wsX11_remember) := goodIn_app (goodIn_of _ (by decide +kernel)) ggX11_advance_X11_remember
set_option maxRecDepth 20000 in
theorem ggX11_advance_X11_passDay : GoodIn wsX11_advance wsX11_passDay := goodIn_r _ [30, 2, 31, 32, 33, 34, 6, 35, 36, 37, 38, 39, 40, 41, 42, 43, 44, 45, 46, 47, 48, 49, 50, 51, 52, 53, 54, 55, 56, 57, 58, 59, 60, 61, 62, 63, 64, 65, 66, 67, 68, 69, 70, 71, 72, 73, 74, 75, 76, 77, 78, 4, 5, 7, 79, 80, 81, 82, 83, 84, 85, 86, 87, 88, 89, 90, 91, 92, 93, 94, 95, 96, 97, 98, 99, 100, 26, 101, 102, 103, 104, 105, 106, 107, 108, 109, 110, 111, 112, 113, 114, 115, 116, 117, 118, 119, 120, 121, 122, 123, 124, 125, 126, 127, 128, 129, 130, 131, 132, 133, 134, 135, 136, 137, 138, 139, 140, 141, 142, 143, 144, 145, 146, 147, 148, 149, 150, 151, 152, 153, 154, 155, 156, 157, 158, 159, 160, 161, 162, 163, 164, 165, 166, 167, 168, 169, 170, 171, 172, 173, 174, 175, 176, 177, 178, 179, 180, 181, 182] rfl (by decide +kernel)
set_option maxRecDepth 20000 in
theorem gX11_advance_X11_passDay : GoodIn wsX11_advance (wsV RX11 460 RX11 yX11_passDay wsX11_passDay) := goodIn_app (goodIn_of _ (by decide +kernel)) ggX11_advance_X11_passDay
set_option maxRecDepth 20000 in
theorem ggX11_removedOn_X11_isStored : GoodIn wsX11_removedOn wsX11_isStored := goodIn_r _ [6, 1, 7, 8, 5, 9, 10, 11, 12, 13, 151, 152, 153, 154, 155, 156, 157, 158, 159, 160, 161, 162, 163, 164, 165, 166, 167, 168, 169, 170, 171, 172, 173, 174, 175, 176, 177, 178, 179, 180] rfl (by decide +kernel)
set_option maxRecDepth 20000 in
theorem gX11_removedOn_X11_isStored : GoodIn wsX11_removedOn (wsV RX11 336 RX11 yX11_isStored wsX11_isStored) := goodIn_app (goodIn_of _ (by decide +kernel)) ggX11_removedOn_X11_isStored
set_option maxRecDepth 20000 in
theorem ggX11_removedOn_X11_passes : GoodIn wsX11_removedOn wsX11_passes := goodIn_r _ [17, 18, 19, 20, 5, 21, 22, 151, 152, 153, 154, 155, 156, 157, 158, 159, 160, 161, 162, 163, 164, 165, 166, 167, 168, 169, 170, 171, 172, 173, 174, 175, 176, 177, 178, 179, 180] rfl (by decide +kernel)
set_option maxRecDepth 20000 in
theorem gX11_removedOn_X11_passes : GoodIn wsX11_removedOn (wsV RX11 94 RX11 yX11_passes wsX11_passes) := goodIn_app (goodIn_of _ (by decide +kernel)) ggX11_removedOn_X11_passes
set_option maxRecDepth 20000 in
theorem ggX11_removedOn_X11_beginThought : GoodIn wsX11_removedOn wsX11_beginThought := goodIn_r _ [26, 27, 1, 28, 29, 151, 152, 153, 154, 155, 156, 157, 158, 159, 160, 161, 162, 163, 164, 165, 166, 167, 168, 169, 170, 171, 172, 173, 174, 175, 176, 177, 178, 179, 180] rfl (by decide +kernel)
set_option maxRecDepth 20000 in
theorem gX11_removedOn_X11_beginThought : GoodIn wsX11_removedOn (wsV RX11 463 RX11 yX11_beginThought wsX11_beginThought) := goodIn_app (goodIn_of _ (by decide +kernel)) ggX11_removedOn_X11_beginThought
set_option maxRecDepth 20000 in
theorem ggX11_removedOn_X11_passDay : GoodIn wsX11_removedOn wsX11_passDay := goodIn_r _ [33, 1, 28, 34, 35, 36, 5, 37, 38, 39, 40, 41, 42, 43, 44, 45, 46, 47, 48, 49, 50, 51, 52, 53, 54, 55, 56, 57, 58, 59, 60, 61, 62, 63, 64, 65, 66, 67, 68, 69, 70, 71, 72, 73, 74, 75, 76, 77, 78, 79, 80, 7, 8, 9, 81, 82, 83, 84, 10, 11, 12, 13, 85, 86, 87, 88, 89, 90, 91, 92, 93, 94, 95, 96, 97, 98, 99, 100, 101, 102, 103, 104, 105, 106, 107, 108, 109, 110, 111, 112, 113, 114, 115, 116, 117, 118, 119, 120, 121, 122, 123, 124, 125, 126, 127, 128, 129, 130, 131, 132, 133, 134, 135, 136, 29, 137, 138, 139, 140, 141, 142, 143, 144, 145, 146, 2, 3, 4, 6, 151, 152, 153, 154, 155, 156, 157, 158, 159, 160, 161, 162, 163, 164, 165, 166, 167, 168, 169, 170, 171, 172, 173, 174, 175, 176, 177, 178, 179, 180] rfl (by decide +kernel)
set_option maxRecDepth 20000 in
theorem gX11_removedOn_X11_passDay : GoodIn wsX11_removedOn (wsV RX11 460 RX11 yX11_passDay wsX11_passDay) := goodIn_app (goodIn_of _ (by decide +kernel)) ggX11_removedOn_X11_passDay
set_option maxRecDepth 20000 in
theorem ggX11_removedOn_X11_endThought : GoodIn wsX11_removedOn wsX11_endThought := goodIn_r _ [150, 1, 27, 28, 151, 152, 153, 154, 155, 156, 157, 158, 159, 160, 161, 162, 163, 164, 165, 166, 167, 168, 169, 170, 171, 172, 173, 174, 175, 176, 177, 178, 179, 180] rfl (by decide +kernel)
set_option maxRecDepth 20000 in
theorem gX11_removedOn_X11_endThought : GoodIn wsX11_removedOn (wsV RX11 466 RX11 yX11_endThought wsX11_endThought) := goodIn_app (goodIn_of _ (by decide +kernel)) ggX11_removedOn_X11_endThought
set_option maxRecDepth 20000 in
theorem ggX11_emptyOn_X11_beginThought : GoodIn wsX11_emptyOn wsX11_beginThought := goodIn_r _ [7, 8, 2, 9, 10, 147, 148, 149, 150, 151, 152, 153, 154, 155, 156, 157, 158, 159, 160, 161, 162, 163, 164, 165, 166, 167, 168, 169, 170, 171, 172, 173, 174, 175, 176] rfl (by decide +kernel)
set_option maxRecDepth 20000 in
theorem gX11_emptyOn_X11_beginThought : GoodIn wsX11_emptyOn (wsV RX11 463 RX11 yX11_beginThought wsX11_beginThought) := goodIn_app (goodIn_of _ (by decide +kernel)) ggX11_emptyOn_X11_beginThought
set_option maxRecDepth 20000 in
theorem ggX11_emptyOn_X11_stored : GoodIn wsX11_emptyOn wsX11_stored := goodIn_r _ [14, 2, 15, 16, 17, 6, 18, 19, 20, 21, 22, 23, 24, 25, 147, 148, 149, 150, 151, 152, 153, 154, 155, 156, 157, 158, 159, 160, 161, 162, 163, 164, 165, 166, 167, 168, 169, 170, 171, 172, 173, 174, 175, 176] rfl (by decide +kernel)
set_option maxRecDepth 20000 in
theorem gX11_emptyOn_X11_stored : GoodIn wsX11_emptyOn (wsV RX11 339 RX11 yX11_stored wsX11_stored) := goodIn_app (goodIn_of _ (by decide +kernel)) ggX11_emptyOn_X11_stored
set_option maxRecDepth 20000 in
theorem ggX11_emptyOn_X11_passDay : GoodIn wsX11_emptyOn wsX11_passDay := goodIn_r _ [29, 2, 9, 30, 31, 32, 6, 33, 34, 35, 36, 37, 38, 39, 40, 41, 42, 43, 44, 45, 46, 47, 48, 49, 50, 51, 52, 53, 54, 55, 56, 57, 58, 59, 60, 61, 62, 63, 64, 65, 66, 67, 68, 69, 70, 71, 72, 73, 74, 75, 76, 19, 20, 21, 77, 78, 79, 80, 22, 23, 24, 25, 81, 82, 83, 84, 85, 86, 87, 88, 89, 90, 91, 92, 93, 94, 95, 96, 97, 98, 99, 100, 101, 102, 103, 104, 105, 106, 107, 108, 109, 110, 111, 112, 113, 114, 115, 116, 117, 118, 119, 120, 121, 122, 123, 124, 125, 126, 127, 128, 129, 130, 131, 132, 10, 133, 134, 135, 136, 137, 138, 139, 140, 141, 142, 15, 16, 17, 18, 147, 148, 149, 150, 151, 152, 153, 154, 155, 156, 157, 158, 159, 160, 161, 162, 163, 164, 165, 166, 167, 168, 169, 170, 171, 172, 173, 174, 175, 176] rfl (by decide +kernel)
set_option maxRecDepth 20000 in
theorem gX11_emptyOn_X11_passDay : GoodIn wsX11_emptyOn (wsV RX11 460 RX11 yX11_passDay wsX11_passDay) := goodIn_app (goodIn_of _ (by decide +kernel)) ggX11_emptyOn_X11_passDay
set_option maxRecDepth 20000 in
theorem ggX11_emptyOn_X11_endThought : GoodIn wsX11_emptyOn wsX11_endThought := goodIn_r _ [146, 2, 8, 9, 147, 148, 149, 150, 151, 152, 153, 154, 155, 156, 157, 158, 159, 160, 161, 162, 163, 164, 165, 166, 167, 168, 169, 170, 171, 172, 173, 174, 175, 176] rfl (by decide +kernel)
set_option maxRecDepth 20000 in
theorem gX11_emptyOn_X11_endThought : GoodIn wsX11_emptyOn (wsV RX11 466 RX11 yX11_endThought wsX11_endThought) := goodIn_app (goodIn_of _ (by decide +kernel)) ggX11_emptyOn_X11_endThought
set_option maxRecDepth 20000 in
theorem ggX11_areDays_X11_in : GoodIn wsX11_areDays wsX11_in := goodIn_r _ [5] rfl (by decide +kernel)
set_option maxRecDepth 20000 in
theorem gX11_areDays_X11_in : GoodIn wsX11_areDays (va_wsS RX11 64 yX11_in wsX11_in) := goodIn_app (goodIn_of _ (by decide +kernel)) ggX11_areDays_X11_in
set_option maxRecDepth 20000 in
theorem ggX11_bytesAfter_X11_areDays : GoodIn wsX11_bytesAfter wsX11_areDays := goodIn_r _ [4, 5, 6, 7, 3, 8] rfl (by decide +kernel)
set_option maxRecDepth 20000 in
theorem gX11_bytesAfter_X11_areDays : GoodIn wsX11_bytesAfter (va_wsS RX11 471 yX11_areDays wsX11_areDays) := goodIn_app (goodIn_of _ (by decide +kernel)) ggX11_bytesAfter_X11_areDays
set_option maxRecDepth 20000 in
theorem ggX11_bytesAfter_X11_passes : GoodIn wsX11_bytesAfter wsX11_passes := goodIn_r _ [12, 13, 14, 15, 3, 16, 17, 159, 160, 161, 162, 163, 164, 165, 166, 167, 168, 169, 170, 171, 172, 173, 174, 175, 176, 177, 178, 179, 180, 181, 182, 183, 184, 185, 186, 187, 188] rfl (by decide +kernel)
set_option maxRecDepth 20000 in
theorem gX11_bytesAfter_X11_passes : GoodIn wsX11_bytesAfter (wsV RX11 94 RX11 yX11_passes wsX11_passes) := goodIn_app (goodIn_of _ (by decide +kernel)) ggX11_bytesAfter_X11_passes
set_option maxRecDepth 20000 in
theorem ggX11_bytesAfter_X11_beginThought : GoodIn wsX11_bytesAfter wsX11_beginThought := goodIn_r _ [21, 22, 23, 24, 25, 159, 160, 161, 162, 163, 164, 165, 166, 167, 168, 169, 170, 171, 172, 173, 174, 175, 176, 177, 178, 179, 180, 181, 182, 183, 184, 185, 186, 187, 188] rfl (by decide +kernel)
set_option maxRecDepth 20000 in
theorem gX11_bytesAfter_X11_beginThought : GoodIn wsX11_bytesAfter (wsV RX11 463 RX11 yX11_beginThought wsX11_beginThought) := goodIn_app (goodIn_of _ (by decide +kernel)) ggX11_bytesAfter_X11_beginThought
set_option maxRecDepth 20000 in
theorem ggX11_bytesAfter_X11_passDay : GoodIn wsX11_bytesAfter wsX11_passDay := goodIn_r _ [29, 23, 24, 30, 31, 32, 3, 33, 34, 35, 36, 37, 38, 39, 40, 41, 42, 43, 44, 45, 46, 47, 48, 49, 50, 51, 52, 53, 54, 55, 56, 57, 58, 59, 60, 61, 62, 63, 64, 65, 66, 67, 68, 69, 70, 71, 72, 73, 74, 75, 76, 6, 7, 8, 77, 78, 79, 80, 81, 82, 83, 84, 85, 86, 87, 88, 89, 90, 91, 92, 93, 94, 95, 96, 97, 98, 99, 100, 101, 102, 103, 104, 105, 106, 107, 108, 109, 110, 111, 112, 113, 114, 115, 116, 117, 118, 119, 120, 121, 122, 123, 124, 125, 126, 127, 128, 129, 130, 131, 132, 133, 134, 135, 136, 25, 137, 138, 139, 140, 141, 142, 143, 144, 145, 146, 147, 148, 149, 150, 159, 160, 161, 162, 163, 164, 165, 166, 167, 168, 169, 170, 171, 172, 173, 174, 175, 176, 177, 178, 179, 180, 181, 182, 183, 184, 185, 186, 187, 188] rfl (by decide +kernel)
set_option maxRecDepth 20000 in
theorem gX11_bytesAfter_X11_passDay : GoodIn wsX11_bytesAfter (wsV RX11 460 RX11 yX11_passDay wsX11_passDay) := goodIn_app (goodIn_of _ (by decide +kernel)) ggX11_bytesAfter_X11_passDay
set_option maxRecDepth 20000 in
theorem ggX11_bytesAfter_X11_stored : GoodIn wsX11_bytesAfter wsX11_stored := goodIn_r _ [154, 23, 147, 148, 149, 3, 150, 6, 7, 8, 81, 82, 83, 84, 159, 160, 161, 162, 163, 164, 165, 166, 167, 168, 169, 170, 171, 172, 173, 174, 175, 176, 177, 178, 179, 180, 181, 182, 183, 184, 185, 186, 187, 188] rfl (by decide +kernel)
set_option maxRecDepth 20000 in
theorem gX11_bytesAfter_X11_stored : GoodIn wsX11_bytesAfter (wsV RX11 339 RX11 yX11_stored wsX11_stored) := goodIn_app (goodIn_of _ (by decide +kernel)) ggX11_bytesAfter_X11_stored
set_option maxRecDepth 20000 in
theorem ggX11_bytesAfter_X11_endThought : GoodIn wsX11_bytesAfter wsX11_endThought := goodIn_r _ [158, 23, 22, 24, 159, 160, 161, 162, 163, 164, 165, 166, 167, 168, 169, 170, 171, 172, 173, 174, 175, 176, 177, 178, 179, 180, 181, 182, 183, 184, 185, 186, 187, 188] rfl (by decide +kernel)
set_option maxRecDepth 20000 in
theorem gX11_bytesAfter_X11_endThought : GoodIn wsX11_bytesAfter (wsV RX11 466 RX11 yX11_endThought wsX11_endThought) := goodIn_app (goodIn_of _ (by decide +kernel)) ggX11_bytesAfter_X11_endThought
set_option maxRecDepth 20000 in
theorem ggX11_livesOf_X11_isLive : GoodIn wsX11_livesOf wsX11_isLive := goodIn_r _ [6, 7, 8, 9, 5, 10, 1, 11, 12, 13, 14, 15, 16, 17, 18, 19, 20, 21, 22, 23, 24, 25, 26, 27, 28, 29, 30, 31, 32, 33, 34, 35, 36, 37, 38, 39, 40, 41, 42, 43] rfl (by decide +kernel)
set_option maxRecDepth 20000 in
theorem gX11_livesOf_X11_isLive : GoodIn wsX11_livesOf (wsV RX11 348 RX11 yX11_isLive wsX11_isLive) := goodIn_app (goodIn_of _ (by decide +kernel)) ggX11_livesOf_X11_isLive
set_option maxRecDepth 20000 in
theorem ggX11_goneAfter_X11_isUser : GoodIn wsX11_goneAfter wsX11_isUser := goodIn_r _ [5, 6, 7, 8, 4, 9, 167, 168, 169, 170, 171, 172, 173, 174, 175, 176, 177, 178, 179, 180, 181, 182, 183, 184, 185, 186, 187, 188, 189, 190, 191, 192, 193, 194, 195, 196] rfl (by decide +kernel)
set_option maxRecDepth 20000 in
theorem gX11_goneAfter_X11_isUser : GoodIn wsX11_goneAfter (wsV RX11 76 RX11 yX11_isUser wsX11_isUser) := goodIn_app (goodIn_of _ (by decide +kernel)) ggX11_goneAfter_X11_isUser
set_option maxRecDepth 20000 in
theorem ggX11_goneAfter_X11_areDays : GoodIn wsX11_goneAfter wsX11_areDays := goodIn_r _ [12, 13, 7, 8, 4, 9] rfl (by decide +kernel)
set_option maxRecDepth 20000 in
theorem gX11_goneAfter_X11_areDays : GoodIn wsX11_goneAfter (va_wsS RX11 471 yX11_areDays wsX11_areDays) := goodIn_app (goodIn_of _ (by decide +kernel)) ggX11_goneAfter_X11_areDays
set_option maxRecDepth 20000 in
theorem ggX11_goneAfter_X11_passes2 : GoodIn wsX11_goneAfter wsX11_passes2 := goodIn_r _ [17, 18, 19, 20, 4, 21, 22, 167, 168, 169, 170, 171, 172, 173, 174, 175, 176, 177, 178, 179, 180, 181, 182, 183, 184, 185, 186, 187, 188, 189, 190, 191, 192, 193, 194, 195, 196] rfl (by decide +kernel)
set_option maxRecDepth 20000 in
theorem gX11_goneAfter_X11_passes2 : GoodIn wsX11_goneAfter (wsV RX11 267 RX11 yX11_passes2 wsX11_passes2) := goodIn_app (goodIn_of _ (by decide +kernel)) ggX11_goneAfter_X11_passes2
set_option maxRecDepth 20000 in
theorem ggX11_goneAfter_X11_livesOf : GoodIn wsX11_goneAfter wsX11_livesOf := goodIn_r _ [26, 6, 27, 28, 29, 4, 30, 31, 32, 33, 34, 35, 36, 37, 167, 168, 169, 170, 171, 172, 173, 174, 175, 176, 177, 178, 179, 180, 181, 182, 183, 184, 185, 186, 187, 188, 189, 190, 191, 192, 193, 194, 195, 196] rfl (by decide +kernel)
set_option maxRecDepth 20000 in
theorem gX11_goneAfter_X11_livesOf : GoodIn wsX11_goneAfter (wsV RX11 474 RX11 yX11_livesOf wsX11_livesOf) := goodIn_app (goodIn_of _ (by decide +kernel)) ggX11_goneAfter_X11_livesOf
set_option maxRecDepth 20000 in
theorem ggX11_goneAfter_X11_beginThought : GoodIn wsX11_goneAfter wsX11_beginThought := goodIn_r _ [41, 42, 6, 43, 44, 167, 168, 169, 170, 171, 172, 173, 174, 175, 176, 177, 178, 179, 180, 181, 182, 183, 184, 185, 186, 187, 188, 189, 190, 191, 192, 193, 194, 195, 196] rfl (by decide +kernel)
set_option maxRecDepth 20000 in
theorem gX11_goneAfter_X11_beginThought : GoodIn wsX11_goneAfter (wsV RX11 463 RX11 yX11_beginThought wsX11_beginThought) := goodIn_app (goodIn_of _ (by decide +kernel)) ggX11_goneAfter_X11_beginThought
set_option maxRecDepth 20000 in
theorem ggX11_goneAfter_X11_passDay : GoodIn wsX11_goneAfter wsX11_passDay := goodIn_r _ [48, 6, 43, 49, 50, 51, 4, 52, 53, 54, 55, 56, 57, 58, 35, 36, 37, 59, 60, 61, 62, 63, 64, 65, 66, 67, 68, 69, 70, 71, 72, 73, 74, 75, 76, 77, 78, 79, 80, 81, 82, 83, 84, 85, 86, 87, 88, 89, 90, 91, 92, 7, 8, 9, 93, 94, 95, 96, 97, 98, 99, 100, 101, 102, 103, 104, 105, 106, 107, 108, 109, 110, 111, 112, 113, 114, 115, 116, 117, 118, 119, 120, 121, 122, 123, 124, 125, 126, 127, 128, 31, 32, 33, 34, 129, 130, 131, 132, 133, 134, 135, 136, 137, 138, 139, 140, 141, 142, 143, 144, 145, 146, 147, 148, 44, 149, 150, 151, 152, 153, 154, 155, 156, 157, 158, 159, 160, 161, 162, 167, 168, 169, 170, 171, 172, 173, 174, 175, 176, 177, 178, 179, 180, 181, 182, 183, 184, 185, 186, 187, 188, 189, 190, 191, 192, 193, 194, 195, 196] rfl (by decide +kernel)
set_option maxRecDepth 20000 in
theorem gX11_goneAfter_X11_passDay : GoodIn wsX11_goneAfter (wsV RX11 460 RX11 yX11_passDay wsX11_passDay) := goodIn_app (goodIn_of _ (by decide +kernel)) ggX11_goneAfter_X11_passDay
set_option maxRecDepth 20000 in
theorem ggX11_goneAfter_X11_endThought : GoodIn wsX11_goneAfter wsX11_endThought := goodIn_r _ [166, 6, 42, 43, 167, 168, 169, 170, 171, 172, 173, 174, 175, 176, 177, 178, 179, 180, 181, 182, 183, 184, 185, 186, 187, 188, 189, 190, 191, 192, 193, 194, 195, 196] rfl (by decide +kernel)
set_option maxRecDepth 20000 in
theorem gX11_goneAfter_X11_endThought : GoodIn wsX11_goneAfter (wsV RX11 466 RX11 yX11_endThought wsX11_endThought) := goodIn_app (goodIn_of _ (by decide +kernel)) ggX11_goneAfter_X11_endThought
set_option maxRecDepth 20000 in
theorem ggX11_event_X11_in : GoodIn wsX11_event wsX11_in := goodIn_r _ [6] rfl (by decide +kernel)
set_option maxRecDepth 20000 in
theorem gX11_event_X11_in : GoodIn wsX11_event (va_wsS RX11 64 yX11_in wsX11_in) := goodIn_app (goodIn_of _ (by decide +kernel)) ggX11_event_X11_in
set_option maxRecDepth 20000 in
theorem ggX11_event_X11_passes2 : GoodIn wsX11_event wsX11_passes2 := goodIn_r _ [10, 11, 12, 13, 5, 14, 15, 16, 17, 18, 19, 20, 21, 22, 23, 24, 25, 26, 27, 28, 29, 30, 31, 32, 33, 34, 35, 36, 37, 38, 39, 40, 41, 42, 43, 44, 45] rfl (by decide +kernel)
set_option maxRecDepth 20000 in
theorem gX11_event_X11_passes2 : GoodIn wsX11_event (wsV RX11 267 RX11 yX11_passes2 wsX11_passes2) := goodIn_app (goodIn_of _ (by decide +kernel)) ggX11_event_X11_passes2
set_option maxRecDepth 20000 in
theorem ggX11_eventsOf_X11_in : GoodIn wsX11_eventsOf wsX11_in := goodIn_r _ [6] rfl (by decide +kernel)
set_option maxRecDepth 20000 in
theorem gX11_eventsOf_X11_in : GoodIn wsX11_eventsOf (va_wsS RX11 64 yX11_in wsX11_in) := goodIn_app (goodIn_of _ (by decide +kernel)) ggX11_eventsOf_X11_in
set_option maxRecDepth 20000 in
theorem ggX11_eventsOf_X11_passes : GoodIn wsX11_eventsOf wsX11_passes := goodIn_r _ [10, 11, 12, 13, 5, 14, 15, 16, 17, 18, 19, 20, 21, 22, 23, 24, 25, 26, 27, 28, 29, 30, 31, 32, 33, 34, 35, 36, 37, 38, 39, 40, 41, 42, 43, 44, 45] rfl (by decide +kernel)
set_option maxRecDepth 20000 in
theorem gX11_eventsOf_X11_passes : GoodIn wsX11_eventsOf (wsV RX11 94 RX11 yX11_passes wsX11_passes) := goodIn_app (goodIn_of _ (by decide +kernel)) ggX11_eventsOf_X11_passes
set_option maxRecDepth 20000 in
theorem ggX11_undo_X11_passes : GoodIn wsX11_undo wsX11_passes := goodIn_r _ [12, 13, 14, 15, 11, 16, 17, 18, 19, 20, 21, 22, 23, 24, 25, 26, 27, 28, 29, 30, 31, 32, 33, 34, 35, 36, 37, 38, 39, 40, 41, 42, 43, 44, 45, 46, 47] rfl (by decide +kernel)
set_option maxRecDepth 20000 in
theorem gX11_undo_X11_passes : GoodIn wsX11_undo (wsV RX11 94 RX11 yX11_passes wsX11_passes) := goodIn_app (goodIn_of _ (by decide +kernel)) ggX11_undo_X11_passes
set_option maxRecDepth 20000 in
theorem ggX11_writeNumber_X11_write : GoodIn wsX11_writeNumber wsX11_write := goodIn_r _ [5, 6, 7, 8, 9, 10, 11, 12, 13, 14, 15, 16, 17, 18, 19, 20, 21, 22, 23, 24, 25, 26, 27, 28, 29, 30, 31, 32, 33, 34, 35, 36, 37] rfl (by decide +kernel)
set_option maxRecDepth 20000 in
theorem gX11_writeNumber_X11_write : GoodIn wsX11_writeNumber (wsV RX11 488 RX11 yX11_write wsX11_write) := goodIn_app (goodIn_of _ (by decide +kernel)) ggX11_writeNumber_X11_write
set_option maxRecDepth 20000 in
theorem ggX11_writeClass_X11_classValue : GoodIn wsX11_writeClass wsX11_classValue := goodIn_r _ [5, 6, 13, 14, 15, 16, 17, 18, 19, 20, 21, 22, 23, 24, 25, 26, 27, 28, 29, 30, 31, 32, 33, 34, 35, 36, 37, 38, 39, 40, 41, 42] rfl (by decide +kernel)
set_option maxRecDepth 20000 in
theorem gX11_writeClass_X11_classValue : GoodIn wsX11_writeClass (wsV RX11 271 RX11 yX11_classValue wsX11_classValue) := goodIn_app (goodIn_of _ (by decide +kernel)) ggX11_writeClass_X11_classValue
set_option maxRecDepth 20000 in
theorem ggX11_writeClass_X11_write : GoodIn wsX11_writeClass wsX11_write := goodIn_r _ [10, 11, 12, 13, 14, 15, 16, 17, 18, 19, 20, 21, 22, 23, 24, 25, 26, 27, 28, 29, 30, 31, 32, 33, 34, 35, 36, 37, 38, 39, 40, 41, 42] rfl (by decide +kernel)
set_option maxRecDepth 20000 in
theorem gX11_writeClass_X11_write : GoodIn wsX11_writeClass (wsV RX11 488 RX11 yX11_write wsX11_write) := goodIn_app (goodIn_of _ (by decide +kernel)) ggX11_writeClass_X11_write
set_option maxRecDepth 20000 in
theorem ggX11_writeMailbox_X11_isUser : GoodIn wsX11_writeMailbox wsX11_isUser := goodIn_r _ [7, 2, 8, 9, 6, 10, 48, 49, 50, 51, 52, 53, 54, 55, 56, 57, 58, 59, 60, 61, 62, 63, 64, 65, 66, 67, 68, 69, 70, 71, 72, 73, 74, 75, 76, 77] rfl (by decide +kernel)
set_option maxRecDepth 20000 in
theorem gX11_writeMailbox_X11_isUser : GoodIn wsX11_writeMailbox (wsV RX11 76 RX11 yX11_isUser wsX11_isUser) := goodIn_app (goodIn_of _ (by decide +kernel)) ggX11_writeMailbox_X11_isUser
set_option maxRecDepth 20000 in
theorem ggX11_writeMailbox_X11_passes : GoodIn wsX11_writeMailbox wsX11_passes := goodIn_r _ [14, 15, 16, 17, 6, 18, 19, 48, 49, 50, 51, 52, 53, 54, 55, 56, 57, 58, 59, 60, 61, 62, 63, 64, 65, 66, 67, 68, 69, 70, 71, 72, 73, 74, 75, 76, 77] rfl (by decide +kernel)
set_option maxRecDepth 20000 in
theorem gX11_writeMailbox_X11_passes : GoodIn wsX11_writeMailbox (wsV RX11 94 RX11 yX11_passes wsX11_passes) := goodIn_app (goodIn_of _ (by decide +kernel)) ggX11_writeMailbox_X11_passes
set_option maxRecDepth 20000 in
theorem ggX11_writeMailbox_X11_isLive : GoodIn wsX11_writeMailbox wsX11_isLive := goodIn_r _ [23, 24, 25, 26, 6, 27, 2, 28, 29, 30, 48, 49, 50, 51, 52, 53, 54, 55, 56, 57, 58, 59, 60, 61, 62, 63, 64, 65, 66, 67, 68, 69, 70, 71, 72, 73, 74, 75, 76, 77] rfl (by decide +kernel)
set_option maxRecDepth 20000 in
theorem gX11_writeMailbox_X11_isLive : GoodIn wsX11_writeMailbox (wsV RX11 348 RX11 yX11_isLive wsX11_isLive) := goodIn_app (goodIn_of _ (by decide +kernel)) ggX11_writeMailbox_X11_isLive
set_option maxRecDepth 20000 in
theorem ggX11_writeMailbox_X11_writeNumber : GoodIn wsX11_writeMailbox wsX11_writeNumber := goodIn_r _ [34, 35, 36, 37, 6, 38, 39, 1, 48, 49, 50, 51, 52, 53, 54, 55, 56, 57, 58, 59, 60, 61, 62, 63, 64, 65, 66, 67, 68, 69, 70, 71, 72, 73, 74, 75, 76, 77] rfl (by decide +kernel)
set_option maxRecDepth 20000 in
theorem gX11_writeMailbox_X11_writeNumber : GoodIn wsX11_writeMailbox (wsV RX11 491 RX11 yX11_writeNumber wsX11_writeNumber) := goodIn_app (goodIn_of _ (by decide +kernel)) ggX11_writeMailbox_X11_writeNumber
set_option maxRecDepth 20000 in
theorem ggX11_writeMailbox_X11_write : GoodIn wsX11_writeMailbox wsX11_write := goodIn_r _ [38, 39, 1, 48, 49, 50, 51, 52, 53, 54, 55, 56, 57, 58, 59, 60, 61, 62, 63, 64, 65, 66, 67, 68, 69, 70, 71, 72, 73, 74, 75, 76, 77] rfl (by decide +kernel)
set_option maxRecDepth 20000 in
theorem gX11_writeMailbox_X11_write : GoodIn wsX11_writeMailbox (wsV RX11 488 RX11 yX11_write wsX11_write) := goodIn_app (goodIn_of _ (by decide +kernel)) ggX11_writeMailbox_X11_write
set_option maxRecDepth 20000 in
theorem ggX11_writeMailbox_X11_refAt : GoodIn wsX11_writeMailbox wsX11_refAt := goodIn_r _ [30] rfl (by decide +kernel)
set_option maxRecDepth 20000 in
theorem gX11_writeMailbox_X11_refAt : GoodIn wsX11_writeMailbox (va_wsS RX11 68 yX11_refAt wsX11_refAt) := goodIn_app (goodIn_of _ (by decide +kernel)) ggX11_writeMailbox_X11_refAt
set_option maxRecDepth 20000 in
theorem ggX11_writeMailbox_X11_writeClass : GoodIn wsX11_writeMailbox wsX11_writeClass := goodIn_r _ [43, 44, 45, 46, 6, 47, 2, 35, 36, 37, 38, 39, 1, 48, 49, 50, 51, 52, 53, 54, 55, 56, 57, 58, 59, 60, 61, 62, 63, 64, 65, 66, 67, 68, 69, 70, 71, 72, 73, 74, 75, 76, 77] rfl (by decide +kernel)
set_option maxRecDepth 20000 in
theorem gX11_writeMailbox_X11_writeClass : GoodIn wsX11_writeMailbox (wsV RX11 494 RX11 yX11_writeClass wsX11_writeClass) := goodIn_app (goodIn_of _ (by decide +kernel)) ggX11_writeMailbox_X11_writeClass
set_option maxRecDepth 20000 in
theorem ggX11_outputByte_X11_in : GoodIn wsX11_outputByte wsX11_in := goodIn_r _ [6] rfl (by decide +kernel)
set_option maxRecDepth 20000 in
theorem gX11_outputByte_X11_in : GoodIn wsX11_outputByte (va_wsS RX11 64 yX11_in wsX11_in) := goodIn_app (goodIn_of _ (by decide +kernel)) ggX11_outputByte_X11_in
set_option maxRecDepth 20000 in
theorem ggX11_outputByte_X11_passes : GoodIn wsX11_outputByte wsX11_passes := goodIn_r _ [10, 11, 12, 13, 5, 14, 15, 16, 17, 18, 19, 20, 21, 22, 23, 24, 25, 26, 27, 28, 29, 30, 31, 32, 33, 34, 35, 36, 37, 38, 39, 40, 41, 42, 43, 44, 45] rfl (by decide +kernel)
set_option maxRecDepth 20000 in
theorem gX11_outputByte_X11_passes : GoodIn wsX11_outputByte (wsV RX11 94 RX11 yX11_passes wsX11_passes) := goodIn_app (goodIn_of _ (by decide +kernel)) ggX11_outputByte_X11_passes
set_option maxRecDepth 20000 in
theorem ggJ0_length_8abf5_J0_coder_7d493 : GoodIn wsJ0_length_8abf5 wsJ0_coder_7d493 := goodIn_r _ [6, 7, 8] rfl (by decide +kernel)
set_option maxRecDepth 20000 in
theorem gJ0_length_8abf5_J0_coder_7d493 : GoodIn wsJ0_length_8abf5 (wsV RJ0 335 RJ0 yJ0_coder_7d493 wsJ0_coder_7d493) := goodIn_app (goodIn_of _ (by decide +kernel)) ggJ0_length_8abf5_J0_coder_7d493
set_option maxRecDepth 20000 in
theorem ggJ0_charAt_5068e_J0_isLatin1_aae02 : GoodIn wsJ0_charAt_5068e wsJ0_isLatin1_aae02 := goodIn_r _ [6, 7, 8] rfl (by decide +kernel)
set_option maxRecDepth 20000 in
theorem gJ0_charAt_5068e_J0_isLatin1_aae02 : GoodIn wsJ0_charAt_5068e (wsV RJ0 492 RJ0 yJ0_isLatin1_aae02 wsJ0_isLatin1_aae02) := goodIn_app (goodIn_of _ (by decide +kernel)) ggJ0_charAt_5068e_J0_isLatin1_aae02
set_option maxRecDepth 20000 in
theorem ggJ0_charAt_5068e_J1_charAt_3b067 : GoodIn wsJ0_charAt_5068e wsJ1_charAt_3b067 := goodIn_r _ [12, 13, 14, 5, 15, 16, 17, 18, 19, 20] rfl (by decide +kernel)
set_option maxRecDepth 20000 in
theorem gJ0_charAt_5068e_J1_charAt_3b067 : GoodIn wsJ0_charAt_5068e (va_wsS RJ0 495 yJ1_charAt_3b067 wsJ1_charAt_3b067) := goodIn_app (goodIn_of _ (by decide +kernel)) ggJ0_charAt_5068e_J1_charAt_3b067
set_option maxRecDepth 20000 in
theorem ggJ0_charAt_5068e_J2_charAt_3b067 : GoodIn wsJ0_charAt_5068e wsJ2_charAt_3b067 := goodIn_r _ [24, 25, 26, 23, 27, 28, 29, 30, 31, 14, 5, 15, 16, 17, 18, 19, 20, 32, 33, 34, 35, 36, 37] rfl (by decide +kernel)
set_option maxRecDepth 20000 in
theorem gJ0_charAt_5068e_J2_charAt_3b067 : GoodIn wsJ0_charAt_5068e (va_wsS RJ0 498 yJ2_charAt_3b067 wsJ2_charAt_3b067) := goodIn_app (goodIn_of _ (by decide +kernel)) ggJ0_charAt_5068e_J2_charAt_3b067
set_option maxRecDepth 20000 in
theorem ggJ0_checkIndex_df160_J3_checkIndex_8e157 : GoodIn wsJ0_checkIndex_df160 wsJ3_checkIndex_8e157 := goodIn_r _ [5] rfl (by decide +kernel)
set_option maxRecDepth 20000 in
theorem gJ0_checkIndex_df160_J3_checkIndex_8e157 : GoodIn wsJ0_checkIndex_df160 (va_wsS RJ0 1059 yJ3_checkIndex_8e157 wsJ3_checkIndex_8e157) := goodIn_app (goodIn_of _ (by decide +kernel)) ggJ0_checkIndex_df160_J3_checkIndex_8e157
set_option maxRecDepth 20000 in
theorem ggJ1_charAt_3b067_J0_checkIndex_df160 : GoodIn wsJ1_charAt_3b067 wsJ0_checkIndex_df160 := goodIn_r _ [4, 5, 6, 7, 8, 9] rfl (by decide +kernel)
set_option maxRecDepth 20000 in
theorem gJ1_charAt_3b067_J0_checkIndex_df160 : GoodIn wsJ1_charAt_3b067 (va_wsS RJ1 9 yJ0_checkIndex_df160 wsJ0_checkIndex_df160) := goodIn_app (goodIn_of _ (by decide +kernel)) ggJ1_charAt_3b067_J0_checkIndex_df160
set_option maxRecDepth 20000 in
theorem ggJ2_getChar_3b067_J2_length_9d52b : GoodIn wsJ2_getChar_3b067 wsJ2_length_9d52b := goodIn_r _ [7] rfl (by decide +kernel)
set_option maxRecDepth 20000 in
theorem gJ2_getChar_3b067_J2_length_9d52b : GoodIn wsJ2_getChar_3b067 (va_wsS RJ2 48 yJ2_length_9d52b wsJ2_length_9d52b) := goodIn_app (goodIn_of _ (by decide +kernel)) ggJ2_getChar_3b067_J2_length_9d52b
set_option maxRecDepth 20000 in
theorem ggJ2_charAt_3b067_J2_checkIndex_2214a : GoodIn wsJ2_charAt_3b067 wsJ2_checkIndex_2214a := goodIn_r _ [4, 5, 6, 3, 7, 8, 9, 10, 11, 12, 13, 14, 15, 16] rfl (by decide +kernel)
set_option maxRecDepth 20000 in
theorem gJ2_charAt_3b067_J2_checkIndex_2214a : GoodIn wsJ2_charAt_3b067 (va_wsS RJ2 67 yJ2_checkIndex_2214a wsJ2_checkIndex_2214a) := goodIn_app (goodIn_of _ (by decide +kernel)) ggJ2_charAt_3b067_J2_checkIndex_2214a
set_option maxRecDepth 20000 in
theorem ggJ2_charAt_3b067_J2_getChar_3b067 : GoodIn wsJ2_charAt_3b067 wsJ2_getChar_3b067 := goodIn_r _ [19, 20, 21, 22, 5, 6, 3, 7] rfl (by decide +kernel)
set_option maxRecDepth 20000 in
theorem gJ2_charAt_3b067_J2_getChar_3b067 : GoodIn wsJ2_charAt_3b067 (va_wsS RJ2 71 yJ2_getChar_3b067 wsJ2_getChar_3b067) := goodIn_app (goodIn_of _ (by decide +kernel)) ggJ2_charAt_3b067_J2_getChar_3b067
set_option maxRecDepth 20000 in
theorem ggJ2_checkIndex_2214a_J2_length_9d52b : GoodIn wsJ2_checkIndex_2214a wsJ2_length_9d52b := goodIn_r _ [4] rfl (by decide +kernel)
set_option maxRecDepth 20000 in
theorem gJ2_checkIndex_2214a_J2_length_9d52b : GoodIn wsJ2_checkIndex_2214a (va_wsS RJ2 48 yJ2_length_9d52b wsJ2_length_9d52b) := goodIn_app (goodIn_of _ (by decide +kernel)) ggJ2_checkIndex_2214a_J2_length_9d52b
set_option maxRecDepth 20000 in
theorem ggJ2_checkIndex_2214a_J0_checkIndex_df160 : GoodIn wsJ2_checkIndex_2214a wsJ0_checkIndex_df160 := goodIn_r _ [8, 9, 10, 11, 12, 13] rfl (by decide +kernel)
set_option maxRecDepth 20000 in
theorem gJ2_checkIndex_2214a_J0_checkIndex_df160 : GoodIn wsJ2_checkIndex_2214a (va_wsS RJ2 414 yJ0_checkIndex_df160 wsJ0_checkIndex_df160) := goodIn_app (goodIn_of _ (by decide +kernel)) ggJ2_checkIndex_2214a_J0_checkIndex_df160
set_option maxRecDepth 20000 in
theorem ggL_append_X10_append : GoodIn wsL_append wsX10_append := goodIn_ca (goodIn_r _ [6, 7, 8, 9, 10, 11, 12, 13, 14, 15, 16, 17, 18, 19, 20, 21, 22, 23, 24, 25, 26, 27, 28, 29, 30, 31, 32, 33] rfl (by decide +kernel)) (goodIn_sub (fun _ h => List.mem_cons_of_mem _ (List.mem_append_right _ h)) (by decide +kernel))
set_option maxRecDepth 20000 in
theorem gL_append_X10_append : GoodIn wsL_append (wsV RL 7 RX10 yX10_append wsX10_append) := goodIn_app (goodIn_of _ (by decide +kernel)) ggL_append_X10_append
set_option maxRecDepth 20000 in
theorem ggL_truncate_X10_truncate : GoodIn wsL_truncate wsX10_truncate := goodIn_ca (goodIn_r _ [6, 7, 8, 9, 10, 11, 12, 13, 14, 15, 16, 17, 18, 19, 20, 21, 22, 23, 24, 25, 26, 27, 28] rfl (by decide +kernel)) (goodIn_sub (fun _ h => List.mem_cons_of_mem _ (List.mem_append_right _ h)) (by decide +kernel))
set_option maxRecDepth 20000 in
theorem gL_truncate_X10_truncate : GoodIn wsL_truncate (wsV RL 15 RX10 yX10_truncate wsX10_truncate) := goodIn_app (goodIn_of _ (by decide +kernel)) ggL_truncate_X10_truncate
set_option maxRecDepth 20000 in
theorem ggL_find_X10_find : GoodIn wsL_find wsX10_find := goodIn_ca (goodIn_r _ [6, 7, 8, 9, 10, 5, 11, 12, 13, 14, 15, 16, 17, 18, 19, 20, 21, 22, 23, 24, 25, 26, 27, 28, 29, 30, 31, 32, 33, 34, 35, 36, 37, 38, 39, 40, 41, 42, 43, 44, 45, 46, 47, 48, 49, 50, 51, 52, 53, 54, 55, 56, 57, 58, 59, 60, 61, 62, 63, 64, 65, 66, 67, 68, 69, 70, 71, 72, 73, 74, 75, 76, 77, 78, 79, 80, 81, 82, 83, 84, 85, 86, 87, 88, 89, 90, 91, 92, 93, 94, 95, 96, 97, 98, 99] rfl (by decide +kernel)) (goodIn_sub (fun _ h => List.mem_cons_of_mem _ (List.mem_append_right _ h)) (by decide +kernel))
set_option maxRecDepth 20000 in
theorem gL_find_X10_find : GoodIn wsL_find (wsV RL 21 RX10 yX10_find wsX10_find) := goodIn_app (goodIn_of _ (by decide +kernel)) ggL_find_X10_find
set_option maxRecDepth 20000 in
theorem ggL_count_X10_count : GoodIn wsL_count wsX10_count := goodIn_ca (goodIn_r _ [6, 7, 8, 9, 5, 10, 11, 12, 13, 14, 15, 16, 17, 18, 19, 20, 21, 22, 23, 24, 25, 26, 27, 28, 29, 30, 31, 32, 33, 34, 35, 36, 37, 38, 39, 40, 41, 42, 43, 44, 45, 46, 47, 48, 49, 50, 51, 52, 53, 54, 55, 56, 57, 58, 59, 60, 61, 62, 63, 64, 65, 66] rfl (by decide +kernel)) (goodIn_sub (fun _ h => List.mem_cons_of_mem _ (List.mem_append_right _ h)) (by decide +kernel))
set_option maxRecDepth 20000 in
theorem gL_count_X10_count : GoodIn wsL_count (wsV RL 25 RX10 yX10_count wsX10_count) := goodIn_app (goodIn_of _ (by decide +kernel)) ggL_count_X10_count
set_option maxRecDepth 20000 in
theorem ggL_members_X10_members : GoodIn wsL_members wsX10_members := goodIn_ca (goodIn_r _ [6, 7, 8, 9, 10, 11, 12, 13, 14, 15, 16, 17, 5, 18, 19, 20, 21, 22, 23, 24, 25, 26, 27, 28, 29, 30, 31, 32, 33, 34, 35, 36, 37, 38, 39, 40, 41, 42, 43, 44, 45, 46, 47, 48, 49, 50, 51, 52, 53, 54, 55, 56, 57, 58, 59, 60, 61, 62, 63] rfl (by decide +kernel)) (goodIn_sub (fun _ h => List.mem_cons_of_mem _ (List.mem_append_right _ h)) (by decide +kernel))
set_option maxRecDepth 20000 in
theorem gL_members_X10_members : GoodIn wsL_members (wsV RL 28 RX10 yX10_members wsX10_members) := goodIn_app (goodIn_of _ (by decide +kernel)) ggL_members_X10_members
set_option maxRecDepth 20000 in
theorem ggL_retention_X10_retention : GoodIn wsL_retention wsX10_retention := goodIn_ca (goodIn_ca (goodIn_r _ [7, 8, 9, 10, 11, 6, 12, 13, 14, 15, 16, 17, 18, 19, 20, 21, 22, 23, 24, 25, 26, 27, 28, 29, 30, 31, 32, 33, 34, 35, 36, 37, 38, 39, 40, 41, 42, 43, 44, 45, 46, 47, 48, 49, 50, 51, 52, 53, 54, 55, 56, 57, 58, 59, 60, 61, 62, 63, 64, 65, 66, 67, 68, 69, 70, 71, 72, 73] rfl (by decide +kernel)) (goodIn_sub (fun _ h => List.mem_cons_of_mem _ (List.mem_append_left _ (List.mem_append_right _ h))) (by decide +kernel))) (goodIn_sub (fun _ h => List.mem_cons_of_mem _ (List.mem_append_right _ h)) (by decide +kernel))
set_option maxRecDepth 20000 in
theorem gL_retention_X10_retention : GoodIn wsL_retention (wsV RL 33 RX10 yX10_retention wsX10_retention) := goodIn_app (goodIn_of _ (by decide +kernel)) ggL_retention_X10_retention
set_option maxRecDepth 20000 in
theorem ggL_ladderDays_X10_ladderDays : GoodIn wsL_ladderDays wsX10_ladderDays := goodIn_ca (goodIn_r _ [6, 7, 8, 9, 10, 5, 11, 12, 13, 14, 15, 16, 17, 18, 19, 20, 21, 22, 23, 24, 25, 26, 27, 28, 29, 30, 31, 32, 33, 34, 35, 36, 37, 38, 39, 40, 41, 42, 43, 44, 45, 46, 47, 48, 49, 50, 51, 52, 53, 54, 55, 56, 57, 58, 59, 60, 61, 62, 63, 64, 65, 66, 67, 68, 69, 70, 71, 72, 73] rfl (by decide +kernel)) (goodIn_sub (fun _ h => List.mem_cons_of_mem _ (List.mem_append_right _ h)) (by decide +kernel))
set_option maxRecDepth 20000 in
theorem gL_ladderDays_X10_ladderDays : GoodIn wsL_ladderDays (wsV RL 37 RX10 yX10_ladderDays wsX10_ladderDays) := goodIn_app (goodIn_of _ (by decide +kernel)) ggL_ladderDays_X10_ladderDays
set_option maxRecDepth 20000 in
theorem ggL_deliver_X10_deliver : GoodIn wsL_deliver wsX10_deliver := goodIn_ca (goodIn_ca (goodIn_ca (goodIn_r _ [8, 9, 10, 11, 12, 13, 14, 15, 16, 17, 18, 19, 20, 7, 21, 22, 23, 24, 25, 26, 27, 28, 29, 30, 31, 32, 33, 34, 35, 36, 37, 38, 39, 40, 41, 42, 43, 44, 45, 46, 47, 48, 49, 50, 51, 52, 53, 54, 55, 56, 57, 58, 59, 60, 61, 62, 63, 64, 65, 66, 67, 68, 69, 70, 71, 72, 73, 74, 75, 76, 77, 78, 79, 80, 81, 82, 83, 84, 85, 86, 87, 88, 89, 90, 91, 92, 93, 94, 95, 96, 97, 98, 99, 100, 101, 102, 103, 104, 105, 106, 107, 108, 109, 110, 111, 112, 113, 114, 115, 116, 117, 118, 119, 120, 121, 122, 123, 124, 125, 126, 127, 128, 129, 130, 131, 132, 133, 134, 135, 136, 137, 138, 139, 140, 141, 142, 143, 144, 145, 146, 147, 148, 149, 150, 151, 152, 153, 154, 155, 156, 157, 158, 159, 160, 161, 162, 163, 164, 165, 166, 167, 168, 169, 170, 171, 172, 173, 174, 175, 176, 177, 178, 179, 180, 181, 182, 183, 184, 185, 186, 187, 188, 189, 190, 191, 192, 193, 194, 195, 196, 197, 198, 199, 200, 201, 202, 203, 204, 205, 206, 207, 208, 209, 210, 211, 212, 213, 214, 215, 216, 217, 218, 219, 220, 221, 222, 223, 224, 225, 226, 227, 228, 229, 230, 231, 232, 233, 234, 235, 236, 237, 238, 239, 240, 241, 242, 243, 244, 245, 246, 247, 248, 249, 250, 251, 252, 253, 254, 255, 256, 257, 258, 259, 260, 261, 262, 263, 264, 265, 266, 267, 268, 269, 270, 271, 272, 273, 274, 275, 276, 277, 278, 279, 280, 281, 282, 283, 284, 285, 286, 287, 288, 289, 290, 291, 292, 293, 294, 295, 296, 297, 298, 299, 300, 301, 302, 303, 304, 305, 306, 307, 308, 309, 310, 311, 312, 313, 314, 315, 316, 317, 318, 319, 320, 321, 322, 323, 324, 325, 326, 327, 328, 329, 330, 331, 332, 333, 334, 335, 336, 337, 338, 339, 340, 341, 342, 343, 344] rfl (by decide +kernel)) (goodIn_sub (fun _ h => List.mem_cons_of_mem _ (List.mem_append_left _ (List.mem_append_left _ (List.mem_append_right _ h)))) (by decide +kernel))) (goodIn_sub (fun _ h => List.mem_cons_of_mem _ (List.mem_append_left _ (List.mem_append_right _ h))) (by decide +kernel))) (goodIn_sub (fun _ h => List.mem_cons_of_mem _ (List.mem_append_right _ h)) (by decide +kernel))
set_option maxRecDepth 20000 in
theorem gL_deliver_X10_deliver : GoodIn wsL_deliver (wsV RL 40 RX10 yX10_deliver wsX10_deliver) := goodIn_app (goodIn_of _ (by decide +kernel)) ggL_deliver_X10_deliver
set_option maxRecDepth 20000 in
theorem ggL_message_X10_message : GoodIn wsL_message wsX10_message := goodIn_ca (goodIn_ca (goodIn_r _ [7, 8, 9, 10, 11, 6, 12, 13, 14, 15, 16, 17, 18, 19, 20, 21, 22, 23, 24, 25, 26, 27, 28, 29, 30, 31, 32, 33, 34, 35, 36, 37, 38, 39, 40, 41, 42, 43, 44, 45, 46, 47, 48, 49, 50, 51, 52, 53, 54, 55, 56, 57, 58, 59, 60, 61, 62, 63, 64, 65, 66, 67, 68, 69, 70, 71, 72, 73, 74, 75, 76, 77, 78, 79, 80, 81, 82, 83, 84, 85, 86, 87, 88, 89, 90, 91, 92, 93, 94, 95] rfl (by decide +kernel)) (goodIn_sub (fun _ h => List.mem_cons_of_mem _ (List.mem_append_left _ (List.mem_append_right _ h))) (by decide +kernel))) (goodIn_sub (fun _ h => List.mem_cons_of_mem _ (List.mem_append_right _ h)) (by decide +kernel))
set_option maxRecDepth 20000 in
theorem gL_message_X10_message : GoodIn wsL_message (wsV RL 44 RX10 yX10_message wsX10_message) := goodIn_app (goodIn_of _ (by decide +kernel)) ggL_message_X10_message
set_option maxRecDepth 20000 in
theorem ggL_partOf_X10_partOf : GoodIn wsL_partOf wsX10_partOf := goodIn_ca (goodIn_r _ [6, 7, 8, 9, 10, 11, 12, 5, 13, 14, 15, 16, 17, 18, 19, 20, 21, 22, 23, 24, 25, 26, 27, 28, 29, 30, 31, 32, 33, 34, 35, 36, 37, 38, 39, 40, 41, 42, 43, 44, 45, 46, 47, 48, 49, 50, 51, 52, 53, 54, 55, 56] rfl (by decide +kernel)) (goodIn_sub (fun _ h => List.mem_cons_of_mem _ (List.mem_append_right _ h)) (by decide +kernel))
set_option maxRecDepth 20000 in
theorem gL_partOf_X10_partOf : GoodIn wsL_partOf (wsV RL 47 RX10 yX10_partOf wsX10_partOf) := goodIn_app (goodIn_of _ (by decide +kernel)) ggL_partOf_X10_partOf
set_option maxRecDepth 20000 in
theorem ggL_readers_X10_readers : GoodIn wsL_readers wsX10_readers := goodIn_ca (goodIn_r _ [6, 7, 8, 9, 10, 5, 11, 12, 13, 14, 15, 16, 17, 18, 19, 20, 21, 22, 23, 24, 25, 26, 27, 28, 29, 30, 31, 32, 33, 34, 35, 36, 37, 38, 39, 40, 41, 42, 43, 44, 45, 46, 47, 48, 49, 50, 51, 52, 53, 54, 55, 56, 57, 58, 59, 60, 61, 62, 63, 64, 65, 66, 67, 68, 69, 70, 71, 72, 73, 74, 75, 76, 77, 78] rfl (by decide +kernel)) (goodIn_sub (fun _ h => List.mem_cons_of_mem _ (List.mem_append_right _ h)) (by decide +kernel))
set_option maxRecDepth 20000 in
theorem gL_readers_X10_readers : GoodIn wsL_readers (wsV RL 50 RX10 yX10_readers wsX10_readers) := goodIn_app (goodIn_of _ (by decide +kernel)) ggL_readers_X10_readers
set_option maxRecDepth 20000 in
theorem ggL_hidden_X10_hidden : GoodIn wsL_hidden wsX10_hidden := goodIn_ca (goodIn_r _ [6, 7, 8, 9, 10, 5, 11, 12, 13, 14, 15, 16, 17, 18, 19, 20, 21, 22, 23, 24, 25, 26, 27, 28, 29, 30, 31, 32, 33, 34, 35, 36, 37, 38, 39, 40, 41, 42, 43, 44, 45, 46, 47, 48, 49, 50, 51, 52, 53, 54, 55, 56, 57, 58, 59, 60, 61, 62, 63, 64, 65, 66, 67, 68, 69, 70, 71, 72, 73, 74, 75, 76, 77, 78] rfl (by decide +kernel)) (goodIn_sub (fun _ h => List.mem_cons_of_mem _ (List.mem_append_right _ h)) (by decide +kernel))
set_option maxRecDepth 20000 in
theorem gL_hidden_X10_hidden : GoodIn wsL_hidden (wsV RL 53 RX10 yX10_hidden wsX10_hidden) := goodIn_app (goodIn_of _ (by decide +kernel)) ggL_hidden_X10_hidden
set_option maxRecDepth 20000 in
theorem ggL_state_X10_state : GoodIn wsL_state wsX10_state := goodIn_ca (goodIn_r _ [6, 7, 8, 9, 10, 5, 11, 12, 13, 14, 15, 16, 17, 18, 19, 20, 21, 22, 23, 24, 25, 26, 27, 28, 29, 30, 31, 32, 33, 34, 35, 36, 37, 38, 39, 40, 41, 42, 43, 44, 45, 46, 47, 48, 49, 50, 51, 52, 53, 54, 55, 56, 57, 58, 59, 60, 61, 62, 63, 64, 65, 66, 67, 68, 69, 70, 71, 72, 73, 74] rfl (by decide +kernel)) (goodIn_sub (fun _ h => List.mem_cons_of_mem _ (List.mem_append_right _ h)) (by decide +kernel))
set_option maxRecDepth 20000 in
theorem gL_state_X10_state : GoodIn wsL_state (wsV RL 56 RX10 yX10_state wsX10_state) := goodIn_app (goodIn_of _ (by decide +kernel)) ggL_state_X10_state
set_option maxRecDepth 20000 in
theorem ggL_classOf_X10_classOf : GoodIn wsL_classOf wsX10_classOf := goodIn_ca (goodIn_r _ [6, 7, 8, 9, 10, 5, 11, 12, 13, 14, 15, 16, 17, 18, 19, 20, 21, 22, 23, 24, 25, 26, 27, 28, 29, 30, 31, 32, 33, 34, 35, 36, 37, 38, 39, 40, 41, 42, 43, 44, 45, 46, 47, 48, 49, 50, 51, 52, 53, 54, 55, 56, 57, 58, 59, 60, 61, 62, 63, 64, 65, 66, 67, 68, 69, 70, 71, 72, 73, 74, 75, 76, 77, 78, 79] rfl (by decide +kernel)) (goodIn_sub (fun _ h => List.mem_cons_of_mem _ (List.mem_append_right _ h)) (by decide +kernel))
set_option maxRecDepth 20000 in
theorem gL_classOf_X10_classOf : GoodIn wsL_classOf (wsV RL 59 RX10 yX10_classOf wsX10_classOf) := goodIn_app (goodIn_of _ (by decide +kernel)) ggL_classOf_X10_classOf
set_option maxRecDepth 20000 in
theorem ggL_enteredOn_X10_enteredOn : GoodIn wsL_enteredOn wsX10_enteredOn := goodIn_ca (goodIn_r _ [6, 7, 8, 9, 10, 5, 11, 12, 13, 14, 15, 16, 17, 18, 19, 20, 21, 22, 23, 24, 25, 26, 27, 28, 29, 30, 31, 32, 33, 34, 35, 36, 37, 38, 39, 40, 41, 42, 43, 44, 45, 46, 47, 48, 49, 50, 51, 52, 53, 54, 55, 56, 57, 58, 59, 60, 61, 62, 63, 64, 65, 66, 67, 68, 69, 70, 71, 72, 73, 74, 75] rfl (by decide +kernel)) (goodIn_sub (fun _ h => List.mem_cons_of_mem _ (List.mem_append_right _ h)) (by decide +kernel))
set_option maxRecDepth 20000 in
theorem gL_enteredOn_X10_enteredOn : GoodIn wsL_enteredOn (wsV RL 62 RX10 yX10_enteredOn wsX10_enteredOn) := goodIn_app (goodIn_of _ (by decide +kernel)) ggL_enteredOn_X10_enteredOn
set_option maxRecDepth 20000 in
theorem ggL_expiresOn_X10_expiresOn : GoodIn wsL_expiresOn wsX10_expiresOn := goodIn_ca (goodIn_r _ [6, 7, 8, 9, 10, 5, 11, 12, 13, 14, 15, 16, 17, 18, 19, 20, 21, 22, 23, 24, 25, 26, 27, 28, 29, 30, 31, 32, 33, 34, 35, 36, 37, 38, 39, 40, 41, 42, 43, 44, 45, 46, 47, 48, 49, 50, 51, 52, 53, 54, 55, 56, 57, 58, 59, 60, 61, 62, 63, 64, 65, 66, 67, 68, 69, 70, 71, 72, 73, 74, 75, 76, 77, 78, 79, 80, 81, 82, 83, 84, 85, 86, 87, 88, 89, 90, 91, 92, 93, 94, 95, 96, 97] rfl (by decide +kernel)) (goodIn_sub (fun _ h => List.mem_cons_of_mem _ (List.mem_append_right _ h)) (by decide +kernel))
set_option maxRecDepth 20000 in
theorem gL_expiresOn_X10_expiresOn : GoodIn wsL_expiresOn (wsV RL 65 RX10 yX10_expiresOn wsX10_expiresOn) := goodIn_app (goodIn_of _ (by decide +kernel)) ggL_expiresOn_X10_expiresOn
set_option maxRecDepth 20000 in
theorem ggL_isKept_X10_isKept : GoodIn wsL_isKept wsX10_isKept := goodIn_ca (goodIn_r _ [6, 7, 8, 9, 10, 5, 11, 12, 13, 14, 15, 16, 17, 18, 19, 20, 21, 22, 23, 24, 25, 26, 27, 28, 29, 30, 31, 32, 33, 34, 35, 36, 37, 38, 39, 40, 41, 42, 43, 44, 45, 46, 47, 48, 49, 50, 51, 52, 53, 54, 55, 56, 57, 58, 59, 60, 61, 62, 63, 64, 65, 66, 67, 68, 69, 70, 71, 72, 73, 74, 75, 76, 77, 78, 79, 80, 81, 82, 83, 84, 85, 86, 87, 88] rfl (by decide +kernel)) (goodIn_sub (fun _ h => List.mem_cons_of_mem _ (List.mem_append_right _ h)) (by decide +kernel))
set_option maxRecDepth 20000 in
theorem gL_isKept_X10_isKept : GoodIn wsL_isKept (wsV RL 68 RX10 yX10_isKept wsX10_isKept) := goodIn_app (goodIn_of _ (by decide +kernel)) ggL_isKept_X10_isKept
set_option maxRecDepth 20000 in
theorem ggL_holdsOn_X10_holdsOn : GoodIn wsL_holdsOn wsX10_holdsOn := goodIn_ca (goodIn_r _ [6, 7, 8, 9, 10, 5, 11, 12, 13, 14, 15, 16, 17, 18, 19, 20, 21, 22, 23, 24, 25, 26, 27, 28, 29, 30, 31, 32, 33, 34, 35, 36, 37, 38, 39, 40, 41, 42, 43, 44, 45, 46, 47, 48, 49, 50, 51, 52, 53, 54, 55, 56, 57, 58, 59, 60, 61, 62, 63, 64, 65, 66, 67, 68, 69, 70, 71, 72, 73, 74, 75, 76, 77, 78, 79, 80, 81, 82, 83, 84, 85, 86, 87, 88, 89, 90, 91, 92, 93, 94, 95, 96, 97] rfl (by decide +kernel)) (goodIn_sub (fun _ h => List.mem_cons_of_mem _ (List.mem_append_right _ h)) (by decide +kernel))
set_option maxRecDepth 20000 in
theorem gL_holdsOn_X10_holdsOn : GoodIn wsL_holdsOn (wsV RL 72 RX10 yX10_holdsOn wsX10_holdsOn) := goodIn_app (goodIn_of _ (by decide +kernel)) ggL_holdsOn_X10_holdsOn
set_option maxRecDepth 20000 in
theorem ggL_storedPart_X10_storedPart : GoodIn wsL_storedPart wsX10_storedPart := goodIn_ca (goodIn_r _ [6, 7, 8, 9, 10, 11, 12, 13, 14, 15, 16, 17, 18, 19, 20, 21, 5, 22, 23, 24, 25, 26, 27, 28, 29, 30, 31, 32, 33, 34, 35, 36, 37, 38, 39, 40, 41, 42, 43, 44, 45, 46, 47, 48, 49, 50, 51, 52, 53, 54, 55, 56, 57] rfl (by decide +kernel)) (goodIn_sub (fun _ h => List.mem_cons_of_mem _ (List.mem_append_right _ h)) (by decide +kernel))
set_option maxRecDepth 20000 in
theorem gL_storedPart_X10_storedPart : GoodIn wsL_storedPart (wsV RL 75 RX10 yX10_storedPart wsX10_storedPart) := goodIn_app (goodIn_of _ (by decide +kernel)) ggL_storedPart_X10_storedPart
set_option maxRecDepth 20000 in
theorem ggL_part_X10_part : GoodIn wsL_part wsX10_part := goodIn_ca (goodIn_ca (goodIn_r _ [7, 8, 9, 10, 11, 6, 12, 13, 14, 15, 16, 17, 18, 19, 20, 21, 22, 23, 24, 25, 26, 27, 28, 29, 30, 31, 32, 33, 34, 35, 36, 37, 38, 39, 40, 41, 42, 43, 44, 45, 46, 47, 48, 49, 50, 51, 52, 53, 54, 55, 56, 57, 58, 59, 60, 61, 62, 63, 64, 65, 66, 67, 68, 69, 70, 71, 72] rfl (by decide +kernel)) (goodIn_sub (fun _ h => List.mem_cons_of_mem _ (List.mem_append_left _ (List.mem_append_right _ h))) (by decide +kernel))) (goodIn_sub (fun _ h => List.mem_cons_of_mem _ (List.mem_append_right _ h)) (by decide +kernel))
set_option maxRecDepth 20000 in
theorem gL_part_X10_part : GoodIn wsL_part (wsV RL 78 RX10 yX10_part wsX10_part) := goodIn_app (goodIn_of _ (by decide +kernel)) ggL_part_X10_part
set_option maxRecDepth 20000 in
theorem ggL_partByte_X10_partByte : GoodIn wsL_partByte wsX10_partByte := goodIn_ca (goodIn_ca (goodIn_r _ [7, 8, 9, 10, 11, 12, 13, 6, 14, 15, 16, 17, 18, 19, 20, 21, 22, 23, 24, 25, 26, 27, 28, 29, 30, 31, 32, 33, 34, 35, 36, 37, 38, 39, 40, 41, 42, 43, 44, 45, 46, 47, 48, 49, 50, 51, 52, 53, 54, 55, 56, 57, 58, 59, 60, 61, 62, 63, 64, 65, 66, 67, 68, 69, 70, 71, 72, 73, 74, 75] rfl (by decide +kernel)) (goodIn_sub (fun _ h => List.mem_cons_of_mem _ (List.mem_append_left _ (List.mem_append_right _ h))) (by decide +kernel))) (goodIn_sub (fun _ h => List.mem_cons_of_mem _ (List.mem_append_right _ h)) (by decide +kernel))
set_option maxRecDepth 20000 in
theorem gL_partByte_X10_partByte : GoodIn wsL_partByte (wsV RL 81 RX10 yX10_partByte wsX10_partByte) := goodIn_app (goodIn_of _ (by decide +kernel)) ggL_partByte_X10_partByte
set_option maxRecDepth 20000 in
theorem ggL_digest_X10_digest : GoodIn wsL_digest wsX10_digest := goodIn_ca (goodIn_r _ [6, 7, 8, 9, 10, 5, 11, 12, 13, 14, 15, 16, 17, 18, 19, 20, 21, 22, 23, 24, 25, 26, 27, 28, 29, 30, 31, 32, 33, 34, 35, 36, 37, 38, 39, 40, 41, 42, 43, 44, 45, 46, 47, 48, 49, 50, 51, 52, 53, 54, 55, 56, 57, 58, 59, 60, 61, 62, 63, 64, 65, 66, 67, 68, 69, 70, 71, 72, 73, 74, 75, 76, 77, 78] rfl (by decide +kernel)) (goodIn_sub (fun _ h => List.mem_cons_of_mem _ (List.mem_append_right _ h)) (by decide +kernel))
set_option maxRecDepth 20000 in
theorem gL_digest_X10_digest : GoodIn wsL_digest (wsV RL 86 RX10 yX10_digest wsX10_digest) := goodIn_app (goodIn_of _ (by decide +kernel)) ggL_digest_X10_digest
set_option maxRecDepth 20000 in
theorem ggL_usage_X10_usage : GoodIn wsL_usage wsX10_usage := goodIn_ca (goodIn_r _ [6, 7, 8, 9, 10, 5, 11, 12, 13, 14, 15, 16, 17, 18, 19, 20, 21, 22, 23, 24, 25, 26, 27, 28, 29, 30, 31, 32, 33, 34, 35, 36, 37, 38, 39, 40, 41, 42, 43, 44, 45, 46, 47, 48, 49, 50, 51, 52, 53, 54, 55, 56, 57, 58, 59, 60, 61, 62, 63, 64, 65, 66, 67, 68, 69, 70, 71, 72, 73, 74, 75, 76, 77, 78, 79, 80, 81, 82, 83, 84, 85, 86, 87, 88, 89, 90] rfl (by decide +kernel)) (goodIn_sub (fun _ h => List.mem_cons_of_mem _ (List.mem_append_right _ h)) (by decide +kernel))
set_option maxRecDepth 20000 in
theorem gL_usage_X10_usage : GoodIn wsL_usage (wsV RL 90 RX10 yX10_usage wsX10_usage) := goodIn_app (goodIn_of _ (by decide +kernel)) ggL_usage_X10_usage
set_option maxRecDepth 20000 in
theorem ggL_quota_X10_quota : GoodIn wsL_quota wsX10_quota := goodIn_ca (goodIn_r _ [6, 7, 8, 9, 10, 5, 11, 12, 13, 14, 15, 16, 17, 18, 19, 20, 21, 22, 23, 24, 25, 26, 27, 28, 29, 30, 31, 32, 33, 34, 35, 36, 37, 38, 39, 40, 41, 42, 43, 44, 45, 46, 47, 48, 49, 50, 51, 52, 53, 54, 55, 56, 57, 58, 59, 60, 61, 62, 63, 64, 65, 66, 67] rfl (by decide +kernel)) (goodIn_sub (fun _ h => List.mem_cons_of_mem _ (List.mem_append_right _ h)) (by decide +kernel))
set_option maxRecDepth 20000 in
theorem gL_quota_X10_quota : GoodIn wsL_quota (wsV RL 93 RX10 yX10_quota wsX10_quota) := goodIn_app (goodIn_of _ (by decide +kernel)) ggL_quota_X10_quota
set_option maxRecDepth 20000 in
theorem ggL_fairShare_X10_fairShare : GoodIn wsL_fairShare wsX10_fairShare := goodIn_ca (goodIn_r _ [6, 7, 8, 9, 10, 11, 5, 12, 13, 14, 15, 16, 17, 18, 19, 20, 21, 22, 23, 24, 25, 26, 27, 28, 29, 30, 31, 32, 33, 34, 35, 36, 37, 38, 39, 40, 41, 42, 43, 44, 45, 46, 47, 48, 49, 50, 51, 52, 53, 54, 55, 56, 57, 58, 59, 60, 61, 62, 63, 64, 65, 66, 67, 68, 69, 70, 71, 72, 73, 74, 75, 76, 77, 78, 79, 80, 81, 82, 83, 84, 85, 86, 87, 88, 89, 90, 91, 92, 93, 94, 95, 96, 97, 98, 99, 100, 101, 102, 103, 104, 105, 106, 107, 108, 109, 110, 111, 112, 113, 114, 115, 116, 117, 118, 119, 120, 121, 122, 123, 124, 125, 126, 127, 128, 129] rfl (by decide +kernel)) (goodIn_sub (fun _ h => List.mem_cons_of_mem _ (List.mem_append_right _ h)) (by decide +kernel))
set_option maxRecDepth 20000 in
theorem gL_fairShare_X10_fairShare : GoodIn wsL_fairShare (wsV RL 96 RX10 yX10_fairShare wsX10_fairShare) := goodIn_app (goodIn_of _ (by decide +kernel)) ggL_fairShare_X10_fairShare
set_option maxRecDepth 20000 in
theorem ggL_inClass_X10_inClass : GoodIn wsL_inClass wsX10_inClass := goodIn_ca (goodIn_r _ [6, 7, 8, 9, 10, 5, 11, 12, 13, 14, 15, 16, 17, 18, 19, 20, 21, 22, 23, 24, 25, 26, 27, 28, 29, 30, 31, 32, 33, 34, 35, 36, 37, 38, 39, 40, 41, 42, 43, 44, 45, 46, 47, 48, 49, 50, 51, 52, 53, 54, 55, 56, 57, 58, 59, 60, 61, 62, 63, 64, 65, 66, 67, 68, 69, 70, 71, 72, 73, 74, 75, 76, 77, 78, 79, 80, 81, 82, 83, 84, 85, 86, 87, 88] rfl (by decide +kernel)) (goodIn_sub (fun _ h => List.mem_cons_of_mem _ (List.mem_append_right _ h)) (by decide +kernel))
set_option maxRecDepth 20000 in
theorem gL_inClass_X10_inClass : GoodIn wsL_inClass (wsV RL 100 RX10 yX10_inClass wsX10_inClass) := goodIn_app (goodIn_of _ (by decide +kernel)) ggL_inClass_X10_inClass
