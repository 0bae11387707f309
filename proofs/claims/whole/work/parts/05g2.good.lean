set_option maxRecDepth 20000 in
theorem ggX10_message_X10_needMessage : GoodIn wsX10_message wsX10_needMessage := goodIn_ca (goodIn_r _ [6, 7, 8, 1, 40, 41, 42, 43, 44, 45, 46, 47, 48, 49, 50, 56, 57, 58, 59, 60, 61, 62, 63, 64, 65, 66, 67, 68, 69, 70, 71] rfl (by decide +kernel)) (goodIn_sub (fun _ h => List.mem_cons_of_mem _ (List.mem_append_left _ (List.mem_append_right _ h))) (by decide +kernel))
set_option maxRecDepth 20000 in
theorem gX10_message_X10_needMessage : GoodIn wsX10_message (wsV RX10 205 RX10 yX10_needMessage wsX10_needMessage) := goodIn_app (goodIn_of _ (by decide +kernel)) ggX10_message_X10_needMessage
set_option maxRecDepth 20000 in
theorem ggX10_message_X10_needWhat : GoodIn wsX10_message wsX10_needWhat := goodIn_ca (goodIn_r _ [11, 12, 13] rfl (by decide +kernel)) (goodIn_sub (fun _ h => List.mem_cons_of_mem _ (List.mem_append_right _ h)) (by decide +kernel))
set_option maxRecDepth 20000 in
theorem gX10_message_X10_needWhat : GoodIn wsX10_message (va_wsS RX10 149 yX10_needWhat wsX10_needWhat) := goodIn_app (goodIn_of _ (by decide +kernel)) ggX10_message_X10_needWhat
set_option maxRecDepth 20000 in
theorem ggX10_message_X8_messageAt : GoodIn wsX10_message wsX8_messageAt := goodIn_r _ [18, 19, 20, 21, 56, 57, 58, 59, 60, 61, 62, 63, 64, 65, 66, 67, 68, 69, 70, 71] rfl (by decide +kernel)
set_option maxRecDepth 20000 in
theorem gX10_message_X8_messageAt : GoodIn wsX10_message (wsV RX10 208 RX8 yX8_messageAt wsX8_messageAt) := goodIn_app (goodIn_of _ (by decide +kernel)) ggX10_message_X8_messageAt
set_option maxRecDepth 20000 in
theorem ggX10_message_X8_keepsMessage : GoodIn wsX10_message wsX8_keepsMessage := goodIn_r _ [25, 26, 27, 28, 29, 17, 30, 19, 31, 32, 33, 34, 35, 36, 37, 38, 5, 39, 56, 57, 58, 59, 60, 61, 62, 63, 64, 65, 66, 67, 68, 69, 70, 71, 72, 73, 74, 75, 76, 77, 78, 79, 80, 81, 82, 83, 84, 85, 86, 87, 88, 89] rfl (by decide +kernel)
set_option maxRecDepth 20000 in
theorem gX10_message_X8_keepsMessage : GoodIn wsX10_message (wsV RX10 222 RX8 yX8_keepsMessage wsX8_keepsMessage) := goodIn_app (goodIn_of _ (by decide +kernel)) ggX10_message_X8_keepsMessage
set_option maxRecDepth 20000 in
theorem ggX10_partOf_X10_needMessage : GoodIn wsX10_partOf wsX10_needMessage := goodIn_ca (goodIn_r _ [8, 1, 2, 3, 20, 21, 22, 23, 24, 25, 26, 27, 28, 29, 30, 36, 37, 38, 39, 40, 41, 42, 43, 44, 45, 46, 47, 48, 49, 50, 51] rfl (by decide +kernel)) (goodIn_sub (fun _ h => List.mem_cons_of_mem _ (List.mem_append_right _ h)) (by decide +kernel))
set_option maxRecDepth 20000 in
theorem gX10_partOf_X10_needMessage : GoodIn wsX10_partOf (wsV RX10 205 RX10 yX10_needMessage wsX10_needMessage) := goodIn_app (goodIn_of _ (by decide +kernel)) ggX10_partOf_X10_needMessage
set_option maxRecDepth 20000 in
theorem ggX10_partOf_X8_messageAt : GoodIn wsX10_partOf wsX8_messageAt := goodIn_r _ [13, 14, 15, 16, 36, 37, 38, 39, 40, 41, 42, 43, 44, 45, 46, 47, 48, 49, 50, 51] rfl (by decide +kernel)
set_option maxRecDepth 20000 in
theorem gX10_partOf_X8_messageAt : GoodIn wsX10_partOf (wsV RX10 208 RX8 yX8_messageAt wsX8_messageAt) := goodIn_app (goodIn_of _ (by decide +kernel)) ggX10_partOf_X8_messageAt
set_option maxRecDepth 20000 in
theorem ggX10_partOf_X10_at : GoodIn wsX10_partOf wsX10_at := goodIn_r _ [19] rfl (by decide +kernel)
set_option maxRecDepth 20000 in
theorem gX10_partOf_X10_at : GoodIn wsX10_partOf (va_wsS RX10 142 yX10_at wsX10_at) := goodIn_app (goodIn_of _ (by decide +kernel)) ggX10_partOf_X10_at
set_option maxRecDepth 20000 in
theorem ggX10_readers_X10_needMessage : GoodIn wsX10_readers wsX10_needMessage := goodIn_ca (goodIn_r _ [6, 7, 8, 1, 29, 30, 31, 32, 33, 34, 35, 36, 37, 38, 39, 40, 41, 42, 43, 44, 45, 46, 47, 48, 49, 50, 51, 52, 53, 54, 55] rfl (by decide +kernel)) (goodIn_sub (fun _ h => List.mem_cons_of_mem _ (List.mem_append_right _ h)) (by decide +kernel))
set_option maxRecDepth 20000 in
theorem gX10_readers_X10_needMessage : GoodIn wsX10_readers (wsV RX10 205 RX10 yX10_needMessage wsX10_needMessage) := goodIn_app (goodIn_of _ (by decide +kernel)) ggX10_readers_X10_needMessage
set_option maxRecDepth 20000 in
theorem ggX10_readers_X8_usersIn : GoodIn wsX10_readers wsX8_usersIn := goodIn_r _ [13, 14, 15, 16, 17, 12, 18, 19, 20, 21, 22, 23, 24, 25, 26, 27, 5, 28, 40, 41, 42, 43, 44, 45, 46, 47, 48, 49, 50, 51, 52, 53, 54, 55, 56, 57, 58, 59, 60, 61, 62, 63, 64, 65, 66, 67, 68, 69, 70, 71, 72, 73] rfl (by decide +kernel)
set_option maxRecDepth 20000 in
theorem gX10_readers_X8_usersIn : GoodIn wsX10_readers (wsV RX10 227 RX8 yX8_usersIn wsX8_usersIn) := goodIn_app (goodIn_of _ (by decide +kernel)) ggX10_readers_X8_usersIn
set_option maxRecDepth 20000 in
theorem ggX10_hidden_X10_needMessage : GoodIn wsX10_hidden wsX10_needMessage := goodIn_ca (goodIn_r _ [6, 7, 8, 1, 29, 30, 31, 32, 33, 34, 35, 36, 37, 38, 39, 40, 41, 42, 43, 44, 45, 46, 47, 48, 49, 50, 51, 52, 53, 54, 55] rfl (by decide +kernel)) (goodIn_sub (fun _ h => List.mem_cons_of_mem _ (List.mem_append_right _ h)) (by decide +kernel))
set_option maxRecDepth 20000 in
theorem gX10_hidden_X10_needMessage : GoodIn wsX10_hidden (wsV RX10 205 RX10 yX10_needMessage wsX10_needMessage) := goodIn_app (goodIn_of _ (by decide +kernel)) ggX10_hidden_X10_needMessage
set_option maxRecDepth 20000 in
theorem ggX10_hidden_X8_usersIn : GoodIn wsX10_hidden wsX8_usersIn := goodIn_r _ [13, 14, 15, 16, 17, 12, 18, 19, 20, 21, 22, 23, 24, 25, 26, 27, 5, 28, 40, 41, 42, 43, 44, 45, 46, 47, 48, 49, 50, 51, 52, 53, 54, 55, 56, 57, 58, 59, 60, 61, 62, 63, 64, 65, 66, 67, 68, 69, 70, 71, 72, 73] rfl (by decide +kernel)
set_option maxRecDepth 20000 in
theorem gX10_hidden_X8_usersIn : GoodIn wsX10_hidden (wsV RX10 227 RX8 yX8_usersIn wsX8_usersIn) := goodIn_app (goodIn_of _ (by decide +kernel)) ggX10_hidden_X8_usersIn
set_option maxRecDepth 20000 in
theorem ggX10_state_X10_needReference : GoodIn wsX10_state wsX10_needReference := goodIn_ca (goodIn_r _ [6, 7, 8, 1, 9, 10, 11, 12, 13, 14, 15, 16, 17, 18, 19, 20, 21, 22, 23, 5, 24, 25, 26, 27, 28, 29, 30, 31, 32, 33, 34, 35, 36, 37, 38, 39, 40, 41, 42, 43, 44, 45, 46, 47, 48, 49, 50, 51, 52, 53, 54, 55, 56, 57, 58, 59, 60, 61, 62, 63, 64, 65, 66, 67, 68, 69] rfl (by decide +kernel)) (goodIn_sub (fun _ h => List.mem_cons_of_mem _ (List.mem_append_right _ h)) (by decide +kernel))
set_option maxRecDepth 20000 in
theorem gX10_state_X10_needReference : GoodIn wsX10_state (wsV RX10 231 RX10 yX10_needReference wsX10_needReference) := goodIn_app (goodIn_of _ (by decide +kernel)) ggX10_state_X10_needReference
set_option maxRecDepth 20000 in
theorem ggX10_state_X8_stateOf : GoodIn wsX10_state wsX8_stateOf := goodIn_r _ [13, 14, 15, 16, 17, 18, 19, 20, 21, 22, 23, 5, 24, 36, 37, 38, 39, 40, 41, 42, 43, 44, 45, 46, 47, 48, 49, 50, 51, 52, 53, 54, 55, 56, 57, 58, 59, 60, 61, 62, 63, 64, 65, 66, 67, 68, 69] rfl (by decide +kernel)
set_option maxRecDepth 20000 in
theorem gX10_state_X8_stateOf : GoodIn wsX10_state (wsV RX10 234 RX8 yX8_stateOf wsX8_stateOf) := goodIn_app (goodIn_of _ (by decide +kernel)) ggX10_state_X8_stateOf
set_option maxRecDepth 20000 in
theorem ggX10_classOf_X10_needReference : GoodIn wsX10_classOf wsX10_needReference := goodIn_ca (goodIn_r _ [6, 7, 8, 1, 9, 10, 11, 12, 13, 14, 15, 16, 17, 18, 19, 20, 21, 22, 23, 5, 24, 30, 31, 32, 33, 34, 35, 36, 37, 38, 39, 40, 41, 42, 43, 44, 45, 46, 47, 48, 49, 50, 51, 52, 53, 54, 55, 56, 57, 58, 59, 60, 61, 62, 63, 64, 65, 66, 67, 68, 69, 70, 71, 72, 73, 74] rfl (by decide +kernel)) (goodIn_sub (fun _ h => List.mem_cons_of_mem _ (List.mem_append_right _ h)) (by decide +kernel))
set_option maxRecDepth 20000 in
theorem gX10_classOf_X10_needReference : GoodIn wsX10_classOf (wsV RX10 231 RX10 yX10_needReference wsX10_needReference) := goodIn_app (goodIn_of _ (by decide +kernel)) ggX10_classOf_X10_needReference
set_option maxRecDepth 20000 in
theorem ggX10_classOf_X8_retentionOf : GoodIn wsX10_classOf wsX8_retentionOf := goodIn_r _ [28, 29, 23, 5, 24, 41, 42, 43, 44, 45, 46, 47, 48, 49, 50, 51, 52, 53, 54, 55, 56] rfl (by decide +kernel)
set_option maxRecDepth 20000 in
theorem gX10_classOf_X8_retentionOf : GoodIn wsX10_classOf (wsV RX10 238 RX8 yX8_retentionOf wsX8_retentionOf) := goodIn_app (goodIn_of _ (by decide +kernel)) ggX10_classOf_X8_retentionOf
set_option maxRecDepth 20000 in
theorem ggX10_enteredOn_X10_needReference : GoodIn wsX10_enteredOn wsX10_needReference := goodIn_ca (goodIn_r _ [6, 7, 8, 1, 9, 10, 11, 12, 13, 14, 15, 16, 17, 18, 19, 20, 21, 22, 23, 5, 24, 26, 27, 28, 29, 30, 31, 32, 33, 34, 35, 36, 37, 38, 39, 40, 41, 42, 43, 44, 45, 46, 47, 48, 49, 50, 51, 52, 53, 54, 55, 56, 57, 58, 59, 60, 61, 62, 63, 64, 65, 66, 67, 68, 69, 70] rfl (by decide +kernel)) (goodIn_sub (fun _ h => List.mem_cons_of_mem _ (List.mem_append_right _ h)) (by decide +kernel))
set_option maxRecDepth 20000 in
theorem gX10_enteredOn_X10_needReference : GoodIn wsX10_enteredOn (wsV RX10 231 RX10 yX10_needReference wsX10_needReference) := goodIn_app (goodIn_of _ (by decide +kernel)) ggX10_enteredOn_X10_needReference
set_option maxRecDepth 20000 in
theorem ggX10_enteredOn_X10_at : GoodIn wsX10_enteredOn wsX10_at := goodIn_r _ [24] rfl (by decide +kernel)
set_option maxRecDepth 20000 in
theorem gX10_enteredOn_X10_at : GoodIn wsX10_enteredOn (va_wsS RX10 142 yX10_at wsX10_at) := goodIn_app (goodIn_of _ (by decide +kernel)) ggX10_enteredOn_X10_at
set_option maxRecDepth 20000 in
theorem ggX10_expiresOn_X10_needReference : GoodIn wsX10_expiresOn wsX10_needReference := goodIn_ca (goodIn_r _ [6, 7, 8, 1, 9, 10, 11, 12, 13, 14, 15, 16, 17, 18, 19, 20, 21, 22, 23, 5, 24, 48, 49, 50, 51, 52, 53, 54, 55, 56, 57, 58, 59, 60, 61, 62, 63, 64, 65, 66, 67, 68, 69, 70, 71, 72, 73, 74, 75, 76, 77, 78, 79, 80, 81, 82, 83, 84, 85, 86, 87, 88, 89, 90, 91, 92] rfl (by decide +kernel)) (goodIn_sub (fun _ h => List.mem_cons_of_mem _ (List.mem_append_right _ h)) (by decide +kernel))
set_option maxRecDepth 20000 in
theorem gX10_expiresOn_X10_needReference : GoodIn wsX10_expiresOn (wsV RX10 231 RX10 yX10_needReference wsX10_needReference) := goodIn_app (goodIn_of _ (by decide +kernel)) ggX10_expiresOn_X10_needReference
set_option maxRecDepth 20000 in
theorem ggX10_expiresOn_X8_expiryOf : GoodIn wsX10_expiresOn wsX8_expiryOf := goodIn_r _ [28, 15, 29, 30, 31, 32, 33, 34, 35, 36, 37, 12, 38, 39, 23, 5, 24, 40, 41, 42, 43, 44, 45, 46, 47, 10, 11, 13, 14, 16, 17, 18, 19, 20, 21, 22, 59, 60, 61, 62, 63, 64, 65, 66, 67, 68, 69, 70, 71, 72, 73, 74, 75, 76, 77, 78, 79, 80, 81, 82, 83, 84, 85, 86, 87, 88, 89, 90, 91, 92] rfl (by decide +kernel)
set_option maxRecDepth 20000 in
theorem gX10_expiresOn_X8_expiryOf : GoodIn wsX10_expiresOn (wsV RX10 244 RX8 yX8_expiryOf wsX8_expiryOf) := goodIn_app (goodIn_of _ (by decide +kernel)) ggX10_expiresOn_X8_expiryOf
set_option maxRecDepth 20000 in
theorem ggX10_isKept_X10_needReference : GoodIn wsX10_isKept wsX10_needReference := goodIn_ca (goodIn_r _ [6, 7, 8, 1, 9, 10, 11, 12, 13, 14, 15, 16, 17, 18, 19, 20, 21, 22, 23, 5, 24, 39, 40, 41, 42, 43, 44, 45, 46, 47, 48, 49, 50, 51, 52, 53, 54, 55, 56, 57, 58, 59, 60, 61, 62, 63, 64, 65, 66, 67, 68, 69, 70, 71, 72, 73, 74, 75, 76, 77, 78, 79, 80, 81, 82, 83] rfl (by decide +kernel)) (goodIn_sub (fun _ h => List.mem_cons_of_mem _ (List.mem_append_right _ h)) (by decide +kernel))
set_option maxRecDepth 20000 in
theorem gX10_isKept_X10_needReference : GoodIn wsX10_isKept (wsV RX10 231 RX10 yX10_needReference wsX10_needReference) := goodIn_app (goodIn_of _ (by decide +kernel)) ggX10_isKept_X10_needReference
set_option maxRecDepth 20000 in
theorem ggX10_isKept_X8_classKeeps : GoodIn wsX10_isKept wsX8_classKeeps := goodIn_r _ [28, 15, 29, 30, 31, 12, 32, 33, 23, 5, 24, 34, 10, 11, 13, 14, 16, 17, 18, 19, 20, 21, 22, 35, 36, 37, 38, 50, 51, 52, 53, 54, 55, 56, 57, 58, 59, 60, 61, 62, 63, 64, 65, 66, 67, 68, 69, 70, 71, 72, 73, 74, 75, 76, 77, 78, 79, 80, 81, 82, 83] rfl (by decide +kernel)
set_option maxRecDepth 20000 in
theorem gX10_isKept_X8_classKeeps : GoodIn wsX10_isKept (wsV RX10 247 RX8 yX8_classKeeps wsX8_classKeeps) := goodIn_app (goodIn_of _ (by decide +kernel)) ggX10_isKept_X8_classKeeps
set_option maxRecDepth 20000 in
theorem ggX10_holdsOn_X10_needReference : GoodIn wsX10_holdsOn wsX10_needReference := goodIn_ca (goodIn_r _ [6, 7, 8, 1, 9, 10, 11, 12, 13, 14, 15, 16, 17, 18, 19, 20, 21, 22, 23, 5, 24, 43, 44, 45, 46, 47, 48, 49, 50, 51, 52, 53, 54, 55, 56, 57, 58, 59, 60, 61, 62, 63, 64, 65, 66, 67, 68, 69, 70, 71, 72, 73, 74, 75, 76, 77, 78, 79, 80, 81, 82, 83, 84, 85, 86, 87] rfl (by decide +kernel)) (goodIn_sub (fun _ h => List.mem_cons_of_mem _ (List.mem_append_right _ h)) (by decide +kernel))
set_option maxRecDepth 20000 in
theorem gX10_holdsOn_X10_needReference : GoodIn wsX10_holdsOn (wsV RX10 231 RX10 yX10_needReference wsX10_needReference) := goodIn_app (goodIn_of _ (by decide +kernel)) ggX10_holdsOn_X10_needReference
set_option maxRecDepth 20000 in
theorem ggX10_holdsOn_X8_holdsCovering : GoodIn wsX10_holdsOn wsX8_holdsCovering := goodIn_r _ [28, 29, 15, 30, 31, 32, 12, 33, 14, 34, 35, 36, 37, 38, 39, 40, 41, 42, 23, 5, 24, 54, 55, 56, 57, 58, 59, 60, 61, 62, 63, 64, 65, 66, 67, 68, 69, 88, 89, 90, 91, 92, 70, 71, 72, 73, 74, 75, 76, 77, 78, 79, 80, 81, 82, 83, 84, 85, 86, 87] rfl (by decide +kernel)
set_option maxRecDepth 20000 in
theorem gX10_holdsOn_X8_holdsCovering : GoodIn wsX10_holdsOn (wsV RX10 251 RX8 yX8_holdsCovering wsX8_holdsCovering) := goodIn_app (goodIn_of _ (by decide +kernel)) ggX10_holdsOn_X8_holdsCovering
set_option maxRecDepth 20000 in
theorem ggX10_storedPart_X9_storedAt : GoodIn wsX10_storedPart wsX9_storedAt := goodIn_r _ [8, 9, 10, 11, 12, 7, 13, 14, 15, 16, 17, 45, 46, 47, 48, 49, 50, 51, 52] rfl (by decide +kernel)
set_option maxRecDepth 20000 in
theorem gX10_storedPart_X9_storedAt : GoodIn wsX10_storedPart (wsV RX10 259 RX9 yX9_storedAt wsX9_storedAt) := goodIn_app (goodIn_of _ (by decide +kernel)) ggX10_storedPart_X9_storedAt
set_option maxRecDepth 20000 in
theorem ggX10_part_X10_needPart : GoodIn wsX10_part wsX10_needPart := goodIn_ca (goodIn_r _ [6, 7, 8, 1, 9, 10, 11, 12, 13, 14, 15, 16, 5, 17, 30, 31, 32, 33, 34, 35, 36, 37, 38, 39, 40, 41, 42, 43, 44, 45, 46, 47, 48, 49, 50, 51, 52, 53, 54, 55, 56, 59, 60, 61, 62, 63, 64, 65, 66] rfl (by decide +kernel)) (goodIn_sub (fun _ h => List.mem_cons_of_mem _ (List.mem_append_left _ (List.mem_append_right _ h))) (by decide +kernel))
set_option maxRecDepth 20000 in
theorem gX10_part_X10_needPart : GoodIn wsX10_part (wsV RX10 262 RX10 yX10_needPart wsX10_needPart) := goodIn_app (goodIn_of _ (by decide +kernel)) ggX10_part_X10_needPart
set_option maxRecDepth 20000 in
theorem ggX10_part_X10_needWhat : GoodIn wsX10_part wsX10_needWhat := goodIn_ca (goodIn_r _ [20, 21, 22] rfl (by decide +kernel)) (goodIn_sub (fun _ h => List.mem_cons_of_mem _ (List.mem_append_right _ h)) (by decide +kernel))
set_option maxRecDepth 20000 in
theorem gX10_part_X10_needWhat : GoodIn wsX10_part (va_wsS RX10 149 yX10_needWhat wsX10_needWhat) := goodIn_app (goodIn_of _ (by decide +kernel)) ggX10_part_X10_needWhat
set_option maxRecDepth 20000 in
theorem ggX10_part_X9_bytesOf : GoodIn wsX10_part wsX9_bytesOf := goodIn_r _ [26, 14, 27, 28, 59, 60, 61, 62, 63, 64, 65, 66] rfl (by decide +kernel)
set_option maxRecDepth 20000 in
theorem gX10_part_X9_bytesOf : GoodIn wsX10_part (wsV RX10 265 RX9 yX9_bytesOf wsX9_bytesOf) := goodIn_app (goodIn_of _ (by decide +kernel)) ggX10_part_X9_bytesOf
set_option maxRecDepth 20000 in
theorem ggX10_part_X10_at : GoodIn wsX10_part wsX10_at := goodIn_r _ [17] rfl (by decide +kernel)
set_option maxRecDepth 20000 in
theorem gX10_part_X10_at : GoodIn wsX10_part (va_wsS RX10 142 yX10_at wsX10_at) := goodIn_app (goodIn_of _ (by decide +kernel)) ggX10_part_X10_at
set_option maxRecDepth 20000 in
theorem ggX10_partByte_X10_needPart : GoodIn wsX10_partByte wsX10_needPart := goodIn_ca (goodIn_r _ [8, 9, 10, 3, 11, 12, 13, 14, 15, 16, 17, 18, 7, 19, 33, 34, 35, 36, 37, 38, 39, 40, 41, 42, 43, 44, 45, 46, 47, 48, 49, 50, 51, 52, 53, 54, 55, 56, 57, 58, 59, 62, 63, 64, 65, 66, 67, 68, 69] rfl (by decide +kernel)) (goodIn_sub (fun _ h => List.mem_cons_of_mem _ (List.mem_append_right _ h)) (by decide +kernel))
set_option maxRecDepth 20000 in
theorem gX10_partByte_X10_needPart : GoodIn wsX10_partByte (wsV RX10 262 RX10 yX10_needPart wsX10_needPart) := goodIn_app (goodIn_of _ (by decide +kernel)) ggX10_partByte_X10_needPart
set_option maxRecDepth 20000 in
theorem ggX10_partByte_X9_bytesOf : GoodIn wsX10_partByte wsX9_bytesOf := goodIn_r _ [23, 16, 24, 25, 62, 63, 64, 65, 66, 67, 68, 69] rfl (by decide +kernel)
set_option maxRecDepth 20000 in
theorem gX10_partByte_X9_bytesOf : GoodIn wsX10_partByte (wsV RX10 265 RX9 yX9_bytesOf wsX9_bytesOf) := goodIn_app (goodIn_of _ (by decide +kernel)) ggX10_partByte_X9_bytesOf
set_option maxRecDepth 20000 in
theorem ggX10_partByte_X0_byteAt : GoodIn wsX10_partByte wsX0_byteAt := goodIn_r _ [30, 31, 32, 60, 61] rfl (by decide +kernel)
set_option maxRecDepth 20000 in
theorem gX10_partByte_X0_byteAt : GoodIn wsX10_partByte (wsV RX10 283 RX0 yX0_byteAt wsX0_byteAt) := goodIn_app (goodIn_of _ (by decide +kernel)) ggX10_partByte_X0_byteAt
set_option maxRecDepth 20000 in
theorem ggX10_digest_X10_needPart : GoodIn wsX10_digest wsX10_needPart := goodIn_ca (goodIn_r _ [6, 7, 8, 1, 9, 10, 11, 12, 13, 14, 15, 16, 5, 17, 37, 38, 39, 40, 41, 42, 43, 44, 45, 46, 47, 48, 49, 50, 51, 52, 53, 54, 55, 56, 57, 58, 59, 60, 61, 62, 63, 64, 65, 66, 67, 68, 69, 70, 71] rfl (by decide +kernel)) (goodIn_sub (fun _ h => List.mem_cons_of_mem _ (List.mem_append_right _ h)) (by decide +kernel))
set_option maxRecDepth 20000 in
theorem gX10_digest_X10_needPart : GoodIn wsX10_digest (wsV RX10 262 RX10 yX10_needPart wsX10_needPart) := goodIn_app (goodIn_of _ (by decide +kernel)) ggX10_digest_X10_needPart
set_option maxRecDepth 20000 in
theorem ggX10_digest_X9_bytesOf : GoodIn wsX10_digest wsX9_bytesOf := goodIn_r _ [21, 14, 22, 23, 64, 65, 66, 67, 68, 69, 70, 71] rfl (by decide +kernel)
set_option maxRecDepth 20000 in
theorem gX10_digest_X9_bytesOf : GoodIn wsX10_digest (wsV RX10 265 RX9 yX9_bytesOf wsX9_bytesOf) := goodIn_app (goodIn_of _ (by decide +kernel)) ggX10_digest_X9_bytesOf
set_option maxRecDepth 20000 in
theorem ggX10_digest_X0_hash : GoodIn wsX10_digest wsX0_hash := goodIn_r _ [28, 29, 30, 31, 32, 33, 34, 27, 35, 36, 72, 73] rfl (by decide +kernel)
set_option maxRecDepth 20000 in
theorem gX10_digest_X0_hash : GoodIn wsX10_digest (wsV RX10 286 RX0 yX0_hash wsX0_hash) := goodIn_app (goodIn_of _ (by decide +kernel)) ggX10_digest_X0_hash
set_option maxRecDepth 20000 in
theorem ggX10_storedBytes_X9_byteSum : GoodIn wsX10_storedBytes wsX9_byteSum := goodIn_r _ [6, 7, 8, 9, 10, 5, 11, 12, 13, 14, 15, 16, 17, 18, 19, 20, 21, 22, 23, 24, 25, 53, 54, 55, 56, 57, 58, 59, 60, 61, 62] rfl (by decide +kernel)
set_option maxRecDepth 20000 in
theorem gX10_storedBytes_X9_byteSum : GoodIn wsX10_storedBytes (wsV RX10 289 RX9 yX9_byteSum wsX9_byteSum) := goodIn_app (goodIn_of _ (by decide +kernel)) ggX10_storedBytes_X9_byteSum
set_option maxRecDepth 20000 in
theorem ggX10_deadBytes_X9_byteSum : GoodIn wsX10_deadBytes wsX9_byteSum := goodIn_r _ [6, 7, 8, 9, 10, 5, 11, 12, 13, 14, 15, 16, 17, 18, 19, 20, 21, 22, 23, 24, 25, 53, 54, 55, 56, 57, 58, 59, 60, 61, 62] rfl (by decide +kernel)
set_option maxRecDepth 20000 in
theorem gX10_deadBytes_X9_byteSum : GoodIn wsX10_deadBytes (wsV RX10 289 RX9 yX9_byteSum wsX9_byteSum) := goodIn_app (goodIn_of _ (by decide +kernel)) ggX10_deadBytes_X9_byteSum
set_option maxRecDepth 20000 in
theorem ggX10_logicalBytes_X8_usageOf : GoodIn wsX10_logicalBytes wsX8_usageOf := goodIn_r _ [6, 7, 8, 9, 10, 5, 11, 12, 13, 14, 15, 16, 17, 18, 19, 20, 21, 22, 23, 24, 25, 26, 27, 28, 40, 41, 42, 43, 44, 45, 46, 47, 48, 49, 50, 51, 52, 53, 54, 55, 74, 75, 76, 77, 78, 56, 57, 58, 59, 60, 61, 62, 63, 64, 65, 66, 67, 68, 69, 70, 71, 72, 73] rfl (by decide +kernel)
set_option maxRecDepth 20000 in
theorem gX10_logicalBytes_X8_usageOf : GoodIn wsX10_logicalBytes (wsV RX10 293 RX8 yX8_usageOf wsX8_usageOf) := goodIn_app (goodIn_of _ (by decide +kernel)) ggX10_logicalBytes_X8_usageOf
set_option maxRecDepth 20000 in
theorem ggX10_mostShared_X9_mostKept : GoodIn wsX10_mostShared wsX9_mostKept := goodIn_r _ [6, 7, 8, 9, 10, 11, 5, 12, 13, 14, 15, 16, 44, 45, 46, 47, 48, 49, 50, 51] rfl (by decide +kernel)
set_option maxRecDepth 20000 in
theorem gX10_mostShared_X9_mostKept : GoodIn wsX10_mostShared (wsV RX10 296 RX9 yX9_mostKept wsX9_mostKept) := goodIn_app (goodIn_of _ (by decide +kernel)) ggX10_mostShared_X9_mostKept
set_option maxRecDepth 20000 in
theorem ggX10_usage_X10_needUser : GoodIn wsX10_usage wsX10_needUser := goodIn_ca (goodIn_r _ [6, 7, 8, 1, 9, 10, 11, 12, 13, 14, 36, 37, 38, 39, 40, 41, 42, 43, 44, 45, 46, 47, 48, 49, 50, 51, 52, 53, 54, 55, 56, 57, 58, 59, 60, 61, 62, 63, 64, 65, 66, 67, 68, 69, 70, 71, 72, 73, 74, 75, 76, 77, 78, 79, 80] rfl (by decide +kernel)) (goodIn_sub (fun _ h => List.mem_cons_of_mem _ (List.mem_append_right _ h)) (by decide +kernel))
set_option maxRecDepth 20000 in
theorem gX10_usage_X10_needUser : GoodIn wsX10_usage (wsV RX10 169 RX10 yX10_needUser wsX10_needUser) := goodIn_app (goodIn_of _ (by decide +kernel)) ggX10_usage_X10_needUser
set_option maxRecDepth 20000 in
theorem ggX10_usage_X8_usageOf : GoodIn wsX10_usage wsX8_usageOf := goodIn_r _ [19, 20, 21, 22, 23, 18, 24, 25, 26, 27, 10, 11, 12, 13, 14, 28, 5, 29, 30, 31, 32, 33, 34, 35, 47, 48, 49, 50, 51, 52, 53, 54, 55, 56, 57, 58, 59, 60, 61, 62, 81, 82, 83, 84, 85, 63, 64, 65, 66, 67, 68, 69, 70, 71, 72, 73, 74, 75, 76, 77, 78, 79, 80] rfl (by decide +kernel)
set_option maxRecDepth 20000 in
theorem gX10_usage_X8_usageOf : GoodIn wsX10_usage (wsV RX10 293 RX8 yX8_usageOf wsX8_usageOf) := goodIn_app (goodIn_of _ (by decide +kernel)) ggX10_usage_X8_usageOf
set_option maxRecDepth 20000 in
theorem ggX10_quota_X10_needUser : GoodIn wsX10_quota wsX10_needUser := goodIn_ca (goodIn_r _ [6, 7, 8, 1, 9, 10, 11, 12, 13, 14, 18, 19, 20, 21, 22, 23, 24, 25, 26, 27, 28, 29, 30, 31, 32, 33, 34, 35, 36, 37, 38, 39, 40, 41, 42, 43, 44, 45, 46, 47, 48, 49, 50, 51, 52, 53, 54, 55, 56, 57, 58, 59, 60, 61, 62] rfl (by decide +kernel)) (goodIn_sub (fun _ h => List.mem_cons_of_mem _ (List.mem_append_right _ h)) (by decide +kernel))
set_option maxRecDepth 20000 in
theorem gX10_quota_X10_needUser : GoodIn wsX10_quota (wsV RX10 169 RX10 yX10_needUser wsX10_needUser) := goodIn_app (goodIn_of _ (by decide +kernel)) ggX10_quota_X10_needUser
set_option maxRecDepth 20000 in
theorem ggX10_quota_X10_at : GoodIn wsX10_quota wsX10_at := goodIn_r _ [17] rfl (by decide +kernel)
set_option maxRecDepth 20000 in
theorem gX10_quota_X10_at : GoodIn wsX10_quota (va_wsS RX10 142 yX10_at wsX10_at) := goodIn_app (goodIn_of _ (by decide +kernel)) ggX10_quota_X10_at
set_option maxRecDepth 20000 in
theorem ggX10_fairShare_X10_needUser : GoodIn wsX10_fairShare wsX10_needUser := goodIn_ca (goodIn_r _ [7, 8, 9, 1, 10, 11, 12, 13, 14, 15, 65, 66, 67, 68, 69, 70, 71, 72, 73, 74, 75, 76, 77, 78, 79, 80, 81, 82, 83, 84, 85, 86, 87, 88, 89, 90, 91, 94, 95, 96, 97, 98, 99, 100, 101, 102, 103, 104, 105, 106, 107, 108, 109, 110, 111] rfl (by decide +kernel)) (goodIn_sub (fun _ h => List.mem_cons_of_mem _ (List.mem_append_right _ h)) (by decide +kernel))
set_option maxRecDepth 20000 in
theorem gX10_fairShare_X10_needUser : GoodIn wsX10_fairShare (wsV RX10 169 RX10 yX10_needUser wsX10_needUser) := goodIn_app (goodIn_of _ (by decide +kernel)) ggX10_fairShare_X10_needUser
set_option maxRecDepth 20000 in
theorem ggX10_fairShare_X8_gatherReaders : GoodIn wsX10_fairShare wsX8_gatherReaders := goodIn_r _ [20, 21, 22, 23, 24, 25, 26, 27, 28, 19, 29, 30, 31, 32, 33, 34, 35, 36, 11, 12, 13, 14, 15, 37, 6, 38, 39, 40, 41, 42, 43, 44, 45, 46, 76, 77, 78, 79, 80, 81, 82, 83, 84, 85, 86, 87, 88, 89, 90, 91, 112, 113, 114, 115, 116, 94, 95, 96, 97, 98, 99, 100, 101, 102, 103, 104, 105, 106, 107, 108, 109, 110, 111] rfl (by decide +kernel)
set_option maxRecDepth 20000 in
theorem gX10_fairShare_X8_gatherReaders : GoodIn wsX10_fairShare (wsV RX10 302 RX8 yX8_gatherReaders wsX8_gatherReaders) := goodIn_app (goodIn_of _ (by decide +kernel)) ggX10_fairShare_X8_gatherReaders
set_option maxRecDepth 20000 in
theorem ggX10_fairShare_J6_bitCount_0f7a4 : GoodIn wsX10_fairShare wsJ6_bitCount_0f7a4 := goodIn_r _ [50, 51, 52, 53] rfl (by decide +kernel)
set_option maxRecDepth 20000 in
theorem gX10_fairShare_J6_bitCount_0f7a4 : GoodIn wsX10_fairShare (va_wsS RX10 306 yJ6_bitCount_0f7a4 wsJ6_bitCount_0f7a4) := goodIn_app (goodIn_of _ (by decide +kernel)) ggX10_fairShare_J6_bitCount_0f7a4
set_option maxRecDepth 20000 in
theorem ggX10_fairShare_X10_hasBit : GoodIn wsX10_fairShare wsX10_hasBit := goodIn_r _ [56] rfl (by decide +kernel)
set_option maxRecDepth 20000 in
theorem gX10_fairShare_X10_hasBit : GoodIn wsX10_fairShare (va_wsS RX10 311 yX10_hasBit wsX10_hasBit) := goodIn_app (goodIn_of _ (by decide +kernel)) ggX10_fairShare_X10_hasBit
set_option maxRecDepth 20000 in
theorem ggX10_fairShare_X9_bytesOf : GoodIn wsX10_fairShare wsX9_bytesOf := goodIn_r _ [61, 62, 63, 64, 117, 118, 119, 120, 121, 122, 123, 124] rfl (by decide +kernel)
set_option maxRecDepth 20000 in
theorem gX10_fairShare_X9_bytesOf : GoodIn wsX10_fairShare (wsV RX10 265 RX9 yX9_bytesOf wsX9_bytesOf) := goodIn_app (goodIn_of _ (by decide +kernel)) ggX10_fairShare_X9_bytesOf
set_option maxRecDepth 20000 in
theorem ggX10_inClass_X10_needUser : GoodIn wsX10_inClass wsX10_needUser := goodIn_ca (goodIn_r _ [6, 7, 8, 1, 9, 10, 11, 12, 13, 14, 39, 40, 41, 42, 43, 44, 45, 46, 47, 48, 49, 50, 51, 52, 53, 54, 55, 56, 57, 58, 59, 60, 61, 62, 63, 64, 65, 66, 67, 68, 69, 70, 71, 72, 73, 74, 75, 76, 77, 78, 79, 80, 81, 82, 83] rfl (by decide +kernel)) (goodIn_sub (fun _ h => List.mem_cons_of_mem _ (List.mem_append_right _ h)) (by decide +kernel))
set_option maxRecDepth 20000 in
theorem gX10_inClass_X10_needUser : GoodIn wsX10_inClass (wsV RX10 169 RX10 yX10_needUser wsX10_needUser) := goodIn_app (goodIn_of _ (by decide +kernel)) ggX10_inClass_X10_needUser
set_option maxRecDepth 20000 in
theorem ggX10_inClass_X10_needClass : GoodIn wsX10_inClass wsX10_needClass := goodIn_ca (goodIn_r _ [18, 7, 8, 1, 9, 10, 11, 12, 13, 14, 39, 40, 41, 42, 43, 44, 45, 46, 47, 48, 49, 50, 51, 52, 53, 54, 55, 56, 57, 58, 59, 60, 61, 62, 63, 64, 65, 66, 67, 68, 69, 70, 71, 72, 73, 74, 75, 76, 77, 78, 79, 80, 81, 82, 83] rfl (by decide +kernel)) (goodIn_sub (fun _ h => List.mem_cons_of_mem _ (List.mem_append_right _ h)) (by decide +kernel))
set_option maxRecDepth 20000 in
theorem gX10_inClass_X10_needClass : GoodIn wsX10_inClass (wsV RX10 146 RX10 yX10_needClass wsX10_needClass) := goodIn_app (goodIn_of _ (by decide +kernel)) ggX10_inClass_X10_needClass
set_option maxRecDepth 20000 in
theorem ggX10_inClass_X8_liveInClass : GoodIn wsX10_inClass wsX8_liveInClass := goodIn_r _ [23, 24, 25, 26, 27, 22, 28, 29, 30, 31, 10, 11, 12, 13, 14, 32, 5, 33, 34, 35, 36, 37, 38, 50, 51, 52, 53, 54, 55, 56, 57, 58, 59, 60, 61, 62, 63, 64, 65, 66, 67, 68, 69, 70, 71, 72, 73, 74, 75, 76, 77, 78, 79, 80, 81, 82, 83] rfl (by decide +kernel)
set_option maxRecDepth 20000 in
theorem gX10_inClass_X8_liveInClass : GoodIn wsX10_inClass (wsV RX10 314 RX8 yX8_liveInClass wsX8_liveInClass) := goodIn_app (goodIn_of _ (by decide +kernel)) ggX10_inClass_X8_liveInClass
set_option maxRecDepth 20000 in
theorem ggX10_matches_X10_needUser : GoodIn wsX10_matches wsX10_needUser := goodIn_ca (goodIn_r _ [9, 10, 11, 4, 12, 13, 14, 15, 16, 17, 79, 80, 81, 82, 83, 84, 85, 86, 87, 88, 89, 90, 91, 92, 93, 94, 95, 96, 97, 98, 99, 100, 101, 102, 103, 104, 105, 106, 107, 108, 109, 110, 111, 112, 113, 114, 115, 116, 117, 118, 119, 120, 121, 122, 123] rfl (by decide +kernel)) (goodIn_sub (fun _ h => List.mem_cons_of_mem _ (List.mem_append_right _ h)) (by decide +kernel))
set_option maxRecDepth 20000 in
theorem gX10_matches_X10_needUser : GoodIn wsX10_matches (wsV RX10 169 RX10 yX10_needUser wsX10_needUser) := goodIn_app (goodIn_of _ (by decide +kernel)) ggX10_matches_X10_needUser
set_option maxRecDepth 20000 in
theorem ggX10_matches_X0_wholeWord : GoodIn wsX10_matches wsX0_wholeWord := goodIn_r _ [22, 23, 24, 25, 26, 27, 21, 28, 29, 30, 8, 31, 32, 33, 34, 35, 36, 124, 125] rfl (by decide +kernel)
set_option maxRecDepth 20000 in
theorem gX10_matches_X0_wholeWord : GoodIn wsX10_matches (wsV RX10 119 RX0 yX0_wholeWord wsX0_wholeWord) := goodIn_app (goodIn_of _ (by decide +kernel)) ggX10_matches_X0_wholeWord
set_option maxRecDepth 20000 in
theorem ggX10_matches_X0_cutTo : GoodIn wsX10_matches wsX0_cutTo := goodIn_r _ [40, 23, 124, 125] rfl (by decide +kernel)
set_option maxRecDepth 20000 in
theorem gX10_matches_X0_cutTo : GoodIn wsX10_matches (wsV RX10 75 RX0 yX0_cutTo wsX0_cutTo) := goodIn_app (goodIn_of _ (by decide +kernel)) ggX10_matches_X0_cutTo
set_option maxRecDepth 20000 in
theorem ggX10_matches_X8_liveWithWord : GoodIn wsX10_matches wsX8_liveWithWord := goodIn_r _ [45, 46, 47, 48, 49, 44, 50, 51, 52, 53, 13, 14, 15, 16, 17, 54, 8, 55, 56, 57, 58, 59, 60, 61, 62, 63, 64, 65, 66, 67, 68, 69, 70, 71, 72, 73, 74, 75, 76, 77, 21, 78, 23, 25, 26, 27, 28, 29, 30, 31, 32, 33, 34, 35, 36, 90, 91, 92, 93, 94, 95, 96, 97, 98, 99, 100, 101, 102, 103, 104, 105, 106, 107, 108, 109, 110, 111, 112, 113, 114, 115, 116, 117, 118, 119, 120, 121, 122, 123, 126, 127, 128, 129, 130, 131, 132, 133, 134, 135, 136, 137, 138, 124, 125] rfl (by decide +kernel)
set_option maxRecDepth 20000 in
theorem gX10_matches_X8_liveWithWord : GoodIn wsX10_matches (wsV RX10 319 RX8 yX8_liveWithWord wsX8_liveWithWord) := goodIn_app (goodIn_of _ (by decide +kernel)) ggX10_matches_X8_liveWithWord
set_option maxRecDepth 20000 in
theorem ggX10_commonBytes_X10_needUser : GoodIn wsX10_commonBytes wsX10_needUser := goodIn_ca (goodIn_r _ [7, 8, 9, 1, 10, 11, 12, 13, 14, 15, 58, 59, 60, 61, 62, 63, 64, 65, 66, 67, 68, 69, 70, 71, 72, 73, 74, 75, 76, 77, 78, 79, 80, 81, 82, 83, 84, 87, 88, 89, 90, 91, 92, 93, 94, 95, 96, 97, 98, 99, 100, 101, 102, 103, 104] rfl (by decide +kernel)) (goodIn_sub (fun _ h => List.mem_cons_of_mem _ (List.mem_append_right _ h)) (by decide +kernel))
set_option maxRecDepth 20000 in
theorem gX10_commonBytes_X10_needUser : GoodIn wsX10_commonBytes (wsV RX10 169 RX10 yX10_needUser wsX10_needUser) := goodIn_app (goodIn_of _ (by decide +kernel)) ggX10_commonBytes_X10_needUser
set_option maxRecDepth 20000 in
theorem ggX10_commonBytes_X8_gatherReaders : GoodIn wsX10_commonBytes wsX8_gatherReaders := goodIn_r _ [20, 21, 22, 23, 24, 25, 26, 27, 28, 19, 29, 30, 31, 32, 33, 34, 35, 36, 11, 12, 13, 14, 15, 37, 6, 38, 39, 40, 41, 42, 43, 44, 45, 46, 69, 70, 71, 72, 73, 74, 75, 76, 77, 78, 79, 80, 81, 82, 83, 84, 105, 106, 107, 108, 109, 87, 88, 89, 90, 91, 92, 93, 94, 95, 96, 97, 98, 99, 100, 101, 102, 103, 104] rfl (by decide +kernel)
set_option maxRecDepth 20000 in
theorem gX10_commonBytes_X8_gatherReaders : GoodIn wsX10_commonBytes (wsV RX10 302 RX8 yX8_gatherReaders wsX8_gatherReaders) := goodIn_app (goodIn_of _ (by decide +kernel)) ggX10_commonBytes_X8_gatherReaders
set_option maxRecDepth 20000 in
theorem ggX10_commonBytes_X10_hasBit : GoodIn wsX10_commonBytes wsX10_hasBit := goodIn_r _ [49] rfl (by decide +kernel)
set_option maxRecDepth 20000 in
theorem gX10_commonBytes_X10_hasBit : GoodIn wsX10_commonBytes (va_wsS RX10 311 yX10_hasBit wsX10_hasBit) := goodIn_app (goodIn_of _ (by decide +kernel)) ggX10_commonBytes_X10_hasBit
set_option maxRecDepth 20000 in
theorem ggX10_commonBytes_X9_bytesOf : GoodIn wsX10_commonBytes wsX9_bytesOf := goodIn_r _ [54, 55, 56, 57, 110, 111, 112, 113, 114, 115, 116, 117] rfl (by decide +kernel)
set_option maxRecDepth 20000 in
theorem gX10_commonBytes_X9_bytesOf : GoodIn wsX10_commonBytes (wsV RX10 265 RX9 yX9_bytesOf wsX9_bytesOf) := goodIn_app (goodIn_of _ (by decide +kernel)) ggX10_commonBytes_X9_bytesOf
set_option maxRecDepth 20000 in
theorem ggX10_file_X10_needClass : GoodIn wsX10_file wsX10_needClass := goodIn_ca (goodIn_r _ [6, 7, 8, 1, 9, 10, 11, 12, 13, 14, 103, 104, 105, 106, 107, 108, 109, 110, 111, 112, 113, 114, 115, 116, 117, 118, 119, 120, 121, 122, 123, 124, 125, 126, 127, 128, 129, 130, 131, 132, 133, 134, 135, 136, 137, 138, 139, 140, 141, 142, 143, 144, 145, 146, 147] rfl (by decide +kernel)) (goodIn_sub (fun _ h => List.mem_cons_of_mem _ (List.mem_append_left _ (List.mem_append_right _ h))) (by decide +kernel))
set_option maxRecDepth 20000 in
theorem gX10_file_X10_needClass : GoodIn wsX10_file (wsV RX10 146 RX10 yX10_needClass wsX10_needClass) := goodIn_app (goodIn_of _ (by decide +kernel)) ggX10_file_X10_needClass
set_option maxRecDepth 20000 in
theorem ggX10_file_X10_needReference : GoodIn wsX10_file wsX10_needReference := goodIn_ca (goodIn_r _ [18, 7, 8, 1, 19, 20, 21, 22, 23, 24, 25, 26, 27, 10, 11, 12, 13, 14, 28, 5, 29, 103, 104, 105, 106, 107, 108, 109, 110, 111, 112, 113, 114, 115, 116, 117, 118, 119, 120, 121, 122, 123, 124, 125, 126, 127, 128, 129, 130, 131, 132, 133, 134, 135, 136, 137, 138, 139, 140, 141, 142, 143, 144, 145, 146, 147] rfl (by decide +kernel)) (goodIn_sub (fun _ h => List.mem_cons_of_mem _ (List.mem_append_left _ (List.mem_append_right _ h))) (by decide +kernel))
set_option maxRecDepth 20000 in
theorem gX10_file_X10_needReference : GoodIn wsX10_file (wsV RX10 231 RX10 yX10_needReference wsX10_needReference) := goodIn_app (goodIn_of _ (by decide +kernel)) ggX10_file_X10_needReference
set_option maxRecDepth 20000 in
theorem ggX10_file_X10_needLive : GoodIn wsX10_file wsX10_needLive := goodIn_ca (goodIn_r _ [33, 34, 35, 1, 19, 20, 21, 22, 23, 24, 25, 26, 27, 10, 11, 12, 13, 14, 28, 5, 29, 103, 104, 105, 106, 107, 108, 109, 110, 111, 112, 113, 114, 115, 116, 117, 118, 119, 120, 121, 122, 123, 124, 125, 126, 127, 128, 129, 130, 131, 132, 133, 134, 135, 136, 137, 138, 139, 140, 141, 142, 143, 144, 145, 146, 147] rfl (by decide +kernel)) (goodIn_sub (fun _ h => List.mem_cons_of_mem _ (List.mem_append_right _ h)) (by decide +kernel))
set_option maxRecDepth 20000 in
theorem gX10_file_X10_needLive : GoodIn wsX10_file (wsV RX10 323 RX10 yX10_needLive wsX10_needLive) := goodIn_app (goodIn_of _ (by decide +kernel)) ggX10_file_X10_needLive
set_option maxRecDepth 20000 in
theorem ggX10_file_X8_retentionOf : GoodIn wsX10_file wsX8_retentionOf := goodIn_r _ [39, 40, 28, 5, 29, 114, 115, 116, 117, 118, 119, 120, 121, 122, 123, 124, 125, 126, 127, 128, 129] rfl (by decide +kernel)
set_option maxRecDepth 20000 in
theorem gX10_file_X8_retentionOf : GoodIn wsX10_file (wsV RX10 238 RX8 yX8_retentionOf wsX8_retentionOf) := goodIn_app (goodIn_of _ (by decide +kernel)) ggX10_file_X8_retentionOf
set_option maxRecDepth 20000 in
theorem ggX10_file_X10_at : GoodIn wsX10_file wsX10_at := goodIn_r _ [29] rfl (by decide +kernel)
set_option maxRecDepth 20000 in
theorem gX10_file_X10_at : GoodIn wsX10_file (va_wsS RX10 142 yX10_at wsX10_at) := goodIn_app (goodIn_of _ (by decide +kernel)) ggX10_file_X10_at
set_option maxRecDepth 20000 in
theorem ggX10_file_X10_remember : GoodIn wsX10_file wsX10_remember := goodIn_r _ [45, 46, 47, 1, 48, 49, 50, 5, 51, 52, 53, 54, 55, 22, 56, 25, 57, 58, 59, 60, 24, 61, 26, 40, 62, 63, 64, 65, 66, 67, 68, 69, 70, 71, 72, 73, 74, 75, 76, 77, 78, 79, 80, 81, 82, 83, 84, 85, 86, 87, 88, 89, 90, 91, 92, 93, 94, 95, 96, 103, 104, 105, 106, 107, 108, 109, 110, 111, 112, 113, 114, 115, 116, 117, 118, 119, 120, 121, 122, 123, 124, 125, 126, 127, 128, 129, 148, 149, 150, 151, 152, 153, 154, 155, 156, 157, 158, 159, 160] rfl (by decide +kernel)
set_option maxRecDepth 20000 in
theorem gX10_file_X10_remember : GoodIn wsX10_file (wsV RX10 94 RX10 yX10_remember wsX10_remember) := goodIn_app (goodIn_of _ (by decide +kernel)) ggX10_file_X10_remember
set_option maxRecDepth 20000 in
theorem ggX10_file_X8_enterClass : GoodIn wsX10_file wsX8_enterClass := goodIn_r _ [100, 40, 62, 57, 101, 5, 102, 114, 115, 116, 117, 118, 119, 120, 121, 122, 123, 124, 125, 126, 127, 128, 129] rfl (by decide +kernel)
set_option maxRecDepth 20000 in
theorem gX10_file_X8_enterClass : GoodIn wsX10_file (wsV RX10 326 RX8 yX8_enterClass wsX8_enterClass) := goodIn_app (goodIn_of _ (by decide +kernel)) ggX10_file_X8_enterClass
set_option maxRecDepth 20000 in
theorem ggX10_delete_X10_needReference : GoodIn wsX10_delete wsX10_needReference := goodIn_ca (goodIn_r _ [6, 7, 8, 1, 9, 10, 11, 12, 13, 14, 15, 16, 17, 18, 19, 20, 21, 22, 23, 5, 24, 132, 133, 134, 135, 136, 137, 138, 139, 140, 141, 142, 143, 144, 145, 146, 147, 148, 149, 150, 151, 152, 153, 154, 155, 156, 157, 158, 159, 160, 161, 162, 163, 164, 165, 166, 167, 168, 169, 170, 171, 172, 173, 174, 175, 176] rfl (by decide +kernel)) (goodIn_sub (fun _ h => List.mem_cons_of_mem _ (List.mem_append_left _ (List.mem_append_right _ h))) (by decide +kernel))
set_option maxRecDepth 20000 in
theorem gX10_delete_X10_needReference : GoodIn wsX10_delete (wsV RX10 231 RX10 yX10_needReference wsX10_needReference) := goodIn_app (goodIn_of _ (by decide +kernel)) ggX10_delete_X10_needReference
set_option maxRecDepth 20000 in
theorem ggX10_delete_X10_needLive : GoodIn wsX10_delete wsX10_needLive := goodIn_ca (goodIn_r _ [28, 29, 30, 1, 9, 10, 11, 12, 13, 14, 15, 16, 17, 18, 19, 20, 21, 22, 23, 5, 24, 132, 133, 134, 135, 136, 137, 138, 139, 140, 141, 142, 143, 144, 145, 146, 147, 148, 149, 150, 151, 152, 153, 154, 155, 156, 157, 158, 159, 160, 161, 162, 163, 164, 165, 166, 167, 168, 169, 170, 171, 172, 173, 174, 175, 176] rfl (by decide +kernel)) (goodIn_sub (fun _ h => List.mem_cons_of_mem _ (List.mem_append_right _ h)) (by decide +kernel))
set_option maxRecDepth 20000 in
theorem gX10_delete_X10_needLive : GoodIn wsX10_delete (wsV RX10 323 RX10 yX10_needLive wsX10_needLive) := goodIn_app (goodIn_of _ (by decide +kernel)) ggX10_delete_X10_needLive
set_option maxRecDepth 20000 in
theorem ggX10_delete_X10_remember : GoodIn wsX10_delete wsX10_remember := goodIn_r _ [34, 35, 36, 1, 37, 38, 39, 5, 40, 41, 42, 43, 44, 12, 45, 15, 46, 47, 48, 49, 14, 50, 16, 51, 52, 53, 54, 55, 56, 57, 58, 59, 60, 61, 62, 63, 64, 65, 66, 67, 68, 69, 70, 71, 72, 73, 74, 75, 76, 77, 78, 79, 80, 81, 82, 83, 84, 85, 86, 132, 133, 134, 135, 136, 137, 138, 139, 140, 141, 142, 143, 144, 145, 146, 147, 148, 149, 150, 151, 152, 153, 154, 155, 156, 157, 158, 177, 178, 179, 180, 181, 182, 183, 184, 185, 186, 187, 188, 189] rfl (by decide +kernel)
set_option maxRecDepth 20000 in
theorem gX10_delete_X10_remember : GoodIn wsX10_delete (wsV RX10 94 RX10 yX10_remember wsX10_remember) := goodIn_app (goodIn_of _ (by decide +kernel)) ggX10_delete_X10_remember
set_option maxRecDepth 20000 in
theorem ggX10_delete_X8_endReference : GoodIn wsX10_delete wsX8_endReference := goodIn_r _ [90, 16, 54, 46, 91, 92, 93, 12, 94, 48, 15, 95, 96, 97, 98, 14, 50, 99, 100, 101, 102, 103, 104, 105, 106, 23, 5, 24, 107, 108, 109, 110, 111, 80, 112, 85, 86, 82, 83, 84, 113, 114, 115, 116, 117, 10, 11, 13, 17, 18, 19, 20, 21, 22, 118, 119, 120, 121, 53, 122, 123, 124, 125, 126, 127, 128, 129, 130, 68, 131, 75, 76, 72, 143, 144, 145, 146, 147, 148, 149, 150, 151, 152, 153, 154, 155, 156, 157, 158, 190, 191, 192, 193, 194, 159, 160, 161, 162, 163, 164, 165, 166, 167, 168, 169, 170, 171, 172, 173, 174, 175, 176, 185, 186, 187, 188, 189, 177, 178, 179, 180, 181, 182, 183, 184] rfl (by decide +kernel)
set_option maxRecDepth 20000 in
theorem gX10_delete_X8_endReference : GoodIn wsX10_delete (wsV RX10 330 RX8 yX8_endReference wsX8_endReference) := goodIn_app (goodIn_of _ (by decide +kernel)) ggX10_delete_X8_endReference
set_option maxRecDepth 20000 in
theorem ggX10_delete_X8_stateOf : GoodIn wsX10_delete wsX8_stateOf := goodIn_r _ [13, 14, 15, 16, 17, 18, 19, 20, 21, 22, 23, 5, 24, 143, 144, 145, 146, 147, 148, 149, 150, 151, 152, 153, 154, 155, 156, 157, 158, 159, 160, 161, 162, 163, 164, 165, 166, 167, 168, 169, 170, 171, 172, 173, 174, 175, 176] rfl (by decide +kernel)
set_option maxRecDepth 20000 in
theorem gX10_delete_X8_stateOf : GoodIn wsX10_delete (wsV RX10 234 RX8 yX8_stateOf wsX8_stateOf) := goodIn_app (goodIn_of _ (by decide +kernel)) ggX10_delete_X8_stateOf
set_option maxRecDepth 20000 in
theorem ggX10_recover_X10_needReference : GoodIn wsX10_recover wsX10_needReference := goodIn_ca (goodIn_r _ [8, 9, 10, 3, 11, 12, 13, 14, 15, 16, 17, 18, 19, 20, 21, 22, 23, 24, 25, 7, 26, 94, 95, 96, 97, 98, 99, 100, 101, 102, 103, 104, 105, 106, 107, 108, 109, 110, 111, 112, 113, 114, 115, 116, 117, 118, 119, 120, 121, 122, 123, 124, 125, 126, 127, 128, 129, 130, 131, 132, 133, 134, 135, 136, 137, 138] rfl (by decide +kernel)) (goodIn_sub (fun _ h => List.mem_cons_of_mem _ (List.mem_append_right _ h)) (by decide +kernel))
set_option maxRecDepth 20000 in
theorem gX10_recover_X10_needReference : GoodIn wsX10_recover (wsV RX10 231 RX10 yX10_needReference wsX10_needReference) := goodIn_app (goodIn_of _ (by decide +kernel)) ggX10_recover_X10_needReference
set_option maxRecDepth 20000 in
theorem ggX10_recover_X8_isHidden : GoodIn wsX10_recover wsX8_isHidden := goodIn_r _ [30, 31, 12, 13, 14, 15, 16, 17, 18, 19, 20, 21, 22, 23, 24, 25, 7, 26, 105, 106, 107, 108, 109, 110, 111, 112, 113, 114, 115, 116, 117, 118, 119, 120, 121, 122, 123, 124, 125, 126, 127, 128, 129, 130, 131, 132, 133, 134, 135, 136, 137, 138] rfl (by decide +kernel)
set_option maxRecDepth 20000 in
theorem gX10_recover_X8_isHidden : GoodIn wsX10_recover (wsV RX10 333 RX8 yX8_isHidden wsX8_isHidden) := goodIn_app (goodIn_of _ (by decide +kernel)) ggX10_recover_X8_isHidden
set_option maxRecDepth 20000 in
theorem ggX10_recover_X10_remember : GoodIn wsX10_recover wsX10_remember := goodIn_r _ [35, 36, 37, 3, 38, 39, 40, 7, 41, 42, 43, 44, 45, 14, 46, 17, 47, 48, 49, 50, 16, 51, 18, 52, 53, 54, 55, 56, 57, 58, 59, 60, 61, 62, 63, 64, 65, 66, 67, 68, 69, 70, 71, 72, 73, 74, 75, 76, 77, 78, 79, 80, 81, 82, 83, 84, 85, 86, 87, 94, 95, 96, 97, 98, 99, 100, 101, 102, 103, 104, 105, 106, 107, 108, 109, 110, 111, 112, 113, 114, 115, 116, 117, 118, 119, 120, 139, 140, 141, 142, 143, 144, 145, 146, 147, 148, 149, 150, 151] rfl (by decide +kernel)
set_option maxRecDepth 20000 in
theorem gX10_recover_X10_remember : GoodIn wsX10_recover (wsV RX10 94 RX10 yX10_remember wsX10_remember) := goodIn_app (goodIn_of _ (by decide +kernel)) ggX10_recover_X10_remember
set_option maxRecDepth 20000 in
theorem ggX10_recover_X8_stateOf : GoodIn wsX10_recover wsX8_stateOf := goodIn_r _ [15, 16, 17, 18, 19, 20, 21, 22, 23, 24, 25, 7, 26, 105, 106, 107, 108, 109, 110, 111, 112, 113, 114, 115, 116, 117, 118, 119, 120, 121, 122, 123, 124, 125, 126, 127, 128, 129, 130, 131, 132, 133, 134, 135, 136, 137, 138] rfl (by decide +kernel)
set_option maxRecDepth 20000 in
theorem gX10_recover_X8_stateOf : GoodIn wsX10_recover (wsV RX10 234 RX8 yX8_stateOf wsX8_stateOf) := goodIn_app (goodIn_of _ (by decide +kernel)) ggX10_recover_X8_stateOf
set_option maxRecDepth 20000 in
theorem ggX10_recover_X8_bringBack : GoodIn wsX10_recover wsX8_bringBack := goodIn_r _ [91, 18, 53, 47, 92, 7, 93, 105, 106, 107, 108, 109, 110, 111, 112, 113, 114, 115, 116, 117, 118, 119, 120] rfl (by decide +kernel)
set_option maxRecDepth 20000 in
theorem gX10_recover_X8_bringBack : GoodIn wsX10_recover (wsV RX10 338 RX8 yX8_bringBack wsX8_bringBack) := goodIn_app (goodIn_of _ (by decide +kernel)) ggX10_recover_X8_bringBack
set_option maxRecDepth 20000 in
theorem ggX10_isActive_X10_needHold : GoodIn wsX10_isActive wsX10_needHold := goodIn_ca (goodIn_r _ [6, 7, 8, 1, 9, 10, 11, 12, 13, 14, 18, 19, 20, 21, 22, 23, 24, 25, 26, 27, 28, 29, 30, 31, 32, 33, 34, 35, 36, 37, 38, 39, 40, 41, 42, 43, 44, 45, 46, 47, 48, 49, 50, 51, 52, 53, 54, 55, 56, 57, 58, 59, 60, 61, 62] rfl (by decide +kernel)) (goodIn_sub (fun _ h => List.mem_cons_of_mem _ (List.mem_append_right _ h)) (by decide +kernel))
set_option maxRecDepth 20000 in
theorem gX10_isActive_X10_needHold : GoodIn wsX10_isActive (wsV RX10 341 RX10 yX10_needHold wsX10_needHold) := goodIn_app (goodIn_of _ (by decide +kernel)) ggX10_isActive_X10_needHold
set_option maxRecDepth 20000 in
theorem ggX10_isActive_X10_hasBit : GoodIn wsX10_isActive wsX10_hasBit := goodIn_r _ [17] rfl (by decide +kernel)
set_option maxRecDepth 20000 in
theorem gX10_isActive_X10_hasBit : GoodIn wsX10_isActive (va_wsS RX10 311 yX10_hasBit wsX10_hasBit) := goodIn_app (goodIn_of _ (by decide +kernel)) ggX10_isActive_X10_hasBit
set_option maxRecDepth 20000 in
theorem ggX10_setHold_X10_needHold : GoodIn wsX10_setHold wsX10_needHold := goodIn_ca (goodIn_r _ [6, 7, 8, 1, 9, 10, 11, 12, 13, 14, 137, 138, 139, 140, 141, 142, 143, 144, 145, 146, 147, 148, 149, 150, 151, 152, 153, 154, 155, 156, 157, 158, 159, 160, 161, 162, 163, 164, 165, 166, 167, 168, 169, 170, 171, 172, 173, 174, 175, 176, 177, 178, 179, 180, 181] rfl (by decide +kernel)) (goodIn_sub (fun _ h => List.mem_cons_of_mem _ (List.mem_append_right _ h)) (by decide +kernel))
set_option maxRecDepth 20000 in
theorem gX10_setHold_X10_needHold : GoodIn wsX10_setHold (wsV RX10 341 RX10 yX10_needHold wsX10_needHold) := goodIn_app (goodIn_of _ (by decide +kernel)) ggX10_setHold_X10_needHold
set_option maxRecDepth 20000 in
theorem ggX10_setHold_X10_hasBit : GoodIn wsX10_setHold wsX10_hasBit := goodIn_r _ [17] rfl (by decide +kernel)
set_option maxRecDepth 20000 in
theorem gX10_setHold_X10_hasBit : GoodIn wsX10_setHold (va_wsS RX10 311 yX10_hasBit wsX10_hasBit) := goodIn_app (goodIn_of _ (by decide +kernel)) ggX10_setHold_X10_hasBit
set_option maxRecDepth 20000 in
theorem ggX10_setHold_X10_remember : GoodIn wsX10_setHold wsX10_remember := goodIn_r _ [21, 22, 23, 1, 24, 25, 26, 5, 27, 28, 29, 30, 31, 32, 33, 34, 35, 36, 37, 38, 39, 40, 41, 42, 43, 44, 45, 46, 47, 48, 49, 50, 51, 52, 53, 54, 55, 56, 57, 58, 59, 60, 61, 62, 63, 64, 65, 66, 67, 68, 69, 70, 71, 72, 73, 74, 75, 76, 77, 137, 138, 139, 140, 141, 142, 143, 144, 145, 146, 147, 148, 149, 150, 151, 152, 153, 154, 155, 156, 157, 158, 159, 160, 161, 162, 163, 182, 183, 184, 185, 186, 187, 188, 189, 190, 191, 192, 193, 194] rfl (by decide +kernel)
set_option maxRecDepth 20000 in
theorem gX10_setHold_X10_remember : GoodIn wsX10_setHold (wsV RX10 94 RX10 yX10_remember wsX10_remember) := goodIn_app (goodIn_of _ (by decide +kernel)) ggX10_setHold_X10_remember
set_option maxRecDepth 20000 in
theorem ggX10_setHold_X8_releaseHold : GoodIn wsX10_setHold wsX8_releaseHold := goodIn_r _ [81, 37, 34, 39, 82, 5, 83, 84, 85, 86, 32, 87, 88, 89, 90, 91, 41, 92, 10, 11, 12, 13, 14, 93, 94, 95, 96, 97, 98, 99, 100, 40, 101, 102, 103, 104, 105, 106, 107, 108, 109, 110, 111, 112, 45, 35, 113, 114, 115, 116, 117, 71, 118, 76, 77, 73, 74, 75, 119, 120, 121, 122, 123, 124, 125, 126, 44, 127, 128, 129, 130, 131, 132, 133, 134, 135, 59, 136, 66, 67, 63, 148, 149, 150, 151, 152, 153, 154, 155, 156, 157, 158, 159, 160, 161, 162, 163, 164, 165, 166, 167, 168, 169, 170, 171, 172, 173, 174, 175, 176, 177, 178, 179, 180, 181, 195, 196, 197, 198, 199, 190, 191, 192, 193, 194, 182, 183, 184, 185, 186, 187, 188, 189] rfl (by decide +kernel)
set_option maxRecDepth 20000 in
theorem gX10_setHold_X8_releaseHold : GoodIn wsX10_setHold (wsV RX10 347 RX8 yX8_releaseHold wsX8_releaseHold) := goodIn_app (goodIn_of _ (by decide +kernel)) ggX10_setHold_X8_releaseHold
set_option maxRecDepth 20000 in
theorem ggX10_heldOnlyBy_X10_needHold : GoodIn wsX10_heldOnlyBy wsX10_needHold := goodIn_ca (goodIn_r _ [6, 7, 8, 1, 9, 10, 11, 12, 13, 14, 52, 53, 54, 55, 56, 57, 58, 59, 60, 61, 62, 63, 64, 65, 66, 67, 68, 69, 70, 71, 72, 73, 74, 75, 76, 77, 78, 79, 80, 81, 82, 83, 84, 85, 86, 87, 88, 89, 90, 91, 92, 93, 94, 95, 96] rfl (by decide +kernel)) (goodIn_sub (fun _ h => List.mem_cons_of_mem _ (List.mem_append_right _ h)) (by decide +kernel))
set_option maxRecDepth 20000 in
theorem gX10_heldOnlyBy_X10_needHold : GoodIn wsX10_heldOnlyBy (wsV RX10 341 RX10 yX10_needHold wsX10_needHold) := goodIn_app (goodIn_of _ (by decide +kernel)) ggX10_heldOnlyBy_X10_needHold
set_option maxRecDepth 20000 in
theorem ggX10_heldOnlyBy_X8_hiddenOnlyBy : GoodIn wsX10_heldOnlyBy wsX8_hiddenOnlyBy := goodIn_r _ [19, 20, 21, 22, 5, 23, 24, 25, 26, 18, 27, 28, 29, 30, 31, 32, 33, 10, 11, 12, 13, 14, 34, 35, 36, 37, 38, 39, 40, 41, 42, 43, 44, 45, 46, 47, 48, 49, 50, 51, 63, 64, 65, 66, 67, 68, 69, 70, 71, 72, 73, 74, 75, 76, 77, 78, 79, 80, 81, 82, 83, 84, 85, 86, 87, 88, 89, 90, 91, 92, 93, 94, 95, 96, 97, 98, 99, 100, 101] rfl (by decide +kernel)
set_option maxRecDepth 20000 in
theorem gX10_heldOnlyBy_X8_hiddenOnlyBy : GoodIn wsX10_heldOnlyBy (wsV RX10 350 RX8 yX8_hiddenOnlyBy wsX8_hiddenOnlyBy) := goodIn_app (goodIn_of _ (by decide +kernel)) ggX10_heldOnlyBy_X8_hiddenOnlyBy
set_option maxRecDepth 20000 in
theorem ggX10_setQuota_X10_needUser : GoodIn wsX10_setQuota wsX10_needUser := goodIn_ca (goodIn_r _ [9, 10, 11, 4, 12, 13, 14, 15, 16, 17, 84, 85, 86, 87, 88, 89, 90, 91, 92, 93, 94, 95, 96, 97, 98, 99, 100, 101, 102, 103, 104, 105, 106, 107, 108, 109, 110, 111, 112, 113, 114, 115, 116, 117, 118, 119, 120, 121, 122, 123, 124, 125, 126, 127, 128] rfl (by decide +kernel)) (goodIn_sub (fun _ h => List.mem_cons_of_mem _ (List.mem_append_right _ h)) (by decide +kernel))
set_option maxRecDepth 20000 in
theorem gX10_setQuota_X10_needUser : GoodIn wsX10_setQuota (wsV RX10 169 RX10 yX10_needUser wsX10_needUser) := goodIn_app (goodIn_of _ (by decide +kernel)) ggX10_setQuota_X10_needUser
set_option maxRecDepth 20000 in
theorem ggX10_setQuota_X10_at : GoodIn wsX10_setQuota wsX10_at := goodIn_r _ [20] rfl (by decide +kernel)
set_option maxRecDepth 20000 in
theorem gX10_setQuota_X10_at : GoodIn wsX10_setQuota (va_wsS RX10 142 yX10_at wsX10_at) := goodIn_app (goodIn_of _ (by decide +kernel)) ggX10_setQuota_X10_at
set_option maxRecDepth 20000 in
theorem ggX10_setQuota_X10_remember : GoodIn wsX10_setQuota wsX10_remember := goodIn_r _ [24, 25, 26, 4, 27, 28, 29, 8, 30, 31, 32, 33, 34, 35, 36, 37, 38, 39, 40, 41, 42, 43, 44, 45, 46, 47, 48, 49, 50, 51, 52, 53, 54, 55, 56, 57, 58, 59, 60, 61, 62, 63, 64, 65, 66, 67, 68, 69, 70, 71, 72, 73, 74, 75, 76, 77, 78, 79, 80, 84, 85, 86, 87, 88, 89, 90, 91, 92, 93, 94, 95, 96, 97, 98, 99, 100, 101, 102, 103, 104, 105, 106, 107, 108, 109, 110, 129, 130, 131, 132, 133, 134, 135, 136, 137, 138, 139, 140, 141] rfl (by decide +kernel)
set_option maxRecDepth 20000 in
theorem gX10_setQuota_X10_remember : GoodIn wsX10_setQuota (wsV RX10 94 RX10 yX10_remember wsX10_remember) := goodIn_app (goodIn_of _ (by decide +kernel)) ggX10_setQuota_X10_remember
set_option maxRecDepth 20000 in
theorem ggX10_setQuota_X10_put : GoodIn wsX10_setQuota wsX10_put := goodIn_r _ [83] rfl (by decide +kernel)
set_option maxRecDepth 20000 in
theorem gX10_setQuota_X10_put : GoodIn wsX10_setQuota (va_wsS RX10 356 yX10_put wsX10_put) := goodIn_app (goodIn_of _ (by decide +kernel)) ggX10_setQuota_X10_put
set_option maxRecDepth 20000 in
theorem ggX10_advance_X10_remember : GoodIn wsX10_advance wsX10_remember := goodIn_r _ [10, 11, 12, 5, 13, 14, 15, 9, 16, 17, 18, 19, 20, 21, 22, 23, 24, 25, 26, 27, 28, 29, 30, 31, 32, 33, 34, 35, 36, 37, 38, 39, 40, 41, 42, 43, 44, 45, 46, 47, 48, 49, 50, 51, 52, 53, 54, 55, 56, 57, 58, 59, 60, 61, 62, 63, 64, 65, 66, 177, 178, 179, 180, 181, 182, 183, 184, 185, 186, 187, 188, 189, 190, 191, 192, 193, 194, 195, 196, 197, 198, 199, 200, 201, 202, 203, 204, 205, 206, 207, 208, 209, 210, 211, 212, 213, 214, 215, 216] rfl (by decide +kernel)
set_option maxRecDepth 20000 in
theorem gX10_advance_X10_remember : GoodIn wsX10_advance (wsV RX10 94 RX10 yX10_remember wsX10_remember) := goodIn_app (goodIn_of _ (by decide +kernel)) ggX10_advance_X10_remember
set_option maxRecDepth 20000 in
theorem ggX10_advance_X8_planLeaving : GoodIn wsX10_advance wsX8_planLeaving := goodIn_r _ [70, 71, 72, 23, 73, 74, 75, 21, 76, 77, 28, 78, 79, 38, 39, 40, 80, 81, 82, 83, 84, 85, 86, 87, 30, 88, 89, 90, 91, 92, 93, 94, 9, 95, 96, 97, 98, 99, 31, 100, 101, 102, 103, 24, 32, 104, 105, 106, 107, 108, 188, 189, 190, 191, 192, 193, 194, 195, 196, 197, 198, 199, 200, 201, 202, 203, 217, 218, 219, 220, 221, 222, 223, 224, 225, 226, 227, 228, 229, 230, 231, 232, 233, 234] rfl (by decide +kernel)
set_option maxRecDepth 20000 in
theorem gX10_advance_X8_planLeaving : GoodIn wsX10_advance (wsV RX10 364 RX8 yX8_planLeaving wsX8_planLeaving) := goodIn_app (goodIn_of _ (by decide +kernel)) ggX10_advance_X8_planLeaving
set_option maxRecDepth 20000 in
theorem ggX10_advance_X8_beginDay : GoodIn wsX10_advance wsX8_beginDay := goodIn_r _ [112, 24, 72, 23, 33, 34, 113, 114, 115, 21, 116, 28, 78, 96, 97, 98, 99, 31, 94, 9, 95, 117, 118, 119, 120, 30, 121, 122, 123, 124, 26, 125, 126, 127, 128, 29, 129, 130, 131, 132, 133, 134, 135, 136, 107, 108, 137, 138, 139, 60, 140, 65, 66, 62, 63, 64, 141, 142, 143, 144, 84, 85, 86, 87, 88, 89, 90, 91, 92, 93, 145, 146, 147, 148, 149, 150, 151, 152, 153, 154, 155, 156, 157, 48, 158, 55, 56, 52, 159, 160, 161, 162, 32, 163, 68, 69, 70, 71, 73, 74, 75, 76, 77, 79, 38, 39, 40, 80, 81, 82, 83, 100, 101, 102, 103, 104, 105, 106, 164, 165, 166, 167, 50, 51, 168, 169, 170, 171, 172, 173, 174, 175, 176, 188, 189, 190, 191, 192, 193, 194, 195, 196, 197, 198, 199, 200, 201, 202, 203, 217, 218, 219, 220, 221, 222, 223, 224, 225, 226, 227, 228, 229, 230, 231, 232, 233, 234, 235, 236, 237, 238, 239, 212, 213, 214, 215, 216, 204, 205, 206, 207, 208, 209, 210, 211] rfl (by decide +kernel)
set_option maxRecDepth 20000 in
theorem gX10_advance_X8_beginDay : GoodIn wsX10_advance (wsV RX10 367 RX8 yX8_beginDay wsX8_beginDay) := goodIn_app (goodIn_of _ (by decide +kernel)) ggX10_advance_X8_beginDay
set_option maxRecDepth 20000 in
theorem ggX10_removedOn_X10_needPart : GoodIn wsX10_removedOn wsX10_needPart := goodIn_ca (goodIn_r _ [6, 7, 8, 9, 10, 11, 12, 13, 14, 15, 16, 17, 5, 18, 178, 179, 180, 181, 182, 183, 184, 185, 186, 187, 188, 189, 190, 191, 192, 193, 194, 195, 196, 197, 198, 199, 200, 201, 202, 203, 204, 205, 206, 207, 208, 209, 210, 211, 212] rfl (by decide +kernel)) (goodIn_sub (fun _ h => List.mem_cons_of_mem _ (List.mem_append_right _ h)) (by decide +kernel))
set_option maxRecDepth 20000 in
theorem gX10_removedOn_X10_needPart : GoodIn wsX10_removedOn (wsV RX10 262 RX10 yX10_needPart wsX10_needPart) := goodIn_app (goodIn_of _ (by decide +kernel)) ggX10_removedOn_X10_needPart
set_option maxRecDepth 20000 in
theorem ggX10_removedOn_X10_lookAhead : GoodIn wsX10_removedOn wsX10_lookAhead := goodIn_r _ [22, 1, 9, 23, 24, 25, 26, 27, 28, 29, 30, 31, 32, 33, 34, 35, 36, 37, 38, 39, 40, 5, 41, 42, 43, 44, 45, 46, 47, 48, 49, 50, 51, 52, 13, 53, 15, 54, 55, 56, 57, 58, 16, 59, 60, 61, 62, 63, 64, 65, 66, 67, 68, 69, 70, 71, 72, 73, 74, 75, 76, 77, 78, 79, 80, 81, 82, 83, 84, 85, 86, 87, 88, 89, 90, 91, 92, 93, 94, 95, 17, 18, 96, 97, 98, 99, 100, 101, 102, 103, 104, 105, 106, 107, 108, 178, 179, 180, 181, 182, 183, 184, 185, 186, 187, 188, 189, 190, 191, 192, 193, 194, 195, 196, 197, 198, 199, 200, 201, 202, 203, 204, 205, 206, 207, 208, 209, 210, 211, 212, 213, 214, 215, 216, 217, 218, 219, 220, 221, 222, 223, 224, 225, 226, 227, 228, 229, 230, 231, 232, 233, 234, 235] rfl (by decide +kernel)
set_option maxRecDepth 20000 in
theorem gX10_removedOn_X10_lookAhead : GoodIn wsX10_removedOn (wsV RX10 373 RX10 yX10_lookAhead wsX10_lookAhead) := goodIn_app (goodIn_of _ (by decide +kernel)) ggX10_removedOn_X10_lookAhead
set_option maxRecDepth 20000 in
theorem ggX10_removedOn_X9_isStored : GoodIn wsX10_removedOn wsX9_isStored := goodIn_r _ [14, 15, 16, 17, 5, 18, 205, 206, 207, 208, 209, 210, 211, 212] rfl (by decide +kernel)
set_option maxRecDepth 20000 in
theorem gX10_removedOn_X9_isStored : GoodIn wsX10_removedOn (wsV RX10 376 RX9 yX9_isStored wsX9_isStored) := goodIn_app (goodIn_of _ (by decide +kernel)) ggX10_removedOn_X9_isStored
set_option maxRecDepth 20000 in
theorem ggX10_removedOn_X8_isAtRest : GoodIn wsX10_removedOn wsX8_isAtRest := goodIn_r _ [112, 74, 73, 38, 189, 190, 191, 192, 193, 194, 195, 196, 197, 198, 199, 200, 201, 202, 203, 204, 205, 206, 207, 208, 209, 210, 211, 212] rfl (by decide +kernel)
set_option maxRecDepth 20000 in
theorem gX10_removedOn_X8_isAtRest : GoodIn wsX10_removedOn (wsV RX10 379 RX8 yX8_isAtRest wsX8_isAtRest) := goodIn_app (goodIn_of _ (by decide +kernel)) ggX10_removedOn_X8_isAtRest
set_option maxRecDepth 20000 in
theorem ggX10_removedOn_X8_beginDay : GoodIn wsX10_removedOn wsX8_beginDay := goodIn_r _ [116, 29, 74, 28, 38, 39, 117, 118, 119, 26, 120, 33, 80, 96, 97, 98, 99, 36, 17, 5, 18, 121, 122, 123, 124, 35, 125, 126, 127, 128, 31, 129, 130, 131, 132, 34, 133, 134, 135, 136, 137, 138, 139, 140, 107, 108, 141, 142, 143, 62, 144, 67, 68, 64, 65, 66, 145, 146, 147, 148, 86, 87, 88, 89, 90, 91, 92, 93, 94, 95, 149, 150, 151, 152, 153, 154, 155, 156, 157, 158, 159, 160, 161, 13, 162, 58, 16, 55, 163, 164, 165, 166, 37, 167, 70, 71, 72, 73, 75, 76, 77, 78, 79, 81, 43, 44, 45, 82, 83, 84, 85, 100, 101, 102, 103, 104, 105, 106, 168, 169, 170, 171, 15, 54, 172, 173, 174, 175, 176, 11, 12, 14, 177, 189, 190, 191, 192, 193, 194, 195, 196, 197, 198, 199, 200, 201, 202, 203, 204, 218, 219, 220, 221, 222, 223, 224, 225, 226, 227, 228, 229, 230, 231, 232, 233, 234, 235, 236, 237, 238, 239, 240, 213, 214, 215, 216, 217, 205, 206, 207, 208, 209, 210, 211, 212] rfl (by decide +kernel)
set_option maxRecDepth 20000 in
theorem gX10_removedOn_X8_beginDay : GoodIn wsX10_removedOn (wsV RX10 367 RX8 yX8_beginDay wsX8_beginDay) := goodIn_app (goodIn_of _ (by decide +kernel)) ggX10_removedOn_X8_beginDay
set_option maxRecDepth 20000 in
theorem ggX10_emptyOn_X10_lookAhead : GoodIn wsX10_emptyOn wsX10_lookAhead := goodIn_r _ [6, 1, 7, 8, 9, 10, 11, 12, 13, 14, 15, 16, 17, 18, 19, 20, 21, 22, 23, 24, 25, 5, 26, 27, 28, 29, 30, 31, 32, 33, 34, 35, 36, 37, 38, 39, 40, 41, 42, 43, 44, 45, 46, 47, 48, 49, 50, 51, 52, 53, 54, 55, 56, 57, 58, 59, 60, 61, 62, 63, 64, 65, 66, 67, 68, 69, 70, 71, 72, 73, 74, 75, 76, 77, 78, 79, 80, 81, 82, 83, 84, 85, 86, 87, 88, 89, 90, 91, 92, 93, 94, 95, 96, 97, 98, 171, 172, 173, 174, 175, 176, 177, 178, 179, 180, 181, 182, 183, 184, 185, 186, 187, 188, 189, 190, 191, 192, 193, 194, 195, 196, 197, 198, 199, 200, 201, 202, 203, 204, 205, 206, 207, 208, 209, 210, 211, 212, 213, 214, 215, 216, 217, 218, 219, 220, 221, 222, 223, 224, 225, 226, 227, 228] rfl (by decide +kernel)
set_option maxRecDepth 20000 in
theorem gX10_emptyOn_X10_lookAhead : GoodIn wsX10_emptyOn (wsV RX10 373 RX10 yX10_lookAhead wsX10_lookAhead) := goodIn_app (goodIn_of _ (by decide +kernel)) ggX10_emptyOn_X10_lookAhead
set_option maxRecDepth 20000 in
theorem ggX10_emptyOn_X8_isAtRest : GoodIn wsX10_emptyOn wsX8_isAtRest := goodIn_r _ [102, 62, 61, 23, 182, 183, 184, 185, 186, 187, 188, 189, 190, 191, 192, 193, 194, 195, 196, 197, 198, 199, 200, 201, 202, 203, 204, 205] rfl (by decide +kernel)
set_option maxRecDepth 20000 in
theorem gX10_emptyOn_X8_isAtRest : GoodIn wsX10_emptyOn (wsV RX10 379 RX8 yX8_isAtRest wsX8_isAtRest) := goodIn_app (goodIn_of _ (by decide +kernel)) ggX10_emptyOn_X8_isAtRest
set_option maxRecDepth 20000 in
theorem ggX10_emptyOn_X8_beginDay : GoodIn wsX10_emptyOn wsX8_beginDay := goodIn_r _ [106, 14, 62, 13, 23, 24, 107, 108, 109, 11, 110, 18, 68, 86, 87, 88, 89, 21, 84, 5, 85, 111, 112, 113, 114, 20, 115, 116, 117, 118, 16, 119, 120, 121, 122, 19, 123, 124, 125, 126, 127, 128, 129, 130, 97, 98, 131, 132, 133, 50, 134, 55, 56, 52, 53, 54, 135, 136, 137, 138, 74, 75, 76, 77, 78, 79, 80, 81, 82, 83, 139, 140, 141, 142, 143, 144, 145, 146, 147, 148, 149, 150, 151, 38, 152, 45, 46, 42, 153, 154, 155, 156, 22, 157, 58, 59, 60, 61, 63, 64, 65, 66, 67, 69, 28, 29, 30, 70, 71, 72, 73, 90, 91, 92, 93, 94, 95, 96, 158, 159, 160, 161, 40, 41, 162, 163, 164, 165, 166, 167, 168, 169, 170, 182, 183, 184, 185, 186, 187, 188, 189, 190, 191, 192, 193, 194, 195, 196, 197, 211, 212, 213, 214, 215, 216, 217, 218, 219, 220, 221, 222, 223, 224, 225, 226, 227, 228, 229, 230, 231, 232, 233, 206, 207, 208, 209, 210, 198, 199, 200, 201, 202, 203, 204, 205] rfl (by decide +kernel)
set_option maxRecDepth 20000 in
theorem gX10_emptyOn_X8_beginDay : GoodIn wsX10_emptyOn (wsV RX10 367 RX8 yX8_beginDay wsX8_beginDay) := goodIn_app (goodIn_of _ (by decide +kernel)) ggX10_emptyOn_X8_beginDay
set_option maxRecDepth 20000 in
theorem ggX10_bytesAfter_X10_needDaysAhead : GoodIn wsX10_bytesAfter wsX10_needDaysAhead := goodIn_ca (goodIn_r _ [5, 6, 7] rfl (by decide +kernel)) (goodIn_sub (fun _ h => List.mem_cons_of_mem _ (List.mem_append_right _ h)) (by decide +kernel))
set_option maxRecDepth 20000 in
theorem gX10_bytesAfter_X10_needDaysAhead : GoodIn wsX10_bytesAfter (va_wsS RX10 382 yX10_needDaysAhead wsX10_needDaysAhead) := goodIn_app (goodIn_of _ (by decide +kernel)) ggX10_bytesAfter_X10_needDaysAhead
set_option maxRecDepth 20000 in
theorem ggX10_bytesAfter_X10_lookAhead : GoodIn wsX10_bytesAfter wsX10_lookAhead := goodIn_r _ [11, 1, 12, 13, 14, 15, 16, 17, 18, 19, 20, 21, 22, 23, 24, 25, 26, 27, 28, 29, 30, 4, 31, 32, 33, 34, 35, 36, 37, 38, 39, 40, 41, 42, 43, 44, 45, 46, 47, 48, 49, 50, 51, 52, 53, 54, 55, 56, 57, 58, 59, 60, 61, 62, 63, 64, 65, 66, 67, 68, 69, 70, 71, 72, 73, 74, 75, 76, 77, 78, 79, 80, 81, 82, 83, 84, 85, 86, 87, 88, 89, 90, 91, 92, 93, 94, 95, 96, 97, 98, 99, 100, 101, 102, 103, 185, 186, 187, 188, 189, 190, 191, 192, 193, 194, 195, 196, 197, 198, 199, 200, 201, 202, 203, 204, 205, 206, 207, 208, 209, 210, 211, 212, 213, 214, 215, 216, 217, 218, 219, 220, 221, 222, 223, 224, 225, 226, 227, 228, 229, 230, 231, 232, 233, 234, 235, 236, 237, 238, 239, 240, 241, 242] rfl (by decide +kernel)
set_option maxRecDepth 20000 in
theorem gX10_bytesAfter_X10_lookAhead : GoodIn wsX10_bytesAfter (wsV RX10 373 RX10 yX10_lookAhead wsX10_lookAhead) := goodIn_app (goodIn_of _ (by decide +kernel)) ggX10_bytesAfter_X10_lookAhead
set_option maxRecDepth 20000 in
theorem ggX10_bytesAfter_X8_isAtRest : GoodIn wsX10_bytesAfter wsX8_isAtRest := goodIn_r _ [107, 67, 66, 28, 196, 197, 198, 199, 200, 201, 202, 203, 204, 205, 206, 207, 208, 209, 210, 211, 212, 213, 214, 215, 216, 217, 218, 219] rfl (by decide +kernel)
set_option maxRecDepth 20000 in
theorem gX10_bytesAfter_X8_isAtRest : GoodIn wsX10_bytesAfter (wsV RX10 379 RX8 yX8_isAtRest wsX8_isAtRest) := goodIn_app (goodIn_of _ (by decide +kernel)) ggX10_bytesAfter_X8_isAtRest
set_option maxRecDepth 20000 in
theorem ggX10_bytesAfter_X8_beginDay : GoodIn wsX10_bytesAfter wsX8_beginDay := goodIn_r _ [111, 19, 67, 18, 28, 29, 112, 113, 114, 16, 115, 23, 73, 91, 92, 93, 94, 26, 89, 4, 90, 116, 117, 118, 119, 25, 120, 121, 122, 123, 21, 124, 125, 126, 127, 24, 128, 129, 130, 131, 132, 133, 134, 135, 102, 103, 136, 137, 138, 55, 139, 60, 61, 57, 58, 59, 140, 141, 142, 143, 79, 80, 81, 82, 83, 84, 85, 86, 87, 88, 144, 145, 146, 147, 148, 149, 150, 151, 152, 153, 154, 155, 156, 43, 157, 50, 51, 47, 158, 159, 160, 161, 27, 162, 63, 64, 65, 66, 68, 69, 70, 71, 72, 74, 33, 34, 35, 75, 76, 77, 78, 95, 96, 97, 98, 99, 100, 101, 163, 164, 165, 166, 45, 46, 167, 168, 169, 170, 171, 172, 173, 174, 175, 196, 197, 198, 199, 200, 201, 202, 203, 204, 205, 206, 207, 208, 209, 210, 211, 225, 226, 227, 228, 229, 230, 231, 232, 233, 234, 235, 236, 237, 238, 239, 240, 241, 242, 243, 244, 245, 246, 247, 220, 221, 222, 223, 224, 212, 213, 214, 215, 216, 217, 218, 219] rfl (by decide +kernel)
set_option maxRecDepth 20000 in
theorem gX10_bytesAfter_X8_beginDay : GoodIn wsX10_bytesAfter (wsV RX10 367 RX8 yX8_beginDay wsX8_beginDay) := goodIn_app (goodIn_of _ (by decide +kernel)) ggX10_bytesAfter_X8_beginDay
set_option maxRecDepth 20000 in
theorem ggX10_bytesAfter_X9_byteSum : GoodIn wsX10_bytesAfter wsX9_byteSum := goodIn_r _ [179, 45, 167, 168, 169, 43, 170, 51, 171, 172, 173, 174, 89, 4, 90, 180, 181, 182, 183, 48, 184, 212, 213, 214, 215, 216, 217, 218, 219, 248, 249] rfl (by decide +kernel)
set_option maxRecDepth 20000 in
theorem gX10_bytesAfter_X9_byteSum : GoodIn wsX10_bytesAfter (wsV RX10 289 RX9 yX9_byteSum wsX9_byteSum) := goodIn_app (goodIn_of _ (by decide +kernel)) ggX10_bytesAfter_X9_byteSum
set_option maxRecDepth 20000 in
theorem ggX10_goneAfter_X10_needUser : GoodIn wsX10_goneAfter wsX10_needUser := goodIn_ca (goodIn_r _ [7, 8, 9, 2, 10, 11, 12, 13, 14, 15, 187, 188, 189, 190, 191, 192, 193, 194, 195, 196, 197, 198, 199, 200, 201, 202, 203, 204, 205, 206, 207, 208, 209, 210, 211, 212, 213, 214, 215, 216, 217, 218, 219, 220, 221, 222, 223, 224, 225, 226, 227, 228, 229, 230, 231] rfl (by decide +kernel)) (goodIn_sub (fun _ h => List.mem_cons_of_mem _ (List.mem_append_left _ (List.mem_append_right _ h))) (by decide +kernel))
set_option maxRecDepth 20000 in
theorem gX10_goneAfter_X10_needUser : GoodIn wsX10_goneAfter (wsV RX10 169 RX10 yX10_needUser wsX10_needUser) := goodIn_app (goodIn_of _ (by decide +kernel)) ggX10_goneAfter_X10_needUser
set_option maxRecDepth 20000 in
theorem ggX10_goneAfter_X10_needDaysAhead : GoodIn wsX10_goneAfter wsX10_needDaysAhead := goodIn_ca (goodIn_r _ [18, 19, 20] rfl (by decide +kernel)) (goodIn_sub (fun _ h => List.mem_cons_of_mem _ (List.mem_append_right _ h)) (by decide +kernel))
set_option maxRecDepth 20000 in
theorem gX10_goneAfter_X10_needDaysAhead : GoodIn wsX10_goneAfter (va_wsS RX10 382 yX10_needDaysAhead wsX10_needDaysAhead) := goodIn_app (goodIn_of _ (by decide +kernel)) ggX10_goneAfter_X10_needDaysAhead
set_option maxRecDepth 20000 in
theorem ggX10_goneAfter_X10_lookAhead : GoodIn wsX10_goneAfter wsX10_lookAhead := goodIn_r _ [24, 1, 2, 25, 26, 27, 28, 29, 30, 31, 32, 33, 34, 35, 36, 37, 38, 39, 40, 41, 42, 6, 43, 44, 45, 46, 47, 48, 49, 50, 51, 52, 53, 54, 55, 56, 57, 58, 59, 60, 61, 62, 63, 64, 65, 66, 67, 68, 69, 70, 71, 72, 73, 74, 75, 76, 77, 78, 79, 80, 81, 82, 83, 84, 85, 86, 87, 88, 89, 90, 91, 92, 93, 94, 95, 11, 12, 13, 14, 15, 96, 97, 98, 99, 100, 101, 102, 103, 104, 105, 106, 107, 108, 109, 110, 187, 188, 189, 190, 191, 192, 193, 194, 195, 196, 197, 198, 199, 200, 201, 202, 203, 204, 205, 206, 207, 208, 209, 210, 211, 212, 213, 232, 233, 234, 235, 236, 237, 238, 239, 240, 241, 242, 243, 244, 214, 215, 216, 217, 218, 219, 220, 221, 222, 223, 224, 225, 226, 227, 228, 229, 230, 231] rfl (by decide +kernel)
set_option maxRecDepth 20000 in
theorem gX10_goneAfter_X10_lookAhead : GoodIn wsX10_goneAfter (wsV RX10 373 RX10 yX10_lookAhead wsX10_lookAhead) := goodIn_app (goodIn_of _ (by decide +kernel)) ggX10_goneAfter_X10_lookAhead
set_option maxRecDepth 20000 in
theorem ggX10_goneAfter_X8_isAtRest : GoodIn wsX10_goneAfter wsX8_isAtRest := goodIn_r _ [114, 79, 78, 40, 198, 199, 200, 201, 202, 203, 204, 205, 206, 207, 208, 209, 210, 211, 212, 213, 232, 233, 234, 235, 236, 237, 238, 239] rfl (by decide +kernel)
set_option maxRecDepth 20000 in
theorem gX10_goneAfter_X8_isAtRest : GoodIn wsX10_goneAfter (wsV RX10 379 RX8 yX8_isAtRest wsX8_isAtRest) := goodIn_app (goodIn_of _ (by decide +kernel)) ggX10_goneAfter_X8_isAtRest
set_option maxRecDepth 20000 in
theorem ggX10_goneAfter_X8_beginDay : GoodIn wsX10_goneAfter wsX8_beginDay := goodIn_r _ [118, 31, 79, 30, 40, 41, 119, 120, 121, 28, 122, 35, 85, 98, 99, 100, 101, 38, 96, 6, 97, 123, 124, 125, 126, 37, 127, 128, 129, 130, 33, 131, 132, 133, 134, 36, 135, 136, 137, 138, 139, 140, 141, 142, 109, 110, 143, 144, 145, 67, 146, 72, 73, 69, 70, 71, 147, 148, 149, 150, 91, 92, 93, 94, 95, 11, 12, 13, 14, 15, 151, 152, 153, 154, 155, 156, 157, 158, 159, 160, 161, 162, 163, 55, 164, 62, 63, 59, 165, 166, 167, 168, 39, 169, 75, 76, 77, 78, 80, 81, 82, 83, 84, 86, 45, 46, 47, 87, 88, 89, 90, 102, 103, 104, 105, 106, 107, 108, 170, 171, 172, 173, 57, 58, 174, 175, 176, 177, 178, 179, 180, 181, 182, 198, 199, 200, 201, 202, 203, 204, 205, 206, 207, 208, 209, 210, 211, 212, 213, 214, 215, 216, 217, 218, 219, 220, 221, 222, 223, 224, 225, 226, 227, 228, 229, 230, 231, 245, 246, 247, 248, 249, 240, 241, 242, 243, 244, 232, 233, 234, 235, 236, 237, 238, 239] rfl (by decide +kernel)
set_option maxRecDepth 20000 in
theorem gX10_goneAfter_X8_beginDay : GoodIn wsX10_goneAfter (wsV RX10 367 RX8 yX8_beginDay wsX8_beginDay) := goodIn_app (goodIn_of _ (by decide +kernel)) ggX10_goneAfter_X8_beginDay
set_option maxRecDepth 20000 in
theorem ggX10_goneAfter_X8_liveOf : GoodIn wsX10_goneAfter wsX8_liveOf := goodIn_r _ [186, 35, 91, 92, 93, 28, 94, 30, 37, 95, 11, 12, 13, 14, 15, 96, 6, 97, 198, 199, 200, 201, 202, 203, 204, 205, 206, 207, 208, 209, 210, 211, 212, 213, 214, 215, 216, 217, 218, 219, 220, 221, 222, 223, 224, 225, 226, 227, 228, 229, 230, 231] rfl (by decide +kernel)
set_option maxRecDepth 20000 in
theorem gX10_goneAfter_X8_liveOf : GoodIn wsX10_goneAfter (wsV RX10 385 RX8 yX8_liveOf wsX8_liveOf) := goodIn_app (goodIn_of _ (by decide +kernel)) ggX10_goneAfter_X8_liveOf
set_option maxRecDepth 20000 in
theorem ggX10_event_X10_needWhat : GoodIn wsX10_event wsX10_needWhat := goodIn_ca (goodIn_r _ [7, 8, 9] rfl (by decide +kernel)) (goodIn_sub (fun _ h => List.mem_cons_of_mem _ (List.mem_append_right _ h)) (by decide +kernel))
set_option maxRecDepth 20000 in
theorem gX10_event_X10_needWhat : GoodIn wsX10_event (va_wsS RX10 149 yX10_needWhat wsX10_needWhat) := goodIn_app (goodIn_of _ (by decide +kernel)) ggX10_event_X10_needWhat
set_option maxRecDepth 20000 in
theorem ggX10_event_X2_valueAt : GoodIn wsX10_event wsX2_valueAt := goodIn_r _ [14, 15, 16, 17, 18, 19, 6, 20, 48, 49, 50, 51, 52] rfl (by decide +kernel)
set_option maxRecDepth 20000 in
theorem gX10_event_X2_valueAt : GoodIn wsX10_event (wsV RX10 397 RX2 yX2_valueAt wsX2_valueAt) := goodIn_app (goodIn_of _ (by decide +kernel)) ggX10_event_X2_valueAt
set_option maxRecDepth 20000 in
theorem ggX10_eventsOf_X2_valueAt : GoodIn wsX10_eventsOf wsX2_valueAt := goodIn_r _ [8, 9, 10, 11, 12, 13, 14, 15, 43, 44, 45, 46, 47] rfl (by decide +kernel)
set_option maxRecDepth 20000 in
theorem gX10_eventsOf_X2_valueAt : GoodIn wsX10_eventsOf (wsV RX10 397 RX2 yX2_valueAt wsX2_valueAt) := goodIn_app (goodIn_of _ (by decide +kernel)) ggX10_eventsOf_X2_valueAt
set_option maxRecDepth 20000 in
theorem ggX10_undo_X10_pastAt : GoodIn wsX10_undo wsX10_pastAt := goodIn_r _ [9, 10, 11, 61, 62, 63, 64, 65, 66, 67, 68, 69, 70, 71] rfl (by decide +kernel)
set_option maxRecDepth 20000 in
theorem gX10_undo_X10_pastAt : GoodIn wsX10_undo (wsV RX10 407 RX10 yX10_pastAt wsX10_pastAt) := goodIn_app (goodIn_of _ (by decide +kernel)) ggX10_undo_X10_pastAt
set_option maxRecDepth 20000 in
theorem ggX10_undo_X8_copyFrom : GoodIn wsX10_undo wsX8_copyFrom := goodIn_r _ [16, 17, 18, 19, 20, 21, 22, 23, 24, 25, 26, 27, 28, 29, 8, 30, 31, 32, 33, 34, 35, 36, 37, 38, 39, 40, 41, 42, 43, 44, 45, 46, 47, 48, 49, 50, 51, 52, 53, 54, 55, 56, 57, 58, 59, 60, 72, 73, 74, 75, 76, 77, 78, 79, 80, 81, 82, 83, 84, 85, 86, 87, 88, 89, 90, 91, 92, 93, 94, 95, 96, 97, 98, 99, 100] rfl (by decide +kernel)
set_option maxRecDepth 20000 in
theorem gX10_undo_X8_copyFrom : GoodIn wsX10_undo (wsV RX10 411 RX8 yX8_copyFrom wsX8_copyFrom) := goodIn_app (goodIn_of _ (by decide +kernel)) ggX10_undo_X8_copyFrom
set_option maxRecDepth 20000 in
theorem ggX10_writeMailbox_X10_needUser : GoodIn wsX10_writeMailbox wsX10_needUser := goodIn_ca (goodIn_r _ [7, 8, 9, 2, 10, 11, 12, 13, 14, 15, 65, 66, 67, 68, 69, 70, 71, 72, 73, 74, 75, 76, 77, 78, 79, 80, 81, 82, 83, 84, 85, 86, 87, 88, 89, 90, 91, 94, 95, 96, 97, 98, 99, 100, 101, 102, 103, 104, 105, 106, 107, 108, 109, 110, 111] rfl (by decide +kernel)) (goodIn_sub (fun _ h => List.mem_cons_of_mem _ (List.mem_append_right _ h)) (by decide +kernel))
set_option maxRecDepth 20000 in
theorem gX10_writeMailbox_X10_needUser : GoodIn wsX10_writeMailbox (wsV RX10 169 RX10 yX10_needUser wsX10_needUser) := goodIn_app (goodIn_of _ (by decide +kernel)) ggX10_writeMailbox_X10_needUser
set_option maxRecDepth 20000 in
theorem ggX10_writeMailbox_X0_cutTo : GoodIn wsX10_writeMailbox wsX0_cutTo := goodIn_r _ [20, 21, 92, 93] rfl (by decide +kernel)
set_option maxRecDepth 20000 in
theorem gX10_writeMailbox_X0_cutTo : GoodIn wsX10_writeMailbox (wsV RX10 75 RX0 yX0_cutTo wsX0_cutTo) := goodIn_app (goodIn_of _ (by decide +kernel)) ggX10_writeMailbox_X0_cutTo
set_option maxRecDepth 20000 in
theorem ggX10_writeMailbox_X8_stateOf : GoodIn wsX10_writeMailbox wsX8_stateOf := goodIn_r _ [26, 27, 28, 29, 30, 11, 12, 13, 14, 15, 31, 6, 32, 76, 77, 78, 79, 80, 81, 82, 83, 84, 85, 86, 87, 88, 89, 90, 91, 94, 95, 96, 97, 98, 99, 100, 101, 102, 103, 104, 105, 106, 107, 108, 109, 110, 111] rfl (by decide +kernel)
set_option maxRecDepth 20000 in
theorem gX10_writeMailbox_X8_stateOf : GoodIn wsX10_writeMailbox (wsV RX10 234 RX8 yX8_stateOf wsX8_stateOf) := goodIn_app (goodIn_of _ (by decide +kernel)) ggX10_writeMailbox_X8_stateOf
set_option maxRecDepth 20000 in
theorem ggX10_writeMailbox_X10_writeReference : GoodIn wsX10_writeMailbox wsX10_writeReference := goodIn_r _ [36, 1, 2, 37, 38, 39, 19, 40, 41, 42, 43, 44, 21, 45, 46, 47, 48, 49, 25, 50, 51, 31, 6, 32, 52, 53, 54, 13, 55, 56, 57, 11, 12, 14, 15, 58, 59, 60, 61, 62, 63, 64, 65, 66, 67, 68, 69, 70, 71, 72, 73, 74, 75, 76, 77, 78, 79, 80, 81, 82, 83, 84, 85, 86, 87, 88, 89, 90, 91, 94, 95, 96, 97, 98, 99, 100, 101, 102, 103, 104, 105, 106, 107, 108, 109, 92, 93, 110, 111] rfl (by decide +kernel)
set_option maxRecDepth 20000 in
theorem gX10_writeMailbox_X10_writeReference : GoodIn wsX10_writeMailbox (wsV RX10 415 RX10 yX10_writeReference wsX10_writeReference) := goodIn_app (goodIn_of _ (by decide +kernel)) ggX10_writeMailbox_X10_writeReference
set_option maxRecDepth 20000 in
theorem ggX10_outputByte_X0_byteAt : GoodIn wsX10_outputByte wsX0_byteAt := goodIn_r _ [8, 9, 10, 22, 23] rfl (by decide +kernel)
set_option maxRecDepth 20000 in
theorem gX10_outputByte_X0_byteAt : GoodIn wsX10_outputByte (wsV RX10 283 RX0 yX0_byteAt wsX0_byteAt) := goodIn_app (goodIn_of _ (by decide +kernel)) ggX10_outputByte_X0_byteAt
set_option maxRecDepth 20000 in
theorem ggX10_writeReference_X0_addNumber : GoodIn wsX10_writeReference wsX0_addNumber := goodIn_r _ [7, 8, 9, 10, 6, 11, 12, 13, 85, 86] rfl (by decide +kernel)
set_option maxRecDepth 20000 in
theorem gX10_writeReference_X0_addNumber : GoodIn wsX10_writeReference (wsV RX10 420 RX0 yX0_addNumber wsX0_addNumber) := goodIn_app (goodIn_of _ (by decide +kernel)) ggX10_writeReference_X0_addNumber
set_option maxRecDepth 20000 in
theorem ggX10_writeReference_X0_add : GoodIn wsX10_writeReference wsX0_add := goodIn_r _ [11, 12, 13, 85, 86] rfl (by decide +kernel)
set_option maxRecDepth 20000 in
theorem gX10_writeReference_X0_add : GoodIn wsX10_writeReference (wsV RX10 423 RX0 yX0_add wsX0_add) := goodIn_app (goodIn_of _ (by decide +kernel)) ggX10_writeReference_X0_add
set_option maxRecDepth 20000 in
theorem ggX10_writeReference_X8_retentionOf : GoodIn wsX10_writeReference wsX8_retentionOf := goodIn_r _ [19, 20, 21, 22, 23, 53, 54, 55, 56, 57, 58, 59, 60, 61, 62, 63, 64, 65, 66, 67, 68] rfl (by decide +kernel)
set_option maxRecDepth 20000 in
theorem gX10_writeReference_X8_retentionOf : GoodIn wsX10_writeReference (wsV RX10 238 RX8 yX8_retentionOf wsX8_retentionOf) := goodIn_app (goodIn_of _ (by decide +kernel)) ggX10_writeReference_X8_retentionOf
set_option maxRecDepth 20000 in
theorem ggX10_writeReference_X5_nameAt : GoodIn wsX10_writeReference wsX5_nameAt := goodIn_r _ [28, 29, 30, 31, 32, 27, 33, 34, 87, 88] rfl (by decide +kernel)
set_option maxRecDepth 20000 in
theorem gX10_writeReference_X5_nameAt : GoodIn wsX10_writeReference (wsV RX10 429 RX5 yX5_nameAt wsX5_nameAt) := goodIn_app (goodIn_of _ (by decide +kernel)) ggX10_writeReference_X5_nameAt
set_option maxRecDepth 20000 in
theorem ggX10_writeReference_X0_addWord : GoodIn wsX10_writeReference wsX0_addWord := goodIn_r _ [38, 39, 40, 8, 9, 10, 6, 11, 12, 13, 85, 86] rfl (by decide +kernel)
set_option maxRecDepth 20000 in
theorem gX10_writeReference_X0_addWord : GoodIn wsX10_writeReference (wsV RX10 433 RX0 yX0_addWord wsX0_addWord) := goodIn_app (goodIn_of _ (by decide +kernel)) ggX10_writeReference_X0_addWord
set_option maxRecDepth 20000 in
theorem ggX10_writeReference_X10_at : GoodIn wsX10_writeReference wsX10_at := goodIn_r _ [23] rfl (by decide +kernel)
set_option maxRecDepth 20000 in
theorem gX10_writeReference_X10_at : GoodIn wsX10_writeReference (va_wsS RX10 142 yX10_at wsX10_at) := goodIn_app (goodIn_of _ (by decide +kernel)) ggX10_writeReference_X10_at
set_option maxRecDepth 20000 in
theorem ggX10_remember_X10_pastAt : GoodIn wsX10_remember wsX10_pastAt := goodIn_r _ [8, 2, 9, 59, 60, 61, 62, 63, 64, 65, 66, 67, 68, 69] rfl (by decide +kernel)
set_option maxRecDepth 20000 in
theorem gX10_remember_X10_pastAt : GoodIn wsX10_remember (wsV RX10 407 RX10 yX10_pastAt wsX10_pastAt) := goodIn_app (goodIn_of _ (by decide +kernel)) ggX10_remember_X10_pastAt
set_option maxRecDepth 20000 in
theorem ggX10_remember_X8_copyFrom : GoodIn wsX10_remember wsX8_copyFrom := goodIn_r _ [14, 15, 16, 17, 18, 19, 20, 21, 22, 23, 24, 25, 26, 27, 7, 28, 29, 30, 31, 32, 33, 34, 35, 36, 37, 38, 39, 40, 41, 42, 43, 44, 45, 46, 47, 48, 49, 50, 51, 52, 53, 54, 55, 56, 57, 58, 70, 71, 72, 73, 74, 75, 76, 77, 78, 79, 80, 81, 82, 83, 84, 85, 86, 87, 88, 89, 90, 91, 92, 93, 94, 95, 96, 97, 98] rfl (by decide +kernel)
set_option maxRecDepth 20000 in
theorem gX10_remember_X8_copyFrom : GoodIn wsX10_remember (wsV RX10 411 RX8 yX8_copyFrom wsX8_copyFrom) := goodIn_app (goodIn_of _ (by decide +kernel)) ggX10_remember_X8_copyFrom
set_option maxRecDepth 20000 in
theorem ggX10_lookAhead_X8_copyFrom : GoodIn wsX10_lookAhead wsX8_copyFrom := goodIn_r _ [7, 8, 9, 10, 11, 12, 13, 14, 15, 16, 17, 18, 19, 20, 21, 22, 23, 24, 25, 26, 27, 28, 29, 30, 31, 32, 33, 34, 35, 36, 37, 38, 39, 40, 41, 42, 43, 44, 45, 46, 47, 48, 49, 50, 51, 52, 106, 107, 108, 109, 110, 111, 112, 113, 114, 115, 116, 117, 118, 119, 120, 121, 122, 123, 124, 125, 126, 127, 128, 129, 130, 131, 132, 133, 134] rfl (by decide +kernel)
set_option maxRecDepth 20000 in
theorem gX10_lookAhead_X8_copyFrom : GoodIn wsX10_lookAhead (wsV RX10 411 RX8 yX8_copyFrom wsX8_copyFrom) := goodIn_app (goodIn_of _ (by decide +kernel)) ggX10_lookAhead_X8_copyFrom
set_option maxRecDepth 20000 in
theorem ggX10_lookAhead_X8_planLeaving : GoodIn wsX10_lookAhead wsX8_planLeaving := goodIn_r _ [56, 57, 58, 8, 59, 60, 61, 6, 62, 63, 13, 64, 65, 24, 25, 26, 66, 67, 68, 69, 70, 71, 72, 73, 15, 74, 75, 76, 77, 78, 79, 80, 21, 81, 82, 83, 84, 85, 16, 86, 87, 88, 89, 9, 17, 90, 91, 92, 93, 94, 106, 107, 108, 109, 110, 111, 112, 113, 114, 115, 116, 117, 118, 119, 120, 121, 135, 136, 137, 138, 139, 140, 141, 142, 143, 144, 145, 146, 147, 148, 149, 150, 151, 152] rfl (by decide +kernel)
set_option maxRecDepth 20000 in
theorem gX10_lookAhead_X8_planLeaving : GoodIn wsX10_lookAhead (wsV RX10 364 RX8 yX8_planLeaving wsX8_planLeaving) := goodIn_app (goodIn_of _ (by decide +kernel)) ggX10_lookAhead_X8_planLeaving
set_option maxRecDepth 20000 in
theorem ggX10_needClass_X5_has : GoodIn wsX10_needClass wsX5_has := goodIn_r _ [8, 9, 53, 54] rfl (by decide +kernel)
set_option maxRecDepth 20000 in
theorem gX10_needClass_X5_has : GoodIn wsX10_needClass (wsV RX10 130 RX5 yX5_has wsX5_has) := goodIn_app (goodIn_of _ (by decide +kernel)) ggX10_needClass_X5_has
set_option maxRecDepth 20000 in
theorem ggX10_needUser_X5_has : GoodIn wsX10_needUser wsX5_has := goodIn_r _ [8, 9, 53, 54] rfl (by decide +kernel)
set_option maxRecDepth 20000 in
theorem gX10_needUser_X5_has : GoodIn wsX10_needUser (wsV RX10 130 RX5 yX5_has wsX5_has) := goodIn_app (goodIn_of _ (by decide +kernel)) ggX10_needUser_X5_has
set_option maxRecDepth 20000 in
theorem ggX10_needHold_X5_has : GoodIn wsX10_needHold wsX5_has := goodIn_r _ [8, 9, 53, 54] rfl (by decide +kernel)
set_option maxRecDepth 20000 in
theorem gX10_needHold_X5_has : GoodIn wsX10_needHold (wsV RX10 130 RX5 yX5_has wsX5_has) := goodIn_app (goodIn_of _ (by decide +kernel)) ggX10_needHold_X5_has
set_option maxRecDepth 20000 in
theorem ggX10_needReference_X8_stateOf : GoodIn wsX10_needReference wsX8_stateOf := goodIn_r _ [8, 9, 10, 11, 12, 13, 14, 15, 16, 17, 18, 19, 20, 32, 33, 34, 35, 36, 37, 38, 39, 40, 41, 42, 43, 44, 45, 46, 47, 48, 49, 50, 51, 52, 53, 54, 55, 56, 57, 58, 59, 60, 61, 62, 63, 64, 65] rfl (by decide +kernel)
set_option maxRecDepth 20000 in
theorem gX10_needReference_X8_stateOf : GoodIn wsX10_needReference (wsV RX10 234 RX8 yX8_stateOf wsX8_stateOf) := goodIn_app (goodIn_of _ (by decide +kernel)) ggX10_needReference_X8_stateOf
set_option maxRecDepth 20000 in
theorem ggX10_needLive_X8_stateOf : GoodIn wsX10_needLive wsX8_stateOf := goodIn_r _ [8, 9, 10, 11, 12, 13, 14, 15, 16, 17, 18, 19, 20, 32, 33, 34, 35, 36, 37, 38, 39, 40, 41, 42, 43, 44, 45, 46, 47, 48, 49, 50, 51, 52, 53, 54, 55, 56, 57, 58, 59, 60, 61, 62, 63, 64, 65] rfl (by decide +kernel)
set_option maxRecDepth 20000 in
theorem gX10_needLive_X8_stateOf : GoodIn wsX10_needLive (wsV RX10 234 RX8 yX8_stateOf wsX8_stateOf) := goodIn_app (goodIn_of _ (by decide +kernel)) ggX10_needLive_X8_stateOf
set_option maxRecDepth 20000 in
theorem ggX10_needPart_X9_isStored : GoodIn wsX10_needPart wsX9_isStored := goodIn_r _ [8, 9, 10, 11, 12, 13, 41, 42, 43, 44, 45, 46, 47, 48] rfl (by decide +kernel)
set_option maxRecDepth 20000 in
theorem gX10_needPart_X9_isStored : GoodIn wsX10_needPart (wsV RX10 376 RX9 yX9_isStored wsX9_isStored) := goodIn_app (goodIn_of _ (by decide +kernel)) ggX10_needPart_X9_isStored
set_option maxRecDepth 20000 in
theorem ggX11_passes2_X11_passes3 : GoodIn wsX11_passes2 wsX11_passes3 := goodIn_r _ [5, 6, 7, 8, 9, 10, 11, 12, 13, 14, 15, 16, 17, 18, 19, 20, 21, 22, 23, 24, 25, 26, 27, 28, 29, 30, 31, 32, 33, 34, 35, 36] rfl (by decide +kernel)
set_option maxRecDepth 20000 in
theorem gX11_passes2_X11_passes3 : GoodIn wsX11_passes2 (wsV RX11 7 RX11 yX11_passes3 wsX11_passes3) := goodIn_app (goodIn_of _ (by decide +kernel)) ggX11_passes2_X11_passes3
set_option maxRecDepth 20000 in
theorem ggX11_passes_X11_passes3 : GoodIn wsX11_passes wsX11_passes3 := goodIn_r _ [5, 6, 7, 8, 9, 10, 11, 12, 13, 14, 15, 16, 17, 18, 19, 20, 21, 22, 23, 24, 25, 26, 27, 28, 29, 30, 31, 32, 33, 34, 35, 36] rfl (by decide +kernel)
set_option maxRecDepth 20000 in
theorem gX11_passes_X11_passes3 : GoodIn wsX11_passes (wsV RX11 7 RX11 yX11_passes3 wsX11_passes3) := goodIn_app (goodIn_of _ (by decide +kernel)) ggX11_passes_X11_passes3
set_option maxRecDepth 20000 in
theorem ggX11_isClass_X11_in : GoodIn wsX11_isClass wsX11_in := goodIn_r _ [5] rfl (by decide +kernel)
set_option maxRecDepth 20000 in
theorem gX11_isClass_X11_in : GoodIn wsX11_isClass (va_wsS RX11 64 yX11_in wsX11_in) := goodIn_app (goodIn_of _ (by decide +kernel)) ggX11_isClass_X11_in
set_option maxRecDepth 20000 in
theorem ggX11_isUser_X11_in : GoodIn wsX11_isUser wsX11_in := goodIn_r _ [5] rfl (by decide +kernel)
set_option maxRecDepth 20000 in
theorem gX11_isUser_X11_in : GoodIn wsX11_isUser (va_wsS RX11 64 yX11_in wsX11_in) := goodIn_app (goodIn_of _ (by decide +kernel)) ggX11_isUser_X11_in
set_option maxRecDepth 20000 in
theorem ggX11_isHold_X11_in : GoodIn wsX11_isHold wsX11_in := goodIn_r _ [5] rfl (by decide +kernel)
set_option maxRecDepth 20000 in
theorem gX11_isHold_X11_in : GoodIn wsX11_isHold (va_wsS RX11 64 yX11_in wsX11_in) := goodIn_app (goodIn_of _ (by decide +kernel)) ggX11_isHold_X11_in
set_option maxRecDepth 20000 in
theorem ggX11_isMessage_X11_in : GoodIn wsX11_isMessage wsX11_in := goodIn_r _ [5] rfl (by decide +kernel)
set_option maxRecDepth 20000 in
theorem gX11_isMessage_X11_in : GoodIn wsX11_isMessage (va_wsS RX11 64 yX11_in wsX11_in) := goodIn_app (goodIn_of _ (by decide +kernel)) ggX11_isMessage_X11_in
