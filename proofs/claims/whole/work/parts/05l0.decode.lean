theorem dL_append_0 : decode cL_append 0 = .ok (.aload 6, 2) := by decide +kernel
theorem dL_append_2 : decode cL_append 2 = .ok (.iconst 0, 1) := by decide +kernel
theorem dL_append_3 : decode cL_append 3 = .ok (.aload_n 0, 1) := by decide +kernel
theorem dL_append_4 : decode cL_append 4 = .ok (.iload_n 1, 1) := by decide +kernel
theorem dL_append_5 : decode cL_append 5 = .ok (.iload_n 2, 1) := by decide +kernel
theorem dL_append_6 : decode cL_append 6 = .ok (.iload_n 3, 1) := by decide +kernel
theorem dL_append_7 : decode cL_append 7 = .ok (.iload 4, 2) := by decide +kernel
theorem dL_append_9 : decode cL_append 9 = .ok (.iload 5, 2) := by decide +kernel
theorem dL_append_11 : decode cL_append 11 = .ok (.invokevirtual 7, 3) := by decide +kernel
theorem dL_append_14 : decode cL_append 14 = .ok (.i2l, 1) := by decide +kernel
theorem dL_append_15 : decode cL_append 15 = .ok (.lastore, 1) := by decide +kernel
theorem dL_append_16 : decode cL_append 16 = .ok (.goto 7, 3) := by decide +kernel
theorem dL_append_19 : decode cL_append 19 = .ok (.astore 7, 2) := by decide +kernel
theorem dL_append_21 : decode cL_append 21 = .ok (.iconst 1, 1) := by decide +kernel
theorem dL_append_22 : decode cL_append 22 = .ok (.ireturn, 1) := by decide +kernel
theorem dL_append_23 : decode cL_append 23 = .ok (.iconst 0, 1) := by decide +kernel
theorem dL_append_24 : decode cL_append 24 = .ok (.ireturn, 1) := by decide +kernel
theorem dL_truncate_0 : decode cL_truncate 0 = .ok (.aload_n 0, 1) := by decide +kernel
theorem dL_truncate_1 : decode cL_truncate 1 = .ok (.iload_n 1, 1) := by decide +kernel
theorem dL_truncate_2 : decode cL_truncate 2 = .ok (.invokevirtual 15, 3) := by decide +kernel
theorem dL_truncate_5 : decode cL_truncate 5 = .ok (.goto 6, 3) := by decide +kernel
theorem dL_truncate_8 : decode cL_truncate 8 = .ok (.astore_n 2, 1) := by decide +kernel
theorem dL_truncate_9 : decode cL_truncate 9 = .ok (.iconst 1, 1) := by decide +kernel
theorem dL_truncate_10 : decode cL_truncate 10 = .ok (.ireturn, 1) := by decide +kernel
theorem dL_truncate_11 : decode cL_truncate 11 = .ok (.iconst 0, 1) := by decide +kernel
theorem dL_truncate_12 : decode cL_truncate 12 = .ok (.ireturn, 1) := by decide +kernel
theorem dL_find_0 : decode cL_find 0 = .ok (.aload_n 2, 1) := by decide +kernel
theorem dL_find_1 : decode cL_find 1 = .ok (.iconst 0, 1) := by decide +kernel
theorem dL_find_2 : decode cL_find 2 = .ok (.aload_n 0, 1) := by decide +kernel
theorem dL_find_3 : decode cL_find 3 = .ok (.iload_n 1, 1) := by decide +kernel
theorem dL_find_4 : decode cL_find 4 = .ok (.invokevirtual 21, 3) := by decide +kernel
theorem dL_find_7 : decode cL_find 7 = .ok (.i2l, 1) := by decide +kernel
theorem dL_find_8 : decode cL_find 8 = .ok (.lastore, 1) := by decide +kernel
theorem dL_find_9 : decode cL_find 9 = .ok (.goto 6, 3) := by decide +kernel
theorem dL_find_12 : decode cL_find 12 = .ok (.astore_n 3, 1) := by decide +kernel
theorem dL_find_13 : decode cL_find 13 = .ok (.iconst 1, 1) := by decide +kernel
theorem dL_find_14 : decode cL_find 14 = .ok (.ireturn, 1) := by decide +kernel
theorem dL_find_15 : decode cL_find 15 = .ok (.iconst 0, 1) := by decide +kernel
theorem dL_find_16 : decode cL_find 16 = .ok (.ireturn, 1) := by decide +kernel
theorem dL_count_0 : decode cL_count 0 = .ok (.aload_n 2, 1) := by decide +kernel
theorem dL_count_1 : decode cL_count 1 = .ok (.iconst 0, 1) := by decide +kernel
theorem dL_count_2 : decode cL_count 2 = .ok (.aload_n 0, 1) := by decide +kernel
theorem dL_count_3 : decode cL_count 3 = .ok (.iload_n 1, 1) := by decide +kernel
theorem dL_count_4 : decode cL_count 4 = .ok (.invokevirtual 25, 3) := by decide +kernel
theorem dL_count_7 : decode cL_count 7 = .ok (.i2l, 1) := by decide +kernel
theorem dL_count_8 : decode cL_count 8 = .ok (.lastore, 1) := by decide +kernel
theorem dL_count_9 : decode cL_count 9 = .ok (.goto 6, 3) := by decide +kernel
theorem dL_count_12 : decode cL_count 12 = .ok (.astore_n 3, 1) := by decide +kernel
theorem dL_count_13 : decode cL_count 13 = .ok (.iconst 1, 1) := by decide +kernel
theorem dL_count_14 : decode cL_count 14 = .ok (.ireturn, 1) := by decide +kernel
theorem dL_count_15 : decode cL_count 15 = .ok (.iconst 0, 1) := by decide +kernel
theorem dL_count_16 : decode cL_count 16 = .ok (.ireturn, 1) := by decide +kernel
theorem dL_members_0 : decode cL_members 0 = .ok (.aload_n 2, 1) := by decide +kernel
theorem dL_members_1 : decode cL_members 1 = .ok (.iconst 0, 1) := by decide +kernel
theorem dL_members_2 : decode cL_members 2 = .ok (.aload_n 0, 1) := by decide +kernel
theorem dL_members_3 : decode cL_members 3 = .ok (.iload_n 1, 1) := by decide +kernel
theorem dL_members_4 : decode cL_members 4 = .ok (.invokevirtual 28, 3) := by decide +kernel
theorem dL_members_7 : decode cL_members 7 = .ok (.i2l, 1) := by decide +kernel
theorem dL_members_8 : decode cL_members 8 = .ok (.lastore, 1) := by decide +kernel
theorem dL_members_9 : decode cL_members 9 = .ok (.goto 6, 3) := by decide +kernel
theorem dL_members_12 : decode cL_members 12 = .ok (.astore_n 3, 1) := by decide +kernel
theorem dL_members_13 : decode cL_members 13 = .ok (.iconst 1, 1) := by decide +kernel
theorem dL_members_14 : decode cL_members 14 = .ok (.ireturn, 1) := by decide +kernel
theorem dL_members_15 : decode cL_members 15 = .ok (.iconst 0, 1) := by decide +kernel
theorem dL_members_16 : decode cL_members 16 = .ok (.ireturn, 1) := by decide +kernel
theorem dL_retention_0 : decode cL_retention 0 = .ok (.aload_n 3, 1) := by decide +kernel
theorem dL_retention_1 : decode cL_retention 1 = .ok (.iconst 0, 1) := by decide +kernel
theorem dL_retention_2 : decode cL_retention 2 = .ok (.aload_n 0, 1) := by decide +kernel
theorem dL_retention_3 : decode cL_retention 3 = .ok (.iload_n 1, 1) := by decide +kernel
theorem dL_retention_4 : decode cL_retention 4 = .ok (.iload_n 2, 1) := by decide +kernel
theorem dL_retention_5 : decode cL_retention 5 = .ok (.invokevirtual 33, 3) := by decide +kernel
theorem dL_retention_8 : decode cL_retention 8 = .ok (.i2l, 1) := by decide +kernel
theorem dL_retention_9 : decode cL_retention 9 = .ok (.lastore, 1) := by decide +kernel
theorem dL_retention_10 : decode cL_retention 10 = .ok (.goto 11, 3) := by decide +kernel
theorem dL_retention_13 : decode cL_retention 13 = .ok (.astore 4, 2) := by decide +kernel
theorem dL_retention_15 : decode cL_retention 15 = .ok (.iconst 1, 1) := by decide +kernel
theorem dL_retention_16 : decode cL_retention 16 = .ok (.ireturn, 1) := by decide +kernel
theorem dL_retention_17 : decode cL_retention 17 = .ok (.astore 4, 2) := by decide +kernel
theorem dL_retention_19 : decode cL_retention 19 = .ok (.iconst 2, 1) := by decide +kernel
theorem dL_retention_20 : decode cL_retention 20 = .ok (.ireturn, 1) := by decide +kernel
theorem dL_retention_21 : decode cL_retention 21 = .ok (.iconst 0, 1) := by decide +kernel
theorem dL_retention_22 : decode cL_retention 22 = .ok (.ireturn, 1) := by decide +kernel
theorem dL_ladderDays_0 : decode cL_ladderDays 0 = .ok (.aload_n 2, 1) := by decide +kernel
theorem dL_ladderDays_1 : decode cL_ladderDays 1 = .ok (.iconst 0, 1) := by decide +kernel
theorem dL_ladderDays_2 : decode cL_ladderDays 2 = .ok (.aload_n 0, 1) := by decide +kernel
theorem dL_ladderDays_3 : decode cL_ladderDays 3 = .ok (.iload_n 1, 1) := by decide +kernel
theorem dL_ladderDays_4 : decode cL_ladderDays 4 = .ok (.invokevirtual 37, 3) := by decide +kernel
theorem dL_ladderDays_7 : decode cL_ladderDays 7 = .ok (.i2l, 1) := by decide +kernel
theorem dL_ladderDays_8 : decode cL_ladderDays 8 = .ok (.lastore, 1) := by decide +kernel
theorem dL_ladderDays_9 : decode cL_ladderDays 9 = .ok (.goto 6, 3) := by decide +kernel
theorem dL_ladderDays_12 : decode cL_ladderDays 12 = .ok (.astore_n 3, 1) := by decide +kernel
theorem dL_ladderDays_13 : decode cL_ladderDays 13 = .ok (.iconst 1, 1) := by decide +kernel
theorem dL_ladderDays_14 : decode cL_ladderDays 14 = .ok (.ireturn, 1) := by decide +kernel
theorem dL_ladderDays_15 : decode cL_ladderDays 15 = .ok (.iconst 0, 1) := by decide +kernel
theorem dL_ladderDays_16 : decode cL_ladderDays 16 = .ok (.ireturn, 1) := by decide +kernel
theorem dL_deliver_0 : decode cL_deliver 0 = .ok (.aload 4, 2) := by decide +kernel
theorem dL_deliver_2 : decode cL_deliver 2 = .ok (.iconst 0, 1) := by decide +kernel
theorem dL_deliver_3 : decode cL_deliver 3 = .ok (.aload_n 0, 1) := by decide +kernel
theorem dL_deliver_4 : decode cL_deliver 4 = .ok (.iload_n 1, 1) := by decide +kernel
theorem dL_deliver_5 : decode cL_deliver 5 = .ok (.iload_n 2, 1) := by decide +kernel
theorem dL_deliver_6 : decode cL_deliver 6 = .ok (.iload_n 3, 1) := by decide +kernel
theorem dL_deliver_7 : decode cL_deliver 7 = .ok (.invokevirtual 40, 3) := by decide +kernel
theorem dL_deliver_10 : decode cL_deliver 10 = .ok (.i2l, 1) := by decide +kernel
theorem dL_deliver_11 : decode cL_deliver 11 = .ok (.lastore, 1) := by decide +kernel
theorem dL_deliver_12 : decode cL_deliver 12 = .ok (.goto 15, 3) := by decide +kernel
theorem dL_deliver_15 : decode cL_deliver 15 = .ok (.astore 5, 2) := by decide +kernel
theorem dL_deliver_17 : decode cL_deliver 17 = .ok (.iconst 1, 1) := by decide +kernel
theorem dL_deliver_18 : decode cL_deliver 18 = .ok (.ireturn, 1) := by decide +kernel
theorem dL_deliver_19 : decode cL_deliver 19 = .ok (.astore 5, 2) := by decide +kernel
theorem dL_deliver_21 : decode cL_deliver 21 = .ok (.iconst 2, 1) := by decide +kernel
theorem dL_deliver_22 : decode cL_deliver 22 = .ok (.ireturn, 1) := by decide +kernel
theorem dL_deliver_23 : decode cL_deliver 23 = .ok (.astore 5, 2) := by decide +kernel
theorem dL_deliver_25 : decode cL_deliver 25 = .ok (.iconst 3, 1) := by decide +kernel
theorem dL_deliver_26 : decode cL_deliver 26 = .ok (.ireturn, 1) := by decide +kernel
theorem dL_deliver_27 : decode cL_deliver 27 = .ok (.iconst 0, 1) := by decide +kernel
theorem dL_deliver_28 : decode cL_deliver 28 = .ok (.ireturn, 1) := by decide +kernel
theorem dL_message_0 : decode cL_message 0 = .ok (.aload_n 3, 1) := by decide +kernel
theorem dL_message_1 : decode cL_message 1 = .ok (.iconst 0, 1) := by decide +kernel
theorem dL_message_2 : decode cL_message 2 = .ok (.aload_n 0, 1) := by decide +kernel
theorem dL_message_3 : decode cL_message 3 = .ok (.iload_n 1, 1) := by decide +kernel
theorem dL_message_4 : decode cL_message 4 = .ok (.iload_n 2, 1) := by decide +kernel
theorem dL_message_5 : decode cL_message 5 = .ok (.invokevirtual 44, 3) := by decide +kernel
theorem dL_message_8 : decode cL_message 8 = .ok (.i2l, 1) := by decide +kernel
theorem dL_message_9 : decode cL_message 9 = .ok (.lastore, 1) := by decide +kernel
theorem dL_message_10 : decode cL_message 10 = .ok (.goto 11, 3) := by decide +kernel
theorem dL_message_13 : decode cL_message 13 = .ok (.astore 4, 2) := by decide +kernel
theorem dL_message_15 : decode cL_message 15 = .ok (.iconst 1, 1) := by decide +kernel
theorem dL_message_16 : decode cL_message 16 = .ok (.ireturn, 1) := by decide +kernel
theorem dL_message_17 : decode cL_message 17 = .ok (.astore 4, 2) := by decide +kernel
theorem dL_message_19 : decode cL_message 19 = .ok (.iconst 2, 1) := by decide +kernel
theorem dL_message_20 : decode cL_message 20 = .ok (.ireturn, 1) := by decide +kernel
theorem dL_message_21 : decode cL_message 21 = .ok (.iconst 0, 1) := by decide +kernel
theorem dL_message_22 : decode cL_message 22 = .ok (.ireturn, 1) := by decide +kernel
theorem dL_partOf_0 : decode cL_partOf 0 = .ok (.aload_n 3, 1) := by decide +kernel
theorem dL_partOf_1 : decode cL_partOf 1 = .ok (.iconst 0, 1) := by decide +kernel
theorem dL_partOf_2 : decode cL_partOf 2 = .ok (.aload_n 0, 1) := by decide +kernel
theorem dL_partOf_3 : decode cL_partOf 3 = .ok (.iload_n 1, 1) := by decide +kernel
theorem dL_partOf_4 : decode cL_partOf 4 = .ok (.iload_n 2, 1) := by decide +kernel
theorem dL_partOf_5 : decode cL_partOf 5 = .ok (.invokevirtual 47, 3) := by decide +kernel
theorem dL_partOf_8 : decode cL_partOf 8 = .ok (.i2l, 1) := by decide +kernel
theorem dL_partOf_9 : decode cL_partOf 9 = .ok (.lastore, 1) := by decide +kernel
theorem dL_partOf_10 : decode cL_partOf 10 = .ok (.goto 7, 3) := by decide +kernel
theorem dL_partOf_13 : decode cL_partOf 13 = .ok (.astore 4, 2) := by decide +kernel
theorem dL_partOf_15 : decode cL_partOf 15 = .ok (.iconst 1, 1) := by decide +kernel
theorem dL_partOf_16 : decode cL_partOf 16 = .ok (.ireturn, 1) := by decide +kernel
theorem dL_partOf_17 : decode cL_partOf 17 = .ok (.iconst 0, 1) := by decide +kernel
theorem dL_partOf_18 : decode cL_partOf 18 = .ok (.ireturn, 1) := by decide +kernel
theorem dL_readers_0 : decode cL_readers 0 = .ok (.aload_n 2, 1) := by decide +kernel
theorem dL_readers_1 : decode cL_readers 1 = .ok (.iconst 0, 1) := by decide +kernel
theorem dL_readers_2 : decode cL_readers 2 = .ok (.aload_n 0, 1) := by decide +kernel
theorem dL_readers_3 : decode cL_readers 3 = .ok (.iload_n 1, 1) := by decide +kernel
theorem dL_readers_4 : decode cL_readers 4 = .ok (.invokevirtual 50, 3) := by decide +kernel
theorem dL_readers_7 : decode cL_readers 7 = .ok (.i2l, 1) := by decide +kernel
theorem dL_readers_8 : decode cL_readers 8 = .ok (.lastore, 1) := by decide +kernel
theorem dL_readers_9 : decode cL_readers 9 = .ok (.goto 6, 3) := by decide +kernel
theorem dL_readers_12 : decode cL_readers 12 = .ok (.astore_n 3, 1) := by decide +kernel
theorem dL_readers_13 : decode cL_readers 13 = .ok (.iconst 1, 1) := by decide +kernel
theorem dL_readers_14 : decode cL_readers 14 = .ok (.ireturn, 1) := by decide +kernel
theorem dL_readers_15 : decode cL_readers 15 = .ok (.iconst 0, 1) := by decide +kernel
theorem dL_readers_16 : decode cL_readers 16 = .ok (.ireturn, 1) := by decide +kernel
theorem dL_hidden_0 : decode cL_hidden 0 = .ok (.aload_n 2, 1) := by decide +kernel
theorem dL_hidden_1 : decode cL_hidden 1 = .ok (.iconst 0, 1) := by decide +kernel
theorem dL_hidden_2 : decode cL_hidden 2 = .ok (.aload_n 0, 1) := by decide +kernel
theorem dL_hidden_3 : decode cL_hidden 3 = .ok (.iload_n 1, 1) := by decide +kernel
theorem dL_hidden_4 : decode cL_hidden 4 = .ok (.invokevirtual 53, 3) := by decide +kernel
theorem dL_hidden_7 : decode cL_hidden 7 = .ok (.i2l, 1) := by decide +kernel
theorem dL_hidden_8 : decode cL_hidden 8 = .ok (.lastore, 1) := by decide +kernel
theorem dL_hidden_9 : decode cL_hidden 9 = .ok (.goto 6, 3) := by decide +kernel
theorem dL_hidden_12 : decode cL_hidden 12 = .ok (.astore_n 3, 1) := by decide +kernel
theorem dL_hidden_13 : decode cL_hidden 13 = .ok (.iconst 1, 1) := by decide +kernel
theorem dL_hidden_14 : decode cL_hidden 14 = .ok (.ireturn, 1) := by decide +kernel
theorem dL_hidden_15 : decode cL_hidden 15 = .ok (.iconst 0, 1) := by decide +kernel
theorem dL_hidden_16 : decode cL_hidden 16 = .ok (.ireturn, 1) := by decide +kernel
theorem dL_state_0 : decode cL_state 0 = .ok (.aload_n 3, 1) := by decide +kernel
theorem dL_state_1 : decode cL_state 1 = .ok (.iconst 0, 1) := by decide +kernel
theorem dL_state_2 : decode cL_state 2 = .ok (.aload_n 0, 1) := by decide +kernel
theorem dL_state_3 : decode cL_state 3 = .ok (.iload_n 1, 1) := by decide +kernel
theorem dL_state_4 : decode cL_state 4 = .ok (.iload_n 2, 1) := by decide +kernel
theorem dL_state_5 : decode cL_state 5 = .ok (.invokevirtual 56, 3) := by decide +kernel
theorem dL_state_8 : decode cL_state 8 = .ok (.i2l, 1) := by decide +kernel
theorem dL_state_9 : decode cL_state 9 = .ok (.lastore, 1) := by decide +kernel
theorem dL_state_10 : decode cL_state 10 = .ok (.goto 7, 3) := by decide +kernel
theorem dL_state_13 : decode cL_state 13 = .ok (.astore 4, 2) := by decide +kernel
theorem dL_state_15 : decode cL_state 15 = .ok (.iconst 1, 1) := by decide +kernel
theorem dL_state_16 : decode cL_state 16 = .ok (.ireturn, 1) := by decide +kernel
theorem dL_state_17 : decode cL_state 17 = .ok (.iconst 0, 1) := by decide +kernel
theorem dL_state_18 : decode cL_state 18 = .ok (.ireturn, 1) := by decide +kernel
theorem dL_classOf_0 : decode cL_classOf 0 = .ok (.aload_n 3, 1) := by decide +kernel
theorem dL_classOf_1 : decode cL_classOf 1 = .ok (.iconst 0, 1) := by decide +kernel
theorem dL_classOf_2 : decode cL_classOf 2 = .ok (.aload_n 0, 1) := by decide +kernel
theorem dL_classOf_3 : decode cL_classOf 3 = .ok (.iload_n 1, 1) := by decide +kernel
theorem dL_classOf_4 : decode cL_classOf 4 = .ok (.iload_n 2, 1) := by decide +kernel
theorem dL_classOf_5 : decode cL_classOf 5 = .ok (.invokevirtual 59, 3) := by decide +kernel
theorem dL_classOf_8 : decode cL_classOf 8 = .ok (.i2l, 1) := by decide +kernel
theorem dL_classOf_9 : decode cL_classOf 9 = .ok (.lastore, 1) := by decide +kernel
theorem dL_classOf_10 : decode cL_classOf 10 = .ok (.goto 7, 3) := by decide +kernel
theorem dL_classOf_13 : decode cL_classOf 13 = .ok (.astore 4, 2) := by decide +kernel
theorem dL_classOf_15 : decode cL_classOf 15 = .ok (.iconst 1, 1) := by decide +kernel
theorem dL_classOf_16 : decode cL_classOf 16 = .ok (.ireturn, 1) := by decide +kernel
theorem dL_classOf_17 : decode cL_classOf 17 = .ok (.iconst 0, 1) := by decide +kernel
theorem dL_classOf_18 : decode cL_classOf 18 = .ok (.ireturn, 1) := by decide +kernel
theorem dL_enteredOn_0 : decode cL_enteredOn 0 = .ok (.aload_n 3, 1) := by decide +kernel
theorem dL_enteredOn_1 : decode cL_enteredOn 1 = .ok (.iconst 0, 1) := by decide +kernel
theorem dL_enteredOn_2 : decode cL_enteredOn 2 = .ok (.aload_n 0, 1) := by decide +kernel
theorem dL_enteredOn_3 : decode cL_enteredOn 3 = .ok (.iload_n 1, 1) := by decide +kernel
theorem dL_enteredOn_4 : decode cL_enteredOn 4 = .ok (.iload_n 2, 1) := by decide +kernel
theorem dL_enteredOn_5 : decode cL_enteredOn 5 = .ok (.invokevirtual 62, 3) := by decide +kernel
theorem dL_enteredOn_8 : decode cL_enteredOn 8 = .ok (.i2l, 1) := by decide +kernel
theorem dL_enteredOn_9 : decode cL_enteredOn 9 = .ok (.lastore, 1) := by decide +kernel
theorem dL_enteredOn_10 : decode cL_enteredOn 10 = .ok (.goto 7, 3) := by decide +kernel
theorem dL_enteredOn_13 : decode cL_enteredOn 13 = .ok (.astore 4, 2) := by decide +kernel
theorem dL_enteredOn_15 : decode cL_enteredOn 15 = .ok (.iconst 1, 1) := by decide +kernel
theorem dL_enteredOn_16 : decode cL_enteredOn 16 = .ok (.ireturn, 1) := by decide +kernel
theorem dL_enteredOn_17 : decode cL_enteredOn 17 = .ok (.iconst 0, 1) := by decide +kernel
theorem dL_enteredOn_18 : decode cL_enteredOn 18 = .ok (.ireturn, 1) := by decide +kernel
theorem dL_expiresOn_0 : decode cL_expiresOn 0 = .ok (.aload_n 3, 1) := by decide +kernel
theorem dL_expiresOn_1 : decode cL_expiresOn 1 = .ok (.iconst 0, 1) := by decide +kernel
theorem dL_expiresOn_2 : decode cL_expiresOn 2 = .ok (.aload_n 0, 1) := by decide +kernel
theorem dL_expiresOn_3 : decode cL_expiresOn 3 = .ok (.iload_n 1, 1) := by decide +kernel
theorem dL_expiresOn_4 : decode cL_expiresOn 4 = .ok (.iload_n 2, 1) := by decide +kernel
theorem dL_expiresOn_5 : decode cL_expiresOn 5 = .ok (.invokevirtual 65, 3) := by decide +kernel
theorem dL_expiresOn_8 : decode cL_expiresOn 8 = .ok (.i2l, 1) := by decide +kernel
theorem dL_expiresOn_9 : decode cL_expiresOn 9 = .ok (.lastore, 1) := by decide +kernel
theorem dL_expiresOn_10 : decode cL_expiresOn 10 = .ok (.goto 7, 3) := by decide +kernel
theorem dL_expiresOn_13 : decode cL_expiresOn 13 = .ok (.astore 4, 2) := by decide +kernel
theorem dL_expiresOn_15 : decode cL_expiresOn 15 = .ok (.iconst 1, 1) := by decide +kernel
theorem dL_expiresOn_16 : decode cL_expiresOn 16 = .ok (.ireturn, 1) := by decide +kernel
theorem dL_expiresOn_17 : decode cL_expiresOn 17 = .ok (.iconst 0, 1) := by decide +kernel
theorem dL_expiresOn_18 : decode cL_expiresOn 18 = .ok (.ireturn, 1) := by decide +kernel
theorem dL_isKept_0 : decode cL_isKept 0 = .ok (.aload_n 3, 1) := by decide +kernel
theorem dL_isKept_1 : decode cL_isKept 1 = .ok (.iconst 0, 1) := by decide +kernel
theorem dL_isKept_2 : decode cL_isKept 2 = .ok (.aload_n 0, 1) := by decide +kernel
theorem dL_isKept_3 : decode cL_isKept 3 = .ok (.iload_n 1, 1) := by decide +kernel
theorem dL_isKept_4 : decode cL_isKept 4 = .ok (.iload_n 2, 1) := by decide +kernel
theorem dL_isKept_5 : decode cL_isKept 5 = .ok (.invokevirtual 68, 3) := by decide +kernel
theorem dL_isKept_8 : decode cL_isKept 8 = .ok (.ifCond .eq 7, 3) := by decide +kernel
theorem dL_isKept_11 : decode cL_isKept 11 = .ok (.lconst 1, 1) := by decide +kernel
theorem dL_isKept_12 : decode cL_isKept 12 = .ok (.goto 4, 3) := by decide +kernel
theorem dL_isKept_15 : decode cL_isKept 15 = .ok (.lconst 0, 1) := by decide +kernel
theorem dL_isKept_16 : decode cL_isKept 16 = .ok (.lastore, 1) := by decide +kernel
theorem dL_isKept_17 : decode cL_isKept 17 = .ok (.goto 7, 3) := by decide +kernel
theorem dL_isKept_20 : decode cL_isKept 20 = .ok (.astore 4, 2) := by decide +kernel
theorem dL_isKept_22 : decode cL_isKept 22 = .ok (.iconst 1, 1) := by decide +kernel
theorem dL_isKept_23 : decode cL_isKept 23 = .ok (.ireturn, 1) := by decide +kernel
theorem dL_isKept_24 : decode cL_isKept 24 = .ok (.iconst 0, 1) := by decide +kernel
theorem dL_isKept_25 : decode cL_isKept 25 = .ok (.ireturn, 1) := by decide +kernel
theorem dL_holdsOn_0 : decode cL_holdsOn 0 = .ok (.aload_n 3, 1) := by decide +kernel
theorem dL_holdsOn_1 : decode cL_holdsOn 1 = .ok (.iconst 0, 1) := by decide +kernel
theorem dL_holdsOn_2 : decode cL_holdsOn 2 = .ok (.aload_n 0, 1) := by decide +kernel
theorem dL_holdsOn_3 : decode cL_holdsOn 3 = .ok (.iload_n 1, 1) := by decide +kernel
theorem dL_holdsOn_4 : decode cL_holdsOn 4 = .ok (.iload_n 2, 1) := by decide +kernel
theorem dL_holdsOn_5 : decode cL_holdsOn 5 = .ok (.invokevirtual 72, 3) := by decide +kernel
theorem dL_holdsOn_8 : decode cL_holdsOn 8 = .ok (.i2l, 1) := by decide +kernel
theorem dL_holdsOn_9 : decode cL_holdsOn 9 = .ok (.lastore, 1) := by decide +kernel
theorem dL_holdsOn_10 : decode cL_holdsOn 10 = .ok (.goto 7, 3) := by decide +kernel
theorem dL_holdsOn_13 : decode cL_holdsOn 13 = .ok (.astore 4, 2) := by decide +kernel
theorem dL_holdsOn_15 : decode cL_holdsOn 15 = .ok (.iconst 1, 1) := by decide +kernel
theorem dL_holdsOn_16 : decode cL_holdsOn 16 = .ok (.ireturn, 1) := by decide +kernel
theorem dL_holdsOn_17 : decode cL_holdsOn 17 = .ok (.iconst 0, 1) := by decide +kernel
theorem dL_holdsOn_18 : decode cL_holdsOn 18 = .ok (.ireturn, 1) := by decide +kernel
theorem dL_storedPart_0 : decode cL_storedPart 0 = .ok (.aload_n 2, 1) := by decide +kernel
theorem dL_storedPart_1 : decode cL_storedPart 1 = .ok (.iconst 0, 1) := by decide +kernel
theorem dL_storedPart_2 : decode cL_storedPart 2 = .ok (.aload_n 0, 1) := by decide +kernel
theorem dL_storedPart_3 : decode cL_storedPart 3 = .ok (.iload_n 1, 1) := by decide +kernel
theorem dL_storedPart_4 : decode cL_storedPart 4 = .ok (.invokevirtual 75, 3) := by decide +kernel
theorem dL_storedPart_7 : decode cL_storedPart 7 = .ok (.i2l, 1) := by decide +kernel
theorem dL_storedPart_8 : decode cL_storedPart 8 = .ok (.lastore, 1) := by decide +kernel
theorem dL_storedPart_9 : decode cL_storedPart 9 = .ok (.goto 6, 3) := by decide +kernel
theorem dL_storedPart_12 : decode cL_storedPart 12 = .ok (.astore_n 3, 1) := by decide +kernel
theorem dL_storedPart_13 : decode cL_storedPart 13 = .ok (.iconst 1, 1) := by decide +kernel
theorem dL_storedPart_14 : decode cL_storedPart 14 = .ok (.ireturn, 1) := by decide +kernel
theorem dL_storedPart_15 : decode cL_storedPart 15 = .ok (.iconst 0, 1) := by decide +kernel
theorem dL_storedPart_16 : decode cL_storedPart 16 = .ok (.ireturn, 1) := by decide +kernel
theorem dL_part_0 : decode cL_part 0 = .ok (.aload_n 3, 1) := by decide +kernel
theorem dL_part_1 : decode cL_part 1 = .ok (.iconst 0, 1) := by decide +kernel
theorem dL_part_2 : decode cL_part 2 = .ok (.aload_n 0, 1) := by decide +kernel
theorem dL_part_3 : decode cL_part 3 = .ok (.iload_n 1, 1) := by decide +kernel
theorem dL_part_4 : decode cL_part 4 = .ok (.iload_n 2, 1) := by decide +kernel
theorem dL_part_5 : decode cL_part 5 = .ok (.invokevirtual 78, 3) := by decide +kernel
theorem dL_part_8 : decode cL_part 8 = .ok (.i2l, 1) := by decide +kernel
theorem dL_part_9 : decode cL_part 9 = .ok (.lastore, 1) := by decide +kernel
theorem dL_part_10 : decode cL_part 10 = .ok (.goto 11, 3) := by decide +kernel
theorem dL_part_13 : decode cL_part 13 = .ok (.astore 4, 2) := by decide +kernel
theorem dL_part_15 : decode cL_part 15 = .ok (.iconst 1, 1) := by decide +kernel
theorem dL_part_16 : decode cL_part 16 = .ok (.ireturn, 1) := by decide +kernel
theorem dL_part_17 : decode cL_part 17 = .ok (.astore 4, 2) := by decide +kernel
theorem dL_part_19 : decode cL_part 19 = .ok (.iconst 2, 1) := by decide +kernel
theorem dL_part_20 : decode cL_part 20 = .ok (.ireturn, 1) := by decide +kernel
theorem dL_part_21 : decode cL_part 21 = .ok (.iconst 0, 1) := by decide +kernel
theorem dL_part_22 : decode cL_part 22 = .ok (.ireturn, 1) := by decide +kernel
theorem dL_partByte_0 : decode cL_partByte 0 = .ok (.aload_n 3, 1) := by decide +kernel
theorem dL_partByte_1 : decode cL_partByte 1 = .ok (.iconst 0, 1) := by decide +kernel
theorem dL_partByte_2 : decode cL_partByte 2 = .ok (.aload_n 0, 1) := by decide +kernel
theorem dL_partByte_3 : decode cL_partByte 3 = .ok (.iload_n 1, 1) := by decide +kernel
theorem dL_partByte_4 : decode cL_partByte 4 = .ok (.iload_n 2, 1) := by decide +kernel
theorem dL_partByte_5 : decode cL_partByte 5 = .ok (.invokevirtual 81, 3) := by decide +kernel
theorem dL_partByte_8 : decode cL_partByte 8 = .ok (.i2l, 1) := by decide +kernel
theorem dL_partByte_9 : decode cL_partByte 9 = .ok (.lastore, 1) := by decide +kernel
theorem dL_partByte_10 : decode cL_partByte 10 = .ok (.goto 11, 3) := by decide +kernel
theorem dL_partByte_13 : decode cL_partByte 13 = .ok (.astore 4, 2) := by decide +kernel
theorem dL_partByte_15 : decode cL_partByte 15 = .ok (.iconst 1, 1) := by decide +kernel
theorem dL_partByte_16 : decode cL_partByte 16 = .ok (.ireturn, 1) := by decide +kernel
theorem dL_partByte_17 : decode cL_partByte 17 = .ok (.astore 4, 2) := by decide +kernel
theorem dL_partByte_19 : decode cL_partByte 19 = .ok (.iconst 2, 1) := by decide +kernel
theorem dL_partByte_20 : decode cL_partByte 20 = .ok (.ireturn, 1) := by decide +kernel
theorem dL_partByte_21 : decode cL_partByte 21 = .ok (.iconst 0, 1) := by decide +kernel
theorem dL_partByte_22 : decode cL_partByte 22 = .ok (.ireturn, 1) := by decide +kernel
theorem dL_digest_0 : decode cL_digest 0 = .ok (.aload_n 2, 1) := by decide +kernel
theorem dL_digest_1 : decode cL_digest 1 = .ok (.iconst 0, 1) := by decide +kernel
theorem dL_digest_2 : decode cL_digest 2 = .ok (.aload_n 0, 1) := by decide +kernel
theorem dL_digest_3 : decode cL_digest 3 = .ok (.iload_n 1, 1) := by decide +kernel
theorem dL_digest_4 : decode cL_digest 4 = .ok (.invokevirtual 86, 3) := by decide +kernel
theorem dL_digest_7 : decode cL_digest 7 = .ok (.lastore, 1) := by decide +kernel
theorem dL_digest_8 : decode cL_digest 8 = .ok (.goto 6, 3) := by decide +kernel
theorem dL_digest_11 : decode cL_digest 11 = .ok (.astore_n 3, 1) := by decide +kernel
theorem dL_digest_12 : decode cL_digest 12 = .ok (.iconst 1, 1) := by decide +kernel
theorem dL_digest_13 : decode cL_digest 13 = .ok (.ireturn, 1) := by decide +kernel
theorem dL_digest_14 : decode cL_digest 14 = .ok (.iconst 0, 1) := by decide +kernel
theorem dL_digest_15 : decode cL_digest 15 = .ok (.ireturn, 1) := by decide +kernel
theorem dL_usage_0 : decode cL_usage 0 = .ok (.aload_n 2, 1) := by decide +kernel
theorem dL_usage_1 : decode cL_usage 1 = .ok (.iconst 0, 1) := by decide +kernel
theorem dL_usage_2 : decode cL_usage 2 = .ok (.aload_n 0, 1) := by decide +kernel
theorem dL_usage_3 : decode cL_usage 3 = .ok (.iload_n 1, 1) := by decide +kernel
theorem dL_usage_4 : decode cL_usage 4 = .ok (.invokevirtual 90, 3) := by decide +kernel
theorem dL_usage_7 : decode cL_usage 7 = .ok (.i2l, 1) := by decide +kernel
theorem dL_usage_8 : decode cL_usage 8 = .ok (.lastore, 1) := by decide +kernel
theorem dL_usage_9 : decode cL_usage 9 = .ok (.goto 6, 3) := by decide +kernel
theorem dL_usage_12 : decode cL_usage 12 = .ok (.astore_n 3, 1) := by decide +kernel
theorem dL_usage_13 : decode cL_usage 13 = .ok (.iconst 1, 1) := by decide +kernel
theorem dL_usage_14 : decode cL_usage 14 = .ok (.ireturn, 1) := by decide +kernel
theorem dL_usage_15 : decode cL_usage 15 = .ok (.iconst 0, 1) := by decide +kernel
theorem dL_usage_16 : decode cL_usage 16 = .ok (.ireturn, 1) := by decide +kernel
theorem dL_quota_0 : decode cL_quota 0 = .ok (.aload_n 2, 1) := by decide +kernel
theorem dL_quota_1 : decode cL_quota 1 = .ok (.iconst 0, 1) := by decide +kernel
theorem dL_quota_2 : decode cL_quota 2 = .ok (.aload_n 0, 1) := by decide +kernel
theorem dL_quota_3 : decode cL_quota 3 = .ok (.iload_n 1, 1) := by decide +kernel
theorem dL_quota_4 : decode cL_quota 4 = .ok (.invokevirtual 93, 3) := by decide +kernel
theorem dL_quota_7 : decode cL_quota 7 = .ok (.i2l, 1) := by decide +kernel
theorem dL_quota_8 : decode cL_quota 8 = .ok (.lastore, 1) := by decide +kernel
theorem dL_quota_9 : decode cL_quota 9 = .ok (.goto 6, 3) := by decide +kernel
theorem dL_quota_12 : decode cL_quota 12 = .ok (.astore_n 3, 1) := by decide +kernel
theorem dL_quota_13 : decode cL_quota 13 = .ok (.iconst 1, 1) := by decide +kernel
theorem dL_quota_14 : decode cL_quota 14 = .ok (.ireturn, 1) := by decide +kernel
theorem dL_quota_15 : decode cL_quota 15 = .ok (.iconst 0, 1) := by decide +kernel
theorem dL_quota_16 : decode cL_quota 16 = .ok (.ireturn, 1) := by decide +kernel
theorem dL_fairShare_0 : decode cL_fairShare 0 = .ok (.aload_n 2, 1) := by decide +kernel
theorem dL_fairShare_1 : decode cL_fairShare 1 = .ok (.iconst 0, 1) := by decide +kernel
theorem dL_fairShare_2 : decode cL_fairShare 2 = .ok (.aload_n 0, 1) := by decide +kernel
theorem dL_fairShare_3 : decode cL_fairShare 3 = .ok (.iload_n 1, 1) := by decide +kernel
theorem dL_fairShare_4 : decode cL_fairShare 4 = .ok (.invokevirtual 96, 3) := by decide +kernel
theorem dL_fairShare_7 : decode cL_fairShare 7 = .ok (.dastore, 1) := by decide +kernel
theorem dL_fairShare_8 : decode cL_fairShare 8 = .ok (.goto 6, 3) := by decide +kernel
theorem dL_fairShare_11 : decode cL_fairShare 11 = .ok (.astore_n 3, 1) := by decide +kernel
theorem dL_fairShare_12 : decode cL_fairShare 12 = .ok (.iconst 1, 1) := by decide +kernel
theorem dL_fairShare_13 : decode cL_fairShare 13 = .ok (.ireturn, 1) := by decide +kernel
theorem dL_fairShare_14 : decode cL_fairShare 14 = .ok (.iconst 0, 1) := by decide +kernel
theorem dL_fairShare_15 : decode cL_fairShare 15 = .ok (.ireturn, 1) := by decide +kernel
theorem dL_inClass_0 : decode cL_inClass 0 = .ok (.aload_n 3, 1) := by decide +kernel
theorem dL_inClass_1 : decode cL_inClass 1 = .ok (.iconst 0, 1) := by decide +kernel
theorem dL_inClass_2 : decode cL_inClass 2 = .ok (.aload_n 0, 1) := by decide +kernel
theorem dL_inClass_3 : decode cL_inClass 3 = .ok (.iload_n 1, 1) := by decide +kernel
theorem dL_inClass_4 : decode cL_inClass 4 = .ok (.iload_n 2, 1) := by decide +kernel
theorem dL_inClass_5 : decode cL_inClass 5 = .ok (.invokevirtual 100, 3) := by decide +kernel
theorem dL_inClass_8 : decode cL_inClass 8 = .ok (.i2l, 1) := by decide +kernel
theorem dL_inClass_9 : decode cL_inClass 9 = .ok (.lastore, 1) := by decide +kernel
theorem dL_inClass_10 : decode cL_inClass 10 = .ok (.goto 7, 3) := by decide +kernel
theorem dL_inClass_13 : decode cL_inClass 13 = .ok (.astore 4, 2) := by decide +kernel
theorem dL_inClass_15 : decode cL_inClass 15 = .ok (.iconst 1, 1) := by decide +kernel
theorem dL_inClass_16 : decode cL_inClass 16 = .ok (.ireturn, 1) := by decide +kernel
theorem dL_inClass_17 : decode cL_inClass 17 = .ok (.iconst 0, 1) := by decide +kernel
theorem dL_inClass_18 : decode cL_inClass 18 = .ok (.ireturn, 1) := by decide +kernel
theorem dL_matches_0 : decode cL_matches 0 = .ok (.aload_n 2, 1) := by decide +kernel
theorem dL_matches_1 : decode cL_matches 1 = .ok (.iconst 0, 1) := by decide +kernel
theorem dL_matches_2 : decode cL_matches 2 = .ok (.aload_n 0, 1) := by decide +kernel
theorem dL_matches_3 : decode cL_matches 3 = .ok (.iload_n 1, 1) := by decide +kernel
theorem dL_matches_4 : decode cL_matches 4 = .ok (.invokevirtual 103, 3) := by decide +kernel
theorem dL_matches_7 : decode cL_matches 7 = .ok (.i2l, 1) := by decide +kernel
theorem dL_matches_8 : decode cL_matches 8 = .ok (.lastore, 1) := by decide +kernel
theorem dL_matches_9 : decode cL_matches 9 = .ok (.goto 9, 3) := by decide +kernel
theorem dL_matches_12 : decode cL_matches 12 = .ok (.astore_n 3, 1) := by decide +kernel
theorem dL_matches_13 : decode cL_matches 13 = .ok (.iconst 1, 1) := by decide +kernel
theorem dL_matches_14 : decode cL_matches 14 = .ok (.ireturn, 1) := by decide +kernel
theorem dL_matches_15 : decode cL_matches 15 = .ok (.astore_n 3, 1) := by decide +kernel
theorem dL_matches_16 : decode cL_matches 16 = .ok (.iconst 2, 1) := by decide +kernel
theorem dL_matches_17 : decode cL_matches 17 = .ok (.ireturn, 1) := by decide +kernel
theorem dL_matches_18 : decode cL_matches 18 = .ok (.iconst 0, 1) := by decide +kernel
theorem dL_matches_19 : decode cL_matches 19 = .ok (.ireturn, 1) := by decide +kernel
theorem dL_commonBytes_0 : decode cL_commonBytes 0 = .ok (.aload_n 3, 1) := by decide +kernel
theorem dL_commonBytes_1 : decode cL_commonBytes 1 = .ok (.iconst 0, 1) := by decide +kernel
theorem dL_commonBytes_2 : decode cL_commonBytes 2 = .ok (.aload_n 0, 1) := by decide +kernel
theorem dL_commonBytes_3 : decode cL_commonBytes 3 = .ok (.iload_n 1, 1) := by decide +kernel
theorem dL_commonBytes_4 : decode cL_commonBytes 4 = .ok (.iload_n 2, 1) := by decide +kernel
theorem dL_commonBytes_5 : decode cL_commonBytes 5 = .ok (.invokevirtual 106, 3) := by decide +kernel
theorem dL_commonBytes_8 : decode cL_commonBytes 8 = .ok (.i2l, 1) := by decide +kernel
theorem dL_commonBytes_9 : decode cL_commonBytes 9 = .ok (.lastore, 1) := by decide +kernel
theorem dL_commonBytes_10 : decode cL_commonBytes 10 = .ok (.goto 7, 3) := by decide +kernel
theorem dL_commonBytes_13 : decode cL_commonBytes 13 = .ok (.astore 4, 2) := by decide +kernel
theorem dL_commonBytes_15 : decode cL_commonBytes 15 = .ok (.iconst 1, 1) := by decide +kernel
theorem dL_commonBytes_16 : decode cL_commonBytes 16 = .ok (.ireturn, 1) := by decide +kernel
theorem dL_commonBytes_17 : decode cL_commonBytes 17 = .ok (.iconst 0, 1) := by decide +kernel
theorem dL_commonBytes_18 : decode cL_commonBytes 18 = .ok (.ireturn, 1) := by decide +kernel
theorem dL_file_0 : decode cL_file 0 = .ok (.aload 4, 2) := by decide +kernel
theorem dL_file_2 : decode cL_file 2 = .ok (.iconst 0, 1) := by decide +kernel
theorem dL_file_3 : decode cL_file 3 = .ok (.aload_n 0, 1) := by decide +kernel
theorem dL_file_4 : decode cL_file 4 = .ok (.iload_n 1, 1) := by decide +kernel
theorem dL_file_5 : decode cL_file 5 = .ok (.iload_n 2, 1) := by decide +kernel
theorem dL_file_6 : decode cL_file 6 = .ok (.iload_n 3, 1) := by decide +kernel
theorem dL_file_7 : decode cL_file 7 = .ok (.invokevirtual 109, 3) := by decide +kernel
theorem dL_file_10 : decode cL_file 10 = .ok (.i2l, 1) := by decide +kernel
theorem dL_file_11 : decode cL_file 11 = .ok (.lastore, 1) := by decide +kernel
theorem dL_file_12 : decode cL_file 12 = .ok (.goto 11, 3) := by decide +kernel
theorem dL_file_15 : decode cL_file 15 = .ok (.astore 5, 2) := by decide +kernel
theorem dL_file_17 : decode cL_file 17 = .ok (.iconst 1, 1) := by decide +kernel
theorem dL_file_18 : decode cL_file 18 = .ok (.ireturn, 1) := by decide +kernel
theorem dL_file_19 : decode cL_file 19 = .ok (.astore 5, 2) := by decide +kernel
theorem dL_file_21 : decode cL_file 21 = .ok (.iconst 2, 1) := by decide +kernel
theorem dL_file_22 : decode cL_file 22 = .ok (.ireturn, 1) := by decide +kernel
theorem dL_file_23 : decode cL_file 23 = .ok (.iconst 0, 1) := by decide +kernel
theorem dL_file_24 : decode cL_file 24 = .ok (.ireturn, 1) := by decide +kernel
theorem dL_delete_0 : decode cL_delete 0 = .ok (.aload_n 3, 1) := by decide +kernel
theorem dL_delete_1 : decode cL_delete 1 = .ok (.iconst 0, 1) := by decide +kernel
theorem dL_delete_2 : decode cL_delete 2 = .ok (.aload_n 0, 1) := by decide +kernel
theorem dL_delete_3 : decode cL_delete 3 = .ok (.iload_n 1, 1) := by decide +kernel
theorem dL_delete_4 : decode cL_delete 4 = .ok (.iload_n 2, 1) := by decide +kernel
theorem dL_delete_5 : decode cL_delete 5 = .ok (.invokevirtual 112, 3) := by decide +kernel
theorem dL_delete_8 : decode cL_delete 8 = .ok (.i2l, 1) := by decide +kernel
theorem dL_delete_9 : decode cL_delete 9 = .ok (.lastore, 1) := by decide +kernel
theorem dL_delete_10 : decode cL_delete 10 = .ok (.goto 11, 3) := by decide +kernel
theorem dL_delete_13 : decode cL_delete 13 = .ok (.astore 4, 2) := by decide +kernel
theorem dL_delete_15 : decode cL_delete 15 = .ok (.iconst 1, 1) := by decide +kernel
theorem dL_delete_16 : decode cL_delete 16 = .ok (.ireturn, 1) := by decide +kernel
theorem dL_delete_17 : decode cL_delete 17 = .ok (.astore 4, 2) := by decide +kernel
theorem dL_delete_19 : decode cL_delete 19 = .ok (.iconst 2, 1) := by decide +kernel
theorem dL_delete_20 : decode cL_delete 20 = .ok (.ireturn, 1) := by decide +kernel
theorem dL_delete_21 : decode cL_delete 21 = .ok (.iconst 0, 1) := by decide +kernel
theorem dL_delete_22 : decode cL_delete 22 = .ok (.ireturn, 1) := by decide +kernel
theorem dL_recover_0 : decode cL_recover 0 = .ok (.aload_n 3, 1) := by decide +kernel
theorem dL_recover_1 : decode cL_recover 1 = .ok (.iconst 0, 1) := by decide +kernel
theorem dL_recover_2 : decode cL_recover 2 = .ok (.aload_n 0, 1) := by decide +kernel
theorem dL_recover_3 : decode cL_recover 3 = .ok (.iload_n 1, 1) := by decide +kernel
theorem dL_recover_4 : decode cL_recover 4 = .ok (.iload_n 2, 1) := by decide +kernel
theorem dL_recover_5 : decode cL_recover 5 = .ok (.invokevirtual 115, 3) := by decide +kernel
theorem dL_recover_8 : decode cL_recover 8 = .ok (.i2l, 1) := by decide +kernel
theorem dL_recover_9 : decode cL_recover 9 = .ok (.lastore, 1) := by decide +kernel
theorem dL_recover_10 : decode cL_recover 10 = .ok (.goto 11, 3) := by decide +kernel
theorem dL_recover_13 : decode cL_recover 13 = .ok (.astore 4, 2) := by decide +kernel
theorem dL_recover_15 : decode cL_recover 15 = .ok (.iconst 1, 1) := by decide +kernel
theorem dL_recover_16 : decode cL_recover 16 = .ok (.ireturn, 1) := by decide +kernel
theorem dL_recover_17 : decode cL_recover 17 = .ok (.astore 4, 2) := by decide +kernel
theorem dL_recover_19 : decode cL_recover 19 = .ok (.iconst 2, 1) := by decide +kernel
theorem dL_recover_20 : decode cL_recover 20 = .ok (.ireturn, 1) := by decide +kernel
theorem dL_recover_21 : decode cL_recover 21 = .ok (.iconst 0, 1) := by decide +kernel
theorem dL_recover_22 : decode cL_recover 22 = .ok (.ireturn, 1) := by decide +kernel
theorem dL_isActive_0 : decode cL_isActive 0 = .ok (.aload_n 2, 1) := by decide +kernel
theorem dL_isActive_1 : decode cL_isActive 1 = .ok (.iconst 0, 1) := by decide +kernel
theorem dL_isActive_2 : decode cL_isActive 2 = .ok (.aload_n 0, 1) := by decide +kernel
theorem dL_isActive_3 : decode cL_isActive 3 = .ok (.iload_n 1, 1) := by decide +kernel
theorem dL_isActive_4 : decode cL_isActive 4 = .ok (.invokevirtual 118, 3) := by decide +kernel
theorem dL_isActive_7 : decode cL_isActive 7 = .ok (.ifCond .eq 7, 3) := by decide +kernel
theorem dL_isActive_10 : decode cL_isActive 10 = .ok (.lconst 1, 1) := by decide +kernel
theorem dL_isActive_11 : decode cL_isActive 11 = .ok (.goto 4, 3) := by decide +kernel
theorem dL_isActive_14 : decode cL_isActive 14 = .ok (.lconst 0, 1) := by decide +kernel
theorem dL_isActive_15 : decode cL_isActive 15 = .ok (.lastore, 1) := by decide +kernel
theorem dL_isActive_16 : decode cL_isActive 16 = .ok (.goto 6, 3) := by decide +kernel
theorem dL_isActive_19 : decode cL_isActive 19 = .ok (.astore_n 3, 1) := by decide +kernel
theorem dL_isActive_20 : decode cL_isActive 20 = .ok (.iconst 1, 1) := by decide +kernel
theorem dL_isActive_21 : decode cL_isActive 21 = .ok (.ireturn, 1) := by decide +kernel
theorem dL_isActive_22 : decode cL_isActive 22 = .ok (.iconst 0, 1) := by decide +kernel
theorem dL_isActive_23 : decode cL_isActive 23 = .ok (.ireturn, 1) := by decide +kernel
theorem dL_setHold_0 : decode cL_setHold 0 = .ok (.aload_n 3, 1) := by decide +kernel
theorem dL_setHold_1 : decode cL_setHold 1 = .ok (.iconst 0, 1) := by decide +kernel
theorem dL_setHold_2 : decode cL_setHold 2 = .ok (.aload_n 0, 1) := by decide +kernel
theorem dL_setHold_3 : decode cL_setHold 3 = .ok (.iload_n 1, 1) := by decide +kernel
theorem dL_setHold_4 : decode cL_setHold 4 = .ok (.iload_n 2, 1) := by decide +kernel
theorem dL_setHold_5 : decode cL_setHold 5 = .ok (.invokevirtual 122, 3) := by decide +kernel
theorem dL_setHold_8 : decode cL_setHold 8 = .ok (.i2l, 1) := by decide +kernel
theorem dL_setHold_9 : decode cL_setHold 9 = .ok (.lastore, 1) := by decide +kernel
theorem dL_setHold_10 : decode cL_setHold 10 = .ok (.goto 7, 3) := by decide +kernel
theorem dL_setHold_13 : decode cL_setHold 13 = .ok (.astore 4, 2) := by decide +kernel
theorem dL_setHold_15 : decode cL_setHold 15 = .ok (.iconst 1, 1) := by decide +kernel
theorem dL_setHold_16 : decode cL_setHold 16 = .ok (.ireturn, 1) := by decide +kernel
theorem dL_setHold_17 : decode cL_setHold 17 = .ok (.iconst 0, 1) := by decide +kernel
theorem dL_setHold_18 : decode cL_setHold 18 = .ok (.ireturn, 1) := by decide +kernel
theorem dL_heldOnlyBy_0 : decode cL_heldOnlyBy 0 = .ok (.aload_n 2, 1) := by decide +kernel
theorem dL_heldOnlyBy_1 : decode cL_heldOnlyBy 1 = .ok (.iconst 0, 1) := by decide +kernel
theorem dL_heldOnlyBy_2 : decode cL_heldOnlyBy 2 = .ok (.aload_n 0, 1) := by decide +kernel
theorem dL_heldOnlyBy_3 : decode cL_heldOnlyBy 3 = .ok (.iload_n 1, 1) := by decide +kernel
theorem dL_heldOnlyBy_4 : decode cL_heldOnlyBy 4 = .ok (.invokevirtual 126, 3) := by decide +kernel
theorem dL_heldOnlyBy_7 : decode cL_heldOnlyBy 7 = .ok (.i2l, 1) := by decide +kernel
theorem dL_heldOnlyBy_8 : decode cL_heldOnlyBy 8 = .ok (.lastore, 1) := by decide +kernel
theorem dL_heldOnlyBy_9 : decode cL_heldOnlyBy 9 = .ok (.goto 6, 3) := by decide +kernel
theorem dL_heldOnlyBy_12 : decode cL_heldOnlyBy 12 = .ok (.astore_n 3, 1) := by decide +kernel
theorem dL_heldOnlyBy_13 : decode cL_heldOnlyBy 13 = .ok (.iconst 1, 1) := by decide +kernel
theorem dL_heldOnlyBy_14 : decode cL_heldOnlyBy 14 = .ok (.ireturn, 1) := by decide +kernel
theorem dL_heldOnlyBy_15 : decode cL_heldOnlyBy 15 = .ok (.iconst 0, 1) := by decide +kernel
theorem dL_heldOnlyBy_16 : decode cL_heldOnlyBy 16 = .ok (.ireturn, 1) := by decide +kernel
theorem dL_setQuota_0 : decode cL_setQuota 0 = .ok (.aload_n 3, 1) := by decide +kernel
theorem dL_setQuota_1 : decode cL_setQuota 1 = .ok (.iconst 0, 1) := by decide +kernel
theorem dL_setQuota_2 : decode cL_setQuota 2 = .ok (.aload_n 0, 1) := by decide +kernel
theorem dL_setQuota_3 : decode cL_setQuota 3 = .ok (.iload_n 1, 1) := by decide +kernel
theorem dL_setQuota_4 : decode cL_setQuota 4 = .ok (.iload_n 2, 1) := by decide +kernel
theorem dL_setQuota_5 : decode cL_setQuota 5 = .ok (.invokevirtual 129, 3) := by decide +kernel
theorem dL_setQuota_8 : decode cL_setQuota 8 = .ok (.i2l, 1) := by decide +kernel
theorem dL_setQuota_9 : decode cL_setQuota 9 = .ok (.lastore, 1) := by decide +kernel
theorem dL_setQuota_10 : decode cL_setQuota 10 = .ok (.goto 11, 3) := by decide +kernel
theorem dL_setQuota_13 : decode cL_setQuota 13 = .ok (.astore 4, 2) := by decide +kernel
theorem dL_setQuota_15 : decode cL_setQuota 15 = .ok (.iconst 1, 1) := by decide +kernel
theorem dL_setQuota_16 : decode cL_setQuota 16 = .ok (.ireturn, 1) := by decide +kernel
theorem dL_setQuota_17 : decode cL_setQuota 17 = .ok (.astore 4, 2) := by decide +kernel
theorem dL_setQuota_19 : decode cL_setQuota 19 = .ok (.iconst 2, 1) := by decide +kernel
theorem dL_setQuota_20 : decode cL_setQuota 20 = .ok (.ireturn, 1) := by decide +kernel
theorem dL_setQuota_21 : decode cL_setQuota 21 = .ok (.iconst 0, 1) := by decide +kernel
theorem dL_setQuota_22 : decode cL_setQuota 22 = .ok (.ireturn, 1) := by decide +kernel
theorem dL_advance_0 : decode cL_advance 0 = .ok (.aload_n 2, 1) := by decide +kernel
theorem dL_advance_1 : decode cL_advance 1 = .ok (.iconst 0, 1) := by decide +kernel
theorem dL_advance_2 : decode cL_advance 2 = .ok (.aload_n 0, 1) := by decide +kernel
theorem dL_advance_3 : decode cL_advance 3 = .ok (.iload_n 1, 1) := by decide +kernel
theorem dL_advance_4 : decode cL_advance 4 = .ok (.invokevirtual 132, 3) := by decide +kernel
theorem dL_advance_7 : decode cL_advance 7 = .ok (.i2l, 1) := by decide +kernel
theorem dL_advance_8 : decode cL_advance 8 = .ok (.lastore, 1) := by decide +kernel
theorem dL_advance_9 : decode cL_advance 9 = .ok (.goto 9, 3) := by decide +kernel
theorem dL_advance_12 : decode cL_advance 12 = .ok (.astore_n 3, 1) := by decide +kernel
theorem dL_advance_13 : decode cL_advance 13 = .ok (.iconst 1, 1) := by decide +kernel
theorem dL_advance_14 : decode cL_advance 14 = .ok (.ireturn, 1) := by decide +kernel
theorem dL_advance_15 : decode cL_advance 15 = .ok (.astore_n 3, 1) := by decide +kernel
theorem dL_advance_16 : decode cL_advance 16 = .ok (.iconst 2, 1) := by decide +kernel
theorem dL_advance_17 : decode cL_advance 17 = .ok (.ireturn, 1) := by decide +kernel
theorem dL_advance_18 : decode cL_advance 18 = .ok (.iconst 0, 1) := by decide +kernel
theorem dL_advance_19 : decode cL_advance 19 = .ok (.ireturn, 1) := by decide +kernel
theorem dL_removedOn_0 : decode cL_removedOn 0 = .ok (.aload_n 2, 1) := by decide +kernel
theorem dL_removedOn_1 : decode cL_removedOn 1 = .ok (.iconst 0, 1) := by decide +kernel
theorem dL_removedOn_2 : decode cL_removedOn 2 = .ok (.aload_n 0, 1) := by decide +kernel
theorem dL_removedOn_3 : decode cL_removedOn 3 = .ok (.iload_n 1, 1) := by decide +kernel
theorem dL_removedOn_4 : decode cL_removedOn 4 = .ok (.invokevirtual 135, 3) := by decide +kernel
theorem dL_removedOn_7 : decode cL_removedOn 7 = .ok (.i2l, 1) := by decide +kernel
theorem dL_removedOn_8 : decode cL_removedOn 8 = .ok (.lastore, 1) := by decide +kernel
theorem dL_removedOn_9 : decode cL_removedOn 9 = .ok (.goto 6, 3) := by decide +kernel
theorem dL_removedOn_12 : decode cL_removedOn 12 = .ok (.astore_n 3, 1) := by decide +kernel
theorem dL_removedOn_13 : decode cL_removedOn 13 = .ok (.iconst 1, 1) := by decide +kernel
theorem dL_removedOn_14 : decode cL_removedOn 14 = .ok (.ireturn, 1) := by decide +kernel
theorem dL_removedOn_15 : decode cL_removedOn 15 = .ok (.iconst 0, 1) := by decide +kernel
theorem dL_removedOn_16 : decode cL_removedOn 16 = .ok (.ireturn, 1) := by decide +kernel
theorem dL_bytesAfter_0 : decode cL_bytesAfter 0 = .ok (.aload_n 2, 1) := by decide +kernel
theorem dL_bytesAfter_1 : decode cL_bytesAfter 1 = .ok (.iconst 0, 1) := by decide +kernel
theorem dL_bytesAfter_2 : decode cL_bytesAfter 2 = .ok (.aload_n 0, 1) := by decide +kernel
theorem dL_bytesAfter_3 : decode cL_bytesAfter 3 = .ok (.iload_n 1, 1) := by decide +kernel
theorem dL_bytesAfter_4 : decode cL_bytesAfter 4 = .ok (.invokevirtual 138, 3) := by decide +kernel
theorem dL_bytesAfter_7 : decode cL_bytesAfter 7 = .ok (.i2l, 1) := by decide +kernel
theorem dL_bytesAfter_8 : decode cL_bytesAfter 8 = .ok (.lastore, 1) := by decide +kernel
theorem dL_bytesAfter_9 : decode cL_bytesAfter 9 = .ok (.goto 6, 3) := by decide +kernel
theorem dL_bytesAfter_12 : decode cL_bytesAfter 12 = .ok (.astore_n 3, 1) := by decide +kernel
theorem dL_bytesAfter_13 : decode cL_bytesAfter 13 = .ok (.iconst 1, 1) := by decide +kernel
theorem dL_bytesAfter_14 : decode cL_bytesAfter 14 = .ok (.ireturn, 1) := by decide +kernel
theorem dL_bytesAfter_15 : decode cL_bytesAfter 15 = .ok (.iconst 0, 1) := by decide +kernel
theorem dL_bytesAfter_16 : decode cL_bytesAfter 16 = .ok (.ireturn, 1) := by decide +kernel
theorem dL_goneAfter_0 : decode cL_goneAfter 0 = .ok (.aload_n 3, 1) := by decide +kernel
theorem dL_goneAfter_1 : decode cL_goneAfter 1 = .ok (.iconst 0, 1) := by decide +kernel
theorem dL_goneAfter_2 : decode cL_goneAfter 2 = .ok (.aload_n 0, 1) := by decide +kernel
theorem dL_goneAfter_3 : decode cL_goneAfter 3 = .ok (.iload_n 1, 1) := by decide +kernel
theorem dL_goneAfter_4 : decode cL_goneAfter 4 = .ok (.iload_n 2, 1) := by decide +kernel
theorem dL_goneAfter_5 : decode cL_goneAfter 5 = .ok (.invokevirtual 141, 3) := by decide +kernel
theorem dL_goneAfter_8 : decode cL_goneAfter 8 = .ok (.i2l, 1) := by decide +kernel
theorem dL_goneAfter_9 : decode cL_goneAfter 9 = .ok (.lastore, 1) := by decide +kernel
theorem dL_goneAfter_10 : decode cL_goneAfter 10 = .ok (.goto 11, 3) := by decide +kernel
theorem dL_goneAfter_13 : decode cL_goneAfter 13 = .ok (.astore 4, 2) := by decide +kernel
theorem dL_goneAfter_15 : decode cL_goneAfter 15 = .ok (.iconst 1, 1) := by decide +kernel
theorem dL_goneAfter_16 : decode cL_goneAfter 16 = .ok (.ireturn, 1) := by decide +kernel
theorem dL_goneAfter_17 : decode cL_goneAfter 17 = .ok (.astore 4, 2) := by decide +kernel
theorem dL_goneAfter_19 : decode cL_goneAfter 19 = .ok (.iconst 2, 1) := by decide +kernel
theorem dL_goneAfter_20 : decode cL_goneAfter 20 = .ok (.ireturn, 1) := by decide +kernel
theorem dL_goneAfter_21 : decode cL_goneAfter 21 = .ok (.iconst 0, 1) := by decide +kernel
theorem dL_goneAfter_22 : decode cL_goneAfter 22 = .ok (.ireturn, 1) := by decide +kernel
theorem dL_event_0 : decode cL_event 0 = .ok (.aload_n 3, 1) := by decide +kernel
theorem dL_event_1 : decode cL_event 1 = .ok (.iconst 0, 1) := by decide +kernel
theorem dL_event_2 : decode cL_event 2 = .ok (.aload_n 0, 1) := by decide +kernel
theorem dL_event_3 : decode cL_event 3 = .ok (.iload_n 1, 1) := by decide +kernel
theorem dL_event_4 : decode cL_event 4 = .ok (.iload_n 2, 1) := by decide +kernel
theorem dL_event_5 : decode cL_event 5 = .ok (.invokevirtual 144, 3) := by decide +kernel
theorem dL_event_8 : decode cL_event 8 = .ok (.i2l, 1) := by decide +kernel
theorem dL_event_9 : decode cL_event 9 = .ok (.lastore, 1) := by decide +kernel
theorem dL_event_10 : decode cL_event 10 = .ok (.goto 11, 3) := by decide +kernel
theorem dL_event_13 : decode cL_event 13 = .ok (.astore 4, 2) := by decide +kernel
theorem dL_event_15 : decode cL_event 15 = .ok (.iconst 1, 1) := by decide +kernel
theorem dL_event_16 : decode cL_event 16 = .ok (.ireturn, 1) := by decide +kernel
theorem dL_event_17 : decode cL_event 17 = .ok (.astore 4, 2) := by decide +kernel
theorem dL_event_19 : decode cL_event 19 = .ok (.iconst 2, 1) := by decide +kernel
theorem dL_event_20 : decode cL_event 20 = .ok (.ireturn, 1) := by decide +kernel
theorem dL_event_21 : decode cL_event 21 = .ok (.iconst 0, 1) := by decide +kernel
theorem dL_event_22 : decode cL_event 22 = .ok (.ireturn, 1) := by decide +kernel
theorem dL_eventsOf_0 : decode cL_eventsOf 0 = .ok (.aload_n 2, 1) := by decide +kernel
theorem dL_eventsOf_1 : decode cL_eventsOf 1 = .ok (.iconst 0, 1) := by decide +kernel
theorem dL_eventsOf_2 : decode cL_eventsOf 2 = .ok (.aload_n 0, 1) := by decide +kernel
theorem dL_eventsOf_3 : decode cL_eventsOf 3 = .ok (.iload_n 1, 1) := by decide +kernel
theorem dL_eventsOf_4 : decode cL_eventsOf 4 = .ok (.invokevirtual 147, 3) := by decide +kernel
theorem dL_eventsOf_7 : decode cL_eventsOf 7 = .ok (.i2l, 1) := by decide +kernel
theorem dL_eventsOf_8 : decode cL_eventsOf 8 = .ok (.lastore, 1) := by decide +kernel
theorem dL_eventsOf_9 : decode cL_eventsOf 9 = .ok (.goto 6, 3) := by decide +kernel
theorem dL_eventsOf_12 : decode cL_eventsOf 12 = .ok (.astore_n 3, 1) := by decide +kernel
theorem dL_eventsOf_13 : decode cL_eventsOf 13 = .ok (.iconst 1, 1) := by decide +kernel
theorem dL_eventsOf_14 : decode cL_eventsOf 14 = .ok (.ireturn, 1) := by decide +kernel
theorem dL_eventsOf_15 : decode cL_eventsOf 15 = .ok (.iconst 0, 1) := by decide +kernel
theorem dL_eventsOf_16 : decode cL_eventsOf 16 = .ok (.ireturn, 1) := by decide +kernel
theorem dL_undo_0 : decode cL_undo 0 = .ok (.aload_n 1, 1) := by decide +kernel
theorem dL_undo_1 : decode cL_undo 1 = .ok (.iconst 0, 1) := by decide +kernel
theorem dL_undo_2 : decode cL_undo 2 = .ok (.aload_n 0, 1) := by decide +kernel
theorem dL_undo_3 : decode cL_undo 3 = .ok (.invokevirtual 150, 3) := by decide +kernel
theorem dL_undo_6 : decode cL_undo 6 = .ok (.i2l, 1) := by decide +kernel
theorem dL_undo_7 : decode cL_undo 7 = .ok (.lastore, 1) := by decide +kernel
theorem dL_undo_8 : decode cL_undo 8 = .ok (.goto 6, 3) := by decide +kernel
theorem dL_undo_11 : decode cL_undo 11 = .ok (.astore_n 2, 1) := by decide +kernel
theorem dL_undo_12 : decode cL_undo 12 = .ok (.iconst 1, 1) := by decide +kernel
theorem dL_undo_13 : decode cL_undo 13 = .ok (.ireturn, 1) := by decide +kernel
theorem dL_undo_14 : decode cL_undo 14 = .ok (.iconst 0, 1) := by decide +kernel
theorem dL_undo_15 : decode cL_undo 15 = .ok (.ireturn, 1) := by decide +kernel
theorem dL_writeMailbox_0 : decode cL_writeMailbox 0 = .ok (.aload_n 2, 1) := by decide +kernel
theorem dL_writeMailbox_1 : decode cL_writeMailbox 1 = .ok (.iconst 0, 1) := by decide +kernel
theorem dL_writeMailbox_2 : decode cL_writeMailbox 2 = .ok (.aload_n 0, 1) := by decide +kernel
theorem dL_writeMailbox_3 : decode cL_writeMailbox 3 = .ok (.iload_n 1, 1) := by decide +kernel
theorem dL_writeMailbox_4 : decode cL_writeMailbox 4 = .ok (.invokevirtual 154, 3) := by decide +kernel
theorem dL_writeMailbox_7 : decode cL_writeMailbox 7 = .ok (.i2l, 1) := by decide +kernel
theorem dL_writeMailbox_8 : decode cL_writeMailbox 8 = .ok (.lastore, 1) := by decide +kernel
theorem dL_writeMailbox_9 : decode cL_writeMailbox 9 = .ok (.goto 6, 3) := by decide +kernel
theorem dL_writeMailbox_12 : decode cL_writeMailbox 12 = .ok (.astore_n 3, 1) := by decide +kernel
theorem dL_writeMailbox_13 : decode cL_writeMailbox 13 = .ok (.iconst 1, 1) := by decide +kernel
theorem dL_writeMailbox_14 : decode cL_writeMailbox 14 = .ok (.ireturn, 1) := by decide +kernel
theorem dL_writeMailbox_15 : decode cL_writeMailbox 15 = .ok (.iconst 0, 1) := by decide +kernel
theorem dL_writeMailbox_16 : decode cL_writeMailbox 16 = .ok (.ireturn, 1) := by decide +kernel
theorem dL_outputByte_0 : decode cL_outputByte 0 = .ok (.aload_n 2, 1) := by decide +kernel
theorem dL_outputByte_1 : decode cL_outputByte 1 = .ok (.iconst 0, 1) := by decide +kernel
theorem dL_outputByte_2 : decode cL_outputByte 2 = .ok (.aload_n 0, 1) := by decide +kernel
theorem dL_outputByte_3 : decode cL_outputByte 3 = .ok (.iload_n 1, 1) := by decide +kernel
theorem dL_outputByte_4 : decode cL_outputByte 4 = .ok (.invokevirtual 157, 3) := by decide +kernel
theorem dL_outputByte_7 : decode cL_outputByte 7 = .ok (.i2l, 1) := by decide +kernel
theorem dL_outputByte_8 : decode cL_outputByte 8 = .ok (.lastore, 1) := by decide +kernel
theorem dL_outputByte_9 : decode cL_outputByte 9 = .ok (.goto 6, 3) := by decide +kernel
theorem dL_outputByte_12 : decode cL_outputByte 12 = .ok (.astore_n 3, 1) := by decide +kernel
theorem dL_outputByte_13 : decode cL_outputByte 13 = .ok (.iconst 1, 1) := by decide +kernel
theorem dL_outputByte_14 : decode cL_outputByte 14 = .ok (.ireturn, 1) := by decide +kernel
theorem dL_outputByte_15 : decode cL_outputByte 15 = .ok (.iconst 0, 1) := by decide +kernel
theorem dL_outputByte_16 : decode cL_outputByte 16 = .ok (.ireturn, 1) := by decide +kernel
