theorem dX0_init_0 : decode cX0_init 0 = .ok (.aload_n 0, 1) := by decide +kernel
theorem dX0_init_1 : decode cX0_init 1 = .ok (.invokespecial 3, 3) := by decide +kernel
theorem dX0_init_4 : decode cX0_init 4 = .ok (.aload_n 0, 1) := by decide +kernel
theorem dX0_init_5 : decode cX0_init 5 = .ok (.iconst 0, 1) := by decide +kernel
theorem dX0_init_6 : decode cX0_init 6 = .ok (.iload_n 1, 1) := by decide +kernel
theorem dX0_init_7 : decode cX0_init 7 = .ok (.invokestatic 9, 3) := by decide +kernel
theorem dX0_init_10 : decode cX0_init 10 = .ok (.newarray .byte, 2) := by decide +kernel
theorem dX0_init_12 : decode cX0_init 12 = .ok (.putfield 15, 3) := by decide +kernel
theorem dX0_init_15 : decode cX0_init 15 = .ok (.return_, 1) := by decide +kernel
theorem dX0_byteAt_0 : decode cX0_byteAt 0 = .ok (.iload_n 1, 1) := by decide +kernel
theorem dX0_byteAt_1 : decode cX0_byteAt 1 = .ok (.ifCond .lt 33, 3) := by decide +kernel
theorem dX0_byteAt_4 : decode cX0_byteAt 4 = .ok (.iload_n 1, 1) := by decide +kernel
theorem dX0_byteAt_5 : decode cX0_byteAt 5 = .ok (.aload_n 0, 1) := by decide +kernel
theorem dX0_byteAt_6 : decode cX0_byteAt 6 = .ok (.getfield 21, 3) := by decide +kernel
theorem dX0_byteAt_9 : decode cX0_byteAt 9 = .ok (.if_icmp .ge 25, 3) := by decide +kernel
theorem dX0_byteAt_12 : decode cX0_byteAt 12 = .ok (.iload_n 1, 1) := by decide +kernel
theorem dX0_byteAt_13 : decode cX0_byteAt 13 = .ok (.aload_n 0, 1) := by decide +kernel
theorem dX0_byteAt_14 : decode cX0_byteAt 14 = .ok (.getfield 15, 3) := by decide +kernel
theorem dX0_byteAt_17 : decode cX0_byteAt 17 = .ok (.arraylength, 1) := by decide +kernel
theorem dX0_byteAt_18 : decode cX0_byteAt 18 = .ok (.if_icmp .ge 16, 3) := by decide +kernel
theorem dX0_byteAt_21 : decode cX0_byteAt 21 = .ok (.aload_n 0, 1) := by decide +kernel
theorem dX0_byteAt_22 : decode cX0_byteAt 22 = .ok (.getfield 15, 3) := by decide +kernel
theorem dX0_byteAt_25 : decode cX0_byteAt 25 = .ok (.iload_n 1, 1) := by decide +kernel
theorem dX0_byteAt_26 : decode cX0_byteAt 26 = .ok (.baload, 1) := by decide +kernel
theorem dX0_byteAt_27 : decode cX0_byteAt 27 = .ok (.sipush 255, 3) := by decide +kernel
theorem dX0_byteAt_30 : decode cX0_byteAt 30 = .ok (.iand, 1) := by decide +kernel
theorem dX0_byteAt_31 : decode cX0_byteAt 31 = .ok (.goto 4, 3) := by decide +kernel
theorem dX0_byteAt_34 : decode cX0_byteAt 34 = .ok (.iconst (-1), 1) := by decide +kernel
theorem dX0_byteAt_35 : decode cX0_byteAt 35 = .ok (.ireturn, 1) := by decide +kernel
theorem dX0_add_0 : decode cX0_add 0 = .ok (.aload_n 0, 1) := by decide +kernel
theorem dX0_add_1 : decode cX0_add 1 = .ok (.getfield 21, 3) := by decide +kernel
theorem dX0_add_4 : decode cX0_add 4 = .ok (.ifCond .lt 36, 3) := by decide +kernel
theorem dX0_add_7 : decode cX0_add 7 = .ok (.aload_n 0, 1) := by decide +kernel
theorem dX0_add_8 : decode cX0_add 8 = .ok (.getfield 21, 3) := by decide +kernel
theorem dX0_add_11 : decode cX0_add 11 = .ok (.aload_n 0, 1) := by decide +kernel
theorem dX0_add_12 : decode cX0_add 12 = .ok (.getfield 15, 3) := by decide +kernel
theorem dX0_add_15 : decode cX0_add 15 = .ok (.arraylength, 1) := by decide +kernel
theorem dX0_add_16 : decode cX0_add 16 = .ok (.if_icmp .ge 24, 3) := by decide +kernel
theorem dX0_add_19 : decode cX0_add 19 = .ok (.aload_n 0, 1) := by decide +kernel
theorem dX0_add_20 : decode cX0_add 20 = .ok (.getfield 15, 3) := by decide +kernel
theorem dX0_add_23 : decode cX0_add 23 = .ok (.aload_n 0, 1) := by decide +kernel
theorem dX0_add_24 : decode cX0_add 24 = .ok (.getfield 21, 3) := by decide +kernel
theorem dX0_add_27 : decode cX0_add 27 = .ok (.iload_n 1, 1) := by decide +kernel
theorem dX0_add_28 : decode cX0_add 28 = .ok (.i2b, 1) := by decide +kernel
theorem dX0_add_29 : decode cX0_add 29 = .ok (.bastore, 1) := by decide +kernel
theorem dX0_add_30 : decode cX0_add 30 = .ok (.aload_n 0, 1) := by decide +kernel
theorem dX0_add_31 : decode cX0_add 31 = .ok (.dup, 1) := by decide +kernel
theorem dX0_add_32 : decode cX0_add 32 = .ok (.getfield 21, 3) := by decide +kernel
theorem dX0_add_35 : decode cX0_add 35 = .ok (.iconst 1, 1) := by decide +kernel
theorem dX0_add_36 : decode cX0_add 36 = .ok (.iadd, 1) := by decide +kernel
theorem dX0_add_37 : decode cX0_add 37 = .ok (.putfield 21, 3) := by decide +kernel
theorem dX0_add_40 : decode cX0_add 40 = .ok (.return_, 1) := by decide +kernel
theorem dX0_addFour_0 : decode cX0_addFour 0 = .ok (.aload_n 0, 1) := by decide +kernel
theorem dX0_addFour_1 : decode cX0_addFour 1 = .ok (.iload_n 1, 1) := by decide +kernel
theorem dX0_addFour_2 : decode cX0_addFour 2 = .ok (.bipush 24, 2) := by decide +kernel
theorem dX0_addFour_4 : decode cX0_addFour 4 = .ok (.iushr, 1) := by decide +kernel
theorem dX0_addFour_5 : decode cX0_addFour 5 = .ok (.invokevirtual 25, 3) := by decide +kernel
theorem dX0_addFour_8 : decode cX0_addFour 8 = .ok (.aload_n 0, 1) := by decide +kernel
theorem dX0_addFour_9 : decode cX0_addFour 9 = .ok (.iload_n 1, 1) := by decide +kernel
theorem dX0_addFour_10 : decode cX0_addFour 10 = .ok (.bipush 16, 2) := by decide +kernel
theorem dX0_addFour_12 : decode cX0_addFour 12 = .ok (.iushr, 1) := by decide +kernel
theorem dX0_addFour_13 : decode cX0_addFour 13 = .ok (.invokevirtual 25, 3) := by decide +kernel
theorem dX0_addFour_16 : decode cX0_addFour 16 = .ok (.aload_n 0, 1) := by decide +kernel
theorem dX0_addFour_17 : decode cX0_addFour 17 = .ok (.iload_n 1, 1) := by decide +kernel
theorem dX0_addFour_18 : decode cX0_addFour 18 = .ok (.bipush 8, 2) := by decide +kernel
theorem dX0_addFour_20 : decode cX0_addFour 20 = .ok (.iushr, 1) := by decide +kernel
theorem dX0_addFour_21 : decode cX0_addFour 21 = .ok (.invokevirtual 25, 3) := by decide +kernel
theorem dX0_addFour_24 : decode cX0_addFour 24 = .ok (.aload_n 0, 1) := by decide +kernel
theorem dX0_addFour_25 : decode cX0_addFour 25 = .ok (.iload_n 1, 1) := by decide +kernel
theorem dX0_addFour_26 : decode cX0_addFour 26 = .ok (.invokevirtual 25, 3) := by decide +kernel
theorem dX0_addFour_29 : decode cX0_addFour 29 = .ok (.return_, 1) := by decide +kernel
theorem dX0_addRange_0 : decode cX0_addRange 0 = .ok (.iload_n 2, 1) := by decide +kernel
theorem dX0_addRange_1 : decode cX0_addRange 1 = .ok (.istore 4, 2) := by decide +kernel
theorem dX0_addRange_3 : decode cX0_addRange 3 = .ok (.iload 4, 2) := by decide +kernel
theorem dX0_addRange_5 : decode cX0_addRange 5 = .ok (.iload_n 3, 1) := by decide +kernel
theorem dX0_addRange_6 : decode cX0_addRange 6 = .ok (.if_icmp .ge 19, 3) := by decide +kernel
theorem dX0_addRange_9 : decode cX0_addRange 9 = .ok (.aload_n 0, 1) := by decide +kernel
theorem dX0_addRange_10 : decode cX0_addRange 10 = .ok (.aload_n 1, 1) := by decide +kernel
theorem dX0_addRange_11 : decode cX0_addRange 11 = .ok (.iload 4, 2) := by decide +kernel
theorem dX0_addRange_13 : decode cX0_addRange 13 = .ok (.invokevirtual 33, 3) := by decide +kernel
theorem dX0_addRange_16 : decode cX0_addRange 16 = .ok (.invokevirtual 25, 3) := by decide +kernel
theorem dX0_addRange_19 : decode cX0_addRange 19 = .ok (.iinc 4 1, 3) := by decide +kernel
theorem dX0_addRange_22 : decode cX0_addRange 22 = .ok (.goto (-19), 3) := by decide +kernel
theorem dX0_addRange_25 : decode cX0_addRange 25 = .ok (.return_, 1) := by decide +kernel
theorem dX0_cutTo_0 : decode cX0_cutTo 0 = .ok (.iload_n 1, 1) := by decide +kernel
theorem dX0_cutTo_1 : decode cX0_cutTo 1 = .ok (.ifCond .lt 16, 3) := by decide +kernel
theorem dX0_cutTo_4 : decode cX0_cutTo 4 = .ok (.iload_n 1, 1) := by decide +kernel
theorem dX0_cutTo_5 : decode cX0_cutTo 5 = .ok (.aload_n 0, 1) := by decide +kernel
theorem dX0_cutTo_6 : decode cX0_cutTo 6 = .ok (.getfield 21, 3) := by decide +kernel
theorem dX0_cutTo_9 : decode cX0_cutTo 9 = .ok (.if_icmp .ge 8, 3) := by decide +kernel
theorem dX0_cutTo_12 : decode cX0_cutTo 12 = .ok (.aload_n 0, 1) := by decide +kernel
theorem dX0_cutTo_13 : decode cX0_cutTo 13 = .ok (.iload_n 1, 1) := by decide +kernel
theorem dX0_cutTo_14 : decode cX0_cutTo 14 = .ok (.putfield 21, 3) := by decide +kernel
theorem dX0_cutTo_17 : decode cX0_cutTo 17 = .ok (.return_, 1) := by decide +kernel
theorem dX0_isRange_0 : decode cX0_isRange 0 = .ok (.iload_n 3, 1) := by decide +kernel
theorem dX0_isRange_1 : decode cX0_isRange 1 = .ok (.iload_n 2, 1) := by decide +kernel
theorem dX0_isRange_2 : decode cX0_isRange 2 = .ok (.isub, 1) := by decide +kernel
theorem dX0_isRange_3 : decode cX0_isRange 3 = .ok (.aload_n 0, 1) := by decide +kernel
theorem dX0_isRange_4 : decode cX0_isRange 4 = .ok (.getfield 21, 3) := by decide +kernel
theorem dX0_isRange_7 : decode cX0_isRange 7 = .ok (.if_icmp .eq 5, 3) := by decide +kernel
theorem dX0_isRange_10 : decode cX0_isRange 10 = .ok (.iconst 0, 1) := by decide +kernel
theorem dX0_isRange_11 : decode cX0_isRange 11 = .ok (.ireturn, 1) := by decide +kernel
theorem dX0_isRange_12 : decode cX0_isRange 12 = .ok (.iconst 0, 1) := by decide +kernel
theorem dX0_isRange_13 : decode cX0_isRange 13 = .ok (.istore 4, 2) := by decide +kernel
theorem dX0_isRange_15 : decode cX0_isRange 15 = .ok (.iload 4, 2) := by decide +kernel
theorem dX0_isRange_17 : decode cX0_isRange 17 = .ok (.aload_n 0, 1) := by decide +kernel
theorem dX0_isRange_18 : decode cX0_isRange 18 = .ok (.getfield 21, 3) := by decide +kernel
theorem dX0_isRange_21 : decode cX0_isRange 21 = .ok (.if_icmp .ge 28, 3) := by decide +kernel
theorem dX0_isRange_24 : decode cX0_isRange 24 = .ok (.aload_n 0, 1) := by decide +kernel
theorem dX0_isRange_25 : decode cX0_isRange 25 = .ok (.iload 4, 2) := by decide +kernel
theorem dX0_isRange_27 : decode cX0_isRange 27 = .ok (.invokevirtual 33, 3) := by decide +kernel
theorem dX0_isRange_30 : decode cX0_isRange 30 = .ok (.aload_n 1, 1) := by decide +kernel
theorem dX0_isRange_31 : decode cX0_isRange 31 = .ok (.iload_n 2, 1) := by decide +kernel
theorem dX0_isRange_32 : decode cX0_isRange 32 = .ok (.iload 4, 2) := by decide +kernel
theorem dX0_isRange_34 : decode cX0_isRange 34 = .ok (.iadd, 1) := by decide +kernel
theorem dX0_isRange_35 : decode cX0_isRange 35 = .ok (.invokevirtual 33, 3) := by decide +kernel
theorem dX0_isRange_38 : decode cX0_isRange 38 = .ok (.if_icmp .eq 5, 3) := by decide +kernel
theorem dX0_isRange_41 : decode cX0_isRange 41 = .ok (.iconst 0, 1) := by decide +kernel
theorem dX0_isRange_42 : decode cX0_isRange 42 = .ok (.ireturn, 1) := by decide +kernel
theorem dX0_isRange_43 : decode cX0_isRange 43 = .ok (.iinc 4 1, 3) := by decide +kernel
theorem dX0_isRange_46 : decode cX0_isRange 46 = .ok (.goto (-31), 3) := by decide +kernel
theorem dX0_isRange_49 : decode cX0_isRange 49 = .ok (.iconst 1, 1) := by decide +kernel
theorem dX0_isRange_50 : decode cX0_isRange 50 = .ok (.ireturn, 1) := by decide +kernel
theorem dX0_wholeWord_0 : decode cX0_wholeWord 0 = .ok (.lconst 0, 1) := by decide +kernel
theorem dX0_wholeWord_1 : decode cX0_wholeWord 1 = .ok (.lstore_n 1, 1) := by decide +kernel
theorem dX0_wholeWord_2 : decode cX0_wholeWord 2 = .ok (.iconst 0, 1) := by decide +kernel
theorem dX0_wholeWord_3 : decode cX0_wholeWord 3 = .ok (.istore_n 3, 1) := by decide +kernel
theorem dX0_wholeWord_4 : decode cX0_wholeWord 4 = .ok (.iload_n 3, 1) := by decide +kernel
theorem dX0_wholeWord_5 : decode cX0_wholeWord 5 = .ok (.aload_n 0, 1) := by decide +kernel
theorem dX0_wholeWord_6 : decode cX0_wholeWord 6 = .ok (.getfield 21, 3) := by decide +kernel
theorem dX0_wholeWord_9 : decode cX0_wholeWord 9 = .ok (.if_icmp .ge 33, 3) := by decide +kernel
theorem dX0_wholeWord_12 : decode cX0_wholeWord 12 = .ok (.aload_n 0, 1) := by decide +kernel
theorem dX0_wholeWord_13 : decode cX0_wholeWord 13 = .ok (.iload_n 3, 1) := by decide +kernel
theorem dX0_wholeWord_14 : decode cX0_wholeWord 14 = .ok (.invokevirtual 33, 3) := by decide +kernel
theorem dX0_wholeWord_17 : decode cX0_wholeWord 17 = .ok (.istore 4, 2) := by decide +kernel
theorem dX0_wholeWord_19 : decode cX0_wholeWord 19 = .ok (.iload 4, 2) := by decide +kernel
theorem dX0_wholeWord_21 : decode cX0_wholeWord 21 = .ok (.invokestatic 37, 3) := by decide +kernel
theorem dX0_wholeWord_24 : decode cX0_wholeWord 24 = .ok (.ifCond .ne 5, 3) := by decide +kernel
theorem dX0_wholeWord_27 : decode cX0_wholeWord 27 = .ok (.lconst 0, 1) := by decide +kernel
theorem dX0_wholeWord_28 : decode cX0_wholeWord 28 = .ok (.lreturn, 1) := by decide +kernel
theorem dX0_wholeWord_29 : decode cX0_wholeWord 29 = .ok (.lload_n 1, 1) := by decide +kernel
theorem dX0_wholeWord_30 : decode cX0_wholeWord 30 = .ok (.iload 4, 2) := by decide +kernel
theorem dX0_wholeWord_32 : decode cX0_wholeWord 32 = .ok (.invokestatic 41, 3) := by decide +kernel
theorem dX0_wholeWord_35 : decode cX0_wholeWord 35 = .ok (.lstore_n 1, 1) := by decide +kernel
theorem dX0_wholeWord_36 : decode cX0_wholeWord 36 = .ok (.iinc 3 1, 3) := by decide +kernel
theorem dX0_wholeWord_39 : decode cX0_wholeWord 39 = .ok (.goto (-35), 3) := by decide +kernel
theorem dX0_wholeWord_42 : decode cX0_wholeWord 42 = .ok (.lload_n 1, 1) := by decide +kernel
theorem dX0_wholeWord_43 : decode cX0_wholeWord 43 = .ok (.ldc2_w 45, 3) := by decide +kernel
theorem dX0_wholeWord_46 : decode cX0_wholeWord 46 = .ok (.lcmp, 1) := by decide +kernel
theorem dX0_wholeWord_47 : decode cX0_wholeWord 47 = .ok (.ifCond .ne 7, 3) := by decide +kernel
theorem dX0_wholeWord_50 : decode cX0_wholeWord 50 = .ok (.lconst 0, 1) := by decide +kernel
theorem dX0_wholeWord_51 : decode cX0_wholeWord 51 = .ok (.goto 4, 3) := by decide +kernel
theorem dX0_wholeWord_54 : decode cX0_wholeWord 54 = .ok (.lload_n 1, 1) := by decide +kernel
theorem dX0_wholeWord_55 : decode cX0_wholeWord 55 = .ok (.lreturn, 1) := by decide +kernel
theorem dX0_hasWord_0 : decode cX0_hasWord 0 = .ok (.lconst 0, 1) := by decide +kernel
theorem dX0_hasWord_1 : decode cX0_hasWord 1 = .ok (.lstore_n 3, 1) := by decide +kernel
theorem dX0_hasWord_2 : decode cX0_hasWord 2 = .ok (.iconst 0, 1) := by decide +kernel
theorem dX0_hasWord_3 : decode cX0_hasWord 3 = .ok (.istore 5, 2) := by decide +kernel
theorem dX0_hasWord_5 : decode cX0_hasWord 5 = .ok (.iload 5, 2) := by decide +kernel
theorem dX0_hasWord_7 : decode cX0_hasWord 7 = .ok (.aload_n 0, 1) := by decide +kernel
theorem dX0_hasWord_8 : decode cX0_hasWord 8 = .ok (.getfield 21, 3) := by decide +kernel
theorem dX0_hasWord_11 : decode cX0_hasWord 11 = .ok (.if_icmp .ge 45, 3) := by decide +kernel
theorem dX0_hasWord_14 : decode cX0_hasWord 14 = .ok (.aload_n 0, 1) := by decide +kernel
theorem dX0_hasWord_15 : decode cX0_hasWord 15 = .ok (.iload 5, 2) := by decide +kernel
theorem dX0_hasWord_17 : decode cX0_hasWord 17 = .ok (.invokevirtual 33, 3) := by decide +kernel
theorem dX0_hasWord_20 : decode cX0_hasWord 20 = .ok (.istore 6, 2) := by decide +kernel
theorem dX0_hasWord_22 : decode cX0_hasWord 22 = .ok (.iload 6, 2) := by decide +kernel
theorem dX0_hasWord_24 : decode cX0_hasWord 24 = .ok (.invokestatic 37, 3) := by decide +kernel
theorem dX0_hasWord_27 : decode cX0_hasWord 27 = .ok (.ifCond .eq 13, 3) := by decide +kernel
theorem dX0_hasWord_30 : decode cX0_hasWord 30 = .ok (.lload_n 3, 1) := by decide +kernel
theorem dX0_hasWord_31 : decode cX0_hasWord 31 = .ok (.iload 6, 2) := by decide +kernel
theorem dX0_hasWord_33 : decode cX0_hasWord 33 = .ok (.invokestatic 41, 3) := by decide +kernel
theorem dX0_hasWord_36 : decode cX0_hasWord 36 = .ok (.lstore_n 3, 1) := by decide +kernel
theorem dX0_hasWord_37 : decode cX0_hasWord 37 = .ok (.goto 13, 3) := by decide +kernel
theorem dX0_hasWord_40 : decode cX0_hasWord 40 = .ok (.lload_n 3, 1) := by decide +kernel
theorem dX0_hasWord_41 : decode cX0_hasWord 41 = .ok (.lload_n 1, 1) := by decide +kernel
theorem dX0_hasWord_42 : decode cX0_hasWord 42 = .ok (.lcmp, 1) := by decide +kernel
theorem dX0_hasWord_43 : decode cX0_hasWord 43 = .ok (.ifCond .ne 5, 3) := by decide +kernel
theorem dX0_hasWord_46 : decode cX0_hasWord 46 = .ok (.iconst 1, 1) := by decide +kernel
theorem dX0_hasWord_47 : decode cX0_hasWord 47 = .ok (.ireturn, 1) := by decide +kernel
theorem dX0_hasWord_48 : decode cX0_hasWord 48 = .ok (.lconst 0, 1) := by decide +kernel
theorem dX0_hasWord_49 : decode cX0_hasWord 49 = .ok (.lstore_n 3, 1) := by decide +kernel
theorem dX0_hasWord_50 : decode cX0_hasWord 50 = .ok (.iinc 5 1, 3) := by decide +kernel
theorem dX0_hasWord_53 : decode cX0_hasWord 53 = .ok (.goto (-48), 3) := by decide +kernel
theorem dX0_hasWord_56 : decode cX0_hasWord 56 = .ok (.lload_n 3, 1) := by decide +kernel
theorem dX0_hasWord_57 : decode cX0_hasWord 57 = .ok (.lload_n 1, 1) := by decide +kernel
theorem dX0_hasWord_58 : decode cX0_hasWord 58 = .ok (.lcmp, 1) := by decide +kernel
theorem dX0_hasWord_59 : decode cX0_hasWord 59 = .ok (.ifCond .ne 7, 3) := by decide +kernel
theorem dX0_hasWord_62 : decode cX0_hasWord 62 = .ok (.iconst 1, 1) := by decide +kernel
theorem dX0_hasWord_63 : decode cX0_hasWord 63 = .ok (.goto 4, 3) := by decide +kernel
theorem dX0_hasWord_66 : decode cX0_hasWord 66 = .ok (.iconst 0, 1) := by decide +kernel
theorem dX0_hasWord_67 : decode cX0_hasWord 67 = .ok (.ireturn, 1) := by decide +kernel
theorem dX0_hash_0 : decode cX0_hash 0 = .ok (.ldc2_w 47, 3) := by decide +kernel
theorem dX0_hash_3 : decode cX0_hash 3 = .ok (.lstore_n 1, 1) := by decide +kernel
theorem dX0_hash_4 : decode cX0_hash 4 = .ok (.iconst 0, 1) := by decide +kernel
theorem dX0_hash_5 : decode cX0_hash 5 = .ok (.istore_n 3, 1) := by decide +kernel
theorem dX0_hash_6 : decode cX0_hash 6 = .ok (.iload_n 3, 1) := by decide +kernel
theorem dX0_hash_7 : decode cX0_hash 7 = .ok (.aload_n 0, 1) := by decide +kernel
theorem dX0_hash_8 : decode cX0_hash 8 = .ok (.getfield 21, 3) := by decide +kernel
theorem dX0_hash_11 : decode cX0_hash 11 = .ok (.if_icmp .ge 22, 3) := by decide +kernel
theorem dX0_hash_14 : decode cX0_hash 14 = .ok (.lload_n 1, 1) := by decide +kernel
theorem dX0_hash_15 : decode cX0_hash 15 = .ok (.aload_n 0, 1) := by decide +kernel
theorem dX0_hash_16 : decode cX0_hash 16 = .ok (.iload_n 3, 1) := by decide +kernel
theorem dX0_hash_17 : decode cX0_hash 17 = .ok (.invokevirtual 33, 3) := by decide +kernel
theorem dX0_hash_20 : decode cX0_hash 20 = .ok (.i2l, 1) := by decide +kernel
theorem dX0_hash_21 : decode cX0_hash 21 = .ok (.lxor, 1) := by decide +kernel
theorem dX0_hash_22 : decode cX0_hash 22 = .ok (.ldc2_w 49, 3) := by decide +kernel
theorem dX0_hash_25 : decode cX0_hash 25 = .ok (.lmul, 1) := by decide +kernel
theorem dX0_hash_26 : decode cX0_hash 26 = .ok (.lstore_n 1, 1) := by decide +kernel
theorem dX0_hash_27 : decode cX0_hash 27 = .ok (.iinc 3 1, 3) := by decide +kernel
theorem dX0_hash_30 : decode cX0_hash 30 = .ok (.goto (-24), 3) := by decide +kernel
theorem dX0_hash_33 : decode cX0_hash 33 = .ok (.lload_n 1, 1) := by decide +kernel
theorem dX0_hash_34 : decode cX0_hash 34 = .ok (.lreturn, 1) := by decide +kernel
theorem dX1_init_0 : decode cX1_init 0 = .ok (.aload_n 0, 1) := by decide +kernel
theorem dX1_init_1 : decode cX1_init 1 = .ok (.invokespecial 3, 3) := by decide +kernel
theorem dX1_init_4 : decode cX1_init 4 = .ok (.aload_n 0, 1) := by decide +kernel
theorem dX1_init_5 : decode cX1_init 5 = .ok (.aload_n 1, 1) := by decide +kernel
theorem dX1_init_6 : decode cX1_init 6 = .ok (.putfield 9, 3) := by decide +kernel
theorem dX1_init_9 : decode cX1_init 9 = .ok (.aload_n 0, 1) := by decide +kernel
theorem dX1_init_10 : decode cX1_init 10 = .ok (.iconst 4, 1) := by decide +kernel
theorem dX1_init_11 : decode cX1_init 11 = .ok (.newarray .int, 2) := by decide +kernel
theorem dX1_init_13 : decode cX1_init 13 = .ok (.putfield 15, 3) := by decide +kernel
theorem dX1_init_16 : decode cX1_init 16 = .ok (.aload_n 0, 1) := by decide +kernel
theorem dX1_init_17 : decode cX1_init 17 = .ok (.iconst 4, 1) := by decide +kernel
theorem dX1_init_18 : decode cX1_init 18 = .ok (.newarray .int, 2) := by decide +kernel
theorem dX1_init_20 : decode cX1_init 20 = .ok (.putfield 19, 3) := by decide +kernel
theorem dX1_init_23 : decode cX1_init 23 = .ok (.return_, 1) := by decide +kernel
theorem dX1_cut_0 : decode cX1_cut 0 = .ok (.aload_n 0, 1) := by decide +kernel
theorem dX1_cut_1 : decode cX1_cut 1 = .ok (.iconst 0, 1) := by decide +kernel
theorem dX1_cut_2 : decode cX1_cut 2 = .ok (.putfield 22, 3) := by decide +kernel
theorem dX1_cut_5 : decode cX1_cut 5 = .ok (.iconst 0, 1) := by decide +kernel
theorem dX1_cut_6 : decode cX1_cut 6 = .ok (.istore_n 1, 1) := by decide +kernel
theorem dX1_cut_7 : decode cX1_cut 7 = .ok (.iconst 0, 1) := by decide +kernel
theorem dX1_cut_8 : decode cX1_cut 8 = .ok (.istore_n 2, 1) := by decide +kernel
theorem dX1_cut_9 : decode cX1_cut 9 = .ok (.iload_n 2, 1) := by decide +kernel
theorem dX1_cut_10 : decode cX1_cut 10 = .ok (.aload_n 0, 1) := by decide +kernel
theorem dX1_cut_11 : decode cX1_cut 11 = .ok (.getfield 9, 3) := by decide +kernel
theorem dX1_cut_14 : decode cX1_cut 14 = .ok (.getfield 26, 3) := by decide +kernel
theorem dX1_cut_17 : decode cX1_cut 17 = .ok (.if_icmp .gt 97, 3) := by decide +kernel
theorem dX1_cut_20 : decode cX1_cut 20 = .ok (.iload_n 2, 1) := by decide +kernel
theorem dX1_cut_21 : decode cX1_cut 21 = .ok (.aload_n 0, 1) := by decide +kernel
theorem dX1_cut_22 : decode cX1_cut 22 = .ok (.getfield 9, 3) := by decide +kernel
theorem dX1_cut_25 : decode cX1_cut 25 = .ok (.getfield 26, 3) := by decide +kernel
theorem dX1_cut_28 : decode cX1_cut 28 = .ok (.if_icmp .eq 16, 3) := by decide +kernel
theorem dX1_cut_31 : decode cX1_cut 31 = .ok (.aload_n 0, 1) := by decide +kernel
theorem dX1_cut_32 : decode cX1_cut 32 = .ok (.getfield 9, 3) := by decide +kernel
theorem dX1_cut_35 : decode cX1_cut 35 = .ok (.iload_n 2, 1) := by decide +kernel
theorem dX1_cut_36 : decode cX1_cut 36 = .ok (.invokevirtual 31, 3) := by decide +kernel
theorem dX1_cut_39 : decode cX1_cut 39 = .ok (.bipush 124, 2) := by decide +kernel
theorem dX1_cut_41 : decode cX1_cut 41 = .ok (.if_icmp .ne 67, 3) := by decide +kernel
theorem dX1_cut_44 : decode cX1_cut 44 = .ok (.aload_n 0, 1) := by decide +kernel
theorem dX1_cut_45 : decode cX1_cut 45 = .ok (.getfield 22, 3) := by decide +kernel
theorem dX1_cut_48 : decode cX1_cut 48 = .ok (.iconst 4, 1) := by decide +kernel
theorem dX1_cut_49 : decode cX1_cut 49 = .ok (.if_icmp .ge 19, 3) := by decide +kernel
theorem dX1_cut_52 : decode cX1_cut 52 = .ok (.iload_n 2, 1) := by decide +kernel
theorem dX1_cut_53 : decode cX1_cut 53 = .ok (.iload_n 1, 1) := by decide +kernel
theorem dX1_cut_54 : decode cX1_cut 54 = .ok (.isub, 1) := by decide +kernel
theorem dX1_cut_55 : decode cX1_cut 55 = .ok (.iconst 1, 1) := by decide +kernel
theorem dX1_cut_56 : decode cX1_cut 56 = .ok (.if_icmp .lt 12, 3) := by decide +kernel
theorem dX1_cut_59 : decode cX1_cut 59 = .ok (.iload_n 2, 1) := by decide +kernel
theorem dX1_cut_60 : decode cX1_cut 60 = .ok (.iload_n 1, 1) := by decide +kernel
theorem dX1_cut_61 : decode cX1_cut 61 = .ok (.isub, 1) := by decide +kernel
theorem dX1_cut_62 : decode cX1_cut 62 = .ok (.sipush 200, 3) := by decide +kernel
theorem dX1_cut_65 : decode cX1_cut 65 = .ok (.if_icmp .le 5, 3) := by decide +kernel
theorem dX1_cut_68 : decode cX1_cut 68 = .ok (.iconst 0, 1) := by decide +kernel
theorem dX1_cut_69 : decode cX1_cut 69 = .ok (.ireturn, 1) := by decide +kernel
theorem dX1_cut_70 : decode cX1_cut 70 = .ok (.aload_n 0, 1) := by decide +kernel
theorem dX1_cut_71 : decode cX1_cut 71 = .ok (.getfield 15, 3) := by decide +kernel
theorem dX1_cut_74 : decode cX1_cut 74 = .ok (.aload_n 0, 1) := by decide +kernel
theorem dX1_cut_75 : decode cX1_cut 75 = .ok (.getfield 22, 3) := by decide +kernel
theorem dX1_cut_78 : decode cX1_cut 78 = .ok (.iload_n 1, 1) := by decide +kernel
theorem dX1_cut_79 : decode cX1_cut 79 = .ok (.invokestatic 35, 3) := by decide +kernel
theorem dX1_cut_82 : decode cX1_cut 82 = .ok (.aload_n 0, 1) := by decide +kernel
theorem dX1_cut_83 : decode cX1_cut 83 = .ok (.getfield 19, 3) := by decide +kernel
theorem dX1_cut_86 : decode cX1_cut 86 = .ok (.aload_n 0, 1) := by decide +kernel
theorem dX1_cut_87 : decode cX1_cut 87 = .ok (.getfield 22, 3) := by decide +kernel
theorem dX1_cut_90 : decode cX1_cut 90 = .ok (.iload_n 2, 1) := by decide +kernel
theorem dX1_cut_91 : decode cX1_cut 91 = .ok (.invokestatic 35, 3) := by decide +kernel
theorem dX1_cut_94 : decode cX1_cut 94 = .ok (.aload_n 0, 1) := by decide +kernel
theorem dX1_cut_95 : decode cX1_cut 95 = .ok (.dup, 1) := by decide +kernel
theorem dX1_cut_96 : decode cX1_cut 96 = .ok (.getfield 22, 3) := by decide +kernel
theorem dX1_cut_99 : decode cX1_cut 99 = .ok (.iconst 1, 1) := by decide +kernel
theorem dX1_cut_100 : decode cX1_cut 100 = .ok (.iadd, 1) := by decide +kernel
theorem dX1_cut_101 : decode cX1_cut 101 = .ok (.putfield 22, 3) := by decide +kernel
theorem dX1_cut_104 : decode cX1_cut 104 = .ok (.iload_n 2, 1) := by decide +kernel
theorem dX1_cut_105 : decode cX1_cut 105 = .ok (.iconst 1, 1) := by decide +kernel
theorem dX1_cut_106 : decode cX1_cut 106 = .ok (.iadd, 1) := by decide +kernel
theorem dX1_cut_107 : decode cX1_cut 107 = .ok (.istore_n 1, 1) := by decide +kernel
theorem dX1_cut_108 : decode cX1_cut 108 = .ok (.iinc 2 1, 3) := by decide +kernel
theorem dX1_cut_111 : decode cX1_cut 111 = .ok (.goto (-102), 3) := by decide +kernel
theorem dX1_cut_114 : decode cX1_cut 114 = .ok (.iconst 1, 1) := by decide +kernel
theorem dX1_cut_115 : decode cX1_cut 115 = .ok (.ireturn, 1) := by decide +kernel
theorem dX1_sizeAt_0 : decode cX1_sizeAt 0 = .ok (.aload_n 0, 1) := by decide +kernel
theorem dX1_sizeAt_1 : decode cX1_sizeAt 1 = .ok (.getfield 19, 3) := by decide +kernel
theorem dX1_sizeAt_4 : decode cX1_sizeAt 4 = .ok (.iload_n 1, 1) := by decide +kernel
theorem dX1_sizeAt_5 : decode cX1_sizeAt 5 = .ok (.invokestatic 39, 3) := by decide +kernel
theorem dX1_sizeAt_8 : decode cX1_sizeAt 8 = .ok (.aload_n 0, 1) := by decide +kernel
theorem dX1_sizeAt_9 : decode cX1_sizeAt 9 = .ok (.getfield 15, 3) := by decide +kernel
theorem dX1_sizeAt_12 : decode cX1_sizeAt 12 = .ok (.iload_n 1, 1) := by decide +kernel
theorem dX1_sizeAt_13 : decode cX1_sizeAt 13 = .ok (.invokestatic 39, 3) := by decide +kernel
theorem dX1_sizeAt_16 : decode cX1_sizeAt 16 = .ok (.isub, 1) := by decide +kernel
theorem dX1_sizeAt_17 : decode cX1_sizeAt 17 = .ok (.ireturn, 1) := by decide +kernel
theorem dX1_sizeOfAll_0 : decode cX1_sizeOfAll 0 = .ok (.iconst 0, 1) := by decide +kernel
theorem dX1_sizeOfAll_1 : decode cX1_sizeOfAll 1 = .ok (.istore_n 1, 1) := by decide +kernel
theorem dX1_sizeOfAll_2 : decode cX1_sizeOfAll 2 = .ok (.iconst 0, 1) := by decide +kernel
theorem dX1_sizeOfAll_3 : decode cX1_sizeOfAll 3 = .ok (.istore_n 2, 1) := by decide +kernel
theorem dX1_sizeOfAll_4 : decode cX1_sizeOfAll 4 = .ok (.iload_n 2, 1) := by decide +kernel
theorem dX1_sizeOfAll_5 : decode cX1_sizeOfAll 5 = .ok (.aload_n 0, 1) := by decide +kernel
theorem dX1_sizeOfAll_6 : decode cX1_sizeOfAll 6 = .ok (.getfield 22, 3) := by decide +kernel
theorem dX1_sizeOfAll_9 : decode cX1_sizeOfAll 9 = .ok (.if_icmp .ge 17, 3) := by decide +kernel
theorem dX1_sizeOfAll_12 : decode cX1_sizeOfAll 12 = .ok (.iload_n 1, 1) := by decide +kernel
theorem dX1_sizeOfAll_13 : decode cX1_sizeOfAll 13 = .ok (.aload_n 0, 1) := by decide +kernel
theorem dX1_sizeOfAll_14 : decode cX1_sizeOfAll 14 = .ok (.iload_n 2, 1) := by decide +kernel
theorem dX1_sizeOfAll_15 : decode cX1_sizeOfAll 15 = .ok (.invokevirtual 43, 3) := by decide +kernel
theorem dX1_sizeOfAll_18 : decode cX1_sizeOfAll 18 = .ok (.iadd, 1) := by decide +kernel
theorem dX1_sizeOfAll_19 : decode cX1_sizeOfAll 19 = .ok (.istore_n 1, 1) := by decide +kernel
theorem dX1_sizeOfAll_20 : decode cX1_sizeOfAll 20 = .ok (.iinc 2 1, 3) := by decide +kernel
theorem dX1_sizeOfAll_23 : decode cX1_sizeOfAll 23 = .ok (.goto (-19), 3) := by decide +kernel
theorem dX1_sizeOfAll_26 : decode cX1_sizeOfAll 26 = .ok (.iload_n 1, 1) := by decide +kernel
theorem dX1_sizeOfAll_27 : decode cX1_sizeOfAll 27 = .ok (.ireturn, 1) := by decide +kernel
theorem dX1_isEqualTo_0 : decode cX1_isEqualTo 0 = .ok (.aload_n 1, 1) := by decide +kernel
theorem dX1_isEqualTo_1 : decode cX1_isEqualTo 1 = .ok (.aload_n 0, 1) := by decide +kernel
theorem dX1_isEqualTo_2 : decode cX1_isEqualTo 2 = .ok (.getfield 9, 3) := by decide +kernel
theorem dX1_isEqualTo_5 : decode cX1_isEqualTo 5 = .ok (.aload_n 0, 1) := by decide +kernel
theorem dX1_isEqualTo_6 : decode cX1_isEqualTo 6 = .ok (.getfield 15, 3) := by decide +kernel
theorem dX1_isEqualTo_9 : decode cX1_isEqualTo 9 = .ok (.iload_n 2, 1) := by decide +kernel
theorem dX1_isEqualTo_10 : decode cX1_isEqualTo 10 = .ok (.invokestatic 39, 3) := by decide +kernel
theorem dX1_isEqualTo_13 : decode cX1_isEqualTo 13 = .ok (.aload_n 0, 1) := by decide +kernel
theorem dX1_isEqualTo_14 : decode cX1_isEqualTo 14 = .ok (.getfield 19, 3) := by decide +kernel
theorem dX1_isEqualTo_17 : decode cX1_isEqualTo 17 = .ok (.iload_n 2, 1) := by decide +kernel
theorem dX1_isEqualTo_18 : decode cX1_isEqualTo 18 = .ok (.invokestatic 39, 3) := by decide +kernel
theorem dX1_isEqualTo_21 : decode cX1_isEqualTo 21 = .ok (.invokevirtual 46, 3) := by decide +kernel
theorem dX1_isEqualTo_24 : decode cX1_isEqualTo 24 = .ok (.ireturn, 1) := by decide +kernel
theorem dX1_isFirstOfItsKind_0 : decode cX1_isFirstOfItsKind 0 = .ok (.iconst 0, 1) := by decide +kernel
theorem dX1_isFirstOfItsKind_1 : decode cX1_isFirstOfItsKind 1 = .ok (.istore_n 2, 1) := by decide +kernel
theorem dX1_isFirstOfItsKind_2 : decode cX1_isFirstOfItsKind 2 = .ok (.iload_n 2, 1) := by decide +kernel
theorem dX1_isFirstOfItsKind_3 : decode cX1_isFirstOfItsKind 3 = .ok (.iload_n 1, 1) := by decide +kernel
theorem dX1_isFirstOfItsKind_4 : decode cX1_isFirstOfItsKind 4 = .ok (.if_icmp .ge 20, 3) := by decide +kernel
theorem dX1_isFirstOfItsKind_7 : decode cX1_isFirstOfItsKind 7 = .ok (.aload_n 0, 1) := by decide +kernel
theorem dX1_isFirstOfItsKind_8 : decode cX1_isFirstOfItsKind 8 = .ok (.iload_n 2, 1) := by decide +kernel
theorem dX1_isFirstOfItsKind_9 : decode cX1_isFirstOfItsKind 9 = .ok (.iload_n 1, 1) := by decide +kernel
theorem dX1_isFirstOfItsKind_10 : decode cX1_isFirstOfItsKind 10 = .ok (.invokevirtual 50, 3) := by decide +kernel
theorem dX1_isFirstOfItsKind_13 : decode cX1_isFirstOfItsKind 13 = .ok (.ifCond .eq 5, 3) := by decide +kernel
theorem dX1_isFirstOfItsKind_16 : decode cX1_isFirstOfItsKind 16 = .ok (.iconst 0, 1) := by decide +kernel
theorem dX1_isFirstOfItsKind_17 : decode cX1_isFirstOfItsKind 17 = .ok (.ireturn, 1) := by decide +kernel
theorem dX1_isFirstOfItsKind_18 : decode cX1_isFirstOfItsKind 18 = .ok (.iinc 2 1, 3) := by decide +kernel
theorem dX1_isFirstOfItsKind_21 : decode cX1_isFirstOfItsKind 21 = .ok (.goto (-19), 3) := by decide +kernel
theorem dX1_isFirstOfItsKind_24 : decode cX1_isFirstOfItsKind 24 = .ok (.iconst 1, 1) := by decide +kernel
theorem dX1_isFirstOfItsKind_25 : decode cX1_isFirstOfItsKind 25 = .ok (.ireturn, 1) := by decide +kernel
theorem dX1_areEqual_0 : decode cX1_areEqual 0 = .ok (.aload_n 0, 1) := by decide +kernel
theorem dX1_areEqual_1 : decode cX1_areEqual 1 = .ok (.iload_n 1, 1) := by decide +kernel
theorem dX1_areEqual_2 : decode cX1_areEqual 2 = .ok (.invokevirtual 43, 3) := by decide +kernel
theorem dX1_areEqual_5 : decode cX1_areEqual 5 = .ok (.aload_n 0, 1) := by decide +kernel
theorem dX1_areEqual_6 : decode cX1_areEqual 6 = .ok (.iload_n 2, 1) := by decide +kernel
theorem dX1_areEqual_7 : decode cX1_areEqual 7 = .ok (.invokevirtual 43, 3) := by decide +kernel
theorem dX1_areEqual_10 : decode cX1_areEqual 10 = .ok (.if_icmp .eq 5, 3) := by decide +kernel
theorem dX1_areEqual_13 : decode cX1_areEqual 13 = .ok (.iconst 0, 1) := by decide +kernel
theorem dX1_areEqual_14 : decode cX1_areEqual 14 = .ok (.ireturn, 1) := by decide +kernel
theorem dX1_areEqual_15 : decode cX1_areEqual 15 = .ok (.iconst 0, 1) := by decide +kernel
theorem dX1_areEqual_16 : decode cX1_areEqual 16 = .ok (.istore_n 3, 1) := by decide +kernel
theorem dX1_areEqual_17 : decode cX1_areEqual 17 = .ok (.iload_n 3, 1) := by decide +kernel
theorem dX1_areEqual_18 : decode cX1_areEqual 18 = .ok (.aload_n 0, 1) := by decide +kernel
theorem dX1_areEqual_19 : decode cX1_areEqual 19 = .ok (.iload_n 1, 1) := by decide +kernel
theorem dX1_areEqual_20 : decode cX1_areEqual 20 = .ok (.invokevirtual 43, 3) := by decide +kernel
theorem dX1_areEqual_23 : decode cX1_areEqual 23 = .ok (.if_icmp .ge 48, 3) := by decide +kernel
theorem dX1_areEqual_26 : decode cX1_areEqual 26 = .ok (.aload_n 0, 1) := by decide +kernel
theorem dX1_areEqual_27 : decode cX1_areEqual 27 = .ok (.getfield 9, 3) := by decide +kernel
theorem dX1_areEqual_30 : decode cX1_areEqual 30 = .ok (.aload_n 0, 1) := by decide +kernel
theorem dX1_areEqual_31 : decode cX1_areEqual 31 = .ok (.getfield 15, 3) := by decide +kernel
theorem dX1_areEqual_34 : decode cX1_areEqual 34 = .ok (.iload_n 1, 1) := by decide +kernel
theorem dX1_areEqual_35 : decode cX1_areEqual 35 = .ok (.invokestatic 39, 3) := by decide +kernel
theorem dX1_areEqual_38 : decode cX1_areEqual 38 = .ok (.iload_n 3, 1) := by decide +kernel
theorem dX1_areEqual_39 : decode cX1_areEqual 39 = .ok (.iadd, 1) := by decide +kernel
theorem dX1_areEqual_40 : decode cX1_areEqual 40 = .ok (.invokevirtual 31, 3) := by decide +kernel
theorem dX1_areEqual_43 : decode cX1_areEqual 43 = .ok (.aload_n 0, 1) := by decide +kernel
theorem dX1_areEqual_44 : decode cX1_areEqual 44 = .ok (.getfield 9, 3) := by decide +kernel
theorem dX1_areEqual_47 : decode cX1_areEqual 47 = .ok (.aload_n 0, 1) := by decide +kernel
theorem dX1_areEqual_48 : decode cX1_areEqual 48 = .ok (.getfield 15, 3) := by decide +kernel
theorem dX1_areEqual_51 : decode cX1_areEqual 51 = .ok (.iload_n 2, 1) := by decide +kernel
theorem dX1_areEqual_52 : decode cX1_areEqual 52 = .ok (.invokestatic 39, 3) := by decide +kernel
theorem dX1_areEqual_55 : decode cX1_areEqual 55 = .ok (.iload_n 3, 1) := by decide +kernel
theorem dX1_areEqual_56 : decode cX1_areEqual 56 = .ok (.iadd, 1) := by decide +kernel
theorem dX1_areEqual_57 : decode cX1_areEqual 57 = .ok (.invokevirtual 31, 3) := by decide +kernel
theorem dX1_areEqual_60 : decode cX1_areEqual 60 = .ok (.if_icmp .eq 5, 3) := by decide +kernel
theorem dX1_areEqual_63 : decode cX1_areEqual 63 = .ok (.iconst 0, 1) := by decide +kernel
theorem dX1_areEqual_64 : decode cX1_areEqual 64 = .ok (.ireturn, 1) := by decide +kernel
theorem dX1_areEqual_65 : decode cX1_areEqual 65 = .ok (.iinc 3 1, 3) := by decide +kernel
theorem dX1_areEqual_68 : decode cX1_areEqual 68 = .ok (.goto (-51), 3) := by decide +kernel
theorem dX1_areEqual_71 : decode cX1_areEqual 71 = .ok (.iconst 1, 1) := by decide +kernel
theorem dX1_areEqual_72 : decode cX1_areEqual 72 = .ok (.ireturn, 1) := by decide +kernel
theorem dX1_copyOfPlace_0 : decode cX1_copyOfPlace 0 = .ok (.new 27, 3) := by decide +kernel
theorem dX1_copyOfPlace_3 : decode cX1_copyOfPlace 3 = .ok (.dup, 1) := by decide +kernel
theorem dX1_copyOfPlace_4 : decode cX1_copyOfPlace 4 = .ok (.aload_n 0, 1) := by decide +kernel
theorem dX1_copyOfPlace_5 : decode cX1_copyOfPlace 5 = .ok (.iload_n 1, 1) := by decide +kernel
theorem dX1_copyOfPlace_6 : decode cX1_copyOfPlace 6 = .ok (.invokevirtual 43, 3) := by decide +kernel
theorem dX1_copyOfPlace_9 : decode cX1_copyOfPlace 9 = .ok (.invokespecial 54, 3) := by decide +kernel
theorem dX1_copyOfPlace_12 : decode cX1_copyOfPlace 12 = .ok (.astore_n 2, 1) := by decide +kernel
theorem dX1_copyOfPlace_13 : decode cX1_copyOfPlace 13 = .ok (.aload_n 2, 1) := by decide +kernel
theorem dX1_copyOfPlace_14 : decode cX1_copyOfPlace 14 = .ok (.aload_n 0, 1) := by decide +kernel
theorem dX1_copyOfPlace_15 : decode cX1_copyOfPlace 15 = .ok (.getfield 9, 3) := by decide +kernel
theorem dX1_copyOfPlace_18 : decode cX1_copyOfPlace 18 = .ok (.aload_n 0, 1) := by decide +kernel
theorem dX1_copyOfPlace_19 : decode cX1_copyOfPlace 19 = .ok (.getfield 15, 3) := by decide +kernel
theorem dX1_copyOfPlace_22 : decode cX1_copyOfPlace 22 = .ok (.iload_n 1, 1) := by decide +kernel
theorem dX1_copyOfPlace_23 : decode cX1_copyOfPlace 23 = .ok (.invokestatic 39, 3) := by decide +kernel
theorem dX1_copyOfPlace_26 : decode cX1_copyOfPlace 26 = .ok (.aload_n 0, 1) := by decide +kernel
theorem dX1_copyOfPlace_27 : decode cX1_copyOfPlace 27 = .ok (.getfield 19, 3) := by decide +kernel
theorem dX1_copyOfPlace_30 : decode cX1_copyOfPlace 30 = .ok (.iload_n 1, 1) := by decide +kernel
theorem dX1_copyOfPlace_31 : decode cX1_copyOfPlace 31 = .ok (.invokestatic 39, 3) := by decide +kernel
theorem dX1_copyOfPlace_34 : decode cX1_copyOfPlace 34 = .ok (.invokevirtual 57, 3) := by decide +kernel
theorem dX1_copyOfPlace_37 : decode cX1_copyOfPlace 37 = .ok (.aload_n 2, 1) := by decide +kernel
theorem dX1_copyOfPlace_38 : decode cX1_copyOfPlace 38 = .ok (.areturn, 1) := by decide +kernel
theorem dX2_init_0 : decode cX2_init 0 = .ok (.aload_n 0, 1) := by decide +kernel
theorem dX2_init_1 : decode cX2_init 1 = .ok (.invokespecial 3, 3) := by decide +kernel
theorem dX2_init_4 : decode cX2_init 4 = .ok (.aload_n 0, 1) := by decide +kernel
theorem dX2_init_5 : decode cX2_init 5 = .ok (.bipush 60, 2) := by decide +kernel
theorem dX2_init_7 : decode cX2_init 7 = .ok (.newarray .int, 2) := by decide +kernel
theorem dX2_init_9 : decode cX2_init 9 = .ok (.putfield 9, 3) := by decide +kernel
theorem dX2_init_12 : decode cX2_init 12 = .ok (.aload_n 0, 1) := by decide +kernel
theorem dX2_init_13 : decode cX2_init 13 = .ok (.bipush 60, 2) := by decide +kernel
theorem dX2_init_15 : decode cX2_init 15 = .ok (.newarray .int, 2) := by decide +kernel
theorem dX2_init_17 : decode cX2_init 17 = .ok (.putfield 15, 3) := by decide +kernel
theorem dX2_init_20 : decode cX2_init 20 = .ok (.aload_n 0, 1) := by decide +kernel
theorem dX2_init_21 : decode cX2_init 21 = .ok (.bipush 60, 2) := by decide +kernel
theorem dX2_init_23 : decode cX2_init 23 = .ok (.newarray .int, 2) := by decide +kernel
theorem dX2_init_25 : decode cX2_init 25 = .ok (.putfield 18, 3) := by decide +kernel
theorem dX2_init_28 : decode cX2_init 28 = .ok (.return_, 1) := by decide +kernel
theorem dX2_clear_0 : decode cX2_clear 0 = .ok (.aload_n 0, 1) := by decide +kernel
theorem dX2_clear_1 : decode cX2_clear 1 = .ok (.iconst 0, 1) := by decide +kernel
theorem dX2_clear_2 : decode cX2_clear 2 = .ok (.putfield 21, 3) := by decide +kernel
theorem dX2_clear_5 : decode cX2_clear 5 = .ok (.aload_n 0, 1) := by decide +kernel
theorem dX2_clear_6 : decode cX2_clear 6 = .ok (.iconst 0, 1) := by decide +kernel
theorem dX2_clear_7 : decode cX2_clear 7 = .ok (.putfield 25, 3) := by decide +kernel
theorem dX2_clear_10 : decode cX2_clear 10 = .ok (.return_, 1) := by decide +kernel
theorem dX2_copyFrom_0 : decode cX2_copyFrom 0 = .ok (.aload_n 1, 1) := by decide +kernel
theorem dX2_copyFrom_1 : decode cX2_copyFrom 1 = .ok (.getfield 9, 3) := by decide +kernel
theorem dX2_copyFrom_4 : decode cX2_copyFrom 4 = .ok (.aload_n 0, 1) := by decide +kernel
theorem dX2_copyFrom_5 : decode cX2_copyFrom 5 = .ok (.getfield 9, 3) := by decide +kernel
theorem dX2_copyFrom_8 : decode cX2_copyFrom 8 = .ok (.invokestatic 28, 3) := by decide +kernel
theorem dX2_copyFrom_11 : decode cX2_copyFrom 11 = .ok (.aload_n 1, 1) := by decide +kernel
theorem dX2_copyFrom_12 : decode cX2_copyFrom 12 = .ok (.getfield 15, 3) := by decide +kernel
theorem dX2_copyFrom_15 : decode cX2_copyFrom 15 = .ok (.aload_n 0, 1) := by decide +kernel
theorem dX2_copyFrom_16 : decode cX2_copyFrom 16 = .ok (.getfield 15, 3) := by decide +kernel
theorem dX2_copyFrom_19 : decode cX2_copyFrom 19 = .ok (.invokestatic 28, 3) := by decide +kernel
theorem dX2_copyFrom_22 : decode cX2_copyFrom 22 = .ok (.aload_n 1, 1) := by decide +kernel
theorem dX2_copyFrom_23 : decode cX2_copyFrom 23 = .ok (.getfield 18, 3) := by decide +kernel
theorem dX2_copyFrom_26 : decode cX2_copyFrom 26 = .ok (.aload_n 0, 1) := by decide +kernel
theorem dX2_copyFrom_27 : decode cX2_copyFrom 27 = .ok (.getfield 18, 3) := by decide +kernel
theorem dX2_copyFrom_30 : decode cX2_copyFrom 30 = .ok (.invokestatic 28, 3) := by decide +kernel
theorem dX2_copyFrom_33 : decode cX2_copyFrom 33 = .ok (.aload_n 0, 1) := by decide +kernel
theorem dX2_copyFrom_34 : decode cX2_copyFrom 34 = .ok (.aload_n 1, 1) := by decide +kernel
theorem dX2_copyFrom_35 : decode cX2_copyFrom 35 = .ok (.getfield 21, 3) := by decide +kernel
theorem dX2_copyFrom_38 : decode cX2_copyFrom 38 = .ok (.putfield 21, 3) := by decide +kernel
theorem dX2_copyFrom_41 : decode cX2_copyFrom 41 = .ok (.aload_n 0, 1) := by decide +kernel
theorem dX2_copyFrom_42 : decode cX2_copyFrom 42 = .ok (.aload_n 1, 1) := by decide +kernel
theorem dX2_copyFrom_43 : decode cX2_copyFrom 43 = .ok (.getfield 25, 3) := by decide +kernel
theorem dX2_copyFrom_46 : decode cX2_copyFrom 46 = .ok (.putfield 25, 3) := by decide +kernel
theorem dX2_copyFrom_49 : decode cX2_copyFrom 49 = .ok (.return_, 1) := by decide +kernel
theorem dX2_note_0 : decode cX2_note 0 = .ok (.aload_n 0, 1) := by decide +kernel
theorem dX2_note_1 : decode cX2_note 1 = .ok (.getfield 21, 3) := by decide +kernel
theorem dX2_note_4 : decode cX2_note 4 = .ok (.aload_n 0, 1) := by decide +kernel
theorem dX2_note_5 : decode cX2_note 5 = .ok (.getfield 25, 3) := by decide +kernel
theorem dX2_note_8 : decode cX2_note 8 = .ok (.iadd, 1) := by decide +kernel
theorem dX2_note_9 : decode cX2_note 9 = .ok (.bipush 60, 2) := by decide +kernel
theorem dX2_note_11 : decode cX2_note 11 = .ok (.irem, 1) := by decide +kernel
theorem dX2_note_12 : decode cX2_note 12 = .ok (.istore 4, 2) := by decide +kernel
theorem dX2_note_14 : decode cX2_note 14 = .ok (.aload_n 0, 1) := by decide +kernel
theorem dX2_note_15 : decode cX2_note 15 = .ok (.getfield 9, 3) := by decide +kernel
theorem dX2_note_18 : decode cX2_note 18 = .ok (.iload 4, 2) := by decide +kernel
theorem dX2_note_20 : decode cX2_note 20 = .ok (.iload_n 1, 1) := by decide +kernel
theorem dX2_note_21 : decode cX2_note 21 = .ok (.invokestatic 32, 3) := by decide +kernel
theorem dX2_note_24 : decode cX2_note 24 = .ok (.aload_n 0, 1) := by decide +kernel
theorem dX2_note_25 : decode cX2_note 25 = .ok (.getfield 15, 3) := by decide +kernel
theorem dX2_note_28 : decode cX2_note 28 = .ok (.iload 4, 2) := by decide +kernel
theorem dX2_note_30 : decode cX2_note 30 = .ok (.iload_n 2, 1) := by decide +kernel
theorem dX2_note_31 : decode cX2_note 31 = .ok (.invokestatic 32, 3) := by decide +kernel
theorem dX2_note_34 : decode cX2_note 34 = .ok (.aload_n 0, 1) := by decide +kernel
theorem dX2_note_35 : decode cX2_note 35 = .ok (.getfield 18, 3) := by decide +kernel
theorem dX2_note_38 : decode cX2_note 38 = .ok (.iload 4, 2) := by decide +kernel
theorem dX2_note_40 : decode cX2_note 40 = .ok (.iload_n 3, 1) := by decide +kernel
theorem dX2_note_41 : decode cX2_note 41 = .ok (.invokestatic 32, 3) := by decide +kernel
theorem dX2_note_44 : decode cX2_note 44 = .ok (.aload_n 0, 1) := by decide +kernel
theorem dX2_note_45 : decode cX2_note 45 = .ok (.getfield 25, 3) := by decide +kernel
theorem dX2_note_48 : decode cX2_note 48 = .ok (.bipush 60, 2) := by decide +kernel
theorem dX2_note_50 : decode cX2_note 50 = .ok (.if_icmp .ge 16, 3) := by decide +kernel
theorem dX2_note_53 : decode cX2_note 53 = .ok (.aload_n 0, 1) := by decide +kernel
theorem dX2_note_54 : decode cX2_note 54 = .ok (.dup, 1) := by decide +kernel
theorem dX2_note_55 : decode cX2_note 55 = .ok (.getfield 25, 3) := by decide +kernel
theorem dX2_note_58 : decode cX2_note 58 = .ok (.iconst 1, 1) := by decide +kernel
theorem dX2_note_59 : decode cX2_note 59 = .ok (.iadd, 1) := by decide +kernel
theorem dX2_note_60 : decode cX2_note 60 = .ok (.putfield 25, 3) := by decide +kernel
theorem dX2_note_63 : decode cX2_note 63 = .ok (.goto 16, 3) := by decide +kernel
theorem dX2_note_66 : decode cX2_note 66 = .ok (.aload_n 0, 1) := by decide +kernel
theorem dX2_note_67 : decode cX2_note 67 = .ok (.aload_n 0, 1) := by decide +kernel
theorem dX2_note_68 : decode cX2_note 68 = .ok (.getfield 21, 3) := by decide +kernel
theorem dX2_note_71 : decode cX2_note 71 = .ok (.iconst 1, 1) := by decide +kernel
theorem dX2_note_72 : decode cX2_note 72 = .ok (.iadd, 1) := by decide +kernel
theorem dX2_note_73 : decode cX2_note 73 = .ok (.bipush 60, 2) := by decide +kernel
theorem dX2_note_75 : decode cX2_note 75 = .ok (.irem, 1) := by decide +kernel
theorem dX2_note_76 : decode cX2_note 76 = .ok (.putfield 21, 3) := by decide +kernel
theorem dX2_note_79 : decode cX2_note 79 = .ok (.return_, 1) := by decide +kernel
theorem dX4_init_0 : decode cX4_init 0 = .ok (.aload_n 0, 1) := by decide +kernel
theorem dX4_init_1 : decode cX4_init 1 = .ok (.invokespecial 3, 3) := by decide +kernel
theorem dX4_init_4 : decode cX4_init 4 = .ok (.aload_n 0, 1) := by decide +kernel
theorem dX4_init_5 : decode cX4_init 5 = .ok (.iload_n 1, 1) := by decide +kernel
theorem dX4_init_6 : decode cX4_init 6 = .ok (.putfield 9, 3) := by decide +kernel
theorem dX4_init_9 : decode cX4_init 9 = .ok (.aload_n 0, 1) := by decide +kernel
theorem dX4_init_10 : decode cX4_init 10 = .ok (.iload_n 2, 1) := by decide +kernel
theorem dX4_init_11 : decode cX4_init 11 = .ok (.putfield 15, 3) := by decide +kernel
theorem dX4_init_14 : decode cX4_init 14 = .ok (.aload_n 0, 1) := by decide +kernel
theorem dX4_init_15 : decode cX4_init 15 = .ok (.iload_n 3, 1) := by decide +kernel
theorem dX4_init_16 : decode cX4_init 16 = .ok (.putfield 18, 3) := by decide +kernel
theorem dX4_init_19 : decode cX4_init 19 = .ok (.aload_n 0, 1) := by decide +kernel
theorem dX4_init_20 : decode cX4_init 20 = .ok (.iconst 0, 1) := by decide +kernel
theorem dX4_init_21 : decode cX4_init 21 = .ok (.iload 4, 2) := by decide +kernel
theorem dX4_init_23 : decode cX4_init 23 = .ok (.invokestatic 21, 3) := by decide +kernel
theorem dX4_init_26 : decode cX4_init 26 = .ok (.newarray .int, 2) := by decide +kernel
theorem dX4_init_28 : decode cX4_init 28 = .ok (.putfield 27, 3) := by decide +kernel
theorem dX4_init_31 : decode cX4_init 31 = .ok (.return_, 1) := by decide +kernel
theorem dX5_init_0 : decode cX5_init 0 = .ok (.aload_n 0, 1) := by decide +kernel
theorem dX5_init_1 : decode cX5_init 1 = .ok (.invokespecial 3, 3) := by decide +kernel
theorem dX5_init_4 : decode cX5_init 4 = .ok (.aload_n 0, 1) := by decide +kernel
theorem dX5_init_5 : decode cX5_init 5 = .ok (.iconst 0, 1) := by decide +kernel
theorem dX5_init_6 : decode cX5_init 6 = .ok (.iload_n 1, 1) := by decide +kernel
theorem dX5_init_7 : decode cX5_init 7 = .ok (.invokestatic 9, 3) := by decide +kernel
theorem dX5_init_10 : decode cX5_init 10 = .ok (.newarray .long, 2) := by decide +kernel
theorem dX5_init_12 : decode cX5_init 12 = .ok (.putfield 15, 3) := by decide +kernel
theorem dX5_init_15 : decode cX5_init 15 = .ok (.return_, 1) := by decide +kernel
theorem dX5_isFull_0 : decode cX5_isFull 0 = .ok (.aload_n 0, 1) := by decide +kernel
theorem dX5_isFull_1 : decode cX5_isFull 1 = .ok (.getfield 21, 3) := by decide +kernel
theorem dX5_isFull_4 : decode cX5_isFull 4 = .ok (.aload_n 0, 1) := by decide +kernel
theorem dX5_isFull_5 : decode cX5_isFull 5 = .ok (.getfield 15, 3) := by decide +kernel
theorem dX5_isFull_8 : decode cX5_isFull 8 = .ok (.arraylength, 1) := by decide +kernel
theorem dX5_isFull_9 : decode cX5_isFull 9 = .ok (.if_icmp .lt 7, 3) := by decide +kernel
theorem dX5_isFull_12 : decode cX5_isFull 12 = .ok (.iconst 1, 1) := by decide +kernel
theorem dX5_isFull_13 : decode cX5_isFull 13 = .ok (.goto 4, 3) := by decide +kernel
theorem dX5_isFull_16 : decode cX5_isFull 16 = .ok (.iconst 0, 1) := by decide +kernel
theorem dX5_isFull_17 : decode cX5_isFull 17 = .ok (.ireturn, 1) := by decide +kernel
theorem dX5_has_0 : decode cX5_has 0 = .ok (.iload_n 1, 1) := by decide +kernel
theorem dX5_has_1 : decode cX5_has 1 = .ok (.ifCond .lt 15, 3) := by decide +kernel
theorem dX5_has_4 : decode cX5_has 4 = .ok (.iload_n 1, 1) := by decide +kernel
theorem dX5_has_5 : decode cX5_has 5 = .ok (.aload_n 0, 1) := by decide +kernel
theorem dX5_has_6 : decode cX5_has 6 = .ok (.getfield 21, 3) := by decide +kernel
theorem dX5_has_9 : decode cX5_has 9 = .ok (.if_icmp .ge 7, 3) := by decide +kernel
theorem dX5_has_12 : decode cX5_has 12 = .ok (.iconst 1, 1) := by decide +kernel
theorem dX5_has_13 : decode cX5_has 13 = .ok (.goto 4, 3) := by decide +kernel
theorem dX5_has_16 : decode cX5_has 16 = .ok (.iconst 0, 1) := by decide +kernel
theorem dX5_has_17 : decode cX5_has 17 = .ok (.ireturn, 1) := by decide +kernel
theorem dX5_numberOf_0 : decode cX5_numberOf 0 = .ok (.iconst 0, 1) := by decide +kernel
theorem dX5_numberOf_1 : decode cX5_numberOf 1 = .ok (.istore_n 3, 1) := by decide +kernel
theorem dX5_numberOf_2 : decode cX5_numberOf 2 = .ok (.iload_n 3, 1) := by decide +kernel
theorem dX5_numberOf_3 : decode cX5_numberOf 3 = .ok (.aload_n 0, 1) := by decide +kernel
theorem dX5_numberOf_4 : decode cX5_numberOf 4 = .ok (.getfield 21, 3) := by decide +kernel
theorem dX5_numberOf_7 : decode cX5_numberOf 7 = .ok (.if_icmp .ge 31, 3) := by decide +kernel
theorem dX5_numberOf_10 : decode cX5_numberOf 10 = .ok (.iload_n 3, 1) := by decide +kernel
theorem dX5_numberOf_11 : decode cX5_numberOf 11 = .ok (.aload_n 0, 1) := by decide +kernel
theorem dX5_numberOf_12 : decode cX5_numberOf 12 = .ok (.getfield 15, 3) := by decide +kernel
theorem dX5_numberOf_15 : decode cX5_numberOf 15 = .ok (.arraylength, 1) := by decide +kernel
theorem dX5_numberOf_16 : decode cX5_numberOf 16 = .ok (.if_icmp .ge 22, 3) := by decide +kernel
theorem dX5_numberOf_19 : decode cX5_numberOf 19 = .ok (.aload_n 0, 1) := by decide +kernel
theorem dX5_numberOf_20 : decode cX5_numberOf 20 = .ok (.getfield 15, 3) := by decide +kernel
theorem dX5_numberOf_23 : decode cX5_numberOf 23 = .ok (.iload_n 3, 1) := by decide +kernel
theorem dX5_numberOf_24 : decode cX5_numberOf 24 = .ok (.laload, 1) := by decide +kernel
theorem dX5_numberOf_25 : decode cX5_numberOf 25 = .ok (.lload_n 1, 1) := by decide +kernel
theorem dX5_numberOf_26 : decode cX5_numberOf 26 = .ok (.lcmp, 1) := by decide +kernel
theorem dX5_numberOf_27 : decode cX5_numberOf 27 = .ok (.ifCond .ne 5, 3) := by decide +kernel
theorem dX5_numberOf_30 : decode cX5_numberOf 30 = .ok (.iload_n 3, 1) := by decide +kernel
theorem dX5_numberOf_31 : decode cX5_numberOf 31 = .ok (.ireturn, 1) := by decide +kernel
theorem dX5_numberOf_32 : decode cX5_numberOf 32 = .ok (.iinc 3 1, 3) := by decide +kernel
theorem dX5_numberOf_35 : decode cX5_numberOf 35 = .ok (.goto (-33), 3) := by decide +kernel
theorem dX5_numberOf_38 : decode cX5_numberOf 38 = .ok (.iconst (-1), 1) := by decide +kernel
theorem dX5_numberOf_39 : decode cX5_numberOf 39 = .ok (.ireturn, 1) := by decide +kernel
theorem dX5_add_0 : decode cX5_add 0 = .ok (.aload_n 0, 1) := by decide +kernel
theorem dX5_add_1 : decode cX5_add 1 = .ok (.getfield 21, 3) := by decide +kernel
theorem dX5_add_4 : decode cX5_add 4 = .ok (.istore_n 3, 1) := by decide +kernel
theorem dX5_add_5 : decode cX5_add 5 = .ok (.iload_n 3, 1) := by decide +kernel
theorem dX5_add_6 : decode cX5_add 6 = .ok (.ifCond .lt 29, 3) := by decide +kernel
theorem dX5_add_9 : decode cX5_add 9 = .ok (.iload_n 3, 1) := by decide +kernel
theorem dX5_add_10 : decode cX5_add 10 = .ok (.aload_n 0, 1) := by decide +kernel
theorem dX5_add_11 : decode cX5_add 11 = .ok (.getfield 15, 3) := by decide +kernel
theorem dX5_add_14 : decode cX5_add 14 = .ok (.arraylength, 1) := by decide +kernel
theorem dX5_add_15 : decode cX5_add 15 = .ok (.if_icmp .ge 20, 3) := by decide +kernel
theorem dX5_add_18 : decode cX5_add 18 = .ok (.aload_n 0, 1) := by decide +kernel
theorem dX5_add_19 : decode cX5_add 19 = .ok (.getfield 15, 3) := by decide +kernel
theorem dX5_add_22 : decode cX5_add 22 = .ok (.iload_n 3, 1) := by decide +kernel
theorem dX5_add_23 : decode cX5_add 23 = .ok (.lload_n 1, 1) := by decide +kernel
theorem dX5_add_24 : decode cX5_add 24 = .ok (.lastore, 1) := by decide +kernel
theorem dX5_add_25 : decode cX5_add 25 = .ok (.aload_n 0, 1) := by decide +kernel
theorem dX5_add_26 : decode cX5_add 26 = .ok (.dup, 1) := by decide +kernel
theorem dX5_add_27 : decode cX5_add 27 = .ok (.getfield 21, 3) := by decide +kernel
theorem dX5_add_30 : decode cX5_add 30 = .ok (.iconst 1, 1) := by decide +kernel
theorem dX5_add_31 : decode cX5_add 31 = .ok (.iadd, 1) := by decide +kernel
theorem dX5_add_32 : decode cX5_add 32 = .ok (.putfield 21, 3) := by decide +kernel
theorem dX5_add_35 : decode cX5_add 35 = .ok (.iload_n 3, 1) := by decide +kernel
theorem dX5_add_36 : decode cX5_add 36 = .ok (.ireturn, 1) := by decide +kernel
theorem dX6_init_0 : decode cX6_init 0 = .ok (.aload_n 0, 1) := by decide +kernel
theorem dX6_init_1 : decode cX6_init 1 = .ok (.invokespecial 3, 3) := by decide +kernel
theorem dX6_init_4 : decode cX6_init 4 = .ok (.aload_n 0, 1) := by decide +kernel
theorem dX6_init_5 : decode cX6_init 5 = .ok (.aload_n 1, 1) := by decide +kernel
theorem dX6_init_6 : decode cX6_init 6 = .ok (.putfield 9, 3) := by decide +kernel
theorem dX6_init_9 : decode cX6_init 9 = .ok (.aload_n 0, 1) := by decide +kernel
theorem dX6_init_10 : decode cX6_init 10 = .ok (.new 15, 3) := by decide +kernel
theorem dX6_init_13 : decode cX6_init 13 = .ok (.dup, 1) := by decide +kernel
theorem dX6_init_14 : decode cX6_init 14 = .ok (.invokespecial 17, 3) := by decide +kernel
theorem dX6_init_17 : decode cX6_init 17 = .ok (.putfield 18, 3) := by decide +kernel
theorem dX6_init_20 : decode cX6_init 20 = .ok (.aload_n 0, 1) := by decide +kernel
theorem dX6_init_21 : decode cX6_init 21 = .ok (.iconst (-1), 1) := by decide +kernel
theorem dX6_init_22 : decode cX6_init 22 = .ok (.putfield 22, 3) := by decide +kernel
theorem dX6_init_25 : decode cX6_init 25 = .ok (.return_, 1) := by decide +kernel
theorem dX6_parse_0 : decode cX6_parse 0 = .ok (.aload_n 0, 1) := by decide +kernel
theorem dX6_parse_1 : decode cX6_parse 1 = .ok (.invokevirtual 26, 3) := by decide +kernel
theorem dX6_parse_4 : decode cX6_parse 4 = .ok (.aload_n 0, 1) := by decide +kernel
theorem dX6_parse_5 : decode cX6_parse 5 = .ok (.invokevirtual 29, 3) := by decide +kernel
theorem dX6_parse_8 : decode cX6_parse 8 = .ok (.istore_n 1, 1) := by decide +kernel
theorem dX6_parse_9 : decode cX6_parse 9 = .ok (.iconst 0, 1) := by decide +kernel
theorem dX6_parse_10 : decode cX6_parse 10 = .ok (.istore_n 2, 1) := by decide +kernel
theorem dX6_parse_11 : decode cX6_parse 11 = .ok (.iload_n 2, 1) := by decide +kernel
theorem dX6_parse_12 : decode cX6_parse 12 = .ok (.aload_n 0, 1) := by decide +kernel
theorem dX6_parse_13 : decode cX6_parse 13 = .ok (.getfield 9, 3) := by decide +kernel
theorem dX6_parse_16 : decode cX6_parse 16 = .ok (.getfield 33, 3) := by decide +kernel
theorem dX6_parse_19 : decode cX6_parse 19 = .ok (.if_icmp .ge 98, 3) := by decide +kernel
theorem dX6_parse_22 : decode cX6_parse 22 = .ok (.iload_n 1, 1) := by decide +kernel
theorem dX6_parse_23 : decode cX6_parse 23 = .ok (.ifCond .eq 94, 3) := by decide +kernel
theorem dX6_parse_26 : decode cX6_parse 26 = .ok (.aload_n 0, 1) := by decide +kernel
theorem dX6_parse_27 : decode cX6_parse 27 = .ok (.getfield 38, 3) := by decide +kernel
theorem dX6_parse_30 : decode cX6_parse 30 = .ok (.ifCond .eq 87, 3) := by decide +kernel
theorem dX6_parse_33 : decode cX6_parse 33 = .ok (.aload_n 0, 1) := by decide +kernel
theorem dX6_parse_34 : decode cX6_parse 34 = .ok (.getfield 41, 3) := by decide +kernel
theorem dX6_parse_37 : decode cX6_parse 37 = .ok (.getstatic 45, 3) := by decide +kernel
theorem dX6_parse_40 : decode cX6_parse 40 = .ok (.if_acmp .ne 11, 3) := by decide +kernel
theorem dX6_parse_43 : decode cX6_parse 43 = .ok (.aload_n 0, 1) := by decide +kernel
theorem dX6_parse_44 : decode cX6_parse 44 = .ok (.invokevirtual 50, 3) := by decide +kernel
theorem dX6_parse_47 : decode cX6_parse 47 = .ok (.istore_n 1, 1) := by decide +kernel
theorem dX6_parse_48 : decode cX6_parse 48 = .ok (.goto 63, 3) := by decide +kernel
theorem dX6_parse_51 : decode cX6_parse 51 = .ok (.aload_n 0, 1) := by decide +kernel
theorem dX6_parse_52 : decode cX6_parse 52 = .ok (.getfield 41, 3) := by decide +kernel
theorem dX6_parse_55 : decode cX6_parse 55 = .ok (.getstatic 53, 3) := by decide +kernel
theorem dX6_parse_58 : decode cX6_parse 58 = .ok (.if_acmp .ne 11, 3) := by decide +kernel
theorem dX6_parse_61 : decode cX6_parse 61 = .ok (.aload_n 0, 1) := by decide +kernel
theorem dX6_parse_62 : decode cX6_parse 62 = .ok (.invokevirtual 56, 3) := by decide +kernel
theorem dX6_parse_65 : decode cX6_parse 65 = .ok (.istore_n 1, 1) := by decide +kernel
theorem dX6_parse_66 : decode cX6_parse 66 = .ok (.goto 45, 3) := by decide +kernel
theorem dX6_parse_69 : decode cX6_parse 69 = .ok (.aload_n 0, 1) := by decide +kernel
theorem dX6_parse_70 : decode cX6_parse 70 = .ok (.getfield 41, 3) := by decide +kernel
theorem dX6_parse_73 : decode cX6_parse 73 = .ok (.getstatic 59, 3) := by decide +kernel
theorem dX6_parse_76 : decode cX6_parse 76 = .ok (.if_acmp .ne 11, 3) := by decide +kernel
theorem dX6_parse_79 : decode cX6_parse 79 = .ok (.aload_n 0, 1) := by decide +kernel
theorem dX6_parse_80 : decode cX6_parse 80 = .ok (.invokevirtual 62, 3) := by decide +kernel
theorem dX6_parse_83 : decode cX6_parse 83 = .ok (.istore_n 1, 1) := by decide +kernel
theorem dX6_parse_84 : decode cX6_parse 84 = .ok (.goto 27, 3) := by decide +kernel
theorem dX6_parse_87 : decode cX6_parse 87 = .ok (.aload_n 0, 1) := by decide +kernel
theorem dX6_parse_88 : decode cX6_parse 88 = .ok (.getfield 41, 3) := by decide +kernel
theorem dX6_parse_91 : decode cX6_parse 91 = .ok (.getstatic 65, 3) := by decide +kernel
theorem dX6_parse_94 : decode cX6_parse 94 = .ok (.if_acmp .ne 11, 3) := by decide +kernel
theorem dX6_parse_97 : decode cX6_parse 97 = .ok (.aload_n 0, 1) := by decide +kernel
theorem dX6_parse_98 : decode cX6_parse 98 = .ok (.invokevirtual 68, 3) := by decide +kernel
theorem dX6_parse_101 : decode cX6_parse 101 = .ok (.istore_n 1, 1) := by decide +kernel
theorem dX6_parse_102 : decode cX6_parse 102 = .ok (.goto 9, 3) := by decide +kernel
theorem dX6_parse_105 : decode cX6_parse 105 = .ok (.aload_n 0, 1) := by decide +kernel
theorem dX6_parse_106 : decode cX6_parse 106 = .ok (.iconst 1, 1) := by decide +kernel
theorem dX6_parse_107 : decode cX6_parse 107 = .ok (.invokevirtual 71, 3) := by decide +kernel
theorem dX6_parse_110 : decode cX6_parse 110 = .ok (.istore_n 1, 1) := by decide +kernel
theorem dX6_parse_111 : decode cX6_parse 111 = .ok (.iinc 2 1, 3) := by decide +kernel
theorem dX6_parse_114 : decode cX6_parse 114 = .ok (.goto (-103), 3) := by decide +kernel
theorem dX6_parse_117 : decode cX6_parse 117 = .ok (.iload_n 1, 1) := by decide +kernel
theorem dX6_parse_118 : decode cX6_parse 118 = .ok (.ireturn, 1) := by decide +kernel
theorem dX6_spoolStatement_0 : decode cX6_spoolStatement 0 = .ok (.aload_n 0, 1) := by decide +kernel
theorem dX6_spoolStatement_1 : decode cX6_spoolStatement 1 = .ok (.getstatic 75, 3) := by decide +kernel
theorem dX6_spoolStatement_4 : decode cX6_spoolStatement 4 = .ok (.invokevirtual 78, 3) := by decide +kernel
theorem dX6_spoolStatement_7 : decode cX6_spoolStatement 7 = .ok (.ifCond .eq 13, 3) := by decide +kernel
theorem dX6_spoolStatement_10 : decode cX6_spoolStatement 10 = .ok (.aload_n 0, 1) := by decide +kernel
theorem dX6_spoolStatement_11 : decode cX6_spoolStatement 11 = .ok (.getstatic 82, 3) := by decide +kernel
theorem dX6_spoolStatement_14 : decode cX6_spoolStatement 14 = .ok (.invokevirtual 78, 3) := by decide +kernel
theorem dX6_spoolStatement_17 : decode cX6_spoolStatement 17 = .ok (.ifCond .ne 5, 3) := by decide +kernel
theorem dX6_spoolStatement_20 : decode cX6_spoolStatement 20 = .ok (.iconst 0, 1) := by decide +kernel
theorem dX6_spoolStatement_21 : decode cX6_spoolStatement 21 = .ok (.ireturn, 1) := by decide +kernel
theorem dX6_spoolStatement_22 : decode cX6_spoolStatement 22 = .ok (.aload_n 0, 1) := by decide +kernel
theorem dX6_spoolStatement_23 : decode cX6_spoolStatement 23 = .ok (.getfield 18, 3) := by decide +kernel
theorem dX6_spoolStatement_26 : decode cX6_spoolStatement 26 = .ok (.aload_n 0, 1) := by decide +kernel
theorem dX6_spoolStatement_27 : decode cX6_spoolStatement 27 = .ok (.iconst 0, 1) := by decide +kernel
theorem dX6_spoolStatement_28 : decode cX6_spoolStatement 28 = .ok (.bipush 30, 2) := by decide +kernel
theorem dX6_spoolStatement_30 : decode cX6_spoolStatement 30 = .ok (.invokevirtual 85, 3) := by decide +kernel
theorem dX6_spoolStatement_33 : decode cX6_spoolStatement 33 = .ok (.putfield 89, 3) := by decide +kernel
theorem dX6_spoolStatement_36 : decode cX6_spoolStatement 36 = .ok (.aload_n 0, 1) := by decide +kernel
theorem dX6_spoolStatement_37 : decode cX6_spoolStatement 37 = .ok (.getfield 18, 3) := by decide +kernel
theorem dX6_spoolStatement_40 : decode cX6_spoolStatement 40 = .ok (.getfield 89, 3) := by decide +kernel
theorem dX6_spoolStatement_43 : decode cX6_spoolStatement 43 = .ok (.iconst (-1), 1) := by decide +kernel
theorem dX6_spoolStatement_44 : decode cX6_spoolStatement 44 = .ok (.if_icmp .eq 13, 3) := by decide +kernel
theorem dX6_spoolStatement_47 : decode cX6_spoolStatement 47 = .ok (.aload_n 0, 1) := by decide +kernel
theorem dX6_spoolStatement_48 : decode cX6_spoolStatement 48 = .ok (.getstatic 92, 3) := by decide +kernel
theorem dX6_spoolStatement_51 : decode cX6_spoolStatement 51 = .ok (.invokevirtual 78, 3) := by decide +kernel
theorem dX6_spoolStatement_54 : decode cX6_spoolStatement 54 = .ok (.ifCond .ne 5, 3) := by decide +kernel
theorem dX6_spoolStatement_57 : decode cX6_spoolStatement 57 = .ok (.iconst 0, 1) := by decide +kernel
theorem dX6_spoolStatement_58 : decode cX6_spoolStatement 58 = .ok (.ireturn, 1) := by decide +kernel
theorem dX6_spoolStatement_59 : decode cX6_spoolStatement 59 = .ok (.aload_n 0, 1) := by decide +kernel
theorem dX6_spoolStatement_60 : decode cX6_spoolStatement 60 = .ok (.getfield 18, 3) := by decide +kernel
theorem dX6_spoolStatement_63 : decode cX6_spoolStatement 63 = .ok (.aload_n 0, 1) := by decide +kernel
theorem dX6_spoolStatement_64 : decode cX6_spoolStatement 64 = .ok (.iconst 1, 1) := by decide +kernel
theorem dX6_spoolStatement_65 : decode cX6_spoolStatement 65 = .ok (.bipush 30, 2) := by decide +kernel
theorem dX6_spoolStatement_67 : decode cX6_spoolStatement 67 = .ok (.invokevirtual 85, 3) := by decide +kernel
theorem dX6_spoolStatement_70 : decode cX6_spoolStatement 70 = .ok (.putfield 95, 3) := by decide +kernel
theorem dX6_spoolStatement_73 : decode cX6_spoolStatement 73 = .ok (.aload_n 0, 1) := by decide +kernel
theorem dX6_spoolStatement_74 : decode cX6_spoolStatement 74 = .ok (.getfield 18, 3) := by decide +kernel
theorem dX6_spoolStatement_77 : decode cX6_spoolStatement 77 = .ok (.getfield 95, 3) := by decide +kernel
theorem dX6_spoolStatement_80 : decode cX6_spoolStatement 80 = .ok (.iconst (-1), 1) := by decide +kernel
theorem dX6_spoolStatement_81 : decode cX6_spoolStatement 81 = .ok (.if_icmp .eq 16, 3) := by decide +kernel
theorem dX6_spoolStatement_84 : decode cX6_spoolStatement 84 = .ok (.aload_n 0, 1) := by decide +kernel
theorem dX6_spoolStatement_85 : decode cX6_spoolStatement 85 = .ok (.bipush 59, 2) := by decide +kernel
theorem dX6_spoolStatement_87 : decode cX6_spoolStatement 87 = .ok (.invokevirtual 98, 3) := by decide +kernel
theorem dX6_spoolStatement_90 : decode cX6_spoolStatement 90 = .ok (.ifCond .eq 7, 3) := by decide +kernel
theorem dX6_spoolStatement_93 : decode cX6_spoolStatement 93 = .ok (.iconst 1, 1) := by decide +kernel
theorem dX6_spoolStatement_94 : decode cX6_spoolStatement 94 = .ok (.goto 4, 3) := by decide +kernel
theorem dX6_spoolStatement_97 : decode cX6_spoolStatement 97 = .ok (.iconst 0, 1) := by decide +kernel
theorem dX6_spoolStatement_98 : decode cX6_spoolStatement 98 = .ok (.ireturn, 1) := by decide +kernel
theorem dX6_classStatement_0 : decode cX6_classStatement 0 = .ok (.aload_n 0, 1) := by decide +kernel
theorem dX6_classStatement_1 : decode cX6_classStatement 1 = .ok (.getfield 18, 3) := by decide +kernel
theorem dX6_classStatement_4 : decode cX6_classStatement 4 = .ok (.getfield 101, 3) := by decide +kernel
theorem dX6_classStatement_7 : decode cX6_classStatement 7 = .ok (.invokevirtual 105, 3) := by decide +kernel
theorem dX6_classStatement_10 : decode cX6_classStatement 10 = .ok (.ifCond .eq 9, 3) := by decide +kernel
theorem dX6_classStatement_13 : decode cX6_classStatement 13 = .ok (.aload_n 0, 1) := by decide +kernel
theorem dX6_classStatement_14 : decode cX6_classStatement 14 = .ok (.iconst 4, 1) := by decide +kernel
theorem dX6_classStatement_15 : decode cX6_classStatement 15 = .ok (.invokevirtual 71, 3) := by decide +kernel
theorem dX6_classStatement_18 : decode cX6_classStatement 18 = .ok (.ireturn, 1) := by decide +kernel
theorem dX6_classStatement_19 : decode cX6_classStatement 19 = .ok (.aload_n 0, 1) := by decide +kernel
theorem dX6_classStatement_20 : decode cX6_classStatement 20 = .ok (.invokevirtual 26, 3) := by decide +kernel
theorem dX6_classStatement_23 : decode cX6_classStatement 23 = .ok (.aload_n 0, 1) := by decide +kernel
theorem dX6_classStatement_24 : decode cX6_classStatement 24 = .ok (.aload_n 0, 1) := by decide +kernel
theorem dX6_classStatement_25 : decode cX6_classStatement 25 = .ok (.getfield 18, 3) := by decide +kernel
theorem dX6_classStatement_28 : decode cX6_classStatement 28 = .ok (.getfield 101, 3) := by decide +kernel
theorem dX6_classStatement_31 : decode cX6_classStatement 31 = .ok (.aload_n 0, 1) := by decide +kernel
theorem dX6_classStatement_32 : decode cX6_classStatement 32 = .ok (.getfield 18, 3) := by decide +kernel
theorem dX6_classStatement_35 : decode cX6_classStatement 35 = .ok (.getfield 101, 3) := by decide +kernel
theorem dX6_classStatement_38 : decode cX6_classStatement 38 = .ok (.invokevirtual 110, 3) := by decide +kernel
theorem dX6_classStatement_41 : decode cX6_classStatement 41 = .ok (.lstore_n 1, 1) := by decide +kernel
theorem dX6_classStatement_42 : decode cX6_classStatement 42 = .ok (.lload_n 1, 1) := by decide +kernel
theorem dX6_classStatement_43 : decode cX6_classStatement 43 = .ok (.lconst 0, 1) := by decide +kernel
theorem dX6_classStatement_44 : decode cX6_classStatement 44 = .ok (.lcmp, 1) := by decide +kernel
theorem dX6_classStatement_45 : decode cX6_classStatement 45 = .ok (.ifCond .eq 13, 3) := by decide +kernel
theorem dX6_classStatement_48 : decode cX6_classStatement 48 = .ok (.aload_n 0, 1) := by decide +kernel
theorem dX6_classStatement_49 : decode cX6_classStatement 49 = .ok (.getstatic 114, 3) := by decide +kernel
theorem dX6_classStatement_52 : decode cX6_classStatement 52 = .ok (.invokevirtual 78, 3) := by decide +kernel
theorem dX6_classStatement_55 : decode cX6_classStatement 55 = .ok (.ifCond .ne 5, 3) := by decide +kernel
theorem dX6_classStatement_58 : decode cX6_classStatement 58 = .ok (.iconst 0, 1) := by decide +kernel
theorem dX6_classStatement_59 : decode cX6_classStatement 59 = .ok (.ireturn, 1) := by decide +kernel
theorem dX6_classStatement_60 : decode cX6_classStatement 60 = .ok (.iconst (-1), 1) := by decide +kernel
theorem dX6_classStatement_61 : decode cX6_classStatement 61 = .ok (.istore_n 3, 1) := by decide +kernel
theorem dX6_classStatement_62 : decode cX6_classStatement 62 = .ok (.aload_n 0, 1) := by decide +kernel
theorem dX6_classStatement_63 : decode cX6_classStatement 63 = .ok (.getfield 41, 3) := by decide +kernel
theorem dX6_classStatement_66 : decode cX6_classStatement 66 = .ok (.getstatic 117, 3) := by decide +kernel
theorem dX6_classStatement_69 : decode cX6_classStatement 69 = .ok (.if_acmp .ne 10, 3) := by decide +kernel
theorem dX6_classStatement_72 : decode cX6_classStatement 72 = .ok (.aload_n 0, 1) := by decide +kernel
theorem dX6_classStatement_73 : decode cX6_classStatement 73 = .ok (.invokevirtual 26, 3) := by decide +kernel
theorem dX6_classStatement_76 : decode cX6_classStatement 76 = .ok (.goto 19, 3) := by decide +kernel
theorem dX6_classStatement_79 : decode cX6_classStatement 79 = .ok (.aload_n 0, 1) := by decide +kernel
theorem dX6_classStatement_80 : decode cX6_classStatement 80 = .ok (.iconst 1, 1) := by decide +kernel
theorem dX6_classStatement_81 : decode cX6_classStatement 81 = .ok (.sipush 999, 3) := by decide +kernel
theorem dX6_classStatement_84 : decode cX6_classStatement 84 = .ok (.invokevirtual 85, 3) := by decide +kernel
theorem dX6_classStatement_87 : decode cX6_classStatement 87 = .ok (.istore_n 3, 1) := by decide +kernel
theorem dX6_classStatement_88 : decode cX6_classStatement 88 = .ok (.iload_n 3, 1) := by decide +kernel
theorem dX6_classStatement_89 : decode cX6_classStatement 89 = .ok (.iconst (-1), 1) := by decide +kernel
theorem dX6_classStatement_90 : decode cX6_classStatement 90 = .ok (.if_icmp .ne 5, 3) := by decide +kernel
theorem dX6_classStatement_93 : decode cX6_classStatement 93 = .ok (.iconst 0, 1) := by decide +kernel
theorem dX6_classStatement_94 : decode cX6_classStatement 94 = .ok (.ireturn, 1) := by decide +kernel
theorem dX6_classStatement_95 : decode cX6_classStatement 95 = .ok (.iconst 0, 1) := by decide +kernel
theorem dX6_classStatement_96 : decode cX6_classStatement 96 = .ok (.istore 4, 2) := by decide +kernel
theorem dX6_classStatement_98 : decode cX6_classStatement 98 = .ok (.aload_n 0, 1) := by decide +kernel
theorem dX6_classStatement_99 : decode cX6_classStatement 99 = .ok (.getfield 41, 3) := by decide +kernel
theorem dX6_classStatement_102 : decode cX6_classStatement 102 = .ok (.getstatic 120, 3) := by decide +kernel
theorem dX6_classStatement_105 : decode cX6_classStatement 105 = .ok (.if_acmp .ne 24, 3) := by decide +kernel
theorem dX6_classStatement_108 : decode cX6_classStatement 108 = .ok (.aload_n 0, 1) := by decide +kernel
theorem dX6_classStatement_109 : decode cX6_classStatement 109 = .ok (.invokevirtual 26, 3) := by decide +kernel
theorem dX6_classStatement_112 : decode cX6_classStatement 112 = .ok (.aload_n 0, 1) := by decide +kernel
theorem dX6_classStatement_113 : decode cX6_classStatement 113 = .ok (.iconst 1, 1) := by decide +kernel
theorem dX6_classStatement_114 : decode cX6_classStatement 114 = .ok (.bipush 99, 2) := by decide +kernel
theorem dX6_classStatement_116 : decode cX6_classStatement 116 = .ok (.invokevirtual 85, 3) := by decide +kernel
theorem dX6_classStatement_119 : decode cX6_classStatement 119 = .ok (.istore 4, 2) := by decide +kernel
theorem dX6_classStatement_121 : decode cX6_classStatement 121 = .ok (.iload 4, 2) := by decide +kernel
theorem dX6_classStatement_123 : decode cX6_classStatement 123 = .ok (.iconst (-1), 1) := by decide +kernel
theorem dX6_classStatement_124 : decode cX6_classStatement 124 = .ok (.if_icmp .ne 5, 3) := by decide +kernel
theorem dX6_classStatement_127 : decode cX6_classStatement 127 = .ok (.iconst 0, 1) := by decide +kernel
theorem dX6_classStatement_128 : decode cX6_classStatement 128 = .ok (.ireturn, 1) := by decide +kernel
theorem dX6_classStatement_129 : decode cX6_classStatement 129 = .ok (.iconst (-1), 1) := by decide +kernel
theorem dX6_classStatement_130 : decode cX6_classStatement 130 = .ok (.istore 5, 2) := by decide +kernel
theorem dX6_classStatement_132 : decode cX6_classStatement 132 = .ok (.aload_n 0, 1) := by decide +kernel
theorem dX6_classStatement_133 : decode cX6_classStatement 133 = .ok (.getfield 41, 3) := by decide +kernel
theorem dX6_classStatement_136 : decode cX6_classStatement 136 = .ok (.getstatic 123, 3) := by decide +kernel
theorem dX6_classStatement_139 : decode cX6_classStatement 139 = .ok (.if_acmp .ne 28, 3) := by decide +kernel
theorem dX6_classStatement_142 : decode cX6_classStatement 142 = .ok (.aload_n 0, 1) := by decide +kernel
theorem dX6_classStatement_143 : decode cX6_classStatement 143 = .ok (.invokevirtual 26, 3) := by decide +kernel
theorem dX6_classStatement_146 : decode cX6_classStatement 146 = .ok (.aload_n 0, 1) := by decide +kernel
theorem dX6_classStatement_147 : decode cX6_classStatement 147 = .ok (.aload_n 0, 1) := by decide +kernel
theorem dX6_classStatement_148 : decode cX6_classStatement 148 = .ok (.getfield 18, 3) := by decide +kernel
theorem dX6_classStatement_151 : decode cX6_classStatement 151 = .ok (.getfield 101, 3) := by decide +kernel
theorem dX6_classStatement_154 : decode cX6_classStatement 154 = .ok (.invokevirtual 126, 3) := by decide +kernel
theorem dX6_classStatement_157 : decode cX6_classStatement 157 = .ok (.istore 5, 2) := by decide +kernel
theorem dX6_classStatement_159 : decode cX6_classStatement 159 = .ok (.iload 5, 2) := by decide +kernel
theorem dX6_classStatement_161 : decode cX6_classStatement 161 = .ok (.iconst (-1), 1) := by decide +kernel
theorem dX6_classStatement_162 : decode cX6_classStatement 162 = .ok (.if_icmp .ne 5, 3) := by decide +kernel
theorem dX6_classStatement_165 : decode cX6_classStatement 165 = .ok (.iconst 0, 1) := by decide +kernel
theorem dX6_classStatement_166 : decode cX6_classStatement 166 = .ok (.ireturn, 1) := by decide +kernel
theorem dX6_classStatement_167 : decode cX6_classStatement 167 = .ok (.aload_n 0, 1) := by decide +kernel
theorem dX6_classStatement_168 : decode cX6_classStatement 168 = .ok (.bipush 59, 2) := by decide +kernel
theorem dX6_classStatement_170 : decode cX6_classStatement 170 = .ok (.invokevirtual 98, 3) := by decide +kernel
theorem dX6_classStatement_173 : decode cX6_classStatement 173 = .ok (.ifCond .ne 5, 3) := by decide +kernel
theorem dX6_classStatement_176 : decode cX6_classStatement 176 = .ok (.iconst 0, 1) := by decide +kernel
theorem dX6_classStatement_177 : decode cX6_classStatement 177 = .ok (.ireturn, 1) := by decide +kernel
theorem dX6_classStatement_178 : decode cX6_classStatement 178 = .ok (.aload_n 0, 1) := by decide +kernel
theorem dX6_classStatement_179 : decode cX6_classStatement 179 = .ok (.getfield 18, 3) := by decide +kernel
theorem dX6_classStatement_182 : decode cX6_classStatement 182 = .ok (.lload_n 1, 1) := by decide +kernel
theorem dX6_classStatement_183 : decode cX6_classStatement 183 = .ok (.iload_n 3, 1) := by decide +kernel
theorem dX6_classStatement_184 : decode cX6_classStatement 184 = .ok (.iload 4, 2) := by decide +kernel
theorem dX6_classStatement_186 : decode cX6_classStatement 186 = .ok (.iload 5, 2) := by decide +kernel
theorem dX6_classStatement_188 : decode cX6_classStatement 188 = .ok (.invokevirtual 130, 3) := by decide +kernel
theorem dX6_classStatement_191 : decode cX6_classStatement 191 = .ok (.iconst 1, 1) := by decide +kernel
theorem dX6_classStatement_192 : decode cX6_classStatement 192 = .ok (.ireturn, 1) := by decide +kernel
theorem dX6_userStatement_0 : decode cX6_userStatement 0 = .ok (.aload_n 0, 1) := by decide +kernel
theorem dX6_userStatement_1 : decode cX6_userStatement 1 = .ok (.getfield 18, 3) := by decide +kernel
theorem dX6_userStatement_4 : decode cX6_userStatement 4 = .ok (.getfield 134, 3) := by decide +kernel
theorem dX6_userStatement_7 : decode cX6_userStatement 7 = .ok (.invokevirtual 105, 3) := by decide +kernel
theorem dX6_userStatement_10 : decode cX6_userStatement 10 = .ok (.ifCond .ne 16, 3) := by decide +kernel
theorem dX6_userStatement_13 : decode cX6_userStatement 13 = .ok (.aload_n 0, 1) := by decide +kernel
theorem dX6_userStatement_14 : decode cX6_userStatement 14 = .ok (.getfield 18, 3) := by decide +kernel
theorem dX6_userStatement_17 : decode cX6_userStatement 17 = .ok (.getfield 101, 3) := by decide +kernel
theorem dX6_userStatement_20 : decode cX6_userStatement 20 = .ok (.getfield 137, 3) := by decide +kernel
theorem dX6_userStatement_23 : decode cX6_userStatement 23 = .ok (.ifCond .ne 9, 3) := by decide +kernel
theorem dX6_userStatement_26 : decode cX6_userStatement 26 = .ok (.aload_n 0, 1) := by decide +kernel
theorem dX6_userStatement_27 : decode cX6_userStatement 27 = .ok (.iconst 4, 1) := by decide +kernel
theorem dX6_userStatement_28 : decode cX6_userStatement 28 = .ok (.invokevirtual 71, 3) := by decide +kernel
theorem dX6_userStatement_31 : decode cX6_userStatement 31 = .ok (.ireturn, 1) := by decide +kernel
theorem dX6_userStatement_32 : decode cX6_userStatement 32 = .ok (.aload_n 0, 1) := by decide +kernel
theorem dX6_userStatement_33 : decode cX6_userStatement 33 = .ok (.invokevirtual 26, 3) := by decide +kernel
theorem dX6_userStatement_36 : decode cX6_userStatement 36 = .ok (.aload_n 0, 1) := by decide +kernel
theorem dX6_userStatement_37 : decode cX6_userStatement 37 = .ok (.aload_n 0, 1) := by decide +kernel
theorem dX6_userStatement_38 : decode cX6_userStatement 38 = .ok (.getfield 18, 3) := by decide +kernel
theorem dX6_userStatement_41 : decode cX6_userStatement 41 = .ok (.getfield 134, 3) := by decide +kernel
theorem dX6_userStatement_44 : decode cX6_userStatement 44 = .ok (.aload_n 0, 1) := by decide +kernel
theorem dX6_userStatement_45 : decode cX6_userStatement 45 = .ok (.getfield 18, 3) := by decide +kernel
theorem dX6_userStatement_48 : decode cX6_userStatement 48 = .ok (.getfield 138, 3) := by decide +kernel
theorem dX6_userStatement_51 : decode cX6_userStatement 51 = .ok (.invokevirtual 110, 3) := by decide +kernel
theorem dX6_userStatement_54 : decode cX6_userStatement 54 = .ok (.lstore_n 1, 1) := by decide +kernel
theorem dX6_userStatement_55 : decode cX6_userStatement 55 = .ok (.lload_n 1, 1) := by decide +kernel
theorem dX6_userStatement_56 : decode cX6_userStatement 56 = .ok (.lconst 0, 1) := by decide +kernel
theorem dX6_userStatement_57 : decode cX6_userStatement 57 = .ok (.lcmp, 1) := by decide +kernel
theorem dX6_userStatement_58 : decode cX6_userStatement 58 = .ok (.ifCond .eq 13, 3) := by decide +kernel
theorem dX6_userStatement_61 : decode cX6_userStatement 61 = .ok (.aload_n 0, 1) := by decide +kernel
theorem dX6_userStatement_62 : decode cX6_userStatement 62 = .ok (.getstatic 45, 3) := by decide +kernel
theorem dX6_userStatement_65 : decode cX6_userStatement 65 = .ok (.invokevirtual 78, 3) := by decide +kernel
theorem dX6_userStatement_68 : decode cX6_userStatement 68 = .ok (.ifCond .ne 5, 3) := by decide +kernel
theorem dX6_userStatement_71 : decode cX6_userStatement 71 = .ok (.iconst 0, 1) := by decide +kernel
theorem dX6_userStatement_72 : decode cX6_userStatement 72 = .ok (.ireturn, 1) := by decide +kernel
theorem dX6_userStatement_73 : decode cX6_userStatement 73 = .ok (.aload_n 0, 1) := by decide +kernel
theorem dX6_userStatement_74 : decode cX6_userStatement 74 = .ok (.aload_n 0, 1) := by decide +kernel
theorem dX6_userStatement_75 : decode cX6_userStatement 75 = .ok (.getfield 18, 3) := by decide +kernel
theorem dX6_userStatement_78 : decode cX6_userStatement 78 = .ok (.getfield 101, 3) := by decide +kernel
theorem dX6_userStatement_81 : decode cX6_userStatement 81 = .ok (.invokevirtual 126, 3) := by decide +kernel
theorem dX6_userStatement_84 : decode cX6_userStatement 84 = .ok (.istore_n 3, 1) := by decide +kernel
theorem dX6_userStatement_85 : decode cX6_userStatement 85 = .ok (.iload_n 3, 1) := by decide +kernel
theorem dX6_userStatement_86 : decode cX6_userStatement 86 = .ok (.iconst (-1), 1) := by decide +kernel
theorem dX6_userStatement_87 : decode cX6_userStatement 87 = .ok (.if_icmp .eq 13, 3) := by decide +kernel
theorem dX6_userStatement_90 : decode cX6_userStatement 90 = .ok (.aload_n 0, 1) := by decide +kernel
theorem dX6_userStatement_91 : decode cX6_userStatement 91 = .ok (.getstatic 141, 3) := by decide +kernel
theorem dX6_userStatement_94 : decode cX6_userStatement 94 = .ok (.invokevirtual 78, 3) := by decide +kernel
theorem dX6_userStatement_97 : decode cX6_userStatement 97 = .ok (.ifCond .ne 5, 3) := by decide +kernel
theorem dX6_userStatement_100 : decode cX6_userStatement 100 = .ok (.iconst 0, 1) := by decide +kernel
theorem dX6_userStatement_101 : decode cX6_userStatement 101 = .ok (.ireturn, 1) := by decide +kernel
theorem dX6_userStatement_102 : decode cX6_userStatement 102 = .ok (.aload_n 0, 1) := by decide +kernel
theorem dX6_userStatement_103 : decode cX6_userStatement 103 = .ok (.iconst 1, 1) := by decide +kernel
theorem dX6_userStatement_104 : decode cX6_userStatement 104 = .ok (.ldc 144, 2) := by decide +kernel
theorem dX6_userStatement_106 : decode cX6_userStatement 106 = .ok (.invokevirtual 85, 3) := by decide +kernel
theorem dX6_userStatement_109 : decode cX6_userStatement 109 = .ok (.istore 4, 2) := by decide +kernel
theorem dX6_userStatement_111 : decode cX6_userStatement 111 = .ok (.iload 4, 2) := by decide +kernel
theorem dX6_userStatement_113 : decode cX6_userStatement 113 = .ok (.iconst (-1), 1) := by decide +kernel
theorem dX6_userStatement_114 : decode cX6_userStatement 114 = .ok (.if_icmp .eq 12, 3) := by decide +kernel
theorem dX6_userStatement_117 : decode cX6_userStatement 117 = .ok (.aload_n 0, 1) := by decide +kernel
theorem dX6_userStatement_118 : decode cX6_userStatement 118 = .ok (.bipush 59, 2) := by decide +kernel
theorem dX6_userStatement_120 : decode cX6_userStatement 120 = .ok (.invokevirtual 98, 3) := by decide +kernel
theorem dX6_userStatement_123 : decode cX6_userStatement 123 = .ok (.ifCond .ne 5, 3) := by decide +kernel
theorem dX6_userStatement_126 : decode cX6_userStatement 126 = .ok (.iconst 0, 1) := by decide +kernel
theorem dX6_userStatement_127 : decode cX6_userStatement 127 = .ok (.ireturn, 1) := by decide +kernel
theorem dX6_userStatement_128 : decode cX6_userStatement 128 = .ok (.aload_n 0, 1) := by decide +kernel
theorem dX6_userStatement_129 : decode cX6_userStatement 129 = .ok (.getfield 18, 3) := by decide +kernel
theorem dX6_userStatement_132 : decode cX6_userStatement 132 = .ok (.lload_n 1, 1) := by decide +kernel
theorem dX6_userStatement_133 : decode cX6_userStatement 133 = .ok (.iload_n 3, 1) := by decide +kernel
theorem dX6_userStatement_134 : decode cX6_userStatement 134 = .ok (.iload 4, 2) := by decide +kernel
theorem dX6_userStatement_136 : decode cX6_userStatement 136 = .ok (.invokevirtual 145, 3) := by decide +kernel
theorem dX6_userStatement_139 : decode cX6_userStatement 139 = .ok (.iconst 1, 1) := by decide +kernel
theorem dX6_userStatement_140 : decode cX6_userStatement 140 = .ok (.ireturn, 1) := by decide +kernel
theorem dX6_groupStatement_0 : decode cX6_groupStatement 0 = .ok (.aload_n 0, 1) := by decide +kernel
theorem dX6_groupStatement_1 : decode cX6_groupStatement 1 = .ok (.getfield 18, 3) := by decide +kernel
theorem dX6_groupStatement_4 : decode cX6_groupStatement 4 = .ok (.getfield 138, 3) := by decide +kernel
theorem dX6_groupStatement_7 : decode cX6_groupStatement 7 = .ok (.invokevirtual 105, 3) := by decide +kernel
theorem dX6_groupStatement_10 : decode cX6_groupStatement 10 = .ok (.ifCond .ne 16, 3) := by decide +kernel
theorem dX6_groupStatement_13 : decode cX6_groupStatement 13 = .ok (.aload_n 0, 1) := by decide +kernel
theorem dX6_groupStatement_14 : decode cX6_groupStatement 14 = .ok (.getfield 18, 3) := by decide +kernel
theorem dX6_groupStatement_17 : decode cX6_groupStatement 17 = .ok (.getfield 134, 3) := by decide +kernel
theorem dX6_groupStatement_20 : decode cX6_groupStatement 20 = .ok (.getfield 137, 3) := by decide +kernel
theorem dX6_groupStatement_23 : decode cX6_groupStatement 23 = .ok (.ifCond .ne 9, 3) := by decide +kernel
theorem dX6_groupStatement_26 : decode cX6_groupStatement 26 = .ok (.aload_n 0, 1) := by decide +kernel
theorem dX6_groupStatement_27 : decode cX6_groupStatement 27 = .ok (.iconst 4, 1) := by decide +kernel
theorem dX6_groupStatement_28 : decode cX6_groupStatement 28 = .ok (.invokevirtual 71, 3) := by decide +kernel
theorem dX6_groupStatement_31 : decode cX6_groupStatement 31 = .ok (.ireturn, 1) := by decide +kernel
theorem dX6_groupStatement_32 : decode cX6_groupStatement 32 = .ok (.aload_n 0, 1) := by decide +kernel
theorem dX6_groupStatement_33 : decode cX6_groupStatement 33 = .ok (.invokevirtual 26, 3) := by decide +kernel
theorem dX6_groupStatement_36 : decode cX6_groupStatement 36 = .ok (.aload_n 0, 1) := by decide +kernel
theorem dX6_groupStatement_37 : decode cX6_groupStatement 37 = .ok (.aload_n 0, 1) := by decide +kernel
theorem dX6_groupStatement_38 : decode cX6_groupStatement 38 = .ok (.getfield 18, 3) := by decide +kernel
theorem dX6_groupStatement_41 : decode cX6_groupStatement 41 = .ok (.getfield 134, 3) := by decide +kernel
theorem dX6_groupStatement_44 : decode cX6_groupStatement 44 = .ok (.aload_n 0, 1) := by decide +kernel
theorem dX6_groupStatement_45 : decode cX6_groupStatement 45 = .ok (.getfield 18, 3) := by decide +kernel
theorem dX6_groupStatement_48 : decode cX6_groupStatement 48 = .ok (.getfield 138, 3) := by decide +kernel
theorem dX6_groupStatement_51 : decode cX6_groupStatement 51 = .ok (.invokevirtual 110, 3) := by decide +kernel
theorem dX6_groupStatement_54 : decode cX6_groupStatement 54 = .ok (.lstore_n 1, 1) := by decide +kernel
theorem dX6_groupStatement_55 : decode cX6_groupStatement 55 = .ok (.lload_n 1, 1) := by decide +kernel
theorem dX6_groupStatement_56 : decode cX6_groupStatement 56 = .ok (.lconst 0, 1) := by decide +kernel
theorem dX6_groupStatement_57 : decode cX6_groupStatement 57 = .ok (.lcmp, 1) := by decide +kernel
theorem dX6_groupStatement_58 : decode cX6_groupStatement 58 = .ok (.ifCond .ne 5, 3) := by decide +kernel
theorem dX6_groupStatement_61 : decode cX6_groupStatement 61 = .ok (.iconst 0, 1) := by decide +kernel
theorem dX6_groupStatement_62 : decode cX6_groupStatement 62 = .ok (.ireturn, 1) := by decide +kernel
theorem dX6_groupStatement_63 : decode cX6_groupStatement 63 = .ok (.aload_n 0, 1) := by decide +kernel
theorem dX6_groupStatement_64 : decode cX6_groupStatement 64 = .ok (.invokevirtual 149, 3) := by decide +kernel
theorem dX6_groupStatement_67 : decode cX6_groupStatement 67 = .ok (.istore_n 3, 1) := by decide +kernel
theorem dX6_groupStatement_68 : decode cX6_groupStatement 68 = .ok (.iload_n 3, 1) := by decide +kernel
theorem dX6_groupStatement_69 : decode cX6_groupStatement 69 = .ok (.ifCond .ne 5, 3) := by decide +kernel
theorem dX6_groupStatement_72 : decode cX6_groupStatement 72 = .ok (.iconst 0, 1) := by decide +kernel
theorem dX6_groupStatement_73 : decode cX6_groupStatement 73 = .ok (.ireturn, 1) := by decide +kernel
theorem dX6_groupStatement_74 : decode cX6_groupStatement 74 = .ok (.iconst 0, 1) := by decide +kernel
theorem dX6_groupStatement_75 : decode cX6_groupStatement 75 = .ok (.istore 4, 2) := by decide +kernel
theorem dX6_groupStatement_77 : decode cX6_groupStatement 77 = .ok (.iload 4, 2) := by decide +kernel
theorem dX6_groupStatement_79 : decode cX6_groupStatement 79 = .ok (.aload_n 0, 1) := by decide +kernel
theorem dX6_groupStatement_80 : decode cX6_groupStatement 80 = .ok (.getfield 9, 3) := by decide +kernel
theorem dX6_groupStatement_83 : decode cX6_groupStatement 83 = .ok (.getfield 33, 3) := by decide +kernel
theorem dX6_groupStatement_86 : decode cX6_groupStatement 86 = .ok (.if_icmp .ge 40, 3) := by decide +kernel
theorem dX6_groupStatement_89 : decode cX6_groupStatement 89 = .ok (.aload_n 0, 1) := by decide +kernel
theorem dX6_groupStatement_90 : decode cX6_groupStatement 90 = .ok (.bipush 44, 2) := by decide +kernel
theorem dX6_groupStatement_92 : decode cX6_groupStatement 92 = .ok (.invokevirtual 153, 3) := by decide +kernel
theorem dX6_groupStatement_95 : decode cX6_groupStatement 95 = .ok (.ifCond .eq 31, 3) := by decide +kernel
theorem dX6_groupStatement_98 : decode cX6_groupStatement 98 = .ok (.aload_n 0, 1) := by decide +kernel
theorem dX6_groupStatement_99 : decode cX6_groupStatement 99 = .ok (.invokevirtual 26, 3) := by decide +kernel
theorem dX6_groupStatement_102 : decode cX6_groupStatement 102 = .ok (.aload_n 0, 1) := by decide +kernel
theorem dX6_groupStatement_103 : decode cX6_groupStatement 103 = .ok (.invokevirtual 149, 3) := by decide +kernel
theorem dX6_groupStatement_106 : decode cX6_groupStatement 106 = .ok (.istore 5, 2) := by decide +kernel
theorem dX6_groupStatement_108 : decode cX6_groupStatement 108 = .ok (.iload 5, 2) := by decide +kernel
theorem dX6_groupStatement_110 : decode cX6_groupStatement 110 = .ok (.ifCond .ne 5, 3) := by decide +kernel
theorem dX6_groupStatement_113 : decode cX6_groupStatement 113 = .ok (.iconst 0, 1) := by decide +kernel
theorem dX6_groupStatement_114 : decode cX6_groupStatement 114 = .ok (.ireturn, 1) := by decide +kernel
theorem dX6_groupStatement_115 : decode cX6_groupStatement 115 = .ok (.iload_n 3, 1) := by decide +kernel
theorem dX6_groupStatement_116 : decode cX6_groupStatement 116 = .ok (.iload 5, 2) := by decide +kernel
theorem dX6_groupStatement_118 : decode cX6_groupStatement 118 = .ok (.ior, 1) := by decide +kernel
theorem dX6_groupStatement_119 : decode cX6_groupStatement 119 = .ok (.istore_n 3, 1) := by decide +kernel
theorem dX6_groupStatement_120 : decode cX6_groupStatement 120 = .ok (.iinc 4 1, 3) := by decide +kernel
theorem dX6_groupStatement_123 : decode cX6_groupStatement 123 = .ok (.goto (-46), 3) := by decide +kernel
theorem dX6_groupStatement_126 : decode cX6_groupStatement 126 = .ok (.aload_n 0, 1) := by decide +kernel
theorem dX6_groupStatement_127 : decode cX6_groupStatement 127 = .ok (.bipush 59, 2) := by decide +kernel
theorem dX6_groupStatement_129 : decode cX6_groupStatement 129 = .ok (.invokevirtual 98, 3) := by decide +kernel
theorem dX6_groupStatement_132 : decode cX6_groupStatement 132 = .ok (.ifCond .ne 5, 3) := by decide +kernel
theorem dX6_groupStatement_135 : decode cX6_groupStatement 135 = .ok (.iconst 0, 1) := by decide +kernel
theorem dX6_groupStatement_136 : decode cX6_groupStatement 136 = .ok (.ireturn, 1) := by decide +kernel
theorem dX6_groupStatement_137 : decode cX6_groupStatement 137 = .ok (.aload_n 0, 1) := by decide +kernel
theorem dX6_groupStatement_138 : decode cX6_groupStatement 138 = .ok (.getfield 18, 3) := by decide +kernel
theorem dX6_groupStatement_141 : decode cX6_groupStatement 141 = .ok (.lload_n 1, 1) := by decide +kernel
theorem dX6_groupStatement_142 : decode cX6_groupStatement 142 = .ok (.iload_n 3, 1) := by decide +kernel
theorem dX6_groupStatement_143 : decode cX6_groupStatement 143 = .ok (.invokevirtual 156, 3) := by decide +kernel
theorem dX6_groupStatement_146 : decode cX6_groupStatement 146 = .ok (.iconst 1, 1) := by decide +kernel
theorem dX6_groupStatement_147 : decode cX6_groupStatement 147 = .ok (.ireturn, 1) := by decide +kernel
theorem dX6_holdStatement_0 : decode cX6_holdStatement 0 = .ok (.aload_n 0, 1) := by decide +kernel
theorem dX6_holdStatement_1 : decode cX6_holdStatement 1 = .ok (.getfield 18, 3) := by decide +kernel
theorem dX6_holdStatement_4 : decode cX6_holdStatement 4 = .ok (.getfield 160, 3) := by decide +kernel
theorem dX6_holdStatement_7 : decode cX6_holdStatement 7 = .ok (.invokevirtual 105, 3) := by decide +kernel
theorem dX6_holdStatement_10 : decode cX6_holdStatement 10 = .ok (.ifCond .ne 16, 3) := by decide +kernel
theorem dX6_holdStatement_13 : decode cX6_holdStatement 13 = .ok (.aload_n 0, 1) := by decide +kernel
theorem dX6_holdStatement_14 : decode cX6_holdStatement 14 = .ok (.getfield 18, 3) := by decide +kernel
theorem dX6_holdStatement_17 : decode cX6_holdStatement 17 = .ok (.getfield 134, 3) := by decide +kernel
theorem dX6_holdStatement_20 : decode cX6_holdStatement 20 = .ok (.getfield 137, 3) := by decide +kernel
theorem dX6_holdStatement_23 : decode cX6_holdStatement 23 = .ok (.ifCond .ne 9, 3) := by decide +kernel
theorem dX6_holdStatement_26 : decode cX6_holdStatement 26 = .ok (.aload_n 0, 1) := by decide +kernel
theorem dX6_holdStatement_27 : decode cX6_holdStatement 27 = .ok (.iconst 4, 1) := by decide +kernel
theorem dX6_holdStatement_28 : decode cX6_holdStatement 28 = .ok (.invokevirtual 71, 3) := by decide +kernel
theorem dX6_holdStatement_31 : decode cX6_holdStatement 31 = .ok (.ireturn, 1) := by decide +kernel
theorem dX6_holdStatement_32 : decode cX6_holdStatement 32 = .ok (.aload_n 0, 1) := by decide +kernel
theorem dX6_holdStatement_33 : decode cX6_holdStatement 33 = .ok (.invokevirtual 26, 3) := by decide +kernel
theorem dX6_holdStatement_36 : decode cX6_holdStatement 36 = .ok (.aload_n 0, 1) := by decide +kernel
theorem dX6_holdStatement_37 : decode cX6_holdStatement 37 = .ok (.aload_n 0, 1) := by decide +kernel
theorem dX6_holdStatement_38 : decode cX6_holdStatement 38 = .ok (.getfield 18, 3) := by decide +kernel
theorem dX6_holdStatement_41 : decode cX6_holdStatement 41 = .ok (.getfield 160, 3) := by decide +kernel
theorem dX6_holdStatement_44 : decode cX6_holdStatement 44 = .ok (.aload_n 0, 1) := by decide +kernel
theorem dX6_holdStatement_45 : decode cX6_holdStatement 45 = .ok (.getfield 18, 3) := by decide +kernel
theorem dX6_holdStatement_48 : decode cX6_holdStatement 48 = .ok (.getfield 160, 3) := by decide +kernel
theorem dX6_holdStatement_51 : decode cX6_holdStatement 51 = .ok (.invokevirtual 110, 3) := by decide +kernel
theorem dX6_holdStatement_54 : decode cX6_holdStatement 54 = .ok (.lstore_n 1, 1) := by decide +kernel
theorem dX6_holdStatement_55 : decode cX6_holdStatement 55 = .ok (.lload_n 1, 1) := by decide +kernel
theorem dX6_holdStatement_56 : decode cX6_holdStatement 56 = .ok (.lconst 0, 1) := by decide +kernel
theorem dX6_holdStatement_57 : decode cX6_holdStatement 57 = .ok (.lcmp, 1) := by decide +kernel
theorem dX6_holdStatement_58 : decode cX6_holdStatement 58 = .ok (.ifCond .eq 13, 3) := by decide +kernel
theorem dX6_holdStatement_61 : decode cX6_holdStatement 61 = .ok (.aload_n 0, 1) := by decide +kernel
theorem dX6_holdStatement_62 : decode cX6_holdStatement 62 = .ok (.getstatic 53, 3) := by decide +kernel
theorem dX6_holdStatement_65 : decode cX6_holdStatement 65 = .ok (.invokevirtual 78, 3) := by decide +kernel
theorem dX6_holdStatement_68 : decode cX6_holdStatement 68 = .ok (.ifCond .ne 5, 3) := by decide +kernel
theorem dX6_holdStatement_71 : decode cX6_holdStatement 71 = .ok (.iconst 0, 1) := by decide +kernel
theorem dX6_holdStatement_72 : decode cX6_holdStatement 72 = .ok (.ireturn, 1) := by decide +kernel
theorem dX6_holdStatement_73 : decode cX6_holdStatement 73 = .ok (.aload_n 0, 1) := by decide +kernel
theorem dX6_holdStatement_74 : decode cX6_holdStatement 74 = .ok (.aload_n 0, 1) := by decide +kernel
theorem dX6_holdStatement_75 : decode cX6_holdStatement 75 = .ok (.getfield 18, 3) := by decide +kernel
theorem dX6_holdStatement_78 : decode cX6_holdStatement 78 = .ok (.getfield 134, 3) := by decide +kernel
theorem dX6_holdStatement_81 : decode cX6_holdStatement 81 = .ok (.invokevirtual 126, 3) := by decide +kernel
theorem dX6_holdStatement_84 : decode cX6_holdStatement 84 = .ok (.istore_n 3, 1) := by decide +kernel
theorem dX6_holdStatement_85 : decode cX6_holdStatement 85 = .ok (.iload_n 3, 1) := by decide +kernel
theorem dX6_holdStatement_86 : decode cX6_holdStatement 86 = .ok (.iconst (-1), 1) := by decide +kernel
theorem dX6_holdStatement_87 : decode cX6_holdStatement 87 = .ok (.if_icmp .ne 5, 3) := by decide +kernel
theorem dX6_holdStatement_90 : decode cX6_holdStatement 90 = .ok (.iconst 0, 1) := by decide +kernel
theorem dX6_holdStatement_91 : decode cX6_holdStatement 91 = .ok (.ireturn, 1) := by decide +kernel
theorem dX6_holdStatement_92 : decode cX6_holdStatement 92 = .ok (.iconst 0, 1) := by decide +kernel
theorem dX6_holdStatement_93 : decode cX6_holdStatement 93 = .ok (.istore 4, 2) := by decide +kernel
theorem dX6_holdStatement_95 : decode cX6_holdStatement 95 = .ok (.ldc 163, 2) := by decide +kernel
theorem dX6_holdStatement_97 : decode cX6_holdStatement 97 = .ok (.istore 5, 2) := by decide +kernel
theorem dX6_holdStatement_99 : decode cX6_holdStatement 99 = .ok (.aload_n 0, 1) := by decide +kernel
theorem dX6_holdStatement_100 : decode cX6_holdStatement 100 = .ok (.getfield 41, 3) := by decide +kernel
theorem dX6_holdStatement_103 : decode cX6_holdStatement 103 = .ok (.getstatic 164, 3) := by decide +kernel
theorem dX6_holdStatement_106 : decode cX6_holdStatement 106 = .ok (.if_acmp .ne 54, 3) := by decide +kernel
theorem dX6_holdStatement_109 : decode cX6_holdStatement 109 = .ok (.aload_n 0, 1) := by decide +kernel
theorem dX6_holdStatement_110 : decode cX6_holdStatement 110 = .ok (.invokevirtual 26, 3) := by decide +kernel
theorem dX6_holdStatement_113 : decode cX6_holdStatement 113 = .ok (.aload_n 0, 1) := by decide +kernel
theorem dX6_holdStatement_114 : decode cX6_holdStatement 114 = .ok (.iconst 0, 1) := by decide +kernel
theorem dX6_holdStatement_115 : decode cX6_holdStatement 115 = .ok (.sipush 9999, 3) := by decide +kernel
theorem dX6_holdStatement_118 : decode cX6_holdStatement 118 = .ok (.invokevirtual 85, 3) := by decide +kernel
theorem dX6_holdStatement_121 : decode cX6_holdStatement 121 = .ok (.istore 4, 2) := by decide +kernel
theorem dX6_holdStatement_123 : decode cX6_holdStatement 123 = .ok (.iload 4, 2) := by decide +kernel
theorem dX6_holdStatement_125 : decode cX6_holdStatement 125 = .ok (.iconst (-1), 1) := by decide +kernel
theorem dX6_holdStatement_126 : decode cX6_holdStatement 126 = .ok (.if_icmp .eq 13, 3) := by decide +kernel
theorem dX6_holdStatement_129 : decode cX6_holdStatement 129 = .ok (.aload_n 0, 1) := by decide +kernel
theorem dX6_holdStatement_130 : decode cX6_holdStatement 130 = .ok (.getstatic 167, 3) := by decide +kernel
theorem dX6_holdStatement_133 : decode cX6_holdStatement 133 = .ok (.invokevirtual 78, 3) := by decide +kernel
theorem dX6_holdStatement_136 : decode cX6_holdStatement 136 = .ok (.ifCond .ne 5, 3) := by decide +kernel
theorem dX6_holdStatement_139 : decode cX6_holdStatement 139 = .ok (.iconst 0, 1) := by decide +kernel
theorem dX6_holdStatement_140 : decode cX6_holdStatement 140 = .ok (.ireturn, 1) := by decide +kernel
theorem dX6_holdStatement_141 : decode cX6_holdStatement 141 = .ok (.aload_n 0, 1) := by decide +kernel
theorem dX6_holdStatement_142 : decode cX6_holdStatement 142 = .ok (.iload 4, 2) := by decide +kernel
theorem dX6_holdStatement_144 : decode cX6_holdStatement 144 = .ok (.sipush 9999, 3) := by decide +kernel
theorem dX6_holdStatement_147 : decode cX6_holdStatement 147 = .ok (.invokevirtual 85, 3) := by decide +kernel
theorem dX6_holdStatement_150 : decode cX6_holdStatement 150 = .ok (.istore 5, 2) := by decide +kernel
theorem dX6_holdStatement_152 : decode cX6_holdStatement 152 = .ok (.iload 5, 2) := by decide +kernel
theorem dX6_holdStatement_154 : decode cX6_holdStatement 154 = .ok (.iconst (-1), 1) := by decide +kernel
theorem dX6_holdStatement_155 : decode cX6_holdStatement 155 = .ok (.if_icmp .ne 5, 3) := by decide +kernel
theorem dX6_holdStatement_158 : decode cX6_holdStatement 158 = .ok (.iconst 0, 1) := by decide +kernel
theorem dX6_holdStatement_159 : decode cX6_holdStatement 159 = .ok (.ireturn, 1) := by decide +kernel
theorem dX6_holdStatement_160 : decode cX6_holdStatement 160 = .ok (.lconst 0, 1) := by decide +kernel
theorem dX6_holdStatement_161 : decode cX6_holdStatement 161 = .ok (.lstore 6, 2) := by decide +kernel
theorem dX6_holdStatement_163 : decode cX6_holdStatement 163 = .ok (.aload_n 0, 1) := by decide +kernel
theorem dX6_holdStatement_164 : decode cX6_holdStatement 164 = .ok (.getfield 41, 3) := by decide +kernel
theorem dX6_holdStatement_167 : decode cX6_holdStatement 167 = .ok (.getstatic 170, 3) := by decide +kernel
theorem dX6_holdStatement_170 : decode cX6_holdStatement 170 = .ok (.if_acmp .ne 22, 3) := by decide +kernel
theorem dX6_holdStatement_173 : decode cX6_holdStatement 173 = .ok (.aload_n 0, 1) := by decide +kernel
theorem dX6_holdStatement_174 : decode cX6_holdStatement 174 = .ok (.invokevirtual 26, 3) := by decide +kernel
theorem dX6_holdStatement_177 : decode cX6_holdStatement 177 = .ok (.aload_n 0, 1) := by decide +kernel
theorem dX6_holdStatement_178 : decode cX6_holdStatement 178 = .ok (.invokevirtual 173, 3) := by decide +kernel
theorem dX6_holdStatement_181 : decode cX6_holdStatement 181 = .ok (.lstore 6, 2) := by decide +kernel
theorem dX6_holdStatement_183 : decode cX6_holdStatement 183 = .ok (.lload 6, 2) := by decide +kernel
theorem dX6_holdStatement_185 : decode cX6_holdStatement 185 = .ok (.lconst 0, 1) := by decide +kernel
theorem dX6_holdStatement_186 : decode cX6_holdStatement 186 = .ok (.lcmp, 1) := by decide +kernel
theorem dX6_holdStatement_187 : decode cX6_holdStatement 187 = .ok (.ifCond .ne 5, 3) := by decide +kernel
theorem dX6_holdStatement_190 : decode cX6_holdStatement 190 = .ok (.iconst 0, 1) := by decide +kernel
theorem dX6_holdStatement_191 : decode cX6_holdStatement 191 = .ok (.ireturn, 1) := by decide +kernel
theorem dX6_holdStatement_192 : decode cX6_holdStatement 192 = .ok (.aload_n 0, 1) := by decide +kernel
theorem dX6_holdStatement_193 : decode cX6_holdStatement 193 = .ok (.bipush 59, 2) := by decide +kernel
theorem dX6_holdStatement_195 : decode cX6_holdStatement 195 = .ok (.invokevirtual 98, 3) := by decide +kernel
theorem dX6_holdStatement_198 : decode cX6_holdStatement 198 = .ok (.ifCond .ne 5, 3) := by decide +kernel
theorem dX6_holdStatement_201 : decode cX6_holdStatement 201 = .ok (.iconst 0, 1) := by decide +kernel
theorem dX6_holdStatement_202 : decode cX6_holdStatement 202 = .ok (.ireturn, 1) := by decide +kernel
theorem dX6_holdStatement_203 : decode cX6_holdStatement 203 = .ok (.aload_n 0, 1) := by decide +kernel
theorem dX6_holdStatement_204 : decode cX6_holdStatement 204 = .ok (.getfield 18, 3) := by decide +kernel
theorem dX6_holdStatement_207 : decode cX6_holdStatement 207 = .ok (.lload_n 1, 1) := by decide +kernel
theorem dX6_holdStatement_208 : decode cX6_holdStatement 208 = .ok (.iload_n 3, 1) := by decide +kernel
theorem dX6_holdStatement_209 : decode cX6_holdStatement 209 = .ok (.iload 4, 2) := by decide +kernel
theorem dX6_holdStatement_211 : decode cX6_holdStatement 211 = .ok (.iload 5, 2) := by decide +kernel
theorem dX6_holdStatement_213 : decode cX6_holdStatement 213 = .ok (.lload 6, 2) := by decide +kernel
theorem dX6_holdStatement_215 : decode cX6_holdStatement 215 = .ok (.invokevirtual 177, 3) := by decide +kernel
theorem dX6_holdStatement_218 : decode cX6_holdStatement 218 = .ok (.iconst 1, 1) := by decide +kernel
theorem dX6_holdStatement_219 : decode cX6_holdStatement 219 = .ok (.ireturn, 1) := by decide +kernel
theorem dX6_fail_0 : decode cX6_fail 0 = .ok (.aload_n 0, 1) := by decide +kernel
theorem dX6_fail_1 : decode cX6_fail 1 = .ok (.iload_n 1, 1) := by decide +kernel
theorem dX6_fail_2 : decode cX6_fail 2 = .ok (.putfield 181, 3) := by decide +kernel
theorem dX6_fail_5 : decode cX6_fail 5 = .ok (.aload_n 0, 1) := by decide +kernel
theorem dX6_fail_6 : decode cX6_fail 6 = .ok (.aload_n 0, 1) := by decide +kernel
theorem dX6_fail_7 : decode cX6_fail 7 = .ok (.getfield 184, 3) := by decide +kernel
theorem dX6_fail_10 : decode cX6_fail 10 = .ok (.putfield 22, 3) := by decide +kernel
theorem dX6_fail_13 : decode cX6_fail 13 = .ok (.iconst 0, 1) := by decide +kernel
theorem dX6_fail_14 : decode cX6_fail 14 = .ok (.ireturn, 1) := by decide +kernel
theorem dX6_take_0 : decode cX6_take 0 = .ok (.aload_n 0, 1) := by decide +kernel
theorem dX6_take_1 : decode cX6_take 1 = .ok (.getfield 41, 3) := by decide +kernel
theorem dX6_take_4 : decode cX6_take 4 = .ok (.aload_n 1, 1) := by decide +kernel
theorem dX6_take_5 : decode cX6_take 5 = .ok (.if_acmp .eq 9, 3) := by decide +kernel
theorem dX6_take_8 : decode cX6_take 8 = .ok (.aload_n 0, 1) := by decide +kernel
theorem dX6_take_9 : decode cX6_take 9 = .ok (.iconst 1, 1) := by decide +kernel
theorem dX6_take_10 : decode cX6_take 10 = .ok (.invokevirtual 71, 3) := by decide +kernel
theorem dX6_take_13 : decode cX6_take 13 = .ok (.ireturn, 1) := by decide +kernel
theorem dX6_take_14 : decode cX6_take 14 = .ok (.aload_n 0, 1) := by decide +kernel
theorem dX6_take_15 : decode cX6_take 15 = .ok (.invokevirtual 26, 3) := by decide +kernel
theorem dX6_take_18 : decode cX6_take 18 = .ok (.iconst 1, 1) := by decide +kernel
theorem dX6_take_19 : decode cX6_take 19 = .ok (.ireturn, 1) := by decide +kernel
theorem dX6_isSymbol_0 : decode cX6_isSymbol 0 = .ok (.aload_n 0, 1) := by decide +kernel
theorem dX6_isSymbol_1 : decode cX6_isSymbol 1 = .ok (.getfield 38, 3) := by decide +kernel
theorem dX6_isSymbol_4 : decode cX6_isSymbol 4 = .ok (.iconst 3, 1) := by decide +kernel
theorem dX6_isSymbol_5 : decode cX6_isSymbol 5 = .ok (.if_icmp .ne 15, 3) := by decide +kernel
theorem dX6_isSymbol_8 : decode cX6_isSymbol 8 = .ok (.aload_n 0, 1) := by decide +kernel
theorem dX6_isSymbol_9 : decode cX6_isSymbol 9 = .ok (.getfield 187, 3) := by decide +kernel
theorem dX6_isSymbol_12 : decode cX6_isSymbol 12 = .ok (.iload_n 1, 1) := by decide +kernel
theorem dX6_isSymbol_13 : decode cX6_isSymbol 13 = .ok (.if_icmp .ne 7, 3) := by decide +kernel
theorem dX6_isSymbol_16 : decode cX6_isSymbol 16 = .ok (.iconst 1, 1) := by decide +kernel
theorem dX6_isSymbol_17 : decode cX6_isSymbol 17 = .ok (.goto 4, 3) := by decide +kernel
theorem dX6_isSymbol_20 : decode cX6_isSymbol 20 = .ok (.iconst 0, 1) := by decide +kernel
theorem dX6_isSymbol_21 : decode cX6_isSymbol 21 = .ok (.ireturn, 1) := by decide +kernel
theorem dX6_takeSymbol_0 : decode cX6_takeSymbol 0 = .ok (.aload_n 0, 1) := by decide +kernel
theorem dX6_takeSymbol_1 : decode cX6_takeSymbol 1 = .ok (.iload_n 1, 1) := by decide +kernel
theorem dX6_takeSymbol_2 : decode cX6_takeSymbol 2 = .ok (.invokevirtual 153, 3) := by decide +kernel
theorem dX6_takeSymbol_5 : decode cX6_takeSymbol 5 = .ok (.ifCond .ne 9, 3) := by decide +kernel
theorem dX6_takeSymbol_8 : decode cX6_takeSymbol 8 = .ok (.aload_n 0, 1) := by decide +kernel
theorem dX6_takeSymbol_9 : decode cX6_takeSymbol 9 = .ok (.iconst 1, 1) := by decide +kernel
theorem dX6_takeSymbol_10 : decode cX6_takeSymbol 10 = .ok (.invokevirtual 71, 3) := by decide +kernel
theorem dX6_takeSymbol_13 : decode cX6_takeSymbol 13 = .ok (.ireturn, 1) := by decide +kernel
theorem dX6_takeSymbol_14 : decode cX6_takeSymbol 14 = .ok (.aload_n 0, 1) := by decide +kernel
theorem dX6_takeSymbol_15 : decode cX6_takeSymbol 15 = .ok (.invokevirtual 26, 3) := by decide +kernel
theorem dX6_takeSymbol_18 : decode cX6_takeSymbol 18 = .ok (.iconst 1, 1) := by decide +kernel
theorem dX6_takeSymbol_19 : decode cX6_takeSymbol 19 = .ok (.ireturn, 1) := by decide +kernel
theorem dX6_takeNumber_0 : decode cX6_takeNumber 0 = .ok (.aload_n 0, 1) := by decide +kernel
theorem dX6_takeNumber_1 : decode cX6_takeNumber 1 = .ok (.getfield 38, 3) := by decide +kernel
theorem dX6_takeNumber_4 : decode cX6_takeNumber 4 = .ok (.iconst 2, 1) := by decide +kernel
theorem dX6_takeNumber_5 : decode cX6_takeNumber 5 = .ok (.if_icmp .ne 19, 3) := by decide +kernel
theorem dX6_takeNumber_8 : decode cX6_takeNumber 8 = .ok (.aload_n 0, 1) := by decide +kernel
theorem dX6_takeNumber_9 : decode cX6_takeNumber 9 = .ok (.getfield 187, 3) := by decide +kernel
theorem dX6_takeNumber_12 : decode cX6_takeNumber 12 = .ok (.iload_n 1, 1) := by decide +kernel
theorem dX6_takeNumber_13 : decode cX6_takeNumber 13 = .ok (.if_icmp .lt 11, 3) := by decide +kernel
theorem dX6_takeNumber_16 : decode cX6_takeNumber 16 = .ok (.aload_n 0, 1) := by decide +kernel
theorem dX6_takeNumber_17 : decode cX6_takeNumber 17 = .ok (.getfield 187, 3) := by decide +kernel
theorem dX6_takeNumber_20 : decode cX6_takeNumber 20 = .ok (.iload_n 2, 1) := by decide +kernel
theorem dX6_takeNumber_21 : decode cX6_takeNumber 21 = .ok (.if_icmp .le 23, 3) := by decide +kernel
theorem dX6_takeNumber_24 : decode cX6_takeNumber 24 = .ok (.aload_n 0, 1) := by decide +kernel
theorem dX6_takeNumber_25 : decode cX6_takeNumber 25 = .ok (.aload_n 0, 1) := by decide +kernel
theorem dX6_takeNumber_26 : decode cX6_takeNumber 26 = .ok (.getfield 38, 3) := by decide +kernel
theorem dX6_takeNumber_29 : decode cX6_takeNumber 29 = .ok (.iconst 2, 1) := by decide +kernel
theorem dX6_takeNumber_30 : decode cX6_takeNumber 30 = .ok (.if_icmp .ne 7, 3) := by decide +kernel
theorem dX6_takeNumber_33 : decode cX6_takeNumber 33 = .ok (.iconst 2, 1) := by decide +kernel
theorem dX6_takeNumber_34 : decode cX6_takeNumber 34 = .ok (.goto 4, 3) := by decide +kernel
theorem dX6_takeNumber_37 : decode cX6_takeNumber 37 = .ok (.iconst 1, 1) := by decide +kernel
theorem dX6_takeNumber_38 : decode cX6_takeNumber 38 = .ok (.invokevirtual 71, 3) := by decide +kernel
theorem dX6_takeNumber_41 : decode cX6_takeNumber 41 = .ok (.pop, 1) := by decide +kernel
theorem dX6_takeNumber_42 : decode cX6_takeNumber 42 = .ok (.iconst (-1), 1) := by decide +kernel
theorem dX6_takeNumber_43 : decode cX6_takeNumber 43 = .ok (.ireturn, 1) := by decide +kernel
theorem dX6_takeNumber_44 : decode cX6_takeNumber 44 = .ok (.aload_n 0, 1) := by decide +kernel
theorem dX6_takeNumber_45 : decode cX6_takeNumber 45 = .ok (.getfield 187, 3) := by decide +kernel
theorem dX6_takeNumber_48 : decode cX6_takeNumber 48 = .ok (.istore_n 3, 1) := by decide +kernel
theorem dX6_takeNumber_49 : decode cX6_takeNumber 49 = .ok (.aload_n 0, 1) := by decide +kernel
theorem dX6_takeNumber_50 : decode cX6_takeNumber 50 = .ok (.invokevirtual 26, 3) := by decide +kernel
theorem dX6_takeNumber_53 : decode cX6_takeNumber 53 = .ok (.iload_n 3, 1) := by decide +kernel
theorem dX6_takeNumber_54 : decode cX6_takeNumber 54 = .ok (.ireturn, 1) := by decide +kernel
theorem dX6_isName_0 : decode cX6_isName 0 = .ok (.aload_n 0, 1) := by decide +kernel
theorem dX6_isName_1 : decode cX6_isName 1 = .ok (.getfield 38, 3) := by decide +kernel
theorem dX6_isName_4 : decode cX6_isName 4 = .ok (.iconst 1, 1) := by decide +kernel
theorem dX6_isName_5 : decode cX6_isName 5 = .ok (.if_icmp .ne 34, 3) := by decide +kernel
theorem dX6_isName_8 : decode cX6_isName 8 = .ok (.aload_n 0, 1) := by decide +kernel
theorem dX6_isName_9 : decode cX6_isName 9 = .ok (.getfield 41, 3) := by decide +kernel
theorem dX6_isName_12 : decode cX6_isName 12 = .ok (.ifnonnull 27, 3) := by decide +kernel
theorem dX6_isName_15 : decode cX6_isName 15 = .ok (.aload_n 0, 1) := by decide +kernel
theorem dX6_isName_16 : decode cX6_isName 16 = .ok (.getfield 190, 3) := by decide +kernel
theorem dX6_isName_19 : decode cX6_isName 19 = .ok (.lconst 0, 1) := by decide +kernel
theorem dX6_isName_20 : decode cX6_isName 20 = .ok (.lcmp, 1) := by decide +kernel
theorem dX6_isName_21 : decode cX6_isName 21 = .ok (.ifCond .le 18, 3) := by decide +kernel
theorem dX6_isName_24 : decode cX6_isName 24 = .ok (.aload_n 0, 1) := by decide +kernel
theorem dX6_isName_25 : decode cX6_isName 25 = .ok (.getfield 190, 3) := by decide +kernel
theorem dX6_isName_28 : decode cX6_isName 28 = .ok (.ldc2_w 194, 3) := by decide +kernel
theorem dX6_isName_31 : decode cX6_isName 31 = .ok (.lcmp, 1) := by decide +kernel
theorem dX6_isName_32 : decode cX6_isName 32 = .ok (.ifCond .ge 7, 3) := by decide +kernel
theorem dX6_isName_35 : decode cX6_isName 35 = .ok (.iconst 1, 1) := by decide +kernel
theorem dX6_isName_36 : decode cX6_isName 36 = .ok (.goto 4, 3) := by decide +kernel
theorem dX6_isName_39 : decode cX6_isName 39 = .ok (.iconst 0, 1) := by decide +kernel
theorem dX6_isName_40 : decode cX6_isName 40 = .ok (.ireturn, 1) := by decide +kernel
theorem dX6_takeNewName_0 : decode cX6_takeNewName 0 = .ok (.aload_n 0, 1) := by decide +kernel
theorem dX6_takeNewName_1 : decode cX6_takeNewName 1 = .ok (.invokevirtual 196, 3) := by decide +kernel
theorem dX6_takeNewName_4 : decode cX6_takeNewName 4 = .ok (.ifCond .ne 11, 3) := by decide +kernel
theorem dX6_takeNewName_7 : decode cX6_takeNewName 7 = .ok (.aload_n 0, 1) := by decide +kernel
theorem dX6_takeNewName_8 : decode cX6_takeNewName 8 = .ok (.iconst 1, 1) := by decide +kernel
theorem dX6_takeNewName_9 : decode cX6_takeNewName 9 = .ok (.invokevirtual 71, 3) := by decide +kernel
theorem dX6_takeNewName_12 : decode cX6_takeNewName 12 = .ok (.pop, 1) := by decide +kernel
theorem dX6_takeNewName_13 : decode cX6_takeNewName 13 = .ok (.lconst 0, 1) := by decide +kernel
theorem dX6_takeNewName_14 : decode cX6_takeNewName 14 = .ok (.lreturn, 1) := by decide +kernel
theorem dX6_takeNewName_15 : decode cX6_takeNewName 15 = .ok (.aload_n 1, 1) := by decide +kernel
theorem dX6_takeNewName_16 : decode cX6_takeNewName 16 = .ok (.aload_n 0, 1) := by decide +kernel
theorem dX6_takeNewName_17 : decode cX6_takeNewName 17 = .ok (.getfield 190, 3) := by decide +kernel
theorem dX6_takeNewName_20 : decode cX6_takeNewName 20 = .ok (.invokevirtual 199, 3) := by decide +kernel
theorem dX6_takeNewName_23 : decode cX6_takeNewName 23 = .ok (.iconst (-1), 1) := by decide +kernel
theorem dX6_takeNewName_24 : decode cX6_takeNewName 24 = .ok (.if_icmp .ne 15, 3) := by decide +kernel
theorem dX6_takeNewName_27 : decode cX6_takeNewName 27 = .ok (.aload_n 2, 1) := by decide +kernel
theorem dX6_takeNewName_28 : decode cX6_takeNewName 28 = .ok (.aload_n 0, 1) := by decide +kernel
theorem dX6_takeNewName_29 : decode cX6_takeNewName 29 = .ok (.getfield 190, 3) := by decide +kernel
theorem dX6_takeNewName_32 : decode cX6_takeNewName 32 = .ok (.invokevirtual 199, 3) := by decide +kernel
theorem dX6_takeNewName_35 : decode cX6_takeNewName 35 = .ok (.iconst (-1), 1) := by decide +kernel
theorem dX6_takeNewName_36 : decode cX6_takeNewName 36 = .ok (.if_icmp .eq 11, 3) := by decide +kernel
theorem dX6_takeNewName_39 : decode cX6_takeNewName 39 = .ok (.aload_n 0, 1) := by decide +kernel
theorem dX6_takeNewName_40 : decode cX6_takeNewName 40 = .ok (.iconst 3, 1) := by decide +kernel
theorem dX6_takeNewName_41 : decode cX6_takeNewName 41 = .ok (.invokevirtual 71, 3) := by decide +kernel
theorem dX6_takeNewName_44 : decode cX6_takeNewName 44 = .ok (.pop, 1) := by decide +kernel
theorem dX6_takeNewName_45 : decode cX6_takeNewName 45 = .ok (.lconst 0, 1) := by decide +kernel
theorem dX6_takeNewName_46 : decode cX6_takeNewName 46 = .ok (.lreturn, 1) := by decide +kernel
theorem dX6_takeNewName_47 : decode cX6_takeNewName 47 = .ok (.aload_n 0, 1) := by decide +kernel
theorem dX6_takeNewName_48 : decode cX6_takeNewName 48 = .ok (.getfield 190, 3) := by decide +kernel
theorem dX6_takeNewName_51 : decode cX6_takeNewName 51 = .ok (.lstore_n 3, 1) := by decide +kernel
theorem dX6_takeNewName_52 : decode cX6_takeNewName 52 = .ok (.aload_n 0, 1) := by decide +kernel
theorem dX6_takeNewName_53 : decode cX6_takeNewName 53 = .ok (.invokevirtual 26, 3) := by decide +kernel
theorem dX6_takeNewName_56 : decode cX6_takeNewName 56 = .ok (.lload_n 3, 1) := by decide +kernel
theorem dX6_takeNewName_57 : decode cX6_takeNewName 57 = .ok (.lreturn, 1) := by decide +kernel
theorem dX6_takeKnown_0 : decode cX6_takeKnown 0 = .ok (.aload_n 0, 1) := by decide +kernel
theorem dX6_takeKnown_1 : decode cX6_takeKnown 1 = .ok (.invokevirtual 196, 3) := by decide +kernel
theorem dX6_takeKnown_4 : decode cX6_takeKnown 4 = .ok (.ifCond .eq 14, 3) := by decide +kernel
theorem dX6_takeKnown_7 : decode cX6_takeKnown 7 = .ok (.aload_n 1, 1) := by decide +kernel
theorem dX6_takeKnown_8 : decode cX6_takeKnown 8 = .ok (.aload_n 0, 1) := by decide +kernel
theorem dX6_takeKnown_9 : decode cX6_takeKnown 9 = .ok (.getfield 190, 3) := by decide +kernel
theorem dX6_takeKnown_12 : decode cX6_takeKnown 12 = .ok (.invokevirtual 199, 3) := by decide +kernel
theorem dX6_takeKnown_15 : decode cX6_takeKnown 15 = .ok (.goto 4, 3) := by decide +kernel
theorem dX6_takeKnown_18 : decode cX6_takeKnown 18 = .ok (.iconst (-1), 1) := by decide +kernel
theorem dX6_takeKnown_19 : decode cX6_takeKnown 19 = .ok (.istore_n 2, 1) := by decide +kernel
theorem dX6_takeKnown_20 : decode cX6_takeKnown 20 = .ok (.iload_n 2, 1) := by decide +kernel
theorem dX6_takeKnown_21 : decode cX6_takeKnown 21 = .ok (.iconst (-1), 1) := by decide +kernel
theorem dX6_takeKnown_22 : decode cX6_takeKnown 22 = .ok (.if_icmp .ne 22, 3) := by decide +kernel
theorem dX6_takeKnown_25 : decode cX6_takeKnown 25 = .ok (.aload_n 0, 1) := by decide +kernel
theorem dX6_takeKnown_26 : decode cX6_takeKnown 26 = .ok (.aload_n 0, 1) := by decide +kernel
theorem dX6_takeKnown_27 : decode cX6_takeKnown 27 = .ok (.invokevirtual 196, 3) := by decide +kernel
theorem dX6_takeKnown_30 : decode cX6_takeKnown 30 = .ok (.ifCond .eq 7, 3) := by decide +kernel
theorem dX6_takeKnown_33 : decode cX6_takeKnown 33 = .ok (.iconst 3, 1) := by decide +kernel
theorem dX6_takeKnown_34 : decode cX6_takeKnown 34 = .ok (.goto 4, 3) := by decide +kernel
theorem dX6_takeKnown_37 : decode cX6_takeKnown 37 = .ok (.iconst 1, 1) := by decide +kernel
theorem dX6_takeKnown_38 : decode cX6_takeKnown 38 = .ok (.invokevirtual 71, 3) := by decide +kernel
theorem dX6_takeKnown_41 : decode cX6_takeKnown 41 = .ok (.pop, 1) := by decide +kernel
theorem dX6_takeKnown_42 : decode cX6_takeKnown 42 = .ok (.iconst (-1), 1) := by decide +kernel
theorem dX6_takeKnown_43 : decode cX6_takeKnown 43 = .ok (.ireturn, 1) := by decide +kernel
theorem dX6_takeKnown_44 : decode cX6_takeKnown 44 = .ok (.aload_n 0, 1) := by decide +kernel
theorem dX6_takeKnown_45 : decode cX6_takeKnown 45 = .ok (.invokevirtual 26, 3) := by decide +kernel
theorem dX6_takeKnown_48 : decode cX6_takeKnown 48 = .ok (.iload_n 2, 1) := by decide +kernel
theorem dX6_takeKnown_49 : decode cX6_takeKnown 49 = .ok (.ireturn, 1) := by decide +kernel
theorem dX6_takeMember_0 : decode cX6_takeMember 0 = .ok (.aload_n 0, 1) := by decide +kernel
theorem dX6_takeMember_1 : decode cX6_takeMember 1 = .ok (.invokevirtual 196, 3) := by decide +kernel
theorem dX6_takeMember_4 : decode cX6_takeMember 4 = .ok (.ifCond .eq 20, 3) := by decide +kernel
theorem dX6_takeMember_7 : decode cX6_takeMember 7 = .ok (.aload_n 0, 1) := by decide +kernel
theorem dX6_takeMember_8 : decode cX6_takeMember 8 = .ok (.getfield 18, 3) := by decide +kernel
theorem dX6_takeMember_11 : decode cX6_takeMember 11 = .ok (.getfield 134, 3) := by decide +kernel
theorem dX6_takeMember_14 : decode cX6_takeMember 14 = .ok (.aload_n 0, 1) := by decide +kernel
theorem dX6_takeMember_15 : decode cX6_takeMember 15 = .ok (.getfield 190, 3) := by decide +kernel
theorem dX6_takeMember_18 : decode cX6_takeMember 18 = .ok (.invokevirtual 199, 3) := by decide +kernel
theorem dX6_takeMember_21 : decode cX6_takeMember 21 = .ok (.goto 4, 3) := by decide +kernel
theorem dX6_takeMember_24 : decode cX6_takeMember 24 = .ok (.iconst (-1), 1) := by decide +kernel
theorem dX6_takeMember_25 : decode cX6_takeMember 25 = .ok (.istore_n 1, 1) := by decide +kernel
theorem dX6_takeMember_26 : decode cX6_takeMember 26 = .ok (.aload_n 0, 1) := by decide +kernel
theorem dX6_takeMember_27 : decode cX6_takeMember 27 = .ok (.invokevirtual 196, 3) := by decide +kernel
theorem dX6_takeMember_30 : decode cX6_takeMember 30 = .ok (.ifCond .eq 20, 3) := by decide +kernel
theorem dX6_takeMember_33 : decode cX6_takeMember 33 = .ok (.aload_n 0, 1) := by decide +kernel
theorem dX6_takeMember_34 : decode cX6_takeMember 34 = .ok (.getfield 18, 3) := by decide +kernel
theorem dX6_takeMember_37 : decode cX6_takeMember 37 = .ok (.getfield 138, 3) := by decide +kernel
theorem dX6_takeMember_40 : decode cX6_takeMember 40 = .ok (.aload_n 0, 1) := by decide +kernel
theorem dX6_takeMember_41 : decode cX6_takeMember 41 = .ok (.getfield 190, 3) := by decide +kernel
theorem dX6_takeMember_44 : decode cX6_takeMember 44 = .ok (.invokevirtual 199, 3) := by decide +kernel
theorem dX6_takeMember_47 : decode cX6_takeMember 47 = .ok (.goto 4, 3) := by decide +kernel
theorem dX6_takeMember_50 : decode cX6_takeMember 50 = .ok (.iconst (-1), 1) := by decide +kernel
theorem dX6_takeMember_51 : decode cX6_takeMember 51 = .ok (.istore_n 2, 1) := by decide +kernel
theorem dX6_takeMember_52 : decode cX6_takeMember 52 = .ok (.iload_n 1, 1) := by decide +kernel
theorem dX6_takeMember_53 : decode cX6_takeMember 53 = .ok (.iconst (-1), 1) := by decide +kernel
theorem dX6_takeMember_54 : decode cX6_takeMember 54 = .ok (.if_icmp .ne 27, 3) := by decide +kernel
theorem dX6_takeMember_57 : decode cX6_takeMember 57 = .ok (.iload_n 2, 1) := by decide +kernel
theorem dX6_takeMember_58 : decode cX6_takeMember 58 = .ok (.iconst (-1), 1) := by decide +kernel
theorem dX6_takeMember_59 : decode cX6_takeMember 59 = .ok (.if_icmp .ne 22, 3) := by decide +kernel
theorem dX6_takeMember_62 : decode cX6_takeMember 62 = .ok (.aload_n 0, 1) := by decide +kernel
theorem dX6_takeMember_63 : decode cX6_takeMember 63 = .ok (.aload_n 0, 1) := by decide +kernel
theorem dX6_takeMember_64 : decode cX6_takeMember 64 = .ok (.invokevirtual 196, 3) := by decide +kernel
theorem dX6_takeMember_67 : decode cX6_takeMember 67 = .ok (.ifCond .eq 7, 3) := by decide +kernel
theorem dX6_takeMember_70 : decode cX6_takeMember 70 = .ok (.iconst 3, 1) := by decide +kernel
theorem dX6_takeMember_71 : decode cX6_takeMember 71 = .ok (.goto 4, 3) := by decide +kernel
theorem dX6_takeMember_74 : decode cX6_takeMember 74 = .ok (.iconst 1, 1) := by decide +kernel
theorem dX6_takeMember_75 : decode cX6_takeMember 75 = .ok (.invokevirtual 71, 3) := by decide +kernel
theorem dX6_takeMember_78 : decode cX6_takeMember 78 = .ok (.pop, 1) := by decide +kernel
theorem dX6_takeMember_79 : decode cX6_takeMember 79 = .ok (.iconst 0, 1) := by decide +kernel
theorem dX6_takeMember_80 : decode cX6_takeMember 80 = .ok (.ireturn, 1) := by decide +kernel
theorem dX6_takeMember_81 : decode cX6_takeMember 81 = .ok (.aload_n 0, 1) := by decide +kernel
theorem dX6_takeMember_82 : decode cX6_takeMember 82 = .ok (.invokevirtual 26, 3) := by decide +kernel
theorem dX6_takeMember_85 : decode cX6_takeMember 85 = .ok (.iload_n 1, 1) := by decide +kernel
theorem dX6_takeMember_86 : decode cX6_takeMember 86 = .ok (.iconst (-1), 1) := by decide +kernel
theorem dX6_takeMember_87 : decode cX6_takeMember 87 = .ok (.if_icmp .ne 17, 3) := by decide +kernel
theorem dX6_takeMember_90 : decode cX6_takeMember 90 = .ok (.aload_n 0, 1) := by decide +kernel
theorem dX6_takeMember_91 : decode cX6_takeMember 91 = .ok (.getfield 18, 3) := by decide +kernel
theorem dX6_takeMember_94 : decode cX6_takeMember 94 = .ok (.getfield 203, 3) := by decide +kernel
theorem dX6_takeMember_97 : decode cX6_takeMember 97 = .ok (.iload_n 2, 1) := by decide +kernel
theorem dX6_takeMember_98 : decode cX6_takeMember 98 = .ok (.invokestatic 207, 3) := by decide +kernel
theorem dX6_takeMember_101 : decode cX6_takeMember 101 = .ok (.goto 6, 3) := by decide +kernel
theorem dX6_takeMember_104 : decode cX6_takeMember 104 = .ok (.iconst 1, 1) := by decide +kernel
theorem dX6_takeMember_105 : decode cX6_takeMember 105 = .ok (.iload_n 1, 1) := by decide +kernel
theorem dX6_takeMember_106 : decode cX6_takeMember 106 = .ok (.ishl, 1) := by decide +kernel
theorem dX6_takeMember_107 : decode cX6_takeMember 107 = .ok (.ireturn, 1) := by decide +kernel
theorem dX6_takeWord_0 : decode cX6_takeWord 0 = .ok (.aload_n 0, 1) := by decide +kernel
theorem dX6_takeWord_1 : decode cX6_takeWord 1 = .ok (.getfield 38, 3) := by decide +kernel
theorem dX6_takeWord_4 : decode cX6_takeWord 4 = .ok (.iconst 1, 1) := by decide +kernel
theorem dX6_takeWord_5 : decode cX6_takeWord 5 = .ok (.if_icmp .ne 14, 3) := by decide +kernel
theorem dX6_takeWord_8 : decode cX6_takeWord 8 = .ok (.aload_n 0, 1) := by decide +kernel
theorem dX6_takeWord_9 : decode cX6_takeWord 9 = .ok (.getfield 190, 3) := by decide +kernel
theorem dX6_takeWord_12 : decode cX6_takeWord 12 = .ok (.ldc2_w 211, 3) := by decide +kernel
theorem dX6_takeWord_15 : decode cX6_takeWord 15 = .ok (.lcmp, 1) := by decide +kernel
theorem dX6_takeWord_16 : decode cX6_takeWord 16 = .ok (.ifCond .ne 11, 3) := by decide +kernel
theorem dX6_takeWord_19 : decode cX6_takeWord 19 = .ok (.aload_n 0, 1) := by decide +kernel
theorem dX6_takeWord_20 : decode cX6_takeWord 20 = .ok (.iconst 1, 1) := by decide +kernel
theorem dX6_takeWord_21 : decode cX6_takeWord 21 = .ok (.invokevirtual 71, 3) := by decide +kernel
theorem dX6_takeWord_24 : decode cX6_takeWord 24 = .ok (.pop, 1) := by decide +kernel
theorem dX6_takeWord_25 : decode cX6_takeWord 25 = .ok (.lconst 0, 1) := by decide +kernel
theorem dX6_takeWord_26 : decode cX6_takeWord 26 = .ok (.lreturn, 1) := by decide +kernel
theorem dX6_takeWord_27 : decode cX6_takeWord 27 = .ok (.aload_n 0, 1) := by decide +kernel
theorem dX6_takeWord_28 : decode cX6_takeWord 28 = .ok (.getfield 190, 3) := by decide +kernel
theorem dX6_takeWord_31 : decode cX6_takeWord 31 = .ok (.lstore_n 1, 1) := by decide +kernel
theorem dX6_takeWord_32 : decode cX6_takeWord 32 = .ok (.aload_n 0, 1) := by decide +kernel
theorem dX6_takeWord_33 : decode cX6_takeWord 33 = .ok (.invokevirtual 26, 3) := by decide +kernel
theorem dX6_takeWord_36 : decode cX6_takeWord 36 = .ok (.lload_n 1, 1) := by decide +kernel
theorem dX6_takeWord_37 : decode cX6_takeWord 37 = .ok (.lreturn, 1) := by decide +kernel
theorem dX6_nextToken_0 : decode cX6_nextToken 0 = .ok (.aload_n 0, 1) := by decide +kernel
theorem dX6_nextToken_1 : decode cX6_nextToken 1 = .ok (.getfield 213, 3) := by decide +kernel
theorem dX6_nextToken_4 : decode cX6_nextToken 4 = .ok (.aload_n 0, 1) := by decide +kernel
theorem dX6_nextToken_5 : decode cX6_nextToken 5 = .ok (.getfield 9, 3) := by decide +kernel
theorem dX6_nextToken_8 : decode cX6_nextToken 8 = .ok (.getfield 33, 3) := by decide +kernel
theorem dX6_nextToken_11 : decode cX6_nextToken 11 = .ok (.if_icmp .ge 33, 3) := by decide +kernel
theorem dX6_nextToken_14 : decode cX6_nextToken 14 = .ok (.aload_n 0, 1) := by decide +kernel
theorem dX6_nextToken_15 : decode cX6_nextToken 15 = .ok (.getfield 9, 3) := by decide +kernel
theorem dX6_nextToken_18 : decode cX6_nextToken 18 = .ok (.aload_n 0, 1) := by decide +kernel
theorem dX6_nextToken_19 : decode cX6_nextToken 19 = .ok (.getfield 213, 3) := by decide +kernel
theorem dX6_nextToken_22 : decode cX6_nextToken 22 = .ok (.invokevirtual 216, 3) := by decide +kernel
theorem dX6_nextToken_25 : decode cX6_nextToken 25 = .ok (.invokestatic 220, 3) := by decide +kernel
theorem dX6_nextToken_28 : decode cX6_nextToken 28 = .ok (.ifCond .eq 16, 3) := by decide +kernel
theorem dX6_nextToken_31 : decode cX6_nextToken 31 = .ok (.aload_n 0, 1) := by decide +kernel
theorem dX6_nextToken_32 : decode cX6_nextToken 32 = .ok (.dup, 1) := by decide +kernel
theorem dX6_nextToken_33 : decode cX6_nextToken 33 = .ok (.getfield 213, 3) := by decide +kernel
theorem dX6_nextToken_36 : decode cX6_nextToken 36 = .ok (.iconst 1, 1) := by decide +kernel
theorem dX6_nextToken_37 : decode cX6_nextToken 37 = .ok (.iadd, 1) := by decide +kernel
theorem dX6_nextToken_38 : decode cX6_nextToken 38 = .ok (.putfield 213, 3) := by decide +kernel
theorem dX6_nextToken_41 : decode cX6_nextToken 41 = .ok (.goto (-41), 3) := by decide +kernel
theorem dX6_nextToken_44 : decode cX6_nextToken 44 = .ok (.aload_n 0, 1) := by decide +kernel
theorem dX6_nextToken_45 : decode cX6_nextToken 45 = .ok (.aload_n 0, 1) := by decide +kernel
theorem dX6_nextToken_46 : decode cX6_nextToken 46 = .ok (.getfield 213, 3) := by decide +kernel
theorem dX6_nextToken_49 : decode cX6_nextToken 49 = .ok (.putfield 184, 3) := by decide +kernel
theorem dX6_nextToken_52 : decode cX6_nextToken 52 = .ok (.aload_n 0, 1) := by decide +kernel
theorem dX6_nextToken_53 : decode cX6_nextToken 53 = .ok (.aconst_null, 1) := by decide +kernel
theorem dX6_nextToken_54 : decode cX6_nextToken 54 = .ok (.putfield 41, 3) := by decide +kernel
theorem dX6_nextToken_57 : decode cX6_nextToken 57 = .ok (.aload_n 0, 1) := by decide +kernel
theorem dX6_nextToken_58 : decode cX6_nextToken 58 = .ok (.lconst 0, 1) := by decide +kernel
theorem dX6_nextToken_59 : decode cX6_nextToken 59 = .ok (.putfield 190, 3) := by decide +kernel
theorem dX6_nextToken_62 : decode cX6_nextToken 62 = .ok (.aload_n 0, 1) := by decide +kernel
theorem dX6_nextToken_63 : decode cX6_nextToken 63 = .ok (.iconst 0, 1) := by decide +kernel
theorem dX6_nextToken_64 : decode cX6_nextToken 64 = .ok (.putfield 187, 3) := by decide +kernel
theorem dX6_nextToken_67 : decode cX6_nextToken 67 = .ok (.aload_n 0, 1) := by decide +kernel
theorem dX6_nextToken_68 : decode cX6_nextToken 68 = .ok (.getfield 9, 3) := by decide +kernel
theorem dX6_nextToken_71 : decode cX6_nextToken 71 = .ok (.aload_n 0, 1) := by decide +kernel
theorem dX6_nextToken_72 : decode cX6_nextToken 72 = .ok (.getfield 213, 3) := by decide +kernel
theorem dX6_nextToken_75 : decode cX6_nextToken 75 = .ok (.invokevirtual 216, 3) := by decide +kernel
theorem dX6_nextToken_78 : decode cX6_nextToken 78 = .ok (.istore_n 1, 1) := by decide +kernel
theorem dX6_nextToken_79 : decode cX6_nextToken 79 = .ok (.aload_n 0, 1) := by decide +kernel
theorem dX6_nextToken_80 : decode cX6_nextToken 80 = .ok (.getfield 213, 3) := by decide +kernel
theorem dX6_nextToken_83 : decode cX6_nextToken 83 = .ok (.aload_n 0, 1) := by decide +kernel
theorem dX6_nextToken_84 : decode cX6_nextToken 84 = .ok (.getfield 9, 3) := by decide +kernel
theorem dX6_nextToken_87 : decode cX6_nextToken 87 = .ok (.getfield 33, 3) := by decide +kernel
theorem dX6_nextToken_90 : decode cX6_nextToken 90 = .ok (.if_icmp .lt 11, 3) := by decide +kernel
theorem dX6_nextToken_93 : decode cX6_nextToken 93 = .ok (.aload_n 0, 1) := by decide +kernel
theorem dX6_nextToken_94 : decode cX6_nextToken 94 = .ok (.iconst 0, 1) := by decide +kernel
theorem dX6_nextToken_95 : decode cX6_nextToken 95 = .ok (.putfield 38, 3) := by decide +kernel
theorem dX6_nextToken_98 : decode cX6_nextToken 98 = .ok (.goto 51, 3) := by decide +kernel
theorem dX6_nextToken_101 : decode cX6_nextToken 101 = .ok (.iload_n 1, 1) := by decide +kernel
theorem dX6_nextToken_102 : decode cX6_nextToken 102 = .ok (.invokestatic 223, 3) := by decide +kernel
theorem dX6_nextToken_105 : decode cX6_nextToken 105 = .ok (.ifCond .eq 10, 3) := by decide +kernel
theorem dX6_nextToken_108 : decode cX6_nextToken 108 = .ok (.aload_n 0, 1) := by decide +kernel
theorem dX6_nextToken_109 : decode cX6_nextToken 109 = .ok (.invokevirtual 226, 3) := by decide +kernel
theorem dX6_nextToken_112 : decode cX6_nextToken 112 = .ok (.goto 37, 3) := by decide +kernel
theorem dX6_nextToken_115 : decode cX6_nextToken 115 = .ok (.iload_n 1, 1) := by decide +kernel
theorem dX6_nextToken_116 : decode cX6_nextToken 116 = .ok (.invokestatic 229, 3) := by decide +kernel
theorem dX6_nextToken_119 : decode cX6_nextToken 119 = .ok (.ifCond .eq 10, 3) := by decide +kernel
theorem dX6_nextToken_122 : decode cX6_nextToken 122 = .ok (.aload_n 0, 1) := by decide +kernel
theorem dX6_nextToken_123 : decode cX6_nextToken 123 = .ok (.invokevirtual 232, 3) := by decide +kernel
theorem dX6_nextToken_126 : decode cX6_nextToken 126 = .ok (.goto 23, 3) := by decide +kernel
theorem dX6_nextToken_129 : decode cX6_nextToken 129 = .ok (.aload_n 0, 1) := by decide +kernel
theorem dX6_nextToken_130 : decode cX6_nextToken 130 = .ok (.iconst 3, 1) := by decide +kernel
theorem dX6_nextToken_131 : decode cX6_nextToken 131 = .ok (.putfield 38, 3) := by decide +kernel
theorem dX6_nextToken_134 : decode cX6_nextToken 134 = .ok (.aload_n 0, 1) := by decide +kernel
theorem dX6_nextToken_135 : decode cX6_nextToken 135 = .ok (.iload_n 1, 1) := by decide +kernel
theorem dX6_nextToken_136 : decode cX6_nextToken 136 = .ok (.putfield 187, 3) := by decide +kernel
theorem dX6_nextToken_139 : decode cX6_nextToken 139 = .ok (.aload_n 0, 1) := by decide +kernel
theorem dX6_nextToken_140 : decode cX6_nextToken 140 = .ok (.dup, 1) := by decide +kernel
theorem dX6_nextToken_141 : decode cX6_nextToken 141 = .ok (.getfield 213, 3) := by decide +kernel
theorem dX6_nextToken_144 : decode cX6_nextToken 144 = .ok (.iconst 1, 1) := by decide +kernel
theorem dX6_nextToken_145 : decode cX6_nextToken 145 = .ok (.iadd, 1) := by decide +kernel
theorem dX6_nextToken_146 : decode cX6_nextToken 146 = .ok (.putfield 213, 3) := by decide +kernel
theorem dX6_nextToken_149 : decode cX6_nextToken 149 = .ok (.return_, 1) := by decide +kernel
theorem dX6_isBlank_0 : decode cX6_isBlank 0 = .ok (.iload_n 0, 1) := by decide +kernel
theorem dX6_isBlank_1 : decode cX6_isBlank 1 = .ok (.bipush 32, 2) := by decide +kernel
theorem dX6_isBlank_3 : decode cX6_isBlank 3 = .ok (.if_icmp .eq 9, 3) := by decide +kernel
theorem dX6_isBlank_6 : decode cX6_isBlank 6 = .ok (.iload_n 0, 1) := by decide +kernel
theorem dX6_isBlank_7 : decode cX6_isBlank 7 = .ok (.bipush 10, 2) := by decide +kernel
theorem dX6_isBlank_9 : decode cX6_isBlank 9 = .ok (.if_icmp .ne 7, 3) := by decide +kernel
theorem dX6_isBlank_12 : decode cX6_isBlank 12 = .ok (.iconst 1, 1) := by decide +kernel
theorem dX6_isBlank_13 : decode cX6_isBlank 13 = .ok (.goto 4, 3) := by decide +kernel
theorem dX6_isBlank_16 : decode cX6_isBlank 16 = .ok (.iconst 0, 1) := by decide +kernel
theorem dX6_isBlank_17 : decode cX6_isBlank 17 = .ok (.ireturn, 1) := by decide +kernel
theorem dX6_readWord_0 : decode cX6_readWord 0 = .ok (.aload_n 0, 1) := by decide +kernel
theorem dX6_readWord_1 : decode cX6_readWord 1 = .ok (.iconst 1, 1) := by decide +kernel
theorem dX6_readWord_2 : decode cX6_readWord 2 = .ok (.putfield 38, 3) := by decide +kernel
theorem dX6_readWord_5 : decode cX6_readWord 5 = .ok (.aload_n 0, 1) := by decide +kernel
theorem dX6_readWord_6 : decode cX6_readWord 6 = .ok (.getfield 213, 3) := by decide +kernel
theorem dX6_readWord_9 : decode cX6_readWord 9 = .ok (.aload_n 0, 1) := by decide +kernel
theorem dX6_readWord_10 : decode cX6_readWord 10 = .ok (.getfield 9, 3) := by decide +kernel
theorem dX6_readWord_13 : decode cX6_readWord 13 = .ok (.getfield 33, 3) := by decide +kernel
theorem dX6_readWord_16 : decode cX6_readWord 16 = .ok (.if_icmp .ge 55, 3) := by decide +kernel
theorem dX6_readWord_19 : decode cX6_readWord 19 = .ok (.aload_n 0, 1) := by decide +kernel
theorem dX6_readWord_20 : decode cX6_readWord 20 = .ok (.getfield 9, 3) := by decide +kernel
theorem dX6_readWord_23 : decode cX6_readWord 23 = .ok (.aload_n 0, 1) := by decide +kernel
theorem dX6_readWord_24 : decode cX6_readWord 24 = .ok (.getfield 213, 3) := by decide +kernel
theorem dX6_readWord_27 : decode cX6_readWord 27 = .ok (.invokevirtual 216, 3) := by decide +kernel
theorem dX6_readWord_30 : decode cX6_readWord 30 = .ok (.invokestatic 223, 3) := by decide +kernel
theorem dX6_readWord_33 : decode cX6_readWord 33 = .ok (.ifCond .eq 38, 3) := by decide +kernel
theorem dX6_readWord_36 : decode cX6_readWord 36 = .ok (.aload_n 0, 1) := by decide +kernel
theorem dX6_readWord_37 : decode cX6_readWord 37 = .ok (.aload_n 0, 1) := by decide +kernel
theorem dX6_readWord_38 : decode cX6_readWord 38 = .ok (.getfield 190, 3) := by decide +kernel
theorem dX6_readWord_41 : decode cX6_readWord 41 = .ok (.aload_n 0, 1) := by decide +kernel
theorem dX6_readWord_42 : decode cX6_readWord 42 = .ok (.getfield 9, 3) := by decide +kernel
theorem dX6_readWord_45 : decode cX6_readWord 45 = .ok (.aload_n 0, 1) := by decide +kernel
theorem dX6_readWord_46 : decode cX6_readWord 46 = .ok (.getfield 213, 3) := by decide +kernel
theorem dX6_readWord_49 : decode cX6_readWord 49 = .ok (.invokevirtual 216, 3) := by decide +kernel
theorem dX6_readWord_52 : decode cX6_readWord 52 = .ok (.invokestatic 235, 3) := by decide +kernel
theorem dX6_readWord_55 : decode cX6_readWord 55 = .ok (.putfield 190, 3) := by decide +kernel
theorem dX6_readWord_58 : decode cX6_readWord 58 = .ok (.aload_n 0, 1) := by decide +kernel
theorem dX6_readWord_59 : decode cX6_readWord 59 = .ok (.dup, 1) := by decide +kernel
theorem dX6_readWord_60 : decode cX6_readWord 60 = .ok (.getfield 213, 3) := by decide +kernel
theorem dX6_readWord_63 : decode cX6_readWord 63 = .ok (.iconst 1, 1) := by decide +kernel
theorem dX6_readWord_64 : decode cX6_readWord 64 = .ok (.iadd, 1) := by decide +kernel
theorem dX6_readWord_65 : decode cX6_readWord 65 = .ok (.putfield 213, 3) := by decide +kernel
theorem dX6_readWord_68 : decode cX6_readWord 68 = .ok (.goto (-63), 3) := by decide +kernel
theorem dX6_readWord_71 : decode cX6_readWord 71 = .ok (.getstatic 239, 3) := by decide +kernel
theorem dX6_readWord_74 : decode cX6_readWord 74 = .ok (.astore_n 1, 1) := by decide +kernel
theorem dX6_readWord_75 : decode cX6_readWord 75 = .ok (.aload_n 1, 1) := by decide +kernel
theorem dX6_readWord_76 : decode cX6_readWord 76 = .ok (.arraylength, 1) := by decide +kernel
theorem dX6_readWord_77 : decode cX6_readWord 77 = .ok (.istore_n 2, 1) := by decide +kernel
theorem dX6_readWord_78 : decode cX6_readWord 78 = .ok (.iconst 0, 1) := by decide +kernel
theorem dX6_readWord_79 : decode cX6_readWord 79 = .ok (.istore_n 3, 1) := by decide +kernel
theorem dX6_readWord_80 : decode cX6_readWord 80 = .ok (.iload_n 3, 1) := by decide +kernel
theorem dX6_readWord_81 : decode cX6_readWord 81 = .ok (.iload_n 2, 1) := by decide +kernel
theorem dX6_readWord_82 : decode cX6_readWord 82 = .ok (.if_icmp .ge 33, 3) := by decide +kernel
theorem dX6_readWord_85 : decode cX6_readWord 85 = .ok (.aload_n 1, 1) := by decide +kernel
theorem dX6_readWord_86 : decode cX6_readWord 86 = .ok (.iload_n 3, 1) := by decide +kernel
theorem dX6_readWord_87 : decode cX6_readWord 87 = .ok (.aaload, 1) := by decide +kernel
theorem dX6_readWord_88 : decode cX6_readWord 88 = .ok (.astore 4, 2) := by decide +kernel
theorem dX6_readWord_90 : decode cX6_readWord 90 = .ok (.aload 4, 2) := by decide +kernel
theorem dX6_readWord_92 : decode cX6_readWord 92 = .ok (.getfield 243, 3) := by decide +kernel
theorem dX6_readWord_95 : decode cX6_readWord 95 = .ok (.aload_n 0, 1) := by decide +kernel
theorem dX6_readWord_96 : decode cX6_readWord 96 = .ok (.getfield 190, 3) := by decide +kernel
theorem dX6_readWord_99 : decode cX6_readWord 99 = .ok (.lcmp, 1) := by decide +kernel
theorem dX6_readWord_100 : decode cX6_readWord 100 = .ok (.ifCond .ne 9, 3) := by decide +kernel
theorem dX6_readWord_103 : decode cX6_readWord 103 = .ok (.aload_n 0, 1) := by decide +kernel
theorem dX6_readWord_104 : decode cX6_readWord 104 = .ok (.aload 4, 2) := by decide +kernel
theorem dX6_readWord_106 : decode cX6_readWord 106 = .ok (.putfield 41, 3) := by decide +kernel
theorem dX6_readWord_109 : decode cX6_readWord 109 = .ok (.iinc 3 1, 3) := by decide +kernel
theorem dX6_readWord_112 : decode cX6_readWord 112 = .ok (.goto (-32), 3) := by decide +kernel
theorem dX6_readWord_115 : decode cX6_readWord 115 = .ok (.return_, 1) := by decide +kernel
theorem dX6_readNumber_0 : decode cX6_readNumber 0 = .ok (.aload_n 0, 1) := by decide +kernel
theorem dX6_readNumber_1 : decode cX6_readNumber 1 = .ok (.iconst 2, 1) := by decide +kernel
theorem dX6_readNumber_2 : decode cX6_readNumber 2 = .ok (.putfield 38, 3) := by decide +kernel
theorem dX6_readNumber_5 : decode cX6_readNumber 5 = .ok (.aload_n 0, 1) := by decide +kernel
theorem dX6_readNumber_6 : decode cX6_readNumber 6 = .ok (.getfield 213, 3) := by decide +kernel
theorem dX6_readNumber_9 : decode cX6_readNumber 9 = .ok (.aload_n 0, 1) := by decide +kernel
theorem dX6_readNumber_10 : decode cX6_readNumber 10 = .ok (.getfield 9, 3) := by decide +kernel
theorem dX6_readNumber_13 : decode cX6_readNumber 13 = .ok (.getfield 33, 3) := by decide +kernel
theorem dX6_readNumber_16 : decode cX6_readNumber 16 = .ok (.if_icmp .ge 64, 3) := by decide +kernel
theorem dX6_readNumber_19 : decode cX6_readNumber 19 = .ok (.aload_n 0, 1) := by decide +kernel
theorem dX6_readNumber_20 : decode cX6_readNumber 20 = .ok (.getfield 9, 3) := by decide +kernel
theorem dX6_readNumber_23 : decode cX6_readNumber 23 = .ok (.aload_n 0, 1) := by decide +kernel
theorem dX6_readNumber_24 : decode cX6_readNumber 24 = .ok (.getfield 213, 3) := by decide +kernel
theorem dX6_readNumber_27 : decode cX6_readNumber 27 = .ok (.invokevirtual 216, 3) := by decide +kernel
theorem dX6_readNumber_30 : decode cX6_readNumber 30 = .ok (.invokestatic 229, 3) := by decide +kernel
theorem dX6_readNumber_33 : decode cX6_readNumber 33 = .ok (.ifCond .eq 47, 3) := by decide +kernel
theorem dX6_readNumber_36 : decode cX6_readNumber 36 = .ok (.aload_n 0, 1) := by decide +kernel
theorem dX6_readNumber_37 : decode cX6_readNumber 37 = .ok (.ldc 244, 2) := by decide +kernel
theorem dX6_readNumber_39 : decode cX6_readNumber 39 = .ok (.aload_n 0, 1) := by decide +kernel
theorem dX6_readNumber_40 : decode cX6_readNumber 40 = .ok (.getfield 187, 3) := by decide +kernel
theorem dX6_readNumber_43 : decode cX6_readNumber 43 = .ok (.bipush 10, 2) := by decide +kernel
theorem dX6_readNumber_45 : decode cX6_readNumber 45 = .ok (.imul, 1) := by decide +kernel
theorem dX6_readNumber_46 : decode cX6_readNumber 46 = .ok (.aload_n 0, 1) := by decide +kernel
theorem dX6_readNumber_47 : decode cX6_readNumber 47 = .ok (.getfield 9, 3) := by decide +kernel
theorem dX6_readNumber_50 : decode cX6_readNumber 50 = .ok (.aload_n 0, 1) := by decide +kernel
theorem dX6_readNumber_51 : decode cX6_readNumber 51 = .ok (.getfield 213, 3) := by decide +kernel
theorem dX6_readNumber_54 : decode cX6_readNumber 54 = .ok (.invokevirtual 216, 3) := by decide +kernel
theorem dX6_readNumber_57 : decode cX6_readNumber 57 = .ok (.bipush 48, 2) := by decide +kernel
theorem dX6_readNumber_59 : decode cX6_readNumber 59 = .ok (.isub, 1) := by decide +kernel
theorem dX6_readNumber_60 : decode cX6_readNumber 60 = .ok (.iadd, 1) := by decide +kernel
theorem dX6_readNumber_61 : decode cX6_readNumber 61 = .ok (.invokestatic 245, 3) := by decide +kernel
theorem dX6_readNumber_64 : decode cX6_readNumber 64 = .ok (.putfield 187, 3) := by decide +kernel
theorem dX6_readNumber_67 : decode cX6_readNumber 67 = .ok (.aload_n 0, 1) := by decide +kernel
theorem dX6_readNumber_68 : decode cX6_readNumber 68 = .ok (.dup, 1) := by decide +kernel
theorem dX6_readNumber_69 : decode cX6_readNumber 69 = .ok (.getfield 213, 3) := by decide +kernel
theorem dX6_readNumber_72 : decode cX6_readNumber 72 = .ok (.iconst 1, 1) := by decide +kernel
theorem dX6_readNumber_73 : decode cX6_readNumber 73 = .ok (.iadd, 1) := by decide +kernel
theorem dX6_readNumber_74 : decode cX6_readNumber 74 = .ok (.putfield 213, 3) := by decide +kernel
theorem dX6_readNumber_77 : decode cX6_readNumber 77 = .ok (.goto (-72), 3) := by decide +kernel
theorem dX6_readNumber_80 : decode cX6_readNumber 80 = .ok (.return_, 1) := by decide +kernel
theorem dX7_init_0 : decode cX7_init 0 = .ok (.aload_n 0, 1) := by decide +kernel
theorem dX7_init_1 : decode cX7_init 1 = .ok (.invokespecial 3, 3) := by decide +kernel
theorem dX7_init_4 : decode cX7_init 4 = .ok (.aload_n 0, 1) := by decide +kernel
theorem dX7_init_5 : decode cX7_init 5 = .ok (.iconst 1, 1) := by decide +kernel
theorem dX7_init_6 : decode cX7_init 6 = .ok (.putfield 9, 3) := by decide +kernel
theorem dX7_init_9 : decode cX7_init 9 = .ok (.aload_n 0, 1) := by decide +kernel
theorem dX7_init_10 : decode cX7_init 10 = .ok (.new 15, 3) := by decide +kernel
theorem dX7_init_13 : decode cX7_init 13 = .ok (.dup, 1) := by decide +kernel
theorem dX7_init_14 : decode cX7_init 14 = .ok (.bipush 8, 2) := by decide +kernel
theorem dX7_init_16 : decode cX7_init 16 = .ok (.invokespecial 17, 3) := by decide +kernel
theorem dX7_init_19 : decode cX7_init 19 = .ok (.putfield 20, 3) := by decide +kernel
theorem dX7_init_22 : decode cX7_init 22 = .ok (.aload_n 0, 1) := by decide +kernel
theorem dX7_init_23 : decode cX7_init 23 = .ok (.bipush 8, 2) := by decide +kernel
theorem dX7_init_25 : decode cX7_init 25 = .ok (.newarray .int, 2) := by decide +kernel
theorem dX7_init_27 : decode cX7_init 27 = .ok (.putfield 24, 3) := by decide +kernel
theorem dX7_init_30 : decode cX7_init 30 = .ok (.aload_n 0, 1) := by decide +kernel
theorem dX7_init_31 : decode cX7_init 31 = .ok (.bipush 8, 2) := by decide +kernel
theorem dX7_init_33 : decode cX7_init 33 = .ok (.newarray .int, 2) := by decide +kernel
theorem dX7_init_35 : decode cX7_init 35 = .ok (.putfield 28, 3) := by decide +kernel
theorem dX7_init_38 : decode cX7_init 38 = .ok (.aload_n 0, 1) := by decide +kernel
theorem dX7_init_39 : decode cX7_init 39 = .ok (.bipush 8, 2) := by decide +kernel
theorem dX7_init_41 : decode cX7_init 41 = .ok (.newarray .int, 2) := by decide +kernel
theorem dX7_init_43 : decode cX7_init 43 = .ok (.putfield 31, 3) := by decide +kernel
theorem dX7_init_46 : decode cX7_init 46 = .ok (.aload_n 0, 1) := by decide +kernel
theorem dX7_init_47 : decode cX7_init 47 = .ok (.new 15, 3) := by decide +kernel
theorem dX7_init_50 : decode cX7_init 50 = .ok (.dup, 1) := by decide +kernel
theorem dX7_init_51 : decode cX7_init 51 = .ok (.bipush 10, 2) := by decide +kernel
theorem dX7_init_53 : decode cX7_init 53 = .ok (.invokespecial 17, 3) := by decide +kernel
theorem dX7_init_56 : decode cX7_init 56 = .ok (.putfield 34, 3) := by decide +kernel
theorem dX7_init_59 : decode cX7_init 59 = .ok (.aload_n 0, 1) := by decide +kernel
theorem dX7_init_60 : decode cX7_init 60 = .ok (.bipush 10, 2) := by decide +kernel
theorem dX7_init_62 : decode cX7_init 62 = .ok (.newarray .int, 2) := by decide +kernel
theorem dX7_init_64 : decode cX7_init 64 = .ok (.putfield 37, 3) := by decide +kernel
theorem dX7_init_67 : decode cX7_init 67 = .ok (.aload_n 0, 1) := by decide +kernel
theorem dX7_init_68 : decode cX7_init 68 = .ok (.bipush 10, 2) := by decide +kernel
theorem dX7_init_70 : decode cX7_init 70 = .ok (.newarray .int, 2) := by decide +kernel
theorem dX7_init_72 : decode cX7_init 72 = .ok (.putfield 40, 3) := by decide +kernel
theorem dX7_init_75 : decode cX7_init 75 = .ok (.aload_n 0, 1) := by decide +kernel
theorem dX7_init_76 : decode cX7_init 76 = .ok (.new 15, 3) := by decide +kernel
theorem dX7_init_79 : decode cX7_init 79 = .ok (.dup, 1) := by decide +kernel
theorem dX7_init_80 : decode cX7_init 80 = .ok (.bipush 6, 2) := by decide +kernel
theorem dX7_init_82 : decode cX7_init 82 = .ok (.invokespecial 17, 3) := by decide +kernel
theorem dX7_init_85 : decode cX7_init 85 = .ok (.putfield 43, 3) := by decide +kernel
theorem dX7_init_88 : decode cX7_init 88 = .ok (.aload_n 0, 1) := by decide +kernel
theorem dX7_init_89 : decode cX7_init 89 = .ok (.bipush 6, 2) := by decide +kernel
theorem dX7_init_91 : decode cX7_init 91 = .ok (.newarray .int, 2) := by decide +kernel
theorem dX7_init_93 : decode cX7_init 93 = .ok (.putfield 46, 3) := by decide +kernel
theorem dX7_init_96 : decode cX7_init 96 = .ok (.aload_n 0, 1) := by decide +kernel
theorem dX7_init_97 : decode cX7_init 97 = .ok (.new 15, 3) := by decide +kernel
theorem dX7_init_100 : decode cX7_init 100 = .ok (.dup, 1) := by decide +kernel
theorem dX7_init_101 : decode cX7_init 101 = .ok (.bipush 6, 2) := by decide +kernel
theorem dX7_init_103 : decode cX7_init 103 = .ok (.invokespecial 17, 3) := by decide +kernel
theorem dX7_init_106 : decode cX7_init 106 = .ok (.putfield 49, 3) := by decide +kernel
theorem dX7_init_109 : decode cX7_init 109 = .ok (.aload_n 0, 1) := by decide +kernel
theorem dX7_init_110 : decode cX7_init 110 = .ok (.bipush 6, 2) := by decide +kernel
theorem dX7_init_112 : decode cX7_init 112 = .ok (.newarray .int, 2) := by decide +kernel
theorem dX7_init_114 : decode cX7_init 114 = .ok (.putfield 52, 3) := by decide +kernel
theorem dX7_init_117 : decode cX7_init 117 = .ok (.aload_n 0, 1) := by decide +kernel
theorem dX7_init_118 : decode cX7_init 118 = .ok (.bipush 6, 2) := by decide +kernel
theorem dX7_init_120 : decode cX7_init 120 = .ok (.newarray .int, 2) := by decide +kernel
theorem dX7_init_122 : decode cX7_init 122 = .ok (.putfield 55, 3) := by decide +kernel
theorem dX7_init_125 : decode cX7_init 125 = .ok (.aload_n 0, 1) := by decide +kernel
theorem dX7_init_126 : decode cX7_init 126 = .ok (.bipush 6, 2) := by decide +kernel
theorem dX7_init_128 : decode cX7_init 128 = .ok (.newarray .int, 2) := by decide +kernel
theorem dX7_init_130 : decode cX7_init 130 = .ok (.putfield 58, 3) := by decide +kernel
theorem dX7_init_133 : decode cX7_init 133 = .ok (.aload_n 0, 1) := by decide +kernel
theorem dX7_init_134 : decode cX7_init 134 = .ok (.bipush 6, 2) := by decide +kernel
theorem dX7_init_136 : decode cX7_init 136 = .ok (.newarray .long, 2) := by decide +kernel
theorem dX7_init_138 : decode cX7_init 138 = .ok (.putfield 61, 3) := by decide +kernel
theorem dX7_init_141 : decode cX7_init 141 = .ok (.return_, 1) := by decide +kernel
theorem dX7_namesOf_0 : decode cX7_namesOf 0 = .ok (.iload_n 1, 1) := by decide +kernel
theorem dX7_namesOf_1 : decode cX7_namesOf 1 = .ok (.tableswitch 42 0 2 #[27, 32, 37], 27) := by decide +kernel
theorem dX7_namesOf_28 : decode cX7_namesOf 28 = .ok (.aload_n 0, 1) := by decide +kernel
theorem dX7_namesOf_29 : decode cX7_namesOf 29 = .ok (.getfield 20, 3) := by decide +kernel
theorem dX7_namesOf_32 : decode cX7_namesOf 32 = .ok (.areturn, 1) := by decide +kernel
theorem dX7_namesOf_33 : decode cX7_namesOf 33 = .ok (.aload_n 0, 1) := by decide +kernel
theorem dX7_namesOf_34 : decode cX7_namesOf 34 = .ok (.getfield 34, 3) := by decide +kernel
theorem dX7_namesOf_37 : decode cX7_namesOf 37 = .ok (.areturn, 1) := by decide +kernel
theorem dX7_namesOf_38 : decode cX7_namesOf 38 = .ok (.aload_n 0, 1) := by decide +kernel
theorem dX7_namesOf_39 : decode cX7_namesOf 39 = .ok (.getfield 43, 3) := by decide +kernel
theorem dX7_namesOf_42 : decode cX7_namesOf 42 = .ok (.areturn, 1) := by decide +kernel
theorem dX7_namesOf_43 : decode cX7_namesOf 43 = .ok (.aload_n 0, 1) := by decide +kernel
theorem dX7_namesOf_44 : decode cX7_namesOf 44 = .ok (.getfield 49, 3) := by decide +kernel
theorem dX7_namesOf_47 : decode cX7_namesOf 47 = .ok (.areturn, 1) := by decide +kernel
theorem dX7_addClass_0 : decode cX7_addClass 0 = .ok (.aload_n 0, 1) := by decide +kernel
theorem dX7_addClass_1 : decode cX7_addClass 1 = .ok (.getfield 20, 3) := by decide +kernel
theorem dX7_addClass_4 : decode cX7_addClass 4 = .ok (.lload_n 1, 1) := by decide +kernel
theorem dX7_addClass_5 : decode cX7_addClass 5 = .ok (.invokevirtual 65, 3) := by decide +kernel
theorem dX7_addClass_8 : decode cX7_addClass 8 = .ok (.istore 6, 2) := by decide +kernel
theorem dX7_addClass_10 : decode cX7_addClass 10 = .ok (.aload_n 0, 1) := by decide +kernel
theorem dX7_addClass_11 : decode cX7_addClass 11 = .ok (.getfield 24, 3) := by decide +kernel
theorem dX7_addClass_14 : decode cX7_addClass 14 = .ok (.iload 6, 2) := by decide +kernel
theorem dX7_addClass_16 : decode cX7_addClass 16 = .ok (.iload_n 3, 1) := by decide +kernel
theorem dX7_addClass_17 : decode cX7_addClass 17 = .ok (.invokestatic 69, 3) := by decide +kernel
theorem dX7_addClass_20 : decode cX7_addClass 20 = .ok (.aload_n 0, 1) := by decide +kernel
theorem dX7_addClass_21 : decode cX7_addClass 21 = .ok (.getfield 28, 3) := by decide +kernel
theorem dX7_addClass_24 : decode cX7_addClass 24 = .ok (.iload 6, 2) := by decide +kernel
theorem dX7_addClass_26 : decode cX7_addClass 26 = .ok (.iload 4, 2) := by decide +kernel
theorem dX7_addClass_28 : decode cX7_addClass 28 = .ok (.invokestatic 69, 3) := by decide +kernel
theorem dX7_addClass_31 : decode cX7_addClass 31 = .ok (.aload_n 0, 1) := by decide +kernel
theorem dX7_addClass_32 : decode cX7_addClass 32 = .ok (.getfield 31, 3) := by decide +kernel
theorem dX7_addClass_35 : decode cX7_addClass 35 = .ok (.iload 6, 2) := by decide +kernel
theorem dX7_addClass_37 : decode cX7_addClass 37 = .ok (.iload 5, 2) := by decide +kernel
theorem dX7_addClass_39 : decode cX7_addClass 39 = .ok (.invokestatic 69, 3) := by decide +kernel
theorem dX7_addClass_42 : decode cX7_addClass 42 = .ok (.return_, 1) := by decide +kernel
theorem dX7_addUser_0 : decode cX7_addUser 0 = .ok (.aload_n 0, 1) := by decide +kernel
theorem dX7_addUser_1 : decode cX7_addUser 1 = .ok (.getfield 34, 3) := by decide +kernel
theorem dX7_addUser_4 : decode cX7_addUser 4 = .ok (.lload_n 1, 1) := by decide +kernel
theorem dX7_addUser_5 : decode cX7_addUser 5 = .ok (.invokevirtual 65, 3) := by decide +kernel
theorem dX7_addUser_8 : decode cX7_addUser 8 = .ok (.istore 5, 2) := by decide +kernel
theorem dX7_addUser_10 : decode cX7_addUser 10 = .ok (.aload_n 0, 1) := by decide +kernel
theorem dX7_addUser_11 : decode cX7_addUser 11 = .ok (.getfield 37, 3) := by decide +kernel
theorem dX7_addUser_14 : decode cX7_addUser 14 = .ok (.iload 5, 2) := by decide +kernel
theorem dX7_addUser_16 : decode cX7_addUser 16 = .ok (.iload_n 3, 1) := by decide +kernel
theorem dX7_addUser_17 : decode cX7_addUser 17 = .ok (.invokestatic 69, 3) := by decide +kernel
theorem dX7_addUser_20 : decode cX7_addUser 20 = .ok (.aload_n 0, 1) := by decide +kernel
theorem dX7_addUser_21 : decode cX7_addUser 21 = .ok (.getfield 40, 3) := by decide +kernel
theorem dX7_addUser_24 : decode cX7_addUser 24 = .ok (.iload 5, 2) := by decide +kernel
theorem dX7_addUser_26 : decode cX7_addUser 26 = .ok (.iload 4, 2) := by decide +kernel
theorem dX7_addUser_28 : decode cX7_addUser 28 = .ok (.invokestatic 69, 3) := by decide +kernel
theorem dX7_addUser_31 : decode cX7_addUser 31 = .ok (.return_, 1) := by decide +kernel
theorem dX7_addGroup_0 : decode cX7_addGroup 0 = .ok (.aload_n 0, 1) := by decide +kernel
theorem dX7_addGroup_1 : decode cX7_addGroup 1 = .ok (.getfield 46, 3) := by decide +kernel
theorem dX7_addGroup_4 : decode cX7_addGroup 4 = .ok (.aload_n 0, 1) := by decide +kernel
theorem dX7_addGroup_5 : decode cX7_addGroup 5 = .ok (.getfield 43, 3) := by decide +kernel
theorem dX7_addGroup_8 : decode cX7_addGroup 8 = .ok (.lload_n 1, 1) := by decide +kernel
theorem dX7_addGroup_9 : decode cX7_addGroup 9 = .ok (.invokevirtual 65, 3) := by decide +kernel
theorem dX7_addGroup_12 : decode cX7_addGroup 12 = .ok (.iload_n 3, 1) := by decide +kernel
theorem dX7_addGroup_13 : decode cX7_addGroup 13 = .ok (.invokestatic 69, 3) := by decide +kernel
theorem dX7_addGroup_16 : decode cX7_addGroup 16 = .ok (.return_, 1) := by decide +kernel
theorem dX7_addHold_0 : decode cX7_addHold 0 = .ok (.aload_n 0, 1) := by decide +kernel
theorem dX7_addHold_1 : decode cX7_addHold 1 = .ok (.getfield 49, 3) := by decide +kernel
theorem dX7_addHold_4 : decode cX7_addHold 4 = .ok (.lload_n 1, 1) := by decide +kernel
theorem dX7_addHold_5 : decode cX7_addHold 5 = .ok (.invokevirtual 65, 3) := by decide +kernel
theorem dX7_addHold_8 : decode cX7_addHold 8 = .ok (.istore 8, 2) := by decide +kernel
theorem dX7_addHold_10 : decode cX7_addHold 10 = .ok (.aload_n 0, 1) := by decide +kernel
theorem dX7_addHold_11 : decode cX7_addHold 11 = .ok (.getfield 52, 3) := by decide +kernel
theorem dX7_addHold_14 : decode cX7_addHold 14 = .ok (.iload 8, 2) := by decide +kernel
theorem dX7_addHold_16 : decode cX7_addHold 16 = .ok (.iload_n 3, 1) := by decide +kernel
theorem dX7_addHold_17 : decode cX7_addHold 17 = .ok (.invokestatic 69, 3) := by decide +kernel
theorem dX7_addHold_20 : decode cX7_addHold 20 = .ok (.aload_n 0, 1) := by decide +kernel
theorem dX7_addHold_21 : decode cX7_addHold 21 = .ok (.getfield 55, 3) := by decide +kernel
theorem dX7_addHold_24 : decode cX7_addHold 24 = .ok (.iload 8, 2) := by decide +kernel
theorem dX7_addHold_26 : decode cX7_addHold 26 = .ok (.iload 4, 2) := by decide +kernel
theorem dX7_addHold_28 : decode cX7_addHold 28 = .ok (.invokestatic 69, 3) := by decide +kernel
theorem dX7_addHold_31 : decode cX7_addHold 31 = .ok (.aload_n 0, 1) := by decide +kernel
theorem dX7_addHold_32 : decode cX7_addHold 32 = .ok (.getfield 58, 3) := by decide +kernel
theorem dX7_addHold_35 : decode cX7_addHold 35 = .ok (.iload 8, 2) := by decide +kernel
theorem dX7_addHold_37 : decode cX7_addHold 37 = .ok (.iload 5, 2) := by decide +kernel
theorem dX7_addHold_39 : decode cX7_addHold 39 = .ok (.invokestatic 69, 3) := by decide +kernel
theorem dX7_addHold_42 : decode cX7_addHold 42 = .ok (.iload 8, 2) := by decide +kernel
theorem dX7_addHold_44 : decode cX7_addHold 44 = .ok (.ifCond .lt 22, 3) := by decide +kernel
theorem dX7_addHold_47 : decode cX7_addHold 47 = .ok (.iload 8, 2) := by decide +kernel
theorem dX7_addHold_49 : decode cX7_addHold 49 = .ok (.aload_n 0, 1) := by decide +kernel
theorem dX7_addHold_50 : decode cX7_addHold 50 = .ok (.getfield 61, 3) := by decide +kernel
theorem dX7_addHold_53 : decode cX7_addHold 53 = .ok (.arraylength, 1) := by decide +kernel
theorem dX7_addHold_54 : decode cX7_addHold 54 = .ok (.if_icmp .ge 12, 3) := by decide +kernel
theorem dX7_addHold_57 : decode cX7_addHold 57 = .ok (.aload_n 0, 1) := by decide +kernel
theorem dX7_addHold_58 : decode cX7_addHold 58 = .ok (.getfield 61, 3) := by decide +kernel
theorem dX7_addHold_61 : decode cX7_addHold 61 = .ok (.iload 8, 2) := by decide +kernel
theorem dX7_addHold_63 : decode cX7_addHold 63 = .ok (.lload 6, 2) := by decide +kernel
theorem dX7_addHold_65 : decode cX7_addHold 65 = .ok (.lastore, 1) := by decide +kernel
theorem dX7_addHold_66 : decode cX7_addHold 66 = .ok (.return_, 1) := by decide +kernel
theorem dX7_allUsers_0 : decode cX7_allUsers 0 = .ok (.iconst 1, 1) := by decide +kernel
theorem dX7_allUsers_1 : decode cX7_allUsers 1 = .ok (.aload_n 0, 1) := by decide +kernel
theorem dX7_allUsers_2 : decode cX7_allUsers 2 = .ok (.getfield 34, 3) := by decide +kernel
theorem dX7_allUsers_5 : decode cX7_allUsers 5 = .ok (.getfield 73, 3) := by decide +kernel
theorem dX7_allUsers_8 : decode cX7_allUsers 8 = .ok (.ishl, 1) := by decide +kernel
theorem dX7_allUsers_9 : decode cX7_allUsers 9 = .ok (.iconst 1, 1) := by decide +kernel
theorem dX7_allUsers_10 : decode cX7_allUsers 10 = .ok (.isub, 1) := by decide +kernel
theorem dX7_allUsers_11 : decode cX7_allUsers 11 = .ok (.ireturn, 1) := by decide +kernel
theorem dX7_allHolds_0 : decode cX7_allHolds 0 = .ok (.iconst 1, 1) := by decide +kernel
theorem dX7_allHolds_1 : decode cX7_allHolds 1 = .ok (.aload_n 0, 1) := by decide +kernel
theorem dX7_allHolds_2 : decode cX7_allHolds 2 = .ok (.getfield 49, 3) := by decide +kernel
theorem dX7_allHolds_5 : decode cX7_allHolds 5 = .ok (.getfield 73, 3) := by decide +kernel
theorem dX7_allHolds_8 : decode cX7_allHolds 8 = .ok (.ishl, 1) := by decide +kernel
theorem dX7_allHolds_9 : decode cX7_allHolds 9 = .ok (.iconst 1, 1) := by decide +kernel
theorem dX7_allHolds_10 : decode cX7_allHolds 10 = .ok (.isub, 1) := by decide +kernel
theorem dX7_allHolds_11 : decode cX7_allHolds 11 = .ok (.ireturn, 1) := by decide +kernel
theorem dX7_wordOfHold_0 : decode cX7_wordOfHold 0 = .ok (.iload_n 1, 1) := by decide +kernel
theorem dX7_wordOfHold_1 : decode cX7_wordOfHold 1 = .ok (.ifCond .lt 21, 3) := by decide +kernel
theorem dX7_wordOfHold_4 : decode cX7_wordOfHold 4 = .ok (.iload_n 1, 1) := by decide +kernel
theorem dX7_wordOfHold_5 : decode cX7_wordOfHold 5 = .ok (.aload_n 0, 1) := by decide +kernel
theorem dX7_wordOfHold_6 : decode cX7_wordOfHold 6 = .ok (.getfield 61, 3) := by decide +kernel
theorem dX7_wordOfHold_9 : decode cX7_wordOfHold 9 = .ok (.arraylength, 1) := by decide +kernel
theorem dX7_wordOfHold_10 : decode cX7_wordOfHold 10 = .ok (.if_icmp .ge 12, 3) := by decide +kernel
theorem dX7_wordOfHold_13 : decode cX7_wordOfHold 13 = .ok (.aload_n 0, 1) := by decide +kernel
theorem dX7_wordOfHold_14 : decode cX7_wordOfHold 14 = .ok (.getfield 61, 3) := by decide +kernel
theorem dX7_wordOfHold_17 : decode cX7_wordOfHold 17 = .ok (.iload_n 1, 1) := by decide +kernel
theorem dX7_wordOfHold_18 : decode cX7_wordOfHold 18 = .ok (.laload, 1) := by decide +kernel
theorem dX7_wordOfHold_19 : decode cX7_wordOfHold 19 = .ok (.goto 4, 3) := by decide +kernel
theorem dX7_wordOfHold_22 : decode cX7_wordOfHold 22 = .ok (.lconst 0, 1) := by decide +kernel
theorem dX7_wordOfHold_23 : decode cX7_wordOfHold 23 = .ok (.lreturn, 1) := by decide +kernel
theorem dX8_init_0 : decode cX8_init 0 = .ok (.aload_n 0, 1) := by decide +kernel
theorem dX8_init_1 : decode cX8_init 1 = .ok (.invokespecial 3, 3) := by decide +kernel
theorem dX8_init_4 : decode cX8_init 4 = .ok (.aload_n 0, 1) := by decide +kernel
theorem dX8_init_5 : decode cX8_init 5 = .ok (.aload_n 1, 1) := by decide +kernel
theorem dX8_init_6 : decode cX8_init 6 = .ok (.putfield 9, 3) := by decide +kernel
theorem dX8_init_9 : decode cX8_init 9 = .ok (.aload_n 0, 1) := by decide +kernel
theorem dX8_init_10 : decode cX8_init 10 = .ok (.bipush 10, 2) := by decide +kernel
theorem dX8_init_12 : decode cX8_init 12 = .ok (.newarray .int, 2) := by decide +kernel
theorem dX8_init_14 : decode cX8_init 14 = .ok (.putfield 15, 3) := by decide +kernel
theorem dX8_init_17 : decode cX8_init 17 = .ok (.aload_n 0, 1) := by decide +kernel
theorem dX8_init_18 : decode cX8_init 18 = .ok (.bipush 120, 2) := by decide +kernel
theorem dX8_init_20 : decode cX8_init 20 = .ok (.anewarray 19, 3) := by decide +kernel
theorem dX8_init_23 : decode cX8_init 23 = .ok (.putfield 21, 3) := by decide +kernel
theorem dX8_init_26 : decode cX8_init 26 = .ok (.aload_n 0, 1) := by decide +kernel
theorem dX8_init_27 : decode cX8_init 27 = .ok (.sipush 1200, 3) := by decide +kernel
theorem dX8_init_30 : decode cX8_init 30 = .ok (.newarray .int, 2) := by decide +kernel
theorem dX8_init_32 : decode cX8_init 32 = .ok (.putfield 25, 3) := by decide +kernel
theorem dX8_init_35 : decode cX8_init 35 = .ok (.aload_n 0, 1) := by decide +kernel
theorem dX8_init_36 : decode cX8_init 36 = .ok (.sipush 1200, 3) := by decide +kernel
theorem dX8_init_39 : decode cX8_init 39 = .ok (.newarray .int, 2) := by decide +kernel
theorem dX8_init_41 : decode cX8_init 41 = .ok (.putfield 28, 3) := by decide +kernel
theorem dX8_init_44 : decode cX8_init 44 = .ok (.aload_n 0, 1) := by decide +kernel
theorem dX8_init_45 : decode cX8_init 45 = .ok (.sipush 1200, 3) := by decide +kernel
theorem dX8_init_48 : decode cX8_init 48 = .ok (.newarray .int, 2) := by decide +kernel
theorem dX8_init_50 : decode cX8_init 50 = .ok (.putfield 31, 3) := by decide +kernel
theorem dX8_init_53 : decode cX8_init 53 = .ok (.aload_n 0, 1) := by decide +kernel
theorem dX8_init_54 : decode cX8_init 54 = .ok (.new 34, 3) := by decide +kernel
theorem dX8_init_57 : decode cX8_init 57 = .ok (.dup, 1) := by decide +kernel
theorem dX8_init_58 : decode cX8_init 58 = .ok (.invokespecial 36, 3) := by decide +kernel
theorem dX8_init_61 : decode cX8_init 61 = .ok (.putfield 37, 3) := by decide +kernel
theorem dX8_init_64 : decode cX8_init 64 = .ok (.aload_n 0, 1) := by decide +kernel
theorem dX8_init_65 : decode cX8_init 65 = .ok (.new 41, 3) := by decide +kernel
theorem dX8_init_68 : decode cX8_init 68 = .ok (.dup, 1) := by decide +kernel
theorem dX8_init_69 : decode cX8_init 69 = .ok (.invokespecial 43, 3) := by decide +kernel
theorem dX8_init_72 : decode cX8_init 72 = .ok (.putfield 44, 3) := by decide +kernel
theorem dX8_init_75 : decode cX8_init 75 = .ok (.aload_n 0, 1) := by decide +kernel
theorem dX8_init_76 : decode cX8_init 76 = .ok (.sipush 1200, 3) := by decide +kernel
theorem dX8_init_79 : decode cX8_init 79 = .ok (.newarray .int, 2) := by decide +kernel
theorem dX8_init_81 : decode cX8_init 81 = .ok (.putfield 48, 3) := by decide +kernel
theorem dX8_init_84 : decode cX8_init 84 = .ok (.aload_n 0, 1) := by decide +kernel
theorem dX8_init_85 : decode cX8_init 85 = .ok (.ldc 51, 2) := by decide +kernel
theorem dX8_init_87 : decode cX8_init 87 = .ok (.putfield 52, 3) := by decide +kernel
theorem dX8_init_90 : decode cX8_init 90 = .ok (.aload_n 0, 1) := by decide +kernel
theorem dX8_init_91 : decode cX8_init 91 = .ok (.bipush 8, 2) := by decide +kernel
theorem dX8_init_93 : decode cX8_init 93 = .ok (.newarray .int, 2) := by decide +kernel
theorem dX8_init_95 : decode cX8_init 95 = .ok (.putfield 56, 3) := by decide +kernel
theorem dX8_init_98 : decode cX8_init 98 = .ok (.aload_n 0, 1) := by decide +kernel
theorem dX8_init_99 : decode cX8_init 99 = .ok (.new 19, 3) := by decide +kernel
theorem dX8_init_102 : decode cX8_init 102 = .ok (.dup, 1) := by decide +kernel
theorem dX8_init_103 : decode cX8_init 103 = .ok (.iconst (-1), 1) := by decide +kernel
theorem dX8_init_104 : decode cX8_init 104 = .ok (.iconst (-1), 1) := by decide +kernel
theorem dX8_init_105 : decode cX8_init 105 = .ok (.iconst 0, 1) := by decide +kernel
theorem dX8_init_106 : decode cX8_init 106 = .ok (.iconst 0, 1) := by decide +kernel
theorem dX8_init_107 : decode cX8_init 107 = .ok (.invokespecial 59, 3) := by decide +kernel
theorem dX8_init_110 : decode cX8_init 110 = .ok (.putfield 62, 3) := by decide +kernel
theorem dX8_init_113 : decode cX8_init 113 = .ok (.return_, 1) := by decide +kernel
theorem dX8_startWith_0 : decode cX8_startWith 0 = .ok (.aload_n 0, 1) := by decide +kernel
theorem dX8_startWith_1 : decode cX8_startWith 1 = .ok (.aload_n 1, 1) := by decide +kernel
theorem dX8_startWith_2 : decode cX8_startWith 2 = .ok (.putfield 9, 3) := by decide +kernel
theorem dX8_startWith_5 : decode cX8_startWith 5 = .ok (.aload_n 0, 1) := by decide +kernel
theorem dX8_startWith_6 : decode cX8_startWith 6 = .ok (.iconst 0, 1) := by decide +kernel
theorem dX8_startWith_7 : decode cX8_startWith 7 = .ok (.putfield 66, 3) := by decide +kernel
theorem dX8_startWith_10 : decode cX8_startWith 10 = .ok (.aload_n 0, 1) := by decide +kernel
theorem dX8_startWith_11 : decode cX8_startWith 11 = .ok (.iconst 0, 1) := by decide +kernel
theorem dX8_startWith_12 : decode cX8_startWith 12 = .ok (.putfield 69, 3) := by decide +kernel
theorem dX8_startWith_15 : decode cX8_startWith 15 = .ok (.aload_n 0, 1) := by decide +kernel
theorem dX8_startWith_16 : decode cX8_startWith 16 = .ok (.aload_n 1, 1) := by decide +kernel
theorem dX8_startWith_17 : decode cX8_startWith 17 = .ok (.invokevirtual 72, 3) := by decide +kernel
theorem dX8_startWith_20 : decode cX8_startWith 20 = .ok (.putfield 78, 3) := by decide +kernel
theorem dX8_startWith_23 : decode cX8_startWith 23 = .ok (.aload_n 1, 1) := by decide +kernel
theorem dX8_startWith_24 : decode cX8_startWith 24 = .ok (.getfield 81, 3) := by decide +kernel
theorem dX8_startWith_27 : decode cX8_startWith 27 = .ok (.aload_n 0, 1) := by decide +kernel
theorem dX8_startWith_28 : decode cX8_startWith 28 = .ok (.getfield 15, 3) := by decide +kernel
theorem dX8_startWith_31 : decode cX8_startWith 31 = .ok (.invokestatic 84, 3) := by decide +kernel
theorem dX8_startWith_34 : decode cX8_startWith 34 = .ok (.aload_n 0, 1) := by decide +kernel
theorem dX8_startWith_35 : decode cX8_startWith 35 = .ok (.iconst 0, 1) := by decide +kernel
theorem dX8_startWith_36 : decode cX8_startWith 36 = .ok (.putfield 88, 3) := by decide +kernel
theorem dX8_startWith_39 : decode cX8_startWith 39 = .ok (.aload_n 0, 1) := by decide +kernel
theorem dX8_startWith_40 : decode cX8_startWith 40 = .ok (.getfield 37, 3) := by decide +kernel
theorem dX8_startWith_43 : decode cX8_startWith 43 = .ok (.invokevirtual 91, 3) := by decide +kernel
theorem dX8_startWith_46 : decode cX8_startWith 46 = .ok (.aload_n 0, 1) := by decide +kernel
theorem dX8_startWith_47 : decode cX8_startWith 47 = .ok (.getfield 44, 3) := by decide +kernel
theorem dX8_startWith_50 : decode cX8_startWith 50 = .ok (.invokevirtual 94, 3) := by decide +kernel
theorem dX8_startWith_53 : decode cX8_startWith 53 = .ok (.return_, 1) := by decide +kernel
theorem dX8_copyFrom_0 : decode cX8_copyFrom 0 = .ok (.aload_n 0, 1) := by decide +kernel
theorem dX8_copyFrom_1 : decode cX8_copyFrom 1 = .ok (.aload_n 1, 1) := by decide +kernel
theorem dX8_copyFrom_2 : decode cX8_copyFrom 2 = .ok (.getfield 9, 3) := by decide +kernel
theorem dX8_copyFrom_5 : decode cX8_copyFrom 5 = .ok (.putfield 9, 3) := by decide +kernel
theorem dX8_copyFrom_8 : decode cX8_copyFrom 8 = .ok (.aload_n 0, 1) := by decide +kernel
theorem dX8_copyFrom_9 : decode cX8_copyFrom 9 = .ok (.aload_n 1, 1) := by decide +kernel
theorem dX8_copyFrom_10 : decode cX8_copyFrom 10 = .ok (.getfield 66, 3) := by decide +kernel
theorem dX8_copyFrom_13 : decode cX8_copyFrom 13 = .ok (.putfield 66, 3) := by decide +kernel
theorem dX8_copyFrom_16 : decode cX8_copyFrom 16 = .ok (.aload_n 0, 1) := by decide +kernel
theorem dX8_copyFrom_17 : decode cX8_copyFrom 17 = .ok (.aload_n 1, 1) := by decide +kernel
theorem dX8_copyFrom_18 : decode cX8_copyFrom 18 = .ok (.getfield 69, 3) := by decide +kernel
theorem dX8_copyFrom_21 : decode cX8_copyFrom 21 = .ok (.putfield 69, 3) := by decide +kernel
theorem dX8_copyFrom_24 : decode cX8_copyFrom 24 = .ok (.aload_n 0, 1) := by decide +kernel
theorem dX8_copyFrom_25 : decode cX8_copyFrom 25 = .ok (.aload_n 1, 1) := by decide +kernel
theorem dX8_copyFrom_26 : decode cX8_copyFrom 26 = .ok (.getfield 78, 3) := by decide +kernel
theorem dX8_copyFrom_29 : decode cX8_copyFrom 29 = .ok (.putfield 78, 3) := by decide +kernel
theorem dX8_copyFrom_32 : decode cX8_copyFrom 32 = .ok (.aload_n 1, 1) := by decide +kernel
theorem dX8_copyFrom_33 : decode cX8_copyFrom 33 = .ok (.getfield 15, 3) := by decide +kernel
theorem dX8_copyFrom_36 : decode cX8_copyFrom 36 = .ok (.aload_n 0, 1) := by decide +kernel
theorem dX8_copyFrom_37 : decode cX8_copyFrom 37 = .ok (.getfield 15, 3) := by decide +kernel
theorem dX8_copyFrom_40 : decode cX8_copyFrom 40 = .ok (.invokestatic 84, 3) := by decide +kernel
theorem dX8_copyFrom_43 : decode cX8_copyFrom 43 = .ok (.aload_n 0, 1) := by decide +kernel
theorem dX8_copyFrom_44 : decode cX8_copyFrom 44 = .ok (.aload_n 1, 1) := by decide +kernel
theorem dX8_copyFrom_45 : decode cX8_copyFrom 45 = .ok (.getfield 88, 3) := by decide +kernel
theorem dX8_copyFrom_48 : decode cX8_copyFrom 48 = .ok (.putfield 88, 3) := by decide +kernel
theorem dX8_copyFrom_51 : decode cX8_copyFrom 51 = .ok (.iconst 0, 1) := by decide +kernel
theorem dX8_copyFrom_52 : decode cX8_copyFrom 52 = .ok (.istore_n 2, 1) := by decide +kernel
theorem dX8_copyFrom_53 : decode cX8_copyFrom 53 = .ok (.iload_n 2, 1) := by decide +kernel
theorem dX8_copyFrom_54 : decode cX8_copyFrom 54 = .ok (.aload_n 0, 1) := by decide +kernel
theorem dX8_copyFrom_55 : decode cX8_copyFrom 55 = .ok (.getfield 21, 3) := by decide +kernel
theorem dX8_copyFrom_58 : decode cX8_copyFrom 58 = .ok (.arraylength, 1) := by decide +kernel
theorem dX8_copyFrom_59 : decode cX8_copyFrom 59 = .ok (.if_icmp .ge 30, 3) := by decide +kernel
theorem dX8_copyFrom_62 : decode cX8_copyFrom 62 = .ok (.iload_n 2, 1) := by decide +kernel
theorem dX8_copyFrom_63 : decode cX8_copyFrom 63 = .ok (.aload_n 1, 1) := by decide +kernel
theorem dX8_copyFrom_64 : decode cX8_copyFrom 64 = .ok (.getfield 21, 3) := by decide +kernel
theorem dX8_copyFrom_67 : decode cX8_copyFrom 67 = .ok (.arraylength, 1) := by decide +kernel
theorem dX8_copyFrom_68 : decode cX8_copyFrom 68 = .ok (.if_icmp .ge 21, 3) := by decide +kernel
theorem dX8_copyFrom_71 : decode cX8_copyFrom 71 = .ok (.aload_n 0, 1) := by decide +kernel
theorem dX8_copyFrom_72 : decode cX8_copyFrom 72 = .ok (.getfield 21, 3) := by decide +kernel
theorem dX8_copyFrom_75 : decode cX8_copyFrom 75 = .ok (.iload_n 2, 1) := by decide +kernel
theorem dX8_copyFrom_76 : decode cX8_copyFrom 76 = .ok (.aload_n 1, 1) := by decide +kernel
theorem dX8_copyFrom_77 : decode cX8_copyFrom 77 = .ok (.getfield 21, 3) := by decide +kernel
theorem dX8_copyFrom_80 : decode cX8_copyFrom 80 = .ok (.iload_n 2, 1) := by decide +kernel
theorem dX8_copyFrom_81 : decode cX8_copyFrom 81 = .ok (.aaload, 1) := by decide +kernel
theorem dX8_copyFrom_82 : decode cX8_copyFrom 82 = .ok (.aastore, 1) := by decide +kernel
theorem dX8_copyFrom_83 : decode cX8_copyFrom 83 = .ok (.iinc 2 1, 3) := by decide +kernel
theorem dX8_copyFrom_86 : decode cX8_copyFrom 86 = .ok (.goto (-33), 3) := by decide +kernel
theorem dX8_copyFrom_89 : decode cX8_copyFrom 89 = .ok (.aload_n 1, 1) := by decide +kernel
theorem dX8_copyFrom_90 : decode cX8_copyFrom 90 = .ok (.getfield 25, 3) := by decide +kernel
theorem dX8_copyFrom_93 : decode cX8_copyFrom 93 = .ok (.aload_n 0, 1) := by decide +kernel
theorem dX8_copyFrom_94 : decode cX8_copyFrom 94 = .ok (.getfield 25, 3) := by decide +kernel
theorem dX8_copyFrom_97 : decode cX8_copyFrom 97 = .ok (.invokestatic 84, 3) := by decide +kernel
theorem dX8_copyFrom_100 : decode cX8_copyFrom 100 = .ok (.aload_n 1, 1) := by decide +kernel
theorem dX8_copyFrom_101 : decode cX8_copyFrom 101 = .ok (.getfield 28, 3) := by decide +kernel
theorem dX8_copyFrom_104 : decode cX8_copyFrom 104 = .ok (.aload_n 0, 1) := by decide +kernel
theorem dX8_copyFrom_105 : decode cX8_copyFrom 105 = .ok (.getfield 28, 3) := by decide +kernel
theorem dX8_copyFrom_108 : decode cX8_copyFrom 108 = .ok (.invokestatic 84, 3) := by decide +kernel
theorem dX8_copyFrom_111 : decode cX8_copyFrom 111 = .ok (.aload_n 1, 1) := by decide +kernel
theorem dX8_copyFrom_112 : decode cX8_copyFrom 112 = .ok (.getfield 31, 3) := by decide +kernel
theorem dX8_copyFrom_115 : decode cX8_copyFrom 115 = .ok (.aload_n 0, 1) := by decide +kernel
theorem dX8_copyFrom_116 : decode cX8_copyFrom 116 = .ok (.getfield 31, 3) := by decide +kernel
theorem dX8_copyFrom_119 : decode cX8_copyFrom 119 = .ok (.invokestatic 84, 3) := by decide +kernel
theorem dX8_copyFrom_122 : decode cX8_copyFrom 122 = .ok (.aload_n 0, 1) := by decide +kernel
theorem dX8_copyFrom_123 : decode cX8_copyFrom 123 = .ok (.getfield 37, 3) := by decide +kernel
theorem dX8_copyFrom_126 : decode cX8_copyFrom 126 = .ok (.aload_n 1, 1) := by decide +kernel
theorem dX8_copyFrom_127 : decode cX8_copyFrom 127 = .ok (.getfield 37, 3) := by decide +kernel
theorem dX8_copyFrom_130 : decode cX8_copyFrom 130 = .ok (.invokevirtual 95, 3) := by decide +kernel
theorem dX8_copyFrom_133 : decode cX8_copyFrom 133 = .ok (.aload_n 0, 1) := by decide +kernel
theorem dX8_copyFrom_134 : decode cX8_copyFrom 134 = .ok (.getfield 44, 3) := by decide +kernel
theorem dX8_copyFrom_137 : decode cX8_copyFrom 137 = .ok (.aload_n 1, 1) := by decide +kernel
theorem dX8_copyFrom_138 : decode cX8_copyFrom 138 = .ok (.getfield 44, 3) := by decide +kernel
theorem dX8_copyFrom_141 : decode cX8_copyFrom 141 = .ok (.invokevirtual 99, 3) := by decide +kernel
theorem dX8_copyFrom_144 : decode cX8_copyFrom 144 = .ok (.return_, 1) := by decide +kernel
theorem dX8_messageAt_0 : decode cX8_messageAt 0 = .ok (.iload_n 1, 1) := by decide +kernel
theorem dX8_messageAt_1 : decode cX8_messageAt 1 = .ok (.ifCond .lt 24, 3) := by decide +kernel
theorem dX8_messageAt_4 : decode cX8_messageAt 4 = .ok (.iload_n 1, 1) := by decide +kernel
theorem dX8_messageAt_5 : decode cX8_messageAt 5 = .ok (.aload_n 0, 1) := by decide +kernel
theorem dX8_messageAt_6 : decode cX8_messageAt 6 = .ok (.getfield 88, 3) := by decide +kernel
theorem dX8_messageAt_9 : decode cX8_messageAt 9 = .ok (.if_icmp .ge 16, 3) := by decide +kernel
theorem dX8_messageAt_12 : decode cX8_messageAt 12 = .ok (.iload_n 1, 1) := by decide +kernel
theorem dX8_messageAt_13 : decode cX8_messageAt 13 = .ok (.aload_n 0, 1) := by decide +kernel
theorem dX8_messageAt_14 : decode cX8_messageAt 14 = .ok (.getfield 21, 3) := by decide +kernel
theorem dX8_messageAt_17 : decode cX8_messageAt 17 = .ok (.arraylength, 1) := by decide +kernel
theorem dX8_messageAt_18 : decode cX8_messageAt 18 = .ok (.if_icmp .ge 7, 3) := by decide +kernel
theorem dX8_messageAt_21 : decode cX8_messageAt 21 = .ok (.iconst 1, 1) := by decide +kernel
theorem dX8_messageAt_22 : decode cX8_messageAt 22 = .ok (.goto 4, 3) := by decide +kernel
theorem dX8_messageAt_25 : decode cX8_messageAt 25 = .ok (.iconst 0, 1) := by decide +kernel
theorem dX8_messageAt_26 : decode cX8_messageAt 26 = .ok (.istore_n 2, 1) := by decide +kernel
theorem dX8_messageAt_27 : decode cX8_messageAt 27 = .ok (.iload_n 2, 1) := by decide +kernel
theorem dX8_messageAt_28 : decode cX8_messageAt 28 = .ok (.ifCond .eq 12, 3) := by decide +kernel
theorem dX8_messageAt_31 : decode cX8_messageAt 31 = .ok (.aload_n 0, 1) := by decide +kernel
theorem dX8_messageAt_32 : decode cX8_messageAt 32 = .ok (.getfield 21, 3) := by decide +kernel
theorem dX8_messageAt_35 : decode cX8_messageAt 35 = .ok (.iload_n 1, 1) := by decide +kernel
theorem dX8_messageAt_36 : decode cX8_messageAt 36 = .ok (.aaload, 1) := by decide +kernel
theorem dX8_messageAt_37 : decode cX8_messageAt 37 = .ok (.goto 4, 3) := by decide +kernel
theorem dX8_messageAt_40 : decode cX8_messageAt 40 = .ok (.aconst_null, 1) := by decide +kernel
theorem dX8_messageAt_41 : decode cX8_messageAt 41 = .ok (.astore_n 3, 1) := by decide +kernel
theorem dX8_messageAt_42 : decode cX8_messageAt 42 = .ok (.aload_n 3, 1) := by decide +kernel
theorem dX8_messageAt_43 : decode cX8_messageAt 43 = .ok (.ifnonnull 10, 3) := by decide +kernel
theorem dX8_messageAt_46 : decode cX8_messageAt 46 = .ok (.aload_n 0, 1) := by decide +kernel
theorem dX8_messageAt_47 : decode cX8_messageAt 47 = .ok (.getfield 62, 3) := by decide +kernel
theorem dX8_messageAt_50 : decode cX8_messageAt 50 = .ok (.goto 4, 3) := by decide +kernel
theorem dX8_messageAt_53 : decode cX8_messageAt 53 = .ok (.aload_n 3, 1) := by decide +kernel
theorem dX8_messageAt_54 : decode cX8_messageAt 54 = .ok (.areturn, 1) := by decide +kernel
theorem dX8_stateOf_0 : decode cX8_stateOf 0 = .ok (.iload_n 1, 1) := by decide +kernel
theorem dX8_stateOf_1 : decode cX8_stateOf 1 = .ok (.ifCond .lt 25, 3) := by decide +kernel
theorem dX8_stateOf_4 : decode cX8_stateOf 4 = .ok (.iload_n 1, 1) := by decide +kernel
theorem dX8_stateOf_5 : decode cX8_stateOf 5 = .ok (.aload_n 0, 1) := by decide +kernel
theorem dX8_stateOf_6 : decode cX8_stateOf 6 = .ok (.getfield 88, 3) := by decide +kernel
theorem dX8_stateOf_9 : decode cX8_stateOf 9 = .ok (.if_icmp .ge 17, 3) := by decide +kernel
theorem dX8_stateOf_12 : decode cX8_stateOf 12 = .ok (.aload_n 0, 1) := by decide +kernel
theorem dX8_stateOf_13 : decode cX8_stateOf 13 = .ok (.getfield 9, 3) := by decide +kernel
theorem dX8_stateOf_16 : decode cX8_stateOf 16 = .ok (.getfield 102, 3) := by decide +kernel
theorem dX8_stateOf_19 : decode cX8_stateOf 19 = .ok (.iload_n 2, 1) := by decide +kernel
theorem dX8_stateOf_20 : decode cX8_stateOf 20 = .ok (.invokevirtual 106, 3) := by decide +kernel
theorem dX8_stateOf_23 : decode cX8_stateOf 23 = .ok (.ifCond .ne 5, 3) := by decide +kernel
theorem dX8_stateOf_26 : decode cX8_stateOf 26 = .ok (.iconst (-1), 1) := by decide +kernel
theorem dX8_stateOf_27 : decode cX8_stateOf 27 = .ok (.ireturn, 1) := by decide +kernel
theorem dX8_stateOf_28 : decode cX8_stateOf 28 = .ok (.aload_n 0, 1) := by decide +kernel
theorem dX8_stateOf_29 : decode cX8_stateOf 29 = .ok (.getfield 25, 3) := by decide +kernel
theorem dX8_stateOf_32 : decode cX8_stateOf 32 = .ok (.iload_n 1, 1) := by decide +kernel
theorem dX8_stateOf_33 : decode cX8_stateOf 33 = .ok (.bipush 10, 2) := by decide +kernel
theorem dX8_stateOf_35 : decode cX8_stateOf 35 = .ok (.imul, 1) := by decide +kernel
theorem dX8_stateOf_36 : decode cX8_stateOf 36 = .ok (.iload_n 2, 1) := by decide +kernel
theorem dX8_stateOf_37 : decode cX8_stateOf 37 = .ok (.iadd, 1) := by decide +kernel
theorem dX8_stateOf_38 : decode cX8_stateOf 38 = .ok (.invokestatic 112, 3) := by decide +kernel
theorem dX8_stateOf_41 : decode cX8_stateOf 41 = .ok (.ireturn, 1) := by decide +kernel
theorem dX8_retentionOf_0 : decode cX8_retentionOf 0 = .ok (.aload_n 0, 1) := by decide +kernel
theorem dX8_retentionOf_1 : decode cX8_retentionOf 1 = .ok (.getfield 28, 3) := by decide +kernel
theorem dX8_retentionOf_4 : decode cX8_retentionOf 4 = .ok (.iload_n 1, 1) := by decide +kernel
theorem dX8_retentionOf_5 : decode cX8_retentionOf 5 = .ok (.bipush 10, 2) := by decide +kernel
theorem dX8_retentionOf_7 : decode cX8_retentionOf 7 = .ok (.imul, 1) := by decide +kernel
theorem dX8_retentionOf_8 : decode cX8_retentionOf 8 = .ok (.iload_n 2, 1) := by decide +kernel
theorem dX8_retentionOf_9 : decode cX8_retentionOf 9 = .ok (.iadd, 1) := by decide +kernel
theorem dX8_retentionOf_10 : decode cX8_retentionOf 10 = .ok (.invokestatic 112, 3) := by decide +kernel
theorem dX8_retentionOf_13 : decode cX8_retentionOf 13 = .ok (.ireturn, 1) := by decide +kernel
theorem dX8_usersIn_0 : decode cX8_usersIn 0 = .ok (.iconst 0, 1) := by decide +kernel
theorem dX8_usersIn_1 : decode cX8_usersIn 1 = .ok (.istore 4, 2) := by decide +kernel
theorem dX8_usersIn_3 : decode cX8_usersIn 3 = .ok (.iconst 0, 1) := by decide +kernel
theorem dX8_usersIn_4 : decode cX8_usersIn 4 = .ok (.istore 5, 2) := by decide +kernel
theorem dX8_usersIn_6 : decode cX8_usersIn 6 = .ok (.iload 5, 2) := by decide +kernel
theorem dX8_usersIn_8 : decode cX8_usersIn 8 = .ok (.aload_n 0, 1) := by decide +kernel
theorem dX8_usersIn_9 : decode cX8_usersIn 9 = .ok (.getfield 9, 3) := by decide +kernel
theorem dX8_usersIn_12 : decode cX8_usersIn 12 = .ok (.getfield 102, 3) := by decide +kernel
theorem dX8_usersIn_15 : decode cX8_usersIn 15 = .ok (.getfield 120, 3) := by decide +kernel
theorem dX8_usersIn_18 : decode cX8_usersIn 18 = .ok (.if_icmp .ge 39, 3) := by decide +kernel
theorem dX8_usersIn_21 : decode cX8_usersIn 21 = .ok (.aload_n 0, 1) := by decide +kernel
theorem dX8_usersIn_22 : decode cX8_usersIn 22 = .ok (.iload_n 1, 1) := by decide +kernel
theorem dX8_usersIn_23 : decode cX8_usersIn 23 = .ok (.iload 5, 2) := by decide +kernel
theorem dX8_usersIn_25 : decode cX8_usersIn 25 = .ok (.invokevirtual 116, 3) := by decide +kernel
theorem dX8_usersIn_28 : decode cX8_usersIn 28 = .ok (.istore 6, 2) := by decide +kernel
theorem dX8_usersIn_30 : decode cX8_usersIn 30 = .ok (.iload 6, 2) := by decide +kernel
theorem dX8_usersIn_32 : decode cX8_usersIn 32 = .ok (.iload_n 2, 1) := by decide +kernel
theorem dX8_usersIn_33 : decode cX8_usersIn 33 = .ok (.if_icmp .lt 18, 3) := by decide +kernel
theorem dX8_usersIn_36 : decode cX8_usersIn 36 = .ok (.iload 6, 2) := by decide +kernel
theorem dX8_usersIn_38 : decode cX8_usersIn 38 = .ok (.iload_n 3, 1) := by decide +kernel
theorem dX8_usersIn_39 : decode cX8_usersIn 39 = .ok (.if_icmp .gt 12, 3) := by decide +kernel
theorem dX8_usersIn_42 : decode cX8_usersIn 42 = .ok (.iload 4, 2) := by decide +kernel
theorem dX8_usersIn_44 : decode cX8_usersIn 44 = .ok (.iconst 1, 1) := by decide +kernel
theorem dX8_usersIn_45 : decode cX8_usersIn 45 = .ok (.iload 5, 2) := by decide +kernel
theorem dX8_usersIn_47 : decode cX8_usersIn 47 = .ok (.ishl, 1) := by decide +kernel
theorem dX8_usersIn_48 : decode cX8_usersIn 48 = .ok (.ior, 1) := by decide +kernel
theorem dX8_usersIn_49 : decode cX8_usersIn 49 = .ok (.istore 4, 2) := by decide +kernel
theorem dX8_usersIn_51 : decode cX8_usersIn 51 = .ok (.iinc 5 1, 3) := by decide +kernel
theorem dX8_usersIn_54 : decode cX8_usersIn 54 = .ok (.goto (-48), 3) := by decide +kernel
theorem dX8_usersIn_57 : decode cX8_usersIn 57 = .ok (.iload 4, 2) := by decide +kernel
theorem dX8_usersIn_59 : decode cX8_usersIn 59 = .ok (.ireturn, 1) := by decide +kernel
theorem dX8_keepsMessage_0 : decode cX8_keepsMessage 0 = .ok (.iconst 0, 1) := by decide +kernel
theorem dX8_keepsMessage_1 : decode cX8_keepsMessage 1 = .ok (.istore_n 2, 1) := by decide +kernel
theorem dX8_keepsMessage_2 : decode cX8_keepsMessage 2 = .ok (.iload_n 2, 1) := by decide +kernel
theorem dX8_keepsMessage_3 : decode cX8_keepsMessage 3 = .ok (.aload_n 0, 1) := by decide +kernel
theorem dX8_keepsMessage_4 : decode cX8_keepsMessage 4 = .ok (.getfield 9, 3) := by decide +kernel
theorem dX8_keepsMessage_7 : decode cX8_keepsMessage 7 = .ok (.getfield 102, 3) := by decide +kernel
theorem dX8_keepsMessage_10 : decode cX8_keepsMessage 10 = .ok (.getfield 120, 3) := by decide +kernel
theorem dX8_keepsMessage_13 : decode cX8_keepsMessage 13 = .ok (.if_icmp .ge 27, 3) := by decide +kernel
theorem dX8_keepsMessage_16 : decode cX8_keepsMessage 16 = .ok (.aload_n 0, 1) := by decide +kernel
theorem dX8_keepsMessage_17 : decode cX8_keepsMessage 17 = .ok (.iload_n 1, 1) := by decide +kernel
theorem dX8_keepsMessage_18 : decode cX8_keepsMessage 18 = .ok (.iload_n 2, 1) := by decide +kernel
theorem dX8_keepsMessage_19 : decode cX8_keepsMessage 19 = .ok (.invokevirtual 116, 3) := by decide +kernel
theorem dX8_keepsMessage_22 : decode cX8_keepsMessage 22 = .ok (.istore_n 3, 1) := by decide +kernel
theorem dX8_keepsMessage_23 : decode cX8_keepsMessage 23 = .ok (.iload_n 3, 1) := by decide +kernel
theorem dX8_keepsMessage_24 : decode cX8_keepsMessage 24 = .ok (.ifCond .lt 10, 3) := by decide +kernel
theorem dX8_keepsMessage_27 : decode cX8_keepsMessage 27 = .ok (.iload_n 3, 1) := by decide +kernel
theorem dX8_keepsMessage_28 : decode cX8_keepsMessage 28 = .ok (.iconst 2, 1) := by decide +kernel
theorem dX8_keepsMessage_29 : decode cX8_keepsMessage 29 = .ok (.if_icmp .gt 5, 3) := by decide +kernel
theorem dX8_keepsMessage_32 : decode cX8_keepsMessage 32 = .ok (.iconst 1, 1) := by decide +kernel
theorem dX8_keepsMessage_33 : decode cX8_keepsMessage 33 = .ok (.ireturn, 1) := by decide +kernel
theorem dX8_keepsMessage_34 : decode cX8_keepsMessage 34 = .ok (.iinc 2 1, 3) := by decide +kernel
theorem dX8_keepsMessage_37 : decode cX8_keepsMessage 37 = .ok (.goto (-35), 3) := by decide +kernel
theorem dX8_keepsMessage_40 : decode cX8_keepsMessage 40 = .ok (.iconst 0, 1) := by decide +kernel
theorem dX8_keepsMessage_41 : decode cX8_keepsMessage 41 = .ok (.ireturn, 1) := by decide +kernel
theorem dX8_usageOf_0 : decode cX8_usageOf 0 = .ok (.iconst 0, 1) := by decide +kernel
theorem dX8_usageOf_1 : decode cX8_usageOf 1 = .ok (.istore_n 2, 1) := by decide +kernel
theorem dX8_usageOf_2 : decode cX8_usageOf 2 = .ok (.iconst 0, 1) := by decide +kernel
theorem dX8_usageOf_3 : decode cX8_usageOf 3 = .ok (.istore_n 3, 1) := by decide +kernel
theorem dX8_usageOf_4 : decode cX8_usageOf 4 = .ok (.iload_n 3, 1) := by decide +kernel
theorem dX8_usageOf_5 : decode cX8_usageOf 5 = .ok (.aload_n 0, 1) := by decide +kernel
theorem dX8_usageOf_6 : decode cX8_usageOf 6 = .ok (.getfield 88, 3) := by decide +kernel
theorem dX8_usageOf_9 : decode cX8_usageOf 9 = .ok (.if_icmp .ge 29, 3) := by decide +kernel
theorem dX8_usageOf_12 : decode cX8_usageOf 12 = .ok (.aload_n 0, 1) := by decide +kernel
theorem dX8_usageOf_13 : decode cX8_usageOf 13 = .ok (.iload_n 3, 1) := by decide +kernel
theorem dX8_usageOf_14 : decode cX8_usageOf 14 = .ok (.iload_n 1, 1) := by decide +kernel
theorem dX8_usageOf_15 : decode cX8_usageOf 15 = .ok (.invokevirtual 116, 3) := by decide +kernel
theorem dX8_usageOf_18 : decode cX8_usageOf 18 = .ok (.ifCond .ne 14, 3) := by decide +kernel
theorem dX8_usageOf_21 : decode cX8_usageOf 21 = .ok (.iload_n 2, 1) := by decide +kernel
theorem dX8_usageOf_22 : decode cX8_usageOf 22 = .ok (.aload_n 0, 1) := by decide +kernel
theorem dX8_usageOf_23 : decode cX8_usageOf 23 = .ok (.iload_n 3, 1) := by decide +kernel
theorem dX8_usageOf_24 : decode cX8_usageOf 24 = .ok (.invokevirtual 123, 3) := by decide +kernel
theorem dX8_usageOf_27 : decode cX8_usageOf 27 = .ok (.getfield 134, 3) := by decide +kernel
theorem dX8_usageOf_30 : decode cX8_usageOf 30 = .ok (.iadd, 1) := by decide +kernel
theorem dX8_usageOf_31 : decode cX8_usageOf 31 = .ok (.istore_n 2, 1) := by decide +kernel
theorem dX8_usageOf_32 : decode cX8_usageOf 32 = .ok (.iinc 3 1, 3) := by decide +kernel
theorem dX8_usageOf_35 : decode cX8_usageOf 35 = .ok (.goto (-31), 3) := by decide +kernel
theorem dX8_usageOf_38 : decode cX8_usageOf 38 = .ok (.iload_n 2, 1) := by decide +kernel
theorem dX8_usageOf_39 : decode cX8_usageOf 39 = .ok (.ireturn, 1) := by decide +kernel
theorem dX8_hasWord_0 : decode cX8_hasWord 0 = .ok (.aload_n 0, 1) := by decide +kernel
theorem dX8_hasWord_1 : decode cX8_hasWord 1 = .ok (.iload_n 1, 1) := by decide +kernel
theorem dX8_hasWord_2 : decode cX8_hasWord 2 = .ok (.invokevirtual 123, 3) := by decide +kernel
theorem dX8_hasWord_5 : decode cX8_hasWord 5 = .ok (.getfield 156, 3) := by decide +kernel
theorem dX8_hasWord_8 : decode cX8_hasWord 8 = .ok (.astore 4, 2) := by decide +kernel
theorem dX8_hasWord_10 : decode cX8_hasWord 10 = .ok (.aload 4, 2) := by decide +kernel
theorem dX8_hasWord_12 : decode cX8_hasWord 12 = .ok (.arraylength, 1) := by decide +kernel
theorem dX8_hasWord_13 : decode cX8_hasWord 13 = .ok (.istore 5, 2) := by decide +kernel
theorem dX8_hasWord_15 : decode cX8_hasWord 15 = .ok (.iconst 0, 1) := by decide +kernel
theorem dX8_hasWord_16 : decode cX8_hasWord 16 = .ok (.istore 6, 2) := by decide +kernel
theorem dX8_hasWord_18 : decode cX8_hasWord 18 = .ok (.iload 6, 2) := by decide +kernel
theorem dX8_hasWord_20 : decode cX8_hasWord 20 = .ok (.iload 5, 2) := by decide +kernel
theorem dX8_hasWord_22 : decode cX8_hasWord 22 = .ok (.if_icmp .ge 34, 3) := by decide +kernel
theorem dX8_hasWord_25 : decode cX8_hasWord 25 = .ok (.aload 4, 2) := by decide +kernel
theorem dX8_hasWord_27 : decode cX8_hasWord 27 = .ok (.iload 6, 2) := by decide +kernel
theorem dX8_hasWord_29 : decode cX8_hasWord 29 = .ok (.iaload, 1) := by decide +kernel
theorem dX8_hasWord_30 : decode cX8_hasWord 30 = .ok (.istore 7, 2) := by decide +kernel
theorem dX8_hasWord_32 : decode cX8_hasWord 32 = .ok (.aload_n 0, 1) := by decide +kernel
theorem dX8_hasWord_33 : decode cX8_hasWord 33 = .ok (.getfield 37, 3) := by decide +kernel
theorem dX8_hasWord_36 : decode cX8_hasWord 36 = .ok (.iload 7, 2) := by decide +kernel
theorem dX8_hasWord_38 : decode cX8_hasWord 38 = .ok (.invokevirtual 159, 3) := by decide +kernel
theorem dX8_hasWord_41 : decode cX8_hasWord 41 = .ok (.lload_n 2, 1) := by decide +kernel
theorem dX8_hasWord_42 : decode cX8_hasWord 42 = .ok (.invokevirtual 163, 3) := by decide +kernel
theorem dX8_hasWord_45 : decode cX8_hasWord 45 = .ok (.ifCond .eq 5, 3) := by decide +kernel
theorem dX8_hasWord_48 : decode cX8_hasWord 48 = .ok (.iconst 1, 1) := by decide +kernel
theorem dX8_hasWord_49 : decode cX8_hasWord 49 = .ok (.ireturn, 1) := by decide +kernel
theorem dX8_hasWord_50 : decode cX8_hasWord 50 = .ok (.iinc 6 1, 3) := by decide +kernel
theorem dX8_hasWord_53 : decode cX8_hasWord 53 = .ok (.goto (-35), 3) := by decide +kernel
theorem dX8_hasWord_56 : decode cX8_hasWord 56 = .ok (.iconst 0, 1) := by decide +kernel
theorem dX8_hasWord_57 : decode cX8_hasWord 57 = .ok (.ireturn, 1) := by decide +kernel
theorem dX8_liveWithWord_0 : decode cX8_liveWithWord 0 = .ok (.iconst 0, 1) := by decide +kernel
theorem dX8_liveWithWord_1 : decode cX8_liveWithWord 1 = .ok (.istore 4, 2) := by decide +kernel
theorem dX8_liveWithWord_3 : decode cX8_liveWithWord 3 = .ok (.iconst 0, 1) := by decide +kernel
theorem dX8_liveWithWord_4 : decode cX8_liveWithWord 4 = .ok (.istore 5, 2) := by decide +kernel
theorem dX8_liveWithWord_6 : decode cX8_liveWithWord 6 = .ok (.iload 5, 2) := by decide +kernel
theorem dX8_liveWithWord_8 : decode cX8_liveWithWord 8 = .ok (.aload_n 0, 1) := by decide +kernel
theorem dX8_liveWithWord_9 : decode cX8_liveWithWord 9 = .ok (.getfield 88, 3) := by decide +kernel
theorem dX8_liveWithWord_12 : decode cX8_liveWithWord 12 = .ok (.if_icmp .ge 32, 3) := by decide +kernel
theorem dX8_liveWithWord_15 : decode cX8_liveWithWord 15 = .ok (.aload_n 0, 1) := by decide +kernel
theorem dX8_liveWithWord_16 : decode cX8_liveWithWord 16 = .ok (.iload 5, 2) := by decide +kernel
theorem dX8_liveWithWord_18 : decode cX8_liveWithWord 18 = .ok (.iload_n 1, 1) := by decide +kernel
theorem dX8_liveWithWord_19 : decode cX8_liveWithWord 19 = .ok (.invokevirtual 116, 3) := by decide +kernel
theorem dX8_liveWithWord_22 : decode cX8_liveWithWord 22 = .ok (.ifCond .ne 16, 3) := by decide +kernel
theorem dX8_liveWithWord_25 : decode cX8_liveWithWord 25 = .ok (.aload_n 0, 1) := by decide +kernel
theorem dX8_liveWithWord_26 : decode cX8_liveWithWord 26 = .ok (.iload 5, 2) := by decide +kernel
theorem dX8_liveWithWord_28 : decode cX8_liveWithWord 28 = .ok (.lload_n 2, 1) := by decide +kernel
theorem dX8_liveWithWord_29 : decode cX8_liveWithWord 29 = .ok (.invokevirtual 169, 3) := by decide +kernel
theorem dX8_liveWithWord_32 : decode cX8_liveWithWord 32 = .ok (.ifCond .eq 6, 3) := by decide +kernel
theorem dX8_liveWithWord_35 : decode cX8_liveWithWord 35 = .ok (.iinc 4 1, 3) := by decide +kernel
theorem dX8_liveWithWord_38 : decode cX8_liveWithWord 38 = .ok (.iinc 5 1, 3) := by decide +kernel
theorem dX8_liveWithWord_41 : decode cX8_liveWithWord 41 = .ok (.goto (-35), 3) := by decide +kernel
theorem dX8_liveWithWord_44 : decode cX8_liveWithWord 44 = .ok (.iload 4, 2) := by decide +kernel
theorem dX8_liveWithWord_46 : decode cX8_liveWithWord 46 = .ok (.ireturn, 1) := by decide +kernel
theorem dX8_gatherReaders_0 : decode cX8_gatherReaders 0 = .ok (.aload_n 1, 1) := by decide +kernel
theorem dX8_gatherReaders_1 : decode cX8_gatherReaders 1 = .ok (.iconst 0, 1) := by decide +kernel
theorem dX8_gatherReaders_2 : decode cX8_gatherReaders 2 = .ok (.invokestatic 172, 3) := by decide +kernel
theorem dX8_gatherReaders_5 : decode cX8_gatherReaders 5 = .ok (.iconst 0, 1) := by decide +kernel
theorem dX8_gatherReaders_6 : decode cX8_gatherReaders 6 = .ok (.istore_n 2, 1) := by decide +kernel
theorem dX8_gatherReaders_7 : decode cX8_gatherReaders 7 = .ok (.iload_n 2, 1) := by decide +kernel
theorem dX8_gatherReaders_8 : decode cX8_gatherReaders 8 = .ok (.aload_n 0, 1) := by decide +kernel
theorem dX8_gatherReaders_9 : decode cX8_gatherReaders 9 = .ok (.getfield 88, 3) := by decide +kernel
theorem dX8_gatherReaders_12 : decode cX8_gatherReaders 12 = .ok (.if_icmp .ge 69, 3) := by decide +kernel
theorem dX8_gatherReaders_15 : decode cX8_gatherReaders 15 = .ok (.aload_n 0, 1) := by decide +kernel
theorem dX8_gatherReaders_16 : decode cX8_gatherReaders 16 = .ok (.iload_n 2, 1) := by decide +kernel
theorem dX8_gatherReaders_17 : decode cX8_gatherReaders 17 = .ok (.iconst 0, 1) := by decide +kernel
theorem dX8_gatherReaders_18 : decode cX8_gatherReaders 18 = .ok (.iconst 0, 1) := by decide +kernel
theorem dX8_gatherReaders_19 : decode cX8_gatherReaders 19 = .ok (.invokevirtual 178, 3) := by decide +kernel
theorem dX8_gatherReaders_22 : decode cX8_gatherReaders 22 = .ok (.istore_n 3, 1) := by decide +kernel
theorem dX8_gatherReaders_23 : decode cX8_gatherReaders 23 = .ok (.aload_n 0, 1) := by decide +kernel
theorem dX8_gatherReaders_24 : decode cX8_gatherReaders 24 = .ok (.iload_n 2, 1) := by decide +kernel
theorem dX8_gatherReaders_25 : decode cX8_gatherReaders 25 = .ok (.invokevirtual 123, 3) := by decide +kernel
theorem dX8_gatherReaders_28 : decode cX8_gatherReaders 28 = .ok (.getfield 156, 3) := by decide +kernel
theorem dX8_gatherReaders_31 : decode cX8_gatherReaders 31 = .ok (.astore 4, 2) := by decide +kernel
theorem dX8_gatherReaders_33 : decode cX8_gatherReaders 33 = .ok (.aload 4, 2) := by decide +kernel
theorem dX8_gatherReaders_35 : decode cX8_gatherReaders 35 = .ok (.arraylength, 1) := by decide +kernel
theorem dX8_gatherReaders_36 : decode cX8_gatherReaders 36 = .ok (.istore 5, 2) := by decide +kernel
theorem dX8_gatherReaders_38 : decode cX8_gatherReaders 38 = .ok (.iconst 0, 1) := by decide +kernel
theorem dX8_gatherReaders_39 : decode cX8_gatherReaders 39 = .ok (.istore 6, 2) := by decide +kernel
theorem dX8_gatherReaders_41 : decode cX8_gatherReaders 41 = .ok (.iload 6, 2) := by decide +kernel
theorem dX8_gatherReaders_43 : decode cX8_gatherReaders 43 = .ok (.iload 5, 2) := by decide +kernel
theorem dX8_gatherReaders_45 : decode cX8_gatherReaders 45 = .ok (.if_icmp .ge 30, 3) := by decide +kernel
theorem dX8_gatherReaders_48 : decode cX8_gatherReaders 48 = .ok (.aload 4, 2) := by decide +kernel
theorem dX8_gatherReaders_50 : decode cX8_gatherReaders 50 = .ok (.iload 6, 2) := by decide +kernel
theorem dX8_gatherReaders_52 : decode cX8_gatherReaders 52 = .ok (.iaload, 1) := by decide +kernel
theorem dX8_gatherReaders_53 : decode cX8_gatherReaders 53 = .ok (.istore 7, 2) := by decide +kernel
theorem dX8_gatherReaders_55 : decode cX8_gatherReaders 55 = .ok (.aload_n 1, 1) := by decide +kernel
theorem dX8_gatherReaders_56 : decode cX8_gatherReaders 56 = .ok (.iload 7, 2) := by decide +kernel
theorem dX8_gatherReaders_58 : decode cX8_gatherReaders 58 = .ok (.aload_n 1, 1) := by decide +kernel
theorem dX8_gatherReaders_59 : decode cX8_gatherReaders 59 = .ok (.iload 7, 2) := by decide +kernel
theorem dX8_gatherReaders_61 : decode cX8_gatherReaders 61 = .ok (.invokestatic 112, 3) := by decide +kernel
theorem dX8_gatherReaders_64 : decode cX8_gatherReaders 64 = .ok (.iload_n 3, 1) := by decide +kernel
theorem dX8_gatherReaders_65 : decode cX8_gatherReaders 65 = .ok (.ior, 1) := by decide +kernel
theorem dX8_gatherReaders_66 : decode cX8_gatherReaders 66 = .ok (.invokestatic 181, 3) := by decide +kernel
theorem dX8_gatherReaders_69 : decode cX8_gatherReaders 69 = .ok (.iinc 6 1, 3) := by decide +kernel
theorem dX8_gatherReaders_72 : decode cX8_gatherReaders 72 = .ok (.goto (-31), 3) := by decide +kernel
theorem dX8_gatherReaders_75 : decode cX8_gatherReaders 75 = .ok (.iinc 2 1, 3) := by decide +kernel
theorem dX8_gatherReaders_78 : decode cX8_gatherReaders 78 = .ok (.goto (-71), 3) := by decide +kernel
theorem dX8_gatherReaders_81 : decode cX8_gatherReaders 81 = .ok (.return_, 1) := by decide +kernel
theorem dX8_receive_0 : decode cX8_receive 0 = .ok (.aload_n 0, 1) := by decide +kernel
theorem dX8_receive_1 : decode cX8_receive 1 = .ok (.aload_n 0, 1) := by decide +kernel
theorem dX8_receive_2 : decode cX8_receive 2 = .ok (.iload_n 3, 1) := by decide +kernel
theorem dX8_receive_3 : decode cX8_receive 3 = .ok (.aload_n 1, 1) := by decide +kernel
theorem dX8_receive_4 : decode cX8_receive 4 = .ok (.invokevirtual 195, 3) := by decide +kernel
theorem dX8_receive_7 : decode cX8_receive 7 = .ok (.invokevirtual 200, 3) := by decide +kernel
theorem dX8_receive_10 : decode cX8_receive 10 = .ok (.putfield 69, 3) := by decide +kernel
theorem dX8_receive_13 : decode cX8_receive 13 = .ok (.aload_n 0, 1) := by decide +kernel
theorem dX8_receive_14 : decode cX8_receive 14 = .ok (.getfield 69, 3) := by decide +kernel
theorem dX8_receive_17 : decode cX8_receive 17 = .ok (.iload_n 3, 1) := by decide +kernel
theorem dX8_receive_18 : decode cX8_receive 18 = .ok (.if_icmp .ne 6, 3) := by decide +kernel
theorem dX8_receive_21 : decode cX8_receive 21 = .ok (.bipush (-2), 2) := by decide +kernel
theorem dX8_receive_23 : decode cX8_receive 23 = .ok (.ireturn, 1) := by decide +kernel
theorem dX8_receive_24 : decode cX8_receive 24 = .ok (.aload_n 0, 1) := by decide +kernel
theorem dX8_receive_25 : decode cX8_receive 25 = .ok (.getfield 88, 3) := by decide +kernel
theorem dX8_receive_28 : decode cX8_receive 28 = .ok (.istore 5, 2) := by decide +kernel
theorem dX8_receive_30 : decode cX8_receive 30 = .ok (.new 19, 3) := by decide +kernel
theorem dX8_receive_33 : decode cX8_receive 33 = .ok (.dup, 1) := by decide +kernel
theorem dX8_receive_34 : decode cX8_receive 34 = .ok (.iload_n 2, 1) := by decide +kernel
theorem dX8_receive_35 : decode cX8_receive 35 = .ok (.aload_n 0, 1) := by decide +kernel
theorem dX8_receive_36 : decode cX8_receive 36 = .ok (.getfield 66, 3) := by decide +kernel
theorem dX8_receive_39 : decode cX8_receive 39 = .ok (.aload_n 1, 1) := by decide +kernel
theorem dX8_receive_40 : decode cX8_receive 40 = .ok (.invokevirtual 195, 3) := by decide +kernel
theorem dX8_receive_43 : decode cX8_receive 43 = .ok (.aload_n 1, 1) := by decide +kernel
theorem dX8_receive_44 : decode cX8_receive 44 = .ok (.getfield 203, 3) := by decide +kernel
theorem dX8_receive_47 : decode cX8_receive 47 = .ok (.invokespecial 59, 3) := by decide +kernel
theorem dX8_receive_50 : decode cX8_receive 50 = .ok (.astore 6, 2) := by decide +kernel
theorem dX8_receive_52 : decode cX8_receive 52 = .ok (.iconst 0, 1) := by decide +kernel
theorem dX8_receive_53 : decode cX8_receive 53 = .ok (.istore 7, 2) := by decide +kernel
theorem dX8_receive_55 : decode cX8_receive 55 = .ok (.iload 7, 2) := by decide +kernel
theorem dX8_receive_57 : decode cX8_receive 57 = .ok (.aload_n 1, 1) := by decide +kernel
theorem dX8_receive_58 : decode cX8_receive 58 = .ok (.getfield 203, 3) := by decide +kernel
theorem dX8_receive_61 : decode cX8_receive 61 = .ok (.if_icmp .ge 71, 3) := by decide +kernel
theorem dX8_receive_64 : decode cX8_receive 64 = .ok (.aload_n 0, 1) := by decide +kernel
theorem dX8_receive_65 : decode cX8_receive 65 = .ok (.getfield 37, 3) := by decide +kernel
theorem dX8_receive_68 : decode cX8_receive 68 = .ok (.aload_n 1, 1) := by decide +kernel
theorem dX8_receive_69 : decode cX8_receive 69 = .ok (.iload 7, 2) := by decide +kernel
theorem dX8_receive_71 : decode cX8_receive 71 = .ok (.iload 5, 2) := by decide +kernel
theorem dX8_receive_73 : decode cX8_receive 73 = .ok (.invokevirtual 206, 3) := by decide +kernel
theorem dX8_receive_76 : decode cX8_receive 76 = .ok (.istore 8, 2) := by decide +kernel
theorem dX8_receive_78 : decode cX8_receive 78 = .ok (.aload 6, 2) := by decide +kernel
theorem dX8_receive_80 : decode cX8_receive 80 = .ok (.getfield 156, 3) := by decide +kernel
theorem dX8_receive_83 : decode cX8_receive 83 = .ok (.iload 7, 2) := by decide +kernel
theorem dX8_receive_85 : decode cX8_receive 85 = .ok (.iload 8, 2) := by decide +kernel
theorem dX8_receive_87 : decode cX8_receive 87 = .ok (.invokestatic 181, 3) := by decide +kernel
theorem dX8_receive_90 : decode cX8_receive 90 = .ok (.aload_n 1, 1) := by decide +kernel
theorem dX8_receive_91 : decode cX8_receive 91 = .ok (.iload 7, 2) := by decide +kernel
theorem dX8_receive_93 : decode cX8_receive 93 = .ok (.invokevirtual 210, 3) := by decide +kernel
theorem dX8_receive_96 : decode cX8_receive 96 = .ok (.ifCond .eq 30, 3) := by decide +kernel
theorem dX8_receive_99 : decode cX8_receive 99 = .ok (.aload_n 0, 1) := by decide +kernel
theorem dX8_receive_100 : decode cX8_receive 100 = .ok (.getfield 37, 3) := by decide +kernel
theorem dX8_receive_103 : decode cX8_receive 103 = .ok (.iload 8, 2) := by decide +kernel
theorem dX8_receive_105 : decode cX8_receive 105 = .ok (.invokevirtual 213, 3) := by decide +kernel
theorem dX8_receive_108 : decode cX8_receive 108 = .ok (.ifCond .eq 18, 3) := by decide +kernel
theorem dX8_receive_111 : decode cX8_receive 111 = .ok (.aload_n 0, 1) := by decide +kernel
theorem dX8_receive_112 : decode cX8_receive 112 = .ok (.getfield 44, 3) := by decide +kernel
theorem dX8_receive_115 : decode cX8_receive 115 = .ok (.aload_n 0, 1) := by decide +kernel
theorem dX8_receive_116 : decode cX8_receive 116 = .ok (.getfield 66, 3) := by decide +kernel
theorem dX8_receive_119 : decode cX8_receive 119 = .ok (.bipush 7, 2) := by decide +kernel
theorem dX8_receive_121 : decode cX8_receive 121 = .ok (.iload 8, 2) := by decide +kernel
theorem dX8_receive_123 : decode cX8_receive 123 = .ok (.invokevirtual 216, 3) := by decide +kernel
theorem dX8_receive_126 : decode cX8_receive 126 = .ok (.iinc 7 1, 3) := by decide +kernel
theorem dX8_receive_129 : decode cX8_receive 129 = .ok (.goto (-74), 3) := by decide +kernel
theorem dX8_receive_132 : decode cX8_receive 132 = .ok (.iload 5, 2) := by decide +kernel
theorem dX8_receive_134 : decode cX8_receive 134 = .ok (.ifCond .lt 22, 3) := by decide +kernel
theorem dX8_receive_137 : decode cX8_receive 137 = .ok (.iload 5, 2) := by decide +kernel
theorem dX8_receive_139 : decode cX8_receive 139 = .ok (.aload_n 0, 1) := by decide +kernel
theorem dX8_receive_140 : decode cX8_receive 140 = .ok (.getfield 21, 3) := by decide +kernel
theorem dX8_receive_143 : decode cX8_receive 143 = .ok (.arraylength, 1) := by decide +kernel
theorem dX8_receive_144 : decode cX8_receive 144 = .ok (.if_icmp .ge 12, 3) := by decide +kernel
theorem dX8_receive_147 : decode cX8_receive 147 = .ok (.aload_n 0, 1) := by decide +kernel
theorem dX8_receive_148 : decode cX8_receive 148 = .ok (.getfield 21, 3) := by decide +kernel
theorem dX8_receive_151 : decode cX8_receive 151 = .ok (.iload 5, 2) := by decide +kernel
theorem dX8_receive_153 : decode cX8_receive 153 = .ok (.aload 6, 2) := by decide +kernel
theorem dX8_receive_155 : decode cX8_receive 155 = .ok (.aastore, 1) := by decide +kernel
theorem dX8_receive_156 : decode cX8_receive 156 = .ok (.aload_n 0, 1) := by decide +kernel
theorem dX8_receive_157 : decode cX8_receive 157 = .ok (.dup, 1) := by decide +kernel
theorem dX8_receive_158 : decode cX8_receive 158 = .ok (.getfield 88, 3) := by decide +kernel
theorem dX8_receive_161 : decode cX8_receive 161 = .ok (.iconst 1, 1) := by decide +kernel
theorem dX8_receive_162 : decode cX8_receive 162 = .ok (.iadd, 1) := by decide +kernel
theorem dX8_receive_163 : decode cX8_receive 163 = .ok (.putfield 88, 3) := by decide +kernel
theorem dX8_receive_166 : decode cX8_receive 166 = .ok (.aload 6, 2) := by decide +kernel
theorem dX8_receive_168 : decode cX8_receive 168 = .ok (.aload_n 0, 1) := by decide +kernel
theorem dX8_receive_169 : decode cX8_receive 169 = .ok (.iload 5, 2) := by decide +kernel
theorem dX8_receive_171 : decode cX8_receive 171 = .ok (.invokevirtual 220, 3) := by decide +kernel
theorem dX8_receive_174 : decode cX8_receive 174 = .ok (.putfield 127, 3) := by decide +kernel
theorem dX8_receive_177 : decode cX8_receive 177 = .ok (.aload_n 0, 1) := by decide +kernel
theorem dX8_receive_178 : decode cX8_receive 178 = .ok (.iload 5, 2) := by decide +kernel
theorem dX8_receive_180 : decode cX8_receive 180 = .ok (.iload_n 3, 1) := by decide +kernel
theorem dX8_receive_181 : decode cX8_receive 181 = .ok (.aload_n 0, 1) := by decide +kernel
theorem dX8_receive_182 : decode cX8_receive 182 = .ok (.getfield 69, 3) := by decide +kernel
theorem dX8_receive_185 : decode cX8_receive 185 = .ok (.iconst (-1), 1) := by decide +kernel
theorem dX8_receive_186 : decode cX8_receive 186 = .ok (.ixor, 1) := by decide +kernel
theorem dX8_receive_187 : decode cX8_receive 187 = .ok (.iand, 1) := by decide +kernel
theorem dX8_receive_188 : decode cX8_receive 188 = .ok (.iload 4, 2) := by decide +kernel
theorem dX8_receive_190 : decode cX8_receive 190 = .ok (.invokevirtual 223, 3) := by decide +kernel
theorem dX8_receive_193 : decode cX8_receive 193 = .ok (.aload_n 0, 1) := by decide +kernel
theorem dX8_receive_194 : decode cX8_receive 194 = .ok (.getfield 44, 3) := by decide +kernel
theorem dX8_receive_197 : decode cX8_receive 197 = .ok (.aload_n 0, 1) := by decide +kernel
theorem dX8_receive_198 : decode cX8_receive 198 = .ok (.getfield 66, 3) := by decide +kernel
theorem dX8_receive_201 : decode cX8_receive 201 = .ok (.iconst 1, 1) := by decide +kernel
theorem dX8_receive_202 : decode cX8_receive 202 = .ok (.iload 5, 2) := by decide +kernel
theorem dX8_receive_204 : decode cX8_receive 204 = .ok (.invokevirtual 216, 3) := by decide +kernel
theorem dX8_receive_207 : decode cX8_receive 207 = .ok (.iload 5, 2) := by decide +kernel
theorem dX8_receive_209 : decode cX8_receive 209 = .ok (.ireturn, 1) := by decide +kernel
theorem dX8_bounce_0 : decode cX8_bounce 0 = .ok (.iconst 0, 1) := by decide +kernel
theorem dX8_bounce_1 : decode cX8_bounce 1 = .ok (.istore_n 3, 1) := by decide +kernel
theorem dX8_bounce_2 : decode cX8_bounce 2 = .ok (.iconst 0, 1) := by decide +kernel
theorem dX8_bounce_3 : decode cX8_bounce 3 = .ok (.istore 4, 2) := by decide +kernel
theorem dX8_bounce_5 : decode cX8_bounce 5 = .ok (.iload 4, 2) := by decide +kernel
theorem dX8_bounce_7 : decode cX8_bounce 7 = .ok (.aload_n 0, 1) := by decide +kernel
theorem dX8_bounce_8 : decode cX8_bounce 8 = .ok (.getfield 9, 3) := by decide +kernel
theorem dX8_bounce_11 : decode cX8_bounce 11 = .ok (.getfield 102, 3) := by decide +kernel
theorem dX8_bounce_14 : decode cX8_bounce 14 = .ok (.getfield 120, 3) := by decide +kernel
theorem dX8_bounce_17 : decode cX8_bounce 17 = .ok (.if_icmp .ge 59, 3) := by decide +kernel
theorem dX8_bounce_20 : decode cX8_bounce 20 = .ok (.iload_n 1, 1) := by decide +kernel
theorem dX8_bounce_21 : decode cX8_bounce 21 = .ok (.iload 4, 2) := by decide +kernel
theorem dX8_bounce_23 : decode cX8_bounce 23 = .ok (.invokestatic 226, 3) := by decide +kernel
theorem dX8_bounce_26 : decode cX8_bounce 26 = .ok (.ifCond .eq 44, 3) := by decide +kernel
theorem dX8_bounce_29 : decode cX8_bounce 29 = .ok (.aload_n 0, 1) := by decide +kernel
theorem dX8_bounce_30 : decode cX8_bounce 30 = .ok (.iload 4, 2) := by decide +kernel
theorem dX8_bounce_32 : decode cX8_bounce 32 = .ok (.invokevirtual 229, 3) := by decide +kernel
theorem dX8_bounce_35 : decode cX8_bounce 35 = .ok (.iload_n 2, 1) := by decide +kernel
theorem dX8_bounce_36 : decode cX8_bounce 36 = .ok (.iadd, 1) := by decide +kernel
theorem dX8_bounce_37 : decode cX8_bounce 37 = .ok (.aload_n 0, 1) := by decide +kernel
theorem dX8_bounce_38 : decode cX8_bounce 38 = .ok (.getfield 15, 3) := by decide +kernel
theorem dX8_bounce_41 : decode cX8_bounce 41 = .ok (.iload 4, 2) := by decide +kernel
theorem dX8_bounce_43 : decode cX8_bounce 43 = .ok (.invokestatic 112, 3) := by decide +kernel
theorem dX8_bounce_46 : decode cX8_bounce 46 = .ok (.if_icmp .le 24, 3) := by decide +kernel
theorem dX8_bounce_49 : decode cX8_bounce 49 = .ok (.iload_n 3, 1) := by decide +kernel
theorem dX8_bounce_50 : decode cX8_bounce 50 = .ok (.iconst 1, 1) := by decide +kernel
theorem dX8_bounce_51 : decode cX8_bounce 51 = .ok (.iload 4, 2) := by decide +kernel
theorem dX8_bounce_53 : decode cX8_bounce 53 = .ok (.ishl, 1) := by decide +kernel
theorem dX8_bounce_54 : decode cX8_bounce 54 = .ok (.ior, 1) := by decide +kernel
theorem dX8_bounce_55 : decode cX8_bounce 55 = .ok (.istore_n 3, 1) := by decide +kernel
theorem dX8_bounce_56 : decode cX8_bounce 56 = .ok (.aload_n 0, 1) := by decide +kernel
theorem dX8_bounce_57 : decode cX8_bounce 57 = .ok (.getfield 44, 3) := by decide +kernel
theorem dX8_bounce_60 : decode cX8_bounce 60 = .ok (.aload_n 0, 1) := by decide +kernel
theorem dX8_bounce_61 : decode cX8_bounce 61 = .ok (.getfield 66, 3) := by decide +kernel
theorem dX8_bounce_64 : decode cX8_bounce 64 = .ok (.iconst 2, 1) := by decide +kernel
theorem dX8_bounce_65 : decode cX8_bounce 65 = .ok (.iload 4, 2) := by decide +kernel
theorem dX8_bounce_67 : decode cX8_bounce 67 = .ok (.invokevirtual 216, 3) := by decide +kernel
theorem dX8_bounce_70 : decode cX8_bounce 70 = .ok (.iinc 4 1, 3) := by decide +kernel
theorem dX8_bounce_73 : decode cX8_bounce 73 = .ok (.goto (-68), 3) := by decide +kernel
theorem dX8_bounce_76 : decode cX8_bounce 76 = .ok (.iload_n 3, 1) := by decide +kernel
theorem dX8_bounce_77 : decode cX8_bounce 77 = .ok (.ireturn, 1) := by decide +kernel
theorem dX8_holdsAskingFor_0 : decode cX8_holdsAskingFor 0 = .ok (.iconst 0, 1) := by decide +kernel
theorem dX8_holdsAskingFor_1 : decode cX8_holdsAskingFor 1 = .ok (.istore_n 2, 1) := by decide +kernel
theorem dX8_holdsAskingFor_2 : decode cX8_holdsAskingFor 2 = .ok (.iconst 0, 1) := by decide +kernel
theorem dX8_holdsAskingFor_3 : decode cX8_holdsAskingFor 3 = .ok (.istore_n 3, 1) := by decide +kernel
theorem dX8_holdsAskingFor_4 : decode cX8_holdsAskingFor 4 = .ok (.iload_n 3, 1) := by decide +kernel
theorem dX8_holdsAskingFor_5 : decode cX8_holdsAskingFor 5 = .ok (.aload_n 0, 1) := by decide +kernel
theorem dX8_holdsAskingFor_6 : decode cX8_holdsAskingFor 6 = .ok (.getfield 9, 3) := by decide +kernel
theorem dX8_holdsAskingFor_9 : decode cX8_holdsAskingFor 9 = .ok (.getfield 232, 3) := by decide +kernel
theorem dX8_holdsAskingFor_12 : decode cX8_holdsAskingFor 12 = .ok (.getfield 120, 3) := by decide +kernel
theorem dX8_holdsAskingFor_15 : decode cX8_holdsAskingFor 15 = .ok (.if_icmp .ge 90, 3) := by decide +kernel
theorem dX8_holdsAskingFor_18 : decode cX8_holdsAskingFor 18 = .ok (.aload_n 0, 1) := by decide +kernel
theorem dX8_holdsAskingFor_19 : decode cX8_holdsAskingFor 19 = .ok (.getfield 9, 3) := by decide +kernel
theorem dX8_holdsAskingFor_22 : decode cX8_holdsAskingFor 22 = .ok (.iload_n 3, 1) := by decide +kernel
theorem dX8_holdsAskingFor_23 : decode cX8_holdsAskingFor 23 = .ok (.invokevirtual 234, 3) := by decide +kernel
theorem dX8_holdsAskingFor_26 : decode cX8_holdsAskingFor 26 = .ok (.lstore 4, 2) := by decide +kernel
theorem dX8_holdsAskingFor_28 : decode cX8_holdsAskingFor 28 = .ok (.aload_n 0, 1) := by decide +kernel
theorem dX8_holdsAskingFor_29 : decode cX8_holdsAskingFor 29 = .ok (.getfield 66, 3) := by decide +kernel
theorem dX8_holdsAskingFor_32 : decode cX8_holdsAskingFor 32 = .ok (.aload_n 0, 1) := by decide +kernel
theorem dX8_holdsAskingFor_33 : decode cX8_holdsAskingFor 33 = .ok (.getfield 9, 3) := by decide +kernel
theorem dX8_holdsAskingFor_36 : decode cX8_holdsAskingFor 36 = .ok (.getfield 238, 3) := by decide +kernel
theorem dX8_holdsAskingFor_39 : decode cX8_holdsAskingFor 39 = .ok (.iload_n 3, 1) := by decide +kernel
theorem dX8_holdsAskingFor_40 : decode cX8_holdsAskingFor 40 = .ok (.invokestatic 112, 3) := by decide +kernel
theorem dX8_holdsAskingFor_43 : decode cX8_holdsAskingFor 43 = .ok (.if_icmp .lt 25, 3) := by decide +kernel
theorem dX8_holdsAskingFor_46 : decode cX8_holdsAskingFor 46 = .ok (.aload_n 0, 1) := by decide +kernel
theorem dX8_holdsAskingFor_47 : decode cX8_holdsAskingFor 47 = .ok (.getfield 66, 3) := by decide +kernel
theorem dX8_holdsAskingFor_50 : decode cX8_holdsAskingFor 50 = .ok (.aload_n 0, 1) := by decide +kernel
theorem dX8_holdsAskingFor_51 : decode cX8_holdsAskingFor 51 = .ok (.getfield 9, 3) := by decide +kernel
theorem dX8_holdsAskingFor_54 : decode cX8_holdsAskingFor 54 = .ok (.getfield 241, 3) := by decide +kernel
theorem dX8_holdsAskingFor_57 : decode cX8_holdsAskingFor 57 = .ok (.iload_n 3, 1) := by decide +kernel
theorem dX8_holdsAskingFor_58 : decode cX8_holdsAskingFor 58 = .ok (.invokestatic 112, 3) := by decide +kernel
theorem dX8_holdsAskingFor_61 : decode cX8_holdsAskingFor 61 = .ok (.if_icmp .gt 7, 3) := by decide +kernel
theorem dX8_holdsAskingFor_64 : decode cX8_holdsAskingFor 64 = .ok (.iconst 1, 1) := by decide +kernel
theorem dX8_holdsAskingFor_65 : decode cX8_holdsAskingFor 65 = .ok (.goto 4, 3) := by decide +kernel
theorem dX8_holdsAskingFor_68 : decode cX8_holdsAskingFor 68 = .ok (.iconst 0, 1) := by decide +kernel
theorem dX8_holdsAskingFor_69 : decode cX8_holdsAskingFor 69 = .ok (.istore 6, 2) := by decide +kernel
theorem dX8_holdsAskingFor_71 : decode cX8_holdsAskingFor 71 = .ok (.iload 6, 2) := by decide +kernel
theorem dX8_holdsAskingFor_73 : decode cX8_holdsAskingFor 73 = .ok (.ifCond .eq 26, 3) := by decide +kernel
theorem dX8_holdsAskingFor_76 : decode cX8_holdsAskingFor 76 = .ok (.lload 4, 2) := by decide +kernel
theorem dX8_holdsAskingFor_78 : decode cX8_holdsAskingFor 78 = .ok (.lconst 0, 1) := by decide +kernel
theorem dX8_holdsAskingFor_79 : decode cX8_holdsAskingFor 79 = .ok (.lcmp, 1) := by decide +kernel
theorem dX8_holdsAskingFor_80 : decode cX8_holdsAskingFor 80 = .ok (.ifCond .eq 13, 3) := by decide +kernel
theorem dX8_holdsAskingFor_83 : decode cX8_holdsAskingFor 83 = .ok (.aload_n 0, 1) := by decide +kernel
theorem dX8_holdsAskingFor_84 : decode cX8_holdsAskingFor 84 = .ok (.iload_n 1, 1) := by decide +kernel
theorem dX8_holdsAskingFor_85 : decode cX8_holdsAskingFor 85 = .ok (.lload 4, 2) := by decide +kernel
theorem dX8_holdsAskingFor_87 : decode cX8_holdsAskingFor 87 = .ok (.invokevirtual 169, 3) := by decide +kernel
theorem dX8_holdsAskingFor_90 : decode cX8_holdsAskingFor 90 = .ok (.ifCond .eq 9, 3) := by decide +kernel
theorem dX8_holdsAskingFor_93 : decode cX8_holdsAskingFor 93 = .ok (.iload_n 2, 1) := by decide +kernel
theorem dX8_holdsAskingFor_94 : decode cX8_holdsAskingFor 94 = .ok (.iconst 1, 1) := by decide +kernel
theorem dX8_holdsAskingFor_95 : decode cX8_holdsAskingFor 95 = .ok (.iload_n 3, 1) := by decide +kernel
theorem dX8_holdsAskingFor_96 : decode cX8_holdsAskingFor 96 = .ok (.ishl, 1) := by decide +kernel
theorem dX8_holdsAskingFor_97 : decode cX8_holdsAskingFor 97 = .ok (.ior, 1) := by decide +kernel
theorem dX8_holdsAskingFor_98 : decode cX8_holdsAskingFor 98 = .ok (.istore_n 2, 1) := by decide +kernel
theorem dX8_holdsAskingFor_99 : decode cX8_holdsAskingFor 99 = .ok (.iinc 3 1, 3) := by decide +kernel
theorem dX8_holdsAskingFor_102 : decode cX8_holdsAskingFor 102 = .ok (.goto (-98), 3) := by decide +kernel
theorem dX8_holdsAskingFor_105 : decode cX8_holdsAskingFor 105 = .ok (.iload_n 2, 1) := by decide +kernel
theorem dX8_holdsAskingFor_106 : decode cX8_holdsAskingFor 106 = .ok (.ireturn, 1) := by decide +kernel
theorem dX8_addReferences_0 : decode cX8_addReferences 0 = .ok (.iconst 0, 1) := by decide +kernel
theorem dX8_addReferences_1 : decode cX8_addReferences 1 = .ok (.istore 4, 2) := by decide +kernel
theorem dX8_addReferences_3 : decode cX8_addReferences 3 = .ok (.iload 4, 2) := by decide +kernel
theorem dX8_addReferences_5 : decode cX8_addReferences 5 = .ok (.bipush 10, 2) := by decide +kernel
theorem dX8_addReferences_7 : decode cX8_addReferences 7 = .ok (.if_icmp .ge 84, 3) := by decide +kernel
theorem dX8_addReferences_10 : decode cX8_addReferences 10 = .ok (.iload_n 1, 1) := by decide +kernel
theorem dX8_addReferences_11 : decode cX8_addReferences 11 = .ok (.bipush 10, 2) := by decide +kernel
theorem dX8_addReferences_13 : decode cX8_addReferences 13 = .ok (.imul, 1) := by decide +kernel
theorem dX8_addReferences_14 : decode cX8_addReferences 14 = .ok (.iload 4, 2) := by decide +kernel
theorem dX8_addReferences_16 : decode cX8_addReferences 16 = .ok (.iadd, 1) := by decide +kernel
theorem dX8_addReferences_17 : decode cX8_addReferences 17 = .ok (.istore 5, 2) := by decide +kernel
theorem dX8_addReferences_19 : decode cX8_addReferences 19 = .ok (.aload_n 0, 1) := by decide +kernel
theorem dX8_addReferences_20 : decode cX8_addReferences 20 = .ok (.getfield 25, 3) := by decide +kernel
theorem dX8_addReferences_23 : decode cX8_addReferences 23 = .ok (.iload 5, 2) := by decide +kernel
theorem dX8_addReferences_25 : decode cX8_addReferences 25 = .ok (.iload_n 2, 1) := by decide +kernel
theorem dX8_addReferences_26 : decode cX8_addReferences 26 = .ok (.iload 4, 2) := by decide +kernel
theorem dX8_addReferences_28 : decode cX8_addReferences 28 = .ok (.invokestatic 226, 3) := by decide +kernel
theorem dX8_addReferences_31 : decode cX8_addReferences 31 = .ok (.ifCond .eq 7, 3) := by decide +kernel
theorem dX8_addReferences_34 : decode cX8_addReferences 34 = .ok (.iconst 0, 1) := by decide +kernel
theorem dX8_addReferences_35 : decode cX8_addReferences 35 = .ok (.goto 4, 3) := by decide +kernel
theorem dX8_addReferences_38 : decode cX8_addReferences 38 = .ok (.iconst (-1), 1) := by decide +kernel
theorem dX8_addReferences_39 : decode cX8_addReferences 39 = .ok (.invokestatic 181, 3) := by decide +kernel
theorem dX8_addReferences_42 : decode cX8_addReferences 42 = .ok (.aload_n 0, 1) := by decide +kernel
theorem dX8_addReferences_43 : decode cX8_addReferences 43 = .ok (.getfield 28, 3) := by decide +kernel
theorem dX8_addReferences_46 : decode cX8_addReferences 46 = .ok (.iload 5, 2) := by decide +kernel
theorem dX8_addReferences_48 : decode cX8_addReferences 48 = .ok (.iload_n 3, 1) := by decide +kernel
theorem dX8_addReferences_49 : decode cX8_addReferences 49 = .ok (.iconst (-1), 1) := by decide +kernel
theorem dX8_addReferences_50 : decode cX8_addReferences 50 = .ok (.if_icmp .ne 18, 3) := by decide +kernel
theorem dX8_addReferences_53 : decode cX8_addReferences 53 = .ok (.aload_n 0, 1) := by decide +kernel
theorem dX8_addReferences_54 : decode cX8_addReferences 54 = .ok (.getfield 9, 3) := by decide +kernel
theorem dX8_addReferences_57 : decode cX8_addReferences 57 = .ok (.getfield 244, 3) := by decide +kernel
theorem dX8_addReferences_60 : decode cX8_addReferences 60 = .ok (.iload 4, 2) := by decide +kernel
theorem dX8_addReferences_62 : decode cX8_addReferences 62 = .ok (.invokestatic 112, 3) := by decide +kernel
theorem dX8_addReferences_65 : decode cX8_addReferences 65 = .ok (.goto 4, 3) := by decide +kernel
theorem dX8_addReferences_68 : decode cX8_addReferences 68 = .ok (.iload_n 3, 1) := by decide +kernel
theorem dX8_addReferences_69 : decode cX8_addReferences 69 = .ok (.invokestatic 181, 3) := by decide +kernel
theorem dX8_addReferences_72 : decode cX8_addReferences 72 = .ok (.aload_n 0, 1) := by decide +kernel
theorem dX8_addReferences_73 : decode cX8_addReferences 73 = .ok (.getfield 31, 3) := by decide +kernel
theorem dX8_addReferences_76 : decode cX8_addReferences 76 = .ok (.iload 5, 2) := by decide +kernel
theorem dX8_addReferences_78 : decode cX8_addReferences 78 = .ok (.aload_n 0, 1) := by decide +kernel
theorem dX8_addReferences_79 : decode cX8_addReferences 79 = .ok (.getfield 66, 3) := by decide +kernel
theorem dX8_addReferences_82 : decode cX8_addReferences 82 = .ok (.invokestatic 181, 3) := by decide +kernel
theorem dX8_addReferences_85 : decode cX8_addReferences 85 = .ok (.iinc 4 1, 3) := by decide +kernel
theorem dX8_addReferences_88 : decode cX8_addReferences 88 = .ok (.goto (-85), 3) := by decide +kernel
theorem dX8_addReferences_91 : decode cX8_addReferences 91 = .ok (.return_, 1) := by decide +kernel
theorem dX9_init_0 : decode cX9_init 0 = .ok (.aload_n 0, 1) := by decide +kernel
theorem dX9_init_1 : decode cX9_init 1 = .ok (.invokespecial 3, 3) := by decide +kernel
theorem dX9_init_4 : decode cX9_init 4 = .ok (.aload_n 0, 1) := by decide +kernel
theorem dX9_init_5 : decode cX9_init 5 = .ok (.sipush 480, 3) := by decide +kernel
theorem dX9_init_8 : decode cX9_init 8 = .ok (.anewarray 9, 3) := by decide +kernel
theorem dX9_init_11 : decode cX9_init 11 = .ok (.putfield 11, 3) := by decide +kernel
theorem dX9_init_14 : decode cX9_init 14 = .ok (.aload_n 0, 1) := by decide +kernel
theorem dX9_init_15 : decode cX9_init 15 = .ok (.sipush 480, 3) := by decide +kernel
theorem dX9_init_18 : decode cX9_init 18 = .ok (.newarray .int, 2) := by decide +kernel
theorem dX9_init_20 : decode cX9_init 20 = .ok (.putfield 17, 3) := by decide +kernel
theorem dX9_init_23 : decode cX9_init 23 = .ok (.aload_n 0, 1) := by decide +kernel
theorem dX9_init_24 : decode cX9_init 24 = .ok (.sipush 480, 3) := by decide +kernel
theorem dX9_init_27 : decode cX9_init 27 = .ok (.newarray .int, 2) := by decide +kernel
theorem dX9_init_29 : decode cX9_init 29 = .ok (.putfield 21, 3) := by decide +kernel
theorem dX9_init_32 : decode cX9_init 32 = .ok (.aload_n 0, 1) := by decide +kernel
theorem dX9_init_33 : decode cX9_init 33 = .ok (.sipush 480, 3) := by decide +kernel
theorem dX9_init_36 : decode cX9_init 36 = .ok (.newarray .int, 2) := by decide +kernel
theorem dX9_init_38 : decode cX9_init 38 = .ok (.putfield 24, 3) := by decide +kernel
theorem dX9_init_41 : decode cX9_init 41 = .ok (.aload_n 0, 1) := by decide +kernel
theorem dX9_init_42 : decode cX9_init 42 = .ok (.new 9, 3) := by decide +kernel
theorem dX9_init_45 : decode cX9_init 45 = .ok (.dup, 1) := by decide +kernel
theorem dX9_init_46 : decode cX9_init 46 = .ok (.iconst 0, 1) := by decide +kernel
theorem dX9_init_47 : decode cX9_init 47 = .ok (.invokespecial 27, 3) := by decide +kernel
theorem dX9_init_50 : decode cX9_init 50 = .ok (.putfield 30, 3) := by decide +kernel
theorem dX9_init_53 : decode cX9_init 53 = .ok (.return_, 1) := by decide +kernel
theorem dX9_clear_0 : decode cX9_clear 0 = .ok (.aload_n 0, 1) := by decide +kernel
theorem dX9_clear_1 : decode cX9_clear 1 = .ok (.iconst 0, 1) := by decide +kernel
theorem dX9_clear_2 : decode cX9_clear 2 = .ok (.putfield 34, 3) := by decide +kernel
theorem dX9_clear_5 : decode cX9_clear 5 = .ok (.aload_n 0, 1) := by decide +kernel
theorem dX9_clear_6 : decode cX9_clear 6 = .ok (.iconst 0, 1) := by decide +kernel
theorem dX9_clear_7 : decode cX9_clear 7 = .ok (.putfield 38, 3) := by decide +kernel
theorem dX9_clear_10 : decode cX9_clear 10 = .ok (.aload_n 0, 1) := by decide +kernel
theorem dX9_clear_11 : decode cX9_clear 11 = .ok (.iconst 0, 1) := by decide +kernel
theorem dX9_clear_12 : decode cX9_clear 12 = .ok (.putfield 41, 3) := by decide +kernel
theorem dX9_clear_15 : decode cX9_clear 15 = .ok (.return_, 1) := by decide +kernel
theorem dX9_copyFrom_0 : decode cX9_copyFrom 0 = .ok (.aload_n 0, 1) := by decide +kernel
theorem dX9_copyFrom_1 : decode cX9_copyFrom 1 = .ok (.aload_n 1, 1) := by decide +kernel
theorem dX9_copyFrom_2 : decode cX9_copyFrom 2 = .ok (.getfield 34, 3) := by decide +kernel
theorem dX9_copyFrom_5 : decode cX9_copyFrom 5 = .ok (.putfield 34, 3) := by decide +kernel
theorem dX9_copyFrom_8 : decode cX9_copyFrom 8 = .ok (.aload_n 0, 1) := by decide +kernel
theorem dX9_copyFrom_9 : decode cX9_copyFrom 9 = .ok (.aload_n 1, 1) := by decide +kernel
theorem dX9_copyFrom_10 : decode cX9_copyFrom 10 = .ok (.getfield 38, 3) := by decide +kernel
theorem dX9_copyFrom_13 : decode cX9_copyFrom 13 = .ok (.putfield 38, 3) := by decide +kernel
theorem dX9_copyFrom_16 : decode cX9_copyFrom 16 = .ok (.aload_n 0, 1) := by decide +kernel
theorem dX9_copyFrom_17 : decode cX9_copyFrom 17 = .ok (.aload_n 1, 1) := by decide +kernel
theorem dX9_copyFrom_18 : decode cX9_copyFrom 18 = .ok (.getfield 41, 3) := by decide +kernel
theorem dX9_copyFrom_21 : decode cX9_copyFrom 21 = .ok (.putfield 41, 3) := by decide +kernel
theorem dX9_copyFrom_24 : decode cX9_copyFrom 24 = .ok (.iconst 0, 1) := by decide +kernel
theorem dX9_copyFrom_25 : decode cX9_copyFrom 25 = .ok (.istore_n 2, 1) := by decide +kernel
theorem dX9_copyFrom_26 : decode cX9_copyFrom 26 = .ok (.iload_n 2, 1) := by decide +kernel
theorem dX9_copyFrom_27 : decode cX9_copyFrom 27 = .ok (.aload_n 0, 1) := by decide +kernel
theorem dX9_copyFrom_28 : decode cX9_copyFrom 28 = .ok (.getfield 11, 3) := by decide +kernel
theorem dX9_copyFrom_31 : decode cX9_copyFrom 31 = .ok (.arraylength, 1) := by decide +kernel
theorem dX9_copyFrom_32 : decode cX9_copyFrom 32 = .ok (.if_icmp .ge 30, 3) := by decide +kernel
theorem dX9_copyFrom_35 : decode cX9_copyFrom 35 = .ok (.iload_n 2, 1) := by decide +kernel
theorem dX9_copyFrom_36 : decode cX9_copyFrom 36 = .ok (.aload_n 1, 1) := by decide +kernel
theorem dX9_copyFrom_37 : decode cX9_copyFrom 37 = .ok (.getfield 11, 3) := by decide +kernel
theorem dX9_copyFrom_40 : decode cX9_copyFrom 40 = .ok (.arraylength, 1) := by decide +kernel
theorem dX9_copyFrom_41 : decode cX9_copyFrom 41 = .ok (.if_icmp .ge 21, 3) := by decide +kernel
theorem dX9_copyFrom_44 : decode cX9_copyFrom 44 = .ok (.aload_n 0, 1) := by decide +kernel
theorem dX9_copyFrom_45 : decode cX9_copyFrom 45 = .ok (.getfield 11, 3) := by decide +kernel
theorem dX9_copyFrom_48 : decode cX9_copyFrom 48 = .ok (.iload_n 2, 1) := by decide +kernel
theorem dX9_copyFrom_49 : decode cX9_copyFrom 49 = .ok (.aload_n 1, 1) := by decide +kernel
theorem dX9_copyFrom_50 : decode cX9_copyFrom 50 = .ok (.getfield 11, 3) := by decide +kernel
theorem dX9_copyFrom_53 : decode cX9_copyFrom 53 = .ok (.iload_n 2, 1) := by decide +kernel
theorem dX9_copyFrom_54 : decode cX9_copyFrom 54 = .ok (.aaload, 1) := by decide +kernel
theorem dX9_copyFrom_55 : decode cX9_copyFrom 55 = .ok (.aastore, 1) := by decide +kernel
theorem dX9_copyFrom_56 : decode cX9_copyFrom 56 = .ok (.iinc 2 1, 3) := by decide +kernel
theorem dX9_copyFrom_59 : decode cX9_copyFrom 59 = .ok (.goto (-33), 3) := by decide +kernel
theorem dX9_copyFrom_62 : decode cX9_copyFrom 62 = .ok (.aload_n 1, 1) := by decide +kernel
theorem dX9_copyFrom_63 : decode cX9_copyFrom 63 = .ok (.getfield 17, 3) := by decide +kernel
theorem dX9_copyFrom_66 : decode cX9_copyFrom 66 = .ok (.aload_n 0, 1) := by decide +kernel
theorem dX9_copyFrom_67 : decode cX9_copyFrom 67 = .ok (.getfield 17, 3) := by decide +kernel
theorem dX9_copyFrom_70 : decode cX9_copyFrom 70 = .ok (.invokestatic 44, 3) := by decide +kernel
theorem dX9_copyFrom_73 : decode cX9_copyFrom 73 = .ok (.aload_n 1, 1) := by decide +kernel
theorem dX9_copyFrom_74 : decode cX9_copyFrom 74 = .ok (.getfield 21, 3) := by decide +kernel
theorem dX9_copyFrom_77 : decode cX9_copyFrom 77 = .ok (.aload_n 0, 1) := by decide +kernel
theorem dX9_copyFrom_78 : decode cX9_copyFrom 78 = .ok (.getfield 21, 3) := by decide +kernel
theorem dX9_copyFrom_81 : decode cX9_copyFrom 81 = .ok (.invokestatic 44, 3) := by decide +kernel
theorem dX9_copyFrom_84 : decode cX9_copyFrom 84 = .ok (.aload_n 1, 1) := by decide +kernel
theorem dX9_copyFrom_85 : decode cX9_copyFrom 85 = .ok (.getfield 24, 3) := by decide +kernel
theorem dX9_copyFrom_88 : decode cX9_copyFrom 88 = .ok (.aload_n 0, 1) := by decide +kernel
theorem dX9_copyFrom_89 : decode cX9_copyFrom 89 = .ok (.getfield 24, 3) := by decide +kernel
theorem dX9_copyFrom_92 : decode cX9_copyFrom 92 = .ok (.invokestatic 44, 3) := by decide +kernel
theorem dX9_copyFrom_95 : decode cX9_copyFrom 95 = .ok (.return_, 1) := by decide +kernel
theorem dX9_isStored_0 : decode cX9_isStored 0 = .ok (.iload_n 1, 1) := by decide +kernel
theorem dX9_isStored_1 : decode cX9_isStored 1 = .ok (.ifCond .lt 28, 3) := by decide +kernel
theorem dX9_isStored_4 : decode cX9_isStored 4 = .ok (.iload_n 1, 1) := by decide +kernel
theorem dX9_isStored_5 : decode cX9_isStored 5 = .ok (.aload_n 0, 1) := by decide +kernel
theorem dX9_isStored_6 : decode cX9_isStored 6 = .ok (.getfield 34, 3) := by decide +kernel
theorem dX9_isStored_9 : decode cX9_isStored 9 = .ok (.if_icmp .ge 20, 3) := by decide +kernel
theorem dX9_isStored_12 : decode cX9_isStored 12 = .ok (.aload_n 0, 1) := by decide +kernel
theorem dX9_isStored_13 : decode cX9_isStored 13 = .ok (.getfield 24, 3) := by decide +kernel
theorem dX9_isStored_16 : decode cX9_isStored 16 = .ok (.iload_n 1, 1) := by decide +kernel
theorem dX9_isStored_17 : decode cX9_isStored 17 = .ok (.invokestatic 48, 3) := by decide +kernel
theorem dX9_isStored_20 : decode cX9_isStored 20 = .ok (.bipush (-2), 2) := by decide +kernel
theorem dX9_isStored_22 : decode cX9_isStored 22 = .ok (.if_icmp .eq 7, 3) := by decide +kernel
theorem dX9_isStored_25 : decode cX9_isStored 25 = .ok (.iconst 1, 1) := by decide +kernel
theorem dX9_isStored_26 : decode cX9_isStored 26 = .ok (.goto 4, 3) := by decide +kernel
theorem dX9_isStored_29 : decode cX9_isStored 29 = .ok (.iconst 0, 1) := by decide +kernel
theorem dX9_isStored_30 : decode cX9_isStored 30 = .ok (.ireturn, 1) := by decide +kernel
theorem dX9_isDead_0 : decode cX9_isDead 0 = .ok (.aload_n 0, 1) := by decide +kernel
theorem dX9_isDead_1 : decode cX9_isDead 1 = .ok (.iload_n 1, 1) := by decide +kernel
theorem dX9_isDead_2 : decode cX9_isDead 2 = .ok (.invokevirtual 52, 3) := by decide +kernel
theorem dX9_isDead_5 : decode cX9_isDead 5 = .ok (.ifCond .eq 19, 3) := by decide +kernel
theorem dX9_isDead_8 : decode cX9_isDead 8 = .ok (.aload_n 0, 1) := by decide +kernel
theorem dX9_isDead_9 : decode cX9_isDead 9 = .ok (.getfield 24, 3) := by decide +kernel
theorem dX9_isDead_12 : decode cX9_isDead 12 = .ok (.iload_n 1, 1) := by decide +kernel
theorem dX9_isDead_13 : decode cX9_isDead 13 = .ok (.invokestatic 48, 3) := by decide +kernel
theorem dX9_isDead_16 : decode cX9_isDead 16 = .ok (.iconst (-1), 1) := by decide +kernel
theorem dX9_isDead_17 : decode cX9_isDead 17 = .ok (.if_icmp .eq 7, 3) := by decide +kernel
theorem dX9_isDead_20 : decode cX9_isDead 20 = .ok (.iconst 1, 1) := by decide +kernel
theorem dX9_isDead_21 : decode cX9_isDead 21 = .ok (.goto 4, 3) := by decide +kernel
theorem dX9_isDead_24 : decode cX9_isDead 24 = .ok (.iconst 0, 1) := by decide +kernel
theorem dX9_isDead_25 : decode cX9_isDead 25 = .ok (.ireturn, 1) := by decide +kernel
theorem dX9_bytesOf_0 : decode cX9_bytesOf 0 = .ok (.iload_n 1, 1) := by decide +kernel
theorem dX9_bytesOf_1 : decode cX9_bytesOf 1 = .ok (.ifCond .lt 29, 3) := by decide +kernel
theorem dX9_bytesOf_4 : decode cX9_bytesOf 4 = .ok (.iload_n 1, 1) := by decide +kernel
theorem dX9_bytesOf_5 : decode cX9_bytesOf 5 = .ok (.aload_n 0, 1) := by decide +kernel
theorem dX9_bytesOf_6 : decode cX9_bytesOf 6 = .ok (.getfield 34, 3) := by decide +kernel
theorem dX9_bytesOf_9 : decode cX9_bytesOf 9 = .ok (.if_icmp .ge 21, 3) := by decide +kernel
theorem dX9_bytesOf_12 : decode cX9_bytesOf 12 = .ok (.iload_n 1, 1) := by decide +kernel
theorem dX9_bytesOf_13 : decode cX9_bytesOf 13 = .ok (.aload_n 0, 1) := by decide +kernel
theorem dX9_bytesOf_14 : decode cX9_bytesOf 14 = .ok (.getfield 11, 3) := by decide +kernel
theorem dX9_bytesOf_17 : decode cX9_bytesOf 17 = .ok (.arraylength, 1) := by decide +kernel
theorem dX9_bytesOf_18 : decode cX9_bytesOf 18 = .ok (.if_icmp .ge 12, 3) := by decide +kernel
theorem dX9_bytesOf_21 : decode cX9_bytesOf 21 = .ok (.aload_n 0, 1) := by decide +kernel
theorem dX9_bytesOf_22 : decode cX9_bytesOf 22 = .ok (.getfield 11, 3) := by decide +kernel
theorem dX9_bytesOf_25 : decode cX9_bytesOf 25 = .ok (.iload_n 1, 1) := by decide +kernel
theorem dX9_bytesOf_26 : decode cX9_bytesOf 26 = .ok (.aaload, 1) := by decide +kernel
theorem dX9_bytesOf_27 : decode cX9_bytesOf 27 = .ok (.goto 4, 3) := by decide +kernel
theorem dX9_bytesOf_30 : decode cX9_bytesOf 30 = .ok (.aconst_null, 1) := by decide +kernel
theorem dX9_bytesOf_31 : decode cX9_bytesOf 31 = .ok (.astore_n 2, 1) := by decide +kernel
theorem dX9_bytesOf_32 : decode cX9_bytesOf 32 = .ok (.aload_n 2, 1) := by decide +kernel
theorem dX9_bytesOf_33 : decode cX9_bytesOf 33 = .ok (.ifnonnull 10, 3) := by decide +kernel
theorem dX9_bytesOf_36 : decode cX9_bytesOf 36 = .ok (.aload_n 0, 1) := by decide +kernel
theorem dX9_bytesOf_37 : decode cX9_bytesOf 37 = .ok (.getfield 30, 3) := by decide +kernel
theorem dX9_bytesOf_40 : decode cX9_bytesOf 40 = .ok (.goto 4, 3) := by decide +kernel
theorem dX9_bytesOf_43 : decode cX9_bytesOf 43 = .ok (.aload_n 2, 1) := by decide +kernel
theorem dX9_bytesOf_44 : decode cX9_bytesOf 44 = .ok (.areturn, 1) := by decide +kernel
theorem dX9_byteSum_0 : decode cX9_byteSum 0 = .ok (.iconst 0, 1) := by decide +kernel
theorem dX9_byteSum_1 : decode cX9_byteSum 1 = .ok (.istore_n 2, 1) := by decide +kernel
theorem dX9_byteSum_2 : decode cX9_byteSum 2 = .ok (.iconst 0, 1) := by decide +kernel
theorem dX9_byteSum_3 : decode cX9_byteSum 3 = .ok (.istore_n 3, 1) := by decide +kernel
theorem dX9_byteSum_4 : decode cX9_byteSum 4 = .ok (.iload_n 3, 1) := by decide +kernel
theorem dX9_byteSum_5 : decode cX9_byteSum 5 = .ok (.aload_n 0, 1) := by decide +kernel
theorem dX9_byteSum_6 : decode cX9_byteSum 6 = .ok (.getfield 34, 3) := by decide +kernel
theorem dX9_byteSum_9 : decode cX9_byteSum 9 = .ok (.if_icmp .ge 43, 3) := by decide +kernel
theorem dX9_byteSum_12 : decode cX9_byteSum 12 = .ok (.iload_n 1, 1) := by decide +kernel
theorem dX9_byteSum_13 : decode cX9_byteSum 13 = .ok (.ifCond .eq 14, 3) := by decide +kernel
theorem dX9_byteSum_16 : decode cX9_byteSum 16 = .ok (.aload_n 0, 1) := by decide +kernel
theorem dX9_byteSum_17 : decode cX9_byteSum 17 = .ok (.iload_n 3, 1) := by decide +kernel
theorem dX9_byteSum_18 : decode cX9_byteSum 18 = .ok (.invokevirtual 56, 3) := by decide +kernel
theorem dX9_byteSum_21 : decode cX9_byteSum 21 = .ok (.ifCond .eq 25, 3) := by decide +kernel
theorem dX9_byteSum_24 : decode cX9_byteSum 24 = .ok (.goto 11, 3) := by decide +kernel
theorem dX9_byteSum_27 : decode cX9_byteSum 27 = .ok (.aload_n 0, 1) := by decide +kernel
theorem dX9_byteSum_28 : decode cX9_byteSum 28 = .ok (.iload_n 3, 1) := by decide +kernel
theorem dX9_byteSum_29 : decode cX9_byteSum 29 = .ok (.invokevirtual 52, 3) := by decide +kernel
theorem dX9_byteSum_32 : decode cX9_byteSum 32 = .ok (.ifCond .eq 14, 3) := by decide +kernel
theorem dX9_byteSum_35 : decode cX9_byteSum 35 = .ok (.iload_n 2, 1) := by decide +kernel
theorem dX9_byteSum_36 : decode cX9_byteSum 36 = .ok (.aload_n 0, 1) := by decide +kernel
theorem dX9_byteSum_37 : decode cX9_byteSum 37 = .ok (.iload_n 3, 1) := by decide +kernel
theorem dX9_byteSum_38 : decode cX9_byteSum 38 = .ok (.invokevirtual 59, 3) := by decide +kernel
theorem dX9_byteSum_41 : decode cX9_byteSum 41 = .ok (.getfield 63, 3) := by decide +kernel
theorem dX9_byteSum_44 : decode cX9_byteSum 44 = .ok (.iadd, 1) := by decide +kernel
theorem dX9_byteSum_45 : decode cX9_byteSum 45 = .ok (.istore_n 2, 1) := by decide +kernel
theorem dX9_byteSum_46 : decode cX9_byteSum 46 = .ok (.iinc 3 1, 3) := by decide +kernel
theorem dX9_byteSum_49 : decode cX9_byteSum 49 = .ok (.goto (-45), 3) := by decide +kernel
theorem dX9_byteSum_52 : decode cX9_byteSum 52 = .ok (.iload_n 2, 1) := by decide +kernel
theorem dX9_byteSum_53 : decode cX9_byteSum 53 = .ok (.ireturn, 1) := by decide +kernel
theorem dX9_numberOf_0 : decode cX9_numberOf 0 = .ok (.iconst 0, 1) := by decide +kernel
theorem dX9_numberOf_1 : decode cX9_numberOf 1 = .ok (.istore_n 3, 1) := by decide +kernel
theorem dX9_numberOf_2 : decode cX9_numberOf 2 = .ok (.iload_n 3, 1) := by decide +kernel
theorem dX9_numberOf_3 : decode cX9_numberOf 3 = .ok (.aload_n 0, 1) := by decide +kernel
theorem dX9_numberOf_4 : decode cX9_numberOf 4 = .ok (.getfield 34, 3) := by decide +kernel
theorem dX9_numberOf_7 : decode cX9_numberOf 7 = .ok (.if_icmp .ge 32, 3) := by decide +kernel
theorem dX9_numberOf_10 : decode cX9_numberOf 10 = .ok (.aload_n 0, 1) := by decide +kernel
theorem dX9_numberOf_11 : decode cX9_numberOf 11 = .ok (.iload_n 3, 1) := by decide +kernel
theorem dX9_numberOf_12 : decode cX9_numberOf 12 = .ok (.invokevirtual 52, 3) := by decide +kernel
theorem dX9_numberOf_15 : decode cX9_numberOf 15 = .ok (.ifCond .eq 18, 3) := by decide +kernel
theorem dX9_numberOf_18 : decode cX9_numberOf 18 = .ok (.aload_n 1, 1) := by decide +kernel
theorem dX9_numberOf_19 : decode cX9_numberOf 19 = .ok (.aload_n 0, 1) := by decide +kernel
theorem dX9_numberOf_20 : decode cX9_numberOf 20 = .ok (.iload_n 3, 1) := by decide +kernel
theorem dX9_numberOf_21 : decode cX9_numberOf 21 = .ok (.invokevirtual 59, 3) := by decide +kernel
theorem dX9_numberOf_24 : decode cX9_numberOf 24 = .ok (.iload_n 2, 1) := by decide +kernel
theorem dX9_numberOf_25 : decode cX9_numberOf 25 = .ok (.invokevirtual 66, 3) := by decide +kernel
theorem dX9_numberOf_28 : decode cX9_numberOf 28 = .ok (.ifCond .eq 5, 3) := by decide +kernel
theorem dX9_numberOf_31 : decode cX9_numberOf 31 = .ok (.iload_n 3, 1) := by decide +kernel
theorem dX9_numberOf_32 : decode cX9_numberOf 32 = .ok (.ireturn, 1) := by decide +kernel
theorem dX9_numberOf_33 : decode cX9_numberOf 33 = .ok (.iinc 3 1, 3) := by decide +kernel
theorem dX9_numberOf_36 : decode cX9_numberOf 36 = .ok (.goto (-34), 3) := by decide +kernel
theorem dX9_numberOf_39 : decode cX9_numberOf 39 = .ok (.iconst (-1), 1) := by decide +kernel
theorem dX9_numberOf_40 : decode cX9_numberOf 40 = .ok (.ireturn, 1) := by decide +kernel
theorem dX9_bytesWith_0 : decode cX9_bytesWith 0 = .ok (.aload_n 0, 1) := by decide +kernel
theorem dX9_bytesWith_1 : decode cX9_bytesWith 1 = .ok (.iconst 0, 1) := by decide +kernel
theorem dX9_bytesWith_2 : decode cX9_bytesWith 2 = .ok (.invokevirtual 72, 3) := by decide +kernel
theorem dX9_bytesWith_5 : decode cX9_bytesWith 5 = .ok (.istore_n 2, 1) := by decide +kernel
theorem dX9_bytesWith_6 : decode cX9_bytesWith 6 = .ok (.iconst 0, 1) := by decide +kernel
theorem dX9_bytesWith_7 : decode cX9_bytesWith 7 = .ok (.istore_n 3, 1) := by decide +kernel
theorem dX9_bytesWith_8 : decode cX9_bytesWith 8 = .ok (.iload_n 3, 1) := by decide +kernel
theorem dX9_bytesWith_9 : decode cX9_bytesWith 9 = .ok (.aload_n 1, 1) := by decide +kernel
theorem dX9_bytesWith_10 : decode cX9_bytesWith 10 = .ok (.getfield 76, 3) := by decide +kernel
theorem dX9_bytesWith_13 : decode cX9_bytesWith 13 = .ok (.if_icmp .ge 35, 3) := by decide +kernel
theorem dX9_bytesWith_16 : decode cX9_bytesWith 16 = .ok (.aload_n 1, 1) := by decide +kernel
theorem dX9_bytesWith_17 : decode cX9_bytesWith 17 = .ok (.iload_n 3, 1) := by decide +kernel
theorem dX9_bytesWith_18 : decode cX9_bytesWith 18 = .ok (.invokevirtual 79, 3) := by decide +kernel
theorem dX9_bytesWith_21 : decode cX9_bytesWith 21 = .ok (.ifCond .eq 21, 3) := by decide +kernel
theorem dX9_bytesWith_24 : decode cX9_bytesWith 24 = .ok (.aload_n 0, 1) := by decide +kernel
theorem dX9_bytesWith_25 : decode cX9_bytesWith 25 = .ok (.aload_n 1, 1) := by decide +kernel
theorem dX9_bytesWith_26 : decode cX9_bytesWith 26 = .ok (.iload_n 3, 1) := by decide +kernel
theorem dX9_bytesWith_27 : decode cX9_bytesWith 27 = .ok (.invokevirtual 82, 3) := by decide +kernel
theorem dX9_bytesWith_30 : decode cX9_bytesWith 30 = .ok (.iconst (-1), 1) := by decide +kernel
theorem dX9_bytesWith_31 : decode cX9_bytesWith 31 = .ok (.if_icmp .ne 11, 3) := by decide +kernel
theorem dX9_bytesWith_34 : decode cX9_bytesWith 34 = .ok (.iload_n 2, 1) := by decide +kernel
theorem dX9_bytesWith_35 : decode cX9_bytesWith 35 = .ok (.aload_n 1, 1) := by decide +kernel
theorem dX9_bytesWith_36 : decode cX9_bytesWith 36 = .ok (.iload_n 3, 1) := by decide +kernel
theorem dX9_bytesWith_37 : decode cX9_bytesWith 37 = .ok (.invokevirtual 86, 3) := by decide +kernel
theorem dX9_bytesWith_40 : decode cX9_bytesWith 40 = .ok (.iadd, 1) := by decide +kernel
theorem dX9_bytesWith_41 : decode cX9_bytesWith 41 = .ok (.istore_n 2, 1) := by decide +kernel
theorem dX9_bytesWith_42 : decode cX9_bytesWith 42 = .ok (.iinc 3 1, 3) := by decide +kernel
theorem dX9_bytesWith_45 : decode cX9_bytesWith 45 = .ok (.goto (-37), 3) := by decide +kernel
theorem dX9_bytesWith_48 : decode cX9_bytesWith 48 = .ok (.iload_n 2, 1) := by decide +kernel
theorem dX9_bytesWith_49 : decode cX9_bytesWith 49 = .ok (.ireturn, 1) := by decide +kernel
theorem dX9_numberFor_0 : decode cX9_numberFor 0 = .ok (.aload_n 0, 1) := by decide +kernel
theorem dX9_numberFor_1 : decode cX9_numberFor 1 = .ok (.aload_n 1, 1) := by decide +kernel
theorem dX9_numberFor_2 : decode cX9_numberFor 2 = .ok (.iload_n 2, 1) := by decide +kernel
theorem dX9_numberFor_3 : decode cX9_numberFor 3 = .ok (.invokevirtual 82, 3) := by decide +kernel
theorem dX9_numberFor_6 : decode cX9_numberFor 6 = .ok (.istore 4, 2) := by decide +kernel
theorem dX9_numberFor_8 : decode cX9_numberFor 8 = .ok (.iload 4, 2) := by decide +kernel
theorem dX9_numberFor_10 : decode cX9_numberFor 10 = .ok (.iconst (-1), 1) := by decide +kernel
theorem dX9_numberFor_11 : decode cX9_numberFor 11 = .ok (.if_icmp .ne 15, 3) := by decide +kernel
theorem dX9_numberFor_14 : decode cX9_numberFor 14 = .ok (.aload_n 0, 1) := by decide +kernel
theorem dX9_numberFor_15 : decode cX9_numberFor 15 = .ok (.getfield 34, 3) := by decide +kernel
theorem dX9_numberFor_18 : decode cX9_numberFor 18 = .ok (.aload_n 0, 1) := by decide +kernel
theorem dX9_numberFor_19 : decode cX9_numberFor 19 = .ok (.getfield 11, 3) := by decide +kernel
theorem dX9_numberFor_22 : decode cX9_numberFor 22 = .ok (.arraylength, 1) := by decide +kernel
theorem dX9_numberFor_23 : decode cX9_numberFor 23 = .ok (.if_icmp .lt 6, 3) := by decide +kernel
theorem dX9_numberFor_26 : decode cX9_numberFor 26 = .ok (.iload 4, 2) := by decide +kernel
theorem dX9_numberFor_28 : decode cX9_numberFor 28 = .ok (.ireturn, 1) := by decide +kernel
theorem dX9_numberFor_29 : decode cX9_numberFor 29 = .ok (.aload_n 0, 1) := by decide +kernel
theorem dX9_numberFor_30 : decode cX9_numberFor 30 = .ok (.getfield 34, 3) := by decide +kernel
theorem dX9_numberFor_33 : decode cX9_numberFor 33 = .ok (.istore 5, 2) := by decide +kernel
theorem dX9_numberFor_35 : decode cX9_numberFor 35 = .ok (.iload 5, 2) := by decide +kernel
theorem dX9_numberFor_37 : decode cX9_numberFor 37 = .ok (.ifCond .lt 15, 3) := by decide +kernel
theorem dX9_numberFor_40 : decode cX9_numberFor 40 = .ok (.aload_n 0, 1) := by decide +kernel
theorem dX9_numberFor_41 : decode cX9_numberFor 41 = .ok (.getfield 11, 3) := by decide +kernel
theorem dX9_numberFor_44 : decode cX9_numberFor 44 = .ok (.iload 5, 2) := by decide +kernel
theorem dX9_numberFor_46 : decode cX9_numberFor 46 = .ok (.aload_n 1, 1) := by decide +kernel
theorem dX9_numberFor_47 : decode cX9_numberFor 47 = .ok (.iload_n 2, 1) := by decide +kernel
theorem dX9_numberFor_48 : decode cX9_numberFor 48 = .ok (.invokevirtual 90, 3) := by decide +kernel
theorem dX9_numberFor_51 : decode cX9_numberFor 51 = .ok (.aastore, 1) := by decide +kernel
theorem dX9_numberFor_52 : decode cX9_numberFor 52 = .ok (.aload_n 0, 1) := by decide +kernel
theorem dX9_numberFor_53 : decode cX9_numberFor 53 = .ok (.getfield 17, 3) := by decide +kernel
theorem dX9_numberFor_56 : decode cX9_numberFor 56 = .ok (.iload 5, 2) := by decide +kernel
theorem dX9_numberFor_58 : decode cX9_numberFor 58 = .ok (.iload_n 3, 1) := by decide +kernel
theorem dX9_numberFor_59 : decode cX9_numberFor 59 = .ok (.invokestatic 93, 3) := by decide +kernel
theorem dX9_numberFor_62 : decode cX9_numberFor 62 = .ok (.aload_n 0, 1) := by decide +kernel
theorem dX9_numberFor_63 : decode cX9_numberFor 63 = .ok (.getfield 21, 3) := by decide +kernel
theorem dX9_numberFor_66 : decode cX9_numberFor 66 = .ok (.iload 5, 2) := by decide +kernel
theorem dX9_numberFor_68 : decode cX9_numberFor 68 = .ok (.iconst 0, 1) := by decide +kernel
theorem dX9_numberFor_69 : decode cX9_numberFor 69 = .ok (.invokestatic 93, 3) := by decide +kernel
theorem dX9_numberFor_72 : decode cX9_numberFor 72 = .ok (.aload_n 0, 1) := by decide +kernel
theorem dX9_numberFor_73 : decode cX9_numberFor 73 = .ok (.getfield 24, 3) := by decide +kernel
theorem dX9_numberFor_76 : decode cX9_numberFor 76 = .ok (.iload 5, 2) := by decide +kernel
theorem dX9_numberFor_78 : decode cX9_numberFor 78 = .ok (.iconst (-1), 1) := by decide +kernel
theorem dX9_numberFor_79 : decode cX9_numberFor 79 = .ok (.invokestatic 93, 3) := by decide +kernel
theorem dX9_numberFor_82 : decode cX9_numberFor 82 = .ok (.aload_n 0, 1) := by decide +kernel
theorem dX9_numberFor_83 : decode cX9_numberFor 83 = .ok (.dup, 1) := by decide +kernel
theorem dX9_numberFor_84 : decode cX9_numberFor 84 = .ok (.getfield 34, 3) := by decide +kernel
theorem dX9_numberFor_87 : decode cX9_numberFor 87 = .ok (.iconst 1, 1) := by decide +kernel
theorem dX9_numberFor_88 : decode cX9_numberFor 88 = .ok (.iadd, 1) := by decide +kernel
theorem dX9_numberFor_89 : decode cX9_numberFor 89 = .ok (.putfield 34, 3) := by decide +kernel
theorem dX9_numberFor_92 : decode cX9_numberFor 92 = .ok (.aload_n 0, 1) := by decide +kernel
theorem dX9_numberFor_93 : decode cX9_numberFor 93 = .ok (.dup, 1) := by decide +kernel
theorem dX9_numberFor_94 : decode cX9_numberFor 94 = .ok (.getfield 38, 3) := by decide +kernel
theorem dX9_numberFor_97 : decode cX9_numberFor 97 = .ok (.iconst 1, 1) := by decide +kernel
theorem dX9_numberFor_98 : decode cX9_numberFor 98 = .ok (.iadd, 1) := by decide +kernel
theorem dX9_numberFor_99 : decode cX9_numberFor 99 = .ok (.putfield 38, 3) := by decide +kernel
theorem dX9_numberFor_102 : decode cX9_numberFor 102 = .ok (.iload 5, 2) := by decide +kernel
theorem dX9_numberFor_104 : decode cX9_numberFor 104 = .ok (.ireturn, 1) := by decide +kernel
theorem dX9_addKeeper_0 : decode cX9_addKeeper 0 = .ok (.aload_n 0, 1) := by decide +kernel
theorem dX9_addKeeper_1 : decode cX9_addKeeper 1 = .ok (.getfield 21, 3) := by decide +kernel
theorem dX9_addKeeper_4 : decode cX9_addKeeper 4 = .ok (.iload_n 1, 1) := by decide +kernel
theorem dX9_addKeeper_5 : decode cX9_addKeeper 5 = .ok (.aload_n 0, 1) := by decide +kernel
theorem dX9_addKeeper_6 : decode cX9_addKeeper 6 = .ok (.getfield 21, 3) := by decide +kernel
theorem dX9_addKeeper_9 : decode cX9_addKeeper 9 = .ok (.iload_n 1, 1) := by decide +kernel
theorem dX9_addKeeper_10 : decode cX9_addKeeper 10 = .ok (.invokestatic 48, 3) := by decide +kernel
theorem dX9_addKeeper_13 : decode cX9_addKeeper 13 = .ok (.iconst 1, 1) := by decide +kernel
theorem dX9_addKeeper_14 : decode cX9_addKeeper 14 = .ok (.iadd, 1) := by decide +kernel
theorem dX9_addKeeper_15 : decode cX9_addKeeper 15 = .ok (.invokestatic 93, 3) := by decide +kernel
theorem dX9_addKeeper_18 : decode cX9_addKeeper 18 = .ok (.aload_n 0, 1) := by decide +kernel
theorem dX9_addKeeper_19 : decode cX9_addKeeper 19 = .ok (.iload_n 1, 1) := by decide +kernel
theorem dX9_addKeeper_20 : decode cX9_addKeeper 20 = .ok (.invokevirtual 56, 3) := by decide +kernel
theorem dX9_addKeeper_23 : decode cX9_addKeeper 23 = .ok (.ifCond .ne 5, 3) := by decide +kernel
theorem dX9_addKeeper_26 : decode cX9_addKeeper 26 = .ok (.iconst 0, 1) := by decide +kernel
theorem dX9_addKeeper_27 : decode cX9_addKeeper 27 = .ok (.ireturn, 1) := by decide +kernel
theorem dX9_addKeeper_28 : decode cX9_addKeeper 28 = .ok (.aload_n 0, 1) := by decide +kernel
theorem dX9_addKeeper_29 : decode cX9_addKeeper 29 = .ok (.getfield 24, 3) := by decide +kernel
theorem dX9_addKeeper_32 : decode cX9_addKeeper 32 = .ok (.iload_n 1, 1) := by decide +kernel
theorem dX9_addKeeper_33 : decode cX9_addKeeper 33 = .ok (.iconst (-1), 1) := by decide +kernel
theorem dX9_addKeeper_34 : decode cX9_addKeeper 34 = .ok (.invokestatic 93, 3) := by decide +kernel
theorem dX9_addKeeper_37 : decode cX9_addKeeper 37 = .ok (.aload_n 0, 1) := by decide +kernel
theorem dX9_addKeeper_38 : decode cX9_addKeeper 38 = .ok (.dup, 1) := by decide +kernel
theorem dX9_addKeeper_39 : decode cX9_addKeeper 39 = .ok (.getfield 41, 3) := by decide +kernel
theorem dX9_addKeeper_42 : decode cX9_addKeeper 42 = .ok (.iconst 1, 1) := by decide +kernel
theorem dX9_addKeeper_43 : decode cX9_addKeeper 43 = .ok (.isub, 1) := by decide +kernel
theorem dX9_addKeeper_44 : decode cX9_addKeeper 44 = .ok (.putfield 41, 3) := by decide +kernel
theorem dX9_addKeeper_47 : decode cX9_addKeeper 47 = .ok (.iconst 1, 1) := by decide +kernel
theorem dX9_addKeeper_48 : decode cX9_addKeeper 48 = .ok (.ireturn, 1) := by decide +kernel
theorem dX10_init_0 : decode cX10_init 0 = .ok (.aload_n 0, 1) := by decide +kernel
theorem dX10_init_1 : decode cX10_init 1 = .ok (.invokespecial 1, 3) := by decide +kernel
theorem dX10_init_4 : decode cX10_init 4 = .ok (.new 7, 3) := by decide +kernel
theorem dX10_init_7 : decode cX10_init 7 = .ok (.dup, 1) := by decide +kernel
theorem dX10_init_8 : decode cX10_init 8 = .ok (.invokespecial 9, 3) := by decide +kernel
theorem dX10_init_11 : decode cX10_init 11 = .ok (.astore_n 1, 1) := by decide +kernel
theorem dX10_init_12 : decode cX10_init 12 = .ok (.aload_n 0, 1) := by decide +kernel
theorem dX10_init_13 : decode cX10_init 13 = .ok (.new 10, 3) := by decide +kernel
theorem dX10_init_16 : decode cX10_init 16 = .ok (.dup, 1) := by decide +kernel
theorem dX10_init_17 : decode cX10_init 17 = .ok (.sipush 1200, 3) := by decide +kernel
theorem dX10_init_20 : decode cX10_init 20 = .ok (.invokespecial 14, 3) := by decide +kernel
theorem dX10_init_23 : decode cX10_init 23 = .ok (.putfield 17, 3) := by decide +kernel
theorem dX10_init_26 : decode cX10_init 26 = .ok (.aload_n 0, 1) := by decide +kernel
theorem dX10_init_27 : decode cX10_init 27 = .ok (.new 10, 3) := by decide +kernel
theorem dX10_init_30 : decode cX10_init 30 = .ok (.dup, 1) := by decide +kernel
theorem dX10_init_31 : decode cX10_init 31 = .ok (.sipush 2040, 3) := by decide +kernel
theorem dX10_init_34 : decode cX10_init 34 = .ok (.invokespecial 14, 3) := by decide +kernel
theorem dX10_init_37 : decode cX10_init 37 = .ok (.putfield 21, 3) := by decide +kernel
theorem dX10_init_40 : decode cX10_init 40 = .ok (.aload_n 0, 1) := by decide +kernel
theorem dX10_init_41 : decode cX10_init 41 = .ok (.new 24, 3) := by decide +kernel
theorem dX10_init_44 : decode cX10_init 44 = .ok (.dup, 1) := by decide +kernel
theorem dX10_init_45 : decode cX10_init 45 = .ok (.aload_n 0, 1) := by decide +kernel
theorem dX10_init_46 : decode cX10_init 46 = .ok (.getfield 17, 3) := by decide +kernel
theorem dX10_init_49 : decode cX10_init 49 = .ok (.invokespecial 26, 3) := by decide +kernel
theorem dX10_init_52 : decode cX10_init 52 = .ok (.putfield 29, 3) := by decide +kernel
theorem dX10_init_55 : decode cX10_init 55 = .ok (.aload_n 0, 1) := by decide +kernel
theorem dX10_init_56 : decode cX10_init 56 = .ok (.iconst (-1), 1) := by decide +kernel
theorem dX10_init_57 : decode cX10_init 57 = .ok (.putfield 33, 3) := by decide +kernel
theorem dX10_init_60 : decode cX10_init 60 = .ok (.aload_n 0, 1) := by decide +kernel
theorem dX10_init_61 : decode cX10_init 61 = .ok (.new 37, 3) := by decide +kernel
theorem dX10_init_64 : decode cX10_init 64 = .ok (.dup, 1) := by decide +kernel
theorem dX10_init_65 : decode cX10_init 65 = .ok (.aload_n 1, 1) := by decide +kernel
theorem dX10_init_66 : decode cX10_init 66 = .ok (.invokespecial 39, 3) := by decide +kernel
theorem dX10_init_69 : decode cX10_init 69 = .ok (.putfield 42, 3) := by decide +kernel
theorem dX10_init_72 : decode cX10_init 72 = .ok (.aload_n 0, 1) := by decide +kernel
theorem dX10_init_73 : decode cX10_init 73 = .ok (.new 37, 3) := by decide +kernel
theorem dX10_init_76 : decode cX10_init 76 = .ok (.dup, 1) := by decide +kernel
theorem dX10_init_77 : decode cX10_init 77 = .ok (.aload_n 1, 1) := by decide +kernel
theorem dX10_init_78 : decode cX10_init 78 = .ok (.invokespecial 39, 3) := by decide +kernel
theorem dX10_init_81 : decode cX10_init 81 = .ok (.putfield 46, 3) := by decide +kernel
theorem dX10_init_84 : decode cX10_init 84 = .ok (.aload_n 0, 1) := by decide +kernel
theorem dX10_init_85 : decode cX10_init 85 = .ok (.bipush 6, 2) := by decide +kernel
theorem dX10_init_87 : decode cX10_init 87 = .ok (.anewarray 37, 3) := by decide +kernel
theorem dX10_init_90 : decode cX10_init 90 = .ok (.putfield 49, 3) := by decide +kernel
theorem dX10_init_93 : decode cX10_init 93 = .ok (.iconst 0, 1) := by decide +kernel
theorem dX10_init_94 : decode cX10_init 94 = .ok (.istore_n 2, 1) := by decide +kernel
theorem dX10_init_95 : decode cX10_init 95 = .ok (.iload_n 2, 1) := by decide +kernel
theorem dX10_init_96 : decode cX10_init 96 = .ok (.aload_n 0, 1) := by decide +kernel
theorem dX10_init_97 : decode cX10_init 97 = .ok (.getfield 49, 3) := by decide +kernel
theorem dX10_init_100 : decode cX10_init 100 = .ok (.arraylength, 1) := by decide +kernel
theorem dX10_init_101 : decode cX10_init 101 = .ok (.if_icmp .ge 23, 3) := by decide +kernel
theorem dX10_init_104 : decode cX10_init 104 = .ok (.aload_n 0, 1) := by decide +kernel
theorem dX10_init_105 : decode cX10_init 105 = .ok (.getfield 49, 3) := by decide +kernel
theorem dX10_init_108 : decode cX10_init 108 = .ok (.iload_n 2, 1) := by decide +kernel
theorem dX10_init_109 : decode cX10_init 109 = .ok (.new 37, 3) := by decide +kernel
theorem dX10_init_112 : decode cX10_init 112 = .ok (.dup, 1) := by decide +kernel
theorem dX10_init_113 : decode cX10_init 113 = .ok (.aload_n 1, 1) := by decide +kernel
theorem dX10_init_114 : decode cX10_init 114 = .ok (.invokespecial 39, 3) := by decide +kernel
theorem dX10_init_117 : decode cX10_init 117 = .ok (.aastore, 1) := by decide +kernel
theorem dX10_init_118 : decode cX10_init 118 = .ok (.iinc 2 1, 3) := by decide +kernel
theorem dX10_init_121 : decode cX10_init 121 = .ok (.goto (-26), 3) := by decide +kernel
theorem dX10_init_124 : decode cX10_init 124 = .ok (.aload_n 0, 1) := by decide +kernel
theorem dX10_init_125 : decode cX10_init 125 = .ok (.sipush 480, 3) := by decide +kernel
theorem dX10_init_128 : decode cX10_init 128 = .ok (.newarray .int, 2) := by decide +kernel
theorem dX10_init_130 : decode cX10_init 130 = .ok (.putfield 53, 3) := by decide +kernel
theorem dX10_init_133 : decode cX10_init 133 = .ok (.return_, 1) := by decide +kernel
theorem dX10_append_0 : decode cX10_append 0 = .ok (.aload_n 0, 1) := by decide +kernel
theorem dX10_append_1 : decode cX10_append 1 = .ok (.getfield 17, 3) := by decide +kernel
theorem dX10_append_4 : decode cX10_append 4 = .ok (.getfield 57, 3) := by decide +kernel
theorem dX10_append_7 : decode cX10_append 7 = .ok (.bipush 20, 2) := by decide +kernel
theorem dX10_append_9 : decode cX10_append 9 = .ok (.iadd, 1) := by decide +kernel
theorem dX10_append_10 : decode cX10_append 10 = .ok (.sipush 1200, 3) := by decide +kernel
theorem dX10_append_13 : decode cX10_append 13 = .ok (.if_icmp .le 13, 3) := by decide +kernel
theorem dX10_append_16 : decode cX10_append 16 = .ok (.new 60, 3) := by decide +kernel
theorem dX10_append_19 : decode cX10_append 19 = .ok (.dup, 1) := by decide +kernel
theorem dX10_append_20 : decode cX10_append 20 = .ok (.ldc 62, 2) := by decide +kernel
theorem dX10_append_22 : decode cX10_append 22 = .ok (.invokespecial 64, 3) := by decide +kernel
theorem dX10_append_25 : decode cX10_append 25 = .ok (.athrow, 1) := by decide +kernel
theorem dX10_append_26 : decode cX10_append 26 = .ok (.aload_n 0, 1) := by decide +kernel
theorem dX10_append_27 : decode cX10_append 27 = .ok (.getfield 17, 3) := by decide +kernel
theorem dX10_append_30 : decode cX10_append 30 = .ok (.iload_n 1, 1) := by decide +kernel
theorem dX10_append_31 : decode cX10_append 31 = .ok (.invokevirtual 67, 3) := by decide +kernel
theorem dX10_append_34 : decode cX10_append 34 = .ok (.aload_n 0, 1) := by decide +kernel
theorem dX10_append_35 : decode cX10_append 35 = .ok (.getfield 17, 3) := by decide +kernel
theorem dX10_append_38 : decode cX10_append 38 = .ok (.iload_n 2, 1) := by decide +kernel
theorem dX10_append_39 : decode cX10_append 39 = .ok (.invokevirtual 67, 3) := by decide +kernel
theorem dX10_append_42 : decode cX10_append 42 = .ok (.aload_n 0, 1) := by decide +kernel
theorem dX10_append_43 : decode cX10_append 43 = .ok (.getfield 17, 3) := by decide +kernel
theorem dX10_append_46 : decode cX10_append 46 = .ok (.iload_n 3, 1) := by decide +kernel
theorem dX10_append_47 : decode cX10_append 47 = .ok (.invokevirtual 67, 3) := by decide +kernel
theorem dX10_append_50 : decode cX10_append 50 = .ok (.aload_n 0, 1) := by decide +kernel
theorem dX10_append_51 : decode cX10_append 51 = .ok (.getfield 17, 3) := by decide +kernel
theorem dX10_append_54 : decode cX10_append 54 = .ok (.iload 4, 2) := by decide +kernel
theorem dX10_append_56 : decode cX10_append 56 = .ok (.invokevirtual 67, 3) := by decide +kernel
theorem dX10_append_59 : decode cX10_append 59 = .ok (.aload_n 0, 1) := by decide +kernel
theorem dX10_append_60 : decode cX10_append 60 = .ok (.getfield 17, 3) := by decide +kernel
theorem dX10_append_63 : decode cX10_append 63 = .ok (.iload 5, 2) := by decide +kernel
theorem dX10_append_65 : decode cX10_append 65 = .ok (.invokevirtual 67, 3) := by decide +kernel
theorem dX10_append_68 : decode cX10_append 68 = .ok (.aload_n 0, 1) := by decide +kernel
theorem dX10_append_69 : decode cX10_append 69 = .ok (.getfield 17, 3) := by decide +kernel
theorem dX10_append_72 : decode cX10_append 72 = .ok (.getfield 57, 3) := by decide +kernel
theorem dX10_append_75 : decode cX10_append 75 = .ok (.ireturn, 1) := by decide +kernel
theorem dX10_truncate_0 : decode cX10_truncate 0 = .ok (.iload_n 1, 1) := by decide +kernel
theorem dX10_truncate_1 : decode cX10_truncate 1 = .ok (.ifCond .lt 14, 3) := by decide +kernel
theorem dX10_truncate_4 : decode cX10_truncate 4 = .ok (.iload_n 1, 1) := by decide +kernel
theorem dX10_truncate_5 : decode cX10_truncate 5 = .ok (.aload_n 0, 1) := by decide +kernel
theorem dX10_truncate_6 : decode cX10_truncate 6 = .ok (.getfield 17, 3) := by decide +kernel
theorem dX10_truncate_9 : decode cX10_truncate 9 = .ok (.getfield 57, 3) := by decide +kernel
theorem dX10_truncate_12 : decode cX10_truncate 12 = .ok (.if_icmp .le 13, 3) := by decide +kernel
theorem dX10_truncate_15 : decode cX10_truncate 15 = .ok (.new 70, 3) := by decide +kernel
theorem dX10_truncate_18 : decode cX10_truncate 18 = .ok (.dup, 1) := by decide +kernel
theorem dX10_truncate_19 : decode cX10_truncate 19 = .ok (.ldc 72, 2) := by decide +kernel
theorem dX10_truncate_21 : decode cX10_truncate 21 = .ok (.invokespecial 74, 3) := by decide +kernel
theorem dX10_truncate_24 : decode cX10_truncate 24 = .ok (.athrow, 1) := by decide +kernel
theorem dX10_truncate_25 : decode cX10_truncate 25 = .ok (.aload_n 0, 1) := by decide +kernel
theorem dX10_truncate_26 : decode cX10_truncate 26 = .ok (.getfield 17, 3) := by decide +kernel
theorem dX10_truncate_29 : decode cX10_truncate 29 = .ok (.iload_n 1, 1) := by decide +kernel
theorem dX10_truncate_30 : decode cX10_truncate 30 = .ok (.invokevirtual 75, 3) := by decide +kernel
theorem dX10_truncate_33 : decode cX10_truncate 33 = .ok (.return_, 1) := by decide +kernel
theorem dX10_load_0 : decode cX10_load 0 = .ok (.new 78, 3) := by decide +kernel
theorem dX10_load_3 : decode cX10_load 3 = .ok (.dup, 1) := by decide +kernel
theorem dX10_load_4 : decode cX10_load 4 = .ok (.aload_n 0, 1) := by decide +kernel
theorem dX10_load_5 : decode cX10_load 5 = .ok (.getfield 17, 3) := by decide +kernel
theorem dX10_load_8 : decode cX10_load 8 = .ok (.invokespecial 80, 3) := by decide +kernel
theorem dX10_load_11 : decode cX10_load 11 = .ok (.astore_n 1, 1) := by decide +kernel
theorem dX10_load_12 : decode cX10_load 12 = .ok (.aload_n 1, 1) := by decide +kernel
theorem dX10_load_13 : decode cX10_load 13 = .ok (.invokevirtual 81, 3) := by decide +kernel
theorem dX10_load_16 : decode cX10_load 16 = .ok (.istore_n 2, 1) := by decide +kernel
theorem dX10_load_17 : decode cX10_load 17 = .ok (.aload_n 0, 1) := by decide +kernel
theorem dX10_load_18 : decode cX10_load 18 = .ok (.getfield 17, 3) := by decide +kernel
theorem dX10_load_21 : decode cX10_load 21 = .ok (.iconst 0, 1) := by decide +kernel
theorem dX10_load_22 : decode cX10_load 22 = .ok (.invokevirtual 75, 3) := by decide +kernel
theorem dX10_load_25 : decode cX10_load 25 = .ok (.aload_n 0, 1) := by decide +kernel
theorem dX10_load_26 : decode cX10_load 26 = .ok (.aload_n 1, 1) := by decide +kernel
theorem dX10_load_27 : decode cX10_load 27 = .ok (.getfield 85, 3) := by decide +kernel
theorem dX10_load_30 : decode cX10_load 30 = .ok (.putfield 88, 3) := by decide +kernel
theorem dX10_load_33 : decode cX10_load 33 = .ok (.aload_n 0, 1) := by decide +kernel
theorem dX10_load_34 : decode cX10_load 34 = .ok (.aload_n 1, 1) := by decide +kernel
theorem dX10_load_35 : decode cX10_load 35 = .ok (.getfield 91, 3) := by decide +kernel
theorem dX10_load_38 : decode cX10_load 38 = .ok (.putfield 33, 3) := by decide +kernel
theorem dX10_load_41 : decode cX10_load 41 = .ok (.iload_n 2, 1) := by decide +kernel
theorem dX10_load_42 : decode cX10_load 42 = .ok (.ifCond .ne 6, 3) := by decide +kernel
theorem dX10_load_45 : decode cX10_load 45 = .ok (.bipush (-4), 2) := by decide +kernel
theorem dX10_load_47 : decode cX10_load 47 = .ok (.ireturn, 1) := by decide +kernel
theorem dX10_load_48 : decode cX10_load 48 = .ok (.aload_n 0, 1) := by decide +kernel
theorem dX10_load_49 : decode cX10_load 49 = .ok (.invokevirtual 94, 3) := by decide +kernel
theorem dX10_load_52 : decode cX10_load 52 = .ok (.aload_n 0, 1) := by decide +kernel
theorem dX10_load_53 : decode cX10_load 53 = .ok (.getfield 42, 3) := by decide +kernel
theorem dX10_load_56 : decode cX10_load 56 = .ok (.aload_n 1, 1) := by decide +kernel
theorem dX10_load_57 : decode cX10_load 57 = .ok (.getfield 97, 3) := by decide +kernel
theorem dX10_load_60 : decode cX10_load 60 = .ok (.invokevirtual 101, 3) := by decide +kernel
theorem dX10_load_63 : decode cX10_load 63 = .ok (.aload_n 0, 1) := by decide +kernel
theorem dX10_load_64 : decode cX10_load 64 = .ok (.getfield 42, 3) := by decide +kernel
theorem dX10_load_67 : decode cX10_load 67 = .ok (.getfield 104, 3) := by decide +kernel
theorem dX10_load_70 : decode cX10_load 70 = .ok (.getfield 105, 3) := by decide +kernel
theorem dX10_load_73 : decode cX10_load 73 = .ok (.getfield 109, 3) := by decide +kernel
theorem dX10_load_76 : decode cX10_load 76 = .ok (.ireturn, 1) := by decide +kernel
theorem dX10_errorCode_0 : decode cX10_errorCode 0 = .ok (.aload_n 0, 1) := by decide +kernel
theorem dX10_errorCode_1 : decode cX10_errorCode 1 = .ok (.getfield 88, 3) := by decide +kernel
theorem dX10_errorCode_4 : decode cX10_errorCode 4 = .ok (.ireturn, 1) := by decide +kernel
theorem dX10_errorPosition_0 : decode cX10_errorPosition 0 = .ok (.aload_n 0, 1) := by decide +kernel
theorem dX10_errorPosition_1 : decode cX10_errorPosition 1 = .ok (.getfield 33, 3) := by decide +kernel
theorem dX10_errorPosition_4 : decode cX10_errorPosition 4 = .ok (.ireturn, 1) := by decide +kernel
theorem dX10_count_0 : decode cX10_count 0 = .ok (.iload_n 1, 1) := by decide +kernel
theorem dX10_count_1 : decode cX10_count 1 = .ok (.invokestatic 112, 3) := by decide +kernel
theorem dX10_count_4 : decode cX10_count 4 = .ok (.aload_n 0, 1) := by decide +kernel
theorem dX10_count_5 : decode cX10_count 5 = .ok (.getfield 42, 3) := by decide +kernel
theorem dX10_count_8 : decode cX10_count 8 = .ok (.getfield 104, 3) := by decide +kernel
theorem dX10_count_11 : decode cX10_count 11 = .ok (.iload_n 1, 1) := by decide +kernel
theorem dX10_count_12 : decode cX10_count 12 = .ok (.invokevirtual 115, 3) := by decide +kernel
theorem dX10_count_15 : decode cX10_count 15 = .ok (.getfield 109, 3) := by decide +kernel
theorem dX10_count_18 : decode cX10_count 18 = .ok (.ireturn, 1) := by decide +kernel
theorem dX10_day_0 : decode cX10_day 0 = .ok (.aload_n 0, 1) := by decide +kernel
theorem dX10_day_1 : decode cX10_day 1 = .ok (.getfield 42, 3) := by decide +kernel
theorem dX10_day_4 : decode cX10_day 4 = .ok (.getfield 166, 3) := by decide +kernel
theorem dX10_day_7 : decode cX10_day 7 = .ok (.ireturn, 1) := by decide +kernel
theorem dX10_deliver_0 : decode cX10_deliver 0 = .ok (.aload_n 0, 1) := by decide +kernel
theorem dX10_deliver_1 : decode cX10_deliver 1 = .ok (.iload_n 1, 1) := by decide +kernel
theorem dX10_deliver_2 : decode cX10_deliver 2 = .ok (.invokevirtual 169, 3) := by decide +kernel
theorem dX10_deliver_5 : decode cX10_deliver 5 = .ok (.iload_n 3, 1) := by decide +kernel
theorem dX10_deliver_6 : decode cX10_deliver 6 = .ok (.iconst (-1), 1) := by decide +kernel
theorem dX10_deliver_7 : decode cX10_deliver 7 = .ok (.if_icmp .eq 8, 3) := by decide +kernel
theorem dX10_deliver_10 : decode cX10_deliver 10 = .ok (.aload_n 0, 1) := by decide +kernel
theorem dX10_deliver_11 : decode cX10_deliver 11 = .ok (.iload_n 3, 1) := by decide +kernel
theorem dX10_deliver_12 : decode cX10_deliver 12 = .ok (.invokevirtual 146, 3) := by decide +kernel
theorem dX10_deliver_15 : decode cX10_deliver 15 = .ok (.iload_n 2, 1) := by decide +kernel
theorem dX10_deliver_16 : decode cX10_deliver 16 = .ok (.aload_n 0, 1) := by decide +kernel
theorem dX10_deliver_17 : decode cX10_deliver 17 = .ok (.getfield 42, 3) := by decide +kernel
theorem dX10_deliver_20 : decode cX10_deliver 20 = .ok (.getfield 104, 3) := by decide +kernel
theorem dX10_deliver_23 : decode cX10_deliver 23 = .ok (.invokevirtual 172, 3) := by decide +kernel
theorem dX10_deliver_26 : decode cX10_deliver 26 = .ok (.iconst (-1), 1) := by decide +kernel
theorem dX10_deliver_27 : decode cX10_deliver 27 = .ok (.ixor, 1) := by decide +kernel
theorem dX10_deliver_28 : decode cX10_deliver 28 = .ok (.iand, 1) := by decide +kernel
theorem dX10_deliver_29 : decode cX10_deliver 29 = .ok (.ifCond .eq 13, 3) := by decide +kernel
theorem dX10_deliver_32 : decode cX10_deliver 32 = .ok (.new 134, 3) := by decide +kernel
theorem dX10_deliver_35 : decode cX10_deliver 35 = .ok (.dup, 1) := by decide +kernel
theorem dX10_deliver_36 : decode cX10_deliver 36 = .ok (.ldc 176, 2) := by decide +kernel
theorem dX10_deliver_38 : decode cX10_deliver 38 = .ok (.invokespecial 138, 3) := by decide +kernel
theorem dX10_deliver_41 : decode cX10_deliver 41 = .ok (.athrow, 1) := by decide +kernel
theorem dX10_deliver_42 : decode cX10_deliver 42 = .ok (.iload_n 2, 1) := by decide +kernel
theorem dX10_deliver_43 : decode cX10_deliver 43 = .ok (.ifCond .eq 13, 3) := by decide +kernel
theorem dX10_deliver_46 : decode cX10_deliver 46 = .ok (.aload_n 0, 1) := by decide +kernel
theorem dX10_deliver_47 : decode cX10_deliver 47 = .ok (.getfield 29, 3) := by decide +kernel
theorem dX10_deliver_50 : decode cX10_deliver 50 = .ok (.invokevirtual 178, 3) := by decide +kernel
theorem dX10_deliver_53 : decode cX10_deliver 53 = .ok (.ifCond .ne 13, 3) := by decide +kernel
theorem dX10_deliver_56 : decode cX10_deliver 56 = .ok (.new 70, 3) := by decide +kernel
theorem dX10_deliver_59 : decode cX10_deliver 59 = .ok (.dup, 1) := by decide +kernel
theorem dX10_deliver_60 : decode cX10_deliver 60 = .ok (.ldc 181, 2) := by decide +kernel
theorem dX10_deliver_62 : decode cX10_deliver 62 = .ok (.invokespecial 74, 3) := by decide +kernel
theorem dX10_deliver_65 : decode cX10_deliver 65 = .ok (.athrow, 1) := by decide +kernel
theorem dX10_deliver_66 : decode cX10_deliver 66 = .ok (.aload_n 0, 1) := by decide +kernel
theorem dX10_deliver_67 : decode cX10_deliver 67 = .ok (.getfield 42, 3) := by decide +kernel
theorem dX10_deliver_70 : decode cX10_deliver 70 = .ok (.getfield 183, 3) := by decide +kernel
theorem dX10_deliver_73 : decode cX10_deliver 73 = .ok (.bipush 120, 2) := by decide +kernel
theorem dX10_deliver_75 : decode cX10_deliver 75 = .ok (.if_icmp .ge 23, 3) := by decide +kernel
theorem dX10_deliver_78 : decode cX10_deliver 78 = .ok (.aload_n 0, 1) := by decide +kernel
theorem dX10_deliver_79 : decode cX10_deliver 79 = .ok (.getfield 42, 3) := by decide +kernel
theorem dX10_deliver_82 : decode cX10_deliver 82 = .ok (.getfield 186, 3) := by decide +kernel
theorem dX10_deliver_85 : decode cX10_deliver 85 = .ok (.aload_n 0, 1) := by decide +kernel
theorem dX10_deliver_86 : decode cX10_deliver 86 = .ok (.getfield 29, 3) := by decide +kernel
theorem dX10_deliver_89 : decode cX10_deliver 89 = .ok (.invokevirtual 190, 3) := by decide +kernel
theorem dX10_deliver_92 : decode cX10_deliver 92 = .ok (.sipush 8000, 3) := by decide +kernel
theorem dX10_deliver_95 : decode cX10_deliver 95 = .ok (.if_icmp .le 13, 3) := by decide +kernel
theorem dX10_deliver_98 : decode cX10_deliver 98 = .ok (.new 60, 3) := by decide +kernel
theorem dX10_deliver_101 : decode cX10_deliver 101 = .ok (.dup, 1) := by decide +kernel
theorem dX10_deliver_102 : decode cX10_deliver 102 = .ok (.ldc 196, 2) := by decide +kernel
theorem dX10_deliver_104 : decode cX10_deliver 104 = .ok (.invokespecial 64, 3) := by decide +kernel
theorem dX10_deliver_107 : decode cX10_deliver 107 = .ok (.athrow, 1) := by decide +kernel
theorem dX10_deliver_108 : decode cX10_deliver 108 = .ok (.aload_n 0, 1) := by decide +kernel
theorem dX10_deliver_109 : decode cX10_deliver 109 = .ok (.invokevirtual 94, 3) := by decide +kernel
theorem dX10_deliver_112 : decode cX10_deliver 112 = .ok (.aload_n 0, 1) := by decide +kernel
theorem dX10_deliver_113 : decode cX10_deliver 113 = .ok (.getfield 42, 3) := by decide +kernel
theorem dX10_deliver_116 : decode cX10_deliver 116 = .ok (.aload_n 0, 1) := by decide +kernel
theorem dX10_deliver_117 : decode cX10_deliver 117 = .ok (.getfield 29, 3) := by decide +kernel
theorem dX10_deliver_120 : decode cX10_deliver 120 = .ok (.iload_n 1, 1) := by decide +kernel
theorem dX10_deliver_121 : decode cX10_deliver 121 = .ok (.iload_n 2, 1) := by decide +kernel
theorem dX10_deliver_122 : decode cX10_deliver 122 = .ok (.iload_n 3, 1) := by decide +kernel
theorem dX10_deliver_123 : decode cX10_deliver 123 = .ok (.invokevirtual 198, 3) := by decide +kernel
theorem dX10_deliver_126 : decode cX10_deliver 126 = .ok (.istore 4, 2) := by decide +kernel
theorem dX10_deliver_128 : decode cX10_deliver 128 = .ok (.aload_n 0, 1) := by decide +kernel
theorem dX10_deliver_129 : decode cX10_deliver 129 = .ok (.getfield 17, 3) := by decide +kernel
theorem dX10_deliver_132 : decode cX10_deliver 132 = .ok (.iconst 0, 1) := by decide +kernel
theorem dX10_deliver_133 : decode cX10_deliver 133 = .ok (.invokevirtual 75, 3) := by decide +kernel
theorem dX10_deliver_136 : decode cX10_deliver 136 = .ok (.iload 4, 2) := by decide +kernel
theorem dX10_deliver_138 : decode cX10_deliver 138 = .ok (.ireturn, 1) := by decide +kernel
theorem dX10_bounced_0 : decode cX10_bounced 0 = .ok (.aload_n 0, 1) := by decide +kernel
theorem dX10_bounced_1 : decode cX10_bounced 1 = .ok (.getfield 42, 3) := by decide +kernel
theorem dX10_bounced_4 : decode cX10_bounced 4 = .ok (.getfield 202, 3) := by decide +kernel
theorem dX10_bounced_7 : decode cX10_bounced 7 = .ok (.ireturn, 1) := by decide +kernel
theorem dX10_messageCount_0 : decode cX10_messageCount 0 = .ok (.aload_n 0, 1) := by decide +kernel
theorem dX10_messageCount_1 : decode cX10_messageCount 1 = .ok (.getfield 42, 3) := by decide +kernel
theorem dX10_messageCount_4 : decode cX10_messageCount 4 = .ok (.getfield 183, 3) := by decide +kernel
theorem dX10_messageCount_7 : decode cX10_messageCount 7 = .ok (.ireturn, 1) := by decide +kernel
theorem dX10_message_0 : decode cX10_message 0 = .ok (.aload_n 0, 1) := by decide +kernel
theorem dX10_message_1 : decode cX10_message 1 = .ok (.iload_n 1, 1) := by decide +kernel
theorem dX10_message_2 : decode cX10_message 2 = .ok (.invokevirtual 205, 3) := by decide +kernel
theorem dX10_message_5 : decode cX10_message 5 = .ok (.iload_n 2, 1) := by decide +kernel
theorem dX10_message_6 : decode cX10_message 6 = .ok (.iconst 4, 1) := by decide +kernel
theorem dX10_message_7 : decode cX10_message 7 = .ok (.invokestatic 149, 3) := by decide +kernel
theorem dX10_message_10 : decode cX10_message 10 = .ok (.aload_n 0, 1) := by decide +kernel
theorem dX10_message_11 : decode cX10_message 11 = .ok (.getfield 42, 3) := by decide +kernel
theorem dX10_message_14 : decode cX10_message 14 = .ok (.iload_n 1, 1) := by decide +kernel
theorem dX10_message_15 : decode cX10_message 15 = .ok (.invokevirtual 208, 3) := by decide +kernel
theorem dX10_message_18 : decode cX10_message 18 = .ok (.astore_n 3, 1) := by decide +kernel
theorem dX10_message_19 : decode cX10_message 19 = .ok (.iload_n 2, 1) := by decide +kernel
theorem dX10_message_20 : decode cX10_message 20 = .ok (.tableswitch 53 0 3 #[32, 37, 42, 48], 32) := by decide +kernel
theorem dX10_message_52 : decode cX10_message 52 = .ok (.aload_n 3, 1) := by decide +kernel
theorem dX10_message_53 : decode cX10_message 53 = .ok (.getfield 212, 3) := by decide +kernel
theorem dX10_message_56 : decode cX10_message 56 = .ok (.ireturn, 1) := by decide +kernel
theorem dX10_message_57 : decode cX10_message 57 = .ok (.aload_n 3, 1) := by decide +kernel
theorem dX10_message_58 : decode cX10_message 58 = .ok (.getfield 217, 3) := by decide +kernel
theorem dX10_message_61 : decode cX10_message 61 = .ok (.ireturn, 1) := by decide +kernel
theorem dX10_message_62 : decode cX10_message 62 = .ok (.aload_n 3, 1) := by decide +kernel
theorem dX10_message_63 : decode cX10_message 63 = .ok (.getfield 218, 3) := by decide +kernel
theorem dX10_message_66 : decode cX10_message 66 = .ok (.arraylength, 1) := by decide +kernel
theorem dX10_message_67 : decode cX10_message 67 = .ok (.ireturn, 1) := by decide +kernel
theorem dX10_message_68 : decode cX10_message 68 = .ok (.aload_n 3, 1) := by decide +kernel
theorem dX10_message_69 : decode cX10_message 69 = .ok (.getfield 221, 3) := by decide +kernel
theorem dX10_message_72 : decode cX10_message 72 = .ok (.ireturn, 1) := by decide +kernel
theorem dX10_message_73 : decode cX10_message 73 = .ok (.aload_n 0, 1) := by decide +kernel
theorem dX10_message_74 : decode cX10_message 74 = .ok (.getfield 42, 3) := by decide +kernel
theorem dX10_message_77 : decode cX10_message 77 = .ok (.iload_n 1, 1) := by decide +kernel
theorem dX10_message_78 : decode cX10_message 78 = .ok (.invokevirtual 222, 3) := by decide +kernel
theorem dX10_message_81 : decode cX10_message 81 = .ok (.ifCond .eq 7, 3) := by decide +kernel
theorem dX10_message_84 : decode cX10_message 84 = .ok (.iconst 1, 1) := by decide +kernel
theorem dX10_message_85 : decode cX10_message 85 = .ok (.goto 4, 3) := by decide +kernel
theorem dX10_message_88 : decode cX10_message 88 = .ok (.iconst 0, 1) := by decide +kernel
theorem dX10_message_89 : decode cX10_message 89 = .ok (.ireturn, 1) := by decide +kernel
theorem dX10_partOf_0 : decode cX10_partOf 0 = .ok (.aload_n 0, 1) := by decide +kernel
theorem dX10_partOf_1 : decode cX10_partOf 1 = .ok (.iload_n 1, 1) := by decide +kernel
theorem dX10_partOf_2 : decode cX10_partOf 2 = .ok (.invokevirtual 205, 3) := by decide +kernel
theorem dX10_partOf_5 : decode cX10_partOf 5 = .ok (.aload_n 0, 1) := by decide +kernel
theorem dX10_partOf_6 : decode cX10_partOf 6 = .ok (.getfield 42, 3) := by decide +kernel
theorem dX10_partOf_9 : decode cX10_partOf 9 = .ok (.iload_n 1, 1) := by decide +kernel
theorem dX10_partOf_10 : decode cX10_partOf 10 = .ok (.invokevirtual 208, 3) := by decide +kernel
theorem dX10_partOf_13 : decode cX10_partOf 13 = .ok (.astore_n 3, 1) := by decide +kernel
theorem dX10_partOf_14 : decode cX10_partOf 14 = .ok (.iload_n 2, 1) := by decide +kernel
theorem dX10_partOf_15 : decode cX10_partOf 15 = .ok (.ifCond .lt 12, 3) := by decide +kernel
theorem dX10_partOf_18 : decode cX10_partOf 18 = .ok (.iload_n 2, 1) := by decide +kernel
theorem dX10_partOf_19 : decode cX10_partOf 19 = .ok (.aload_n 3, 1) := by decide +kernel
theorem dX10_partOf_20 : decode cX10_partOf 20 = .ok (.getfield 218, 3) := by decide +kernel
theorem dX10_partOf_23 : decode cX10_partOf 23 = .ok (.arraylength, 1) := by decide +kernel
theorem dX10_partOf_24 : decode cX10_partOf 24 = .ok (.if_icmp .lt 13, 3) := by decide +kernel
theorem dX10_partOf_27 : decode cX10_partOf 27 = .ok (.new 134, 3) := by decide +kernel
theorem dX10_partOf_30 : decode cX10_partOf 30 = .ok (.dup, 1) := by decide +kernel
theorem dX10_partOf_31 : decode cX10_partOf 31 = .ok (.ldc 225, 2) := by decide +kernel
theorem dX10_partOf_33 : decode cX10_partOf 33 = .ok (.invokespecial 138, 3) := by decide +kernel
theorem dX10_partOf_36 : decode cX10_partOf 36 = .ok (.athrow, 1) := by decide +kernel
theorem dX10_partOf_37 : decode cX10_partOf 37 = .ok (.aload_n 3, 1) := by decide +kernel
theorem dX10_partOf_38 : decode cX10_partOf 38 = .ok (.getfield 218, 3) := by decide +kernel
theorem dX10_partOf_41 : decode cX10_partOf 41 = .ok (.iload_n 2, 1) := by decide +kernel
theorem dX10_partOf_42 : decode cX10_partOf 42 = .ok (.invokestatic 142, 3) := by decide +kernel
theorem dX10_partOf_45 : decode cX10_partOf 45 = .ok (.ireturn, 1) := by decide +kernel
theorem dX10_readers_0 : decode cX10_readers 0 = .ok (.aload_n 0, 1) := by decide +kernel
theorem dX10_readers_1 : decode cX10_readers 1 = .ok (.iload_n 1, 1) := by decide +kernel
theorem dX10_readers_2 : decode cX10_readers 2 = .ok (.invokevirtual 205, 3) := by decide +kernel
theorem dX10_readers_5 : decode cX10_readers 5 = .ok (.aload_n 0, 1) := by decide +kernel
theorem dX10_readers_6 : decode cX10_readers 6 = .ok (.getfield 42, 3) := by decide +kernel
theorem dX10_readers_9 : decode cX10_readers 9 = .ok (.iload_n 1, 1) := by decide +kernel
theorem dX10_readers_10 : decode cX10_readers 10 = .ok (.iconst 0, 1) := by decide +kernel
theorem dX10_readers_11 : decode cX10_readers 11 = .ok (.iconst 0, 1) := by decide +kernel
theorem dX10_readers_12 : decode cX10_readers 12 = .ok (.invokevirtual 227, 3) := by decide +kernel
theorem dX10_readers_15 : decode cX10_readers 15 = .ok (.ireturn, 1) := by decide +kernel
theorem dX10_state_0 : decode cX10_state 0 = .ok (.aload_n 0, 1) := by decide +kernel
theorem dX10_state_1 : decode cX10_state 1 = .ok (.iload_n 1, 1) := by decide +kernel
theorem dX10_state_2 : decode cX10_state 2 = .ok (.iload_n 2, 1) := by decide +kernel
theorem dX10_state_3 : decode cX10_state 3 = .ok (.invokevirtual 231, 3) := by decide +kernel
theorem dX10_state_6 : decode cX10_state 6 = .ok (.aload_n 0, 1) := by decide +kernel
theorem dX10_state_7 : decode cX10_state 7 = .ok (.getfield 42, 3) := by decide +kernel
theorem dX10_state_10 : decode cX10_state 10 = .ok (.iload_n 1, 1) := by decide +kernel
theorem dX10_state_11 : decode cX10_state 11 = .ok (.iload_n 2, 1) := by decide +kernel
theorem dX10_state_12 : decode cX10_state 12 = .ok (.invokevirtual 234, 3) := by decide +kernel
theorem dX10_state_15 : decode cX10_state 15 = .ok (.ireturn, 1) := by decide +kernel
theorem dX10_classOf_0 : decode cX10_classOf 0 = .ok (.aload_n 0, 1) := by decide +kernel
theorem dX10_classOf_1 : decode cX10_classOf 1 = .ok (.iload_n 1, 1) := by decide +kernel
theorem dX10_classOf_2 : decode cX10_classOf 2 = .ok (.iload_n 2, 1) := by decide +kernel
theorem dX10_classOf_3 : decode cX10_classOf 3 = .ok (.invokevirtual 231, 3) := by decide +kernel
theorem dX10_classOf_6 : decode cX10_classOf 6 = .ok (.aload_n 0, 1) := by decide +kernel
theorem dX10_classOf_7 : decode cX10_classOf 7 = .ok (.getfield 42, 3) := by decide +kernel
theorem dX10_classOf_10 : decode cX10_classOf 10 = .ok (.iload_n 1, 1) := by decide +kernel
theorem dX10_classOf_11 : decode cX10_classOf 11 = .ok (.iload_n 2, 1) := by decide +kernel
theorem dX10_classOf_12 : decode cX10_classOf 12 = .ok (.invokevirtual 238, 3) := by decide +kernel
theorem dX10_classOf_15 : decode cX10_classOf 15 = .ok (.ireturn, 1) := by decide +kernel
theorem dX10_enteredOn_0 : decode cX10_enteredOn 0 = .ok (.aload_n 0, 1) := by decide +kernel
theorem dX10_enteredOn_1 : decode cX10_enteredOn 1 = .ok (.iload_n 1, 1) := by decide +kernel
theorem dX10_enteredOn_2 : decode cX10_enteredOn 2 = .ok (.iload_n 2, 1) := by decide +kernel
theorem dX10_enteredOn_3 : decode cX10_enteredOn 3 = .ok (.invokevirtual 231, 3) := by decide +kernel
theorem dX10_enteredOn_6 : decode cX10_enteredOn 6 = .ok (.aload_n 0, 1) := by decide +kernel
theorem dX10_enteredOn_7 : decode cX10_enteredOn 7 = .ok (.getfield 42, 3) := by decide +kernel
theorem dX10_enteredOn_10 : decode cX10_enteredOn 10 = .ok (.getfield 241, 3) := by decide +kernel
theorem dX10_enteredOn_13 : decode cX10_enteredOn 13 = .ok (.iload_n 1, 1) := by decide +kernel
theorem dX10_enteredOn_14 : decode cX10_enteredOn 14 = .ok (.bipush 10, 2) := by decide +kernel
theorem dX10_enteredOn_16 : decode cX10_enteredOn 16 = .ok (.imul, 1) := by decide +kernel
theorem dX10_enteredOn_17 : decode cX10_enteredOn 17 = .ok (.iload_n 2, 1) := by decide +kernel
theorem dX10_enteredOn_18 : decode cX10_enteredOn 18 = .ok (.iadd, 1) := by decide +kernel
theorem dX10_enteredOn_19 : decode cX10_enteredOn 19 = .ok (.invokestatic 142, 3) := by decide +kernel
theorem dX10_enteredOn_22 : decode cX10_enteredOn 22 = .ok (.ireturn, 1) := by decide +kernel
theorem dX10_storedParts_0 : decode cX10_storedParts 0 = .ok (.aload_n 0, 1) := by decide +kernel
theorem dX10_storedParts_1 : decode cX10_storedParts 1 = .ok (.getfield 42, 3) := by decide +kernel
theorem dX10_storedParts_4 : decode cX10_storedParts 4 = .ok (.getfield 186, 3) := by decide +kernel
theorem dX10_storedParts_7 : decode cX10_storedParts 7 = .ok (.getfield 254, 3) := by decide +kernel
theorem dX10_storedParts_10 : decode cX10_storedParts 10 = .ok (.ireturn, 1) := by decide +kernel
