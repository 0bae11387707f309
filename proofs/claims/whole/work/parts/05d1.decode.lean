theorem dX10_recover_39 : decode cX10_recover 39 = .ok (.invokevirtual 234, 3) := by decide +kernel
theorem dX10_recover_42 : decode cX10_recover 42 = .ok (.istore_n 3, 1) := by decide +kernel
theorem dX10_recover_43 : decode cX10_recover 43 = .ok (.aload_n 0, 1) := by decide +kernel
theorem dX10_recover_44 : decode cX10_recover 44 = .ok (.getfield 42, 3) := by decide +kernel
theorem dX10_recover_47 : decode cX10_recover 47 = .ok (.iload_n 1, 1) := by decide +kernel
theorem dX10_recover_48 : decode cX10_recover 48 = .ok (.iload_n 2, 1) := by decide +kernel
theorem dX10_recover_49 : decode cX10_recover 49 = .ok (.invokevirtual 338, 3) := by decide +kernel
theorem dX10_recover_52 : decode cX10_recover 52 = .ok (.iload_n 3, 1) := by decide +kernel
theorem dX10_recover_53 : decode cX10_recover 53 = .ok (.ireturn, 1) := by decide +kernel
theorem dX10_isActive_0 : decode cX10_isActive 0 = .ok (.aload_n 0, 1) := by decide +kernel
theorem dX10_isActive_1 : decode cX10_isActive 1 = .ok (.iload_n 1, 1) := by decide +kernel
theorem dX10_isActive_2 : decode cX10_isActive 2 = .ok (.invokevirtual 341, 3) := by decide +kernel
theorem dX10_isActive_5 : decode cX10_isActive 5 = .ok (.aload_n 0, 1) := by decide +kernel
theorem dX10_isActive_6 : decode cX10_isActive 6 = .ok (.getfield 42, 3) := by decide +kernel
theorem dX10_isActive_9 : decode cX10_isActive 9 = .ok (.getfield 344, 3) := by decide +kernel
theorem dX10_isActive_12 : decode cX10_isActive 12 = .ok (.iload_n 1, 1) := by decide +kernel
theorem dX10_isActive_13 : decode cX10_isActive 13 = .ok (.invokestatic 311, 3) := by decide +kernel
theorem dX10_isActive_16 : decode cX10_isActive 16 = .ok (.ireturn, 1) := by decide +kernel
theorem dX10_setHold_0 : decode cX10_setHold 0 = .ok (.aload_n 0, 1) := by decide +kernel
theorem dX10_setHold_1 : decode cX10_setHold 1 = .ok (.iload_n 1, 1) := by decide +kernel
theorem dX10_setHold_2 : decode cX10_setHold 2 = .ok (.invokevirtual 341, 3) := by decide +kernel
theorem dX10_setHold_5 : decode cX10_setHold 5 = .ok (.aload_n 0, 1) := by decide +kernel
theorem dX10_setHold_6 : decode cX10_setHold 6 = .ok (.getfield 42, 3) := by decide +kernel
theorem dX10_setHold_9 : decode cX10_setHold 9 = .ok (.getfield 344, 3) := by decide +kernel
theorem dX10_setHold_12 : decode cX10_setHold 12 = .ok (.iload_n 1, 1) := by decide +kernel
theorem dX10_setHold_13 : decode cX10_setHold 13 = .ok (.invokestatic 311, 3) := by decide +kernel
theorem dX10_setHold_16 : decode cX10_setHold 16 = .ok (.iload_n 2, 1) := by decide +kernel
theorem dX10_setHold_17 : decode cX10_setHold 17 = .ok (.if_icmp .ne 5, 3) := by decide +kernel
theorem dX10_setHold_20 : decode cX10_setHold 20 = .ok (.iconst 0, 1) := by decide +kernel
theorem dX10_setHold_21 : decode cX10_setHold 21 = .ok (.ireturn, 1) := by decide +kernel
theorem dX10_setHold_22 : decode cX10_setHold 22 = .ok (.aload_n 0, 1) := by decide +kernel
theorem dX10_setHold_23 : decode cX10_setHold 23 = .ok (.invokevirtual 94, 3) := by decide +kernel
theorem dX10_setHold_26 : decode cX10_setHold 26 = .ok (.iload_n 2, 1) := by decide +kernel
theorem dX10_setHold_27 : decode cX10_setHold 27 = .ok (.ifCond .eq 20, 3) := by decide +kernel
theorem dX10_setHold_30 : decode cX10_setHold 30 = .ok (.aload_n 0, 1) := by decide +kernel
theorem dX10_setHold_31 : decode cX10_setHold 31 = .ok (.getfield 42, 3) := by decide +kernel
theorem dX10_setHold_34 : decode cX10_setHold 34 = .ok (.dup, 1) := by decide +kernel
theorem dX10_setHold_35 : decode cX10_setHold 35 = .ok (.getfield 344, 3) := by decide +kernel
theorem dX10_setHold_38 : decode cX10_setHold 38 = .ok (.iconst 1, 1) := by decide +kernel
theorem dX10_setHold_39 : decode cX10_setHold 39 = .ok (.iload_n 1, 1) := by decide +kernel
theorem dX10_setHold_40 : decode cX10_setHold 40 = .ok (.ishl, 1) := by decide +kernel
theorem dX10_setHold_41 : decode cX10_setHold 41 = .ok (.ior, 1) := by decide +kernel
theorem dX10_setHold_42 : decode cX10_setHold 42 = .ok (.putfield 344, 3) := by decide +kernel
theorem dX10_setHold_45 : decode cX10_setHold 45 = .ok (.iconst 0, 1) := by decide +kernel
theorem dX10_setHold_46 : decode cX10_setHold 46 = .ok (.ireturn, 1) := by decide +kernel
theorem dX10_setHold_47 : decode cX10_setHold 47 = .ok (.aload_n 0, 1) := by decide +kernel
theorem dX10_setHold_48 : decode cX10_setHold 48 = .ok (.getfield 42, 3) := by decide +kernel
theorem dX10_setHold_51 : decode cX10_setHold 51 = .ok (.iload_n 1, 1) := by decide +kernel
theorem dX10_setHold_52 : decode cX10_setHold 52 = .ok (.invokevirtual 347, 3) := by decide +kernel
theorem dX10_setHold_55 : decode cX10_setHold 55 = .ok (.ireturn, 1) := by decide +kernel
theorem dX10_heldOnlyBy_0 : decode cX10_heldOnlyBy 0 = .ok (.aload_n 0, 1) := by decide +kernel
theorem dX10_heldOnlyBy_1 : decode cX10_heldOnlyBy 1 = .ok (.iload_n 1, 1) := by decide +kernel
theorem dX10_heldOnlyBy_2 : decode cX10_heldOnlyBy 2 = .ok (.invokevirtual 341, 3) := by decide +kernel
theorem dX10_heldOnlyBy_5 : decode cX10_heldOnlyBy 5 = .ok (.aload_n 0, 1) := by decide +kernel
theorem dX10_heldOnlyBy_6 : decode cX10_heldOnlyBy 6 = .ok (.getfield 42, 3) := by decide +kernel
theorem dX10_heldOnlyBy_9 : decode cX10_heldOnlyBy 9 = .ok (.iload_n 1, 1) := by decide +kernel
theorem dX10_heldOnlyBy_10 : decode cX10_heldOnlyBy 10 = .ok (.invokevirtual 350, 3) := by decide +kernel
theorem dX10_heldOnlyBy_13 : decode cX10_heldOnlyBy 13 = .ok (.ireturn, 1) := by decide +kernel
theorem dX10_setQuota_0 : decode cX10_setQuota 0 = .ok (.aload_n 0, 1) := by decide +kernel
theorem dX10_setQuota_1 : decode cX10_setQuota 1 = .ok (.iload_n 1, 1) := by decide +kernel
theorem dX10_setQuota_2 : decode cX10_setQuota 2 = .ok (.invokevirtual 169, 3) := by decide +kernel
theorem dX10_setQuota_5 : decode cX10_setQuota 5 = .ok (.iload_n 2, 1) := by decide +kernel
theorem dX10_setQuota_6 : decode cX10_setQuota 6 = .ok (.iconst 1, 1) := by decide +kernel
theorem dX10_setQuota_7 : decode cX10_setQuota 7 = .ok (.if_icmp .lt 10, 3) := by decide +kernel
theorem dX10_setQuota_10 : decode cX10_setQuota 10 = .ok (.iload_n 2, 1) := by decide +kernel
theorem dX10_setQuota_11 : decode cX10_setQuota 11 = .ok (.ldc_w 353, 3) := by decide +kernel
theorem dX10_setQuota_14 : decode cX10_setQuota 14 = .ok (.if_icmp .le 14, 3) := by decide +kernel
theorem dX10_setQuota_17 : decode cX10_setQuota 17 = .ok (.new 70, 3) := by decide +kernel
theorem dX10_setQuota_20 : decode cX10_setQuota 20 = .ok (.dup, 1) := by decide +kernel
theorem dX10_setQuota_21 : decode cX10_setQuota 21 = .ok (.ldc_w 354, 3) := by decide +kernel
theorem dX10_setQuota_24 : decode cX10_setQuota 24 = .ok (.invokespecial 74, 3) := by decide +kernel
theorem dX10_setQuota_27 : decode cX10_setQuota 27 = .ok (.athrow, 1) := by decide +kernel
theorem dX10_setQuota_28 : decode cX10_setQuota 28 = .ok (.aload_n 0, 1) := by decide +kernel
theorem dX10_setQuota_29 : decode cX10_setQuota 29 = .ok (.getfield 42, 3) := by decide +kernel
theorem dX10_setQuota_32 : decode cX10_setQuota 32 = .ok (.getfield 299, 3) := by decide +kernel
theorem dX10_setQuota_35 : decode cX10_setQuota 35 = .ok (.iload_n 1, 1) := by decide +kernel
theorem dX10_setQuota_36 : decode cX10_setQuota 36 = .ok (.invokestatic 142, 3) := by decide +kernel
theorem dX10_setQuota_39 : decode cX10_setQuota 39 = .ok (.istore_n 3, 1) := by decide +kernel
theorem dX10_setQuota_40 : decode cX10_setQuota 40 = .ok (.iload_n 3, 1) := by decide +kernel
theorem dX10_setQuota_41 : decode cX10_setQuota 41 = .ok (.iload_n 2, 1) := by decide +kernel
theorem dX10_setQuota_42 : decode cX10_setQuota 42 = .ok (.if_icmp .eq 19, 3) := by decide +kernel
theorem dX10_setQuota_45 : decode cX10_setQuota 45 = .ok (.aload_n 0, 1) := by decide +kernel
theorem dX10_setQuota_46 : decode cX10_setQuota 46 = .ok (.invokevirtual 94, 3) := by decide +kernel
theorem dX10_setQuota_49 : decode cX10_setQuota 49 = .ok (.aload_n 0, 1) := by decide +kernel
theorem dX10_setQuota_50 : decode cX10_setQuota 50 = .ok (.getfield 42, 3) := by decide +kernel
theorem dX10_setQuota_53 : decode cX10_setQuota 53 = .ok (.getfield 299, 3) := by decide +kernel
theorem dX10_setQuota_56 : decode cX10_setQuota 56 = .ok (.iload_n 1, 1) := by decide +kernel
theorem dX10_setQuota_57 : decode cX10_setQuota 57 = .ok (.iload_n 2, 1) := by decide +kernel
theorem dX10_setQuota_58 : decode cX10_setQuota 58 = .ok (.invokestatic 356, 3) := by decide +kernel
theorem dX10_setQuota_61 : decode cX10_setQuota 61 = .ok (.iload_n 3, 1) := by decide +kernel
theorem dX10_setQuota_62 : decode cX10_setQuota 62 = .ok (.ireturn, 1) := by decide +kernel
theorem dX10_advance_0 : decode cX10_advance 0 = .ok (.iload_n 1, 1) := by decide +kernel
theorem dX10_advance_1 : decode cX10_advance 1 = .ok (.iconst 1, 1) := by decide +kernel
theorem dX10_advance_2 : decode cX10_advance 2 = .ok (.if_icmp .lt 10, 3) := by decide +kernel
theorem dX10_advance_5 : decode cX10_advance 5 = .ok (.iload_n 1, 1) := by decide +kernel
theorem dX10_advance_6 : decode cX10_advance 6 = .ok (.sipush 1000, 3) := by decide +kernel
theorem dX10_advance_9 : decode cX10_advance 9 = .ok (.if_icmp .le 14, 3) := by decide +kernel
theorem dX10_advance_12 : decode cX10_advance 12 = .ok (.new 70, 3) := by decide +kernel
theorem dX10_advance_15 : decode cX10_advance 15 = .ok (.dup, 1) := by decide +kernel
theorem dX10_advance_16 : decode cX10_advance 16 = .ok (.ldc_w 360, 3) := by decide +kernel
theorem dX10_advance_19 : decode cX10_advance 19 = .ok (.invokespecial 74, 3) := by decide +kernel
theorem dX10_advance_22 : decode cX10_advance 22 = .ok (.athrow, 1) := by decide +kernel
theorem dX10_advance_23 : decode cX10_advance 23 = .ok (.aload_n 0, 1) := by decide +kernel
theorem dX10_advance_24 : decode cX10_advance 24 = .ok (.getfield 42, 3) := by decide +kernel
theorem dX10_advance_27 : decode cX10_advance 27 = .ok (.getfield 166, 3) := by decide +kernel
theorem dX10_advance_30 : decode cX10_advance 30 = .ok (.iload_n 1, 1) := by decide +kernel
theorem dX10_advance_31 : decode cX10_advance 31 = .ok (.iadd, 1) := by decide +kernel
theorem dX10_advance_32 : decode cX10_advance 32 = .ok (.sipush 20000, 3) := by decide +kernel
theorem dX10_advance_35 : decode cX10_advance 35 = .ok (.if_icmp .le 14, 3) := by decide +kernel
theorem dX10_advance_38 : decode cX10_advance 38 = .ok (.new 60, 3) := by decide +kernel
theorem dX10_advance_41 : decode cX10_advance 41 = .ok (.dup, 1) := by decide +kernel
theorem dX10_advance_42 : decode cX10_advance 42 = .ok (.ldc_w 362, 3) := by decide +kernel
theorem dX10_advance_45 : decode cX10_advance 45 = .ok (.invokespecial 64, 3) := by decide +kernel
theorem dX10_advance_48 : decode cX10_advance 48 = .ok (.athrow, 1) := by decide +kernel
theorem dX10_advance_49 : decode cX10_advance 49 = .ok (.aload_n 0, 1) := by decide +kernel
theorem dX10_advance_50 : decode cX10_advance 50 = .ok (.invokevirtual 94, 3) := by decide +kernel
theorem dX10_advance_53 : decode cX10_advance 53 = .ok (.aload_n 0, 1) := by decide +kernel
theorem dX10_advance_54 : decode cX10_advance 54 = .ok (.getfield 42, 3) := by decide +kernel
theorem dX10_advance_57 : decode cX10_advance 57 = .ok (.invokevirtual 364, 3) := by decide +kernel
theorem dX10_advance_60 : decode cX10_advance 60 = .ok (.iconst 0, 1) := by decide +kernel
theorem dX10_advance_61 : decode cX10_advance 61 = .ok (.istore_n 2, 1) := by decide +kernel
theorem dX10_advance_62 : decode cX10_advance 62 = .ok (.iconst 0, 1) := by decide +kernel
theorem dX10_advance_63 : decode cX10_advance 63 = .ok (.istore_n 3, 1) := by decide +kernel
theorem dX10_advance_64 : decode cX10_advance 64 = .ok (.iload_n 3, 1) := by decide +kernel
theorem dX10_advance_65 : decode cX10_advance 65 = .ok (.iload_n 1, 1) := by decide +kernel
theorem dX10_advance_66 : decode cX10_advance 66 = .ok (.if_icmp .ge 19, 3) := by decide +kernel
theorem dX10_advance_69 : decode cX10_advance 69 = .ok (.iload_n 2, 1) := by decide +kernel
theorem dX10_advance_70 : decode cX10_advance 70 = .ok (.aload_n 0, 1) := by decide +kernel
theorem dX10_advance_71 : decode cX10_advance 71 = .ok (.getfield 42, 3) := by decide +kernel
theorem dX10_advance_74 : decode cX10_advance 74 = .ok (.invokevirtual 367, 3) := by decide +kernel
theorem dX10_advance_77 : decode cX10_advance 77 = .ok (.iadd, 1) := by decide +kernel
theorem dX10_advance_78 : decode cX10_advance 78 = .ok (.istore_n 2, 1) := by decide +kernel
theorem dX10_advance_79 : decode cX10_advance 79 = .ok (.iinc 3 1, 3) := by decide +kernel
theorem dX10_advance_82 : decode cX10_advance 82 = .ok (.goto (-18), 3) := by decide +kernel
theorem dX10_advance_85 : decode cX10_advance 85 = .ok (.iload_n 2, 1) := by decide +kernel
theorem dX10_advance_86 : decode cX10_advance 86 = .ok (.ireturn, 1) := by decide +kernel
theorem dX10_nextRound_0 : decode cX10_nextRound 0 = .ok (.aload_n 0, 1) := by decide +kernel
theorem dX10_nextRound_1 : decode cX10_nextRound 1 = .ok (.getfield 42, 3) := by decide +kernel
theorem dX10_nextRound_4 : decode cX10_nextRound 4 = .ok (.getfield 104, 3) := by decide +kernel
theorem dX10_nextRound_7 : decode cX10_nextRound 7 = .ok (.getfield 370, 3) := by decide +kernel
theorem dX10_nextRound_10 : decode cX10_nextRound 10 = .ok (.istore_n 1, 1) := by decide +kernel
theorem dX10_nextRound_11 : decode cX10_nextRound 11 = .ok (.iload_n 1, 1) := by decide +kernel
theorem dX10_nextRound_12 : decode cX10_nextRound 12 = .ok (.ifCond .le 19, 3) := by decide +kernel
theorem dX10_nextRound_15 : decode cX10_nextRound 15 = .ok (.aload_n 0, 1) := by decide +kernel
theorem dX10_nextRound_16 : decode cX10_nextRound 16 = .ok (.getfield 42, 3) := by decide +kernel
theorem dX10_nextRound_19 : decode cX10_nextRound 19 = .ok (.getfield 166, 3) := by decide +kernel
theorem dX10_nextRound_22 : decode cX10_nextRound 22 = .ok (.iload_n 1, 1) := by decide +kernel
theorem dX10_nextRound_23 : decode cX10_nextRound 23 = .ok (.idiv, 1) := by decide +kernel
theorem dX10_nextRound_24 : decode cX10_nextRound 24 = .ok (.iconst 1, 1) := by decide +kernel
theorem dX10_nextRound_25 : decode cX10_nextRound 25 = .ok (.iadd, 1) := by decide +kernel
theorem dX10_nextRound_26 : decode cX10_nextRound 26 = .ok (.iload_n 1, 1) := by decide +kernel
theorem dX10_nextRound_27 : decode cX10_nextRound 27 = .ok (.imul, 1) := by decide +kernel
theorem dX10_nextRound_28 : decode cX10_nextRound 28 = .ok (.goto 4, 3) := by decide +kernel
theorem dX10_nextRound_31 : decode cX10_nextRound 31 = .ok (.iconst (-1), 1) := by decide +kernel
theorem dX10_nextRound_32 : decode cX10_nextRound 32 = .ok (.ireturn, 1) := by decide +kernel
theorem dX10_removedOn_0 : decode cX10_removedOn 0 = .ok (.aload_n 0, 1) := by decide +kernel
theorem dX10_removedOn_1 : decode cX10_removedOn 1 = .ok (.iload_n 1, 1) := by decide +kernel
theorem dX10_removedOn_2 : decode cX10_removedOn 2 = .ok (.invokevirtual 262, 3) := by decide +kernel
theorem dX10_removedOn_5 : decode cX10_removedOn 5 = .ok (.aload_n 0, 1) := by decide +kernel
theorem dX10_removedOn_6 : decode cX10_removedOn 6 = .ok (.invokevirtual 373, 3) := by decide +kernel
theorem dX10_removedOn_9 : decode cX10_removedOn 9 = .ok (.iconst 0, 1) := by decide +kernel
theorem dX10_removedOn_10 : decode cX10_removedOn 10 = .ok (.istore_n 2, 1) := by decide +kernel
theorem dX10_removedOn_11 : decode cX10_removedOn 11 = .ok (.iload_n 2, 1) := by decide +kernel
theorem dX10_removedOn_12 : decode cX10_removedOn 12 = .ok (.sipush 2000, 3) := by decide +kernel
theorem dX10_removedOn_15 : decode cX10_removedOn 15 = .ok (.if_icmp .ge 41, 3) := by decide +kernel
theorem dX10_removedOn_18 : decode cX10_removedOn 18 = .ok (.aload_n 0, 1) := by decide +kernel
theorem dX10_removedOn_19 : decode cX10_removedOn 19 = .ok (.getfield 46, 3) := by decide +kernel
theorem dX10_removedOn_22 : decode cX10_removedOn 22 = .ok (.getfield 186, 3) := by decide +kernel
theorem dX10_removedOn_25 : decode cX10_removedOn 25 = .ok (.iload_n 1, 1) := by decide +kernel
theorem dX10_removedOn_26 : decode cX10_removedOn 26 = .ok (.invokevirtual 376, 3) := by decide +kernel
theorem dX10_removedOn_29 : decode cX10_removedOn 29 = .ok (.ifCond .eq 27, 3) := by decide +kernel
theorem dX10_removedOn_32 : decode cX10_removedOn 32 = .ok (.aload_n 0, 1) := by decide +kernel
theorem dX10_removedOn_33 : decode cX10_removedOn 33 = .ok (.getfield 46, 3) := by decide +kernel
theorem dX10_removedOn_36 : decode cX10_removedOn 36 = .ok (.invokevirtual 379, 3) := by decide +kernel
theorem dX10_removedOn_39 : decode cX10_removedOn 39 = .ok (.ifCond .ne 17, 3) := by decide +kernel
theorem dX10_removedOn_42 : decode cX10_removedOn 42 = .ok (.aload_n 0, 1) := by decide +kernel
theorem dX10_removedOn_43 : decode cX10_removedOn 43 = .ok (.getfield 46, 3) := by decide +kernel
theorem dX10_removedOn_46 : decode cX10_removedOn 46 = .ok (.invokevirtual 367, 3) := by decide +kernel
theorem dX10_removedOn_49 : decode cX10_removedOn 49 = .ok (.pop, 1) := by decide +kernel
theorem dX10_removedOn_50 : decode cX10_removedOn 50 = .ok (.iinc 2 1, 3) := by decide +kernel
theorem dX10_removedOn_53 : decode cX10_removedOn 53 = .ok (.goto (-42), 3) := by decide +kernel
theorem dX10_removedOn_56 : decode cX10_removedOn 56 = .ok (.aload_n 0, 1) := by decide +kernel
theorem dX10_removedOn_57 : decode cX10_removedOn 57 = .ok (.getfield 46, 3) := by decide +kernel
theorem dX10_removedOn_60 : decode cX10_removedOn 60 = .ok (.getfield 186, 3) := by decide +kernel
theorem dX10_removedOn_63 : decode cX10_removedOn 63 = .ok (.iload_n 1, 1) := by decide +kernel
theorem dX10_removedOn_64 : decode cX10_removedOn 64 = .ok (.invokevirtual 376, 3) := by decide +kernel
theorem dX10_removedOn_67 : decode cX10_removedOn 67 = .ok (.ifCond .eq 7, 3) := by decide +kernel
theorem dX10_removedOn_70 : decode cX10_removedOn 70 = .ok (.iconst (-1), 1) := by decide +kernel
theorem dX10_removedOn_71 : decode cX10_removedOn 71 = .ok (.goto 10, 3) := by decide +kernel
theorem dX10_removedOn_74 : decode cX10_removedOn 74 = .ok (.aload_n 0, 1) := by decide +kernel
theorem dX10_removedOn_75 : decode cX10_removedOn 75 = .ok (.getfield 46, 3) := by decide +kernel
theorem dX10_removedOn_78 : decode cX10_removedOn 78 = .ok (.getfield 166, 3) := by decide +kernel
theorem dX10_removedOn_81 : decode cX10_removedOn 81 = .ok (.ireturn, 1) := by decide +kernel
theorem dX10_emptyOn_0 : decode cX10_emptyOn 0 = .ok (.aload_n 0, 1) := by decide +kernel
theorem dX10_emptyOn_1 : decode cX10_emptyOn 1 = .ok (.invokevirtual 373, 3) := by decide +kernel
theorem dX10_emptyOn_4 : decode cX10_emptyOn 4 = .ok (.iconst 0, 1) := by decide +kernel
theorem dX10_emptyOn_5 : decode cX10_emptyOn 5 = .ok (.istore_n 1, 1) := by decide +kernel
theorem dX10_emptyOn_6 : decode cX10_emptyOn 6 = .ok (.iload_n 1, 1) := by decide +kernel
theorem dX10_emptyOn_7 : decode cX10_emptyOn 7 = .ok (.sipush 2000, 3) := by decide +kernel
theorem dX10_emptyOn_10 : decode cX10_emptyOn 10 = .ok (.if_icmp .ge 40, 3) := by decide +kernel
theorem dX10_emptyOn_13 : decode cX10_emptyOn 13 = .ok (.aload_n 0, 1) := by decide +kernel
theorem dX10_emptyOn_14 : decode cX10_emptyOn 14 = .ok (.getfield 46, 3) := by decide +kernel
theorem dX10_emptyOn_17 : decode cX10_emptyOn 17 = .ok (.getfield 186, 3) := by decide +kernel
theorem dX10_emptyOn_20 : decode cX10_emptyOn 20 = .ok (.getfield 254, 3) := by decide +kernel
theorem dX10_emptyOn_23 : decode cX10_emptyOn 23 = .ok (.ifCond .le 27, 3) := by decide +kernel
theorem dX10_emptyOn_26 : decode cX10_emptyOn 26 = .ok (.aload_n 0, 1) := by decide +kernel
theorem dX10_emptyOn_27 : decode cX10_emptyOn 27 = .ok (.getfield 46, 3) := by decide +kernel
theorem dX10_emptyOn_30 : decode cX10_emptyOn 30 = .ok (.invokevirtual 379, 3) := by decide +kernel
theorem dX10_emptyOn_33 : decode cX10_emptyOn 33 = .ok (.ifCond .ne 17, 3) := by decide +kernel
theorem dX10_emptyOn_36 : decode cX10_emptyOn 36 = .ok (.aload_n 0, 1) := by decide +kernel
theorem dX10_emptyOn_37 : decode cX10_emptyOn 37 = .ok (.getfield 46, 3) := by decide +kernel
theorem dX10_emptyOn_40 : decode cX10_emptyOn 40 = .ok (.invokevirtual 367, 3) := by decide +kernel
theorem dX10_emptyOn_43 : decode cX10_emptyOn 43 = .ok (.pop, 1) := by decide +kernel
theorem dX10_emptyOn_44 : decode cX10_emptyOn 44 = .ok (.iinc 1 1, 3) := by decide +kernel
theorem dX10_emptyOn_47 : decode cX10_emptyOn 47 = .ok (.goto (-41), 3) := by decide +kernel
theorem dX10_emptyOn_50 : decode cX10_emptyOn 50 = .ok (.aload_n 0, 1) := by decide +kernel
theorem dX10_emptyOn_51 : decode cX10_emptyOn 51 = .ok (.getfield 46, 3) := by decide +kernel
theorem dX10_emptyOn_54 : decode cX10_emptyOn 54 = .ok (.getfield 186, 3) := by decide +kernel
theorem dX10_emptyOn_57 : decode cX10_emptyOn 57 = .ok (.getfield 254, 3) := by decide +kernel
theorem dX10_emptyOn_60 : decode cX10_emptyOn 60 = .ok (.ifCond .le 7, 3) := by decide +kernel
theorem dX10_emptyOn_63 : decode cX10_emptyOn 63 = .ok (.iconst (-1), 1) := by decide +kernel
theorem dX10_emptyOn_64 : decode cX10_emptyOn 64 = .ok (.goto 10, 3) := by decide +kernel
theorem dX10_emptyOn_67 : decode cX10_emptyOn 67 = .ok (.aload_n 0, 1) := by decide +kernel
theorem dX10_emptyOn_68 : decode cX10_emptyOn 68 = .ok (.getfield 46, 3) := by decide +kernel
theorem dX10_emptyOn_71 : decode cX10_emptyOn 71 = .ok (.getfield 166, 3) := by decide +kernel
theorem dX10_emptyOn_74 : decode cX10_emptyOn 74 = .ok (.ireturn, 1) := by decide +kernel
theorem dX10_bytesAfter_0 : decode cX10_bytesAfter 0 = .ok (.iload_n 1, 1) := by decide +kernel
theorem dX10_bytesAfter_1 : decode cX10_bytesAfter 1 = .ok (.invokestatic 382, 3) := by decide +kernel
theorem dX10_bytesAfter_4 : decode cX10_bytesAfter 4 = .ok (.aload_n 0, 1) := by decide +kernel
theorem dX10_bytesAfter_5 : decode cX10_bytesAfter 5 = .ok (.invokevirtual 373, 3) := by decide +kernel
theorem dX10_bytesAfter_8 : decode cX10_bytesAfter 8 = .ok (.iconst 0, 1) := by decide +kernel
theorem dX10_bytesAfter_9 : decode cX10_bytesAfter 9 = .ok (.istore_n 2, 1) := by decide +kernel
theorem dX10_bytesAfter_10 : decode cX10_bytesAfter 10 = .ok (.iload_n 2, 1) := by decide +kernel
theorem dX10_bytesAfter_11 : decode cX10_bytesAfter 11 = .ok (.iload_n 1, 1) := by decide +kernel
theorem dX10_bytesAfter_12 : decode cX10_bytesAfter 12 = .ok (.if_icmp .ge 27, 3) := by decide +kernel
theorem dX10_bytesAfter_15 : decode cX10_bytesAfter 15 = .ok (.aload_n 0, 1) := by decide +kernel
theorem dX10_bytesAfter_16 : decode cX10_bytesAfter 16 = .ok (.getfield 46, 3) := by decide +kernel
theorem dX10_bytesAfter_19 : decode cX10_bytesAfter 19 = .ok (.invokevirtual 379, 3) := by decide +kernel
theorem dX10_bytesAfter_22 : decode cX10_bytesAfter 22 = .ok (.ifCond .ne 17, 3) := by decide +kernel
theorem dX10_bytesAfter_25 : decode cX10_bytesAfter 25 = .ok (.aload_n 0, 1) := by decide +kernel
theorem dX10_bytesAfter_26 : decode cX10_bytesAfter 26 = .ok (.getfield 46, 3) := by decide +kernel
theorem dX10_bytesAfter_29 : decode cX10_bytesAfter 29 = .ok (.invokevirtual 367, 3) := by decide +kernel
theorem dX10_bytesAfter_32 : decode cX10_bytesAfter 32 = .ok (.pop, 1) := by decide +kernel
theorem dX10_bytesAfter_33 : decode cX10_bytesAfter 33 = .ok (.iinc 2 1, 3) := by decide +kernel
theorem dX10_bytesAfter_36 : decode cX10_bytesAfter 36 = .ok (.goto (-26), 3) := by decide +kernel
theorem dX10_bytesAfter_39 : decode cX10_bytesAfter 39 = .ok (.aload_n 0, 1) := by decide +kernel
theorem dX10_bytesAfter_40 : decode cX10_bytesAfter 40 = .ok (.getfield 46, 3) := by decide +kernel
theorem dX10_bytesAfter_43 : decode cX10_bytesAfter 43 = .ok (.getfield 186, 3) := by decide +kernel
theorem dX10_bytesAfter_46 : decode cX10_bytesAfter 46 = .ok (.iconst 0, 1) := by decide +kernel
theorem dX10_bytesAfter_47 : decode cX10_bytesAfter 47 = .ok (.invokevirtual 289, 3) := by decide +kernel
theorem dX10_bytesAfter_50 : decode cX10_bytesAfter 50 = .ok (.ireturn, 1) := by decide +kernel
theorem dX10_goneAfter_0 : decode cX10_goneAfter 0 = .ok (.aload_n 0, 1) := by decide +kernel
theorem dX10_goneAfter_1 : decode cX10_goneAfter 1 = .ok (.iload_n 1, 1) := by decide +kernel
theorem dX10_goneAfter_2 : decode cX10_goneAfter 2 = .ok (.invokevirtual 169, 3) := by decide +kernel
theorem dX10_goneAfter_5 : decode cX10_goneAfter 5 = .ok (.iload_n 2, 1) := by decide +kernel
theorem dX10_goneAfter_6 : decode cX10_goneAfter 6 = .ok (.invokestatic 382, 3) := by decide +kernel
theorem dX10_goneAfter_9 : decode cX10_goneAfter 9 = .ok (.aload_n 0, 1) := by decide +kernel
theorem dX10_goneAfter_10 : decode cX10_goneAfter 10 = .ok (.invokevirtual 373, 3) := by decide +kernel
theorem dX10_goneAfter_13 : decode cX10_goneAfter 13 = .ok (.iconst 0, 1) := by decide +kernel
theorem dX10_goneAfter_14 : decode cX10_goneAfter 14 = .ok (.istore_n 3, 1) := by decide +kernel
theorem dX10_goneAfter_15 : decode cX10_goneAfter 15 = .ok (.iload_n 3, 1) := by decide +kernel
theorem dX10_goneAfter_16 : decode cX10_goneAfter 16 = .ok (.iload_n 2, 1) := by decide +kernel
theorem dX10_goneAfter_17 : decode cX10_goneAfter 17 = .ok (.if_icmp .ge 27, 3) := by decide +kernel
theorem dX10_goneAfter_20 : decode cX10_goneAfter 20 = .ok (.aload_n 0, 1) := by decide +kernel
theorem dX10_goneAfter_21 : decode cX10_goneAfter 21 = .ok (.getfield 46, 3) := by decide +kernel
theorem dX10_goneAfter_24 : decode cX10_goneAfter 24 = .ok (.invokevirtual 379, 3) := by decide +kernel
theorem dX10_goneAfter_27 : decode cX10_goneAfter 27 = .ok (.ifCond .ne 17, 3) := by decide +kernel
theorem dX10_goneAfter_30 : decode cX10_goneAfter 30 = .ok (.aload_n 0, 1) := by decide +kernel
theorem dX10_goneAfter_31 : decode cX10_goneAfter 31 = .ok (.getfield 46, 3) := by decide +kernel
theorem dX10_goneAfter_34 : decode cX10_goneAfter 34 = .ok (.invokevirtual 367, 3) := by decide +kernel
theorem dX10_goneAfter_37 : decode cX10_goneAfter 37 = .ok (.pop, 1) := by decide +kernel
theorem dX10_goneAfter_38 : decode cX10_goneAfter 38 = .ok (.iinc 3 1, 3) := by decide +kernel
theorem dX10_goneAfter_41 : decode cX10_goneAfter 41 = .ok (.goto (-26), 3) := by decide +kernel
theorem dX10_goneAfter_44 : decode cX10_goneAfter 44 = .ok (.aload_n 0, 1) := by decide +kernel
theorem dX10_goneAfter_45 : decode cX10_goneAfter 45 = .ok (.getfield 42, 3) := by decide +kernel
theorem dX10_goneAfter_48 : decode cX10_goneAfter 48 = .ok (.iload_n 1, 1) := by decide +kernel
theorem dX10_goneAfter_49 : decode cX10_goneAfter 49 = .ok (.invokevirtual 385, 3) := by decide +kernel
theorem dX10_goneAfter_52 : decode cX10_goneAfter 52 = .ok (.aload_n 0, 1) := by decide +kernel
theorem dX10_goneAfter_53 : decode cX10_goneAfter 53 = .ok (.getfield 46, 3) := by decide +kernel
theorem dX10_goneAfter_56 : decode cX10_goneAfter 56 = .ok (.iload_n 1, 1) := by decide +kernel
theorem dX10_goneAfter_57 : decode cX10_goneAfter 57 = .ok (.invokevirtual 385, 3) := by decide +kernel
theorem dX10_goneAfter_60 : decode cX10_goneAfter 60 = .ok (.isub, 1) := by decide +kernel
theorem dX10_goneAfter_61 : decode cX10_goneAfter 61 = .ok (.ireturn, 1) := by decide +kernel
theorem dX10_eventCount_0 : decode cX10_eventCount 0 = .ok (.aload_n 0, 1) := by decide +kernel
theorem dX10_eventCount_1 : decode cX10_eventCount 1 = .ok (.getfield 42, 3) := by decide +kernel
theorem dX10_eventCount_4 : decode cX10_eventCount 4 = .ok (.getfield 388, 3) := by decide +kernel
theorem dX10_eventCount_7 : decode cX10_eventCount 7 = .ok (.getfield 392, 3) := by decide +kernel
theorem dX10_eventCount_10 : decode cX10_eventCount 10 = .ok (.ireturn, 1) := by decide +kernel
theorem dX10_event_0 : decode cX10_event 0 = .ok (.iload_n 1, 1) := by decide +kernel
theorem dX10_event_1 : decode cX10_event 1 = .ok (.ifCond .lt 17, 3) := by decide +kernel
theorem dX10_event_4 : decode cX10_event 4 = .ok (.iload_n 1, 1) := by decide +kernel
theorem dX10_event_5 : decode cX10_event 5 = .ok (.aload_n 0, 1) := by decide +kernel
theorem dX10_event_6 : decode cX10_event 6 = .ok (.getfield 42, 3) := by decide +kernel
theorem dX10_event_9 : decode cX10_event 9 = .ok (.getfield 388, 3) := by decide +kernel
theorem dX10_event_12 : decode cX10_event 12 = .ok (.getfield 392, 3) := by decide +kernel
theorem dX10_event_15 : decode cX10_event 15 = .ok (.if_icmp .lt 14, 3) := by decide +kernel
theorem dX10_event_18 : decode cX10_event 18 = .ok (.new 134, 3) := by decide +kernel
theorem dX10_event_21 : decode cX10_event 21 = .ok (.dup, 1) := by decide +kernel
theorem dX10_event_22 : decode cX10_event 22 = .ok (.ldc_w 395, 3) := by decide +kernel
theorem dX10_event_25 : decode cX10_event 25 = .ok (.invokespecial 138, 3) := by decide +kernel
theorem dX10_event_28 : decode cX10_event 28 = .ok (.athrow, 1) := by decide +kernel
theorem dX10_event_29 : decode cX10_event 29 = .ok (.iload_n 2, 1) := by decide +kernel
theorem dX10_event_30 : decode cX10_event 30 = .ok (.iconst 2, 1) := by decide +kernel
theorem dX10_event_31 : decode cX10_event 31 = .ok (.invokestatic 149, 3) := by decide +kernel
theorem dX10_event_34 : decode cX10_event 34 = .ok (.aload_n 0, 1) := by decide +kernel
theorem dX10_event_35 : decode cX10_event 35 = .ok (.getfield 42, 3) := by decide +kernel
theorem dX10_event_38 : decode cX10_event 38 = .ok (.getfield 388, 3) := by decide +kernel
theorem dX10_event_41 : decode cX10_event 41 = .ok (.iload_n 1, 1) := by decide +kernel
theorem dX10_event_42 : decode cX10_event 42 = .ok (.iload_n 2, 1) := by decide +kernel
theorem dX10_event_43 : decode cX10_event 43 = .ok (.invokevirtual 397, 3) := by decide +kernel
theorem dX10_event_46 : decode cX10_event 46 = .ok (.ireturn, 1) := by decide +kernel
theorem dX10_eventsOf_0 : decode cX10_eventsOf 0 = .ok (.iload_n 1, 1) := by decide +kernel
theorem dX10_eventsOf_1 : decode cX10_eventsOf 1 = .ok (.iconst 1, 1) := by decide +kernel
theorem dX10_eventsOf_2 : decode cX10_eventsOf 2 = .ok (.if_icmp .lt 9, 3) := by decide +kernel
theorem dX10_eventsOf_5 : decode cX10_eventsOf 5 = .ok (.iload_n 1, 1) := by decide +kernel
theorem dX10_eventsOf_6 : decode cX10_eventsOf 6 = .ok (.bipush 10, 2) := by decide +kernel
theorem dX10_eventsOf_8 : decode cX10_eventsOf 8 = .ok (.if_icmp .le 14, 3) := by decide +kernel
theorem dX10_eventsOf_11 : decode cX10_eventsOf 11 = .ok (.new 70, 3) := by decide +kernel
theorem dX10_eventsOf_14 : decode cX10_eventsOf 14 = .ok (.dup, 1) := by decide +kernel
theorem dX10_eventsOf_15 : decode cX10_eventsOf 15 = .ok (.ldc_w 400, 3) := by decide +kernel
theorem dX10_eventsOf_18 : decode cX10_eventsOf 18 = .ok (.invokespecial 74, 3) := by decide +kernel
theorem dX10_eventsOf_21 : decode cX10_eventsOf 21 = .ok (.athrow, 1) := by decide +kernel
theorem dX10_eventsOf_22 : decode cX10_eventsOf 22 = .ok (.iconst 0, 1) := by decide +kernel
theorem dX10_eventsOf_23 : decode cX10_eventsOf 23 = .ok (.istore_n 2, 1) := by decide +kernel
theorem dX10_eventsOf_24 : decode cX10_eventsOf 24 = .ok (.iconst 0, 1) := by decide +kernel
theorem dX10_eventsOf_25 : decode cX10_eventsOf 25 = .ok (.istore_n 3, 1) := by decide +kernel
theorem dX10_eventsOf_26 : decode cX10_eventsOf 26 = .ok (.iload_n 3, 1) := by decide +kernel
theorem dX10_eventsOf_27 : decode cX10_eventsOf 27 = .ok (.aload_n 0, 1) := by decide +kernel
theorem dX10_eventsOf_28 : decode cX10_eventsOf 28 = .ok (.getfield 42, 3) := by decide +kernel
theorem dX10_eventsOf_31 : decode cX10_eventsOf 31 = .ok (.getfield 388, 3) := by decide +kernel
theorem dX10_eventsOf_34 : decode cX10_eventsOf 34 = .ok (.getfield 392, 3) := by decide +kernel
theorem dX10_eventsOf_37 : decode cX10_eventsOf 37 = .ok (.if_icmp .ge 28, 3) := by decide +kernel
theorem dX10_eventsOf_40 : decode cX10_eventsOf 40 = .ok (.aload_n 0, 1) := by decide +kernel
theorem dX10_eventsOf_41 : decode cX10_eventsOf 41 = .ok (.getfield 42, 3) := by decide +kernel
theorem dX10_eventsOf_44 : decode cX10_eventsOf 44 = .ok (.getfield 388, 3) := by decide +kernel
theorem dX10_eventsOf_47 : decode cX10_eventsOf 47 = .ok (.iload_n 3, 1) := by decide +kernel
theorem dX10_eventsOf_48 : decode cX10_eventsOf 48 = .ok (.iconst 1, 1) := by decide +kernel
theorem dX10_eventsOf_49 : decode cX10_eventsOf 49 = .ok (.invokevirtual 397, 3) := by decide +kernel
theorem dX10_eventsOf_52 : decode cX10_eventsOf 52 = .ok (.iload_n 1, 1) := by decide +kernel
theorem dX10_eventsOf_53 : decode cX10_eventsOf 53 = .ok (.if_icmp .ne 6, 3) := by decide +kernel
theorem dX10_eventsOf_56 : decode cX10_eventsOf 56 = .ok (.iinc 2 1, 3) := by decide +kernel
theorem dX10_eventsOf_59 : decode cX10_eventsOf 59 = .ok (.iinc 3 1, 3) := by decide +kernel
theorem dX10_eventsOf_62 : decode cX10_eventsOf 62 = .ok (.goto (-36), 3) := by decide +kernel
theorem dX10_eventsOf_65 : decode cX10_eventsOf 65 = .ok (.iload_n 2, 1) := by decide +kernel
theorem dX10_eventsOf_66 : decode cX10_eventsOf 66 = .ok (.ireturn, 1) := by decide +kernel
theorem dX10_undo_0 : decode cX10_undo 0 = .ok (.aload_n 0, 1) := by decide +kernel
theorem dX10_undo_1 : decode cX10_undo 1 = .ok (.getfield 402, 3) := by decide +kernel
theorem dX10_undo_4 : decode cX10_undo 4 = .ok (.ifCond .gt 14, 3) := by decide +kernel
theorem dX10_undo_7 : decode cX10_undo 7 = .ok (.new 60, 3) := by decide +kernel
theorem dX10_undo_10 : decode cX10_undo 10 = .ok (.dup, 1) := by decide +kernel
theorem dX10_undo_11 : decode cX10_undo 11 = .ok (.ldc_w 405, 3) := by decide +kernel
theorem dX10_undo_14 : decode cX10_undo 14 = .ok (.invokespecial 64, 3) := by decide +kernel
theorem dX10_undo_17 : decode cX10_undo 17 = .ok (.athrow, 1) := by decide +kernel
theorem dX10_undo_18 : decode cX10_undo 18 = .ok (.aload_n 0, 1) := by decide +kernel
theorem dX10_undo_19 : decode cX10_undo 19 = .ok (.dup, 1) := by decide +kernel
theorem dX10_undo_20 : decode cX10_undo 20 = .ok (.getfield 402, 3) := by decide +kernel
theorem dX10_undo_23 : decode cX10_undo 23 = .ok (.iconst 1, 1) := by decide +kernel
theorem dX10_undo_24 : decode cX10_undo 24 = .ok (.isub, 1) := by decide +kernel
theorem dX10_undo_25 : decode cX10_undo 25 = .ok (.putfield 402, 3) := by decide +kernel
theorem dX10_undo_28 : decode cX10_undo 28 = .ok (.aload_n 0, 1) := by decide +kernel
theorem dX10_undo_29 : decode cX10_undo 29 = .ok (.aload_n 0, 1) := by decide +kernel
theorem dX10_undo_30 : decode cX10_undo 30 = .ok (.getfield 402, 3) := by decide +kernel
theorem dX10_undo_33 : decode cX10_undo 33 = .ok (.invokevirtual 407, 3) := by decide +kernel
theorem dX10_undo_36 : decode cX10_undo 36 = .ok (.astore_n 1, 1) := by decide +kernel
theorem dX10_undo_37 : decode cX10_undo 37 = .ok (.aload_n 1, 1) := by decide +kernel
theorem dX10_undo_38 : decode cX10_undo 38 = .ok (.ifnull 11, 3) := by decide +kernel
theorem dX10_undo_41 : decode cX10_undo 41 = .ok (.aload_n 0, 1) := by decide +kernel
theorem dX10_undo_42 : decode cX10_undo 42 = .ok (.getfield 42, 3) := by decide +kernel
theorem dX10_undo_45 : decode cX10_undo 45 = .ok (.aload_n 1, 1) := by decide +kernel
theorem dX10_undo_46 : decode cX10_undo 46 = .ok (.invokevirtual 411, 3) := by decide +kernel
theorem dX10_undo_49 : decode cX10_undo 49 = .ok (.aload_n 0, 1) := by decide +kernel
theorem dX10_undo_50 : decode cX10_undo 50 = .ok (.getfield 402, 3) := by decide +kernel
theorem dX10_undo_53 : decode cX10_undo 53 = .ok (.ireturn, 1) := by decide +kernel
theorem dX10_undoCount_0 : decode cX10_undoCount 0 = .ok (.aload_n 0, 1) := by decide +kernel
theorem dX10_undoCount_1 : decode cX10_undoCount 1 = .ok (.getfield 402, 3) := by decide +kernel
theorem dX10_undoCount_4 : decode cX10_undoCount 4 = .ok (.ireturn, 1) := by decide +kernel
theorem dX10_writeMailbox_0 : decode cX10_writeMailbox 0 = .ok (.aload_n 0, 1) := by decide +kernel
theorem dX10_writeMailbox_1 : decode cX10_writeMailbox 1 = .ok (.iload_n 1, 1) := by decide +kernel
theorem dX10_writeMailbox_2 : decode cX10_writeMailbox 2 = .ok (.invokevirtual 169, 3) := by decide +kernel
theorem dX10_writeMailbox_5 : decode cX10_writeMailbox 5 = .ok (.aload_n 0, 1) := by decide +kernel
theorem dX10_writeMailbox_6 : decode cX10_writeMailbox 6 = .ok (.getfield 21, 3) := by decide +kernel
theorem dX10_writeMailbox_9 : decode cX10_writeMailbox 9 = .ok (.iconst 0, 1) := by decide +kernel
theorem dX10_writeMailbox_10 : decode cX10_writeMailbox 10 = .ok (.invokevirtual 75, 3) := by decide +kernel
theorem dX10_writeMailbox_13 : decode cX10_writeMailbox 13 = .ok (.iconst 0, 1) := by decide +kernel
theorem dX10_writeMailbox_14 : decode cX10_writeMailbox 14 = .ok (.istore_n 2, 1) := by decide +kernel
theorem dX10_writeMailbox_15 : decode cX10_writeMailbox 15 = .ok (.iload_n 2, 1) := by decide +kernel
theorem dX10_writeMailbox_16 : decode cX10_writeMailbox 16 = .ok (.aload_n 0, 1) := by decide +kernel
theorem dX10_writeMailbox_17 : decode cX10_writeMailbox 17 = .ok (.getfield 42, 3) := by decide +kernel
theorem dX10_writeMailbox_20 : decode cX10_writeMailbox 20 = .ok (.getfield 183, 3) := by decide +kernel
theorem dX10_writeMailbox_23 : decode cX10_writeMailbox 23 = .ok (.if_icmp .ge 27, 3) := by decide +kernel
theorem dX10_writeMailbox_26 : decode cX10_writeMailbox 26 = .ok (.aload_n 0, 1) := by decide +kernel
theorem dX10_writeMailbox_27 : decode cX10_writeMailbox 27 = .ok (.getfield 42, 3) := by decide +kernel
theorem dX10_writeMailbox_30 : decode cX10_writeMailbox 30 = .ok (.iload_n 2, 1) := by decide +kernel
theorem dX10_writeMailbox_31 : decode cX10_writeMailbox 31 = .ok (.iload_n 1, 1) := by decide +kernel
theorem dX10_writeMailbox_32 : decode cX10_writeMailbox 32 = .ok (.invokevirtual 234, 3) := by decide +kernel
theorem dX10_writeMailbox_35 : decode cX10_writeMailbox 35 = .ok (.ifCond .ne 9, 3) := by decide +kernel
theorem dX10_writeMailbox_38 : decode cX10_writeMailbox 38 = .ok (.aload_n 0, 1) := by decide +kernel
theorem dX10_writeMailbox_39 : decode cX10_writeMailbox 39 = .ok (.iload_n 2, 1) := by decide +kernel
theorem dX10_writeMailbox_40 : decode cX10_writeMailbox 40 = .ok (.iload_n 1, 1) := by decide +kernel
theorem dX10_writeMailbox_41 : decode cX10_writeMailbox 41 = .ok (.invokevirtual 415, 3) := by decide +kernel
theorem dX10_writeMailbox_44 : decode cX10_writeMailbox 44 = .ok (.iinc 2 1, 3) := by decide +kernel
theorem dX10_writeMailbox_47 : decode cX10_writeMailbox 47 = .ok (.goto (-32), 3) := by decide +kernel
theorem dX10_writeMailbox_50 : decode cX10_writeMailbox 50 = .ok (.aload_n 0, 1) := by decide +kernel
theorem dX10_writeMailbox_51 : decode cX10_writeMailbox 51 = .ok (.getfield 21, 3) := by decide +kernel
theorem dX10_writeMailbox_54 : decode cX10_writeMailbox 54 = .ok (.getfield 57, 3) := by decide +kernel
theorem dX10_writeMailbox_57 : decode cX10_writeMailbox 57 = .ok (.ireturn, 1) := by decide +kernel
theorem dX10_outputByte_0 : decode cX10_outputByte 0 = .ok (.iload_n 1, 1) := by decide +kernel
theorem dX10_outputByte_1 : decode cX10_outputByte 1 = .ok (.ifCond .lt 14, 3) := by decide +kernel
theorem dX10_outputByte_4 : decode cX10_outputByte 4 = .ok (.iload_n 1, 1) := by decide +kernel
theorem dX10_outputByte_5 : decode cX10_outputByte 5 = .ok (.aload_n 0, 1) := by decide +kernel
theorem dX10_outputByte_6 : decode cX10_outputByte 6 = .ok (.getfield 21, 3) := by decide +kernel
theorem dX10_outputByte_9 : decode cX10_outputByte 9 = .ok (.getfield 57, 3) := by decide +kernel
theorem dX10_outputByte_12 : decode cX10_outputByte 12 = .ok (.if_icmp .lt 14, 3) := by decide +kernel
theorem dX10_outputByte_15 : decode cX10_outputByte 15 = .ok (.new 278, 3) := by decide +kernel
theorem dX10_outputByte_18 : decode cX10_outputByte 18 = .ok (.dup, 1) := by decide +kernel
theorem dX10_outputByte_19 : decode cX10_outputByte 19 = .ok (.ldc_w 418, 3) := by decide +kernel
theorem dX10_outputByte_22 : decode cX10_outputByte 22 = .ok (.invokespecial 282, 3) := by decide +kernel
theorem dX10_outputByte_25 : decode cX10_outputByte 25 = .ok (.athrow, 1) := by decide +kernel
theorem dX10_outputByte_26 : decode cX10_outputByte 26 = .ok (.aload_n 0, 1) := by decide +kernel
theorem dX10_outputByte_27 : decode cX10_outputByte 27 = .ok (.getfield 21, 3) := by decide +kernel
theorem dX10_outputByte_30 : decode cX10_outputByte 30 = .ok (.iload_n 1, 1) := by decide +kernel
theorem dX10_outputByte_31 : decode cX10_outputByte 31 = .ok (.invokevirtual 283, 3) := by decide +kernel
theorem dX10_outputByte_34 : decode cX10_outputByte 34 = .ok (.ireturn, 1) := by decide +kernel
theorem dX10_writeReference_0 : decode cX10_writeReference 0 = .ok (.aload_n 0, 1) := by decide +kernel
theorem dX10_writeReference_1 : decode cX10_writeReference 1 = .ok (.getfield 21, 3) := by decide +kernel
theorem dX10_writeReference_4 : decode cX10_writeReference 4 = .ok (.iload_n 1, 1) := by decide +kernel
theorem dX10_writeReference_5 : decode cX10_writeReference 5 = .ok (.invokevirtual 420, 3) := by decide +kernel
theorem dX10_writeReference_8 : decode cX10_writeReference 8 = .ok (.aload_n 0, 1) := by decide +kernel
theorem dX10_writeReference_9 : decode cX10_writeReference 9 = .ok (.getfield 21, 3) := by decide +kernel
theorem dX10_writeReference_12 : decode cX10_writeReference 12 = .ok (.bipush 58, 2) := by decide +kernel
theorem dX10_writeReference_14 : decode cX10_writeReference 14 = .ok (.invokevirtual 423, 3) := by decide +kernel
theorem dX10_writeReference_17 : decode cX10_writeReference 17 = .ok (.aload_n 0, 1) := by decide +kernel
theorem dX10_writeReference_18 : decode cX10_writeReference 18 = .ok (.getfield 21, 3) := by decide +kernel
theorem dX10_writeReference_21 : decode cX10_writeReference 21 = .ok (.aload_n 0, 1) := by decide +kernel
theorem dX10_writeReference_22 : decode cX10_writeReference 22 = .ok (.getfield 42, 3) := by decide +kernel
theorem dX10_writeReference_25 : decode cX10_writeReference 25 = .ok (.getfield 104, 3) := by decide +kernel
theorem dX10_writeReference_28 : decode cX10_writeReference 28 = .ok (.getfield 426, 3) := by decide +kernel
theorem dX10_writeReference_31 : decode cX10_writeReference 31 = .ok (.aload_n 0, 1) := by decide +kernel
theorem dX10_writeReference_32 : decode cX10_writeReference 32 = .ok (.getfield 42, 3) := by decide +kernel
theorem dX10_writeReference_35 : decode cX10_writeReference 35 = .ok (.iload_n 1, 1) := by decide +kernel
theorem dX10_writeReference_36 : decode cX10_writeReference 36 = .ok (.iload_n 2, 1) := by decide +kernel
theorem dX10_writeReference_37 : decode cX10_writeReference 37 = .ok (.invokevirtual 238, 3) := by decide +kernel
theorem dX10_writeReference_40 : decode cX10_writeReference 40 = .ok (.invokevirtual 429, 3) := by decide +kernel
theorem dX10_writeReference_43 : decode cX10_writeReference 43 = .ok (.invokevirtual 433, 3) := by decide +kernel
theorem dX10_writeReference_46 : decode cX10_writeReference 46 = .ok (.aload_n 0, 1) := by decide +kernel
theorem dX10_writeReference_47 : decode cX10_writeReference 47 = .ok (.getfield 21, 3) := by decide +kernel
theorem dX10_writeReference_50 : decode cX10_writeReference 50 = .ok (.bipush 47, 2) := by decide +kernel
theorem dX10_writeReference_52 : decode cX10_writeReference 52 = .ok (.invokevirtual 423, 3) := by decide +kernel
theorem dX10_writeReference_55 : decode cX10_writeReference 55 = .ok (.aload_n 0, 1) := by decide +kernel
theorem dX10_writeReference_56 : decode cX10_writeReference 56 = .ok (.getfield 21, 3) := by decide +kernel
theorem dX10_writeReference_59 : decode cX10_writeReference 59 = .ok (.aload_n 0, 1) := by decide +kernel
theorem dX10_writeReference_60 : decode cX10_writeReference 60 = .ok (.getfield 42, 3) := by decide +kernel
theorem dX10_writeReference_63 : decode cX10_writeReference 63 = .ok (.getfield 241, 3) := by decide +kernel
theorem dX10_writeReference_66 : decode cX10_writeReference 66 = .ok (.iload_n 1, 1) := by decide +kernel
theorem dX10_writeReference_67 : decode cX10_writeReference 67 = .ok (.bipush 10, 2) := by decide +kernel
theorem dX10_writeReference_69 : decode cX10_writeReference 69 = .ok (.imul, 1) := by decide +kernel
theorem dX10_writeReference_70 : decode cX10_writeReference 70 = .ok (.iload_n 2, 1) := by decide +kernel
theorem dX10_writeReference_71 : decode cX10_writeReference 71 = .ok (.iadd, 1) := by decide +kernel
theorem dX10_writeReference_72 : decode cX10_writeReference 72 = .ok (.invokestatic 142, 3) := by decide +kernel
theorem dX10_writeReference_75 : decode cX10_writeReference 75 = .ok (.invokevirtual 420, 3) := by decide +kernel
theorem dX10_writeReference_78 : decode cX10_writeReference 78 = .ok (.aload_n 0, 1) := by decide +kernel
theorem dX10_writeReference_79 : decode cX10_writeReference 79 = .ok (.getfield 21, 3) := by decide +kernel
theorem dX10_writeReference_82 : decode cX10_writeReference 82 = .ok (.bipush 10, 2) := by decide +kernel
theorem dX10_writeReference_84 : decode cX10_writeReference 84 = .ok (.invokevirtual 423, 3) := by decide +kernel
theorem dX10_writeReference_87 : decode cX10_writeReference 87 = .ok (.return_, 1) := by decide +kernel
theorem dX10_remember_0 : decode cX10_remember 0 = .ok (.aload_n 0, 1) := by decide +kernel
theorem dX10_remember_1 : decode cX10_remember 1 = .ok (.getfield 402, 3) := by decide +kernel
theorem dX10_remember_4 : decode cX10_remember 4 = .ok (.bipush 6, 2) := by decide +kernel
theorem dX10_remember_6 : decode cX10_remember 6 = .ok (.if_icmp .lt 26, 3) := by decide +kernel
theorem dX10_remember_9 : decode cX10_remember 9 = .ok (.aload_n 0, 1) := by decide +kernel
theorem dX10_remember_10 : decode cX10_remember 10 = .ok (.aload_n 0, 1) := by decide +kernel
theorem dX10_remember_11 : decode cX10_remember 11 = .ok (.getfield 437, 3) := by decide +kernel
theorem dX10_remember_14 : decode cX10_remember 14 = .ok (.iconst 1, 1) := by decide +kernel
theorem dX10_remember_15 : decode cX10_remember 15 = .ok (.iadd, 1) := by decide +kernel
theorem dX10_remember_16 : decode cX10_remember 16 = .ok (.bipush 6, 2) := by decide +kernel
theorem dX10_remember_18 : decode cX10_remember 18 = .ok (.irem, 1) := by decide +kernel
theorem dX10_remember_19 : decode cX10_remember 19 = .ok (.putfield 437, 3) := by decide +kernel
theorem dX10_remember_22 : decode cX10_remember 22 = .ok (.aload_n 0, 1) := by decide +kernel
theorem dX10_remember_23 : decode cX10_remember 23 = .ok (.dup, 1) := by decide +kernel
theorem dX10_remember_24 : decode cX10_remember 24 = .ok (.getfield 402, 3) := by decide +kernel
theorem dX10_remember_27 : decode cX10_remember 27 = .ok (.iconst 1, 1) := by decide +kernel
theorem dX10_remember_28 : decode cX10_remember 28 = .ok (.isub, 1) := by decide +kernel
theorem dX10_remember_29 : decode cX10_remember 29 = .ok (.putfield 402, 3) := by decide +kernel
theorem dX10_remember_32 : decode cX10_remember 32 = .ok (.aload_n 0, 1) := by decide +kernel
theorem dX10_remember_33 : decode cX10_remember 33 = .ok (.aload_n 0, 1) := by decide +kernel
theorem dX10_remember_34 : decode cX10_remember 34 = .ok (.getfield 402, 3) := by decide +kernel
theorem dX10_remember_37 : decode cX10_remember 37 = .ok (.invokevirtual 407, 3) := by decide +kernel
theorem dX10_remember_40 : decode cX10_remember 40 = .ok (.astore_n 1, 1) := by decide +kernel
theorem dX10_remember_41 : decode cX10_remember 41 = .ok (.aload_n 1, 1) := by decide +kernel
theorem dX10_remember_42 : decode cX10_remember 42 = .ok (.ifnull 21, 3) := by decide +kernel
theorem dX10_remember_45 : decode cX10_remember 45 = .ok (.aload_n 1, 1) := by decide +kernel
theorem dX10_remember_46 : decode cX10_remember 46 = .ok (.aload_n 0, 1) := by decide +kernel
theorem dX10_remember_47 : decode cX10_remember 47 = .ok (.getfield 42, 3) := by decide +kernel
theorem dX10_remember_50 : decode cX10_remember 50 = .ok (.invokevirtual 411, 3) := by decide +kernel
theorem dX10_remember_53 : decode cX10_remember 53 = .ok (.aload_n 0, 1) := by decide +kernel
theorem dX10_remember_54 : decode cX10_remember 54 = .ok (.dup, 1) := by decide +kernel
theorem dX10_remember_55 : decode cX10_remember 55 = .ok (.getfield 402, 3) := by decide +kernel
theorem dX10_remember_58 : decode cX10_remember 58 = .ok (.iconst 1, 1) := by decide +kernel
theorem dX10_remember_59 : decode cX10_remember 59 = .ok (.iadd, 1) := by decide +kernel
theorem dX10_remember_60 : decode cX10_remember 60 = .ok (.putfield 402, 3) := by decide +kernel
theorem dX10_remember_63 : decode cX10_remember 63 = .ok (.return_, 1) := by decide +kernel
theorem dX10_pastAt_0 : decode cX10_pastAt 0 = .ok (.aload_n 0, 1) := by decide +kernel
theorem dX10_pastAt_1 : decode cX10_pastAt 1 = .ok (.getfield 437, 3) := by decide +kernel
theorem dX10_pastAt_4 : decode cX10_pastAt 4 = .ok (.iload_n 1, 1) := by decide +kernel
theorem dX10_pastAt_5 : decode cX10_pastAt 5 = .ok (.iadd, 1) := by decide +kernel
theorem dX10_pastAt_6 : decode cX10_pastAt 6 = .ok (.bipush 6, 2) := by decide +kernel
theorem dX10_pastAt_8 : decode cX10_pastAt 8 = .ok (.irem, 1) := by decide +kernel
theorem dX10_pastAt_9 : decode cX10_pastAt 9 = .ok (.istore_n 2, 1) := by decide +kernel
theorem dX10_pastAt_10 : decode cX10_pastAt 10 = .ok (.iload_n 2, 1) := by decide +kernel
theorem dX10_pastAt_11 : decode cX10_pastAt 11 = .ok (.ifCond .lt 21, 3) := by decide +kernel
theorem dX10_pastAt_14 : decode cX10_pastAt 14 = .ok (.iload_n 2, 1) := by decide +kernel
theorem dX10_pastAt_15 : decode cX10_pastAt 15 = .ok (.aload_n 0, 1) := by decide +kernel
theorem dX10_pastAt_16 : decode cX10_pastAt 16 = .ok (.getfield 49, 3) := by decide +kernel
theorem dX10_pastAt_19 : decode cX10_pastAt 19 = .ok (.arraylength, 1) := by decide +kernel
theorem dX10_pastAt_20 : decode cX10_pastAt 20 = .ok (.if_icmp .ge 12, 3) := by decide +kernel
theorem dX10_pastAt_23 : decode cX10_pastAt 23 = .ok (.aload_n 0, 1) := by decide +kernel
theorem dX10_pastAt_24 : decode cX10_pastAt 24 = .ok (.getfield 49, 3) := by decide +kernel
theorem dX10_pastAt_27 : decode cX10_pastAt 27 = .ok (.iload_n 2, 1) := by decide +kernel
theorem dX10_pastAt_28 : decode cX10_pastAt 28 = .ok (.aaload, 1) := by decide +kernel
theorem dX10_pastAt_29 : decode cX10_pastAt 29 = .ok (.goto 4, 3) := by decide +kernel
theorem dX10_pastAt_32 : decode cX10_pastAt 32 = .ok (.aconst_null, 1) := by decide +kernel
theorem dX10_pastAt_33 : decode cX10_pastAt 33 = .ok (.areturn, 1) := by decide +kernel
theorem dX10_lookAhead_0 : decode cX10_lookAhead 0 = .ok (.aload_n 0, 1) := by decide +kernel
theorem dX10_lookAhead_1 : decode cX10_lookAhead 1 = .ok (.getfield 46, 3) := by decide +kernel
theorem dX10_lookAhead_4 : decode cX10_lookAhead 4 = .ok (.aload_n 0, 1) := by decide +kernel
theorem dX10_lookAhead_5 : decode cX10_lookAhead 5 = .ok (.getfield 42, 3) := by decide +kernel
theorem dX10_lookAhead_8 : decode cX10_lookAhead 8 = .ok (.invokevirtual 411, 3) := by decide +kernel
theorem dX10_lookAhead_11 : decode cX10_lookAhead 11 = .ok (.aload_n 0, 1) := by decide +kernel
theorem dX10_lookAhead_12 : decode cX10_lookAhead 12 = .ok (.getfield 46, 3) := by decide +kernel
theorem dX10_lookAhead_15 : decode cX10_lookAhead 15 = .ok (.invokevirtual 364, 3) := by decide +kernel
theorem dX10_lookAhead_18 : decode cX10_lookAhead 18 = .ok (.return_, 1) := by decide +kernel
theorem dX10_needKind_0 : decode cX10_needKind 0 = .ok (.iload_n 0, 1) := by decide +kernel
theorem dX10_needKind_1 : decode cX10_needKind 1 = .ok (.ifCond .lt 8, 3) := by decide +kernel
theorem dX10_needKind_4 : decode cX10_needKind 4 = .ok (.iload_n 0, 1) := by decide +kernel
theorem dX10_needKind_5 : decode cX10_needKind 5 = .ok (.iconst 3, 1) := by decide +kernel
theorem dX10_needKind_6 : decode cX10_needKind 6 = .ok (.if_icmp .le 14, 3) := by decide +kernel
theorem dX10_needKind_9 : decode cX10_needKind 9 = .ok (.new 70, 3) := by decide +kernel
theorem dX10_needKind_12 : decode cX10_needKind 12 = .ok (.dup, 1) := by decide +kernel
theorem dX10_needKind_13 : decode cX10_needKind 13 = .ok (.ldc_w 400, 3) := by decide +kernel
theorem dX10_needKind_16 : decode cX10_needKind 16 = .ok (.invokespecial 74, 3) := by decide +kernel
theorem dX10_needKind_19 : decode cX10_needKind 19 = .ok (.athrow, 1) := by decide +kernel
theorem dX10_needKind_20 : decode cX10_needKind 20 = .ok (.return_, 1) := by decide +kernel
theorem dX10_needWhat_0 : decode cX10_needWhat 0 = .ok (.iload_n 0, 1) := by decide +kernel
theorem dX10_needWhat_1 : decode cX10_needWhat 1 = .ok (.ifCond .lt 8, 3) := by decide +kernel
theorem dX10_needWhat_4 : decode cX10_needWhat 4 = .ok (.iload_n 0, 1) := by decide +kernel
theorem dX10_needWhat_5 : decode cX10_needWhat 5 = .ok (.iload_n 1, 1) := by decide +kernel
theorem dX10_needWhat_6 : decode cX10_needWhat 6 = .ok (.if_icmp .le 14, 3) := by decide +kernel
theorem dX10_needWhat_9 : decode cX10_needWhat 9 = .ok (.new 70, 3) := by decide +kernel
theorem dX10_needWhat_12 : decode cX10_needWhat 12 = .ok (.dup, 1) := by decide +kernel
theorem dX10_needWhat_13 : decode cX10_needWhat 13 = .ok (.ldc_w 440, 3) := by decide +kernel
theorem dX10_needWhat_16 : decode cX10_needWhat 16 = .ok (.invokespecial 74, 3) := by decide +kernel
theorem dX10_needWhat_19 : decode cX10_needWhat 19 = .ok (.athrow, 1) := by decide +kernel
theorem dX10_needWhat_20 : decode cX10_needWhat 20 = .ok (.return_, 1) := by decide +kernel
theorem dX10_needDaysAhead_0 : decode cX10_needDaysAhead 0 = .ok (.iload_n 0, 1) := by decide +kernel
theorem dX10_needDaysAhead_1 : decode cX10_needDaysAhead 1 = .ok (.ifCond .lt 10, 3) := by decide +kernel
theorem dX10_needDaysAhead_4 : decode cX10_needDaysAhead 4 = .ok (.iload_n 0, 1) := by decide +kernel
theorem dX10_needDaysAhead_5 : decode cX10_needDaysAhead 5 = .ok (.sipush 2000, 3) := by decide +kernel
theorem dX10_needDaysAhead_8 : decode cX10_needDaysAhead 8 = .ok (.if_icmp .le 14, 3) := by decide +kernel
theorem dX10_needDaysAhead_11 : decode cX10_needDaysAhead 11 = .ok (.new 70, 3) := by decide +kernel
theorem dX10_needDaysAhead_14 : decode cX10_needDaysAhead 14 = .ok (.dup, 1) := by decide +kernel
theorem dX10_needDaysAhead_15 : decode cX10_needDaysAhead 15 = .ok (.ldc_w 360, 3) := by decide +kernel
theorem dX10_needDaysAhead_18 : decode cX10_needDaysAhead 18 = .ok (.invokespecial 74, 3) := by decide +kernel
theorem dX10_needDaysAhead_21 : decode cX10_needDaysAhead 21 = .ok (.athrow, 1) := by decide +kernel
theorem dX10_needDaysAhead_22 : decode cX10_needDaysAhead 22 = .ok (.return_, 1) := by decide +kernel
theorem dX10_needClass_0 : decode cX10_needClass 0 = .ok (.aload_n 0, 1) := by decide +kernel
theorem dX10_needClass_1 : decode cX10_needClass 1 = .ok (.getfield 42, 3) := by decide +kernel
theorem dX10_needClass_4 : decode cX10_needClass 4 = .ok (.getfield 104, 3) := by decide +kernel
theorem dX10_needClass_7 : decode cX10_needClass 7 = .ok (.getfield 426, 3) := by decide +kernel
theorem dX10_needClass_10 : decode cX10_needClass 10 = .ok (.iload_n 1, 1) := by decide +kernel
theorem dX10_needClass_11 : decode cX10_needClass 11 = .ok (.invokevirtual 130, 3) := by decide +kernel
theorem dX10_needClass_14 : decode cX10_needClass 14 = .ok (.ifCond .ne 14, 3) := by decide +kernel
theorem dX10_needClass_17 : decode cX10_needClass 17 = .ok (.new 134, 3) := by decide +kernel
theorem dX10_needClass_20 : decode cX10_needClass 20 = .ok (.dup, 1) := by decide +kernel
theorem dX10_needClass_21 : decode cX10_needClass 21 = .ok (.ldc_w 442, 3) := by decide +kernel
theorem dX10_needClass_24 : decode cX10_needClass 24 = .ok (.invokespecial 138, 3) := by decide +kernel
theorem dX10_needClass_27 : decode cX10_needClass 27 = .ok (.athrow, 1) := by decide +kernel
theorem dX10_needClass_28 : decode cX10_needClass 28 = .ok (.return_, 1) := by decide +kernel
theorem dX10_needUser_0 : decode cX10_needUser 0 = .ok (.aload_n 0, 1) := by decide +kernel
theorem dX10_needUser_1 : decode cX10_needUser 1 = .ok (.getfield 42, 3) := by decide +kernel
theorem dX10_needUser_4 : decode cX10_needUser 4 = .ok (.getfield 104, 3) := by decide +kernel
theorem dX10_needUser_7 : decode cX10_needUser 7 = .ok (.getfield 105, 3) := by decide +kernel
theorem dX10_needUser_10 : decode cX10_needUser 10 = .ok (.iload_n 1, 1) := by decide +kernel
theorem dX10_needUser_11 : decode cX10_needUser 11 = .ok (.invokevirtual 130, 3) := by decide +kernel
theorem dX10_needUser_14 : decode cX10_needUser 14 = .ok (.ifCond .ne 14, 3) := by decide +kernel
theorem dX10_needUser_17 : decode cX10_needUser 17 = .ok (.new 134, 3) := by decide +kernel
theorem dX10_needUser_20 : decode cX10_needUser 20 = .ok (.dup, 1) := by decide +kernel
theorem dX10_needUser_21 : decode cX10_needUser 21 = .ok (.ldc_w 444, 3) := by decide +kernel
theorem dX10_needUser_24 : decode cX10_needUser 24 = .ok (.invokespecial 138, 3) := by decide +kernel
theorem dX10_needUser_27 : decode cX10_needUser 27 = .ok (.athrow, 1) := by decide +kernel
theorem dX10_needUser_28 : decode cX10_needUser 28 = .ok (.return_, 1) := by decide +kernel
theorem dX10_needHold_0 : decode cX10_needHold 0 = .ok (.aload_n 0, 1) := by decide +kernel
theorem dX10_needHold_1 : decode cX10_needHold 1 = .ok (.getfield 42, 3) := by decide +kernel
theorem dX10_needHold_4 : decode cX10_needHold 4 = .ok (.getfield 104, 3) := by decide +kernel
theorem dX10_needHold_7 : decode cX10_needHold 7 = .ok (.getfield 446, 3) := by decide +kernel
theorem dX10_needHold_10 : decode cX10_needHold 10 = .ok (.iload_n 1, 1) := by decide +kernel
theorem dX10_needHold_11 : decode cX10_needHold 11 = .ok (.invokevirtual 130, 3) := by decide +kernel
theorem dX10_needHold_14 : decode cX10_needHold 14 = .ok (.ifCond .ne 14, 3) := by decide +kernel
theorem dX10_needHold_17 : decode cX10_needHold 17 = .ok (.new 134, 3) := by decide +kernel
theorem dX10_needHold_20 : decode cX10_needHold 20 = .ok (.dup, 1) := by decide +kernel
theorem dX10_needHold_21 : decode cX10_needHold 21 = .ok (.ldc_w 449, 3) := by decide +kernel
theorem dX10_needHold_24 : decode cX10_needHold 24 = .ok (.invokespecial 138, 3) := by decide +kernel
theorem dX10_needHold_27 : decode cX10_needHold 27 = .ok (.athrow, 1) := by decide +kernel
theorem dX10_needHold_28 : decode cX10_needHold 28 = .ok (.return_, 1) := by decide +kernel
theorem dX10_needMessage_0 : decode cX10_needMessage 0 = .ok (.iload_n 1, 1) := by decide +kernel
theorem dX10_needMessage_1 : decode cX10_needMessage 1 = .ok (.ifCond .lt 14, 3) := by decide +kernel
theorem dX10_needMessage_4 : decode cX10_needMessage 4 = .ok (.iload_n 1, 1) := by decide +kernel
theorem dX10_needMessage_5 : decode cX10_needMessage 5 = .ok (.aload_n 0, 1) := by decide +kernel
theorem dX10_needMessage_6 : decode cX10_needMessage 6 = .ok (.getfield 42, 3) := by decide +kernel
theorem dX10_needMessage_9 : decode cX10_needMessage 9 = .ok (.getfield 183, 3) := by decide +kernel
theorem dX10_needMessage_12 : decode cX10_needMessage 12 = .ok (.if_icmp .lt 14, 3) := by decide +kernel
theorem dX10_needMessage_15 : decode cX10_needMessage 15 = .ok (.new 134, 3) := by decide +kernel
theorem dX10_needMessage_18 : decode cX10_needMessage 18 = .ok (.dup, 1) := by decide +kernel
theorem dX10_needMessage_19 : decode cX10_needMessage 19 = .ok (.ldc_w 451, 3) := by decide +kernel
theorem dX10_needMessage_22 : decode cX10_needMessage 22 = .ok (.invokespecial 138, 3) := by decide +kernel
theorem dX10_needMessage_25 : decode cX10_needMessage 25 = .ok (.athrow, 1) := by decide +kernel
theorem dX10_needMessage_26 : decode cX10_needMessage 26 = .ok (.return_, 1) := by decide +kernel
theorem dX10_needReference_0 : decode cX10_needReference 0 = .ok (.aload_n 0, 1) := by decide +kernel
theorem dX10_needReference_1 : decode cX10_needReference 1 = .ok (.getfield 42, 3) := by decide +kernel
theorem dX10_needReference_4 : decode cX10_needReference 4 = .ok (.iload_n 1, 1) := by decide +kernel
theorem dX10_needReference_5 : decode cX10_needReference 5 = .ok (.iload_n 2, 1) := by decide +kernel
theorem dX10_needReference_6 : decode cX10_needReference 6 = .ok (.invokevirtual 234, 3) := by decide +kernel
theorem dX10_needReference_9 : decode cX10_needReference 9 = .ok (.iconst (-1), 1) := by decide +kernel
theorem dX10_needReference_10 : decode cX10_needReference 10 = .ok (.if_icmp .ne 14, 3) := by decide +kernel
theorem dX10_needReference_13 : decode cX10_needReference 13 = .ok (.new 134, 3) := by decide +kernel
theorem dX10_needReference_16 : decode cX10_needReference 16 = .ok (.dup, 1) := by decide +kernel
theorem dX10_needReference_17 : decode cX10_needReference 17 = .ok (.ldc_w 453, 3) := by decide +kernel
theorem dX10_needReference_20 : decode cX10_needReference 20 = .ok (.invokespecial 138, 3) := by decide +kernel
theorem dX10_needReference_23 : decode cX10_needReference 23 = .ok (.athrow, 1) := by decide +kernel
theorem dX10_needReference_24 : decode cX10_needReference 24 = .ok (.return_, 1) := by decide +kernel
theorem dX10_needLive_0 : decode cX10_needLive 0 = .ok (.aload_n 0, 1) := by decide +kernel
theorem dX10_needLive_1 : decode cX10_needLive 1 = .ok (.getfield 42, 3) := by decide +kernel
theorem dX10_needLive_4 : decode cX10_needLive 4 = .ok (.iload_n 1, 1) := by decide +kernel
theorem dX10_needLive_5 : decode cX10_needLive 5 = .ok (.iload_n 2, 1) := by decide +kernel
theorem dX10_needLive_6 : decode cX10_needLive 6 = .ok (.invokevirtual 234, 3) := by decide +kernel
theorem dX10_needLive_9 : decode cX10_needLive 9 = .ok (.ifCond .eq 14, 3) := by decide +kernel
theorem dX10_needLive_12 : decode cX10_needLive 12 = .ok (.new 60, 3) := by decide +kernel
theorem dX10_needLive_15 : decode cX10_needLive 15 = .ok (.dup, 1) := by decide +kernel
theorem dX10_needLive_16 : decode cX10_needLive 16 = .ok (.ldc_w 455, 3) := by decide +kernel
theorem dX10_needLive_19 : decode cX10_needLive 19 = .ok (.invokespecial 64, 3) := by decide +kernel
theorem dX10_needLive_22 : decode cX10_needLive 22 = .ok (.athrow, 1) := by decide +kernel
theorem dX10_needLive_23 : decode cX10_needLive 23 = .ok (.return_, 1) := by decide +kernel
theorem dX10_needPart_0 : decode cX10_needPart 0 = .ok (.aload_n 0, 1) := by decide +kernel
theorem dX10_needPart_1 : decode cX10_needPart 1 = .ok (.getfield 42, 3) := by decide +kernel
theorem dX10_needPart_4 : decode cX10_needPart 4 = .ok (.getfield 186, 3) := by decide +kernel
theorem dX10_needPart_7 : decode cX10_needPart 7 = .ok (.iload_n 1, 1) := by decide +kernel
theorem dX10_needPart_8 : decode cX10_needPart 8 = .ok (.invokevirtual 376, 3) := by decide +kernel
theorem dX10_needPart_11 : decode cX10_needPart 11 = .ok (.ifCond .ne 14, 3) := by decide +kernel
theorem dX10_needPart_14 : decode cX10_needPart 14 = .ok (.new 134, 3) := by decide +kernel
theorem dX10_needPart_17 : decode cX10_needPart 17 = .ok (.dup, 1) := by decide +kernel
theorem dX10_needPart_18 : decode cX10_needPart 18 = .ok (.ldc_w 257, 3) := by decide +kernel
theorem dX10_needPart_21 : decode cX10_needPart 21 = .ok (.invokespecial 138, 3) := by decide +kernel
theorem dX10_needPart_24 : decode cX10_needPart 24 = .ok (.athrow, 1) := by decide +kernel
theorem dX10_needPart_25 : decode cX10_needPart 25 = .ok (.return_, 1) := by decide +kernel
theorem dX10_at_0 : decode cX10_at 0 = .ok (.iload_n 1, 1) := by decide +kernel
theorem dX10_at_1 : decode cX10_at 1 = .ok (.ifCond .lt 15, 3) := by decide +kernel
theorem dX10_at_4 : decode cX10_at 4 = .ok (.iload_n 1, 1) := by decide +kernel
theorem dX10_at_5 : decode cX10_at 5 = .ok (.aload_n 0, 1) := by decide +kernel
theorem dX10_at_6 : decode cX10_at 6 = .ok (.arraylength, 1) := by decide +kernel
theorem dX10_at_7 : decode cX10_at 7 = .ok (.if_icmp .ge 9, 3) := by decide +kernel
theorem dX10_at_10 : decode cX10_at 10 = .ok (.aload_n 0, 1) := by decide +kernel
theorem dX10_at_11 : decode cX10_at 11 = .ok (.iload_n 1, 1) := by decide +kernel
theorem dX10_at_12 : decode cX10_at 12 = .ok (.iaload, 1) := by decide +kernel
theorem dX10_at_13 : decode cX10_at 13 = .ok (.goto 4, 3) := by decide +kernel
theorem dX10_at_16 : decode cX10_at 16 = .ok (.iconst (-1), 1) := by decide +kernel
theorem dX10_at_17 : decode cX10_at 17 = .ok (.ireturn, 1) := by decide +kernel
theorem dX10_put_0 : decode cX10_put 0 = .ok (.iload_n 1, 1) := by decide +kernel
theorem dX10_put_1 : decode cX10_put 1 = .ok (.ifCond .lt 13, 3) := by decide +kernel
theorem dX10_put_4 : decode cX10_put 4 = .ok (.iload_n 1, 1) := by decide +kernel
theorem dX10_put_5 : decode cX10_put 5 = .ok (.aload_n 0, 1) := by decide +kernel
theorem dX10_put_6 : decode cX10_put 6 = .ok (.arraylength, 1) := by decide +kernel
theorem dX10_put_7 : decode cX10_put 7 = .ok (.if_icmp .ge 7, 3) := by decide +kernel
theorem dX10_put_10 : decode cX10_put 10 = .ok (.aload_n 0, 1) := by decide +kernel
theorem dX10_put_11 : decode cX10_put 11 = .ok (.iload_n 1, 1) := by decide +kernel
theorem dX10_put_12 : decode cX10_put 12 = .ok (.iload_n 2, 1) := by decide +kernel
theorem dX10_put_13 : decode cX10_put 13 = .ok (.iastore, 1) := by decide +kernel
theorem dX10_put_14 : decode cX10_put 14 = .ok (.return_, 1) := by decide +kernel
theorem dX10_copyRow_0 : decode cX10_copyRow 0 = .ok (.aload_n 0, 1) := by decide +kernel
theorem dX10_copyRow_1 : decode cX10_copyRow 1 = .ok (.iconst 0, 1) := by decide +kernel
theorem dX10_copyRow_2 : decode cX10_copyRow 2 = .ok (.aload_n 1, 1) := by decide +kernel
theorem dX10_copyRow_3 : decode cX10_copyRow 3 = .ok (.iconst 0, 1) := by decide +kernel
theorem dX10_copyRow_4 : decode cX10_copyRow 4 = .ok (.aload_n 0, 1) := by decide +kernel
theorem dX10_copyRow_5 : decode cX10_copyRow 5 = .ok (.arraylength, 1) := by decide +kernel
theorem dX10_copyRow_6 : decode cX10_copyRow 6 = .ok (.aload_n 1, 1) := by decide +kernel
theorem dX10_copyRow_7 : decode cX10_copyRow 7 = .ok (.arraylength, 1) := by decide +kernel
theorem dX10_copyRow_8 : decode cX10_copyRow 8 = .ok (.invokestatic 457, 3) := by decide +kernel
theorem dX10_copyRow_11 : decode cX10_copyRow 11 = .ok (.invokestatic 462, 3) := by decide +kernel
theorem dX10_copyRow_14 : decode cX10_copyRow 14 = .ok (.return_, 1) := by decide +kernel
theorem dX10_hasBit_0 : decode cX10_hasBit 0 = .ok (.iload_n 0, 1) := by decide +kernel
theorem dX10_hasBit_1 : decode cX10_hasBit 1 = .ok (.iload_n 1, 1) := by decide +kernel
theorem dX10_hasBit_2 : decode cX10_hasBit 2 = .ok (.ishr, 1) := by decide +kernel
theorem dX10_hasBit_3 : decode cX10_hasBit 3 = .ok (.iconst 1, 1) := by decide +kernel
theorem dX10_hasBit_4 : decode cX10_hasBit 4 = .ok (.iand, 1) := by decide +kernel
theorem dX10_hasBit_5 : decode cX10_hasBit 5 = .ok (.ifCond .eq 7, 3) := by decide +kernel
theorem dX10_hasBit_8 : decode cX10_hasBit 8 = .ok (.iconst 1, 1) := by decide +kernel
theorem dX10_hasBit_9 : decode cX10_hasBit 9 = .ok (.goto 4, 3) := by decide +kernel
theorem dX10_hasBit_12 : decode cX10_hasBit 12 = .ok (.iconst 0, 1) := by decide +kernel
theorem dX10_hasBit_13 : decode cX10_hasBit 13 = .ok (.ireturn, 1) := by decide +kernel
theorem dX10_isLetter_0 : decode cX10_isLetter 0 = .ok (.iload_n 0, 1) := by decide +kernel
theorem dX10_isLetter_1 : decode cX10_isLetter 1 = .ok (.bipush 97, 2) := by decide +kernel
theorem dX10_isLetter_3 : decode cX10_isLetter 3 = .ok (.if_icmp .lt 13, 3) := by decide +kernel
theorem dX10_isLetter_6 : decode cX10_isLetter 6 = .ok (.iload_n 0, 1) := by decide +kernel
theorem dX10_isLetter_7 : decode cX10_isLetter 7 = .ok (.bipush 122, 2) := by decide +kernel
theorem dX10_isLetter_9 : decode cX10_isLetter 9 = .ok (.if_icmp .gt 7, 3) := by decide +kernel
theorem dX10_isLetter_12 : decode cX10_isLetter 12 = .ok (.iconst 1, 1) := by decide +kernel
theorem dX10_isLetter_13 : decode cX10_isLetter 13 = .ok (.goto 4, 3) := by decide +kernel
theorem dX10_isLetter_16 : decode cX10_isLetter 16 = .ok (.iconst 0, 1) := by decide +kernel
theorem dX10_isLetter_17 : decode cX10_isLetter 17 = .ok (.ireturn, 1) := by decide +kernel
theorem dX10_isDigit_0 : decode cX10_isDigit 0 = .ok (.iload_n 0, 1) := by decide +kernel
theorem dX10_isDigit_1 : decode cX10_isDigit 1 = .ok (.bipush 48, 2) := by decide +kernel
theorem dX10_isDigit_3 : decode cX10_isDigit 3 = .ok (.if_icmp .lt 13, 3) := by decide +kernel
theorem dX10_isDigit_6 : decode cX10_isDigit 6 = .ok (.iload_n 0, 1) := by decide +kernel
theorem dX10_isDigit_7 : decode cX10_isDigit 7 = .ok (.bipush 57, 2) := by decide +kernel
theorem dX10_isDigit_9 : decode cX10_isDigit 9 = .ok (.if_icmp .gt 7, 3) := by decide +kernel
theorem dX10_isDigit_12 : decode cX10_isDigit 12 = .ok (.iconst 1, 1) := by decide +kernel
theorem dX10_isDigit_13 : decode cX10_isDigit 13 = .ok (.goto 4, 3) := by decide +kernel
theorem dX10_isDigit_16 : decode cX10_isDigit 16 = .ok (.iconst 0, 1) := by decide +kernel
theorem dX10_isDigit_17 : decode cX10_isDigit 17 = .ok (.ireturn, 1) := by decide +kernel
theorem dX10_withLetter_0 : decode cX10_withLetter 0 = .ok (.lload_n 0, 1) := by decide +kernel
theorem dX10_withLetter_1 : decode cX10_withLetter 1 = .ok (.ldc2_w 468, 3) := by decide +kernel
theorem dX10_withLetter_4 : decode cX10_withLetter 4 = .ok (.lcmp, 1) := by decide +kernel
theorem dX10_withLetter_5 : decode cX10_withLetter 5 = .ok (.ifCond .eq 11, 3) := by decide +kernel
theorem dX10_withLetter_8 : decode cX10_withLetter 8 = .ok (.lload_n 0, 1) := by decide +kernel
theorem dX10_withLetter_9 : decode cX10_withLetter 9 = .ok (.ldc2_w 470, 3) := by decide +kernel
theorem dX10_withLetter_12 : decode cX10_withLetter 12 = .ok (.lcmp, 1) := by decide +kernel
theorem dX10_withLetter_13 : decode cX10_withLetter 13 = .ok (.ifCond .lt 7, 3) := by decide +kernel
theorem dX10_withLetter_16 : decode cX10_withLetter 16 = .ok (.ldc2_w 468, 3) := by decide +kernel
theorem dX10_withLetter_19 : decode cX10_withLetter 19 = .ok (.lreturn, 1) := by decide +kernel
theorem dX10_withLetter_20 : decode cX10_withLetter 20 = .ok (.lload_n 0, 1) := by decide +kernel
theorem dX10_withLetter_21 : decode cX10_withLetter 21 = .ok (.ldc2_w 472, 3) := by decide +kernel
theorem dX10_withLetter_24 : decode cX10_withLetter 24 = .ok (.lmul, 1) := by decide +kernel
theorem dX10_withLetter_25 : decode cX10_withLetter 25 = .ok (.iload_n 2, 1) := by decide +kernel
theorem dX10_withLetter_26 : decode cX10_withLetter 26 = .ok (.bipush 97, 2) := by decide +kernel
theorem dX10_withLetter_28 : decode cX10_withLetter 28 = .ok (.isub, 1) := by decide +kernel
theorem dX10_withLetter_29 : decode cX10_withLetter 29 = .ok (.iconst 1, 1) := by decide +kernel
theorem dX10_withLetter_30 : decode cX10_withLetter 30 = .ok (.iadd, 1) := by decide +kernel
theorem dX10_withLetter_31 : decode cX10_withLetter 31 = .ok (.i2l, 1) := by decide +kernel
theorem dX10_withLetter_32 : decode cX10_withLetter 32 = .ok (.ladd, 1) := by decide +kernel
theorem dX10_withLetter_33 : decode cX10_withLetter 33 = .ok (.lreturn, 1) := by decide +kernel
theorem dX11_thrown_0 : decode cX11_thrown 0 = .ok (.aload_n 0, 1) := by decide +kernel
theorem dX11_thrown_1 : decode cX11_thrown 1 = .ok (.getfield 3, 3) := by decide +kernel
theorem dX11_thrown_4 : decode cX11_thrown 4 = .ok (.ireturn, 1) := by decide +kernel
theorem dX11_in_0 : decode cX11_in 0 = .ok (.lload_n 0, 1) := by decide +kernel
theorem dX11_in_1 : decode cX11_in 1 = .ok (.lload_n 2, 1) := by decide +kernel
theorem dX11_in_2 : decode cX11_in 2 = .ok (.lcmp, 1) := by decide +kernel
theorem dX11_in_3 : decode cX11_in 3 = .ok (.ifCond .lt 14, 3) := by decide +kernel
theorem dX11_in_6 : decode cX11_in 6 = .ok (.lload_n 0, 1) := by decide +kernel
theorem dX11_in_7 : decode cX11_in 7 = .ok (.lload 4, 2) := by decide +kernel
theorem dX11_in_9 : decode cX11_in 9 = .ok (.lcmp, 1) := by decide +kernel
theorem dX11_in_10 : decode cX11_in 10 = .ok (.ifCond .gt 7, 3) := by decide +kernel
theorem dX11_in_13 : decode cX11_in 13 = .ok (.iconst 1, 1) := by decide +kernel
theorem dX11_in_14 : decode cX11_in 14 = .ok (.goto 4, 3) := by decide +kernel
theorem dX11_in_17 : decode cX11_in 17 = .ok (.iconst 0, 1) := by decide +kernel
theorem dX11_in_18 : decode cX11_in 18 = .ok (.ireturn, 1) := by decide +kernel
theorem dX11_passes3_0 : decode cX11_passes3 0 = .ok (.aload_n 0, 1) := by decide +kernel
theorem dX11_passes3_1 : decode cX11_passes3 1 = .ok (.iload_n 1, 1) := by decide +kernel
theorem dX11_passes3_2 : decode cX11_passes3 2 = .ok (.ifCond .ne 7, 3) := by decide +kernel
theorem dX11_passes3_5 : decode cX11_passes3 5 = .ok (.iconst 1, 1) := by decide +kernel
theorem dX11_passes3_6 : decode cX11_passes3 6 = .ok (.goto 20, 3) := by decide +kernel
theorem dX11_passes3_9 : decode cX11_passes3 9 = .ok (.iload_n 2, 1) := by decide +kernel
theorem dX11_passes3_10 : decode cX11_passes3 10 = .ok (.ifCond .ne 7, 3) := by decide +kernel
theorem dX11_passes3_13 : decode cX11_passes3 13 = .ok (.iconst 2, 1) := by decide +kernel
theorem dX11_passes3_14 : decode cX11_passes3 14 = .ok (.goto 12, 3) := by decide +kernel
theorem dX11_passes3_17 : decode cX11_passes3 17 = .ok (.iload_n 3, 1) := by decide +kernel
theorem dX11_passes3_18 : decode cX11_passes3 18 = .ok (.ifCond .ne 7, 3) := by decide +kernel
theorem dX11_passes3_21 : decode cX11_passes3 21 = .ok (.iconst 3, 1) := by decide +kernel
theorem dX11_passes3_22 : decode cX11_passes3 22 = .ok (.goto 4, 3) := by decide +kernel
theorem dX11_passes3_25 : decode cX11_passes3 25 = .ok (.iconst 0, 1) := by decide +kernel
theorem dX11_passes3_26 : decode cX11_passes3 26 = .ok (.putfield 3, 3) := by decide +kernel
theorem dX11_passes3_29 : decode cX11_passes3 29 = .ok (.aload_n 0, 1) := by decide +kernel
theorem dX11_passes3_30 : decode cX11_passes3 30 = .ok (.getfield 3, 3) := by decide +kernel
theorem dX11_passes3_33 : decode cX11_passes3 33 = .ok (.ifCond .ne 7, 3) := by decide +kernel
theorem dX11_passes3_36 : decode cX11_passes3 36 = .ok (.iconst 1, 1) := by decide +kernel
theorem dX11_passes3_37 : decode cX11_passes3 37 = .ok (.goto 4, 3) := by decide +kernel
theorem dX11_passes3_40 : decode cX11_passes3 40 = .ok (.iconst 0, 1) := by decide +kernel
theorem dX11_passes3_41 : decode cX11_passes3 41 = .ok (.ireturn, 1) := by decide +kernel
theorem dX11_passes2_0 : decode cX11_passes2 0 = .ok (.aload_n 0, 1) := by decide +kernel
theorem dX11_passes2_1 : decode cX11_passes2 1 = .ok (.iload_n 1, 1) := by decide +kernel
theorem dX11_passes2_2 : decode cX11_passes2 2 = .ok (.iload_n 2, 1) := by decide +kernel
theorem dX11_passes2_3 : decode cX11_passes2 3 = .ok (.iconst 1, 1) := by decide +kernel
theorem dX11_passes2_4 : decode cX11_passes2 4 = .ok (.invokevirtual 7, 3) := by decide +kernel
theorem dX11_passes2_7 : decode cX11_passes2 7 = .ok (.ireturn, 1) := by decide +kernel
theorem dX11_passes_0 : decode cX11_passes 0 = .ok (.aload_n 0, 1) := by decide +kernel
theorem dX11_passes_1 : decode cX11_passes 1 = .ok (.iload_n 1, 1) := by decide +kernel
theorem dX11_passes_2 : decode cX11_passes 2 = .ok (.iconst 1, 1) := by decide +kernel
theorem dX11_passes_3 : decode cX11_passes 3 = .ok (.iconst 1, 1) := by decide +kernel
theorem dX11_passes_4 : decode cX11_passes 4 = .ok (.invokevirtual 7, 3) := by decide +kernel
theorem dX11_passes_7 : decode cX11_passes 7 = .ok (.ireturn, 1) := by decide +kernel
theorem dX11_hasBit_0 : decode cX11_hasBit 0 = .ok (.iload_n 0, 1) := by decide +kernel
theorem dX11_hasBit_1 : decode cX11_hasBit 1 = .ok (.iload_n 1, 1) := by decide +kernel
theorem dX11_hasBit_2 : decode cX11_hasBit 2 = .ok (.ishr, 1) := by decide +kernel
theorem dX11_hasBit_3 : decode cX11_hasBit 3 = .ok (.iconst 1, 1) := by decide +kernel
theorem dX11_hasBit_4 : decode cX11_hasBit 4 = .ok (.iand, 1) := by decide +kernel
theorem dX11_hasBit_5 : decode cX11_hasBit 5 = .ok (.iconst 1, 1) := by decide +kernel
theorem dX11_hasBit_6 : decode cX11_hasBit 6 = .ok (.if_icmp .ne 7, 3) := by decide +kernel
theorem dX11_hasBit_9 : decode cX11_hasBit 9 = .ok (.iconst 1, 1) := by decide +kernel
theorem dX11_hasBit_10 : decode cX11_hasBit 10 = .ok (.goto 4, 3) := by decide +kernel
theorem dX11_hasBit_13 : decode cX11_hasBit 13 = .ok (.iconst 0, 1) := by decide +kernel
theorem dX11_hasBit_14 : decode cX11_hasBit 14 = .ok (.ireturn, 1) := by decide +kernel
theorem dX11_init_0 : decode cX11_init 0 = .ok (.aload_n 0, 1) := by decide +kernel
theorem dX11_init_1 : decode cX11_init 1 = .ok (.invokespecial 11, 3) := by decide +kernel
theorem dX11_init_4 : decode cX11_init 4 = .ok (.aload_n 0, 1) := by decide +kernel
theorem dX11_init_5 : decode cX11_init 5 = .ok (.sipush 6391, 3) := by decide +kernel
theorem dX11_init_8 : decode cX11_init 8 = .ok (.newarray .int, 2) := by decide +kernel
theorem dX11_init_10 : decode cX11_init 10 = .ok (.putfield 17, 3) := by decide +kernel
theorem dX11_init_13 : decode cX11_init 13 = .ok (.aload_n 0, 1) := by decide +kernel
theorem dX11_init_14 : decode cX11_init 14 = .ok (.sipush 6391, 3) := by decide +kernel
theorem dX11_init_17 : decode cX11_init 17 = .ok (.newarray .int, 2) := by decide +kernel
theorem dX11_init_19 : decode cX11_init 19 = .ok (.putfield 21, 3) := by decide +kernel
theorem dX11_init_22 : decode cX11_init 22 = .ok (.aload_n 0, 1) := by decide +kernel
theorem dX11_init_23 : decode cX11_init 23 = .ok (.ldc 24, 2) := by decide +kernel
theorem dX11_init_25 : decode cX11_init 25 = .ok (.newarray .byte, 2) := by decide +kernel
theorem dX11_init_27 : decode cX11_init 27 = .ok (.putfield 25, 3) := by decide +kernel
theorem dX11_init_30 : decode cX11_init 30 = .ok (.aload_n 0, 1) := by decide +kernel
theorem dX11_init_31 : decode cX11_init 31 = .ok (.aload_n 0, 1) := by decide +kernel
theorem dX11_init_32 : decode cX11_init 32 = .ok (.getfield 17, 3) := by decide +kernel
theorem dX11_init_35 : decode cX11_init 35 = .ok (.putfield 29, 3) := by decide +kernel
theorem dX11_init_38 : decode cX11_init 38 = .ok (.aload_n 0, 1) := by decide +kernel
theorem dX11_init_39 : decode cX11_init 39 = .ok (.sipush 1200, 3) := by decide +kernel
theorem dX11_init_42 : decode cX11_init 42 = .ok (.newarray .byte, 2) := by decide +kernel
theorem dX11_init_44 : decode cX11_init 44 = .ok (.putfield 32, 3) := by decide +kernel
theorem dX11_init_47 : decode cX11_init 47 = .ok (.aload_n 0, 1) := by decide +kernel
theorem dX11_init_48 : decode cX11_init 48 = .ok (.iconst (-1), 1) := by decide +kernel
theorem dX11_init_49 : decode cX11_init 49 = .ok (.putfield 35, 3) := by decide +kernel
theorem dX11_init_52 : decode cX11_init 52 = .ok (.aload_n 0, 1) := by decide +kernel
theorem dX11_init_53 : decode cX11_init 53 = .ok (.bipush 10, 2) := by decide +kernel
theorem dX11_init_55 : decode cX11_init 55 = .ok (.newarray .int, 2) := by decide +kernel
theorem dX11_init_57 : decode cX11_init 57 = .ok (.putfield 38, 3) := by decide +kernel
theorem dX11_init_60 : decode cX11_init 60 = .ok (.aload_n 0, 1) := by decide +kernel
theorem dX11_init_61 : decode cX11_init 61 = .ok (.sipush 1202, 3) := by decide +kernel
theorem dX11_init_64 : decode cX11_init 64 = .ok (.newarray .int, 2) := by decide +kernel
theorem dX11_init_66 : decode cX11_init 66 = .ok (.putfield 41, 3) := by decide +kernel
theorem dX11_init_69 : decode cX11_init 69 = .ok (.aload_n 0, 1) := by decide +kernel
theorem dX11_init_70 : decode cX11_init 70 = .ok (.bipush 80, 2) := by decide +kernel
theorem dX11_init_72 : decode cX11_init 72 = .ok (.newarray .int, 2) := by decide +kernel
theorem dX11_init_74 : decode cX11_init 74 = .ok (.putfield 44, 3) := by decide +kernel
theorem dX11_init_77 : decode cX11_init 77 = .ok (.aload_n 0, 1) := by decide +kernel
theorem dX11_init_78 : decode cX11_init 78 = .ok (.bipush 80, 2) := by decide +kernel
theorem dX11_init_80 : decode cX11_init 80 = .ok (.newarray .int, 2) := by decide +kernel
theorem dX11_init_82 : decode cX11_init 82 = .ok (.putfield 47, 3) := by decide +kernel
theorem dX11_init_85 : decode cX11_init 85 = .ok (.aload_n 0, 1) := by decide +kernel
theorem dX11_init_86 : decode cX11_init 86 = .ok (.sipush 6391, 3) := by decide +kernel
theorem dX11_init_89 : decode cX11_init 89 = .ok (.newarray .int, 2) := by decide +kernel
theorem dX11_init_91 : decode cX11_init 91 = .ok (.putfield 50, 3) := by decide +kernel
theorem dX11_init_94 : decode cX11_init 94 = .ok (.aload_n 0, 1) := by decide +kernel
theorem dX11_init_95 : decode cX11_init 95 = .ok (.ldc 53, 2) := by decide +kernel
theorem dX11_init_97 : decode cX11_init 97 = .ok (.newarray .int, 2) := by decide +kernel
theorem dX11_init_99 : decode cX11_init 99 = .ok (.putfield 54, 3) := by decide +kernel
theorem dX11_init_102 : decode cX11_init 102 = .ok (.aload_n 0, 1) := by decide +kernel
theorem dX11_init_103 : decode cX11_init 103 = .ok (.ldc 57, 2) := by decide +kernel
theorem dX11_init_105 : decode cX11_init 105 = .ok (.newarray .byte, 2) := by decide +kernel
theorem dX11_init_107 : decode cX11_init 107 = .ok (.putfield 58, 3) := by decide +kernel
theorem dX11_init_110 : decode cX11_init 110 = .ok (.aload_n 0, 1) := by decide +kernel
theorem dX11_init_111 : decode cX11_init 111 = .ok (.sipush 3000, 3) := by decide +kernel
theorem dX11_init_114 : decode cX11_init 114 = .ok (.newarray .byte, 2) := by decide +kernel
theorem dX11_init_116 : decode cX11_init 116 = .ok (.putfield 61, 3) := by decide +kernel
theorem dX11_init_119 : decode cX11_init 119 = .ok (.aload_n 0, 1) := by decide +kernel
theorem dX11_init_120 : decode cX11_init 120 = .ok (.getfield 17, 3) := by decide +kernel
theorem dX11_init_123 : decode cX11_init 123 = .ok (.iconst 1, 1) := by decide +kernel
theorem dX11_init_124 : decode cX11_init 124 = .ok (.iconst 1, 1) := by decide +kernel
theorem dX11_init_125 : decode cX11_init 125 = .ok (.iastore, 1) := by decide +kernel
theorem dX11_init_126 : decode cX11_init 126 = .ok (.return_, 1) := by decide +kernel
theorem dX11_isClass_0 : decode cX11_isClass 0 = .ok (.iload_n 1, 1) := by decide +kernel
theorem dX11_isClass_1 : decode cX11_isClass 1 = .ok (.i2l, 1) := by decide +kernel
theorem dX11_isClass_2 : decode cX11_isClass 2 = .ok (.lconst 0, 1) := by decide +kernel
theorem dX11_isClass_3 : decode cX11_isClass 3 = .ok (.aload_n 0, 1) := by decide +kernel
theorem dX11_isClass_4 : decode cX11_isClass 4 = .ok (.getfield 17, 3) := by decide +kernel
theorem dX11_isClass_7 : decode cX11_isClass 7 = .ok (.iconst 3, 1) := by decide +kernel
theorem dX11_isClass_8 : decode cX11_isClass 8 = .ok (.iaload, 1) := by decide +kernel
theorem dX11_isClass_9 : decode cX11_isClass 9 = .ok (.iconst 1, 1) := by decide +kernel
theorem dX11_isClass_10 : decode cX11_isClass 10 = .ok (.isub, 1) := by decide +kernel
theorem dX11_isClass_11 : decode cX11_isClass 11 = .ok (.i2l, 1) := by decide +kernel
theorem dX11_isClass_12 : decode cX11_isClass 12 = .ok (.invokestatic 64, 3) := by decide +kernel
theorem dX11_isClass_15 : decode cX11_isClass 15 = .ok (.ireturn, 1) := by decide +kernel
theorem dX11_isUser_0 : decode cX11_isUser 0 = .ok (.iload_n 1, 1) := by decide +kernel
theorem dX11_isUser_1 : decode cX11_isUser 1 = .ok (.i2l, 1) := by decide +kernel
theorem dX11_isUser_2 : decode cX11_isUser 2 = .ok (.lconst 0, 1) := by decide +kernel
theorem dX11_isUser_3 : decode cX11_isUser 3 = .ok (.aload_n 0, 1) := by decide +kernel
theorem dX11_isUser_4 : decode cX11_isUser 4 = .ok (.getfield 17, 3) := by decide +kernel
theorem dX11_isUser_7 : decode cX11_isUser 7 = .ok (.iconst 4, 1) := by decide +kernel
theorem dX11_isUser_8 : decode cX11_isUser 8 = .ok (.iaload, 1) := by decide +kernel
theorem dX11_isUser_9 : decode cX11_isUser 9 = .ok (.iconst 1, 1) := by decide +kernel
theorem dX11_isUser_10 : decode cX11_isUser 10 = .ok (.isub, 1) := by decide +kernel
theorem dX11_isUser_11 : decode cX11_isUser 11 = .ok (.i2l, 1) := by decide +kernel
theorem dX11_isUser_12 : decode cX11_isUser 12 = .ok (.invokestatic 64, 3) := by decide +kernel
theorem dX11_isUser_15 : decode cX11_isUser 15 = .ok (.ireturn, 1) := by decide +kernel
theorem dX11_isHold_0 : decode cX11_isHold 0 = .ok (.iload_n 1, 1) := by decide +kernel
theorem dX11_isHold_1 : decode cX11_isHold 1 = .ok (.i2l, 1) := by decide +kernel
theorem dX11_isHold_2 : decode cX11_isHold 2 = .ok (.lconst 0, 1) := by decide +kernel
theorem dX11_isHold_3 : decode cX11_isHold 3 = .ok (.aload_n 0, 1) := by decide +kernel
theorem dX11_isHold_4 : decode cX11_isHold 4 = .ok (.getfield 17, 3) := by decide +kernel
theorem dX11_isHold_7 : decode cX11_isHold 7 = .ok (.bipush 6, 2) := by decide +kernel
theorem dX11_isHold_9 : decode cX11_isHold 9 = .ok (.iaload, 1) := by decide +kernel
theorem dX11_isHold_10 : decode cX11_isHold 10 = .ok (.iconst 1, 1) := by decide +kernel
theorem dX11_isHold_11 : decode cX11_isHold 11 = .ok (.isub, 1) := by decide +kernel
theorem dX11_isHold_12 : decode cX11_isHold 12 = .ok (.i2l, 1) := by decide +kernel
theorem dX11_isHold_13 : decode cX11_isHold 13 = .ok (.invokestatic 64, 3) := by decide +kernel
theorem dX11_isHold_16 : decode cX11_isHold 16 = .ok (.ireturn, 1) := by decide +kernel
theorem dX11_isMessage_0 : decode cX11_isMessage 0 = .ok (.iload_n 1, 1) := by decide +kernel
theorem dX11_isMessage_1 : decode cX11_isMessage 1 = .ok (.i2l, 1) := by decide +kernel
theorem dX11_isMessage_2 : decode cX11_isMessage 2 = .ok (.lconst 0, 1) := by decide +kernel
theorem dX11_isMessage_3 : decode cX11_isMessage 3 = .ok (.aload_n 0, 1) := by decide +kernel
theorem dX11_isMessage_4 : decode cX11_isMessage 4 = .ok (.getfield 17, 3) := by decide +kernel
theorem dX11_isMessage_7 : decode cX11_isMessage 7 = .ok (.bipush 7, 2) := by decide +kernel
theorem dX11_isMessage_9 : decode cX11_isMessage 9 = .ok (.iaload, 1) := by decide +kernel
theorem dX11_isMessage_10 : decode cX11_isMessage 10 = .ok (.iconst 1, 1) := by decide +kernel
theorem dX11_isMessage_11 : decode cX11_isMessage 11 = .ok (.isub, 1) := by decide +kernel
theorem dX11_isMessage_12 : decode cX11_isMessage 12 = .ok (.i2l, 1) := by decide +kernel
theorem dX11_isMessage_13 : decode cX11_isMessage 13 = .ok (.invokestatic 64, 3) := by decide +kernel
theorem dX11_isMessage_16 : decode cX11_isMessage 16 = .ok (.ireturn, 1) := by decide +kernel
theorem dX11_classValue_0 : decode cX11_classValue 0 = .ok (.aload_n 0, 1) := by decide +kernel
theorem dX11_classValue_1 : decode cX11_classValue 1 = .ok (.getfield 17, 3) := by decide +kernel
theorem dX11_classValue_4 : decode cX11_classValue 4 = .ok (.bipush 11, 2) := by decide +kernel
theorem dX11_classValue_6 : decode cX11_classValue 6 = .ok (.bipush 9, 2) := by decide +kernel
theorem dX11_classValue_8 : decode cX11_classValue 8 = .ok (.iload_n 1, 1) := by decide +kernel
theorem dX11_classValue_9 : decode cX11_classValue 9 = .ok (.imul, 1) := by decide +kernel
theorem dX11_classValue_10 : decode cX11_classValue 10 = .ok (.iadd, 1) := by decide +kernel
theorem dX11_classValue_11 : decode cX11_classValue 11 = .ok (.iload_n 2, 1) := by decide +kernel
theorem dX11_classValue_12 : decode cX11_classValue 12 = .ok (.iadd, 1) := by decide +kernel
theorem dX11_classValue_13 : decode cX11_classValue 13 = .ok (.iaload, 1) := by decide +kernel
theorem dX11_classValue_14 : decode cX11_classValue 14 = .ok (.ireturn, 1) := by decide +kernel
theorem dX11_holdValue_0 : decode cX11_holdValue 0 = .ok (.aload_n 0, 1) := by decide +kernel
theorem dX11_holdValue_1 : decode cX11_holdValue 1 = .ok (.getfield 17, 3) := by decide +kernel
theorem dX11_holdValue_4 : decode cX11_holdValue 4 = .ok (.sipush 205, 3) := by decide +kernel
theorem dX11_holdValue_7 : decode cX11_holdValue 7 = .ok (.bipush 21, 2) := by decide +kernel
theorem dX11_holdValue_9 : decode cX11_holdValue 9 = .ok (.iload_n 1, 1) := by decide +kernel
theorem dX11_holdValue_10 : decode cX11_holdValue 10 = .ok (.imul, 1) := by decide +kernel
theorem dX11_holdValue_11 : decode cX11_holdValue 11 = .ok (.iadd, 1) := by decide +kernel
theorem dX11_holdValue_12 : decode cX11_holdValue 12 = .ok (.iload_n 2, 1) := by decide +kernel
theorem dX11_holdValue_13 : decode cX11_holdValue 13 = .ok (.iadd, 1) := by decide +kernel
theorem dX11_holdValue_14 : decode cX11_holdValue 14 = .ok (.iaload, 1) := by decide +kernel
theorem dX11_holdValue_15 : decode cX11_holdValue 15 = .ok (.ireturn, 1) := by decide +kernel
theorem dX11_messageValue_0 : decode cX11_messageValue 0 = .ok (.aload_n 0, 1) := by decide +kernel
theorem dX11_messageValue_1 : decode cX11_messageValue 1 = .ok (.getfield 17, 3) := by decide +kernel
theorem dX11_messageValue_4 : decode cX11_messageValue 4 = .ok (.sipush 331, 3) := by decide +kernel
theorem dX11_messageValue_7 : decode cX11_messageValue 7 = .ok (.bipush 7, 2) := by decide +kernel
theorem dX11_messageValue_9 : decode cX11_messageValue 9 = .ok (.iload_n 1, 1) := by decide +kernel
theorem dX11_messageValue_10 : decode cX11_messageValue 10 = .ok (.imul, 1) := by decide +kernel
theorem dX11_messageValue_11 : decode cX11_messageValue 11 = .ok (.iadd, 1) := by decide +kernel
theorem dX11_messageValue_12 : decode cX11_messageValue 12 = .ok (.iload_n 2, 1) := by decide +kernel
theorem dX11_messageValue_13 : decode cX11_messageValue 13 = .ok (.iadd, 1) := by decide +kernel
theorem dX11_messageValue_14 : decode cX11_messageValue 14 = .ok (.iaload, 1) := by decide +kernel
theorem dX11_messageValue_15 : decode cX11_messageValue 15 = .ok (.ireturn, 1) := by decide +kernel
theorem dX11_refAt_0 : decode cX11_refAt 0 = .ok (.sipush 1171, 3) := by decide +kernel
theorem dX11_refAt_3 : decode cX11_refAt 3 = .ok (.iconst 3, 1) := by decide +kernel
theorem dX11_refAt_4 : decode cX11_refAt 4 = .ok (.bipush 10, 2) := by decide +kernel
theorem dX11_refAt_6 : decode cX11_refAt 6 = .ok (.iload_n 0, 1) := by decide +kernel
theorem dX11_refAt_7 : decode cX11_refAt 7 = .ok (.imul, 1) := by decide +kernel
theorem dX11_refAt_8 : decode cX11_refAt 8 = .ok (.iload_n 1, 1) := by decide +kernel
theorem dX11_refAt_9 : decode cX11_refAt 9 = .ok (.iadd, 1) := by decide +kernel
theorem dX11_refAt_10 : decode cX11_refAt 10 = .ok (.imul, 1) := by decide +kernel
theorem dX11_refAt_11 : decode cX11_refAt 11 = .ok (.iadd, 1) := by decide +kernel
theorem dX11_refAt_12 : decode cX11_refAt 12 = .ok (.ireturn, 1) := by decide +kernel
theorem dX11_stateOf_0 : decode cX11_stateOf 0 = .ok (.aload_n 0, 1) := by decide +kernel
theorem dX11_stateOf_1 : decode cX11_stateOf 1 = .ok (.getfield 17, 3) := by decide +kernel
theorem dX11_stateOf_4 : decode cX11_stateOf 4 = .ok (.iload_n 1, 1) := by decide +kernel
theorem dX11_stateOf_5 : decode cX11_stateOf 5 = .ok (.iload_n 2, 1) := by decide +kernel
theorem dX11_stateOf_6 : decode cX11_stateOf 6 = .ok (.invokestatic 68, 3) := by decide +kernel
theorem dX11_stateOf_9 : decode cX11_stateOf 9 = .ok (.iconst 0, 1) := by decide +kernel
theorem dX11_stateOf_10 : decode cX11_stateOf 10 = .ok (.iadd, 1) := by decide +kernel
theorem dX11_stateOf_11 : decode cX11_stateOf 11 = .ok (.iaload, 1) := by decide +kernel
theorem dX11_stateOf_12 : decode cX11_stateOf 12 = .ok (.ireturn, 1) := by decide +kernel
theorem dX11_isRef_0 : decode cX11_isRef 0 = .ok (.aload_n 0, 1) := by decide +kernel
theorem dX11_isRef_1 : decode cX11_isRef 1 = .ok (.iload_n 1, 1) := by decide +kernel
theorem dX11_isRef_2 : decode cX11_isRef 2 = .ok (.invokevirtual 72, 3) := by decide +kernel
theorem dX11_isRef_5 : decode cX11_isRef 5 = .ok (.ifCond .eq 25, 3) := by decide +kernel
theorem dX11_isRef_8 : decode cX11_isRef 8 = .ok (.aload_n 0, 1) := by decide +kernel
theorem dX11_isRef_9 : decode cX11_isRef 9 = .ok (.iload_n 2, 1) := by decide +kernel
theorem dX11_isRef_10 : decode cX11_isRef 10 = .ok (.invokevirtual 76, 3) := by decide +kernel
theorem dX11_isRef_13 : decode cX11_isRef 13 = .ok (.ifCond .eq 17, 3) := by decide +kernel
theorem dX11_isRef_16 : decode cX11_isRef 16 = .ok (.aload_n 0, 1) := by decide +kernel
theorem dX11_isRef_17 : decode cX11_isRef 17 = .ok (.iload_n 1, 1) := by decide +kernel
theorem dX11_isRef_18 : decode cX11_isRef 18 = .ok (.iload_n 2, 1) := by decide +kernel
theorem dX11_isRef_19 : decode cX11_isRef 19 = .ok (.invokevirtual 79, 3) := by decide +kernel
theorem dX11_isRef_22 : decode cX11_isRef 22 = .ok (.iconst (-1), 1) := by decide +kernel
theorem dX11_isRef_23 : decode cX11_isRef 23 = .ok (.if_icmp .eq 7, 3) := by decide +kernel
theorem dX11_isRef_26 : decode cX11_isRef 26 = .ok (.iconst 1, 1) := by decide +kernel
theorem dX11_isRef_27 : decode cX11_isRef 27 = .ok (.goto 4, 3) := by decide +kernel
theorem dX11_isRef_30 : decode cX11_isRef 30 = .ok (.iconst 0, 1) := by decide +kernel
theorem dX11_isRef_31 : decode cX11_isRef 31 = .ok (.ireturn, 1) := by decide +kernel
theorem dX11_isLive_0 : decode cX11_isLive 0 = .ok (.aload_n 0, 1) := by decide +kernel
theorem dX11_isLive_1 : decode cX11_isLive 1 = .ok (.iload_n 1, 1) := by decide +kernel
theorem dX11_isLive_2 : decode cX11_isLive 2 = .ok (.iload_n 2, 1) := by decide +kernel
theorem dX11_isLive_3 : decode cX11_isLive 3 = .ok (.invokevirtual 79, 3) := by decide +kernel
theorem dX11_isLive_6 : decode cX11_isLive 6 = .ok (.ifCond .ne 7, 3) := by decide +kernel
theorem dX11_isLive_9 : decode cX11_isLive 9 = .ok (.iconst 1, 1) := by decide +kernel
theorem dX11_isLive_10 : decode cX11_isLive 10 = .ok (.goto 4, 3) := by decide +kernel
theorem dX11_isLive_13 : decode cX11_isLive 13 = .ok (.iconst 0, 1) := by decide +kernel
theorem dX11_isLive_14 : decode cX11_isLive 14 = .ok (.ireturn, 1) := by decide +kernel
theorem dX11_isHidden_0 : decode cX11_isHidden 0 = .ok (.aload_n 0, 1) := by decide +kernel
theorem dX11_isHidden_1 : decode cX11_isHidden 1 = .ok (.iload_n 1, 1) := by decide +kernel
theorem dX11_isHidden_2 : decode cX11_isHidden 2 = .ok (.iload_n 2, 1) := by decide +kernel
theorem dX11_isHidden_3 : decode cX11_isHidden 3 = .ok (.invokevirtual 79, 3) := by decide +kernel
theorem dX11_isHidden_6 : decode cX11_isHidden 6 = .ok (.i2l, 1) := by decide +kernel
theorem dX11_isHidden_7 : decode cX11_isHidden 7 = .ok (.lconst 1, 1) := by decide +kernel
theorem dX11_isHidden_8 : decode cX11_isHidden 8 = .ok (.ldc2_w 82, 3) := by decide +kernel
theorem dX11_isHidden_11 : decode cX11_isHidden 11 = .ok (.invokestatic 64, 3) := by decide +kernel
theorem dX11_isHidden_14 : decode cX11_isHidden 14 = .ok (.ireturn, 1) := by decide +kernel
theorem dX11_partValue_0 : decode cX11_partValue 0 = .ok (.aload_n 0, 1) := by decide +kernel
theorem dX11_partValue_1 : decode cX11_partValue 1 = .ok (.getfield 17, 3) := by decide +kernel
theorem dX11_partValue_4 : decode cX11_partValue 4 = .ok (.sipush 4771, 3) := by decide +kernel
theorem dX11_partValue_7 : decode cX11_partValue 7 = .ok (.iconst 3, 1) := by decide +kernel
theorem dX11_partValue_8 : decode cX11_partValue 8 = .ok (.iload_n 1, 1) := by decide +kernel
theorem dX11_partValue_9 : decode cX11_partValue 9 = .ok (.imul, 1) := by decide +kernel
theorem dX11_partValue_10 : decode cX11_partValue 10 = .ok (.iadd, 1) := by decide +kernel
theorem dX11_partValue_11 : decode cX11_partValue 11 = .ok (.iload_n 2, 1) := by decide +kernel
theorem dX11_partValue_12 : decode cX11_partValue 12 = .ok (.iadd, 1) := by decide +kernel
theorem dX11_partValue_13 : decode cX11_partValue 13 = .ok (.iaload, 1) := by decide +kernel
theorem dX11_partValue_14 : decode cX11_partValue 14 = .ok (.ireturn, 1) := by decide +kernel
theorem dX11_isStored_0 : decode cX11_isStored 0 = .ok (.iload_n 1, 1) := by decide +kernel
theorem dX11_isStored_1 : decode cX11_isStored 1 = .ok (.i2l, 1) := by decide +kernel
theorem dX11_isStored_2 : decode cX11_isStored 2 = .ok (.lconst 0, 1) := by decide +kernel
theorem dX11_isStored_3 : decode cX11_isStored 3 = .ok (.aload_n 0, 1) := by decide +kernel
theorem dX11_isStored_4 : decode cX11_isStored 4 = .ok (.getfield 17, 3) := by decide +kernel
theorem dX11_isStored_7 : decode cX11_isStored 7 = .ok (.bipush 8, 2) := by decide +kernel
theorem dX11_isStored_9 : decode cX11_isStored 9 = .ok (.iaload, 1) := by decide +kernel
theorem dX11_isStored_10 : decode cX11_isStored 10 = .ok (.iconst 1, 1) := by decide +kernel
theorem dX11_isStored_11 : decode cX11_isStored 11 = .ok (.isub, 1) := by decide +kernel
theorem dX11_isStored_12 : decode cX11_isStored 12 = .ok (.i2l, 1) := by decide +kernel
theorem dX11_isStored_13 : decode cX11_isStored 13 = .ok (.invokestatic 64, 3) := by decide +kernel
theorem dX11_isStored_16 : decode cX11_isStored 16 = .ok (.ifCond .eq 17, 3) := by decide +kernel
theorem dX11_isStored_19 : decode cX11_isStored 19 = .ok (.aload_n 0, 1) := by decide +kernel
theorem dX11_isStored_20 : decode cX11_isStored 20 = .ok (.iload_n 1, 1) := by decide +kernel
theorem dX11_isStored_21 : decode cX11_isStored 21 = .ok (.iconst 1, 1) := by decide +kernel
theorem dX11_isStored_22 : decode cX11_isStored 22 = .ok (.invokevirtual 84, 3) := by decide +kernel
theorem dX11_isStored_25 : decode cX11_isStored 25 = .ok (.iconst 1, 1) := by decide +kernel
theorem dX11_isStored_26 : decode cX11_isStored 26 = .ok (.if_icmp .ne 7, 3) := by decide +kernel
theorem dX11_isStored_29 : decode cX11_isStored 29 = .ok (.iconst 1, 1) := by decide +kernel
theorem dX11_isStored_30 : decode cX11_isStored 30 = .ok (.goto 4, 3) := by decide +kernel
theorem dX11_isStored_33 : decode cX11_isStored 33 = .ok (.iconst 0, 1) := by decide +kernel
theorem dX11_isStored_34 : decode cX11_isStored 34 = .ok (.ireturn, 1) := by decide +kernel
theorem dX11_isDead_0 : decode cX11_isDead 0 = .ok (.aload_n 0, 1) := by decide +kernel
theorem dX11_isDead_1 : decode cX11_isDead 1 = .ok (.iload_n 1, 1) := by decide +kernel
theorem dX11_isDead_2 : decode cX11_isDead 2 = .ok (.iconst 2, 1) := by decide +kernel
theorem dX11_isDead_3 : decode cX11_isDead 3 = .ok (.invokevirtual 84, 3) := by decide +kernel
theorem dX11_isDead_6 : decode cX11_isDead 6 = .ok (.iconst (-1), 1) := by decide +kernel
theorem dX11_isDead_7 : decode cX11_isDead 7 = .ok (.if_icmp .eq 7, 3) := by decide +kernel
theorem dX11_isDead_10 : decode cX11_isDead 10 = .ok (.iconst 1, 1) := by decide +kernel
theorem dX11_isDead_11 : decode cX11_isDead 11 = .ok (.goto 4, 3) := by decide +kernel
theorem dX11_isDead_14 : decode cX11_isDead 14 = .ok (.iconst 0, 1) := by decide +kernel
theorem dX11_isDead_15 : decode cX11_isDead 15 = .ok (.ireturn, 1) := by decide +kernel
theorem dX11_log_0 : decode cX11_log 0 = .ok (.aload_n 0, 1) := by decide +kernel
theorem dX11_log_1 : decode cX11_log 1 = .ok (.getfield 87, 3) := by decide +kernel
theorem dX11_log_4 : decode cX11_log 4 = .ok (.ifCond .eq 4, 3) := by decide +kernel
theorem dX11_log_7 : decode cX11_log 7 = .ok (.return_, 1) := by decide +kernel
theorem dX11_log_8 : decode cX11_log 8 = .ok (.aload_n 0, 1) := by decide +kernel
theorem dX11_log_9 : decode cX11_log 9 = .ok (.getfield 17, 3) := by decide +kernel
theorem dX11_log_12 : decode cX11_log 12 = .ok (.bipush 9, 2) := by decide +kernel
theorem dX11_log_14 : decode cX11_log 14 = .ok (.iaload, 1) := by decide +kernel
theorem dX11_log_15 : decode cX11_log 15 = .ok (.bipush 60, 2) := by decide +kernel
theorem dX11_log_17 : decode cX11_log 17 = .ok (.if_icmp .ne 49, 3) := by decide +kernel
theorem dX11_log_20 : decode cX11_log 20 = .ok (.iconst 0, 1) := by decide +kernel
theorem dX11_log_21 : decode cX11_log 21 = .ok (.istore_n 3, 1) := by decide +kernel
theorem dX11_log_22 : decode cX11_log 22 = .ok (.iload_n 3, 1) := by decide +kernel
theorem dX11_log_23 : decode cX11_log 23 = .ok (.sipush 177, 3) := by decide +kernel
theorem dX11_log_26 : decode cX11_log 26 = .ok (.if_icmp .ge 29, 3) := by decide +kernel
theorem dX11_log_29 : decode cX11_log 29 = .ok (.aload_n 0, 1) := by decide +kernel
theorem dX11_log_30 : decode cX11_log 30 = .ok (.getfield 17, 3) := by decide +kernel
theorem dX11_log_33 : decode cX11_log 33 = .ok (.sipush 6211, 3) := by decide +kernel
theorem dX11_log_36 : decode cX11_log 36 = .ok (.iload_n 3, 1) := by decide +kernel
theorem dX11_log_37 : decode cX11_log 37 = .ok (.iadd, 1) := by decide +kernel
theorem dX11_log_38 : decode cX11_log 38 = .ok (.aload_n 0, 1) := by decide +kernel
theorem dX11_log_39 : decode cX11_log 39 = .ok (.getfield 17, 3) := by decide +kernel
theorem dX11_log_42 : decode cX11_log 42 = .ok (.sipush 6214, 3) := by decide +kernel
theorem dX11_log_45 : decode cX11_log 45 = .ok (.iload_n 3, 1) := by decide +kernel
theorem dX11_log_46 : decode cX11_log 46 = .ok (.iadd, 1) := by decide +kernel
theorem dX11_log_47 : decode cX11_log 47 = .ok (.iaload, 1) := by decide +kernel
theorem dX11_log_48 : decode cX11_log 48 = .ok (.iastore, 1) := by decide +kernel
theorem dX11_log_49 : decode cX11_log 49 = .ok (.iinc 3 1, 3) := by decide +kernel
theorem dX11_log_52 : decode cX11_log 52 = .ok (.goto (-30), 3) := by decide +kernel
theorem dX11_log_55 : decode cX11_log 55 = .ok (.aload_n 0, 1) := by decide +kernel
theorem dX11_log_56 : decode cX11_log 56 = .ok (.getfield 17, 3) := by decide +kernel
theorem dX11_log_59 : decode cX11_log 59 = .ok (.bipush 9, 2) := by decide +kernel
theorem dX11_log_61 : decode cX11_log 61 = .ok (.dup2, 1) := by decide +kernel
theorem dX11_log_62 : decode cX11_log 62 = .ok (.iaload, 1) := by decide +kernel
theorem dX11_log_63 : decode cX11_log 63 = .ok (.iconst 1, 1) := by decide +kernel
theorem dX11_log_64 : decode cX11_log 64 = .ok (.isub, 1) := by decide +kernel
theorem dX11_log_65 : decode cX11_log 65 = .ok (.iastore, 1) := by decide +kernel
theorem dX11_log_66 : decode cX11_log 66 = .ok (.sipush 6211, 3) := by decide +kernel
theorem dX11_log_69 : decode cX11_log 69 = .ok (.iconst 3, 1) := by decide +kernel
theorem dX11_log_70 : decode cX11_log 70 = .ok (.aload_n 0, 1) := by decide +kernel
theorem dX11_log_71 : decode cX11_log 71 = .ok (.getfield 17, 3) := by decide +kernel
theorem dX11_log_74 : decode cX11_log 74 = .ok (.bipush 9, 2) := by decide +kernel
theorem dX11_log_76 : decode cX11_log 76 = .ok (.iaload, 1) := by decide +kernel
theorem dX11_log_77 : decode cX11_log 77 = .ok (.imul, 1) := by decide +kernel
theorem dX11_log_78 : decode cX11_log 78 = .ok (.iadd, 1) := by decide +kernel
theorem dX11_log_79 : decode cX11_log 79 = .ok (.istore_n 3, 1) := by decide +kernel
theorem dX11_log_80 : decode cX11_log 80 = .ok (.aload_n 0, 1) := by decide +kernel
theorem dX11_log_81 : decode cX11_log 81 = .ok (.getfield 17, 3) := by decide +kernel
theorem dX11_log_84 : decode cX11_log 84 = .ok (.iload_n 3, 1) := by decide +kernel
theorem dX11_log_85 : decode cX11_log 85 = .ok (.aload_n 0, 1) := by decide +kernel
theorem dX11_log_86 : decode cX11_log 86 = .ok (.getfield 17, 3) := by decide +kernel
theorem dX11_log_89 : decode cX11_log 89 = .ok (.iconst 2, 1) := by decide +kernel
theorem dX11_log_90 : decode cX11_log 90 = .ok (.iaload, 1) := by decide +kernel
theorem dX11_log_91 : decode cX11_log 91 = .ok (.iastore, 1) := by decide +kernel
theorem dX11_log_92 : decode cX11_log 92 = .ok (.aload_n 0, 1) := by decide +kernel
theorem dX11_log_93 : decode cX11_log 93 = .ok (.getfield 17, 3) := by decide +kernel
theorem dX11_log_96 : decode cX11_log 96 = .ok (.iload_n 3, 1) := by decide +kernel
theorem dX11_log_97 : decode cX11_log 97 = .ok (.iconst 1, 1) := by decide +kernel
theorem dX11_log_98 : decode cX11_log 98 = .ok (.iadd, 1) := by decide +kernel
theorem dX11_log_99 : decode cX11_log 99 = .ok (.iload_n 1, 1) := by decide +kernel
theorem dX11_log_100 : decode cX11_log 100 = .ok (.iastore, 1) := by decide +kernel
theorem dX11_log_101 : decode cX11_log 101 = .ok (.aload_n 0, 1) := by decide +kernel
theorem dX11_log_102 : decode cX11_log 102 = .ok (.getfield 17, 3) := by decide +kernel
theorem dX11_log_105 : decode cX11_log 105 = .ok (.iload_n 3, 1) := by decide +kernel
theorem dX11_log_106 : decode cX11_log 106 = .ok (.iconst 2, 1) := by decide +kernel
theorem dX11_log_107 : decode cX11_log 107 = .ok (.iadd, 1) := by decide +kernel
theorem dX11_log_108 : decode cX11_log 108 = .ok (.iload_n 2, 1) := by decide +kernel
theorem dX11_log_109 : decode cX11_log 109 = .ok (.iastore, 1) := by decide +kernel
theorem dX11_log_110 : decode cX11_log 110 = .ok (.aload_n 0, 1) := by decide +kernel
theorem dX11_log_111 : decode cX11_log 111 = .ok (.getfield 17, 3) := by decide +kernel
theorem dX11_log_114 : decode cX11_log 114 = .ok (.bipush 9, 2) := by decide +kernel
theorem dX11_log_116 : decode cX11_log 116 = .ok (.dup2, 1) := by decide +kernel
theorem dX11_log_117 : decode cX11_log 117 = .ok (.iaload, 1) := by decide +kernel
theorem dX11_log_118 : decode cX11_log 118 = .ok (.iconst 1, 1) := by decide +kernel
theorem dX11_log_119 : decode cX11_log 119 = .ok (.iadd, 1) := by decide +kernel
theorem dX11_log_120 : decode cX11_log 120 = .ok (.iastore, 1) := by decide +kernel
theorem dX11_log_121 : decode cX11_log 121 = .ok (.return_, 1) := by decide +kernel
theorem dX11_appendFour_0 : decode cX11_appendFour 0 = .ok (.bipush 24, 2) := by decide +kernel
theorem dX11_appendFour_2 : decode cX11_appendFour 2 = .ok (.istore_n 2, 1) := by decide +kernel
theorem dX11_appendFour_3 : decode cX11_appendFour 3 = .ok (.iload_n 2, 1) := by decide +kernel
theorem dX11_appendFour_4 : decode cX11_appendFour 4 = .ok (.ifCond .lt 32, 3) := by decide +kernel
theorem dX11_appendFour_7 : decode cX11_appendFour 7 = .ok (.aload_n 0, 1) := by decide +kernel
theorem dX11_appendFour_8 : decode cX11_appendFour 8 = .ok (.getfield 32, 3) := by decide +kernel
theorem dX11_appendFour_11 : decode cX11_appendFour 11 = .ok (.aload_n 0, 1) := by decide +kernel
theorem dX11_appendFour_12 : decode cX11_appendFour 12 = .ok (.getfield 91, 3) := by decide +kernel
theorem dX11_appendFour_15 : decode cX11_appendFour 15 = .ok (.iload_n 1, 1) := by decide +kernel
theorem dX11_appendFour_16 : decode cX11_appendFour 16 = .ok (.iload_n 2, 1) := by decide +kernel
theorem dX11_appendFour_17 : decode cX11_appendFour 17 = .ok (.ishr, 1) := by decide +kernel
theorem dX11_appendFour_18 : decode cX11_appendFour 18 = .ok (.i2b, 1) := by decide +kernel
theorem dX11_appendFour_19 : decode cX11_appendFour 19 = .ok (.bastore, 1) := by decide +kernel
theorem dX11_appendFour_20 : decode cX11_appendFour 20 = .ok (.aload_n 0, 1) := by decide +kernel
theorem dX11_appendFour_21 : decode cX11_appendFour 21 = .ok (.dup, 1) := by decide +kernel
theorem dX11_appendFour_22 : decode cX11_appendFour 22 = .ok (.getfield 91, 3) := by decide +kernel
theorem dX11_appendFour_25 : decode cX11_appendFour 25 = .ok (.iconst 1, 1) := by decide +kernel
theorem dX11_appendFour_26 : decode cX11_appendFour 26 = .ok (.iadd, 1) := by decide +kernel
theorem dX11_appendFour_27 : decode cX11_appendFour 27 = .ok (.putfield 91, 3) := by decide +kernel
theorem dX11_appendFour_30 : decode cX11_appendFour 30 = .ok (.iinc 2 (-8), 3) := by decide +kernel
theorem dX11_appendFour_33 : decode cX11_appendFour 33 = .ok (.goto (-30), 3) := by decide +kernel
theorem dX11_appendFour_36 : decode cX11_appendFour 36 = .ok (.return_, 1) := by decide +kernel
theorem dX11_append_0 : decode cX11_append 0 = .ok (.aload_n 0, 1) := by decide +kernel
theorem dX11_append_1 : decode cX11_append 1 = .ok (.aload_n 0, 1) := by decide +kernel
theorem dX11_append_2 : decode cX11_append 2 = .ok (.getfield 91, 3) := by decide +kernel
theorem dX11_append_5 : decode cX11_append 5 = .ok (.bipush 20, 2) := by decide +kernel
theorem dX11_append_7 : decode cX11_append 7 = .ok (.iadd, 1) := by decide +kernel
theorem dX11_append_8 : decode cX11_append 8 = .ok (.sipush 1200, 3) := by decide +kernel
theorem dX11_append_11 : decode cX11_append 11 = .ok (.if_icmp .gt 7, 3) := by decide +kernel
theorem dX11_append_14 : decode cX11_append 14 = .ok (.iconst 1, 1) := by decide +kernel
theorem dX11_append_15 : decode cX11_append 15 = .ok (.goto 4, 3) := by decide +kernel
theorem dX11_append_18 : decode cX11_append 18 = .ok (.iconst 0, 1) := by decide +kernel
theorem dX11_append_19 : decode cX11_append 19 = .ok (.invokevirtual 94, 3) := by decide +kernel
theorem dX11_append_22 : decode cX11_append 22 = .ok (.ifCond .ne 5, 3) := by decide +kernel
theorem dX11_append_25 : decode cX11_append 25 = .ok (.iconst 0, 1) := by decide +kernel
theorem dX11_append_26 : decode cX11_append 26 = .ok (.ireturn, 1) := by decide +kernel
theorem dX11_append_27 : decode cX11_append 27 = .ok (.aload_n 0, 1) := by decide +kernel
theorem dX11_append_28 : decode cX11_append 28 = .ok (.iload_n 1, 1) := by decide +kernel
theorem dX11_append_29 : decode cX11_append 29 = .ok (.invokevirtual 98, 3) := by decide +kernel
theorem dX11_append_32 : decode cX11_append 32 = .ok (.aload_n 0, 1) := by decide +kernel
theorem dX11_append_33 : decode cX11_append 33 = .ok (.iload_n 2, 1) := by decide +kernel
theorem dX11_append_34 : decode cX11_append 34 = .ok (.invokevirtual 98, 3) := by decide +kernel
theorem dX11_append_37 : decode cX11_append 37 = .ok (.aload_n 0, 1) := by decide +kernel
theorem dX11_append_38 : decode cX11_append 38 = .ok (.iload_n 3, 1) := by decide +kernel
theorem dX11_append_39 : decode cX11_append 39 = .ok (.invokevirtual 98, 3) := by decide +kernel
theorem dX11_append_42 : decode cX11_append 42 = .ok (.aload_n 0, 1) := by decide +kernel
theorem dX11_append_43 : decode cX11_append 43 = .ok (.iload 4, 2) := by decide +kernel
theorem dX11_append_45 : decode cX11_append 45 = .ok (.invokevirtual 98, 3) := by decide +kernel
theorem dX11_append_48 : decode cX11_append 48 = .ok (.aload_n 0, 1) := by decide +kernel
theorem dX11_append_49 : decode cX11_append 49 = .ok (.iload 5, 2) := by decide +kernel
theorem dX11_append_51 : decode cX11_append 51 = .ok (.invokevirtual 98, 3) := by decide +kernel
theorem dX11_append_54 : decode cX11_append 54 = .ok (.aload_n 0, 1) := by decide +kernel
theorem dX11_append_55 : decode cX11_append 55 = .ok (.getfield 91, 3) := by decide +kernel
theorem dX11_append_58 : decode cX11_append 58 = .ok (.ireturn, 1) := by decide +kernel
theorem dX11_truncate_0 : decode cX11_truncate 0 = .ok (.aload_n 0, 1) := by decide +kernel
theorem dX11_truncate_1 : decode cX11_truncate 1 = .ok (.iload_n 1, 1) := by decide +kernel
theorem dX11_truncate_2 : decode cX11_truncate 2 = .ok (.i2l, 1) := by decide +kernel
theorem dX11_truncate_3 : decode cX11_truncate 3 = .ok (.lconst 0, 1) := by decide +kernel
theorem dX11_truncate_4 : decode cX11_truncate 4 = .ok (.aload_n 0, 1) := by decide +kernel
theorem dX11_truncate_5 : decode cX11_truncate 5 = .ok (.getfield 91, 3) := by decide +kernel
theorem dX11_truncate_8 : decode cX11_truncate 8 = .ok (.i2l, 1) := by decide +kernel
theorem dX11_truncate_9 : decode cX11_truncate 9 = .ok (.invokestatic 64, 3) := by decide +kernel
theorem dX11_truncate_12 : decode cX11_truncate 12 = .ok (.invokevirtual 94, 3) := by decide +kernel
theorem dX11_truncate_15 : decode cX11_truncate 15 = .ok (.ifCond .eq 8, 3) := by decide +kernel
theorem dX11_truncate_18 : decode cX11_truncate 18 = .ok (.aload_n 0, 1) := by decide +kernel
theorem dX11_truncate_19 : decode cX11_truncate 19 = .ok (.iload_n 1, 1) := by decide +kernel
theorem dX11_truncate_20 : decode cX11_truncate 20 = .ok (.putfield 91, 3) := by decide +kernel
theorem dX11_truncate_23 : decode cX11_truncate 23 = .ok (.return_, 1) := by decide +kernel
theorem dX11_good_0 : decode cX11_good 0 = .ok (.aload_n 0, 1) := by decide +kernel
theorem dX11_good_1 : decode cX11_good 1 = .ok (.getfield 102, 3) := by decide +kernel
theorem dX11_good_4 : decode cX11_good 4 = .ok (.ifCond .ne 7, 3) := by decide +kernel
theorem dX11_good_7 : decode cX11_good 7 = .ok (.iconst 1, 1) := by decide +kernel
theorem dX11_good_8 : decode cX11_good 8 = .ok (.goto 4, 3) := by decide +kernel
theorem dX11_good_11 : decode cX11_good 11 = .ok (.iconst 0, 1) := by decide +kernel
theorem dX11_good_12 : decode cX11_good 12 = .ok (.ireturn, 1) := by decide +kernel
theorem dX11_errs_0 : decode cX11_errs 0 = .ok (.aload_n 0, 1) := by decide +kernel
theorem dX11_errs_1 : decode cX11_errs 1 = .ok (.invokevirtual 105, 3) := by decide +kernel
theorem dX11_errs_4 : decode cX11_errs 4 = .ok (.ifCond .ne 4, 3) := by decide +kernel
theorem dX11_errs_7 : decode cX11_errs 7 = .ok (.return_, 1) := by decide +kernel
theorem dX11_errs_8 : decode cX11_errs 8 = .ok (.aload_n 0, 1) := by decide +kernel
theorem dX11_errs_9 : decode cX11_errs 9 = .ok (.iload_n 1, 1) := by decide +kernel
theorem dX11_errs_10 : decode cX11_errs 10 = .ok (.putfield 102, 3) := by decide +kernel
theorem dX11_errs_13 : decode cX11_errs 13 = .ok (.aload_n 0, 1) := by decide +kernel
theorem dX11_errs_14 : decode cX11_errs 14 = .ok (.aload_n 0, 1) := by decide +kernel
theorem dX11_errs_15 : decode cX11_errs 15 = .ok (.getfield 109, 3) := by decide +kernel
theorem dX11_errs_18 : decode cX11_errs 18 = .ok (.putfield 35, 3) := by decide +kernel
theorem dX11_errs_21 : decode cX11_errs 21 = .ok (.return_, 1) := by decide +kernel
theorem dX11_byteAt_0 : decode cX11_byteAt 0 = .ok (.iload_n 1, 1) := by decide +kernel
theorem dX11_byteAt_1 : decode cX11_byteAt 1 = .ok (.aload_n 0, 1) := by decide +kernel
theorem dX11_byteAt_2 : decode cX11_byteAt 2 = .ok (.getfield 112, 3) := by decide +kernel
theorem dX11_byteAt_5 : decode cX11_byteAt 5 = .ok (.if_icmp .ge 16, 3) := by decide +kernel
theorem dX11_byteAt_8 : decode cX11_byteAt 8 = .ok (.aload_n 0, 1) := by decide +kernel
theorem dX11_byteAt_9 : decode cX11_byteAt 9 = .ok (.getfield 32, 3) := by decide +kernel
theorem dX11_byteAt_12 : decode cX11_byteAt 12 = .ok (.iload_n 1, 1) := by decide +kernel
theorem dX11_byteAt_13 : decode cX11_byteAt 13 = .ok (.baload, 1) := by decide +kernel
theorem dX11_byteAt_14 : decode cX11_byteAt 14 = .ok (.sipush 255, 3) := by decide +kernel
theorem dX11_byteAt_17 : decode cX11_byteAt 17 = .ok (.iand, 1) := by decide +kernel
theorem dX11_byteAt_18 : decode cX11_byteAt 18 = .ok (.goto 4, 3) := by decide +kernel
theorem dX11_byteAt_21 : decode cX11_byteAt 21 = .ok (.iconst (-1), 1) := by decide +kernel
theorem dX11_byteAt_22 : decode cX11_byteAt 22 = .ok (.ireturn, 1) := by decide +kernel
theorem dX11_scan_0 : decode cX11_scan 0 = .ok (.aload_n 0, 1) := by decide +kernel
theorem dX11_scan_1 : decode cX11_scan 1 = .ok (.aload_n 0, 1) := by decide +kernel
theorem dX11_scan_2 : decode cX11_scan 2 = .ok (.getfield 115, 3) := by decide +kernel
theorem dX11_scan_5 : decode cX11_scan 5 = .ok (.invokevirtual 118, 3) := by decide +kernel
theorem dX11_scan_8 : decode cX11_scan 8 = .ok (.bipush 32, 2) := by decide +kernel
theorem dX11_scan_10 : decode cX11_scan 10 = .ok (.if_icmp .eq 16, 3) := by decide +kernel
theorem dX11_scan_13 : decode cX11_scan 13 = .ok (.aload_n 0, 1) := by decide +kernel
theorem dX11_scan_14 : decode cX11_scan 14 = .ok (.aload_n 0, 1) := by decide +kernel
theorem dX11_scan_15 : decode cX11_scan 15 = .ok (.getfield 115, 3) := by decide +kernel
theorem dX11_scan_18 : decode cX11_scan 18 = .ok (.invokevirtual 118, 3) := by decide +kernel
theorem dX11_scan_21 : decode cX11_scan 21 = .ok (.bipush 10, 2) := by decide +kernel
theorem dX11_scan_23 : decode cX11_scan 23 = .ok (.if_icmp .ne 16, 3) := by decide +kernel
theorem dX11_scan_26 : decode cX11_scan 26 = .ok (.aload_n 0, 1) := by decide +kernel
theorem dX11_scan_27 : decode cX11_scan 27 = .ok (.dup, 1) := by decide +kernel
theorem dX11_scan_28 : decode cX11_scan 28 = .ok (.getfield 115, 3) := by decide +kernel
theorem dX11_scan_31 : decode cX11_scan 31 = .ok (.iconst 1, 1) := by decide +kernel
theorem dX11_scan_32 : decode cX11_scan 32 = .ok (.iadd, 1) := by decide +kernel
theorem dX11_scan_33 : decode cX11_scan 33 = .ok (.putfield 115, 3) := by decide +kernel
theorem dX11_scan_36 : decode cX11_scan 36 = .ok (.goto (-36), 3) := by decide +kernel
theorem dX11_scan_39 : decode cX11_scan 39 = .ok (.aload_n 0, 1) := by decide +kernel
theorem dX11_scan_40 : decode cX11_scan 40 = .ok (.aload_n 0, 1) := by decide +kernel
theorem dX11_scan_41 : decode cX11_scan 41 = .ok (.getfield 115, 3) := by decide +kernel
theorem dX11_scan_44 : decode cX11_scan 44 = .ok (.putfield 109, 3) := by decide +kernel
theorem dX11_scan_47 : decode cX11_scan 47 = .ok (.aload_n 0, 1) := by decide +kernel
theorem dX11_scan_48 : decode cX11_scan 48 = .ok (.aload_n 0, 1) := by decide +kernel
theorem dX11_scan_49 : decode cX11_scan 49 = .ok (.getfield 115, 3) := by decide +kernel
theorem dX11_scan_52 : decode cX11_scan 52 = .ok (.invokevirtual 118, 3) := by decide +kernel
theorem dX11_scan_55 : decode cX11_scan 55 = .ok (.istore_n 1, 1) := by decide +kernel
theorem dX11_scan_56 : decode cX11_scan 56 = .ok (.iload_n 1, 1) := by decide +kernel
theorem dX11_scan_57 : decode cX11_scan 57 = .ok (.iconst (-1), 1) := by decide +kernel
theorem dX11_scan_58 : decode cX11_scan 58 = .ok (.if_icmp .ne 11, 3) := by decide +kernel
theorem dX11_scan_61 : decode cX11_scan 61 = .ok (.aload_n 0, 1) := by decide +kernel
theorem dX11_scan_62 : decode cX11_scan 62 = .ok (.iconst 0, 1) := by decide +kernel
theorem dX11_scan_63 : decode cX11_scan 63 = .ok (.putfield 122, 3) := by decide +kernel
theorem dX11_scan_66 : decode cX11_scan 66 = .ok (.goto 168, 3) := by decide +kernel
theorem dX11_scan_69 : decode cX11_scan 69 = .ok (.iload_n 1, 1) := by decide +kernel
theorem dX11_scan_70 : decode cX11_scan 70 = .ok (.i2l, 1) := by decide +kernel
theorem dX11_scan_71 : decode cX11_scan 71 = .ok (.ldc2_w 125, 3) := by decide +kernel
theorem dX11_scan_74 : decode cX11_scan 74 = .ok (.ldc2_w 127, 3) := by decide +kernel
theorem dX11_scan_77 : decode cX11_scan 77 = .ok (.invokestatic 64, 3) := by decide +kernel
theorem dX11_scan_80 : decode cX11_scan 80 = .ok (.ifCond .eq 45, 3) := by decide +kernel
theorem dX11_scan_83 : decode cX11_scan 83 = .ok (.aload_n 0, 1) := by decide +kernel
theorem dX11_scan_84 : decode cX11_scan 84 = .ok (.aload_n 0, 1) := by decide +kernel
theorem dX11_scan_85 : decode cX11_scan 85 = .ok (.getfield 115, 3) := by decide +kernel
theorem dX11_scan_88 : decode cX11_scan 88 = .ok (.invokevirtual 118, 3) := by decide +kernel
theorem dX11_scan_91 : decode cX11_scan 91 = .ok (.i2l, 1) := by decide +kernel
theorem dX11_scan_92 : decode cX11_scan 92 = .ok (.ldc2_w 125, 3) := by decide +kernel
theorem dX11_scan_95 : decode cX11_scan 95 = .ok (.ldc2_w 127, 3) := by decide +kernel
theorem dX11_scan_98 : decode cX11_scan 98 = .ok (.invokestatic 64, 3) := by decide +kernel
theorem dX11_scan_101 : decode cX11_scan 101 = .ok (.ifCond .eq 16, 3) := by decide +kernel
theorem dX11_scan_104 : decode cX11_scan 104 = .ok (.aload_n 0, 1) := by decide +kernel
theorem dX11_scan_105 : decode cX11_scan 105 = .ok (.dup, 1) := by decide +kernel
theorem dX11_scan_106 : decode cX11_scan 106 = .ok (.getfield 115, 3) := by decide +kernel
theorem dX11_scan_109 : decode cX11_scan 109 = .ok (.iconst 1, 1) := by decide +kernel
theorem dX11_scan_110 : decode cX11_scan 110 = .ok (.iadd, 1) := by decide +kernel
theorem dX11_scan_111 : decode cX11_scan 111 = .ok (.putfield 115, 3) := by decide +kernel
theorem dX11_scan_114 : decode cX11_scan 114 = .ok (.goto (-31), 3) := by decide +kernel
theorem dX11_scan_117 : decode cX11_scan 117 = .ok (.aload_n 0, 1) := by decide +kernel
theorem dX11_scan_118 : decode cX11_scan 118 = .ok (.iconst 1, 1) := by decide +kernel
theorem dX11_scan_119 : decode cX11_scan 119 = .ok (.putfield 122, 3) := by decide +kernel
theorem dX11_scan_122 : decode cX11_scan 122 = .ok (.goto 112, 3) := by decide +kernel
theorem dX11_scan_125 : decode cX11_scan 125 = .ok (.iload_n 1, 1) := by decide +kernel
theorem dX11_scan_126 : decode cX11_scan 126 = .ok (.i2l, 1) := by decide +kernel
theorem dX11_scan_127 : decode cX11_scan 127 = .ok (.ldc2_w 129, 3) := by decide +kernel
theorem dX11_scan_130 : decode cX11_scan 130 = .ok (.ldc2_w 131, 3) := by decide +kernel
theorem dX11_scan_133 : decode cX11_scan 133 = .ok (.invokestatic 64, 3) := by decide +kernel
theorem dX11_scan_136 : decode cX11_scan 136 = .ok (.ifCond .eq 78, 3) := by decide +kernel
theorem dX11_scan_139 : decode cX11_scan 139 = .ok (.aload_n 0, 1) := by decide +kernel
theorem dX11_scan_140 : decode cX11_scan 140 = .ok (.iconst 0, 1) := by decide +kernel
theorem dX11_scan_141 : decode cX11_scan 141 = .ok (.putfield 133, 3) := by decide +kernel
theorem dX11_scan_144 : decode cX11_scan 144 = .ok (.aload_n 0, 1) := by decide +kernel
theorem dX11_scan_145 : decode cX11_scan 145 = .ok (.aload_n 0, 1) := by decide +kernel
theorem dX11_scan_146 : decode cX11_scan 146 = .ok (.getfield 115, 3) := by decide +kernel
theorem dX11_scan_149 : decode cX11_scan 149 = .ok (.invokevirtual 118, 3) := by decide +kernel
theorem dX11_scan_152 : decode cX11_scan 152 = .ok (.i2l, 1) := by decide +kernel
theorem dX11_scan_153 : decode cX11_scan 153 = .ok (.ldc2_w 129, 3) := by decide +kernel
theorem dX11_scan_156 : decode cX11_scan 156 = .ok (.ldc2_w 131, 3) := by decide +kernel
theorem dX11_scan_159 : decode cX11_scan 159 = .ok (.invokestatic 64, 3) := by decide +kernel
theorem dX11_scan_162 : decode cX11_scan 162 = .ok (.ifCond .eq 44, 3) := by decide +kernel
theorem dX11_scan_165 : decode cX11_scan 165 = .ok (.aload_n 0, 1) := by decide +kernel
theorem dX11_scan_166 : decode cX11_scan 166 = .ok (.ldc 136, 2) := by decide +kernel
theorem dX11_scan_168 : decode cX11_scan 168 = .ok (.bipush 10, 2) := by decide +kernel
theorem dX11_scan_170 : decode cX11_scan 170 = .ok (.aload_n 0, 1) := by decide +kernel
theorem dX11_scan_171 : decode cX11_scan 171 = .ok (.getfield 133, 3) := by decide +kernel
theorem dX11_scan_174 : decode cX11_scan 174 = .ok (.imul, 1) := by decide +kernel
theorem dX11_scan_175 : decode cX11_scan 175 = .ok (.aload_n 0, 1) := by decide +kernel
theorem dX11_scan_176 : decode cX11_scan 176 = .ok (.aload_n 0, 1) := by decide +kernel
theorem dX11_scan_177 : decode cX11_scan 177 = .ok (.getfield 115, 3) := by decide +kernel
theorem dX11_scan_180 : decode cX11_scan 180 = .ok (.invokevirtual 118, 3) := by decide +kernel
theorem dX11_scan_183 : decode cX11_scan 183 = .ok (.iadd, 1) := by decide +kernel
theorem dX11_scan_184 : decode cX11_scan 184 = .ok (.bipush 48, 2) := by decide +kernel
theorem dX11_scan_186 : decode cX11_scan 186 = .ok (.isub, 1) := by decide +kernel
theorem dX11_scan_187 : decode cX11_scan 187 = .ok (.invokestatic 137, 3) := by decide +kernel
theorem dX11_scan_190 : decode cX11_scan 190 = .ok (.putfield 133, 3) := by decide +kernel
theorem dX11_scan_193 : decode cX11_scan 193 = .ok (.aload_n 0, 1) := by decide +kernel
theorem dX11_scan_194 : decode cX11_scan 194 = .ok (.dup, 1) := by decide +kernel
theorem dX11_scan_195 : decode cX11_scan 195 = .ok (.getfield 115, 3) := by decide +kernel
theorem dX11_scan_198 : decode cX11_scan 198 = .ok (.iconst 1, 1) := by decide +kernel
theorem dX11_scan_199 : decode cX11_scan 199 = .ok (.iadd, 1) := by decide +kernel
theorem dX11_scan_200 : decode cX11_scan 200 = .ok (.putfield 115, 3) := by decide +kernel
theorem dX11_scan_203 : decode cX11_scan 203 = .ok (.goto (-59), 3) := by decide +kernel
theorem dX11_scan_206 : decode cX11_scan 206 = .ok (.aload_n 0, 1) := by decide +kernel
theorem dX11_scan_207 : decode cX11_scan 207 = .ok (.iconst 2, 1) := by decide +kernel
theorem dX11_scan_208 : decode cX11_scan 208 = .ok (.putfield 122, 3) := by decide +kernel
theorem dX11_scan_211 : decode cX11_scan 211 = .ok (.goto 23, 3) := by decide +kernel
theorem dX11_scan_214 : decode cX11_scan 214 = .ok (.aload_n 0, 1) := by decide +kernel
theorem dX11_scan_215 : decode cX11_scan 215 = .ok (.iconst 3, 1) := by decide +kernel
theorem dX11_scan_216 : decode cX11_scan 216 = .ok (.putfield 122, 3) := by decide +kernel
theorem dX11_scan_219 : decode cX11_scan 219 = .ok (.aload_n 0, 1) := by decide +kernel
theorem dX11_scan_220 : decode cX11_scan 220 = .ok (.iload_n 1, 1) := by decide +kernel
theorem dX11_scan_221 : decode cX11_scan 221 = .ok (.putfield 133, 3) := by decide +kernel
theorem dX11_scan_224 : decode cX11_scan 224 = .ok (.aload_n 0, 1) := by decide +kernel
theorem dX11_scan_225 : decode cX11_scan 225 = .ok (.dup, 1) := by decide +kernel
theorem dX11_scan_226 : decode cX11_scan 226 = .ok (.getfield 115, 3) := by decide +kernel
theorem dX11_scan_229 : decode cX11_scan 229 = .ok (.iconst 1, 1) := by decide +kernel
theorem dX11_scan_230 : decode cX11_scan 230 = .ok (.iadd, 1) := by decide +kernel
theorem dX11_scan_231 : decode cX11_scan 231 = .ok (.putfield 115, 3) := by decide +kernel
theorem dX11_scan_234 : decode cX11_scan 234 = .ok (.return_, 1) := by decide +kernel
theorem dX11_goOn_0 : decode cX11_goOn 0 = .ok (.aload_n 0, 1) := by decide +kernel
theorem dX11_goOn_1 : decode cX11_goOn 1 = .ok (.invokevirtual 105, 3) := by decide +kernel
theorem dX11_goOn_4 : decode cX11_goOn 4 = .ok (.ifCond .eq 7, 3) := by decide +kernel
theorem dX11_goOn_7 : decode cX11_goOn 7 = .ok (.aload_n 0, 1) := by decide +kernel
theorem dX11_goOn_8 : decode cX11_goOn 8 = .ok (.invokevirtual 142, 3) := by decide +kernel
theorem dX11_goOn_11 : decode cX11_goOn 11 = .ok (.return_, 1) := by decide +kernel
theorem dX11_isText_0 : decode cX11_isText 0 = .ok (.aload_n 0, 1) := by decide +kernel
theorem dX11_isText_1 : decode cX11_isText 1 = .ok (.invokevirtual 105, 3) := by decide +kernel
theorem dX11_isText_4 : decode cX11_isText 4 = .ok (.ifCond .eq 31, 3) := by decide +kernel
theorem dX11_isText_7 : decode cX11_isText 7 = .ok (.aload_n 0, 1) := by decide +kernel
theorem dX11_isText_8 : decode cX11_isText 8 = .ok (.getfield 122, 3) := by decide +kernel
theorem dX11_isText_11 : decode cX11_isText 11 = .ok (.iconst 1, 1) := by decide +kernel
theorem dX11_isText_12 : decode cX11_isText 12 = .ok (.if_icmp .ne 23, 3) := by decide +kernel
theorem dX11_isText_15 : decode cX11_isText 15 = .ok (.aload_n 0, 1) := by decide +kernel
theorem dX11_isText_16 : decode cX11_isText 16 = .ok (.getfield 115, 3) := by decide +kernel
theorem dX11_isText_19 : decode cX11_isText 19 = .ok (.aload_n 0, 1) := by decide +kernel
theorem dX11_isText_20 : decode cX11_isText 20 = .ok (.getfield 109, 3) := by decide +kernel
theorem dX11_isText_23 : decode cX11_isText 23 = .ok (.isub, 1) := by decide +kernel
theorem dX11_isText_24 : decode cX11_isText 24 = .ok (.aload_n 1, 1) := by decide +kernel
theorem dX11_isText_25 : decode cX11_isText 25 = .ok (.invokevirtual 145, 3) := by decide +kernel
theorem dX11_isText_28 : decode cX11_isText 28 = .ok (.if_icmp .ne 7, 3) := by decide +kernel
theorem dX11_isText_31 : decode cX11_isText 31 = .ok (.iconst 1, 1) := by decide +kernel
theorem dX11_isText_32 : decode cX11_isText 32 = .ok (.goto 4, 3) := by decide +kernel
theorem dX11_isText_35 : decode cX11_isText 35 = .ok (.iconst 0, 1) := by decide +kernel
theorem dX11_isText_36 : decode cX11_isText 36 = .ok (.istore_n 2, 1) := by decide +kernel
theorem dX11_isText_37 : decode cX11_isText 37 = .ok (.iconst 0, 1) := by decide +kernel
theorem dX11_isText_38 : decode cX11_isText 38 = .ok (.istore_n 3, 1) := by decide +kernel
theorem dX11_isText_39 : decode cX11_isText 39 = .ok (.iload_n 3, 1) := by decide +kernel
theorem dX11_isText_40 : decode cX11_isText 40 = .ok (.aload_n 1, 1) := by decide +kernel
theorem dX11_isText_41 : decode cX11_isText 41 = .ok (.invokevirtual 145, 3) := by decide +kernel
theorem dX11_isText_44 : decode cX11_isText 44 = .ok (.if_icmp .ge 38, 3) := by decide +kernel
theorem dX11_isText_47 : decode cX11_isText 47 = .ok (.iload_n 2, 1) := by decide +kernel
theorem dX11_isText_48 : decode cX11_isText 48 = .ok (.ifCond .eq 34, 3) := by decide +kernel
theorem dX11_isText_51 : decode cX11_isText 51 = .ok (.aload_n 0, 1) := by decide +kernel
theorem dX11_isText_52 : decode cX11_isText 52 = .ok (.getfield 32, 3) := by decide +kernel
theorem dX11_isText_55 : decode cX11_isText 55 = .ok (.aload_n 0, 1) := by decide +kernel
theorem dX11_isText_56 : decode cX11_isText 56 = .ok (.getfield 109, 3) := by decide +kernel
theorem dX11_isText_59 : decode cX11_isText 59 = .ok (.iload_n 3, 1) := by decide +kernel
theorem dX11_isText_60 : decode cX11_isText 60 = .ok (.iadd, 1) := by decide +kernel
theorem dX11_isText_61 : decode cX11_isText 61 = .ok (.baload, 1) := by decide +kernel
theorem dX11_isText_62 : decode cX11_isText 62 = .ok (.aload_n 1, 1) := by decide +kernel
theorem dX11_isText_63 : decode cX11_isText 63 = .ok (.iload_n 3, 1) := by decide +kernel
theorem dX11_isText_64 : decode cX11_isText 64 = .ok (.invokevirtual 151, 3) := by decide +kernel
theorem dX11_isText_67 : decode cX11_isText 67 = .ok (.if_icmp .ne 7, 3) := by decide +kernel
theorem dX11_isText_70 : decode cX11_isText 70 = .ok (.iconst 1, 1) := by decide +kernel
theorem dX11_isText_71 : decode cX11_isText 71 = .ok (.goto 4, 3) := by decide +kernel
theorem dX11_isText_74 : decode cX11_isText 74 = .ok (.iconst 0, 1) := by decide +kernel
theorem dX11_isText_75 : decode cX11_isText 75 = .ok (.istore_n 2, 1) := by decide +kernel
theorem dX11_isText_76 : decode cX11_isText 76 = .ok (.iinc 3 1, 3) := by decide +kernel
theorem dX11_isText_79 : decode cX11_isText 79 = .ok (.goto (-40), 3) := by decide +kernel
theorem dX11_isText_82 : decode cX11_isText 82 = .ok (.iload_n 2, 1) := by decide +kernel
theorem dX11_isText_83 : decode cX11_isText 83 = .ok (.ireturn, 1) := by decide +kernel
theorem dX11_isSymbol_0 : decode cX11_isSymbol 0 = .ok (.aload_n 0, 1) := by decide +kernel
theorem dX11_isSymbol_1 : decode cX11_isSymbol 1 = .ok (.invokevirtual 105, 3) := by decide +kernel
theorem dX11_isSymbol_4 : decode cX11_isSymbol 4 = .ok (.ifCond .eq 23, 3) := by decide +kernel
theorem dX11_isSymbol_7 : decode cX11_isSymbol 7 = .ok (.aload_n 0, 1) := by decide +kernel
theorem dX11_isSymbol_8 : decode cX11_isSymbol 8 = .ok (.getfield 122, 3) := by decide +kernel
theorem dX11_isSymbol_11 : decode cX11_isSymbol 11 = .ok (.iconst 3, 1) := by decide +kernel
theorem dX11_isSymbol_12 : decode cX11_isSymbol 12 = .ok (.if_icmp .ne 15, 3) := by decide +kernel
theorem dX11_isSymbol_15 : decode cX11_isSymbol 15 = .ok (.aload_n 0, 1) := by decide +kernel
theorem dX11_isSymbol_16 : decode cX11_isSymbol 16 = .ok (.getfield 133, 3) := by decide +kernel
theorem dX11_isSymbol_19 : decode cX11_isSymbol 19 = .ok (.iload_n 1, 1) := by decide +kernel
theorem dX11_isSymbol_20 : decode cX11_isSymbol 20 = .ok (.if_icmp .ne 7, 3) := by decide +kernel
theorem dX11_isSymbol_23 : decode cX11_isSymbol 23 = .ok (.iconst 1, 1) := by decide +kernel
theorem dX11_isSymbol_24 : decode cX11_isSymbol 24 = .ok (.goto 4, 3) := by decide +kernel
theorem dX11_isSymbol_27 : decode cX11_isSymbol 27 = .ok (.iconst 0, 1) := by decide +kernel
theorem dX11_isSymbol_28 : decode cX11_isSymbol 28 = .ok (.ireturn, 1) := by decide +kernel
theorem dX11_isKeyword_0 : decode cX11_isKeyword 0 = .ok (.aload_n 0, 1) := by decide +kernel
theorem dX11_isKeyword_1 : decode cX11_isKeyword 1 = .ok (.ldc 155, 2) := by decide +kernel
theorem dX11_isKeyword_3 : decode cX11_isKeyword 3 = .ok (.invokevirtual 157, 3) := by decide +kernel
theorem dX11_isKeyword_6 : decode cX11_isKeyword 6 = .ok (.ifCond .ne 66, 3) := by decide +kernel
theorem dX11_isKeyword_9 : decode cX11_isKeyword 9 = .ok (.aload_n 0, 1) := by decide +kernel
theorem dX11_isKeyword_10 : decode cX11_isKeyword 10 = .ok (.ldc 161, 2) := by decide +kernel
theorem dX11_isKeyword_12 : decode cX11_isKeyword 12 = .ok (.invokevirtual 157, 3) := by decide +kernel
theorem dX11_isKeyword_15 : decode cX11_isKeyword 15 = .ok (.ifCond .ne 57, 3) := by decide +kernel
theorem dX11_isKeyword_18 : decode cX11_isKeyword 18 = .ok (.aload_n 0, 1) := by decide +kernel
theorem dX11_isKeyword_19 : decode cX11_isKeyword 19 = .ok (.ldc 163, 2) := by decide +kernel
theorem dX11_isKeyword_21 : decode cX11_isKeyword 21 = .ok (.invokevirtual 157, 3) := by decide +kernel
theorem dX11_isKeyword_24 : decode cX11_isKeyword 24 = .ok (.ifCond .ne 48, 3) := by decide +kernel
theorem dX11_isKeyword_27 : decode cX11_isKeyword 27 = .ok (.aload_n 0, 1) := by decide +kernel
theorem dX11_isKeyword_28 : decode cX11_isKeyword 28 = .ok (.ldc 165, 2) := by decide +kernel
theorem dX11_isKeyword_30 : decode cX11_isKeyword 30 = .ok (.invokevirtual 157, 3) := by decide +kernel
theorem dX11_isKeyword_33 : decode cX11_isKeyword 33 = .ok (.ifCond .ne 39, 3) := by decide +kernel
theorem dX11_isKeyword_36 : decode cX11_isKeyword 36 = .ok (.aload_n 0, 1) := by decide +kernel
theorem dX11_isKeyword_37 : decode cX11_isKeyword 37 = .ok (.ldc 167, 2) := by decide +kernel
theorem dX11_isKeyword_39 : decode cX11_isKeyword 39 = .ok (.invokevirtual 157, 3) := by decide +kernel
theorem dX11_isKeyword_42 : decode cX11_isKeyword 42 = .ok (.ifCond .ne 30, 3) := by decide +kernel
theorem dX11_isKeyword_45 : decode cX11_isKeyword 45 = .ok (.aload_n 0, 1) := by decide +kernel
theorem dX11_isKeyword_46 : decode cX11_isKeyword 46 = .ok (.ldc 169, 2) := by decide +kernel
theorem dX11_isKeyword_48 : decode cX11_isKeyword 48 = .ok (.invokevirtual 157, 3) := by decide +kernel
theorem dX11_isKeyword_51 : decode cX11_isKeyword 51 = .ok (.ifCond .ne 21, 3) := by decide +kernel
theorem dX11_isKeyword_54 : decode cX11_isKeyword 54 = .ok (.aload_n 0, 1) := by decide +kernel
theorem dX11_isKeyword_55 : decode cX11_isKeyword 55 = .ok (.ldc 171, 2) := by decide +kernel
theorem dX11_isKeyword_57 : decode cX11_isKeyword 57 = .ok (.invokevirtual 157, 3) := by decide +kernel
theorem dX11_isKeyword_60 : decode cX11_isKeyword 60 = .ok (.ifCond .ne 12, 3) := by decide +kernel
theorem dX11_isKeyword_63 : decode cX11_isKeyword 63 = .ok (.aload_n 0, 1) := by decide +kernel
theorem dX11_isKeyword_64 : decode cX11_isKeyword 64 = .ok (.ldc 173, 2) := by decide +kernel
theorem dX11_isKeyword_66 : decode cX11_isKeyword 66 = .ok (.invokevirtual 157, 3) := by decide +kernel
theorem dX11_isKeyword_69 : decode cX11_isKeyword 69 = .ok (.ifCond .eq 7, 3) := by decide +kernel
theorem dX11_isKeyword_72 : decode cX11_isKeyword 72 = .ok (.iconst 1, 1) := by decide +kernel
theorem dX11_isKeyword_73 : decode cX11_isKeyword 73 = .ok (.goto 4, 3) := by decide +kernel
theorem dX11_isKeyword_76 : decode cX11_isKeyword 76 = .ok (.iconst 0, 1) := by decide +kernel
theorem dX11_isKeyword_77 : decode cX11_isKeyword 77 = .ok (.istore_n 1, 1) := by decide +kernel
theorem dX11_isKeyword_78 : decode cX11_isKeyword 78 = .ok (.iload_n 1, 1) := by decide +kernel
theorem dX11_isKeyword_79 : decode cX11_isKeyword 79 = .ok (.ifCond .ne 66, 3) := by decide +kernel
theorem dX11_isKeyword_82 : decode cX11_isKeyword 82 = .ok (.aload_n 0, 1) := by decide +kernel
theorem dX11_isKeyword_83 : decode cX11_isKeyword 83 = .ok (.ldc 175, 2) := by decide +kernel
theorem dX11_isKeyword_85 : decode cX11_isKeyword 85 = .ok (.invokevirtual 157, 3) := by decide +kernel
theorem dX11_isKeyword_88 : decode cX11_isKeyword 88 = .ok (.ifCond .ne 57, 3) := by decide +kernel
theorem dX11_isKeyword_91 : decode cX11_isKeyword 91 = .ok (.aload_n 0, 1) := by decide +kernel
theorem dX11_isKeyword_92 : decode cX11_isKeyword 92 = .ok (.ldc 177, 2) := by decide +kernel
theorem dX11_isKeyword_94 : decode cX11_isKeyword 94 = .ok (.invokevirtual 157, 3) := by decide +kernel
theorem dX11_isKeyword_97 : decode cX11_isKeyword 97 = .ok (.ifCond .ne 48, 3) := by decide +kernel
theorem dX11_isKeyword_100 : decode cX11_isKeyword 100 = .ok (.aload_n 0, 1) := by decide +kernel
theorem dX11_isKeyword_101 : decode cX11_isKeyword 101 = .ok (.ldc 179, 2) := by decide +kernel
theorem dX11_isKeyword_103 : decode cX11_isKeyword 103 = .ok (.invokevirtual 157, 3) := by decide +kernel
theorem dX11_isKeyword_106 : decode cX11_isKeyword 106 = .ok (.ifCond .ne 39, 3) := by decide +kernel
theorem dX11_isKeyword_109 : decode cX11_isKeyword 109 = .ok (.aload_n 0, 1) := by decide +kernel
theorem dX11_isKeyword_110 : decode cX11_isKeyword 110 = .ok (.ldc 181, 2) := by decide +kernel
theorem dX11_isKeyword_112 : decode cX11_isKeyword 112 = .ok (.invokevirtual 157, 3) := by decide +kernel
theorem dX11_isKeyword_115 : decode cX11_isKeyword 115 = .ok (.ifCond .ne 30, 3) := by decide +kernel
theorem dX11_isKeyword_118 : decode cX11_isKeyword 118 = .ok (.aload_n 0, 1) := by decide +kernel
theorem dX11_isKeyword_119 : decode cX11_isKeyword 119 = .ok (.ldc 183, 2) := by decide +kernel
theorem dX11_isKeyword_121 : decode cX11_isKeyword 121 = .ok (.invokevirtual 157, 3) := by decide +kernel
theorem dX11_isKeyword_124 : decode cX11_isKeyword 124 = .ok (.ifCond .ne 21, 3) := by decide +kernel
theorem dX11_isKeyword_127 : decode cX11_isKeyword 127 = .ok (.aload_n 0, 1) := by decide +kernel
theorem dX11_isKeyword_128 : decode cX11_isKeyword 128 = .ok (.ldc 185, 2) := by decide +kernel
theorem dX11_isKeyword_130 : decode cX11_isKeyword 130 = .ok (.invokevirtual 157, 3) := by decide +kernel
theorem dX11_isKeyword_133 : decode cX11_isKeyword 133 = .ok (.ifCond .ne 12, 3) := by decide +kernel
theorem dX11_isKeyword_136 : decode cX11_isKeyword 136 = .ok (.aload_n 0, 1) := by decide +kernel
theorem dX11_isKeyword_137 : decode cX11_isKeyword 137 = .ok (.ldc 187, 2) := by decide +kernel
theorem dX11_isKeyword_139 : decode cX11_isKeyword 139 = .ok (.invokevirtual 157, 3) := by decide +kernel
theorem dX11_isKeyword_142 : decode cX11_isKeyword 142 = .ok (.ifCond .eq 7, 3) := by decide +kernel
theorem dX11_isKeyword_145 : decode cX11_isKeyword 145 = .ok (.iconst 1, 1) := by decide +kernel
theorem dX11_isKeyword_146 : decode cX11_isKeyword 146 = .ok (.goto 4, 3) := by decide +kernel
theorem dX11_isKeyword_149 : decode cX11_isKeyword 149 = .ok (.iconst 0, 1) := by decide +kernel
theorem dX11_isKeyword_150 : decode cX11_isKeyword 150 = .ok (.ireturn, 1) := by decide +kernel
theorem dX11_word_0 : decode cX11_word 0 = .ok (.aload_n 0, 1) := by decide +kernel
theorem dX11_word_1 : decode cX11_word 1 = .ok (.aload_n 1, 1) := by decide +kernel
theorem dX11_word_2 : decode cX11_word 2 = .ok (.invokevirtual 157, 3) := by decide +kernel
theorem dX11_word_5 : decode cX11_word 5 = .ok (.ifCond .ne 8, 3) := by decide +kernel
theorem dX11_word_8 : decode cX11_word 8 = .ok (.aload_n 0, 1) := by decide +kernel
theorem dX11_word_9 : decode cX11_word 9 = .ok (.iconst 1, 1) := by decide +kernel
theorem dX11_word_10 : decode cX11_word 10 = .ok (.invokevirtual 189, 3) := by decide +kernel
theorem dX11_word_13 : decode cX11_word 13 = .ok (.aload_n 0, 1) := by decide +kernel
theorem dX11_word_14 : decode cX11_word 14 = .ok (.invokevirtual 192, 3) := by decide +kernel
theorem dX11_word_17 : decode cX11_word 17 = .ok (.return_, 1) := by decide +kernel
theorem dX11_number_0 : decode cX11_number 0 = .ok (.aload_n 0, 1) := by decide +kernel
theorem dX11_number_1 : decode cX11_number 1 = .ok (.invokevirtual 105, 3) := by decide +kernel
theorem dX11_number_4 : decode cX11_number 4 = .ok (.ifCond .eq 16, 3) := by decide +kernel
theorem dX11_number_7 : decode cX11_number 7 = .ok (.aload_n 0, 1) := by decide +kernel
theorem dX11_number_8 : decode cX11_number 8 = .ok (.getfield 122, 3) := by decide +kernel
theorem dX11_number_11 : decode cX11_number 11 = .ok (.iconst 2, 1) := by decide +kernel
theorem dX11_number_12 : decode cX11_number 12 = .ok (.if_icmp .eq 8, 3) := by decide +kernel
theorem dX11_number_15 : decode cX11_number 15 = .ok (.aload_n 0, 1) := by decide +kernel
theorem dX11_number_16 : decode cX11_number 16 = .ok (.iconst 1, 1) := by decide +kernel
theorem dX11_number_17 : decode cX11_number 17 = .ok (.invokevirtual 189, 3) := by decide +kernel
theorem dX11_number_20 : decode cX11_number 20 = .ok (.aload_n 0, 1) := by decide +kernel
theorem dX11_number_21 : decode cX11_number 21 = .ok (.invokevirtual 105, 3) := by decide +kernel
theorem dX11_number_24 : decode cX11_number 24 = .ok (.ifCond .eq 23, 3) := by decide +kernel
theorem dX11_number_27 : decode cX11_number 27 = .ok (.aload_n 0, 1) := by decide +kernel
theorem dX11_number_28 : decode cX11_number 28 = .ok (.getfield 133, 3) := by decide +kernel
theorem dX11_number_31 : decode cX11_number 31 = .ok (.i2l, 1) := by decide +kernel
theorem dX11_number_32 : decode cX11_number 32 = .ok (.iload_n 1, 1) := by decide +kernel
theorem dX11_number_33 : decode cX11_number 33 = .ok (.i2l, 1) := by decide +kernel
theorem dX11_number_34 : decode cX11_number 34 = .ok (.iload_n 2, 1) := by decide +kernel
theorem dX11_number_35 : decode cX11_number 35 = .ok (.i2l, 1) := by decide +kernel
theorem dX11_number_36 : decode cX11_number 36 = .ok (.invokestatic 64, 3) := by decide +kernel
theorem dX11_number_39 : decode cX11_number 39 = .ok (.ifCond .ne 8, 3) := by decide +kernel
theorem dX11_number_42 : decode cX11_number 42 = .ok (.aload_n 0, 1) := by decide +kernel
theorem dX11_number_43 : decode cX11_number 43 = .ok (.iconst 2, 1) := by decide +kernel
theorem dX11_number_44 : decode cX11_number 44 = .ok (.invokevirtual 189, 3) := by decide +kernel
theorem dX11_number_47 : decode cX11_number 47 = .ok (.aload_n 0, 1) := by decide +kernel
theorem dX11_number_48 : decode cX11_number 48 = .ok (.invokevirtual 105, 3) := by decide +kernel
theorem dX11_number_51 : decode cX11_number 51 = .ok (.ifCond .eq 10, 3) := by decide +kernel
theorem dX11_number_54 : decode cX11_number 54 = .ok (.aload_n 0, 1) := by decide +kernel
theorem dX11_number_55 : decode cX11_number 55 = .ok (.getfield 133, 3) := by decide +kernel
theorem dX11_number_58 : decode cX11_number 58 = .ok (.goto 4, 3) := by decide +kernel
theorem dX11_number_61 : decode cX11_number 61 = .ok (.iload_n 1, 1) := by decide +kernel
theorem dX11_number_62 : decode cX11_number 62 = .ok (.istore_n 3, 1) := by decide +kernel
theorem dX11_number_63 : decode cX11_number 63 = .ok (.aload_n 0, 1) := by decide +kernel
theorem dX11_number_64 : decode cX11_number 64 = .ok (.invokevirtual 192, 3) := by decide +kernel
theorem dX11_number_67 : decode cX11_number 67 = .ok (.iload_n 3, 1) := by decide +kernel
theorem dX11_number_68 : decode cX11_number 68 = .ok (.ireturn, 1) := by decide +kernel
theorem dX11_numberAfter_0 : decode cX11_numberAfter 0 = .ok (.aload_n 0, 1) := by decide +kernel
theorem dX11_numberAfter_1 : decode cX11_numberAfter 1 = .ok (.aload_n 1, 1) := by decide +kernel
theorem dX11_numberAfter_2 : decode cX11_numberAfter 2 = .ok (.invokevirtual 195, 3) := by decide +kernel
theorem dX11_numberAfter_5 : decode cX11_numberAfter 5 = .ok (.aload_n 0, 1) := by decide +kernel
theorem dX11_numberAfter_6 : decode cX11_numberAfter 6 = .ok (.iload_n 2, 1) := by decide +kernel
theorem dX11_numberAfter_7 : decode cX11_numberAfter 7 = .ok (.iload_n 3, 1) := by decide +kernel
theorem dX11_numberAfter_8 : decode cX11_numberAfter 8 = .ok (.invokevirtual 198, 3) := by decide +kernel
theorem dX11_numberAfter_11 : decode cX11_numberAfter 11 = .ok (.ireturn, 1) := by decide +kernel
theorem dX11_letter_0 : decode cX11_letter 0 = .ok (.iload_n 1, 1) := by decide +kernel
theorem dX11_letter_1 : decode cX11_letter 1 = .ok (.aload_n 0, 1) := by decide +kernel
theorem dX11_letter_2 : decode cX11_letter 2 = .ok (.getfield 115, 3) := by decide +kernel
theorem dX11_letter_5 : decode cX11_letter 5 = .ok (.aload_n 0, 1) := by decide +kernel
theorem dX11_letter_6 : decode cX11_letter 6 = .ok (.getfield 109, 3) := by decide +kernel
theorem dX11_letter_9 : decode cX11_letter 9 = .ok (.isub, 1) := by decide +kernel
theorem dX11_letter_10 : decode cX11_letter 10 = .ok (.if_icmp .ge 17, 3) := by decide +kernel
theorem dX11_letter_13 : decode cX11_letter 13 = .ok (.aload_n 0, 1) := by decide +kernel
theorem dX11_letter_14 : decode cX11_letter 14 = .ok (.getfield 32, 3) := by decide +kernel
theorem dX11_letter_17 : decode cX11_letter 17 = .ok (.aload_n 0, 1) := by decide +kernel
theorem dX11_letter_18 : decode cX11_letter 18 = .ok (.getfield 109, 3) := by decide +kernel
theorem dX11_letter_21 : decode cX11_letter 21 = .ok (.iload_n 1, 1) := by decide +kernel
theorem dX11_letter_22 : decode cX11_letter 22 = .ok (.iadd, 1) := by decide +kernel
theorem dX11_letter_23 : decode cX11_letter 23 = .ok (.baload, 1) := by decide +kernel
theorem dX11_letter_24 : decode cX11_letter 24 = .ok (.goto 4, 3) := by decide +kernel
theorem dX11_letter_27 : decode cX11_letter 27 = .ok (.iconst 0, 1) := by decide +kernel
theorem dX11_letter_28 : decode cX11_letter 28 = .ok (.ireturn, 1) := by decide +kernel
theorem dX11_named_0 : decode cX11_named 0 = .ok (.iconst 0, 1) := by decide +kernel
theorem dX11_named_1 : decode cX11_named 1 = .ok (.istore 5, 2) := by decide +kernel
theorem dX11_named_3 : decode cX11_named 3 = .ok (.iload 5, 2) := by decide +kernel
theorem dX11_named_5 : decode cX11_named 5 = .ok (.iload 4, 2) := by decide +kernel
theorem dX11_named_7 : decode cX11_named 7 = .ok (.if_icmp .ge 91, 3) := by decide +kernel
theorem dX11_named_10 : decode cX11_named 10 = .ok (.aload_n 0, 1) := by decide +kernel
theorem dX11_named_11 : decode cX11_named 11 = .ok (.getfield 115, 3) := by decide +kernel
theorem dX11_named_14 : decode cX11_named 14 = .ok (.aload_n 0, 1) := by decide +kernel
theorem dX11_named_15 : decode cX11_named 15 = .ok (.getfield 109, 3) := by decide +kernel
theorem dX11_named_18 : decode cX11_named 18 = .ok (.isub, 1) := by decide +kernel
theorem dX11_named_19 : decode cX11_named 19 = .ok (.bipush 6, 2) := by decide +kernel
theorem dX11_named_21 : decode cX11_named 21 = .ok (.if_icmp .gt 7, 3) := by decide +kernel
theorem dX11_named_24 : decode cX11_named 24 = .ok (.iconst 1, 1) := by decide +kernel
theorem dX11_named_25 : decode cX11_named 25 = .ok (.goto 4, 3) := by decide +kernel
theorem dX11_named_28 : decode cX11_named 28 = .ok (.iconst 0, 1) := by decide +kernel
theorem dX11_named_29 : decode cX11_named 29 = .ok (.istore 6, 2) := by decide +kernel
theorem dX11_named_31 : decode cX11_named 31 = .ok (.iconst 0, 1) := by decide +kernel
theorem dX11_named_32 : decode cX11_named 32 = .ok (.istore 7, 2) := by decide +kernel
theorem dX11_named_34 : decode cX11_named 34 = .ok (.iload 7, 2) := by decide +kernel
theorem dX11_named_36 : decode cX11_named 36 = .ok (.bipush 6, 2) := by decide +kernel
theorem dX11_named_38 : decode cX11_named 38 = .ok (.if_icmp .ge 46, 3) := by decide +kernel
theorem dX11_named_41 : decode cX11_named 41 = .ok (.iload 6, 2) := by decide +kernel
theorem dX11_named_43 : decode cX11_named 43 = .ok (.ifCond .eq 41, 3) := by decide +kernel
theorem dX11_named_46 : decode cX11_named 46 = .ok (.aload_n 0, 1) := by decide +kernel
theorem dX11_named_47 : decode cX11_named 47 = .ok (.getfield 29, 3) := by decide +kernel
theorem dX11_named_50 : decode cX11_named 50 = .ok (.iload_n 1, 1) := by decide +kernel
theorem dX11_named_51 : decode cX11_named 51 = .ok (.iload_n 2, 1) := by decide +kernel
theorem dX11_named_52 : decode cX11_named 52 = .ok (.iload 5, 2) := by decide +kernel
theorem dX11_named_54 : decode cX11_named 54 = .ok (.imul, 1) := by decide +kernel
theorem dX11_named_55 : decode cX11_named 55 = .ok (.iadd, 1) := by decide +kernel
theorem dX11_named_56 : decode cX11_named 56 = .ok (.iload_n 3, 1) := by decide +kernel
theorem dX11_named_57 : decode cX11_named 57 = .ok (.iadd, 1) := by decide +kernel
theorem dX11_named_58 : decode cX11_named 58 = .ok (.iload 7, 2) := by decide +kernel
theorem dX11_named_60 : decode cX11_named 60 = .ok (.iadd, 1) := by decide +kernel
theorem dX11_named_61 : decode cX11_named 61 = .ok (.iaload, 1) := by decide +kernel
theorem dX11_named_62 : decode cX11_named 62 = .ok (.aload_n 0, 1) := by decide +kernel
theorem dX11_named_63 : decode cX11_named 63 = .ok (.iload 7, 2) := by decide +kernel
theorem dX11_named_65 : decode cX11_named 65 = .ok (.invokevirtual 201, 3) := by decide +kernel
theorem dX11_named_68 : decode cX11_named 68 = .ok (.if_icmp .ne 7, 3) := by decide +kernel
theorem dX11_named_71 : decode cX11_named 71 = .ok (.iconst 1, 1) := by decide +kernel
theorem dX11_named_72 : decode cX11_named 72 = .ok (.goto 4, 3) := by decide +kernel
theorem dX11_named_75 : decode cX11_named 75 = .ok (.iconst 0, 1) := by decide +kernel
theorem dX11_named_76 : decode cX11_named 76 = .ok (.istore 6, 2) := by decide +kernel
theorem dX11_named_78 : decode cX11_named 78 = .ok (.iinc 7 1, 3) := by decide +kernel
theorem dX11_named_81 : decode cX11_named 81 = .ok (.goto (-47), 3) := by decide +kernel
theorem dX11_named_84 : decode cX11_named 84 = .ok (.iload 6, 2) := by decide +kernel
theorem dX11_named_86 : decode cX11_named 86 = .ok (.ifCond .eq 6, 3) := by decide +kernel
theorem dX11_named_89 : decode cX11_named 89 = .ok (.iload 5, 2) := by decide +kernel
theorem dX11_named_91 : decode cX11_named 91 = .ok (.ireturn, 1) := by decide +kernel
theorem dX11_named_92 : decode cX11_named 92 = .ok (.iinc 5 1, 3) := by decide +kernel
theorem dX11_named_95 : decode cX11_named 95 = .ok (.goto (-92), 3) := by decide +kernel
theorem dX11_named_98 : decode cX11_named 98 = .ok (.iconst (-1), 1) := by decide +kernel
theorem dX11_named_99 : decode cX11_named 99 = .ok (.ireturn, 1) := by decide +kernel
theorem dX11_kindNamed_0 : decode cX11_kindNamed 0 = .ok (.iload_n 1, 1) := by decide +kernel
theorem dX11_kindNamed_1 : decode cX11_kindNamed 1 = .ok (.ifCond .ne 19, 3) := by decide +kernel
theorem dX11_kindNamed_4 : decode cX11_kindNamed 4 = .ok (.aload_n 0, 1) := by decide +kernel
theorem dX11_kindNamed_5 : decode cX11_kindNamed 5 = .ok (.bipush 11, 2) := by decide +kernel
theorem dX11_kindNamed_7 : decode cX11_kindNamed 7 = .ok (.bipush 9, 2) := by decide +kernel
theorem dX11_kindNamed_9 : decode cX11_kindNamed 9 = .ok (.iconst 3, 1) := by decide +kernel
theorem dX11_kindNamed_10 : decode cX11_kindNamed 10 = .ok (.aload_n 0, 1) := by decide +kernel
theorem dX11_kindNamed_11 : decode cX11_kindNamed 11 = .ok (.getfield 29, 3) := by decide +kernel
theorem dX11_kindNamed_14 : decode cX11_kindNamed 14 = .ok (.iconst 3, 1) := by decide +kernel
theorem dX11_kindNamed_15 : decode cX11_kindNamed 15 = .ok (.iaload, 1) := by decide +kernel
theorem dX11_kindNamed_16 : decode cX11_kindNamed 16 = .ok (.invokevirtual 204, 3) := by decide +kernel
theorem dX11_kindNamed_19 : decode cX11_kindNamed 19 = .ok (.ireturn, 1) := by decide +kernel
theorem dX11_kindNamed_20 : decode cX11_kindNamed 20 = .ok (.iload_n 1, 1) := by decide +kernel
theorem dX11_kindNamed_21 : decode cX11_kindNamed 21 = .ok (.iconst 1, 1) := by decide +kernel
theorem dX11_kindNamed_22 : decode cX11_kindNamed 22 = .ok (.if_icmp .ne 19, 3) := by decide +kernel
theorem dX11_kindNamed_25 : decode cX11_kindNamed 25 = .ok (.aload_n 0, 1) := by decide +kernel
theorem dX11_kindNamed_26 : decode cX11_kindNamed 26 = .ok (.bipush 83, 2) := by decide +kernel
theorem dX11_kindNamed_28 : decode cX11_kindNamed 28 = .ok (.bipush 8, 2) := by decide +kernel
theorem dX11_kindNamed_30 : decode cX11_kindNamed 30 = .ok (.iconst 2, 1) := by decide +kernel
theorem dX11_kindNamed_31 : decode cX11_kindNamed 31 = .ok (.aload_n 0, 1) := by decide +kernel
theorem dX11_kindNamed_32 : decode cX11_kindNamed 32 = .ok (.getfield 29, 3) := by decide +kernel
theorem dX11_kindNamed_35 : decode cX11_kindNamed 35 = .ok (.iconst 4, 1) := by decide +kernel
theorem dX11_kindNamed_36 : decode cX11_kindNamed 36 = .ok (.iaload, 1) := by decide +kernel
theorem dX11_kindNamed_37 : decode cX11_kindNamed 37 = .ok (.invokevirtual 204, 3) := by decide +kernel
theorem dX11_kindNamed_40 : decode cX11_kindNamed 40 = .ok (.ireturn, 1) := by decide +kernel
theorem dX11_kindNamed_41 : decode cX11_kindNamed 41 = .ok (.iload_n 1, 1) := by decide +kernel
theorem dX11_kindNamed_42 : decode cX11_kindNamed 42 = .ok (.iconst 2, 1) := by decide +kernel
theorem dX11_kindNamed_43 : decode cX11_kindNamed 43 = .ok (.if_icmp .ne 22, 3) := by decide +kernel
theorem dX11_kindNamed_46 : decode cX11_kindNamed 46 = .ok (.aload_n 0, 1) := by decide +kernel
theorem dX11_kindNamed_47 : decode cX11_kindNamed 47 = .ok (.sipush 163, 3) := by decide +kernel
theorem dX11_kindNamed_50 : decode cX11_kindNamed 50 = .ok (.bipush 7, 2) := by decide +kernel
theorem dX11_kindNamed_52 : decode cX11_kindNamed 52 = .ok (.iconst 1, 1) := by decide +kernel
theorem dX11_kindNamed_53 : decode cX11_kindNamed 53 = .ok (.aload_n 0, 1) := by decide +kernel
theorem dX11_kindNamed_54 : decode cX11_kindNamed 54 = .ok (.getfield 29, 3) := by decide +kernel
theorem dX11_kindNamed_57 : decode cX11_kindNamed 57 = .ok (.iconst 5, 1) := by decide +kernel
theorem dX11_kindNamed_58 : decode cX11_kindNamed 58 = .ok (.iaload, 1) := by decide +kernel
theorem dX11_kindNamed_59 : decode cX11_kindNamed 59 = .ok (.invokevirtual 204, 3) := by decide +kernel
theorem dX11_kindNamed_62 : decode cX11_kindNamed 62 = .ok (.goto 21, 3) := by decide +kernel
theorem dX11_kindNamed_65 : decode cX11_kindNamed 65 = .ok (.aload_n 0, 1) := by decide +kernel
theorem dX11_kindNamed_66 : decode cX11_kindNamed 66 = .ok (.sipush 205, 3) := by decide +kernel
theorem dX11_kindNamed_69 : decode cX11_kindNamed 69 = .ok (.bipush 21, 2) := by decide +kernel
theorem dX11_kindNamed_71 : decode cX11_kindNamed 71 = .ok (.bipush 15, 2) := by decide +kernel
theorem dX11_kindNamed_73 : decode cX11_kindNamed 73 = .ok (.aload_n 0, 1) := by decide +kernel
theorem dX11_kindNamed_74 : decode cX11_kindNamed 74 = .ok (.getfield 29, 3) := by decide +kernel
theorem dX11_kindNamed_77 : decode cX11_kindNamed 77 = .ok (.bipush 6, 2) := by decide +kernel
theorem dX11_kindNamed_79 : decode cX11_kindNamed 79 = .ok (.iaload, 1) := by decide +kernel
theorem dX11_kindNamed_80 : decode cX11_kindNamed 80 = .ok (.invokevirtual 204, 3) := by decide +kernel
theorem dX11_kindNamed_83 : decode cX11_kindNamed 83 = .ok (.ireturn, 1) := by decide +kernel
theorem dX11_checkName_0 : decode cX11_checkName 0 = .ok (.aload_n 0, 1) := by decide +kernel
theorem dX11_checkName_1 : decode cX11_checkName 1 = .ok (.invokevirtual 105, 3) := by decide +kernel
theorem dX11_checkName_4 : decode cX11_checkName 4 = .ok (.ifCond .eq 37, 3) := by decide +kernel
theorem dX11_checkName_7 : decode cX11_checkName 7 = .ok (.aload_n 0, 1) := by decide +kernel
theorem dX11_checkName_8 : decode cX11_checkName 8 = .ok (.getfield 122, 3) := by decide +kernel
theorem dX11_checkName_11 : decode cX11_checkName 11 = .ok (.iconst 1, 1) := by decide +kernel
theorem dX11_checkName_12 : decode cX11_checkName 12 = .ok (.if_icmp .ne 24, 3) := by decide +kernel
theorem dX11_checkName_15 : decode cX11_checkName 15 = .ok (.aload_n 0, 1) := by decide +kernel
theorem dX11_checkName_16 : decode cX11_checkName 16 = .ok (.getfield 115, 3) := by decide +kernel
theorem dX11_checkName_19 : decode cX11_checkName 19 = .ok (.aload_n 0, 1) := by decide +kernel
theorem dX11_checkName_20 : decode cX11_checkName 20 = .ok (.getfield 109, 3) := by decide +kernel
theorem dX11_checkName_23 : decode cX11_checkName 23 = .ok (.isub, 1) := by decide +kernel
theorem dX11_checkName_24 : decode cX11_checkName 24 = .ok (.bipush 6, 2) := by decide +kernel
theorem dX11_checkName_26 : decode cX11_checkName 26 = .ok (.if_icmp .gt 10, 3) := by decide +kernel
theorem dX11_checkName_29 : decode cX11_checkName 29 = .ok (.aload_n 0, 1) := by decide +kernel
theorem dX11_checkName_30 : decode cX11_checkName 30 = .ok (.invokevirtual 208, 3) := by decide +kernel
theorem dX11_checkName_33 : decode cX11_checkName 33 = .ok (.ifCond .eq 8, 3) := by decide +kernel
theorem dX11_checkName_36 : decode cX11_checkName 36 = .ok (.aload_n 0, 1) := by decide +kernel
theorem dX11_checkName_37 : decode cX11_checkName 37 = .ok (.iconst 1, 1) := by decide +kernel
theorem dX11_checkName_38 : decode cX11_checkName 38 = .ok (.invokevirtual 189, 3) := by decide +kernel
theorem dX11_checkName_41 : decode cX11_checkName 41 = .ok (.return_, 1) := by decide +kernel
theorem dX11_newName_0 : decode cX11_newName 0 = .ok (.aload_n 0, 1) := by decide +kernel
theorem dX11_newName_1 : decode cX11_newName 1 = .ok (.invokevirtual 211, 3) := by decide +kernel
theorem dX11_newName_4 : decode cX11_newName 4 = .ok (.aload_n 0, 1) := by decide +kernel
theorem dX11_newName_5 : decode cX11_newName 5 = .ok (.invokevirtual 105, 3) := by decide +kernel
theorem dX11_newName_8 : decode cX11_newName 8 = .ok (.ifCond .eq 26, 3) := by decide +kernel
theorem dX11_newName_11 : decode cX11_newName 11 = .ok (.aload_n 0, 1) := by decide +kernel
theorem dX11_newName_12 : decode cX11_newName 12 = .ok (.iload_n 1, 1) := by decide +kernel
theorem dX11_newName_13 : decode cX11_newName 13 = .ok (.invokevirtual 214, 3) := by decide +kernel
theorem dX11_newName_16 : decode cX11_newName 16 = .ok (.iconst (-1), 1) := by decide +kernel
theorem dX11_newName_17 : decode cX11_newName 17 = .ok (.if_icmp .ne 12, 3) := by decide +kernel
theorem dX11_newName_20 : decode cX11_newName 20 = .ok (.aload_n 0, 1) := by decide +kernel
theorem dX11_newName_21 : decode cX11_newName 21 = .ok (.iload_n 2, 1) := by decide +kernel
theorem dX11_newName_22 : decode cX11_newName 22 = .ok (.invokevirtual 214, 3) := by decide +kernel
theorem dX11_newName_25 : decode cX11_newName 25 = .ok (.iconst (-1), 1) := by decide +kernel
theorem dX11_newName_26 : decode cX11_newName 26 = .ok (.if_icmp .eq 8, 3) := by decide +kernel
theorem dX11_newName_29 : decode cX11_newName 29 = .ok (.aload_n 0, 1) := by decide +kernel
theorem dX11_newName_30 : decode cX11_newName 30 = .ok (.iconst 3, 1) := by decide +kernel
theorem dX11_newName_31 : decode cX11_newName 31 = .ok (.invokevirtual 189, 3) := by decide +kernel
theorem dX11_newName_34 : decode cX11_newName 34 = .ok (.iconst 0, 1) := by decide +kernel
theorem dX11_newName_35 : decode cX11_newName 35 = .ok (.istore 4, 2) := by decide +kernel
theorem dX11_newName_37 : decode cX11_newName 37 = .ok (.iload 4, 2) := by decide +kernel
theorem dX11_newName_39 : decode cX11_newName 39 = .ok (.bipush 6, 2) := by decide +kernel
theorem dX11_newName_41 : decode cX11_newName 41 = .ok (.if_icmp .ge 24, 3) := by decide +kernel
theorem dX11_newName_44 : decode cX11_newName 44 = .ok (.aload_n 0, 1) := by decide +kernel
theorem dX11_newName_45 : decode cX11_newName 45 = .ok (.getfield 29, 3) := by decide +kernel
theorem dX11_newName_48 : decode cX11_newName 48 = .ok (.iload_n 3, 1) := by decide +kernel
theorem dX11_newName_49 : decode cX11_newName 49 = .ok (.iload 4, 2) := by decide +kernel
theorem dX11_newName_51 : decode cX11_newName 51 = .ok (.iadd, 1) := by decide +kernel
theorem dX11_newName_52 : decode cX11_newName 52 = .ok (.aload_n 0, 1) := by decide +kernel
theorem dX11_newName_53 : decode cX11_newName 53 = .ok (.iload 4, 2) := by decide +kernel
theorem dX11_newName_55 : decode cX11_newName 55 = .ok (.invokevirtual 201, 3) := by decide +kernel
theorem dX11_newName_58 : decode cX11_newName 58 = .ok (.iastore, 1) := by decide +kernel
theorem dX11_newName_59 : decode cX11_newName 59 = .ok (.iinc 4 1, 3) := by decide +kernel
theorem dX11_newName_62 : decode cX11_newName 62 = .ok (.goto (-25), 3) := by decide +kernel
theorem dX11_newName_65 : decode cX11_newName 65 = .ok (.aload_n 0, 1) := by decide +kernel
theorem dX11_newName_66 : decode cX11_newName 66 = .ok (.invokevirtual 192, 3) := by decide +kernel
theorem dX11_newName_69 : decode cX11_newName 69 = .ok (.return_, 1) := by decide +kernel
theorem dX11_oldName_0 : decode cX11_oldName 0 = .ok (.aload_n 0, 1) := by decide +kernel
theorem dX11_oldName_1 : decode cX11_oldName 1 = .ok (.invokevirtual 211, 3) := by decide +kernel
theorem dX11_oldName_4 : decode cX11_oldName 4 = .ok (.aload_n 0, 1) := by decide +kernel
theorem dX11_oldName_5 : decode cX11_oldName 5 = .ok (.invokevirtual 105, 3) := by decide +kernel
theorem dX11_oldName_8 : decode cX11_oldName 8 = .ok (.ifCond .eq 11, 3) := by decide +kernel
theorem dX11_oldName_11 : decode cX11_oldName 11 = .ok (.aload_n 0, 1) := by decide +kernel
theorem dX11_oldName_12 : decode cX11_oldName 12 = .ok (.iload_n 1, 1) := by decide +kernel
theorem dX11_oldName_13 : decode cX11_oldName 13 = .ok (.invokevirtual 214, 3) := by decide +kernel
theorem dX11_oldName_16 : decode cX11_oldName 16 = .ok (.goto 4, 3) := by decide +kernel
theorem dX11_oldName_19 : decode cX11_oldName 19 = .ok (.iconst 0, 1) := by decide +kernel
theorem dX11_oldName_20 : decode cX11_oldName 20 = .ok (.istore_n 2, 1) := by decide +kernel
theorem dX11_oldName_21 : decode cX11_oldName 21 = .ok (.iload_n 2, 1) := by decide +kernel
theorem dX11_oldName_22 : decode cX11_oldName 22 = .ok (.iconst (-1), 1) := by decide +kernel
theorem dX11_oldName_23 : decode cX11_oldName 23 = .ok (.if_icmp .ne 8, 3) := by decide +kernel
theorem dX11_oldName_26 : decode cX11_oldName 26 = .ok (.aload_n 0, 1) := by decide +kernel
theorem dX11_oldName_27 : decode cX11_oldName 27 = .ok (.iconst 3, 1) := by decide +kernel
theorem dX11_oldName_28 : decode cX11_oldName 28 = .ok (.invokevirtual 189, 3) := by decide +kernel
theorem dX11_oldName_31 : decode cX11_oldName 31 = .ok (.aload_n 0, 1) := by decide +kernel
theorem dX11_oldName_32 : decode cX11_oldName 32 = .ok (.invokevirtual 192, 3) := by decide +kernel
theorem dX11_oldName_35 : decode cX11_oldName 35 = .ok (.iload_n 2, 1) := by decide +kernel
theorem dX11_oldName_36 : decode cX11_oldName 36 = .ok (.ireturn, 1) := by decide +kernel
theorem dX11_begins_0 : decode cX11_begins 0 = .ok (.iload_n 1, 1) := by decide +kernel
theorem dX11_begins_1 : decode cX11_begins 1 = .ok (.ifCond .ne 8, 3) := by decide +kernel
theorem dX11_begins_4 : decode cX11_begins 4 = .ok (.aload_n 0, 1) := by decide +kernel
theorem dX11_begins_5 : decode cX11_begins 5 = .ok (.iconst 4, 1) := by decide +kernel
theorem dX11_begins_6 : decode cX11_begins 6 = .ok (.invokevirtual 189, 3) := by decide +kernel
theorem dX11_begins_9 : decode cX11_begins 9 = .ok (.aload_n 0, 1) := by decide +kernel
theorem dX11_begins_10 : decode cX11_begins 10 = .ok (.invokevirtual 192, 3) := by decide +kernel
theorem dX11_begins_13 : decode cX11_begins 13 = .ok (.aload_n 0, 1) := by decide +kernel
theorem dX11_begins_14 : decode cX11_begins 14 = .ok (.invokevirtual 105, 3) := by decide +kernel
theorem dX11_begins_17 : decode cX11_begins 17 = .ok (.ireturn, 1) := by decide +kernel
theorem dX11_parseClass_0 : decode cX11_parseClass 0 = .ok (.aload_n 0, 1) := by decide +kernel
theorem dX11_parseClass_1 : decode cX11_parseClass 1 = .ok (.aload_n 0, 1) := by decide +kernel
theorem dX11_parseClass_2 : decode cX11_parseClass 2 = .ok (.getfield 29, 3) := by decide +kernel
theorem dX11_parseClass_5 : decode cX11_parseClass 5 = .ok (.iconst 3, 1) := by decide +kernel
theorem dX11_parseClass_6 : decode cX11_parseClass 6 = .ok (.iaload, 1) := by decide +kernel
theorem dX11_parseClass_7 : decode cX11_parseClass 7 = .ok (.bipush 8, 2) := by decide +kernel
theorem dX11_parseClass_9 : decode cX11_parseClass 9 = .ok (.if_icmp .ge 7, 3) := by decide +kernel
theorem dX11_parseClass_12 : decode cX11_parseClass 12 = .ok (.iconst 1, 1) := by decide +kernel
theorem dX11_parseClass_13 : decode cX11_parseClass 13 = .ok (.goto 4, 3) := by decide +kernel
theorem dX11_parseClass_16 : decode cX11_parseClass 16 = .ok (.iconst 0, 1) := by decide +kernel
theorem dX11_parseClass_17 : decode cX11_parseClass 17 = .ok (.invokevirtual 217, 3) := by decide +kernel
theorem dX11_parseClass_20 : decode cX11_parseClass 20 = .ok (.ifCond .ne 4, 3) := by decide +kernel
theorem dX11_parseClass_23 : decode cX11_parseClass 23 = .ok (.return_, 1) := by decide +kernel
theorem dX11_parseClass_24 : decode cX11_parseClass 24 = .ok (.bipush 11, 2) := by decide +kernel
theorem dX11_parseClass_26 : decode cX11_parseClass 26 = .ok (.bipush 9, 2) := by decide +kernel
theorem dX11_parseClass_28 : decode cX11_parseClass 28 = .ok (.aload_n 0, 1) := by decide +kernel
theorem dX11_parseClass_29 : decode cX11_parseClass 29 = .ok (.getfield 29, 3) := by decide +kernel
theorem dX11_parseClass_32 : decode cX11_parseClass 32 = .ok (.iconst 3, 1) := by decide +kernel
theorem dX11_parseClass_33 : decode cX11_parseClass 33 = .ok (.iaload, 1) := by decide +kernel
theorem dX11_parseClass_34 : decode cX11_parseClass 34 = .ok (.imul, 1) := by decide +kernel
theorem dX11_parseClass_35 : decode cX11_parseClass 35 = .ok (.iadd, 1) := by decide +kernel
theorem dX11_parseClass_36 : decode cX11_parseClass 36 = .ok (.istore_n 1, 1) := by decide +kernel
theorem dX11_parseClass_37 : decode cX11_parseClass 37 = .ok (.aload_n 0, 1) := by decide +kernel
theorem dX11_parseClass_38 : decode cX11_parseClass 38 = .ok (.iconst 0, 1) := by decide +kernel
theorem dX11_parseClass_39 : decode cX11_parseClass 39 = .ok (.iconst 0, 1) := by decide +kernel
theorem dX11_parseClass_40 : decode cX11_parseClass 40 = .ok (.iload_n 1, 1) := by decide +kernel
theorem dX11_parseClass_41 : decode cX11_parseClass 41 = .ok (.iconst 3, 1) := by decide +kernel
theorem dX11_parseClass_42 : decode cX11_parseClass 42 = .ok (.iadd, 1) := by decide +kernel
theorem dX11_parseClass_43 : decode cX11_parseClass 43 = .ok (.invokevirtual 220, 3) := by decide +kernel
theorem dX11_parseClass_46 : decode cX11_parseClass 46 = .ok (.aload_n 0, 1) := by decide +kernel
theorem dX11_parseClass_47 : decode cX11_parseClass 47 = .ok (.ldc 167, 2) := by decide +kernel
theorem dX11_parseClass_49 : decode cX11_parseClass 49 = .ok (.invokevirtual 195, 3) := by decide +kernel
theorem dX11_parseClass_52 : decode cX11_parseClass 52 = .ok (.aload_n 0, 1) := by decide +kernel
theorem dX11_parseClass_53 : decode cX11_parseClass 53 = .ok (.ldc 169, 2) := by decide +kernel
theorem dX11_parseClass_55 : decode cX11_parseClass 55 = .ok (.invokevirtual 157, 3) := by decide +kernel
theorem dX11_parseClass_58 : decode cX11_parseClass 58 = .ok (.istore_n 2, 1) := by decide +kernel
theorem dX11_parseClass_59 : decode cX11_parseClass 59 = .ok (.iload_n 2, 1) := by decide +kernel
theorem dX11_parseClass_60 : decode cX11_parseClass 60 = .ok (.ifCond .eq 7, 3) := by decide +kernel
theorem dX11_parseClass_63 : decode cX11_parseClass 63 = .ok (.aload_n 0, 1) := by decide +kernel
theorem dX11_parseClass_64 : decode cX11_parseClass 64 = .ok (.invokevirtual 192, 3) := by decide +kernel
theorem dX11_parseClass_67 : decode cX11_parseClass 67 = .ok (.aload_n 0, 1) := by decide +kernel
theorem dX11_parseClass_68 : decode cX11_parseClass 68 = .ok (.getfield 29, 3) := by decide +kernel
theorem dX11_parseClass_71 : decode cX11_parseClass 71 = .ok (.iload_n 1, 1) := by decide +kernel
theorem dX11_parseClass_72 : decode cX11_parseClass 72 = .ok (.iconst 0, 1) := by decide +kernel
theorem dX11_parseClass_73 : decode cX11_parseClass 73 = .ok (.iadd, 1) := by decide +kernel
theorem dX11_parseClass_74 : decode cX11_parseClass 74 = .ok (.iload_n 2, 1) := by decide +kernel
theorem dX11_parseClass_75 : decode cX11_parseClass 75 = .ok (.ifCond .eq 7, 3) := by decide +kernel
theorem dX11_parseClass_78 : decode cX11_parseClass 78 = .ok (.iconst (-1), 1) := by decide +kernel
theorem dX11_parseClass_79 : decode cX11_parseClass 79 = .ok (.goto 11, 3) := by decide +kernel
theorem dX11_parseClass_82 : decode cX11_parseClass 82 = .ok (.aload_n 0, 1) := by decide +kernel
theorem dX11_parseClass_83 : decode cX11_parseClass 83 = .ok (.iconst 1, 1) := by decide +kernel
theorem dX11_parseClass_84 : decode cX11_parseClass 84 = .ok (.sipush 999, 3) := by decide +kernel
theorem dX11_parseClass_87 : decode cX11_parseClass 87 = .ok (.invokevirtual 198, 3) := by decide +kernel
theorem dX11_parseClass_90 : decode cX11_parseClass 90 = .ok (.iastore, 1) := by decide +kernel
theorem dX11_parseClass_91 : decode cX11_parseClass 91 = .ok (.aload_n 0, 1) := by decide +kernel
theorem dX11_parseClass_92 : decode cX11_parseClass 92 = .ok (.getfield 29, 3) := by decide +kernel
theorem dX11_parseClass_95 : decode cX11_parseClass 95 = .ok (.iload_n 1, 1) := by decide +kernel
theorem dX11_parseClass_96 : decode cX11_parseClass 96 = .ok (.iconst 1, 1) := by decide +kernel
theorem dX11_parseClass_97 : decode cX11_parseClass 97 = .ok (.iadd, 1) := by decide +kernel
theorem dX11_parseClass_98 : decode cX11_parseClass 98 = .ok (.iconst 0, 1) := by decide +kernel
theorem dX11_parseClass_99 : decode cX11_parseClass 99 = .ok (.iastore, 1) := by decide +kernel
theorem dX11_parseClass_100 : decode cX11_parseClass 100 = .ok (.aload_n 0, 1) := by decide +kernel
theorem dX11_parseClass_101 : decode cX11_parseClass 101 = .ok (.ldc 171, 2) := by decide +kernel
theorem dX11_parseClass_103 : decode cX11_parseClass 103 = .ok (.invokevirtual 157, 3) := by decide +kernel
theorem dX11_parseClass_106 : decode cX11_parseClass 106 = .ok (.ifCond .eq 20, 3) := by decide +kernel
theorem dX11_parseClass_109 : decode cX11_parseClass 109 = .ok (.aload_n 0, 1) := by decide +kernel
theorem dX11_parseClass_110 : decode cX11_parseClass 110 = .ok (.getfield 29, 3) := by decide +kernel
theorem dX11_parseClass_113 : decode cX11_parseClass 113 = .ok (.iload_n 1, 1) := by decide +kernel
theorem dX11_parseClass_114 : decode cX11_parseClass 114 = .ok (.iconst 1, 1) := by decide +kernel
theorem dX11_parseClass_115 : decode cX11_parseClass 115 = .ok (.iadd, 1) := by decide +kernel
theorem dX11_parseClass_116 : decode cX11_parseClass 116 = .ok (.aload_n 0, 1) := by decide +kernel
theorem dX11_parseClass_117 : decode cX11_parseClass 117 = .ok (.ldc 171, 2) := by decide +kernel
theorem dX11_parseClass_119 : decode cX11_parseClass 119 = .ok (.iconst 1, 1) := by decide +kernel
theorem dX11_parseClass_120 : decode cX11_parseClass 120 = .ok (.bipush 99, 2) := by decide +kernel
theorem dX11_parseClass_122 : decode cX11_parseClass 122 = .ok (.invokevirtual 224, 3) := by decide +kernel
theorem dX11_parseClass_125 : decode cX11_parseClass 125 = .ok (.iastore, 1) := by decide +kernel
theorem dX11_parseClass_126 : decode cX11_parseClass 126 = .ok (.aload_n 0, 1) := by decide +kernel
theorem dX11_parseClass_127 : decode cX11_parseClass 127 = .ok (.getfield 29, 3) := by decide +kernel
theorem dX11_parseClass_130 : decode cX11_parseClass 130 = .ok (.iload_n 1, 1) := by decide +kernel
theorem dX11_parseClass_131 : decode cX11_parseClass 131 = .ok (.iconst 2, 1) := by decide +kernel
theorem dX11_parseClass_132 : decode cX11_parseClass 132 = .ok (.iadd, 1) := by decide +kernel
theorem dX11_parseClass_133 : decode cX11_parseClass 133 = .ok (.iconst (-1), 1) := by decide +kernel
theorem dX11_parseClass_134 : decode cX11_parseClass 134 = .ok (.iastore, 1) := by decide +kernel
theorem dX11_parseClass_135 : decode cX11_parseClass 135 = .ok (.aload_n 0, 1) := by decide +kernel
theorem dX11_parseClass_136 : decode cX11_parseClass 136 = .ok (.ldc 173, 2) := by decide +kernel
theorem dX11_parseClass_138 : decode cX11_parseClass 138 = .ok (.invokevirtual 157, 3) := by decide +kernel
theorem dX11_parseClass_141 : decode cX11_parseClass 141 = .ok (.ifCond .eq 20, 3) := by decide +kernel
theorem dX11_parseClass_144 : decode cX11_parseClass 144 = .ok (.aload_n 0, 1) := by decide +kernel
theorem dX11_parseClass_145 : decode cX11_parseClass 145 = .ok (.invokevirtual 192, 3) := by decide +kernel
theorem dX11_parseClass_148 : decode cX11_parseClass 148 = .ok (.aload_n 0, 1) := by decide +kernel
theorem dX11_parseClass_149 : decode cX11_parseClass 149 = .ok (.getfield 29, 3) := by decide +kernel
theorem dX11_parseClass_152 : decode cX11_parseClass 152 = .ok (.iload_n 1, 1) := by decide +kernel
theorem dX11_parseClass_153 : decode cX11_parseClass 153 = .ok (.iconst 2, 1) := by decide +kernel
theorem dX11_parseClass_154 : decode cX11_parseClass 154 = .ok (.iadd, 1) := by decide +kernel
theorem dX11_parseClass_155 : decode cX11_parseClass 155 = .ok (.aload_n 0, 1) := by decide +kernel
theorem dX11_parseClass_156 : decode cX11_parseClass 156 = .ok (.iconst 0, 1) := by decide +kernel
theorem dX11_parseClass_157 : decode cX11_parseClass 157 = .ok (.invokevirtual 228, 3) := by decide +kernel
theorem dX11_parseClass_160 : decode cX11_parseClass 160 = .ok (.iastore, 1) := by decide +kernel
theorem dX11_parseClass_161 : decode cX11_parseClass 161 = .ok (.aload_n 0, 1) := by decide +kernel
theorem dX11_parseClass_162 : decode cX11_parseClass 162 = .ok (.getfield 29, 3) := by decide +kernel
theorem dX11_parseClass_165 : decode cX11_parseClass 165 = .ok (.iconst 3, 1) := by decide +kernel
theorem dX11_parseClass_166 : decode cX11_parseClass 166 = .ok (.dup2, 1) := by decide +kernel
theorem dX11_parseClass_167 : decode cX11_parseClass 167 = .ok (.iaload, 1) := by decide +kernel
theorem dX11_parseClass_168 : decode cX11_parseClass 168 = .ok (.iconst 1, 1) := by decide +kernel
theorem dX11_parseClass_169 : decode cX11_parseClass 169 = .ok (.iadd, 1) := by decide +kernel
theorem dX11_parseClass_170 : decode cX11_parseClass 170 = .ok (.iastore, 1) := by decide +kernel
theorem dX11_parseClass_171 : decode cX11_parseClass 171 = .ok (.return_, 1) := by decide +kernel
theorem dX11_parseUser_0 : decode cX11_parseUser 0 = .ok (.aload_n 0, 1) := by decide +kernel
theorem dX11_parseUser_1 : decode cX11_parseUser 1 = .ok (.aload_n 0, 1) := by decide +kernel
theorem dX11_parseUser_2 : decode cX11_parseUser 2 = .ok (.getfield 29, 3) := by decide +kernel
theorem dX11_parseUser_5 : decode cX11_parseUser 5 = .ok (.iconst 4, 1) := by decide +kernel
theorem dX11_parseUser_6 : decode cX11_parseUser 6 = .ok (.iaload, 1) := by decide +kernel
theorem dX11_parseUser_7 : decode cX11_parseUser 7 = .ok (.bipush 10, 2) := by decide +kernel
theorem dX11_parseUser_9 : decode cX11_parseUser 9 = .ok (.if_icmp .ge 16, 3) := by decide +kernel
theorem dX11_parseUser_12 : decode cX11_parseUser 12 = .ok (.aload_n 0, 1) := by decide +kernel
theorem dX11_parseUser_13 : decode cX11_parseUser 13 = .ok (.getfield 29, 3) := by decide +kernel
theorem dX11_parseUser_16 : decode cX11_parseUser 16 = .ok (.iconst 3, 1) := by decide +kernel
theorem dX11_parseUser_17 : decode cX11_parseUser 17 = .ok (.iaload, 1) := by decide +kernel
theorem dX11_parseUser_18 : decode cX11_parseUser 18 = .ok (.ifCond .le 7, 3) := by decide +kernel
theorem dX11_parseUser_21 : decode cX11_parseUser 21 = .ok (.iconst 1, 1) := by decide +kernel
theorem dX11_parseUser_22 : decode cX11_parseUser 22 = .ok (.goto 4, 3) := by decide +kernel
theorem dX11_parseUser_25 : decode cX11_parseUser 25 = .ok (.iconst 0, 1) := by decide +kernel
theorem dX11_parseUser_26 : decode cX11_parseUser 26 = .ok (.invokevirtual 217, 3) := by decide +kernel
theorem dX11_parseUser_29 : decode cX11_parseUser 29 = .ok (.ifCond .ne 4, 3) := by decide +kernel
theorem dX11_parseUser_32 : decode cX11_parseUser 32 = .ok (.return_, 1) := by decide +kernel
theorem dX11_parseUser_33 : decode cX11_parseUser 33 = .ok (.bipush 83, 2) := by decide +kernel
theorem dX11_parseUser_35 : decode cX11_parseUser 35 = .ok (.bipush 8, 2) := by decide +kernel
theorem dX11_parseUser_37 : decode cX11_parseUser 37 = .ok (.aload_n 0, 1) := by decide +kernel
theorem dX11_parseUser_38 : decode cX11_parseUser 38 = .ok (.getfield 29, 3) := by decide +kernel
theorem dX11_parseUser_41 : decode cX11_parseUser 41 = .ok (.iconst 4, 1) := by decide +kernel
theorem dX11_parseUser_42 : decode cX11_parseUser 42 = .ok (.iaload, 1) := by decide +kernel
theorem dX11_parseUser_43 : decode cX11_parseUser 43 = .ok (.imul, 1) := by decide +kernel
theorem dX11_parseUser_44 : decode cX11_parseUser 44 = .ok (.iadd, 1) := by decide +kernel
theorem dX11_parseUser_45 : decode cX11_parseUser 45 = .ok (.istore_n 1, 1) := by decide +kernel
theorem dX11_parseUser_46 : decode cX11_parseUser 46 = .ok (.aload_n 0, 1) := by decide +kernel
theorem dX11_parseUser_47 : decode cX11_parseUser 47 = .ok (.iconst 1, 1) := by decide +kernel
theorem dX11_parseUser_48 : decode cX11_parseUser 48 = .ok (.iconst 2, 1) := by decide +kernel
theorem dX11_parseUser_49 : decode cX11_parseUser 49 = .ok (.iload_n 1, 1) := by decide +kernel
theorem dX11_parseUser_50 : decode cX11_parseUser 50 = .ok (.iconst 2, 1) := by decide +kernel
theorem dX11_parseUser_51 : decode cX11_parseUser 51 = .ok (.iadd, 1) := by decide +kernel
theorem dX11_parseUser_52 : decode cX11_parseUser 52 = .ok (.invokevirtual 220, 3) := by decide +kernel
theorem dX11_parseUser_55 : decode cX11_parseUser 55 = .ok (.aload_n 0, 1) := by decide +kernel
theorem dX11_parseUser_56 : decode cX11_parseUser 56 = .ok (.ldc 165, 2) := by decide +kernel
theorem dX11_parseUser_58 : decode cX11_parseUser 58 = .ok (.invokevirtual 195, 3) := by decide +kernel
theorem dX11_parseUser_61 : decode cX11_parseUser 61 = .ok (.aload_n 0, 1) := by decide +kernel
theorem dX11_parseUser_62 : decode cX11_parseUser 62 = .ok (.getfield 29, 3) := by decide +kernel
theorem dX11_parseUser_65 : decode cX11_parseUser 65 = .ok (.iload_n 1, 1) := by decide +kernel
theorem dX11_parseUser_66 : decode cX11_parseUser 66 = .ok (.iconst 0, 1) := by decide +kernel
theorem dX11_parseUser_67 : decode cX11_parseUser 67 = .ok (.iadd, 1) := by decide +kernel
theorem dX11_parseUser_68 : decode cX11_parseUser 68 = .ok (.aload_n 0, 1) := by decide +kernel
theorem dX11_parseUser_69 : decode cX11_parseUser 69 = .ok (.iconst 0, 1) := by decide +kernel
theorem dX11_parseUser_70 : decode cX11_parseUser 70 = .ok (.invokevirtual 228, 3) := by decide +kernel
theorem dX11_parseUser_73 : decode cX11_parseUser 73 = .ok (.iastore, 1) := by decide +kernel
theorem dX11_parseUser_74 : decode cX11_parseUser 74 = .ok (.aload_n 0, 1) := by decide +kernel
theorem dX11_parseUser_75 : decode cX11_parseUser 75 = .ok (.getfield 29, 3) := by decide +kernel
theorem dX11_parseUser_78 : decode cX11_parseUser 78 = .ok (.iload_n 1, 1) := by decide +kernel
theorem dX11_parseUser_79 : decode cX11_parseUser 79 = .ok (.iconst 1, 1) := by decide +kernel
theorem dX11_parseUser_80 : decode cX11_parseUser 80 = .ok (.iadd, 1) := by decide +kernel
theorem dX11_parseUser_81 : decode cX11_parseUser 81 = .ok (.aload_n 0, 1) := by decide +kernel
theorem dX11_parseUser_82 : decode cX11_parseUser 82 = .ok (.ldc 177, 2) := by decide +kernel
theorem dX11_parseUser_84 : decode cX11_parseUser 84 = .ok (.iconst 1, 1) := by decide +kernel
theorem dX11_parseUser_85 : decode cX11_parseUser 85 = .ok (.ldc 231, 2) := by decide +kernel
theorem dX11_parseUser_87 : decode cX11_parseUser 87 = .ok (.invokevirtual 224, 3) := by decide +kernel
theorem dX11_parseUser_90 : decode cX11_parseUser 90 = .ok (.iastore, 1) := by decide +kernel
theorem dX11_parseUser_91 : decode cX11_parseUser 91 = .ok (.aload_n 0, 1) := by decide +kernel
theorem dX11_parseUser_92 : decode cX11_parseUser 92 = .ok (.getfield 29, 3) := by decide +kernel
theorem dX11_parseUser_95 : decode cX11_parseUser 95 = .ok (.iconst 4, 1) := by decide +kernel
theorem dX11_parseUser_96 : decode cX11_parseUser 96 = .ok (.dup2, 1) := by decide +kernel
theorem dX11_parseUser_97 : decode cX11_parseUser 97 = .ok (.iaload, 1) := by decide +kernel
theorem dX11_parseUser_98 : decode cX11_parseUser 98 = .ok (.iconst 1, 1) := by decide +kernel
theorem dX11_parseUser_99 : decode cX11_parseUser 99 = .ok (.iadd, 1) := by decide +kernel
theorem dX11_parseUser_100 : decode cX11_parseUser 100 = .ok (.iastore, 1) := by decide +kernel
theorem dX11_parseUser_101 : decode cX11_parseUser 101 = .ok (.return_, 1) := by decide +kernel
theorem dX11_member_0 : decode cX11_member 0 = .ok (.aload_n 0, 1) := by decide +kernel
theorem dX11_member_1 : decode cX11_member 1 = .ok (.invokevirtual 211, 3) := by decide +kernel
theorem dX11_member_4 : decode cX11_member 4 = .ok (.aload_n 0, 1) := by decide +kernel
theorem dX11_member_5 : decode cX11_member 5 = .ok (.invokevirtual 105, 3) := by decide +kernel
theorem dX11_member_8 : decode cX11_member 8 = .ok (.ifCond .eq 11, 3) := by decide +kernel
theorem dX11_member_11 : decode cX11_member 11 = .ok (.aload_n 0, 1) := by decide +kernel
theorem dX11_member_12 : decode cX11_member 12 = .ok (.iconst 1, 1) := by decide +kernel
theorem dX11_member_13 : decode cX11_member 13 = .ok (.invokevirtual 214, 3) := by decide +kernel
theorem dX11_member_16 : decode cX11_member 16 = .ok (.goto 4, 3) := by decide +kernel
theorem dX11_member_19 : decode cX11_member 19 = .ok (.iconst 0, 1) := by decide +kernel
theorem dX11_member_20 : decode cX11_member 20 = .ok (.istore_n 1, 1) := by decide +kernel
theorem dX11_member_21 : decode cX11_member 21 = .ok (.aload_n 0, 1) := by decide +kernel
theorem dX11_member_22 : decode cX11_member 22 = .ok (.invokevirtual 105, 3) := by decide +kernel
theorem dX11_member_25 : decode cX11_member 25 = .ok (.ifCond .eq 11, 3) := by decide +kernel
theorem dX11_member_28 : decode cX11_member 28 = .ok (.aload_n 0, 1) := by decide +kernel
theorem dX11_member_29 : decode cX11_member 29 = .ok (.iconst 2, 1) := by decide +kernel
theorem dX11_member_30 : decode cX11_member 30 = .ok (.invokevirtual 214, 3) := by decide +kernel
theorem dX11_member_33 : decode cX11_member 33 = .ok (.goto 4, 3) := by decide +kernel
theorem dX11_member_36 : decode cX11_member 36 = .ok (.iconst 0, 1) := by decide +kernel
theorem dX11_member_37 : decode cX11_member 37 = .ok (.istore_n 2, 1) := by decide +kernel
theorem dX11_member_38 : decode cX11_member 38 = .ok (.iload_n 1, 1) := by decide +kernel
theorem dX11_member_39 : decode cX11_member 39 = .ok (.iconst (-1), 1) := by decide +kernel
theorem dX11_member_40 : decode cX11_member 40 = .ok (.if_icmp .ne 13, 3) := by decide +kernel
theorem dX11_member_43 : decode cX11_member 43 = .ok (.iload_n 2, 1) := by decide +kernel
theorem dX11_member_44 : decode cX11_member 44 = .ok (.iconst (-1), 1) := by decide +kernel
theorem dX11_member_45 : decode cX11_member 45 = .ok (.if_icmp .ne 8, 3) := by decide +kernel
theorem dX11_member_48 : decode cX11_member 48 = .ok (.aload_n 0, 1) := by decide +kernel
theorem dX11_member_49 : decode cX11_member 49 = .ok (.iconst 3, 1) := by decide +kernel
theorem dX11_member_50 : decode cX11_member 50 = .ok (.invokevirtual 189, 3) := by decide +kernel
theorem dX11_member_53 : decode cX11_member 53 = .ok (.aload_n 0, 1) := by decide +kernel
theorem dX11_member_54 : decode cX11_member 54 = .ok (.invokevirtual 105, 3) := by decide +kernel
theorem dX11_member_57 : decode cX11_member 57 = .ok (.ifCond .ne 7, 3) := by decide +kernel
theorem dX11_member_60 : decode cX11_member 60 = .ok (.iconst 0, 1) := by decide +kernel
theorem dX11_member_61 : decode cX11_member 61 = .ok (.goto 29, 3) := by decide +kernel
theorem dX11_member_64 : decode cX11_member 64 = .ok (.iload_n 1, 1) := by decide +kernel
theorem dX11_member_65 : decode cX11_member 65 = .ok (.iconst (-1), 1) := by decide +kernel
theorem dX11_member_66 : decode cX11_member 66 = .ok (.if_icmp .eq 9, 3) := by decide +kernel
theorem dX11_member_69 : decode cX11_member 69 = .ok (.iconst 1, 1) := by decide +kernel
theorem dX11_member_70 : decode cX11_member 70 = .ok (.iload_n 1, 1) := by decide +kernel
theorem dX11_member_71 : decode cX11_member 71 = .ok (.ishl, 1) := by decide +kernel
theorem dX11_member_72 : decode cX11_member 72 = .ok (.goto 18, 3) := by decide +kernel
theorem dX11_member_75 : decode cX11_member 75 = .ok (.aload_n 0, 1) := by decide +kernel
theorem dX11_member_76 : decode cX11_member 76 = .ok (.getfield 29, 3) := by decide +kernel
theorem dX11_member_79 : decode cX11_member 79 = .ok (.sipush 163, 3) := by decide +kernel
theorem dX11_member_82 : decode cX11_member 82 = .ok (.bipush 7, 2) := by decide +kernel
theorem dX11_member_84 : decode cX11_member 84 = .ok (.iload_n 2, 1) := by decide +kernel
theorem dX11_member_85 : decode cX11_member 85 = .ok (.imul, 1) := by decide +kernel
theorem dX11_member_86 : decode cX11_member 86 = .ok (.iadd, 1) := by decide +kernel
theorem dX11_member_87 : decode cX11_member 87 = .ok (.iconst 0, 1) := by decide +kernel
theorem dX11_member_88 : decode cX11_member 88 = .ok (.iadd, 1) := by decide +kernel
theorem dX11_member_89 : decode cX11_member 89 = .ok (.iaload, 1) := by decide +kernel
theorem dX11_member_90 : decode cX11_member 90 = .ok (.istore_n 3, 1) := by decide +kernel
theorem dX11_member_91 : decode cX11_member 91 = .ok (.aload_n 0, 1) := by decide +kernel
theorem dX11_member_92 : decode cX11_member 92 = .ok (.invokevirtual 192, 3) := by decide +kernel
theorem dX11_member_95 : decode cX11_member 95 = .ok (.iload_n 3, 1) := by decide +kernel
theorem dX11_member_96 : decode cX11_member 96 = .ok (.ireturn, 1) := by decide +kernel
theorem dX11_parseGroup_0 : decode cX11_parseGroup 0 = .ok (.aload_n 0, 1) := by decide +kernel
theorem dX11_parseGroup_1 : decode cX11_parseGroup 1 = .ok (.aload_n 0, 1) := by decide +kernel
theorem dX11_parseGroup_2 : decode cX11_parseGroup 2 = .ok (.getfield 29, 3) := by decide +kernel
theorem dX11_parseGroup_5 : decode cX11_parseGroup 5 = .ok (.iconst 5, 1) := by decide +kernel
theorem dX11_parseGroup_6 : decode cX11_parseGroup 6 = .ok (.iaload, 1) := by decide +kernel
theorem dX11_parseGroup_7 : decode cX11_parseGroup 7 = .ok (.bipush 6, 2) := by decide +kernel
theorem dX11_parseGroup_9 : decode cX11_parseGroup 9 = .ok (.if_icmp .ge 16, 3) := by decide +kernel
theorem dX11_parseGroup_12 : decode cX11_parseGroup 12 = .ok (.aload_n 0, 1) := by decide +kernel
theorem dX11_parseGroup_13 : decode cX11_parseGroup 13 = .ok (.getfield 29, 3) := by decide +kernel
theorem dX11_parseGroup_16 : decode cX11_parseGroup 16 = .ok (.iconst 4, 1) := by decide +kernel
theorem dX11_parseGroup_17 : decode cX11_parseGroup 17 = .ok (.iaload, 1) := by decide +kernel
theorem dX11_parseGroup_18 : decode cX11_parseGroup 18 = .ok (.ifCond .le 7, 3) := by decide +kernel
theorem dX11_parseGroup_21 : decode cX11_parseGroup 21 = .ok (.iconst 1, 1) := by decide +kernel
theorem dX11_parseGroup_22 : decode cX11_parseGroup 22 = .ok (.goto 4, 3) := by decide +kernel
theorem dX11_parseGroup_25 : decode cX11_parseGroup 25 = .ok (.iconst 0, 1) := by decide +kernel
theorem dX11_parseGroup_26 : decode cX11_parseGroup 26 = .ok (.invokevirtual 217, 3) := by decide +kernel
theorem dX11_parseGroup_29 : decode cX11_parseGroup 29 = .ok (.ifCond .ne 4, 3) := by decide +kernel
theorem dX11_parseGroup_32 : decode cX11_parseGroup 32 = .ok (.return_, 1) := by decide +kernel
theorem dX11_parseGroup_33 : decode cX11_parseGroup 33 = .ok (.sipush 163, 3) := by decide +kernel
theorem dX11_parseGroup_36 : decode cX11_parseGroup 36 = .ok (.bipush 7, 2) := by decide +kernel
theorem dX11_parseGroup_38 : decode cX11_parseGroup 38 = .ok (.aload_n 0, 1) := by decide +kernel
theorem dX11_parseGroup_39 : decode cX11_parseGroup 39 = .ok (.getfield 29, 3) := by decide +kernel
theorem dX11_parseGroup_42 : decode cX11_parseGroup 42 = .ok (.iconst 5, 1) := by decide +kernel
theorem dX11_parseGroup_43 : decode cX11_parseGroup 43 = .ok (.iaload, 1) := by decide +kernel
theorem dX11_parseGroup_44 : decode cX11_parseGroup 44 = .ok (.imul, 1) := by decide +kernel
theorem dX11_parseGroup_45 : decode cX11_parseGroup 45 = .ok (.iadd, 1) := by decide +kernel
theorem dX11_parseGroup_46 : decode cX11_parseGroup 46 = .ok (.istore_n 1, 1) := by decide +kernel
theorem dX11_parseGroup_47 : decode cX11_parseGroup 47 = .ok (.aload_n 0, 1) := by decide +kernel
theorem dX11_parseGroup_48 : decode cX11_parseGroup 48 = .ok (.iconst 1, 1) := by decide +kernel
theorem dX11_parseGroup_49 : decode cX11_parseGroup 49 = .ok (.iconst 2, 1) := by decide +kernel
theorem dX11_parseGroup_50 : decode cX11_parseGroup 50 = .ok (.iload_n 1, 1) := by decide +kernel
theorem dX11_parseGroup_51 : decode cX11_parseGroup 51 = .ok (.iconst 1, 1) := by decide +kernel
theorem dX11_parseGroup_52 : decode cX11_parseGroup 52 = .ok (.iadd, 1) := by decide +kernel
theorem dX11_parseGroup_53 : decode cX11_parseGroup 53 = .ok (.invokevirtual 220, 3) := by decide +kernel
theorem dX11_parseGroup_56 : decode cX11_parseGroup 56 = .ok (.aload_n 0, 1) := by decide +kernel
theorem dX11_parseGroup_57 : decode cX11_parseGroup 57 = .ok (.invokevirtual 232, 3) := by decide +kernel
theorem dX11_parseGroup_60 : decode cX11_parseGroup 60 = .ok (.istore_n 2, 1) := by decide +kernel
theorem dX11_parseGroup_61 : decode cX11_parseGroup 61 = .ok (.aload_n 0, 1) := by decide +kernel
theorem dX11_parseGroup_62 : decode cX11_parseGroup 62 = .ok (.bipush 44, 2) := by decide +kernel
theorem dX11_parseGroup_64 : decode cX11_parseGroup 64 = .ok (.invokevirtual 235, 3) := by decide +kernel
theorem dX11_parseGroup_67 : decode cX11_parseGroup 67 = .ok (.ifCond .eq 17, 3) := by decide +kernel
theorem dX11_parseGroup_70 : decode cX11_parseGroup 70 = .ok (.aload_n 0, 1) := by decide +kernel
theorem dX11_parseGroup_71 : decode cX11_parseGroup 71 = .ok (.invokevirtual 192, 3) := by decide +kernel
theorem dX11_parseGroup_74 : decode cX11_parseGroup 74 = .ok (.iload_n 2, 1) := by decide +kernel
theorem dX11_parseGroup_75 : decode cX11_parseGroup 75 = .ok (.aload_n 0, 1) := by decide +kernel
theorem dX11_parseGroup_76 : decode cX11_parseGroup 76 = .ok (.invokevirtual 232, 3) := by decide +kernel
theorem dX11_parseGroup_79 : decode cX11_parseGroup 79 = .ok (.ior, 1) := by decide +kernel
theorem dX11_parseGroup_80 : decode cX11_parseGroup 80 = .ok (.istore_n 2, 1) := by decide +kernel
theorem dX11_parseGroup_81 : decode cX11_parseGroup 81 = .ok (.goto (-20), 3) := by decide +kernel
theorem dX11_parseGroup_84 : decode cX11_parseGroup 84 = .ok (.aload_n 0, 1) := by decide +kernel
theorem dX11_parseGroup_85 : decode cX11_parseGroup 85 = .ok (.getfield 29, 3) := by decide +kernel
theorem dX11_parseGroup_88 : decode cX11_parseGroup 88 = .ok (.iload_n 1, 1) := by decide +kernel
theorem dX11_parseGroup_89 : decode cX11_parseGroup 89 = .ok (.iconst 0, 1) := by decide +kernel
theorem dX11_parseGroup_90 : decode cX11_parseGroup 90 = .ok (.iadd, 1) := by decide +kernel
theorem dX11_parseGroup_91 : decode cX11_parseGroup 91 = .ok (.iload_n 2, 1) := by decide +kernel
theorem dX11_parseGroup_92 : decode cX11_parseGroup 92 = .ok (.iastore, 1) := by decide +kernel
theorem dX11_parseGroup_93 : decode cX11_parseGroup 93 = .ok (.aload_n 0, 1) := by decide +kernel
theorem dX11_parseGroup_94 : decode cX11_parseGroup 94 = .ok (.getfield 29, 3) := by decide +kernel
theorem dX11_parseGroup_97 : decode cX11_parseGroup 97 = .ok (.iconst 5, 1) := by decide +kernel
theorem dX11_parseGroup_98 : decode cX11_parseGroup 98 = .ok (.dup2, 1) := by decide +kernel
theorem dX11_parseGroup_99 : decode cX11_parseGroup 99 = .ok (.iaload, 1) := by decide +kernel
theorem dX11_parseGroup_100 : decode cX11_parseGroup 100 = .ok (.iconst 1, 1) := by decide +kernel
theorem dX11_parseGroup_101 : decode cX11_parseGroup 101 = .ok (.iadd, 1) := by decide +kernel
theorem dX11_parseGroup_102 : decode cX11_parseGroup 102 = .ok (.iastore, 1) := by decide +kernel
theorem dX11_parseGroup_103 : decode cX11_parseGroup 103 = .ok (.return_, 1) := by decide +kernel
theorem dX11_parseWord_0 : decode cX11_parseWord 0 = .ok (.aload_n 0, 1) := by decide +kernel
theorem dX11_parseWord_1 : decode cX11_parseWord 1 = .ok (.invokevirtual 192, 3) := by decide +kernel
theorem dX11_parseWord_4 : decode cX11_parseWord 4 = .ok (.aload_n 0, 1) := by decide +kernel
theorem dX11_parseWord_5 : decode cX11_parseWord 5 = .ok (.invokevirtual 105, 3) := by decide +kernel
theorem dX11_parseWord_8 : decode cX11_parseWord 8 = .ok (.ifCond .eq 30, 3) := by decide +kernel
theorem dX11_parseWord_11 : decode cX11_parseWord 11 = .ok (.aload_n 0, 1) := by decide +kernel
theorem dX11_parseWord_12 : decode cX11_parseWord 12 = .ok (.getfield 122, 3) := by decide +kernel
theorem dX11_parseWord_15 : decode cX11_parseWord 15 = .ok (.iconst 1, 1) := by decide +kernel
theorem dX11_parseWord_16 : decode cX11_parseWord 16 = .ok (.if_icmp .ne 17, 3) := by decide +kernel
theorem dX11_parseWord_19 : decode cX11_parseWord 19 = .ok (.aload_n 0, 1) := by decide +kernel
theorem dX11_parseWord_20 : decode cX11_parseWord 20 = .ok (.getfield 115, 3) := by decide +kernel
theorem dX11_parseWord_23 : decode cX11_parseWord 23 = .ok (.aload_n 0, 1) := by decide +kernel
theorem dX11_parseWord_24 : decode cX11_parseWord 24 = .ok (.getfield 109, 3) := by decide +kernel
theorem dX11_parseWord_27 : decode cX11_parseWord 27 = .ok (.isub, 1) := by decide +kernel
theorem dX11_parseWord_28 : decode cX11_parseWord 28 = .ok (.bipush 10, 2) := by decide +kernel
theorem dX11_parseWord_30 : decode cX11_parseWord 30 = .ok (.if_icmp .le 8, 3) := by decide +kernel
theorem dX11_parseWord_33 : decode cX11_parseWord 33 = .ok (.aload_n 0, 1) := by decide +kernel
theorem dX11_parseWord_34 : decode cX11_parseWord 34 = .ok (.iconst 1, 1) := by decide +kernel
theorem dX11_parseWord_35 : decode cX11_parseWord 35 = .ok (.invokevirtual 189, 3) := by decide +kernel
theorem dX11_parseWord_38 : decode cX11_parseWord 38 = .ok (.aload_n 0, 1) := by decide +kernel
theorem dX11_parseWord_39 : decode cX11_parseWord 39 = .ok (.getfield 29, 3) := by decide +kernel
theorem dX11_parseWord_42 : decode cX11_parseWord 42 = .ok (.iload_n 1, 1) := by decide +kernel
theorem dX11_parseWord_43 : decode cX11_parseWord 43 = .ok (.iconst 4, 1) := by decide +kernel
theorem dX11_parseWord_44 : decode cX11_parseWord 44 = .ok (.iadd, 1) := by decide +kernel
theorem dX11_parseWord_45 : decode cX11_parseWord 45 = .ok (.aload_n 0, 1) := by decide +kernel
theorem dX11_parseWord_46 : decode cX11_parseWord 46 = .ok (.getfield 115, 3) := by decide +kernel
theorem dX11_parseWord_49 : decode cX11_parseWord 49 = .ok (.aload_n 0, 1) := by decide +kernel
theorem dX11_parseWord_50 : decode cX11_parseWord 50 = .ok (.getfield 109, 3) := by decide +kernel
theorem dX11_parseWord_53 : decode cX11_parseWord 53 = .ok (.isub, 1) := by decide +kernel
theorem dX11_parseWord_54 : decode cX11_parseWord 54 = .ok (.iastore, 1) := by decide +kernel
theorem dX11_parseWord_55 : decode cX11_parseWord 55 = .ok (.iconst 0, 1) := by decide +kernel
theorem dX11_parseWord_56 : decode cX11_parseWord 56 = .ok (.istore_n 2, 1) := by decide +kernel
theorem dX11_parseWord_57 : decode cX11_parseWord 57 = .ok (.iload_n 2, 1) := by decide +kernel
theorem dX11_parseWord_58 : decode cX11_parseWord 58 = .ok (.bipush 10, 2) := by decide +kernel
theorem dX11_parseWord_60 : decode cX11_parseWord 60 = .ok (.if_icmp .ge 24, 3) := by decide +kernel
theorem dX11_parseWord_63 : decode cX11_parseWord 63 = .ok (.aload_n 0, 1) := by decide +kernel
theorem dX11_parseWord_64 : decode cX11_parseWord 64 = .ok (.getfield 29, 3) := by decide +kernel
theorem dX11_parseWord_67 : decode cX11_parseWord 67 = .ok (.iload_n 1, 1) := by decide +kernel
theorem dX11_parseWord_68 : decode cX11_parseWord 68 = .ok (.iconst 5, 1) := by decide +kernel
theorem dX11_parseWord_69 : decode cX11_parseWord 69 = .ok (.iadd, 1) := by decide +kernel
theorem dX11_parseWord_70 : decode cX11_parseWord 70 = .ok (.iload_n 2, 1) := by decide +kernel
theorem dX11_parseWord_71 : decode cX11_parseWord 71 = .ok (.iadd, 1) := by decide +kernel
theorem dX11_parseWord_72 : decode cX11_parseWord 72 = .ok (.aload_n 0, 1) := by decide +kernel
theorem dX11_parseWord_73 : decode cX11_parseWord 73 = .ok (.iload_n 2, 1) := by decide +kernel
theorem dX11_parseWord_74 : decode cX11_parseWord 74 = .ok (.invokevirtual 201, 3) := by decide +kernel
theorem dX11_parseWord_77 : decode cX11_parseWord 77 = .ok (.iastore, 1) := by decide +kernel
theorem dX11_parseWord_78 : decode cX11_parseWord 78 = .ok (.iinc 2 1, 3) := by decide +kernel
theorem dX11_parseWord_81 : decode cX11_parseWord 81 = .ok (.goto (-24), 3) := by decide +kernel
theorem dX11_parseWord_84 : decode cX11_parseWord 84 = .ok (.aload_n 0, 1) := by decide +kernel
theorem dX11_parseWord_85 : decode cX11_parseWord 85 = .ok (.invokevirtual 192, 3) := by decide +kernel
theorem dX11_parseWord_88 : decode cX11_parseWord 88 = .ok (.return_, 1) := by decide +kernel
theorem dX11_parseHold_0 : decode cX11_parseHold 0 = .ok (.aload_n 0, 1) := by decide +kernel
theorem dX11_parseHold_1 : decode cX11_parseHold 1 = .ok (.aload_n 0, 1) := by decide +kernel
theorem dX11_parseHold_2 : decode cX11_parseHold 2 = .ok (.getfield 29, 3) := by decide +kernel
theorem dX11_parseHold_5 : decode cX11_parseHold 5 = .ok (.bipush 6, 2) := by decide +kernel
theorem dX11_parseHold_7 : decode cX11_parseHold 7 = .ok (.iaload, 1) := by decide +kernel
theorem dX11_parseHold_8 : decode cX11_parseHold 8 = .ok (.bipush 6, 2) := by decide +kernel
theorem dX11_parseHold_10 : decode cX11_parseHold 10 = .ok (.if_icmp .ge 16, 3) := by decide +kernel
theorem dX11_parseHold_13 : decode cX11_parseHold 13 = .ok (.aload_n 0, 1) := by decide +kernel
theorem dX11_parseHold_14 : decode cX11_parseHold 14 = .ok (.getfield 29, 3) := by decide +kernel
theorem dX11_parseHold_17 : decode cX11_parseHold 17 = .ok (.iconst 4, 1) := by decide +kernel
theorem dX11_parseHold_18 : decode cX11_parseHold 18 = .ok (.iaload, 1) := by decide +kernel
theorem dX11_parseHold_19 : decode cX11_parseHold 19 = .ok (.ifCond .le 7, 3) := by decide +kernel
theorem dX11_parseHold_22 : decode cX11_parseHold 22 = .ok (.iconst 1, 1) := by decide +kernel
theorem dX11_parseHold_23 : decode cX11_parseHold 23 = .ok (.goto 4, 3) := by decide +kernel
theorem dX11_parseHold_26 : decode cX11_parseHold 26 = .ok (.iconst 0, 1) := by decide +kernel
theorem dX11_parseHold_27 : decode cX11_parseHold 27 = .ok (.invokevirtual 217, 3) := by decide +kernel
theorem dX11_parseHold_30 : decode cX11_parseHold 30 = .ok (.ifCond .ne 4, 3) := by decide +kernel
theorem dX11_parseHold_33 : decode cX11_parseHold 33 = .ok (.return_, 1) := by decide +kernel
theorem dX11_parseHold_34 : decode cX11_parseHold 34 = .ok (.sipush 205, 3) := by decide +kernel
theorem dX11_parseHold_37 : decode cX11_parseHold 37 = .ok (.bipush 21, 2) := by decide +kernel
theorem dX11_parseHold_39 : decode cX11_parseHold 39 = .ok (.aload_n 0, 1) := by decide +kernel
theorem dX11_parseHold_40 : decode cX11_parseHold 40 = .ok (.getfield 29, 3) := by decide +kernel
theorem dX11_parseHold_43 : decode cX11_parseHold 43 = .ok (.bipush 6, 2) := by decide +kernel
theorem dX11_parseHold_45 : decode cX11_parseHold 45 = .ok (.iaload, 1) := by decide +kernel
theorem dX11_parseHold_46 : decode cX11_parseHold 46 = .ok (.imul, 1) := by decide +kernel
theorem dX11_parseHold_47 : decode cX11_parseHold 47 = .ok (.iadd, 1) := by decide +kernel
theorem dX11_parseHold_48 : decode cX11_parseHold 48 = .ok (.istore_n 1, 1) := by decide +kernel
theorem dX11_parseHold_49 : decode cX11_parseHold 49 = .ok (.aload_n 0, 1) := by decide +kernel
theorem dX11_parseHold_50 : decode cX11_parseHold 50 = .ok (.iconst 3, 1) := by decide +kernel
theorem dX11_parseHold_51 : decode cX11_parseHold 51 = .ok (.iconst 3, 1) := by decide +kernel
theorem dX11_parseHold_52 : decode cX11_parseHold 52 = .ok (.iload_n 1, 1) := by decide +kernel
theorem dX11_parseHold_53 : decode cX11_parseHold 53 = .ok (.bipush 15, 2) := by decide +kernel
theorem dX11_parseHold_55 : decode cX11_parseHold 55 = .ok (.iadd, 1) := by decide +kernel
theorem dX11_parseHold_56 : decode cX11_parseHold 56 = .ok (.invokevirtual 220, 3) := by decide +kernel
theorem dX11_parseHold_59 : decode cX11_parseHold 59 = .ok (.aload_n 0, 1) := by decide +kernel
theorem dX11_parseHold_60 : decode cX11_parseHold 60 = .ok (.ldc 175, 2) := by decide +kernel
theorem dX11_parseHold_62 : decode cX11_parseHold 62 = .ok (.invokevirtual 195, 3) := by decide +kernel
theorem dX11_parseHold_65 : decode cX11_parseHold 65 = .ok (.aload_n 0, 1) := by decide +kernel
theorem dX11_parseHold_66 : decode cX11_parseHold 66 = .ok (.getfield 29, 3) := by decide +kernel
theorem dX11_parseHold_69 : decode cX11_parseHold 69 = .ok (.iload_n 1, 1) := by decide +kernel
theorem dX11_parseHold_70 : decode cX11_parseHold 70 = .ok (.iconst 0, 1) := by decide +kernel
theorem dX11_parseHold_71 : decode cX11_parseHold 71 = .ok (.iadd, 1) := by decide +kernel
theorem dX11_parseHold_72 : decode cX11_parseHold 72 = .ok (.aload_n 0, 1) := by decide +kernel
theorem dX11_parseHold_73 : decode cX11_parseHold 73 = .ok (.iconst 1, 1) := by decide +kernel
theorem dX11_parseHold_74 : decode cX11_parseHold 74 = .ok (.invokevirtual 228, 3) := by decide +kernel
theorem dX11_parseHold_77 : decode cX11_parseHold 77 = .ok (.iastore, 1) := by decide +kernel
theorem dX11_parseHold_78 : decode cX11_parseHold 78 = .ok (.aload_n 0, 1) := by decide +kernel
theorem dX11_parseHold_79 : decode cX11_parseHold 79 = .ok (.getfield 29, 3) := by decide +kernel
theorem dX11_parseHold_82 : decode cX11_parseHold 82 = .ok (.iload_n 1, 1) := by decide +kernel
theorem dX11_parseHold_83 : decode cX11_parseHold 83 = .ok (.iconst 1, 1) := by decide +kernel
theorem dX11_parseHold_84 : decode cX11_parseHold 84 = .ok (.iadd, 1) := by decide +kernel
theorem dX11_parseHold_85 : decode cX11_parseHold 85 = .ok (.iconst 0, 1) := by decide +kernel
theorem dX11_parseHold_86 : decode cX11_parseHold 86 = .ok (.iastore, 1) := by decide +kernel
theorem dX11_parseHold_87 : decode cX11_parseHold 87 = .ok (.aload_n 0, 1) := by decide +kernel
theorem dX11_parseHold_88 : decode cX11_parseHold 88 = .ok (.getfield 29, 3) := by decide +kernel
theorem dX11_parseHold_91 : decode cX11_parseHold 91 = .ok (.iload_n 1, 1) := by decide +kernel
theorem dX11_parseHold_92 : decode cX11_parseHold 92 = .ok (.iconst 2, 1) := by decide +kernel
theorem dX11_parseHold_93 : decode cX11_parseHold 93 = .ok (.iadd, 1) := by decide +kernel
theorem dX11_parseHold_94 : decode cX11_parseHold 94 = .ok (.sipush 20000, 3) := by decide +kernel
theorem dX11_parseHold_97 : decode cX11_parseHold 97 = .ok (.iastore, 1) := by decide +kernel
theorem dX11_parseHold_98 : decode cX11_parseHold 98 = .ok (.aload_n 0, 1) := by decide +kernel
theorem dX11_parseHold_99 : decode cX11_parseHold 99 = .ok (.ldc 183, 2) := by decide +kernel
theorem dX11_parseHold_101 : decode cX11_parseHold 101 = .ok (.invokevirtual 157, 3) := by decide +kernel
theorem dX11_parseHold_104 : decode cX11_parseHold 104 = .ok (.ifCond .eq 48, 3) := by decide +kernel
theorem dX11_parseHold_107 : decode cX11_parseHold 107 = .ok (.aload_n 0, 1) := by decide +kernel
theorem dX11_parseHold_108 : decode cX11_parseHold 108 = .ok (.invokevirtual 192, 3) := by decide +kernel
theorem dX11_parseHold_111 : decode cX11_parseHold 111 = .ok (.aload_n 0, 1) := by decide +kernel
theorem dX11_parseHold_112 : decode cX11_parseHold 112 = .ok (.getfield 29, 3) := by decide +kernel
theorem dX11_parseHold_115 : decode cX11_parseHold 115 = .ok (.iload_n 1, 1) := by decide +kernel
theorem dX11_parseHold_116 : decode cX11_parseHold 116 = .ok (.iconst 1, 1) := by decide +kernel
theorem dX11_parseHold_117 : decode cX11_parseHold 117 = .ok (.iadd, 1) := by decide +kernel
theorem dX11_parseHold_118 : decode cX11_parseHold 118 = .ok (.aload_n 0, 1) := by decide +kernel
theorem dX11_parseHold_119 : decode cX11_parseHold 119 = .ok (.iconst 0, 1) := by decide +kernel
theorem dX11_parseHold_120 : decode cX11_parseHold 120 = .ok (.sipush 9999, 3) := by decide +kernel
theorem dX11_parseHold_123 : decode cX11_parseHold 123 = .ok (.invokevirtual 198, 3) := by decide +kernel
theorem dX11_parseHold_126 : decode cX11_parseHold 126 = .ok (.iastore, 1) := by decide +kernel
theorem dX11_parseHold_127 : decode cX11_parseHold 127 = .ok (.aload_n 0, 1) := by decide +kernel
theorem dX11_parseHold_128 : decode cX11_parseHold 128 = .ok (.getfield 29, 3) := by decide +kernel
theorem dX11_parseHold_131 : decode cX11_parseHold 131 = .ok (.iload_n 1, 1) := by decide +kernel
theorem dX11_parseHold_132 : decode cX11_parseHold 132 = .ok (.iconst 2, 1) := by decide +kernel
theorem dX11_parseHold_133 : decode cX11_parseHold 133 = .ok (.iadd, 1) := by decide +kernel
theorem dX11_parseHold_134 : decode cX11_parseHold 134 = .ok (.aload_n 0, 1) := by decide +kernel
theorem dX11_parseHold_135 : decode cX11_parseHold 135 = .ok (.ldc 185, 2) := by decide +kernel
theorem dX11_parseHold_137 : decode cX11_parseHold 137 = .ok (.aload_n 0, 1) := by decide +kernel
theorem dX11_parseHold_138 : decode cX11_parseHold 138 = .ok (.getfield 29, 3) := by decide +kernel
theorem dX11_parseHold_141 : decode cX11_parseHold 141 = .ok (.iload_n 1, 1) := by decide +kernel
theorem dX11_parseHold_142 : decode cX11_parseHold 142 = .ok (.iconst 1, 1) := by decide +kernel
theorem dX11_parseHold_143 : decode cX11_parseHold 143 = .ok (.iadd, 1) := by decide +kernel
theorem dX11_parseHold_144 : decode cX11_parseHold 144 = .ok (.iaload, 1) := by decide +kernel
theorem dX11_parseHold_145 : decode cX11_parseHold 145 = .ok (.sipush 9999, 3) := by decide +kernel
theorem dX11_parseHold_148 : decode cX11_parseHold 148 = .ok (.invokevirtual 224, 3) := by decide +kernel
theorem dX11_parseHold_151 : decode cX11_parseHold 151 = .ok (.iastore, 1) := by decide +kernel
theorem dX11_parseHold_152 : decode cX11_parseHold 152 = .ok (.aload_n 0, 1) := by decide +kernel
theorem dX11_parseHold_153 : decode cX11_parseHold 153 = .ok (.getfield 29, 3) := by decide +kernel
theorem dX11_parseHold_156 : decode cX11_parseHold 156 = .ok (.iload_n 1, 1) := by decide +kernel
theorem dX11_parseHold_157 : decode cX11_parseHold 157 = .ok (.iconst 4, 1) := by decide +kernel
theorem dX11_parseHold_158 : decode cX11_parseHold 158 = .ok (.iadd, 1) := by decide +kernel
theorem dX11_parseHold_159 : decode cX11_parseHold 159 = .ok (.iconst 0, 1) := by decide +kernel
theorem dX11_parseHold_160 : decode cX11_parseHold 160 = .ok (.iastore, 1) := by decide +kernel
theorem dX11_parseHold_161 : decode cX11_parseHold 161 = .ok (.aload_n 0, 1) := by decide +kernel
theorem dX11_parseHold_162 : decode cX11_parseHold 162 = .ok (.ldc 187, 2) := by decide +kernel
theorem dX11_parseHold_164 : decode cX11_parseHold 164 = .ok (.invokevirtual 157, 3) := by decide +kernel
theorem dX11_parseHold_167 : decode cX11_parseHold 167 = .ok (.ifCond .eq 8, 3) := by decide +kernel
theorem dX11_parseHold_170 : decode cX11_parseHold 170 = .ok (.aload_n 0, 1) := by decide +kernel
theorem dX11_parseHold_171 : decode cX11_parseHold 171 = .ok (.iload_n 1, 1) := by decide +kernel
theorem dX11_parseHold_172 : decode cX11_parseHold 172 = .ok (.invokevirtual 238, 3) := by decide +kernel
theorem dX11_parseHold_175 : decode cX11_parseHold 175 = .ok (.aload_n 0, 1) := by decide +kernel
theorem dX11_parseHold_176 : decode cX11_parseHold 176 = .ok (.getfield 29, 3) := by decide +kernel
theorem dX11_parseHold_179 : decode cX11_parseHold 179 = .ok (.iload_n 1, 1) := by decide +kernel
theorem dX11_parseHold_180 : decode cX11_parseHold 180 = .ok (.iconst 3, 1) := by decide +kernel
theorem dX11_parseHold_181 : decode cX11_parseHold 181 = .ok (.iadd, 1) := by decide +kernel
theorem dX11_parseHold_182 : decode cX11_parseHold 182 = .ok (.iconst 1, 1) := by decide +kernel
theorem dX11_parseHold_183 : decode cX11_parseHold 183 = .ok (.iastore, 1) := by decide +kernel
theorem dX11_parseHold_184 : decode cX11_parseHold 184 = .ok (.aload_n 0, 1) := by decide +kernel
theorem dX11_parseHold_185 : decode cX11_parseHold 185 = .ok (.getfield 29, 3) := by decide +kernel
theorem dX11_parseHold_188 : decode cX11_parseHold 188 = .ok (.bipush 6, 2) := by decide +kernel
theorem dX11_parseHold_190 : decode cX11_parseHold 190 = .ok (.dup2, 1) := by decide +kernel
theorem dX11_parseHold_191 : decode cX11_parseHold 191 = .ok (.iaload, 1) := by decide +kernel
theorem dX11_parseHold_192 : decode cX11_parseHold 192 = .ok (.iconst 1, 1) := by decide +kernel
theorem dX11_parseHold_193 : decode cX11_parseHold 193 = .ok (.iadd, 1) := by decide +kernel
theorem dX11_parseHold_194 : decode cX11_parseHold 194 = .ok (.iastore, 1) := by decide +kernel
theorem dX11_parseHold_195 : decode cX11_parseHold 195 = .ok (.return_, 1) := by decide +kernel
theorem dX11_parseStatement_0 : decode cX11_parseStatement 0 = .ok (.aload_n 0, 1) := by decide +kernel
theorem dX11_parseStatement_1 : decode cX11_parseStatement 1 = .ok (.ldc 165, 2) := by decide +kernel
theorem dX11_parseStatement_3 : decode cX11_parseStatement 3 = .ok (.invokevirtual 157, 3) := by decide +kernel
theorem dX11_parseStatement_6 : decode cX11_parseStatement 6 = .ok (.ifCond .eq 10, 3) := by decide +kernel
theorem dX11_parseStatement_9 : decode cX11_parseStatement 9 = .ok (.aload_n 0, 1) := by decide +kernel
theorem dX11_parseStatement_10 : decode cX11_parseStatement 10 = .ok (.invokevirtual 241, 3) := by decide +kernel
theorem dX11_parseStatement_13 : decode cX11_parseStatement 13 = .ok (.goto 56, 3) := by decide +kernel
theorem dX11_parseStatement_16 : decode cX11_parseStatement 16 = .ok (.aload_n 0, 1) := by decide +kernel
theorem dX11_parseStatement_17 : decode cX11_parseStatement 17 = .ok (.ldc 175, 2) := by decide +kernel
theorem dX11_parseStatement_19 : decode cX11_parseStatement 19 = .ok (.invokevirtual 157, 3) := by decide +kernel
theorem dX11_parseStatement_22 : decode cX11_parseStatement 22 = .ok (.ifCond .eq 10, 3) := by decide +kernel
theorem dX11_parseStatement_25 : decode cX11_parseStatement 25 = .ok (.aload_n 0, 1) := by decide +kernel
theorem dX11_parseStatement_26 : decode cX11_parseStatement 26 = .ok (.invokevirtual 244, 3) := by decide +kernel
theorem dX11_parseStatement_29 : decode cX11_parseStatement 29 = .ok (.goto 40, 3) := by decide +kernel
theorem dX11_parseStatement_32 : decode cX11_parseStatement 32 = .ok (.aload_n 0, 1) := by decide +kernel
theorem dX11_parseStatement_33 : decode cX11_parseStatement 33 = .ok (.ldc 179, 2) := by decide +kernel
theorem dX11_parseStatement_35 : decode cX11_parseStatement 35 = .ok (.invokevirtual 157, 3) := by decide +kernel
theorem dX11_parseStatement_38 : decode cX11_parseStatement 38 = .ok (.ifCond .eq 10, 3) := by decide +kernel
theorem dX11_parseStatement_41 : decode cX11_parseStatement 41 = .ok (.aload_n 0, 1) := by decide +kernel
theorem dX11_parseStatement_42 : decode cX11_parseStatement 42 = .ok (.invokevirtual 247, 3) := by decide +kernel
theorem dX11_parseStatement_45 : decode cX11_parseStatement 45 = .ok (.goto 24, 3) := by decide +kernel
theorem dX11_parseStatement_48 : decode cX11_parseStatement 48 = .ok (.aload_n 0, 1) := by decide +kernel
theorem dX11_parseStatement_49 : decode cX11_parseStatement 49 = .ok (.ldc 181, 2) := by decide +kernel
theorem dX11_parseStatement_51 : decode cX11_parseStatement 51 = .ok (.invokevirtual 157, 3) := by decide +kernel
theorem dX11_parseStatement_54 : decode cX11_parseStatement 54 = .ok (.ifCond .eq 10, 3) := by decide +kernel
theorem dX11_parseStatement_57 : decode cX11_parseStatement 57 = .ok (.aload_n 0, 1) := by decide +kernel
theorem dX11_parseStatement_58 : decode cX11_parseStatement 58 = .ok (.invokevirtual 250, 3) := by decide +kernel
theorem dX11_parseStatement_61 : decode cX11_parseStatement 61 = .ok (.goto 8, 3) := by decide +kernel
theorem dX11_parseStatement_64 : decode cX11_parseStatement 64 = .ok (.aload_n 0, 1) := by decide +kernel
theorem dX11_parseStatement_65 : decode cX11_parseStatement 65 = .ok (.iconst 1, 1) := by decide +kernel
theorem dX11_parseStatement_66 : decode cX11_parseStatement 66 = .ok (.invokevirtual 189, 3) := by decide +kernel
theorem dX11_parseStatement_69 : decode cX11_parseStatement 69 = .ok (.aload_n 0, 1) := by decide +kernel
theorem dX11_parseStatement_70 : decode cX11_parseStatement 70 = .ok (.bipush 59, 2) := by decide +kernel
theorem dX11_parseStatement_72 : decode cX11_parseStatement 72 = .ok (.invokevirtual 235, 3) := by decide +kernel
theorem dX11_parseStatement_75 : decode cX11_parseStatement 75 = .ok (.ifCond .ne 8, 3) := by decide +kernel
theorem dX11_parseStatement_78 : decode cX11_parseStatement 78 = .ok (.aload_n 0, 1) := by decide +kernel
theorem dX11_parseStatement_79 : decode cX11_parseStatement 79 = .ok (.iconst 1, 1) := by decide +kernel
theorem dX11_parseStatement_80 : decode cX11_parseStatement 80 = .ok (.invokevirtual 189, 3) := by decide +kernel
theorem dX11_parseStatement_83 : decode cX11_parseStatement 83 = .ok (.aload_n 0, 1) := by decide +kernel
theorem dX11_parseStatement_84 : decode cX11_parseStatement 84 = .ok (.invokevirtual 192, 3) := by decide +kernel
theorem dX11_parseStatement_87 : decode cX11_parseStatement 87 = .ok (.return_, 1) := by decide +kernel
theorem dX11_load_0 : decode cX11_load 0 = .ok (.aload_n 0, 1) := by decide +kernel
theorem dX11_load_1 : decode cX11_load 1 = .ok (.iconst 0, 1) := by decide +kernel
theorem dX11_load_2 : decode cX11_load 2 = .ok (.putfield 3, 3) := by decide +kernel
theorem dX11_load_5 : decode cX11_load 5 = .ok (.aload_n 0, 1) := by decide +kernel
theorem dX11_load_6 : decode cX11_load 6 = .ok (.aload_n 0, 1) := by decide +kernel
theorem dX11_load_7 : decode cX11_load 7 = .ok (.getfield 91, 3) := by decide +kernel
theorem dX11_load_10 : decode cX11_load 10 = .ok (.putfield 112, 3) := by decide +kernel
theorem dX11_load_13 : decode cX11_load 13 = .ok (.aload_n 0, 1) := by decide +kernel
theorem dX11_load_14 : decode cX11_load 14 = .ok (.iconst 0, 1) := by decide +kernel
theorem dX11_load_15 : decode cX11_load 15 = .ok (.putfield 91, 3) := by decide +kernel
theorem dX11_load_18 : decode cX11_load 18 = .ok (.aload_n 0, 1) := by decide +kernel
theorem dX11_load_19 : decode cX11_load 19 = .ok (.iconst 0, 1) := by decide +kernel
theorem dX11_load_20 : decode cX11_load 20 = .ok (.putfield 115, 3) := by decide +kernel
theorem dX11_load_23 : decode cX11_load 23 = .ok (.aload_n 0, 1) := by decide +kernel
theorem dX11_load_24 : decode cX11_load 24 = .ok (.iconst 0, 1) := by decide +kernel
theorem dX11_load_25 : decode cX11_load 25 = .ok (.putfield 102, 3) := by decide +kernel
theorem dX11_load_28 : decode cX11_load 28 = .ok (.aload_n 0, 1) := by decide +kernel
theorem dX11_load_29 : decode cX11_load 29 = .ok (.iconst (-1), 1) := by decide +kernel
theorem dX11_load_30 : decode cX11_load 30 = .ok (.putfield 35, 3) := by decide +kernel
theorem dX11_load_33 : decode cX11_load 33 = .ok (.iconst 0, 1) := by decide +kernel
theorem dX11_load_34 : decode cX11_load 34 = .ok (.istore_n 1, 1) := by decide +kernel
theorem dX11_load_35 : decode cX11_load 35 = .ok (.iload_n 1, 1) := by decide +kernel
theorem dX11_load_36 : decode cX11_load 36 = .ok (.sipush 6391, 3) := by decide +kernel
theorem dX11_load_39 : decode cX11_load 39 = .ok (.if_icmp .ge 16, 3) := by decide +kernel
theorem dX11_load_42 : decode cX11_load 42 = .ok (.aload_n 0, 1) := by decide +kernel
theorem dX11_load_43 : decode cX11_load 43 = .ok (.getfield 21, 3) := by decide +kernel
theorem dX11_load_46 : decode cX11_load 46 = .ok (.iload_n 1, 1) := by decide +kernel
theorem dX11_load_47 : decode cX11_load 47 = .ok (.iconst 0, 1) := by decide +kernel
theorem dX11_load_48 : decode cX11_load 48 = .ok (.iastore, 1) := by decide +kernel
theorem dX11_load_49 : decode cX11_load 49 = .ok (.iinc 1 1, 3) := by decide +kernel
theorem dX11_load_52 : decode cX11_load 52 = .ok (.goto (-17), 3) := by decide +kernel
theorem dX11_load_55 : decode cX11_load 55 = .ok (.aload_n 0, 1) := by decide +kernel
theorem dX11_load_56 : decode cX11_load 56 = .ok (.aload_n 0, 1) := by decide +kernel
theorem dX11_load_57 : decode cX11_load 57 = .ok (.getfield 21, 3) := by decide +kernel
theorem dX11_load_60 : decode cX11_load 60 = .ok (.putfield 29, 3) := by decide +kernel
theorem dX11_load_63 : decode cX11_load 63 = .ok (.aload_n 0, 1) := by decide +kernel
theorem dX11_load_64 : decode cX11_load 64 = .ok (.invokevirtual 142, 3) := by decide +kernel
theorem dX11_load_67 : decode cX11_load 67 = .ok (.aload_n 0, 1) := by decide +kernel
theorem dX11_load_68 : decode cX11_load 68 = .ok (.ldc 155, 2) := by decide +kernel
theorem dX11_load_70 : decode cX11_load 70 = .ok (.invokevirtual 195, 3) := by decide +kernel
theorem dX11_load_73 : decode cX11_load 73 = .ok (.aload_n 0, 1) := by decide +kernel
theorem dX11_load_74 : decode cX11_load 74 = .ok (.getfield 29, 3) := by decide +kernel
theorem dX11_load_77 : decode cX11_load 77 = .ok (.iconst 0, 1) := by decide +kernel
theorem dX11_load_78 : decode cX11_load 78 = .ok (.aload_n 0, 1) := by decide +kernel
theorem dX11_load_79 : decode cX11_load 79 = .ok (.ldc 161, 2) := by decide +kernel
theorem dX11_load_81 : decode cX11_load 81 = .ok (.iconst 0, 1) := by decide +kernel
theorem dX11_load_82 : decode cX11_load 82 = .ok (.bipush 30, 2) := by decide +kernel
theorem dX11_load_84 : decode cX11_load 84 = .ok (.invokevirtual 224, 3) := by decide +kernel
theorem dX11_load_87 : decode cX11_load 87 = .ok (.iastore, 1) := by decide +kernel
theorem dX11_load_88 : decode cX11_load 88 = .ok (.aload_n 0, 1) := by decide +kernel
theorem dX11_load_89 : decode cX11_load 89 = .ok (.getfield 29, 3) := by decide +kernel
theorem dX11_load_92 : decode cX11_load 92 = .ok (.iconst 1, 1) := by decide +kernel
theorem dX11_load_93 : decode cX11_load 93 = .ok (.aload_n 0, 1) := by decide +kernel
theorem dX11_load_94 : decode cX11_load 94 = .ok (.ldc 163, 2) := by decide +kernel
theorem dX11_load_96 : decode cX11_load 96 = .ok (.iconst 1, 1) := by decide +kernel
theorem dX11_load_97 : decode cX11_load 97 = .ok (.bipush 30, 2) := by decide +kernel
theorem dX11_load_99 : decode cX11_load 99 = .ok (.invokevirtual 224, 3) := by decide +kernel
theorem dX11_load_102 : decode cX11_load 102 = .ok (.iastore, 1) := by decide +kernel
theorem dX11_load_103 : decode cX11_load 103 = .ok (.aload_n 0, 1) := by decide +kernel
theorem dX11_load_104 : decode cX11_load 104 = .ok (.bipush 59, 2) := by decide +kernel
theorem dX11_load_106 : decode cX11_load 106 = .ok (.invokevirtual 235, 3) := by decide +kernel
theorem dX11_load_109 : decode cX11_load 109 = .ok (.ifCond .ne 8, 3) := by decide +kernel
theorem dX11_load_112 : decode cX11_load 112 = .ok (.aload_n 0, 1) := by decide +kernel
theorem dX11_load_113 : decode cX11_load 113 = .ok (.iconst 1, 1) := by decide +kernel
theorem dX11_load_114 : decode cX11_load 114 = .ok (.invokevirtual 189, 3) := by decide +kernel
theorem dX11_load_117 : decode cX11_load 117 = .ok (.aload_n 0, 1) := by decide +kernel
theorem dX11_load_118 : decode cX11_load 118 = .ok (.invokevirtual 192, 3) := by decide +kernel
theorem dX11_load_121 : decode cX11_load 121 = .ok (.aload_n 0, 1) := by decide +kernel
theorem dX11_load_122 : decode cX11_load 122 = .ok (.invokevirtual 105, 3) := by decide +kernel
theorem dX11_load_125 : decode cX11_load 125 = .ok (.ifCond .eq 17, 3) := by decide +kernel
theorem dX11_load_128 : decode cX11_load 128 = .ok (.aload_n 0, 1) := by decide +kernel
theorem dX11_load_129 : decode cX11_load 129 = .ok (.getfield 122, 3) := by decide +kernel
theorem dX11_load_132 : decode cX11_load 132 = .ok (.ifCond .eq 10, 3) := by decide +kernel
theorem dX11_load_135 : decode cX11_load 135 = .ok (.aload_n 0, 1) := by decide +kernel
theorem dX11_load_136 : decode cX11_load 136 = .ok (.invokevirtual 253, 3) := by decide +kernel
theorem dX11_load_139 : decode cX11_load 139 = .ok (.goto (-18), 3) := by decide +kernel
theorem dX11_load_142 : decode cX11_load 142 = .ok (.aload_n 0, 1) := by decide +kernel
theorem dX11_load_143 : decode cX11_load 143 = .ok (.aload_n 0, 1) := by decide +kernel
theorem dX11_load_144 : decode cX11_load 144 = .ok (.getfield 17, 3) := by decide +kernel
theorem dX11_load_147 : decode cX11_load 147 = .ok (.putfield 29, 3) := by decide +kernel
theorem dX11_load_150 : decode cX11_load 150 = .ok (.aload_n 0, 1) := by decide +kernel
theorem dX11_load_151 : decode cX11_load 151 = .ok (.invokevirtual 105, 3) := by decide +kernel
theorem dX11_load_154 : decode cX11_load 154 = .ok (.ifCond .ne 6, 3) := by decide +kernel
theorem dX11_load_157 : decode cX11_load 157 = .ok (.bipush (-4), 2) := by decide +kernel
theorem dX11_load_159 : decode cX11_load 159 = .ok (.ireturn, 1) := by decide +kernel
theorem dX11_load_160 : decode cX11_load 160 = .ok (.aload_n 0, 1) := by decide +kernel
theorem dX11_load_161 : decode cX11_load 161 = .ok (.invokevirtual 256, 3) := by decide +kernel
theorem dX11_load_164 : decode cX11_load 164 = .ok (.iconst 0, 1) := by decide +kernel
theorem dX11_load_165 : decode cX11_load 165 = .ok (.istore_n 1, 1) := by decide +kernel
theorem dX11_load_166 : decode cX11_load 166 = .ok (.iload_n 1, 1) := by decide +kernel
theorem dX11_load_167 : decode cX11_load 167 = .ok (.sipush 6391, 3) := by decide +kernel
theorem dX11_load_170 : decode cX11_load 170 = .ok (.if_icmp .ge 21, 3) := by decide +kernel
theorem dX11_load_173 : decode cX11_load 173 = .ok (.aload_n 0, 1) := by decide +kernel
theorem dX11_load_174 : decode cX11_load 174 = .ok (.getfield 17, 3) := by decide +kernel
theorem dX11_load_177 : decode cX11_load 177 = .ok (.iload_n 1, 1) := by decide +kernel
theorem dX11_load_178 : decode cX11_load 178 = .ok (.aload_n 0, 1) := by decide +kernel
theorem dX11_load_179 : decode cX11_load 179 = .ok (.getfield 21, 3) := by decide +kernel
theorem dX11_load_182 : decode cX11_load 182 = .ok (.iload_n 1, 1) := by decide +kernel
theorem dX11_load_183 : decode cX11_load 183 = .ok (.iaload, 1) := by decide +kernel
theorem dX11_load_184 : decode cX11_load 184 = .ok (.iastore, 1) := by decide +kernel
theorem dX11_load_185 : decode cX11_load 185 = .ok (.iinc 1 1, 3) := by decide +kernel
theorem dX11_load_188 : decode cX11_load 188 = .ok (.goto (-22), 3) := by decide +kernel
theorem dX11_load_191 : decode cX11_load 191 = .ok (.aload_n 0, 1) := by decide +kernel
theorem dX11_load_192 : decode cX11_load 192 = .ok (.getfield 17, 3) := by decide +kernel
theorem dX11_load_195 : decode cX11_load 195 = .ok (.iconst 4, 1) := by decide +kernel
theorem dX11_load_196 : decode cX11_load 196 = .ok (.iaload, 1) := by decide +kernel
theorem dX11_load_197 : decode cX11_load 197 = .ok (.ireturn, 1) := by decide +kernel
theorem dX11_errorCode_0 : decode cX11_errorCode 0 = .ok (.aload_n 0, 1) := by decide +kernel
theorem dX11_errorCode_1 : decode cX11_errorCode 1 = .ok (.iconst 0, 1) := by decide +kernel
theorem dX11_errorCode_2 : decode cX11_errorCode 2 = .ok (.putfield 3, 3) := by decide +kernel
theorem dX11_errorCode_5 : decode cX11_errorCode 5 = .ok (.aload_n 0, 1) := by decide +kernel
theorem dX11_errorCode_6 : decode cX11_errorCode 6 = .ok (.getfield 102, 3) := by decide +kernel
theorem dX11_errorCode_9 : decode cX11_errorCode 9 = .ok (.ireturn, 1) := by decide +kernel
theorem dX11_errorPosition_0 : decode cX11_errorPosition 0 = .ok (.aload_n 0, 1) := by decide +kernel
theorem dX11_errorPosition_1 : decode cX11_errorPosition 1 = .ok (.iconst 0, 1) := by decide +kernel
theorem dX11_errorPosition_2 : decode cX11_errorPosition 2 = .ok (.putfield 3, 3) := by decide +kernel
theorem dX11_errorPosition_5 : decode cX11_errorPosition 5 = .ok (.aload_n 0, 1) := by decide +kernel
theorem dX11_errorPosition_6 : decode cX11_errorPosition 6 = .ok (.getfield 35, 3) := by decide +kernel
theorem dX11_errorPosition_9 : decode cX11_errorPosition 9 = .ok (.ireturn, 1) := by decide +kernel
theorem dX11_isInputWord_0 : decode cX11_isInputWord 0 = .ok (.aload_n 0, 1) := by decide +kernel
theorem dX11_isInputWord_1 : decode cX11_isInputWord 1 = .ok (.iconst 0, 1) := by decide +kernel
theorem dX11_isInputWord_2 : decode cX11_isInputWord 2 = .ok (.putfield 109, 3) := by decide +kernel
theorem dX11_isInputWord_5 : decode cX11_isInputWord 5 = .ok (.aload_n 0, 1) := by decide +kernel
theorem dX11_isInputWord_6 : decode cX11_isInputWord 6 = .ok (.aload_n 0, 1) := by decide +kernel
theorem dX11_isInputWord_7 : decode cX11_isInputWord 7 = .ok (.getfield 91, 3) := by decide +kernel
theorem dX11_isInputWord_10 : decode cX11_isInputWord 10 = .ok (.putfield 115, 3) := by decide +kernel
theorem dX11_isInputWord_13 : decode cX11_isInputWord 13 = .ok (.aload_n 0, 1) := by decide +kernel
theorem dX11_isInputWord_14 : decode cX11_isInputWord 14 = .ok (.getfield 115, 3) := by decide +kernel
theorem dX11_isInputWord_17 : decode cX11_isInputWord 17 = .ok (.ifCond .le 7, 3) := by decide +kernel
theorem dX11_isInputWord_20 : decode cX11_isInputWord 20 = .ok (.iconst 1, 1) := by decide +kernel
theorem dX11_isInputWord_21 : decode cX11_isInputWord 21 = .ok (.goto 4, 3) := by decide +kernel
theorem dX11_isInputWord_24 : decode cX11_isInputWord 24 = .ok (.iconst 0, 1) := by decide +kernel
theorem dX11_isInputWord_25 : decode cX11_isInputWord 25 = .ok (.istore_n 1, 1) := by decide +kernel
theorem dX11_isInputWord_26 : decode cX11_isInputWord 26 = .ok (.iconst 0, 1) := by decide +kernel
theorem dX11_isInputWord_27 : decode cX11_isInputWord 27 = .ok (.istore_n 2, 1) := by decide +kernel
theorem dX11_isInputWord_28 : decode cX11_isInputWord 28 = .ok (.iload_n 2, 1) := by decide +kernel
theorem dX11_isInputWord_29 : decode cX11_isInputWord 29 = .ok (.aload_n 0, 1) := by decide +kernel
theorem dX11_isInputWord_30 : decode cX11_isInputWord 30 = .ok (.getfield 115, 3) := by decide +kernel
theorem dX11_isInputWord_33 : decode cX11_isInputWord 33 = .ok (.if_icmp .ge 30, 3) := by decide +kernel
theorem dX11_isInputWord_36 : decode cX11_isInputWord 36 = .ok (.iload_n 1, 1) := by decide +kernel
theorem dX11_isInputWord_37 : decode cX11_isInputWord 37 = .ok (.ifCond .eq 26, 3) := by decide +kernel
theorem dX11_isInputWord_40 : decode cX11_isInputWord 40 = .ok (.aload_n 0, 1) := by decide +kernel
theorem dX11_isInputWord_41 : decode cX11_isInputWord 41 = .ok (.getfield 32, 3) := by decide +kernel
theorem dX11_isInputWord_44 : decode cX11_isInputWord 44 = .ok (.iload_n 2, 1) := by decide +kernel
theorem dX11_isInputWord_45 : decode cX11_isInputWord 45 = .ok (.baload, 1) := by decide +kernel
theorem dX11_isInputWord_46 : decode cX11_isInputWord 46 = .ok (.i2l, 1) := by decide +kernel
theorem dX11_isInputWord_47 : decode cX11_isInputWord 47 = .ok (.ldc2_w 125, 3) := by decide +kernel
theorem dX11_isInputWord_50 : decode cX11_isInputWord 50 = .ok (.ldc2_w 127, 3) := by decide +kernel
theorem dX11_isInputWord_53 : decode cX11_isInputWord 53 = .ok (.invokestatic 64, 3) := by decide +kernel
theorem dX11_isInputWord_56 : decode cX11_isInputWord 56 = .ok (.istore_n 1, 1) := by decide +kernel
theorem dX11_isInputWord_57 : decode cX11_isInputWord 57 = .ok (.iinc 2 1, 3) := by decide +kernel
theorem dX11_isInputWord_60 : decode cX11_isInputWord 60 = .ok (.goto (-32), 3) := by decide +kernel
theorem dX11_isInputWord_63 : decode cX11_isInputWord 63 = .ok (.iload_n 1, 1) := by decide +kernel
theorem dX11_isInputWord_64 : decode cX11_isInputWord 64 = .ok (.ireturn, 1) := by decide +kernel
theorem dX11_find_0 : decode cX11_find 0 = .ok (.aload_n 0, 1) := by decide +kernel
theorem dX11_find_1 : decode cX11_find 1 = .ok (.iload_n 1, 1) := by decide +kernel
theorem dX11_find_2 : decode cX11_find 2 = .ok (.i2l, 1) := by decide +kernel
theorem dX11_find_3 : decode cX11_find 3 = .ok (.lconst 0, 1) := by decide +kernel
theorem dX11_find_4 : decode cX11_find 4 = .ok (.ldc2_w 259, 3) := by decide +kernel
theorem dX11_find_7 : decode cX11_find 7 = .ok (.invokestatic 64, 3) := by decide +kernel
theorem dX11_find_10 : decode cX11_find 10 = .ok (.invokevirtual 94, 3) := by decide +kernel
theorem dX11_find_13 : decode cX11_find 13 = .ok (.ifCond .ne 5, 3) := by decide +kernel
theorem dX11_find_16 : decode cX11_find 16 = .ok (.iconst 0, 1) := by decide +kernel
theorem dX11_find_17 : decode cX11_find 17 = .ok (.ireturn, 1) := by decide +kernel
theorem dX11_find_18 : decode cX11_find 18 = .ok (.aload_n 0, 1) := by decide +kernel
theorem dX11_find_19 : decode cX11_find 19 = .ok (.invokevirtual 261, 3) := by decide +kernel
theorem dX11_find_22 : decode cX11_find 22 = .ok (.istore_n 2, 1) := by decide +kernel
theorem dX11_find_23 : decode cX11_find 23 = .ok (.aload_n 0, 1) := by decide +kernel
theorem dX11_find_24 : decode cX11_find 24 = .ok (.iconst 0, 1) := by decide +kernel
theorem dX11_find_25 : decode cX11_find 25 = .ok (.putfield 91, 3) := by decide +kernel
theorem dX11_find_28 : decode cX11_find 28 = .ok (.iload_n 2, 1) := by decide +kernel
theorem dX11_find_29 : decode cX11_find 29 = .ok (.ifCond .eq 11, 3) := by decide +kernel
theorem dX11_find_32 : decode cX11_find 32 = .ok (.aload_n 0, 1) := by decide +kernel
theorem dX11_find_33 : decode cX11_find 33 = .ok (.iload_n 1, 1) := by decide +kernel
theorem dX11_find_34 : decode cX11_find 34 = .ok (.invokevirtual 214, 3) := by decide +kernel
theorem dX11_find_37 : decode cX11_find 37 = .ok (.goto 4, 3) := by decide +kernel
theorem dX11_find_40 : decode cX11_find 40 = .ok (.iconst (-1), 1) := by decide +kernel
theorem dX11_find_41 : decode cX11_find 41 = .ok (.ireturn, 1) := by decide +kernel
theorem dX11_count_0 : decode cX11_count 0 = .ok (.aload_n 0, 1) := by decide +kernel
theorem dX11_count_1 : decode cX11_count 1 = .ok (.iload_n 1, 1) := by decide +kernel
theorem dX11_count_2 : decode cX11_count 2 = .ok (.i2l, 1) := by decide +kernel
theorem dX11_count_3 : decode cX11_count 3 = .ok (.lconst 0, 1) := by decide +kernel
theorem dX11_count_4 : decode cX11_count 4 = .ok (.ldc2_w 259, 3) := by decide +kernel
theorem dX11_count_7 : decode cX11_count 7 = .ok (.invokestatic 64, 3) := by decide +kernel
theorem dX11_count_10 : decode cX11_count 10 = .ok (.invokevirtual 94, 3) := by decide +kernel
theorem dX11_count_13 : decode cX11_count 13 = .ok (.ifCond .eq 14, 3) := by decide +kernel
theorem dX11_count_16 : decode cX11_count 16 = .ok (.aload_n 0, 1) := by decide +kernel
theorem dX11_count_17 : decode cX11_count 17 = .ok (.getfield 17, 3) := by decide +kernel
theorem dX11_count_20 : decode cX11_count 20 = .ok (.iconst 3, 1) := by decide +kernel
theorem dX11_count_21 : decode cX11_count 21 = .ok (.iload_n 1, 1) := by decide +kernel
theorem dX11_count_22 : decode cX11_count 22 = .ok (.iadd, 1) := by decide +kernel
theorem dX11_count_23 : decode cX11_count 23 = .ok (.iaload, 1) := by decide +kernel
theorem dX11_count_24 : decode cX11_count 24 = .ok (.goto 4, 3) := by decide +kernel
theorem dX11_count_27 : decode cX11_count 27 = .ok (.iconst 0, 1) := by decide +kernel
theorem dX11_count_28 : decode cX11_count 28 = .ok (.ireturn, 1) := by decide +kernel
theorem dX11_members_0 : decode cX11_members 0 = .ok (.aload_n 0, 1) := by decide +kernel
theorem dX11_members_1 : decode cX11_members 1 = .ok (.iload_n 1, 1) := by decide +kernel
theorem dX11_members_2 : decode cX11_members 2 = .ok (.i2l, 1) := by decide +kernel
theorem dX11_members_3 : decode cX11_members 3 = .ok (.lconst 0, 1) := by decide +kernel
theorem dX11_members_4 : decode cX11_members 4 = .ok (.aload_n 0, 1) := by decide +kernel
theorem dX11_members_5 : decode cX11_members 5 = .ok (.getfield 17, 3) := by decide +kernel
theorem dX11_members_8 : decode cX11_members 8 = .ok (.iconst 5, 1) := by decide +kernel
theorem dX11_members_9 : decode cX11_members 9 = .ok (.iaload, 1) := by decide +kernel
theorem dX11_members_10 : decode cX11_members 10 = .ok (.iconst 1, 1) := by decide +kernel
theorem dX11_members_11 : decode cX11_members 11 = .ok (.isub, 1) := by decide +kernel
theorem dX11_members_12 : decode cX11_members 12 = .ok (.i2l, 1) := by decide +kernel
theorem dX11_members_13 : decode cX11_members 13 = .ok (.invokestatic 64, 3) := by decide +kernel
theorem dX11_members_16 : decode cX11_members 16 = .ok (.invokevirtual 94, 3) := by decide +kernel
theorem dX11_members_19 : decode cX11_members 19 = .ok (.ifCond .eq 21, 3) := by decide +kernel
theorem dX11_members_22 : decode cX11_members 22 = .ok (.aload_n 0, 1) := by decide +kernel
theorem dX11_members_23 : decode cX11_members 23 = .ok (.getfield 17, 3) := by decide +kernel
theorem dX11_members_26 : decode cX11_members 26 = .ok (.sipush 163, 3) := by decide +kernel
theorem dX11_members_29 : decode cX11_members 29 = .ok (.bipush 7, 2) := by decide +kernel
theorem dX11_members_31 : decode cX11_members 31 = .ok (.iload_n 1, 1) := by decide +kernel
theorem dX11_members_32 : decode cX11_members 32 = .ok (.imul, 1) := by decide +kernel
theorem dX11_members_33 : decode cX11_members 33 = .ok (.iadd, 1) := by decide +kernel
theorem dX11_members_34 : decode cX11_members 34 = .ok (.iconst 0, 1) := by decide +kernel
theorem dX11_members_35 : decode cX11_members 35 = .ok (.iadd, 1) := by decide +kernel
theorem dX11_members_36 : decode cX11_members 36 = .ok (.iaload, 1) := by decide +kernel
theorem dX11_members_37 : decode cX11_members 37 = .ok (.goto 4, 3) := by decide +kernel
theorem dX11_members_40 : decode cX11_members 40 = .ok (.iconst 0, 1) := by decide +kernel
theorem dX11_members_41 : decode cX11_members 41 = .ok (.ireturn, 1) := by decide +kernel
theorem dX11_retention_0 : decode cX11_retention 0 = .ok (.aload_n 0, 1) := by decide +kernel
theorem dX11_retention_1 : decode cX11_retention 1 = .ok (.aload_n 0, 1) := by decide +kernel
theorem dX11_retention_2 : decode cX11_retention 2 = .ok (.iload_n 1, 1) := by decide +kernel
theorem dX11_retention_3 : decode cX11_retention 3 = .ok (.invokevirtual 264, 3) := by decide +kernel
theorem dX11_retention_6 : decode cX11_retention 6 = .ok (.iload_n 2, 1) := by decide +kernel
theorem dX11_retention_7 : decode cX11_retention 7 = .ok (.i2l, 1) := by decide +kernel
theorem dX11_retention_8 : decode cX11_retention 8 = .ok (.lconst 0, 1) := by decide +kernel
theorem dX11_retention_9 : decode cX11_retention 9 = .ok (.ldc2_w 82, 3) := by decide +kernel
theorem dX11_retention_12 : decode cX11_retention 12 = .ok (.invokestatic 64, 3) := by decide +kernel
theorem dX11_retention_15 : decode cX11_retention 15 = .ok (.invokevirtual 267, 3) := by decide +kernel
theorem dX11_retention_18 : decode cX11_retention 18 = .ok (.ifCond .eq 12, 3) := by decide +kernel
theorem dX11_retention_21 : decode cX11_retention 21 = .ok (.aload_n 0, 1) := by decide +kernel
theorem dX11_retention_22 : decode cX11_retention 22 = .ok (.iload_n 1, 1) := by decide +kernel
theorem dX11_retention_23 : decode cX11_retention 23 = .ok (.iload_n 2, 1) := by decide +kernel
theorem dX11_retention_24 : decode cX11_retention 24 = .ok (.invokevirtual 271, 3) := by decide +kernel
theorem dX11_retention_27 : decode cX11_retention 27 = .ok (.goto 4, 3) := by decide +kernel
theorem dX11_retention_30 : decode cX11_retention 30 = .ok (.iconst 0, 1) := by decide +kernel
theorem dX11_retention_31 : decode cX11_retention 31 = .ok (.ireturn, 1) := by decide +kernel
theorem dX11_ladder_0 : decode cX11_ladder 0 = .ok (.iconst 0, 1) := by decide +kernel
theorem dX11_ladder_1 : decode cX11_ladder 1 = .ok (.istore_n 2, 1) := by decide +kernel
theorem dX11_ladder_2 : decode cX11_ladder 2 = .ok (.iload_n 1, 1) := by decide +kernel
theorem dX11_ladder_3 : decode cX11_ladder 3 = .ok (.istore_n 3, 1) := by decide +kernel
theorem dX11_ladder_4 : decode cX11_ladder 4 = .ok (.iload_n 3, 1) := by decide +kernel
theorem dX11_ladder_5 : decode cX11_ladder 5 = .ok (.iconst (-1), 1) := by decide +kernel
theorem dX11_ladder_6 : decode cX11_ladder 6 = .ok (.if_icmp .eq 34, 3) := by decide +kernel
theorem dX11_ladder_9 : decode cX11_ladder 9 = .ok (.aload_n 0, 1) := by decide +kernel
theorem dX11_ladder_10 : decode cX11_ladder 10 = .ok (.iload_n 3, 1) := by decide +kernel
theorem dX11_ladder_11 : decode cX11_ladder 11 = .ok (.iconst 0, 1) := by decide +kernel
theorem dX11_ladder_12 : decode cX11_ladder 12 = .ok (.invokevirtual 271, 3) := by decide +kernel
theorem dX11_ladder_15 : decode cX11_ladder 15 = .ok (.iconst (-1), 1) := by decide +kernel
theorem dX11_ladder_16 : decode cX11_ladder 16 = .ok (.if_icmp .ne 5, 3) := by decide +kernel
theorem dX11_ladder_19 : decode cX11_ladder 19 = .ok (.iconst (-1), 1) := by decide +kernel
theorem dX11_ladder_20 : decode cX11_ladder 20 = .ok (.ireturn, 1) := by decide +kernel
theorem dX11_ladder_21 : decode cX11_ladder 21 = .ok (.iload_n 2, 1) := by decide +kernel
theorem dX11_ladder_22 : decode cX11_ladder 22 = .ok (.aload_n 0, 1) := by decide +kernel
theorem dX11_ladder_23 : decode cX11_ladder 23 = .ok (.iload_n 3, 1) := by decide +kernel
theorem dX11_ladder_24 : decode cX11_ladder 24 = .ok (.iconst 0, 1) := by decide +kernel
theorem dX11_ladder_25 : decode cX11_ladder 25 = .ok (.invokevirtual 271, 3) := by decide +kernel
theorem dX11_ladder_28 : decode cX11_ladder 28 = .ok (.iadd, 1) := by decide +kernel
theorem dX11_ladder_29 : decode cX11_ladder 29 = .ok (.istore_n 2, 1) := by decide +kernel
theorem dX11_ladder_30 : decode cX11_ladder 30 = .ok (.aload_n 0, 1) := by decide +kernel
theorem dX11_ladder_31 : decode cX11_ladder 31 = .ok (.iload_n 3, 1) := by decide +kernel
theorem dX11_ladder_32 : decode cX11_ladder 32 = .ok (.iconst 2, 1) := by decide +kernel
theorem dX11_ladder_33 : decode cX11_ladder 33 = .ok (.invokevirtual 271, 3) := by decide +kernel
theorem dX11_ladder_36 : decode cX11_ladder 36 = .ok (.istore_n 3, 1) := by decide +kernel
theorem dX11_ladder_37 : decode cX11_ladder 37 = .ok (.goto (-33), 3) := by decide +kernel
theorem dX11_ladder_40 : decode cX11_ladder 40 = .ok (.iload_n 2, 1) := by decide +kernel
theorem dX11_ladder_41 : decode cX11_ladder 41 = .ok (.ireturn, 1) := by decide +kernel
theorem dX11_ladderDays_0 : decode cX11_ladderDays 0 = .ok (.aload_n 0, 1) := by decide +kernel
theorem dX11_ladderDays_1 : decode cX11_ladderDays 1 = .ok (.aload_n 0, 1) := by decide +kernel
theorem dX11_ladderDays_2 : decode cX11_ladderDays 2 = .ok (.iload_n 1, 1) := by decide +kernel
theorem dX11_ladderDays_3 : decode cX11_ladderDays 3 = .ok (.invokevirtual 264, 3) := by decide +kernel
theorem dX11_ladderDays_6 : decode cX11_ladderDays 6 = .ok (.invokevirtual 94, 3) := by decide +kernel
theorem dX11_ladderDays_9 : decode cX11_ladderDays 9 = .ok (.ifCond .eq 11, 3) := by decide +kernel
theorem dX11_ladderDays_12 : decode cX11_ladderDays 12 = .ok (.aload_n 0, 1) := by decide +kernel
theorem dX11_ladderDays_13 : decode cX11_ladderDays 13 = .ok (.iload_n 1, 1) := by decide +kernel
theorem dX11_ladderDays_14 : decode cX11_ladderDays 14 = .ok (.invokevirtual 274, 3) := by decide +kernel
theorem dX11_ladderDays_17 : decode cX11_ladderDays 17 = .ok (.goto 4, 3) := by decide +kernel
theorem dX11_ladderDays_20 : decode cX11_ladderDays 20 = .ok (.iconst 0, 1) := by decide +kernel
theorem dX11_ladderDays_21 : decode cX11_ladderDays 21 = .ok (.ireturn, 1) := by decide +kernel
theorem dX11_day_0 : decode cX11_day 0 = .ok (.aload_n 0, 1) := by decide +kernel
theorem dX11_day_1 : decode cX11_day 1 = .ok (.iconst 0, 1) := by decide +kernel
theorem dX11_day_2 : decode cX11_day 2 = .ok (.putfield 3, 3) := by decide +kernel
theorem dX11_day_5 : decode cX11_day 5 = .ok (.aload_n 0, 1) := by decide +kernel
theorem dX11_day_6 : decode cX11_day 6 = .ok (.getfield 17, 3) := by decide +kernel
theorem dX11_day_9 : decode cX11_day 9 = .ok (.iconst 2, 1) := by decide +kernel
theorem dX11_day_10 : decode cX11_day 10 = .ok (.iaload, 1) := by decide +kernel
theorem dX11_day_11 : decode cX11_day 11 = .ok (.ireturn, 1) := by decide +kernel
theorem dX11_partByteAt_0 : decode cX11_partByteAt 0 = .ok (.aload_n 0, 1) := by decide +kernel
theorem dX11_partByteAt_1 : decode cX11_partByteAt 1 = .ok (.getfield 25, 3) := by decide +kernel
theorem dX11_partByteAt_4 : decode cX11_partByteAt 4 = .ok (.sipush 200, 3) := by decide +kernel
theorem dX11_partByteAt_7 : decode cX11_partByteAt 7 = .ok (.iload_n 1, 1) := by decide +kernel
theorem dX11_partByteAt_8 : decode cX11_partByteAt 8 = .ok (.imul, 1) := by decide +kernel
theorem dX11_partByteAt_9 : decode cX11_partByteAt 9 = .ok (.iload_n 2, 1) := by decide +kernel
theorem dX11_partByteAt_10 : decode cX11_partByteAt 10 = .ok (.iadd, 1) := by decide +kernel
theorem dX11_partByteAt_11 : decode cX11_partByteAt 11 = .ok (.baload, 1) := by decide +kernel
theorem dX11_partByteAt_12 : decode cX11_partByteAt 12 = .ok (.ireturn, 1) := by decide +kernel
theorem dX11_isLetterIn_0 : decode cX11_isLetterIn 0 = .ok (.iload_n 2, 1) := by decide +kernel
theorem dX11_isLetterIn_1 : decode cX11_isLetterIn 1 = .ok (.ifCond .lt 36, 3) := by decide +kernel
theorem dX11_isLetterIn_4 : decode cX11_isLetterIn 4 = .ok (.iload_n 2, 1) := by decide +kernel
theorem dX11_isLetterIn_5 : decode cX11_isLetterIn 5 = .ok (.aload_n 0, 1) := by decide +kernel
theorem dX11_isLetterIn_6 : decode cX11_isLetterIn 6 = .ok (.iload_n 1, 1) := by decide +kernel
theorem dX11_isLetterIn_7 : decode cX11_isLetterIn 7 = .ok (.iconst 0, 1) := by decide +kernel
theorem dX11_isLetterIn_8 : decode cX11_isLetterIn 8 = .ok (.invokevirtual 84, 3) := by decide +kernel
theorem dX11_isLetterIn_11 : decode cX11_isLetterIn 11 = .ok (.if_icmp .ge 26, 3) := by decide +kernel
theorem dX11_isLetterIn_14 : decode cX11_isLetterIn 14 = .ok (.aload_n 0, 1) := by decide +kernel
theorem dX11_isLetterIn_15 : decode cX11_isLetterIn 15 = .ok (.iload_n 1, 1) := by decide +kernel
theorem dX11_isLetterIn_16 : decode cX11_isLetterIn 16 = .ok (.iload_n 2, 1) := by decide +kernel
theorem dX11_isLetterIn_17 : decode cX11_isLetterIn 17 = .ok (.invokevirtual 277, 3) := by decide +kernel
theorem dX11_isLetterIn_20 : decode cX11_isLetterIn 20 = .ok (.i2l, 1) := by decide +kernel
theorem dX11_isLetterIn_21 : decode cX11_isLetterIn 21 = .ok (.ldc2_w 125, 3) := by decide +kernel
theorem dX11_isLetterIn_24 : decode cX11_isLetterIn 24 = .ok (.ldc2_w 127, 3) := by decide +kernel
theorem dX11_isLetterIn_27 : decode cX11_isLetterIn 27 = .ok (.invokestatic 64, 3) := by decide +kernel
theorem dX11_isLetterIn_30 : decode cX11_isLetterIn 30 = .ok (.ifCond .eq 7, 3) := by decide +kernel
theorem dX11_isLetterIn_33 : decode cX11_isLetterIn 33 = .ok (.iconst 1, 1) := by decide +kernel
theorem dX11_isLetterIn_34 : decode cX11_isLetterIn 34 = .ok (.goto 4, 3) := by decide +kernel
theorem dX11_isLetterIn_37 : decode cX11_isLetterIn 37 = .ok (.iconst 0, 1) := by decide +kernel
theorem dX11_isLetterIn_38 : decode cX11_isLetterIn 38 = .ok (.ireturn, 1) := by decide +kernel
theorem dX11_isWordAt_0 : decode cX11_isWordAt 0 = .ok (.aload_n 0, 1) := by decide +kernel
theorem dX11_isWordAt_1 : decode cX11_isWordAt 1 = .ok (.iload_n 1, 1) := by decide +kernel
theorem dX11_isWordAt_2 : decode cX11_isWordAt 2 = .ok (.iload_n 2, 1) := by decide +kernel
theorem dX11_isWordAt_3 : decode cX11_isWordAt 3 = .ok (.iconst 1, 1) := by decide +kernel
theorem dX11_isWordAt_4 : decode cX11_isWordAt 4 = .ok (.isub, 1) := by decide +kernel
theorem dX11_isWordAt_5 : decode cX11_isWordAt 5 = .ok (.invokevirtual 280, 3) := by decide +kernel
theorem dX11_isWordAt_8 : decode cX11_isWordAt 8 = .ok (.ifCond .ne 21, 3) := by decide +kernel
theorem dX11_isWordAt_11 : decode cX11_isWordAt 11 = .ok (.aload_n 0, 1) := by decide +kernel
theorem dX11_isWordAt_12 : decode cX11_isWordAt 12 = .ok (.iload_n 1, 1) := by decide +kernel
theorem dX11_isWordAt_13 : decode cX11_isWordAt 13 = .ok (.iload_n 2, 1) := by decide +kernel
theorem dX11_isWordAt_14 : decode cX11_isWordAt 14 = .ok (.aload_n 0, 1) := by decide +kernel
theorem dX11_isWordAt_15 : decode cX11_isWordAt 15 = .ok (.getfield 284, 3) := by decide +kernel
theorem dX11_isWordAt_18 : decode cX11_isWordAt 18 = .ok (.iadd, 1) := by decide +kernel
theorem dX11_isWordAt_19 : decode cX11_isWordAt 19 = .ok (.invokevirtual 280, 3) := by decide +kernel
theorem dX11_isWordAt_22 : decode cX11_isWordAt 22 = .ok (.ifCond .ne 7, 3) := by decide +kernel
theorem dX11_isWordAt_25 : decode cX11_isWordAt 25 = .ok (.iconst 1, 1) := by decide +kernel
theorem dX11_isWordAt_26 : decode cX11_isWordAt 26 = .ok (.goto 4, 3) := by decide +kernel
theorem dX11_isWordAt_29 : decode cX11_isWordAt 29 = .ok (.iconst 0, 1) := by decide +kernel
theorem dX11_isWordAt_30 : decode cX11_isWordAt 30 = .ok (.istore_n 3, 1) := by decide +kernel
theorem dX11_isWordAt_31 : decode cX11_isWordAt 31 = .ok (.iconst 0, 1) := by decide +kernel
theorem dX11_isWordAt_32 : decode cX11_isWordAt 32 = .ok (.istore 4, 2) := by decide +kernel
theorem dX11_isWordAt_34 : decode cX11_isWordAt 34 = .ok (.iload 4, 2) := by decide +kernel
theorem dX11_isWordAt_36 : decode cX11_isWordAt 36 = .ok (.aload_n 0, 1) := by decide +kernel
theorem dX11_isWordAt_37 : decode cX11_isWordAt 37 = .ok (.getfield 284, 3) := by decide +kernel
theorem dX11_isWordAt_40 : decode cX11_isWordAt 40 = .ok (.if_icmp .ge 50, 3) := by decide +kernel
theorem dX11_isWordAt_43 : decode cX11_isWordAt 43 = .ok (.iload_n 3, 1) := by decide +kernel
theorem dX11_isWordAt_44 : decode cX11_isWordAt 44 = .ok (.ifCond .eq 46, 3) := by decide +kernel
theorem dX11_isWordAt_47 : decode cX11_isWordAt 47 = .ok (.aload_n 0, 1) := by decide +kernel
theorem dX11_isWordAt_48 : decode cX11_isWordAt 48 = .ok (.iload_n 1, 1) := by decide +kernel
theorem dX11_isWordAt_49 : decode cX11_isWordAt 49 = .ok (.iload_n 2, 1) := by decide +kernel
theorem dX11_isWordAt_50 : decode cX11_isWordAt 50 = .ok (.iload 4, 2) := by decide +kernel
theorem dX11_isWordAt_52 : decode cX11_isWordAt 52 = .ok (.iadd, 1) := by decide +kernel
theorem dX11_isWordAt_53 : decode cX11_isWordAt 53 = .ok (.invokevirtual 280, 3) := by decide +kernel
theorem dX11_isWordAt_56 : decode cX11_isWordAt 56 = .ok (.ifCond .eq 26, 3) := by decide +kernel
theorem dX11_isWordAt_59 : decode cX11_isWordAt 59 = .ok (.aload_n 0, 1) := by decide +kernel
theorem dX11_isWordAt_60 : decode cX11_isWordAt 60 = .ok (.iload_n 1, 1) := by decide +kernel
theorem dX11_isWordAt_61 : decode cX11_isWordAt 61 = .ok (.iload_n 2, 1) := by decide +kernel
theorem dX11_isWordAt_62 : decode cX11_isWordAt 62 = .ok (.iload 4, 2) := by decide +kernel
theorem dX11_isWordAt_64 : decode cX11_isWordAt 64 = .ok (.iadd, 1) := by decide +kernel
theorem dX11_isWordAt_65 : decode cX11_isWordAt 65 = .ok (.invokevirtual 277, 3) := by decide +kernel
theorem dX11_isWordAt_68 : decode cX11_isWordAt 68 = .ok (.aload_n 0, 1) := by decide +kernel
theorem dX11_isWordAt_69 : decode cX11_isWordAt 69 = .ok (.getfield 38, 3) := by decide +kernel
theorem dX11_isWordAt_72 : decode cX11_isWordAt 72 = .ok (.iload 4, 2) := by decide +kernel
theorem dX11_isWordAt_74 : decode cX11_isWordAt 74 = .ok (.iaload, 1) := by decide +kernel
theorem dX11_isWordAt_75 : decode cX11_isWordAt 75 = .ok (.if_icmp .ne 7, 3) := by decide +kernel
theorem dX11_isWordAt_78 : decode cX11_isWordAt 78 = .ok (.iconst 1, 1) := by decide +kernel
theorem dX11_isWordAt_79 : decode cX11_isWordAt 79 = .ok (.goto 4, 3) := by decide +kernel
theorem dX11_isWordAt_82 : decode cX11_isWordAt 82 = .ok (.iconst 0, 1) := by decide +kernel
theorem dX11_isWordAt_83 : decode cX11_isWordAt 83 = .ok (.istore_n 3, 1) := by decide +kernel
theorem dX11_isWordAt_84 : decode cX11_isWordAt 84 = .ok (.iinc 4 1, 3) := by decide +kernel
theorem dX11_isWordAt_87 : decode cX11_isWordAt 87 = .ok (.goto (-53), 3) := by decide +kernel
theorem dX11_isWordAt_90 : decode cX11_isWordAt 90 = .ok (.iload_n 3, 1) := by decide +kernel
theorem dX11_isWordAt_91 : decode cX11_isWordAt 91 = .ok (.ireturn, 1) := by decide +kernel
theorem dX11_contains_0 : decode cX11_contains 0 = .ok (.iconst 0, 1) := by decide +kernel
theorem dX11_contains_1 : decode cX11_contains 1 = .ok (.istore_n 2, 1) := by decide +kernel
theorem dX11_contains_2 : decode cX11_contains 2 = .ok (.iload_n 2, 1) := by decide +kernel
theorem dX11_contains_3 : decode cX11_contains 3 = .ok (.aload_n 0, 1) := by decide +kernel
theorem dX11_contains_4 : decode cX11_contains 4 = .ok (.iload_n 1, 1) := by decide +kernel
theorem dX11_contains_5 : decode cX11_contains 5 = .ok (.iconst 2, 1) := by decide +kernel
theorem dX11_contains_6 : decode cX11_contains 6 = .ok (.invokevirtual 287, 3) := by decide +kernel
theorem dX11_contains_9 : decode cX11_contains 9 = .ok (.if_icmp .ge 55, 3) := by decide +kernel
theorem dX11_contains_12 : decode cX11_contains 12 = .ok (.aload_n 0, 1) := by decide +kernel
theorem dX11_contains_13 : decode cX11_contains 13 = .ok (.iload_n 1, 1) := by decide +kernel
theorem dX11_contains_14 : decode cX11_contains 14 = .ok (.iconst 3, 1) := by decide +kernel
theorem dX11_contains_15 : decode cX11_contains 15 = .ok (.iload_n 2, 1) := by decide +kernel
theorem dX11_contains_16 : decode cX11_contains 16 = .ok (.iadd, 1) := by decide +kernel
theorem dX11_contains_17 : decode cX11_contains 17 = .ok (.invokevirtual 287, 3) := by decide +kernel
theorem dX11_contains_20 : decode cX11_contains 20 = .ok (.istore_n 3, 1) := by decide +kernel
theorem dX11_contains_21 : decode cX11_contains 21 = .ok (.iconst 0, 1) := by decide +kernel
theorem dX11_contains_22 : decode cX11_contains 22 = .ok (.istore 4, 2) := by decide +kernel
theorem dX11_contains_24 : decode cX11_contains 24 = .ok (.iload 4, 2) := by decide +kernel
theorem dX11_contains_26 : decode cX11_contains 26 = .ok (.aload_n 0, 1) := by decide +kernel
theorem dX11_contains_27 : decode cX11_contains 27 = .ok (.getfield 284, 3) := by decide +kernel
theorem dX11_contains_30 : decode cX11_contains 30 = .ok (.iadd, 1) := by decide +kernel
theorem dX11_contains_31 : decode cX11_contains 31 = .ok (.aload_n 0, 1) := by decide +kernel
theorem dX11_contains_32 : decode cX11_contains 32 = .ok (.iload_n 3, 1) := by decide +kernel
theorem dX11_contains_33 : decode cX11_contains 33 = .ok (.iconst 0, 1) := by decide +kernel
theorem dX11_contains_34 : decode cX11_contains 34 = .ok (.invokevirtual 84, 3) := by decide +kernel
theorem dX11_contains_37 : decode cX11_contains 37 = .ok (.if_icmp .gt 21, 3) := by decide +kernel
theorem dX11_contains_40 : decode cX11_contains 40 = .ok (.aload_n 0, 1) := by decide +kernel
theorem dX11_contains_41 : decode cX11_contains 41 = .ok (.iload_n 3, 1) := by decide +kernel
theorem dX11_contains_42 : decode cX11_contains 42 = .ok (.iload 4, 2) := by decide +kernel
theorem dX11_contains_44 : decode cX11_contains 44 = .ok (.invokevirtual 290, 3) := by decide +kernel
theorem dX11_contains_47 : decode cX11_contains 47 = .ok (.ifCond .eq 5, 3) := by decide +kernel
theorem dX11_contains_50 : decode cX11_contains 50 = .ok (.iconst 1, 1) := by decide +kernel
theorem dX11_contains_51 : decode cX11_contains 51 = .ok (.ireturn, 1) := by decide +kernel
theorem dX11_contains_52 : decode cX11_contains 52 = .ok (.iinc 4 1, 3) := by decide +kernel
theorem dX11_contains_55 : decode cX11_contains 55 = .ok (.goto (-31), 3) := by decide +kernel
theorem dX11_contains_58 : decode cX11_contains 58 = .ok (.iinc 2 1, 3) := by decide +kernel
theorem dX11_contains_61 : decode cX11_contains 61 = .ok (.goto (-59), 3) := by decide +kernel
theorem dX11_contains_64 : decode cX11_contains 64 = .ok (.iconst 0, 1) := by decide +kernel
theorem dX11_contains_65 : decode cX11_contains 65 = .ok (.ireturn, 1) := by decide +kernel
theorem dX11_isCovered_0 : decode cX11_isCovered 0 = .ok (.aload_n 0, 1) := by decide +kernel
theorem dX11_isCovered_1 : decode cX11_isCovered 1 = .ok (.iload_n 3, 1) := by decide +kernel
theorem dX11_isCovered_2 : decode cX11_isCovered 2 = .ok (.iconst 3, 1) := by decide +kernel
theorem dX11_isCovered_3 : decode cX11_isCovered 3 = .ok (.invokevirtual 293, 3) := by decide +kernel
theorem dX11_isCovered_6 : decode cX11_isCovered 6 = .ok (.ifCond .eq 40, 3) := by decide +kernel
theorem dX11_isCovered_9 : decode cX11_isCovered 9 = .ok (.aload_n 0, 1) := by decide +kernel
theorem dX11_isCovered_10 : decode cX11_isCovered 10 = .ok (.iload_n 3, 1) := by decide +kernel
theorem dX11_isCovered_11 : decode cX11_isCovered 11 = .ok (.iconst 0, 1) := by decide +kernel
theorem dX11_isCovered_12 : decode cX11_isCovered 12 = .ok (.invokevirtual 293, 3) := by decide +kernel
theorem dX11_isCovered_15 : decode cX11_isCovered 15 = .ok (.iload_n 2, 1) := by decide +kernel
theorem dX11_isCovered_16 : decode cX11_isCovered 16 = .ok (.if_icmp .ne 30, 3) := by decide +kernel
theorem dX11_isCovered_19 : decode cX11_isCovered 19 = .ok (.aload_n 0, 1) := by decide +kernel
theorem dX11_isCovered_20 : decode cX11_isCovered 20 = .ok (.iload_n 1, 1) := by decide +kernel
theorem dX11_isCovered_21 : decode cX11_isCovered 21 = .ok (.iconst 1, 1) := by decide +kernel
theorem dX11_isCovered_22 : decode cX11_isCovered 22 = .ok (.invokevirtual 287, 3) := by decide +kernel
theorem dX11_isCovered_25 : decode cX11_isCovered 25 = .ok (.i2l, 1) := by decide +kernel
theorem dX11_isCovered_26 : decode cX11_isCovered 26 = .ok (.aload_n 0, 1) := by decide +kernel
theorem dX11_isCovered_27 : decode cX11_isCovered 27 = .ok (.iload_n 3, 1) := by decide +kernel
theorem dX11_isCovered_28 : decode cX11_isCovered 28 = .ok (.iconst 1, 1) := by decide +kernel
theorem dX11_isCovered_29 : decode cX11_isCovered 29 = .ok (.invokevirtual 293, 3) := by decide +kernel
theorem dX11_isCovered_32 : decode cX11_isCovered 32 = .ok (.i2l, 1) := by decide +kernel
theorem dX11_isCovered_33 : decode cX11_isCovered 33 = .ok (.aload_n 0, 1) := by decide +kernel
theorem dX11_isCovered_34 : decode cX11_isCovered 34 = .ok (.iload_n 3, 1) := by decide +kernel
theorem dX11_isCovered_35 : decode cX11_isCovered 35 = .ok (.iconst 2, 1) := by decide +kernel
theorem dX11_isCovered_36 : decode cX11_isCovered 36 = .ok (.invokevirtual 293, 3) := by decide +kernel
theorem dX11_isCovered_39 : decode cX11_isCovered 39 = .ok (.i2l, 1) := by decide +kernel
theorem dX11_isCovered_40 : decode cX11_isCovered 40 = .ok (.invokestatic 64, 3) := by decide +kernel
theorem dX11_isCovered_43 : decode cX11_isCovered 43 = .ok (.ifCond .ne 5, 3) := by decide +kernel
theorem dX11_isCovered_46 : decode cX11_isCovered 46 = .ok (.iconst 0, 1) := by decide +kernel
theorem dX11_isCovered_47 : decode cX11_isCovered 47 = .ok (.ireturn, 1) := by decide +kernel
theorem dX11_isCovered_48 : decode cX11_isCovered 48 = .ok (.aload_n 0, 1) := by decide +kernel
theorem dX11_isCovered_49 : decode cX11_isCovered 49 = .ok (.aload_n 0, 1) := by decide +kernel
theorem dX11_isCovered_50 : decode cX11_isCovered 50 = .ok (.iload_n 3, 1) := by decide +kernel
theorem dX11_isCovered_51 : decode cX11_isCovered 51 = .ok (.iconst 4, 1) := by decide +kernel
theorem dX11_isCovered_52 : decode cX11_isCovered 52 = .ok (.invokevirtual 293, 3) := by decide +kernel
theorem dX11_isCovered_55 : decode cX11_isCovered 55 = .ok (.putfield 284, 3) := by decide +kernel
theorem dX11_isCovered_58 : decode cX11_isCovered 58 = .ok (.iconst 0, 1) := by decide +kernel
theorem dX11_isCovered_59 : decode cX11_isCovered 59 = .ok (.istore 4, 2) := by decide +kernel
theorem dX11_isCovered_61 : decode cX11_isCovered 61 = .ok (.iload 4, 2) := by decide +kernel
theorem dX11_isCovered_63 : decode cX11_isCovered 63 = .ok (.bipush 10, 2) := by decide +kernel
theorem dX11_isCovered_65 : decode cX11_isCovered 65 = .ok (.if_icmp .ge 25, 3) := by decide +kernel
theorem dX11_isCovered_68 : decode cX11_isCovered 68 = .ok (.aload_n 0, 1) := by decide +kernel
theorem dX11_isCovered_69 : decode cX11_isCovered 69 = .ok (.getfield 38, 3) := by decide +kernel
theorem dX11_isCovered_72 : decode cX11_isCovered 72 = .ok (.iload 4, 2) := by decide +kernel
theorem dX11_isCovered_74 : decode cX11_isCovered 74 = .ok (.aload_n 0, 1) := by decide +kernel
theorem dX11_isCovered_75 : decode cX11_isCovered 75 = .ok (.iload_n 3, 1) := by decide +kernel
theorem dX11_isCovered_76 : decode cX11_isCovered 76 = .ok (.iconst 5, 1) := by decide +kernel
theorem dX11_isCovered_77 : decode cX11_isCovered 77 = .ok (.iload 4, 2) := by decide +kernel
theorem dX11_isCovered_79 : decode cX11_isCovered 79 = .ok (.iadd, 1) := by decide +kernel
theorem dX11_isCovered_80 : decode cX11_isCovered 80 = .ok (.invokevirtual 293, 3) := by decide +kernel
theorem dX11_isCovered_83 : decode cX11_isCovered 83 = .ok (.iastore, 1) := by decide +kernel
theorem dX11_isCovered_84 : decode cX11_isCovered 84 = .ok (.iinc 4 1, 3) := by decide +kernel
theorem dX11_isCovered_87 : decode cX11_isCovered 87 = .ok (.goto (-26), 3) := by decide +kernel
theorem dX11_isCovered_90 : decode cX11_isCovered 90 = .ok (.aload_n 0, 1) := by decide +kernel
theorem dX11_isCovered_91 : decode cX11_isCovered 91 = .ok (.getfield 284, 3) := by decide +kernel
theorem dX11_isCovered_94 : decode cX11_isCovered 94 = .ok (.ifCond .eq 11, 3) := by decide +kernel
theorem dX11_isCovered_97 : decode cX11_isCovered 97 = .ok (.aload_n 0, 1) := by decide +kernel
theorem dX11_isCovered_98 : decode cX11_isCovered 98 = .ok (.iload_n 1, 1) := by decide +kernel
theorem dX11_isCovered_99 : decode cX11_isCovered 99 = .ok (.invokevirtual 296, 3) := by decide +kernel
theorem dX11_isCovered_102 : decode cX11_isCovered 102 = .ok (.ifCond .eq 7, 3) := by decide +kernel
theorem dX11_isCovered_105 : decode cX11_isCovered 105 = .ok (.iconst 1, 1) := by decide +kernel
theorem dX11_isCovered_106 : decode cX11_isCovered 106 = .ok (.goto 4, 3) := by decide +kernel
theorem dX11_isCovered_109 : decode cX11_isCovered 109 = .ok (.iconst 0, 1) := by decide +kernel
theorem dX11_isCovered_110 : decode cX11_isCovered 110 = .ok (.ireturn, 1) := by decide +kernel
theorem dX11_covers_0 : decode cX11_covers 0 = .ok (.iconst 0, 1) := by decide +kernel
theorem dX11_covers_1 : decode cX11_covers 1 = .ok (.istore_n 3, 1) := by decide +kernel
theorem dX11_covers_2 : decode cX11_covers 2 = .ok (.iconst 0, 1) := by decide +kernel
theorem dX11_covers_3 : decode cX11_covers 3 = .ok (.istore 4, 2) := by decide +kernel
theorem dX11_covers_5 : decode cX11_covers 5 = .ok (.iload 4, 2) := by decide +kernel
theorem dX11_covers_7 : decode cX11_covers 7 = .ok (.aload_n 0, 1) := by decide +kernel
theorem dX11_covers_8 : decode cX11_covers 8 = .ok (.getfield 17, 3) := by decide +kernel
theorem dX11_covers_11 : decode cX11_covers 11 = .ok (.bipush 6, 2) := by decide +kernel
theorem dX11_covers_13 : decode cX11_covers 13 = .ok (.iaload, 1) := by decide +kernel
theorem dX11_covers_14 : decode cX11_covers 14 = .ok (.if_icmp .ge 31, 3) := by decide +kernel
theorem dX11_covers_17 : decode cX11_covers 17 = .ok (.iload_n 3, 1) := by decide +kernel
theorem dX11_covers_18 : decode cX11_covers 18 = .ok (.aload_n 0, 1) := by decide +kernel
theorem dX11_covers_19 : decode cX11_covers 19 = .ok (.iload_n 1, 1) := by decide +kernel
theorem dX11_covers_20 : decode cX11_covers 20 = .ok (.iload_n 2, 1) := by decide +kernel
theorem dX11_covers_21 : decode cX11_covers 21 = .ok (.iload 4, 2) := by decide +kernel
theorem dX11_covers_23 : decode cX11_covers 23 = .ok (.invokevirtual 299, 3) := by decide +kernel
theorem dX11_covers_26 : decode cX11_covers 26 = .ok (.ifCond .eq 10, 3) := by decide +kernel
theorem dX11_covers_29 : decode cX11_covers 29 = .ok (.iconst 1, 1) := by decide +kernel
theorem dX11_covers_30 : decode cX11_covers 30 = .ok (.iload 4, 2) := by decide +kernel
theorem dX11_covers_32 : decode cX11_covers 32 = .ok (.ishl, 1) := by decide +kernel
theorem dX11_covers_33 : decode cX11_covers 33 = .ok (.goto 4, 3) := by decide +kernel
theorem dX11_covers_36 : decode cX11_covers 36 = .ok (.iconst 0, 1) := by decide +kernel
theorem dX11_covers_37 : decode cX11_covers 37 = .ok (.ior, 1) := by decide +kernel
theorem dX11_covers_38 : decode cX11_covers 38 = .ok (.istore_n 3, 1) := by decide +kernel
theorem dX11_covers_39 : decode cX11_covers 39 = .ok (.iinc 4 1, 3) := by decide +kernel
theorem dX11_covers_42 : decode cX11_covers 42 = .ok (.goto (-37), 3) := by decide +kernel
theorem dX11_covers_45 : decode cX11_covers 45 = .ok (.iload_n 3, 1) := by decide +kernel
theorem dX11_covers_46 : decode cX11_covers 46 = .ok (.ireturn, 1) := by decide +kernel
theorem dX11_isKeptMessage_0 : decode cX11_isKeptMessage 0 = .ok (.iconst 0, 1) := by decide +kernel
theorem dX11_isKeptMessage_1 : decode cX11_isKeptMessage 1 = .ok (.istore_n 2, 1) := by decide +kernel
theorem dX11_isKeptMessage_2 : decode cX11_isKeptMessage 2 = .ok (.iconst 0, 1) := by decide +kernel
theorem dX11_isKeptMessage_3 : decode cX11_isKeptMessage 3 = .ok (.istore_n 3, 1) := by decide +kernel
theorem dX11_isKeptMessage_4 : decode cX11_isKeptMessage 4 = .ok (.iload_n 3, 1) := by decide +kernel
theorem dX11_isKeptMessage_5 : decode cX11_isKeptMessage 5 = .ok (.aload_n 0, 1) := by decide +kernel
theorem dX11_isKeptMessage_6 : decode cX11_isKeptMessage 6 = .ok (.getfield 17, 3) := by decide +kernel
theorem dX11_isKeptMessage_9 : decode cX11_isKeptMessage 9 = .ok (.iconst 4, 1) := by decide +kernel
theorem dX11_isKeptMessage_10 : decode cX11_isKeptMessage 10 = .ok (.iaload, 1) := by decide +kernel
theorem dX11_isKeptMessage_11 : decode cX11_isKeptMessage 11 = .ok (.if_icmp .ge 36, 3) := by decide +kernel
theorem dX11_isKeptMessage_14 : decode cX11_isKeptMessage 14 = .ok (.iload_n 2, 1) := by decide +kernel
theorem dX11_isKeptMessage_15 : decode cX11_isKeptMessage 15 = .ok (.ifCond .ne 20, 3) := by decide +kernel
theorem dX11_isKeptMessage_18 : decode cX11_isKeptMessage 18 = .ok (.aload_n 0, 1) := by decide +kernel
theorem dX11_isKeptMessage_19 : decode cX11_isKeptMessage 19 = .ok (.iload_n 1, 1) := by decide +kernel
theorem dX11_isKeptMessage_20 : decode cX11_isKeptMessage 20 = .ok (.iload_n 3, 1) := by decide +kernel
theorem dX11_isKeptMessage_21 : decode cX11_isKeptMessage 21 = .ok (.invokevirtual 79, 3) := by decide +kernel
theorem dX11_isKeptMessage_24 : decode cX11_isKeptMessage 24 = .ok (.i2l, 1) := by decide +kernel
theorem dX11_isKeptMessage_25 : decode cX11_isKeptMessage 25 = .ok (.lconst 0, 1) := by decide +kernel
theorem dX11_isKeptMessage_26 : decode cX11_isKeptMessage 26 = .ok (.ldc2_w 82, 3) := by decide +kernel
theorem dX11_isKeptMessage_29 : decode cX11_isKeptMessage 29 = .ok (.invokestatic 64, 3) := by decide +kernel
theorem dX11_isKeptMessage_32 : decode cX11_isKeptMessage 32 = .ok (.ifCond .eq 7, 3) := by decide +kernel
theorem dX11_isKeptMessage_35 : decode cX11_isKeptMessage 35 = .ok (.iconst 1, 1) := by decide +kernel
theorem dX11_isKeptMessage_36 : decode cX11_isKeptMessage 36 = .ok (.goto 4, 3) := by decide +kernel
theorem dX11_isKeptMessage_39 : decode cX11_isKeptMessage 39 = .ok (.iconst 0, 1) := by decide +kernel
theorem dX11_isKeptMessage_40 : decode cX11_isKeptMessage 40 = .ok (.istore_n 2, 1) := by decide +kernel
theorem dX11_isKeptMessage_41 : decode cX11_isKeptMessage 41 = .ok (.iinc 3 1, 3) := by decide +kernel
theorem dX11_isKeptMessage_44 : decode cX11_isKeptMessage 44 = .ok (.goto (-40), 3) := by decide +kernel
theorem dX11_isKeptMessage_47 : decode cX11_isKeptMessage 47 = .ok (.iload_n 2, 1) := by decide +kernel
theorem dX11_isKeptMessage_48 : decode cX11_isKeptMessage 48 = .ok (.ireturn, 1) := by decide +kernel
theorem dX11_has_0 : decode cX11_has 0 = .ok (.iconst 0, 1) := by decide +kernel
theorem dX11_has_1 : decode cX11_has 1 = .ok (.istore_n 3, 1) := by decide +kernel
theorem dX11_has_2 : decode cX11_has 2 = .ok (.iconst 0, 1) := by decide +kernel
theorem dX11_has_3 : decode cX11_has 3 = .ok (.istore 4, 2) := by decide +kernel
theorem dX11_has_5 : decode cX11_has 5 = .ok (.iload 4, 2) := by decide +kernel
theorem dX11_has_7 : decode cX11_has 7 = .ok (.aload_n 0, 1) := by decide +kernel
theorem dX11_has_8 : decode cX11_has 8 = .ok (.iload_n 1, 1) := by decide +kernel
theorem dX11_has_9 : decode cX11_has 9 = .ok (.iconst 2, 1) := by decide +kernel
theorem dX11_has_10 : decode cX11_has 10 = .ok (.invokevirtual 287, 3) := by decide +kernel
theorem dX11_has_13 : decode cX11_has 13 = .ok (.if_icmp .ge 32, 3) := by decide +kernel
theorem dX11_has_16 : decode cX11_has 16 = .ok (.iload_n 3, 1) := by decide +kernel
theorem dX11_has_17 : decode cX11_has 17 = .ok (.ifCond .ne 16, 3) := by decide +kernel
theorem dX11_has_20 : decode cX11_has 20 = .ok (.aload_n 0, 1) := by decide +kernel
theorem dX11_has_21 : decode cX11_has 21 = .ok (.iload_n 1, 1) := by decide +kernel
theorem dX11_has_22 : decode cX11_has 22 = .ok (.iconst 3, 1) := by decide +kernel
theorem dX11_has_23 : decode cX11_has 23 = .ok (.iload 4, 2) := by decide +kernel
theorem dX11_has_25 : decode cX11_has 25 = .ok (.iadd, 1) := by decide +kernel
theorem dX11_has_26 : decode cX11_has 26 = .ok (.invokevirtual 287, 3) := by decide +kernel
theorem dX11_has_29 : decode cX11_has 29 = .ok (.iload_n 2, 1) := by decide +kernel
theorem dX11_has_30 : decode cX11_has 30 = .ok (.if_icmp .ne 7, 3) := by decide +kernel
theorem dX11_has_33 : decode cX11_has 33 = .ok (.iconst 1, 1) := by decide +kernel
theorem dX11_has_34 : decode cX11_has 34 = .ok (.goto 4, 3) := by decide +kernel
theorem dX11_has_37 : decode cX11_has 37 = .ok (.iconst 0, 1) := by decide +kernel
theorem dX11_has_38 : decode cX11_has 38 = .ok (.istore_n 3, 1) := by decide +kernel
theorem dX11_has_39 : decode cX11_has 39 = .ok (.iinc 4 1, 3) := by decide +kernel
theorem dX11_has_42 : decode cX11_has 42 = .ok (.goto (-37), 3) := by decide +kernel
theorem dX11_has_45 : decode cX11_has 45 = .ok (.iload_n 3, 1) := by decide +kernel
theorem dX11_has_46 : decode cX11_has 46 = .ok (.ireturn, 1) := by decide +kernel
theorem dX11_keepers_0 : decode cX11_keepers 0 = .ok (.iconst 0, 1) := by decide +kernel
theorem dX11_keepers_1 : decode cX11_keepers 1 = .ok (.istore_n 2, 1) := by decide +kernel
theorem dX11_keepers_2 : decode cX11_keepers 2 = .ok (.iconst 0, 1) := by decide +kernel
theorem dX11_keepers_3 : decode cX11_keepers 3 = .ok (.istore_n 3, 1) := by decide +kernel
theorem dX11_keepers_4 : decode cX11_keepers 4 = .ok (.iload_n 3, 1) := by decide +kernel
theorem dX11_keepers_5 : decode cX11_keepers 5 = .ok (.aload_n 0, 1) := by decide +kernel
theorem dX11_keepers_6 : decode cX11_keepers 6 = .ok (.getfield 17, 3) := by decide +kernel
theorem dX11_keepers_9 : decode cX11_keepers 9 = .ok (.bipush 7, 2) := by decide +kernel
theorem dX11_keepers_11 : decode cX11_keepers 11 = .ok (.iaload, 1) := by decide +kernel
theorem dX11_keepers_12 : decode cX11_keepers 12 = .ok (.if_icmp .ge 34, 3) := by decide +kernel
theorem dX11_keepers_15 : decode cX11_keepers 15 = .ok (.iload_n 2, 1) := by decide +kernel
theorem dX11_keepers_16 : decode cX11_keepers 16 = .ok (.aload_n 0, 1) := by decide +kernel
theorem dX11_keepers_17 : decode cX11_keepers 17 = .ok (.iload_n 3, 1) := by decide +kernel
theorem dX11_keepers_18 : decode cX11_keepers 18 = .ok (.iload_n 1, 1) := by decide +kernel
theorem dX11_keepers_19 : decode cX11_keepers 19 = .ok (.invokevirtual 303, 3) := by decide +kernel
theorem dX11_keepers_22 : decode cX11_keepers 22 = .ok (.ifCond .eq 15, 3) := by decide +kernel
theorem dX11_keepers_25 : decode cX11_keepers 25 = .ok (.aload_n 0, 1) := by decide +kernel
theorem dX11_keepers_26 : decode cX11_keepers 26 = .ok (.iload_n 3, 1) := by decide +kernel
theorem dX11_keepers_27 : decode cX11_keepers 27 = .ok (.invokevirtual 306, 3) := by decide +kernel
theorem dX11_keepers_30 : decode cX11_keepers 30 = .ok (.ifCond .eq 7, 3) := by decide +kernel
theorem dX11_keepers_33 : decode cX11_keepers 33 = .ok (.iconst 1, 1) := by decide +kernel
theorem dX11_keepers_34 : decode cX11_keepers 34 = .ok (.goto 4, 3) := by decide +kernel
theorem dX11_keepers_37 : decode cX11_keepers 37 = .ok (.iconst 0, 1) := by decide +kernel
theorem dX11_keepers_38 : decode cX11_keepers 38 = .ok (.iadd, 1) := by decide +kernel
theorem dX11_keepers_39 : decode cX11_keepers 39 = .ok (.istore_n 2, 1) := by decide +kernel
theorem dX11_keepers_40 : decode cX11_keepers 40 = .ok (.iinc 3 1, 3) := by decide +kernel
theorem dX11_keepers_43 : decode cX11_keepers 43 = .ok (.goto (-39), 3) := by decide +kernel
theorem dX11_keepers_46 : decode cX11_keepers 46 = .ok (.iload_n 2, 1) := by decide +kernel
theorem dX11_keepers_47 : decode cX11_keepers 47 = .ok (.ireturn, 1) := by decide +kernel
theorem dX11_buryParts_0 : decode cX11_buryParts 0 = .ok (.aload_n 0, 1) := by decide +kernel
theorem dX11_buryParts_1 : decode cX11_buryParts 1 = .ok (.iload_n 1, 1) := by decide +kernel
theorem dX11_buryParts_2 : decode cX11_buryParts 2 = .ok (.invokevirtual 306, 3) := by decide +kernel
theorem dX11_buryParts_5 : decode cX11_buryParts 5 = .ok (.ifCond .eq 4, 3) := by decide +kernel
theorem dX11_buryParts_8 : decode cX11_buryParts 8 = .ok (.return_, 1) := by decide +kernel
theorem dX11_buryParts_9 : decode cX11_buryParts 9 = .ok (.iconst 0, 1) := by decide +kernel
theorem dX11_buryParts_10 : decode cX11_buryParts 10 = .ok (.istore_n 2, 1) := by decide +kernel
theorem dX11_buryParts_11 : decode cX11_buryParts 11 = .ok (.iload_n 2, 1) := by decide +kernel
theorem dX11_buryParts_12 : decode cX11_buryParts 12 = .ok (.aload_n 0, 1) := by decide +kernel
theorem dX11_buryParts_13 : decode cX11_buryParts 13 = .ok (.getfield 17, 3) := by decide +kernel
theorem dX11_buryParts_16 : decode cX11_buryParts 16 = .ok (.bipush 8, 2) := by decide +kernel
theorem dX11_buryParts_18 : decode cX11_buryParts 18 = .ok (.iaload, 1) := by decide +kernel
theorem dX11_buryParts_19 : decode cX11_buryParts 19 = .ok (.if_icmp .ge 64, 3) := by decide +kernel
theorem dX11_buryParts_22 : decode cX11_buryParts 22 = .ok (.aload_n 0, 1) := by decide +kernel
theorem dX11_buryParts_23 : decode cX11_buryParts 23 = .ok (.iload_n 1, 1) := by decide +kernel
theorem dX11_buryParts_24 : decode cX11_buryParts 24 = .ok (.iload_n 2, 1) := by decide +kernel
theorem dX11_buryParts_25 : decode cX11_buryParts 25 = .ok (.invokevirtual 303, 3) := by decide +kernel
theorem dX11_buryParts_28 : decode cX11_buryParts 28 = .ok (.ifCond .eq 49, 3) := by decide +kernel
theorem dX11_buryParts_31 : decode cX11_buryParts 31 = .ok (.aload_n 0, 1) := by decide +kernel
theorem dX11_buryParts_32 : decode cX11_buryParts 32 = .ok (.iload_n 2, 1) := by decide +kernel
theorem dX11_buryParts_33 : decode cX11_buryParts 33 = .ok (.invokevirtual 309, 3) := by decide +kernel
theorem dX11_buryParts_36 : decode cX11_buryParts 36 = .ok (.ifCond .ne 41, 3) := by decide +kernel
theorem dX11_buryParts_39 : decode cX11_buryParts 39 = .ok (.aload_n 0, 1) := by decide +kernel
theorem dX11_buryParts_40 : decode cX11_buryParts 40 = .ok (.iload_n 2, 1) := by decide +kernel
theorem dX11_buryParts_41 : decode cX11_buryParts 41 = .ok (.invokevirtual 312, 3) := by decide +kernel
theorem dX11_buryParts_44 : decode cX11_buryParts 44 = .ok (.ifCond .le 6, 3) := by decide +kernel
theorem dX11_buryParts_47 : decode cX11_buryParts 47 = .ok (.goto 30, 3) := by decide +kernel
theorem dX11_buryParts_50 : decode cX11_buryParts 50 = .ok (.aload_n 0, 1) := by decide +kernel
theorem dX11_buryParts_51 : decode cX11_buryParts 51 = .ok (.getfield 17, 3) := by decide +kernel
theorem dX11_buryParts_54 : decode cX11_buryParts 54 = .ok (.sipush 4771, 3) := by decide +kernel
theorem dX11_buryParts_57 : decode cX11_buryParts 57 = .ok (.iconst 3, 1) := by decide +kernel
theorem dX11_buryParts_58 : decode cX11_buryParts 58 = .ok (.iload_n 2, 1) := by decide +kernel
theorem dX11_buryParts_59 : decode cX11_buryParts 59 = .ok (.imul, 1) := by decide +kernel
theorem dX11_buryParts_60 : decode cX11_buryParts 60 = .ok (.iadd, 1) := by decide +kernel
theorem dX11_buryParts_61 : decode cX11_buryParts 61 = .ok (.iconst 2, 1) := by decide +kernel
theorem dX11_buryParts_62 : decode cX11_buryParts 62 = .ok (.iadd, 1) := by decide +kernel
theorem dX11_buryParts_63 : decode cX11_buryParts 63 = .ok (.aload_n 0, 1) := by decide +kernel
theorem dX11_buryParts_64 : decode cX11_buryParts 64 = .ok (.getfield 17, 3) := by decide +kernel
theorem dX11_buryParts_67 : decode cX11_buryParts 67 = .ok (.iconst 2, 1) := by decide +kernel
theorem dX11_buryParts_68 : decode cX11_buryParts 68 = .ok (.iaload, 1) := by decide +kernel
theorem dX11_buryParts_69 : decode cX11_buryParts 69 = .ok (.iastore, 1) := by decide +kernel
theorem dX11_buryParts_70 : decode cX11_buryParts 70 = .ok (.aload_n 0, 1) := by decide +kernel
theorem dX11_buryParts_71 : decode cX11_buryParts 71 = .ok (.bipush 6, 2) := by decide +kernel
theorem dX11_buryParts_73 : decode cX11_buryParts 73 = .ok (.iload_n 2, 1) := by decide +kernel
theorem dX11_buryParts_74 : decode cX11_buryParts 74 = .ok (.invokevirtual 315, 3) := by decide +kernel
theorem dX11_buryParts_77 : decode cX11_buryParts 77 = .ok (.iinc 2 1, 3) := by decide +kernel
theorem dX11_buryParts_80 : decode cX11_buryParts 80 = .ok (.goto (-69), 3) := by decide +kernel
theorem dX11_buryParts_83 : decode cX11_buryParts 83 = .ok (.return_, 1) := by decide +kernel
theorem dX11_ceases_0 : decode cX11_ceases 0 = .ok (.aload_n 0, 1) := by decide +kernel
theorem dX11_ceases_1 : decode cX11_ceases 1 = .ok (.iload_n 1, 1) := by decide +kernel
theorem dX11_ceases_2 : decode cX11_ceases 2 = .ok (.iload_n 2, 1) := by decide +kernel
theorem dX11_ceases_3 : decode cX11_ceases 3 = .ok (.invokevirtual 319, 3) := by decide +kernel
theorem dX11_ceases_6 : decode cX11_ceases 6 = .ok (.ifCond .eq 7, 3) := by decide +kernel
theorem dX11_ceases_9 : decode cX11_ceases 9 = .ok (.iconst 1, 1) := by decide +kernel
theorem dX11_ceases_10 : decode cX11_ceases 10 = .ok (.goto 4, 3) := by decide +kernel
theorem dX11_ceases_13 : decode cX11_ceases 13 = .ok (.iconst 0, 1) := by decide +kernel
theorem dX11_ceases_14 : decode cX11_ceases 14 = .ok (.istore 4, 2) := by decide +kernel
theorem dX11_ceases_16 : decode cX11_ceases 16 = .ok (.aload_n 0, 1) := by decide +kernel
theorem dX11_ceases_17 : decode cX11_ceases 17 = .ok (.getfield 17, 3) := by decide +kernel
theorem dX11_ceases_20 : decode cX11_ceases 20 = .ok (.iload_n 1, 1) := by decide +kernel
theorem dX11_ceases_21 : decode cX11_ceases 21 = .ok (.iload_n 2, 1) := by decide +kernel
theorem dX11_ceases_22 : decode cX11_ceases 22 = .ok (.invokestatic 68, 3) := by decide +kernel
theorem dX11_ceases_25 : decode cX11_ceases 25 = .ok (.iconst 0, 1) := by decide +kernel
theorem dX11_ceases_26 : decode cX11_ceases 26 = .ok (.iadd, 1) := by decide +kernel
theorem dX11_ceases_27 : decode cX11_ceases 27 = .ok (.iload 4, 2) := by decide +kernel
theorem dX11_ceases_29 : decode cX11_ceases 29 = .ok (.ifCond .eq 7, 3) := by decide +kernel
theorem dX11_ceases_32 : decode cX11_ceases 32 = .ok (.iload_n 3, 1) := by decide +kernel
theorem dX11_ceases_33 : decode cX11_ceases 33 = .ok (.goto 4, 3) := by decide +kernel
theorem dX11_ceases_36 : decode cX11_ceases 36 = .ok (.iconst 3, 1) := by decide +kernel
theorem dX11_ceases_37 : decode cX11_ceases 37 = .ok (.iastore, 1) := by decide +kernel
theorem dX11_ceases_38 : decode cX11_ceases 38 = .ok (.aload_n 0, 1) := by decide +kernel
theorem dX11_ceases_39 : decode cX11_ceases 39 = .ok (.iload 4, 2) := by decide +kernel
theorem dX11_ceases_41 : decode cX11_ceases 41 = .ok (.ifCond .eq 7, 3) := by decide +kernel
theorem dX11_ceases_44 : decode cX11_ceases 44 = .ok (.iconst 5, 1) := by decide +kernel
theorem dX11_ceases_45 : decode cX11_ceases 45 = .ok (.goto 4, 3) := by decide +kernel
theorem dX11_ceases_48 : decode cX11_ceases 48 = .ok (.iconst 4, 1) := by decide +kernel
theorem dX11_ceases_49 : decode cX11_ceases 49 = .ok (.iload_n 1, 1) := by decide +kernel
theorem dX11_ceases_50 : decode cX11_ceases 50 = .ok (.invokevirtual 315, 3) := by decide +kernel
theorem dX11_ceases_53 : decode cX11_ceases 53 = .ok (.aload_n 0, 1) := by decide +kernel
theorem dX11_ceases_54 : decode cX11_ceases 54 = .ok (.iload_n 1, 1) := by decide +kernel
theorem dX11_ceases_55 : decode cX11_ceases 55 = .ok (.invokevirtual 322, 3) := by decide +kernel
theorem dX11_ceases_58 : decode cX11_ceases 58 = .ok (.aload_n 0, 1) := by decide +kernel
theorem dX11_ceases_59 : decode cX11_ceases 59 = .ok (.iload_n 1, 1) := by decide +kernel
theorem dX11_ceases_60 : decode cX11_ceases 60 = .ok (.iload_n 2, 1) := by decide +kernel
theorem dX11_ceases_61 : decode cX11_ceases 61 = .ok (.invokevirtual 79, 3) := by decide +kernel
theorem dX11_ceases_64 : decode cX11_ceases 64 = .ok (.ireturn, 1) := by decide +kernel
theorem dX11_cutInput_0 : decode cX11_cutInput 0 = .ok (.aload_n 0, 1) := by decide +kernel
theorem dX11_cutInput_1 : decode cX11_cutInput 1 = .ok (.iconst 1, 1) := by decide +kernel
theorem dX11_cutInput_2 : decode cX11_cutInput 2 = .ok (.putfield 325, 3) := by decide +kernel
theorem dX11_cutInput_5 : decode cX11_cutInput 5 = .ok (.aload_n 0, 1) := by decide +kernel
theorem dX11_cutInput_6 : decode cX11_cutInput 6 = .ok (.getfield 41, 3) := by decide +kernel
theorem dX11_cutInput_9 : decode cX11_cutInput 9 = .ok (.iconst 0, 1) := by decide +kernel
theorem dX11_cutInput_10 : decode cX11_cutInput 10 = .ok (.iconst 0, 1) := by decide +kernel
theorem dX11_cutInput_11 : decode cX11_cutInput 11 = .ok (.iastore, 1) := by decide +kernel
theorem dX11_cutInput_12 : decode cX11_cutInput 12 = .ok (.iconst 0, 1) := by decide +kernel
theorem dX11_cutInput_13 : decode cX11_cutInput 13 = .ok (.istore_n 1, 1) := by decide +kernel
theorem dX11_cutInput_14 : decode cX11_cutInput 14 = .ok (.iload_n 1, 1) := by decide +kernel
theorem dX11_cutInput_15 : decode cX11_cutInput 15 = .ok (.aload_n 0, 1) := by decide +kernel
theorem dX11_cutInput_16 : decode cX11_cutInput 16 = .ok (.getfield 91, 3) := by decide +kernel
theorem dX11_cutInput_19 : decode cX11_cutInput 19 = .ok (.if_icmp .ge 45, 3) := by decide +kernel
theorem dX11_cutInput_22 : decode cX11_cutInput 22 = .ok (.aload_n 0, 1) := by decide +kernel
theorem dX11_cutInput_23 : decode cX11_cutInput 23 = .ok (.getfield 32, 3) := by decide +kernel
theorem dX11_cutInput_26 : decode cX11_cutInput 26 = .ok (.iload_n 1, 1) := by decide +kernel
theorem dX11_cutInput_27 : decode cX11_cutInput 27 = .ok (.baload, 1) := by decide +kernel
theorem dX11_cutInput_28 : decode cX11_cutInput 28 = .ok (.bipush 124, 2) := by decide +kernel
theorem dX11_cutInput_30 : decode cX11_cutInput 30 = .ok (.if_icmp .eq 6, 3) := by decide +kernel
theorem dX11_cutInput_33 : decode cX11_cutInput 33 = .ok (.goto 25, 3) := by decide +kernel
theorem dX11_cutInput_36 : decode cX11_cutInput 36 = .ok (.aload_n 0, 1) := by decide +kernel
theorem dX11_cutInput_37 : decode cX11_cutInput 37 = .ok (.getfield 41, 3) := by decide +kernel
theorem dX11_cutInput_40 : decode cX11_cutInput 40 = .ok (.aload_n 0, 1) := by decide +kernel
theorem dX11_cutInput_41 : decode cX11_cutInput 41 = .ok (.getfield 325, 3) := by decide +kernel
theorem dX11_cutInput_44 : decode cX11_cutInput 44 = .ok (.iload_n 1, 1) := by decide +kernel
theorem dX11_cutInput_45 : decode cX11_cutInput 45 = .ok (.iconst 1, 1) := by decide +kernel
theorem dX11_cutInput_46 : decode cX11_cutInput 46 = .ok (.iadd, 1) := by decide +kernel
theorem dX11_cutInput_47 : decode cX11_cutInput 47 = .ok (.iastore, 1) := by decide +kernel
theorem dX11_cutInput_48 : decode cX11_cutInput 48 = .ok (.aload_n 0, 1) := by decide +kernel
theorem dX11_cutInput_49 : decode cX11_cutInput 49 = .ok (.dup, 1) := by decide +kernel
theorem dX11_cutInput_50 : decode cX11_cutInput 50 = .ok (.getfield 325, 3) := by decide +kernel
theorem dX11_cutInput_53 : decode cX11_cutInput 53 = .ok (.iconst 1, 1) := by decide +kernel
theorem dX11_cutInput_54 : decode cX11_cutInput 54 = .ok (.iadd, 1) := by decide +kernel
theorem dX11_cutInput_55 : decode cX11_cutInput 55 = .ok (.putfield 325, 3) := by decide +kernel
theorem dX11_cutInput_58 : decode cX11_cutInput 58 = .ok (.iinc 1 1, 3) := by decide +kernel
theorem dX11_cutInput_61 : decode cX11_cutInput 61 = .ok (.goto (-47), 3) := by decide +kernel
theorem dX11_cutInput_64 : decode cX11_cutInput 64 = .ok (.aload_n 0, 1) := by decide +kernel
theorem dX11_cutInput_65 : decode cX11_cutInput 65 = .ok (.getfield 41, 3) := by decide +kernel
theorem dX11_cutInput_68 : decode cX11_cutInput 68 = .ok (.aload_n 0, 1) := by decide +kernel
theorem dX11_cutInput_69 : decode cX11_cutInput 69 = .ok (.getfield 325, 3) := by decide +kernel
theorem dX11_cutInput_72 : decode cX11_cutInput 72 = .ok (.aload_n 0, 1) := by decide +kernel
theorem dX11_cutInput_73 : decode cX11_cutInput 73 = .ok (.getfield 91, 3) := by decide +kernel
theorem dX11_cutInput_76 : decode cX11_cutInput 76 = .ok (.iconst 1, 1) := by decide +kernel
theorem dX11_cutInput_77 : decode cX11_cutInput 77 = .ok (.iadd, 1) := by decide +kernel
theorem dX11_cutInput_78 : decode cX11_cutInput 78 = .ok (.iastore, 1) := by decide +kernel
theorem dX11_cutInput_79 : decode cX11_cutInput 79 = .ok (.return_, 1) := by decide +kernel
theorem dX11_lengthIn_0 : decode cX11_lengthIn 0 = .ok (.aload_n 0, 1) := by decide +kernel
theorem dX11_lengthIn_1 : decode cX11_lengthIn 1 = .ok (.getfield 41, 3) := by decide +kernel
theorem dX11_lengthIn_4 : decode cX11_lengthIn 4 = .ok (.iload_n 1, 1) := by decide +kernel
theorem dX11_lengthIn_5 : decode cX11_lengthIn 5 = .ok (.iconst 1, 1) := by decide +kernel
theorem dX11_lengthIn_6 : decode cX11_lengthIn 6 = .ok (.iadd, 1) := by decide +kernel
theorem dX11_lengthIn_7 : decode cX11_lengthIn 7 = .ok (.iaload, 1) := by decide +kernel
theorem dX11_lengthIn_8 : decode cX11_lengthIn 8 = .ok (.aload_n 0, 1) := by decide +kernel
theorem dX11_lengthIn_9 : decode cX11_lengthIn 9 = .ok (.getfield 41, 3) := by decide +kernel
theorem dX11_lengthIn_12 : decode cX11_lengthIn 12 = .ok (.iload_n 1, 1) := by decide +kernel
theorem dX11_lengthIn_13 : decode cX11_lengthIn 13 = .ok (.iaload, 1) := by decide +kernel
theorem dX11_lengthIn_14 : decode cX11_lengthIn 14 = .ok (.isub, 1) := by decide +kernel
theorem dX11_lengthIn_15 : decode cX11_lengthIn 15 = .ok (.iconst 1, 1) := by decide +kernel
theorem dX11_lengthIn_16 : decode cX11_lengthIn 16 = .ok (.isub, 1) := by decide +kernel
theorem dX11_lengthIn_17 : decode cX11_lengthIn 17 = .ok (.ireturn, 1) := by decide +kernel
theorem dX11_isContent_0 : decode cX11_isContent 0 = .ok (.aload_n 0, 1) := by decide +kernel
theorem dX11_isContent_1 : decode cX11_isContent 1 = .ok (.invokevirtual 328, 3) := by decide +kernel
theorem dX11_isContent_4 : decode cX11_isContent 4 = .ok (.aload_n 0, 1) := by decide +kernel
theorem dX11_isContent_5 : decode cX11_isContent 5 = .ok (.getfield 325, 3) := by decide +kernel
theorem dX11_isContent_8 : decode cX11_isContent 8 = .ok (.iconst 4, 1) := by decide +kernel
theorem dX11_isContent_9 : decode cX11_isContent 9 = .ok (.if_icmp .gt 7, 3) := by decide +kernel
theorem dX11_isContent_12 : decode cX11_isContent 12 = .ok (.iconst 1, 1) := by decide +kernel
theorem dX11_isContent_13 : decode cX11_isContent 13 = .ok (.goto 4, 3) := by decide +kernel
theorem dX11_isContent_16 : decode cX11_isContent 16 = .ok (.iconst 0, 1) := by decide +kernel
theorem dX11_isContent_17 : decode cX11_isContent 17 = .ok (.istore_n 1, 1) := by decide +kernel
theorem dX11_isContent_18 : decode cX11_isContent 18 = .ok (.iconst 0, 1) := by decide +kernel
theorem dX11_isContent_19 : decode cX11_isContent 19 = .ok (.istore_n 2, 1) := by decide +kernel
theorem dX11_isContent_20 : decode cX11_isContent 20 = .ok (.iload_n 2, 1) := by decide +kernel
theorem dX11_isContent_21 : decode cX11_isContent 21 = .ok (.aload_n 0, 1) := by decide +kernel
theorem dX11_isContent_22 : decode cX11_isContent 22 = .ok (.getfield 325, 3) := by decide +kernel
theorem dX11_isContent_25 : decode cX11_isContent 25 = .ok (.if_icmp .ge 27, 3) := by decide +kernel
theorem dX11_isContent_28 : decode cX11_isContent 28 = .ok (.iload_n 1, 1) := by decide +kernel
theorem dX11_isContent_29 : decode cX11_isContent 29 = .ok (.ifCond .eq 23, 3) := by decide +kernel
theorem dX11_isContent_32 : decode cX11_isContent 32 = .ok (.aload_n 0, 1) := by decide +kernel
theorem dX11_isContent_33 : decode cX11_isContent 33 = .ok (.iload_n 2, 1) := by decide +kernel
theorem dX11_isContent_34 : decode cX11_isContent 34 = .ok (.invokevirtual 331, 3) := by decide +kernel
theorem dX11_isContent_37 : decode cX11_isContent 37 = .ok (.i2l, 1) := by decide +kernel
theorem dX11_isContent_38 : decode cX11_isContent 38 = .ok (.lconst 1, 1) := by decide +kernel
theorem dX11_isContent_39 : decode cX11_isContent 39 = .ok (.ldc2_w 334, 3) := by decide +kernel
theorem dX11_isContent_42 : decode cX11_isContent 42 = .ok (.invokestatic 64, 3) := by decide +kernel
theorem dX11_isContent_45 : decode cX11_isContent 45 = .ok (.istore_n 1, 1) := by decide +kernel
theorem dX11_isContent_46 : decode cX11_isContent 46 = .ok (.iinc 2 1, 3) := by decide +kernel
theorem dX11_isContent_49 : decode cX11_isContent 49 = .ok (.goto (-29), 3) := by decide +kernel
theorem dX11_isContent_52 : decode cX11_isContent 52 = .ok (.iload_n 1, 1) := by decide +kernel
theorem dX11_isContent_53 : decode cX11_isContent 53 = .ok (.ireturn, 1) := by decide +kernel
theorem dX11_storedLike_0 : decode cX11_storedLike 0 = .ok (.iconst 0, 1) := by decide +kernel
theorem dX11_storedLike_1 : decode cX11_storedLike 1 = .ok (.istore_n 2, 1) := by decide +kernel
theorem dX11_storedLike_2 : decode cX11_storedLike 2 = .ok (.iload_n 2, 1) := by decide +kernel
theorem dX11_storedLike_3 : decode cX11_storedLike 3 = .ok (.aload_n 0, 1) := by decide +kernel
theorem dX11_storedLike_4 : decode cX11_storedLike 4 = .ok (.getfield 17, 3) := by decide +kernel
theorem dX11_storedLike_7 : decode cX11_storedLike 7 = .ok (.bipush 8, 2) := by decide +kernel
theorem dX11_storedLike_9 : decode cX11_storedLike 9 = .ok (.iaload, 1) := by decide +kernel
theorem dX11_storedLike_10 : decode cX11_storedLike 10 = .ok (.if_icmp .ge 96, 3) := by decide +kernel
theorem dX11_storedLike_13 : decode cX11_storedLike 13 = .ok (.aload_n 0, 1) := by decide +kernel
theorem dX11_storedLike_14 : decode cX11_storedLike 14 = .ok (.iload_n 2, 1) := by decide +kernel
theorem dX11_storedLike_15 : decode cX11_storedLike 15 = .ok (.invokevirtual 336, 3) := by decide +kernel
theorem dX11_storedLike_18 : decode cX11_storedLike 18 = .ok (.ifCond .eq 21, 3) := by decide +kernel
theorem dX11_storedLike_21 : decode cX11_storedLike 21 = .ok (.aload_n 0, 1) := by decide +kernel
theorem dX11_storedLike_22 : decode cX11_storedLike 22 = .ok (.iload_n 2, 1) := by decide +kernel
theorem dX11_storedLike_23 : decode cX11_storedLike 23 = .ok (.iconst 0, 1) := by decide +kernel
theorem dX11_storedLike_24 : decode cX11_storedLike 24 = .ok (.invokevirtual 84, 3) := by decide +kernel
theorem dX11_storedLike_27 : decode cX11_storedLike 27 = .ok (.aload_n 0, 1) := by decide +kernel
theorem dX11_storedLike_28 : decode cX11_storedLike 28 = .ok (.iload_n 1, 1) := by decide +kernel
theorem dX11_storedLike_29 : decode cX11_storedLike 29 = .ok (.invokevirtual 331, 3) := by decide +kernel
theorem dX11_storedLike_32 : decode cX11_storedLike 32 = .ok (.if_icmp .ne 7, 3) := by decide +kernel
theorem dX11_storedLike_35 : decode cX11_storedLike 35 = .ok (.iconst 1, 1) := by decide +kernel
theorem dX11_storedLike_36 : decode cX11_storedLike 36 = .ok (.goto 4, 3) := by decide +kernel
theorem dX11_storedLike_39 : decode cX11_storedLike 39 = .ok (.iconst 0, 1) := by decide +kernel
theorem dX11_storedLike_40 : decode cX11_storedLike 40 = .ok (.istore_n 3, 1) := by decide +kernel
theorem dX11_storedLike_41 : decode cX11_storedLike 41 = .ok (.iconst 0, 1) := by decide +kernel
theorem dX11_storedLike_42 : decode cX11_storedLike 42 = .ok (.istore 4, 2) := by decide +kernel
theorem dX11_storedLike_44 : decode cX11_storedLike 44 = .ok (.iload 4, 2) := by decide +kernel
theorem dX11_storedLike_46 : decode cX11_storedLike 46 = .ok (.aload_n 0, 1) := by decide +kernel
theorem dX11_storedLike_47 : decode cX11_storedLike 47 = .ok (.iload_n 1, 1) := by decide +kernel
theorem dX11_storedLike_48 : decode cX11_storedLike 48 = .ok (.invokevirtual 331, 3) := by decide +kernel
theorem dX11_storedLike_51 : decode cX11_storedLike 51 = .ok (.if_icmp .ge 43, 3) := by decide +kernel
theorem dX11_storedLike_54 : decode cX11_storedLike 54 = .ok (.iload_n 3, 1) := by decide +kernel
theorem dX11_storedLike_55 : decode cX11_storedLike 55 = .ok (.ifCond .eq 39, 3) := by decide +kernel
theorem dX11_storedLike_58 : decode cX11_storedLike 58 = .ok (.aload_n 0, 1) := by decide +kernel
theorem dX11_storedLike_59 : decode cX11_storedLike 59 = .ok (.iload_n 2, 1) := by decide +kernel
theorem dX11_storedLike_60 : decode cX11_storedLike 60 = .ok (.iload 4, 2) := by decide +kernel
theorem dX11_storedLike_62 : decode cX11_storedLike 62 = .ok (.invokevirtual 277, 3) := by decide +kernel
theorem dX11_storedLike_65 : decode cX11_storedLike 65 = .ok (.aload_n 0, 1) := by decide +kernel
theorem dX11_storedLike_66 : decode cX11_storedLike 66 = .ok (.getfield 32, 3) := by decide +kernel
theorem dX11_storedLike_69 : decode cX11_storedLike 69 = .ok (.aload_n 0, 1) := by decide +kernel
theorem dX11_storedLike_70 : decode cX11_storedLike 70 = .ok (.getfield 41, 3) := by decide +kernel
theorem dX11_storedLike_73 : decode cX11_storedLike 73 = .ok (.iload_n 1, 1) := by decide +kernel
theorem dX11_storedLike_74 : decode cX11_storedLike 74 = .ok (.iaload, 1) := by decide +kernel
theorem dX11_storedLike_75 : decode cX11_storedLike 75 = .ok (.iload 4, 2) := by decide +kernel
theorem dX11_storedLike_77 : decode cX11_storedLike 77 = .ok (.iadd, 1) := by decide +kernel
theorem dX11_storedLike_78 : decode cX11_storedLike 78 = .ok (.baload, 1) := by decide +kernel
theorem dX11_storedLike_79 : decode cX11_storedLike 79 = .ok (.if_icmp .ne 7, 3) := by decide +kernel
theorem dX11_storedLike_82 : decode cX11_storedLike 82 = .ok (.iconst 1, 1) := by decide +kernel
theorem dX11_storedLike_83 : decode cX11_storedLike 83 = .ok (.goto 4, 3) := by decide +kernel
theorem dX11_storedLike_86 : decode cX11_storedLike 86 = .ok (.iconst 0, 1) := by decide +kernel
theorem dX11_storedLike_87 : decode cX11_storedLike 87 = .ok (.istore_n 3, 1) := by decide +kernel
theorem dX11_storedLike_88 : decode cX11_storedLike 88 = .ok (.iinc 4 1, 3) := by decide +kernel
theorem dX11_storedLike_91 : decode cX11_storedLike 91 = .ok (.goto (-47), 3) := by decide +kernel
theorem dX11_storedLike_94 : decode cX11_storedLike 94 = .ok (.iload_n 3, 1) := by decide +kernel
theorem dX11_storedLike_95 : decode cX11_storedLike 95 = .ok (.ifCond .eq 5, 3) := by decide +kernel
theorem dX11_storedLike_98 : decode cX11_storedLike 98 = .ok (.iload_n 2, 1) := by decide +kernel
theorem dX11_storedLike_99 : decode cX11_storedLike 99 = .ok (.ireturn, 1) := by decide +kernel
theorem dX11_storedLike_100 : decode cX11_storedLike 100 = .ok (.iinc 2 1, 3) := by decide +kernel
theorem dX11_storedLike_103 : decode cX11_storedLike 103 = .ok (.goto (-101), 3) := by decide +kernel
theorem dX11_storedLike_106 : decode cX11_storedLike 106 = .ok (.iconst (-1), 1) := by decide +kernel
theorem dX11_storedLike_107 : decode cX11_storedLike 107 = .ok (.ireturn, 1) := by decide +kernel
theorem dX11_areSame_0 : decode cX11_areSame 0 = .ok (.aload_n 0, 1) := by decide +kernel
theorem dX11_areSame_1 : decode cX11_areSame 1 = .ok (.iload_n 1, 1) := by decide +kernel
theorem dX11_areSame_2 : decode cX11_areSame 2 = .ok (.invokevirtual 331, 3) := by decide +kernel
theorem dX11_areSame_5 : decode cX11_areSame 5 = .ok (.aload_n 0, 1) := by decide +kernel
theorem dX11_areSame_6 : decode cX11_areSame 6 = .ok (.iload_n 2, 1) := by decide +kernel
theorem dX11_areSame_7 : decode cX11_areSame 7 = .ok (.invokevirtual 331, 3) := by decide +kernel
theorem dX11_areSame_10 : decode cX11_areSame 10 = .ok (.if_icmp .ne 7, 3) := by decide +kernel
theorem dX11_areSame_13 : decode cX11_areSame 13 = .ok (.iconst 1, 1) := by decide +kernel
theorem dX11_areSame_14 : decode cX11_areSame 14 = .ok (.goto 4, 3) := by decide +kernel
theorem dX11_areSame_17 : decode cX11_areSame 17 = .ok (.iconst 0, 1) := by decide +kernel
theorem dX11_areSame_18 : decode cX11_areSame 18 = .ok (.istore_n 3, 1) := by decide +kernel
theorem dX11_areSame_19 : decode cX11_areSame 19 = .ok (.iconst 0, 1) := by decide +kernel
theorem dX11_areSame_20 : decode cX11_areSame 20 = .ok (.istore 4, 2) := by decide +kernel
theorem dX11_areSame_22 : decode cX11_areSame 22 = .ok (.iload 4, 2) := by decide +kernel
theorem dX11_areSame_24 : decode cX11_areSame 24 = .ok (.aload_n 0, 1) := by decide +kernel
theorem dX11_areSame_25 : decode cX11_areSame 25 = .ok (.iload_n 1, 1) := by decide +kernel
theorem dX11_areSame_26 : decode cX11_areSame 26 = .ok (.invokevirtual 331, 3) := by decide +kernel
theorem dX11_areSame_29 : decode cX11_areSame 29 = .ok (.if_icmp .ge 50, 3) := by decide +kernel
theorem dX11_areSame_32 : decode cX11_areSame 32 = .ok (.iload_n 3, 1) := by decide +kernel
theorem dX11_areSame_33 : decode cX11_areSame 33 = .ok (.ifCond .eq 46, 3) := by decide +kernel
theorem dX11_areSame_36 : decode cX11_areSame 36 = .ok (.aload_n 0, 1) := by decide +kernel
theorem dX11_areSame_37 : decode cX11_areSame 37 = .ok (.getfield 32, 3) := by decide +kernel
theorem dX11_areSame_40 : decode cX11_areSame 40 = .ok (.aload_n 0, 1) := by decide +kernel
theorem dX11_areSame_41 : decode cX11_areSame 41 = .ok (.getfield 41, 3) := by decide +kernel
theorem dX11_areSame_44 : decode cX11_areSame 44 = .ok (.iload_n 1, 1) := by decide +kernel
theorem dX11_areSame_45 : decode cX11_areSame 45 = .ok (.iaload, 1) := by decide +kernel
theorem dX11_areSame_46 : decode cX11_areSame 46 = .ok (.iload 4, 2) := by decide +kernel
theorem dX11_areSame_48 : decode cX11_areSame 48 = .ok (.iadd, 1) := by decide +kernel
theorem dX11_areSame_49 : decode cX11_areSame 49 = .ok (.baload, 1) := by decide +kernel
theorem dX11_areSame_50 : decode cX11_areSame 50 = .ok (.aload_n 0, 1) := by decide +kernel
theorem dX11_areSame_51 : decode cX11_areSame 51 = .ok (.getfield 32, 3) := by decide +kernel
theorem dX11_areSame_54 : decode cX11_areSame 54 = .ok (.aload_n 0, 1) := by decide +kernel
theorem dX11_areSame_55 : decode cX11_areSame 55 = .ok (.getfield 41, 3) := by decide +kernel
theorem dX11_areSame_58 : decode cX11_areSame 58 = .ok (.iload_n 2, 1) := by decide +kernel
theorem dX11_areSame_59 : decode cX11_areSame 59 = .ok (.iaload, 1) := by decide +kernel
theorem dX11_areSame_60 : decode cX11_areSame 60 = .ok (.iload 4, 2) := by decide +kernel
theorem dX11_areSame_62 : decode cX11_areSame 62 = .ok (.iadd, 1) := by decide +kernel
theorem dX11_areSame_63 : decode cX11_areSame 63 = .ok (.baload, 1) := by decide +kernel
theorem dX11_areSame_64 : decode cX11_areSame 64 = .ok (.if_icmp .ne 7, 3) := by decide +kernel
theorem dX11_areSame_67 : decode cX11_areSame 67 = .ok (.iconst 1, 1) := by decide +kernel
theorem dX11_areSame_68 : decode cX11_areSame 68 = .ok (.goto 4, 3) := by decide +kernel
theorem dX11_areSame_71 : decode cX11_areSame 71 = .ok (.iconst 0, 1) := by decide +kernel
theorem dX11_areSame_72 : decode cX11_areSame 72 = .ok (.istore_n 3, 1) := by decide +kernel
theorem dX11_areSame_73 : decode cX11_areSame 73 = .ok (.iinc 4 1, 3) := by decide +kernel
theorem dX11_areSame_76 : decode cX11_areSame 76 = .ok (.goto (-54), 3) := by decide +kernel
theorem dX11_areSame_79 : decode cX11_areSame 79 = .ok (.iload_n 3, 1) := by decide +kernel
theorem dX11_areSame_80 : decode cX11_areSame 80 = .ok (.ireturn, 1) := by decide +kernel
theorem dX11_stored_0 : decode cX11_stored 0 = .ok (.iconst 0, 1) := by decide +kernel
theorem dX11_stored_1 : decode cX11_stored 1 = .ok (.istore_n 1, 1) := by decide +kernel
theorem dX11_stored_2 : decode cX11_stored 2 = .ok (.iconst 0, 1) := by decide +kernel
theorem dX11_stored_3 : decode cX11_stored 3 = .ok (.istore_n 2, 1) := by decide +kernel
theorem dX11_stored_4 : decode cX11_stored 4 = .ok (.iload_n 2, 1) := by decide +kernel
theorem dX11_stored_5 : decode cX11_stored 5 = .ok (.aload_n 0, 1) := by decide +kernel
theorem dX11_stored_6 : decode cX11_stored 6 = .ok (.getfield 17, 3) := by decide +kernel
theorem dX11_stored_9 : decode cX11_stored 9 = .ok (.bipush 8, 2) := by decide +kernel
theorem dX11_stored_11 : decode cX11_stored 11 = .ok (.iaload, 1) := by decide +kernel
theorem dX11_stored_12 : decode cX11_stored 12 = .ok (.if_icmp .ge 30, 3) := by decide +kernel
theorem dX11_stored_15 : decode cX11_stored 15 = .ok (.iload_n 1, 1) := by decide +kernel
theorem dX11_stored_16 : decode cX11_stored 16 = .ok (.aload_n 0, 1) := by decide +kernel
theorem dX11_stored_17 : decode cX11_stored 17 = .ok (.iload_n 2, 1) := by decide +kernel
theorem dX11_stored_18 : decode cX11_stored 18 = .ok (.invokevirtual 336, 3) := by decide +kernel
theorem dX11_stored_21 : decode cX11_stored 21 = .ok (.ifCond .eq 12, 3) := by decide +kernel
theorem dX11_stored_24 : decode cX11_stored 24 = .ok (.aload_n 0, 1) := by decide +kernel
theorem dX11_stored_25 : decode cX11_stored 25 = .ok (.iload_n 2, 1) := by decide +kernel
theorem dX11_stored_26 : decode cX11_stored 26 = .ok (.iconst 0, 1) := by decide +kernel
theorem dX11_stored_27 : decode cX11_stored 27 = .ok (.invokevirtual 84, 3) := by decide +kernel
theorem dX11_stored_30 : decode cX11_stored 30 = .ok (.goto 4, 3) := by decide +kernel
theorem dX11_stored_33 : decode cX11_stored 33 = .ok (.iconst 0, 1) := by decide +kernel
theorem dX11_stored_34 : decode cX11_stored 34 = .ok (.iadd, 1) := by decide +kernel
theorem dX11_stored_35 : decode cX11_stored 35 = .ok (.istore_n 1, 1) := by decide +kernel
theorem dX11_stored_36 : decode cX11_stored 36 = .ok (.iinc 2 1, 3) := by decide +kernel
theorem dX11_stored_39 : decode cX11_stored 39 = .ok (.goto (-35), 3) := by decide +kernel
theorem dX11_stored_42 : decode cX11_stored 42 = .ok (.iload_n 1, 1) := by decide +kernel
theorem dX11_stored_43 : decode cX11_stored 43 = .ok (.ireturn, 1) := by decide +kernel
theorem dX11_hasRoom_0 : decode cX11_hasRoom 0 = .ok (.aload_n 0, 1) := by decide +kernel
theorem dX11_hasRoom_1 : decode cX11_hasRoom 1 = .ok (.invokevirtual 339, 3) := by decide +kernel
theorem dX11_hasRoom_4 : decode cX11_hasRoom 4 = .ok (.istore_n 1, 1) := by decide +kernel
theorem dX11_hasRoom_5 : decode cX11_hasRoom 5 = .ok (.iconst 0, 1) := by decide +kernel
theorem dX11_hasRoom_6 : decode cX11_hasRoom 6 = .ok (.istore_n 2, 1) := by decide +kernel
theorem dX11_hasRoom_7 : decode cX11_hasRoom 7 = .ok (.iload_n 2, 1) := by decide +kernel
theorem dX11_hasRoom_8 : decode cX11_hasRoom 8 = .ok (.aload_n 0, 1) := by decide +kernel
theorem dX11_hasRoom_9 : decode cX11_hasRoom 9 = .ok (.getfield 325, 3) := by decide +kernel
theorem dX11_hasRoom_12 : decode cX11_hasRoom 12 = .ok (.if_icmp .ge 75, 3) := by decide +kernel
theorem dX11_hasRoom_15 : decode cX11_hasRoom 15 = .ok (.aload_n 0, 1) := by decide +kernel
theorem dX11_hasRoom_16 : decode cX11_hasRoom 16 = .ok (.iload_n 2, 1) := by decide +kernel
theorem dX11_hasRoom_17 : decode cX11_hasRoom 17 = .ok (.invokevirtual 342, 3) := by decide +kernel
theorem dX11_hasRoom_20 : decode cX11_hasRoom 20 = .ok (.iconst (-1), 1) := by decide +kernel
theorem dX11_hasRoom_21 : decode cX11_hasRoom 21 = .ok (.if_icmp .ne 7, 3) := by decide +kernel
theorem dX11_hasRoom_24 : decode cX11_hasRoom 24 = .ok (.iconst 1, 1) := by decide +kernel
theorem dX11_hasRoom_25 : decode cX11_hasRoom 25 = .ok (.goto 4, 3) := by decide +kernel
theorem dX11_hasRoom_28 : decode cX11_hasRoom 28 = .ok (.iconst 0, 1) := by decide +kernel
theorem dX11_hasRoom_29 : decode cX11_hasRoom 29 = .ok (.istore_n 3, 1) := by decide +kernel
theorem dX11_hasRoom_30 : decode cX11_hasRoom 30 = .ok (.iconst 0, 1) := by decide +kernel
theorem dX11_hasRoom_31 : decode cX11_hasRoom 31 = .ok (.istore 4, 2) := by decide +kernel
theorem dX11_hasRoom_33 : decode cX11_hasRoom 33 = .ok (.iload 4, 2) := by decide +kernel
theorem dX11_hasRoom_35 : decode cX11_hasRoom 35 = .ok (.iload_n 2, 1) := by decide +kernel
theorem dX11_hasRoom_36 : decode cX11_hasRoom 36 = .ok (.if_icmp .ge 29, 3) := by decide +kernel
theorem dX11_hasRoom_39 : decode cX11_hasRoom 39 = .ok (.iload_n 3, 1) := by decide +kernel
theorem dX11_hasRoom_40 : decode cX11_hasRoom 40 = .ok (.ifCond .eq 25, 3) := by decide +kernel
theorem dX11_hasRoom_43 : decode cX11_hasRoom 43 = .ok (.aload_n 0, 1) := by decide +kernel
theorem dX11_hasRoom_44 : decode cX11_hasRoom 44 = .ok (.iload_n 2, 1) := by decide +kernel
theorem dX11_hasRoom_45 : decode cX11_hasRoom 45 = .ok (.iload 4, 2) := by decide +kernel
theorem dX11_hasRoom_47 : decode cX11_hasRoom 47 = .ok (.invokevirtual 345, 3) := by decide +kernel
theorem dX11_hasRoom_50 : decode cX11_hasRoom 50 = .ok (.ifCond .ne 7, 3) := by decide +kernel
theorem dX11_hasRoom_53 : decode cX11_hasRoom 53 = .ok (.iconst 1, 1) := by decide +kernel
theorem dX11_hasRoom_54 : decode cX11_hasRoom 54 = .ok (.goto 4, 3) := by decide +kernel
theorem dX11_hasRoom_57 : decode cX11_hasRoom 57 = .ok (.iconst 0, 1) := by decide +kernel
theorem dX11_hasRoom_58 : decode cX11_hasRoom 58 = .ok (.istore_n 3, 1) := by decide +kernel
theorem dX11_hasRoom_59 : decode cX11_hasRoom 59 = .ok (.iinc 4 1, 3) := by decide +kernel
theorem dX11_hasRoom_62 : decode cX11_hasRoom 62 = .ok (.goto (-29), 3) := by decide +kernel
theorem dX11_hasRoom_65 : decode cX11_hasRoom 65 = .ok (.iload_n 1, 1) := by decide +kernel
theorem dX11_hasRoom_66 : decode cX11_hasRoom 66 = .ok (.iload_n 3, 1) := by decide +kernel
theorem dX11_hasRoom_67 : decode cX11_hasRoom 67 = .ok (.ifCond .eq 11, 3) := by decide +kernel
theorem dX11_hasRoom_70 : decode cX11_hasRoom 70 = .ok (.aload_n 0, 1) := by decide +kernel
theorem dX11_hasRoom_71 : decode cX11_hasRoom 71 = .ok (.iload_n 2, 1) := by decide +kernel
theorem dX11_hasRoom_72 : decode cX11_hasRoom 72 = .ok (.invokevirtual 331, 3) := by decide +kernel
theorem dX11_hasRoom_75 : decode cX11_hasRoom 75 = .ok (.goto 4, 3) := by decide +kernel
theorem dX11_hasRoom_78 : decode cX11_hasRoom 78 = .ok (.iconst 0, 1) := by decide +kernel
theorem dX11_hasRoom_79 : decode cX11_hasRoom 79 = .ok (.iadd, 1) := by decide +kernel
theorem dX11_hasRoom_80 : decode cX11_hasRoom 80 = .ok (.istore_n 1, 1) := by decide +kernel
theorem dX11_hasRoom_81 : decode cX11_hasRoom 81 = .ok (.iinc 2 1, 3) := by decide +kernel
theorem dX11_hasRoom_84 : decode cX11_hasRoom 84 = .ok (.goto (-77), 3) := by decide +kernel
theorem dX11_hasRoom_87 : decode cX11_hasRoom 87 = .ok (.iload_n 1, 1) := by decide +kernel
theorem dX11_hasRoom_88 : decode cX11_hasRoom 88 = .ok (.sipush 8000, 3) := by decide +kernel
theorem dX11_hasRoom_91 : decode cX11_hasRoom 91 = .ok (.if_icmp .gt 7, 3) := by decide +kernel
theorem dX11_hasRoom_94 : decode cX11_hasRoom 94 = .ok (.iconst 1, 1) := by decide +kernel
theorem dX11_hasRoom_95 : decode cX11_hasRoom 95 = .ok (.goto 4, 3) := by decide +kernel
theorem dX11_hasRoom_98 : decode cX11_hasRoom 98 = .ok (.iconst 0, 1) := by decide +kernel
theorem dX11_hasRoom_99 : decode cX11_hasRoom 99 = .ok (.ireturn, 1) := by decide +kernel
theorem dX11_sizeOf_0 : decode cX11_sizeOf 0 = .ok (.iconst 0, 1) := by decide +kernel
theorem dX11_sizeOf_1 : decode cX11_sizeOf 1 = .ok (.istore_n 2, 1) := by decide +kernel
theorem dX11_sizeOf_2 : decode cX11_sizeOf 2 = .ok (.iconst 0, 1) := by decide +kernel
theorem dX11_sizeOf_3 : decode cX11_sizeOf 3 = .ok (.istore_n 3, 1) := by decide +kernel
theorem dX11_sizeOf_4 : decode cX11_sizeOf 4 = .ok (.iload_n 3, 1) := by decide +kernel
theorem dX11_sizeOf_5 : decode cX11_sizeOf 5 = .ok (.aload_n 0, 1) := by decide +kernel
theorem dX11_sizeOf_6 : decode cX11_sizeOf 6 = .ok (.iload_n 1, 1) := by decide +kernel
theorem dX11_sizeOf_7 : decode cX11_sizeOf 7 = .ok (.iconst 2, 1) := by decide +kernel
theorem dX11_sizeOf_8 : decode cX11_sizeOf 8 = .ok (.invokevirtual 287, 3) := by decide +kernel
theorem dX11_sizeOf_11 : decode cX11_sizeOf 11 = .ok (.if_icmp .ge 25, 3) := by decide +kernel
theorem dX11_sizeOf_14 : decode cX11_sizeOf 14 = .ok (.iload_n 2, 1) := by decide +kernel
theorem dX11_sizeOf_15 : decode cX11_sizeOf 15 = .ok (.aload_n 0, 1) := by decide +kernel
theorem dX11_sizeOf_16 : decode cX11_sizeOf 16 = .ok (.aload_n 0, 1) := by decide +kernel
theorem dX11_sizeOf_17 : decode cX11_sizeOf 17 = .ok (.iload_n 1, 1) := by decide +kernel
theorem dX11_sizeOf_18 : decode cX11_sizeOf 18 = .ok (.iconst 3, 1) := by decide +kernel
theorem dX11_sizeOf_19 : decode cX11_sizeOf 19 = .ok (.iload_n 3, 1) := by decide +kernel
theorem dX11_sizeOf_20 : decode cX11_sizeOf 20 = .ok (.iadd, 1) := by decide +kernel
theorem dX11_sizeOf_21 : decode cX11_sizeOf 21 = .ok (.invokevirtual 287, 3) := by decide +kernel
theorem dX11_sizeOf_24 : decode cX11_sizeOf 24 = .ok (.iconst 0, 1) := by decide +kernel
theorem dX11_sizeOf_25 : decode cX11_sizeOf 25 = .ok (.invokevirtual 84, 3) := by decide +kernel
theorem dX11_sizeOf_28 : decode cX11_sizeOf 28 = .ok (.iadd, 1) := by decide +kernel
theorem dX11_sizeOf_29 : decode cX11_sizeOf 29 = .ok (.istore_n 2, 1) := by decide +kernel
theorem dX11_sizeOf_30 : decode cX11_sizeOf 30 = .ok (.iinc 3 1, 3) := by decide +kernel
theorem dX11_sizeOf_33 : decode cX11_sizeOf 33 = .ok (.goto (-29), 3) := by decide +kernel
theorem dX11_sizeOf_36 : decode cX11_sizeOf 36 = .ok (.iload_n 2, 1) := by decide +kernel
theorem dX11_sizeOf_37 : decode cX11_sizeOf 37 = .ok (.ireturn, 1) := by decide +kernel
theorem dX11_usageOf_0 : decode cX11_usageOf 0 = .ok (.iconst 0, 1) := by decide +kernel
theorem dX11_usageOf_1 : decode cX11_usageOf 1 = .ok (.istore_n 2, 1) := by decide +kernel
theorem dX11_usageOf_2 : decode cX11_usageOf 2 = .ok (.iconst 0, 1) := by decide +kernel
theorem dX11_usageOf_3 : decode cX11_usageOf 3 = .ok (.istore_n 3, 1) := by decide +kernel
theorem dX11_usageOf_4 : decode cX11_usageOf 4 = .ok (.iload_n 3, 1) := by decide +kernel
theorem dX11_usageOf_5 : decode cX11_usageOf 5 = .ok (.aload_n 0, 1) := by decide +kernel
theorem dX11_usageOf_6 : decode cX11_usageOf 6 = .ok (.getfield 17, 3) := by decide +kernel
theorem dX11_usageOf_9 : decode cX11_usageOf 9 = .ok (.bipush 7, 2) := by decide +kernel
theorem dX11_usageOf_11 : decode cX11_usageOf 11 = .ok (.iaload, 1) := by decide +kernel
theorem dX11_usageOf_12 : decode cX11_usageOf 12 = .ok (.if_icmp .ge 30, 3) := by decide +kernel
theorem dX11_usageOf_15 : decode cX11_usageOf 15 = .ok (.iload_n 2, 1) := by decide +kernel
theorem dX11_usageOf_16 : decode cX11_usageOf 16 = .ok (.aload_n 0, 1) := by decide +kernel
theorem dX11_usageOf_17 : decode cX11_usageOf 17 = .ok (.iload_n 3, 1) := by decide +kernel
theorem dX11_usageOf_18 : decode cX11_usageOf 18 = .ok (.iload_n 1, 1) := by decide +kernel
theorem dX11_usageOf_19 : decode cX11_usageOf 19 = .ok (.invokevirtual 348, 3) := by decide +kernel
theorem dX11_usageOf_22 : decode cX11_usageOf 22 = .ok (.ifCond .eq 11, 3) := by decide +kernel
theorem dX11_usageOf_25 : decode cX11_usageOf 25 = .ok (.aload_n 0, 1) := by decide +kernel
theorem dX11_usageOf_26 : decode cX11_usageOf 26 = .ok (.iload_n 3, 1) := by decide +kernel
theorem dX11_usageOf_27 : decode cX11_usageOf 27 = .ok (.invokevirtual 351, 3) := by decide +kernel
theorem dX11_usageOf_30 : decode cX11_usageOf 30 = .ok (.goto 4, 3) := by decide +kernel
theorem dX11_usageOf_33 : decode cX11_usageOf 33 = .ok (.iconst 0, 1) := by decide +kernel
theorem dX11_usageOf_34 : decode cX11_usageOf 34 = .ok (.iadd, 1) := by decide +kernel
theorem dX11_usageOf_35 : decode cX11_usageOf 35 = .ok (.istore_n 2, 1) := by decide +kernel
theorem dX11_usageOf_36 : decode cX11_usageOf 36 = .ok (.iinc 3 1, 3) := by decide +kernel
theorem dX11_usageOf_39 : decode cX11_usageOf 39 = .ok (.goto (-35), 3) := by decide +kernel
theorem dX11_usageOf_42 : decode cX11_usageOf 42 = .ok (.iload_n 2, 1) := by decide +kernel
theorem dX11_usageOf_43 : decode cX11_usageOf 43 = .ok (.ireturn, 1) := by decide +kernel
theorem dX11_storePart_0 : decode cX11_storePart 0 = .ok (.aload_n 0, 1) := by decide +kernel
theorem dX11_storePart_1 : decode cX11_storePart 1 = .ok (.getfield 17, 3) := by decide +kernel
theorem dX11_storePart_4 : decode cX11_storePart 4 = .ok (.bipush 8, 2) := by decide +kernel
theorem dX11_storePart_6 : decode cX11_storePart 6 = .ok (.iaload, 1) := by decide +kernel
theorem dX11_storePart_7 : decode cX11_storePart 7 = .ok (.istore_n 2, 1) := by decide +kernel
theorem dX11_storePart_8 : decode cX11_storePart 8 = .ok (.aload_n 0, 1) := by decide +kernel
theorem dX11_storePart_9 : decode cX11_storePart 9 = .ok (.getfield 17, 3) := by decide +kernel
theorem dX11_storePart_12 : decode cX11_storePart 12 = .ok (.sipush 4771, 3) := by decide +kernel
theorem dX11_storePart_15 : decode cX11_storePart 15 = .ok (.iconst 3, 1) := by decide +kernel
theorem dX11_storePart_16 : decode cX11_storePart 16 = .ok (.iload_n 2, 1) := by decide +kernel
theorem dX11_storePart_17 : decode cX11_storePart 17 = .ok (.imul, 1) := by decide +kernel
theorem dX11_storePart_18 : decode cX11_storePart 18 = .ok (.iadd, 1) := by decide +kernel
theorem dX11_storePart_19 : decode cX11_storePart 19 = .ok (.iconst 0, 1) := by decide +kernel
theorem dX11_storePart_20 : decode cX11_storePart 20 = .ok (.iadd, 1) := by decide +kernel
theorem dX11_storePart_21 : decode cX11_storePart 21 = .ok (.aload_n 0, 1) := by decide +kernel
theorem dX11_storePart_22 : decode cX11_storePart 22 = .ok (.iload_n 1, 1) := by decide +kernel
theorem dX11_storePart_23 : decode cX11_storePart 23 = .ok (.invokevirtual 331, 3) := by decide +kernel
theorem dX11_storePart_26 : decode cX11_storePart 26 = .ok (.iastore, 1) := by decide +kernel
theorem dX11_storePart_27 : decode cX11_storePart 27 = .ok (.aload_n 0, 1) := by decide +kernel
theorem dX11_storePart_28 : decode cX11_storePart 28 = .ok (.getfield 17, 3) := by decide +kernel
theorem dX11_storePart_31 : decode cX11_storePart 31 = .ok (.sipush 4771, 3) := by decide +kernel
theorem dX11_storePart_34 : decode cX11_storePart 34 = .ok (.iconst 3, 1) := by decide +kernel
theorem dX11_storePart_35 : decode cX11_storePart 35 = .ok (.iload_n 2, 1) := by decide +kernel
theorem dX11_storePart_36 : decode cX11_storePart 36 = .ok (.imul, 1) := by decide +kernel
theorem dX11_storePart_37 : decode cX11_storePart 37 = .ok (.iadd, 1) := by decide +kernel
theorem dX11_storePart_38 : decode cX11_storePart 38 = .ok (.iconst 1, 1) := by decide +kernel
theorem dX11_storePart_39 : decode cX11_storePart 39 = .ok (.iadd, 1) := by decide +kernel
theorem dX11_storePart_40 : decode cX11_storePart 40 = .ok (.iconst 1, 1) := by decide +kernel
theorem dX11_storePart_41 : decode cX11_storePart 41 = .ok (.iastore, 1) := by decide +kernel
theorem dX11_storePart_42 : decode cX11_storePart 42 = .ok (.aload_n 0, 1) := by decide +kernel
theorem dX11_storePart_43 : decode cX11_storePart 43 = .ok (.getfield 17, 3) := by decide +kernel
theorem dX11_storePart_46 : decode cX11_storePart 46 = .ok (.sipush 4771, 3) := by decide +kernel
theorem dX11_storePart_49 : decode cX11_storePart 49 = .ok (.iconst 3, 1) := by decide +kernel
theorem dX11_storePart_50 : decode cX11_storePart 50 = .ok (.iload_n 2, 1) := by decide +kernel
theorem dX11_storePart_51 : decode cX11_storePart 51 = .ok (.imul, 1) := by decide +kernel
theorem dX11_storePart_52 : decode cX11_storePart 52 = .ok (.iadd, 1) := by decide +kernel
theorem dX11_storePart_53 : decode cX11_storePart 53 = .ok (.iconst 2, 1) := by decide +kernel
theorem dX11_storePart_54 : decode cX11_storePart 54 = .ok (.iadd, 1) := by decide +kernel
theorem dX11_storePart_55 : decode cX11_storePart 55 = .ok (.iconst (-1), 1) := by decide +kernel
theorem dX11_storePart_56 : decode cX11_storePart 56 = .ok (.iastore, 1) := by decide +kernel
theorem dX11_storePart_57 : decode cX11_storePart 57 = .ok (.iconst 0, 1) := by decide +kernel
theorem dX11_storePart_58 : decode cX11_storePart 58 = .ok (.istore_n 3, 1) := by decide +kernel
theorem dX11_storePart_59 : decode cX11_storePart 59 = .ok (.iload_n 3, 1) := by decide +kernel
theorem dX11_storePart_60 : decode cX11_storePart 60 = .ok (.aload_n 0, 1) := by decide +kernel
theorem dX11_storePart_61 : decode cX11_storePart 61 = .ok (.iload_n 1, 1) := by decide +kernel
theorem dX11_storePart_62 : decode cX11_storePart 62 = .ok (.invokevirtual 331, 3) := by decide +kernel
theorem dX11_storePart_65 : decode cX11_storePart 65 = .ok (.if_icmp .ge 34, 3) := by decide +kernel
theorem dX11_storePart_68 : decode cX11_storePart 68 = .ok (.aload_n 0, 1) := by decide +kernel
theorem dX11_storePart_69 : decode cX11_storePart 69 = .ok (.getfield 25, 3) := by decide +kernel
theorem dX11_storePart_72 : decode cX11_storePart 72 = .ok (.sipush 200, 3) := by decide +kernel
theorem dX11_storePart_75 : decode cX11_storePart 75 = .ok (.iload_n 2, 1) := by decide +kernel
theorem dX11_storePart_76 : decode cX11_storePart 76 = .ok (.imul, 1) := by decide +kernel
theorem dX11_storePart_77 : decode cX11_storePart 77 = .ok (.iload_n 3, 1) := by decide +kernel
theorem dX11_storePart_78 : decode cX11_storePart 78 = .ok (.iadd, 1) := by decide +kernel
theorem dX11_storePart_79 : decode cX11_storePart 79 = .ok (.aload_n 0, 1) := by decide +kernel
theorem dX11_storePart_80 : decode cX11_storePart 80 = .ok (.getfield 32, 3) := by decide +kernel
theorem dX11_storePart_83 : decode cX11_storePart 83 = .ok (.aload_n 0, 1) := by decide +kernel
theorem dX11_storePart_84 : decode cX11_storePart 84 = .ok (.getfield 41, 3) := by decide +kernel
theorem dX11_storePart_87 : decode cX11_storePart 87 = .ok (.iload_n 1, 1) := by decide +kernel
theorem dX11_storePart_88 : decode cX11_storePart 88 = .ok (.iaload, 1) := by decide +kernel
theorem dX11_storePart_89 : decode cX11_storePart 89 = .ok (.iload_n 3, 1) := by decide +kernel
theorem dX11_storePart_90 : decode cX11_storePart 90 = .ok (.iadd, 1) := by decide +kernel
theorem dX11_storePart_91 : decode cX11_storePart 91 = .ok (.baload, 1) := by decide +kernel
theorem dX11_storePart_92 : decode cX11_storePart 92 = .ok (.bastore, 1) := by decide +kernel
theorem dX11_storePart_93 : decode cX11_storePart 93 = .ok (.iinc 3 1, 3) := by decide +kernel
theorem dX11_storePart_96 : decode cX11_storePart 96 = .ok (.goto (-37), 3) := by decide +kernel
theorem dX11_storePart_99 : decode cX11_storePart 99 = .ok (.aload_n 0, 1) := by decide +kernel
theorem dX11_storePart_100 : decode cX11_storePart 100 = .ok (.getfield 17, 3) := by decide +kernel
theorem dX11_storePart_103 : decode cX11_storePart 103 = .ok (.bipush 8, 2) := by decide +kernel
theorem dX11_storePart_105 : decode cX11_storePart 105 = .ok (.dup2, 1) := by decide +kernel
theorem dX11_storePart_106 : decode cX11_storePart 106 = .ok (.iaload, 1) := by decide +kernel
theorem dX11_storePart_107 : decode cX11_storePart 107 = .ok (.iconst 1, 1) := by decide +kernel
theorem dX11_storePart_108 : decode cX11_storePart 108 = .ok (.iadd, 1) := by decide +kernel
theorem dX11_storePart_109 : decode cX11_storePart 109 = .ok (.iastore, 1) := by decide +kernel
theorem dX11_storePart_110 : decode cX11_storePart 110 = .ok (.iload_n 2, 1) := by decide +kernel
theorem dX11_storePart_111 : decode cX11_storePart 111 = .ok (.ireturn, 1) := by decide +kernel
theorem dX11_storeParts_0 : decode cX11_storeParts 0 = .ok (.iconst 0, 1) := by decide +kernel
theorem dX11_storeParts_1 : decode cX11_storeParts 1 = .ok (.istore_n 2, 1) := by decide +kernel
theorem dX11_storeParts_2 : decode cX11_storeParts 2 = .ok (.iload_n 2, 1) := by decide +kernel
theorem dX11_storeParts_3 : decode cX11_storeParts 3 = .ok (.aload_n 0, 1) := by decide +kernel
theorem dX11_storeParts_4 : decode cX11_storeParts 4 = .ok (.getfield 325, 3) := by decide +kernel
theorem dX11_storeParts_7 : decode cX11_storeParts 7 = .ok (.if_icmp .ge 77, 3) := by decide +kernel
theorem dX11_storeParts_10 : decode cX11_storeParts 10 = .ok (.aload_n 0, 1) := by decide +kernel
theorem dX11_storeParts_11 : decode cX11_storeParts 11 = .ok (.iload_n 2, 1) := by decide +kernel
theorem dX11_storeParts_12 : decode cX11_storeParts 12 = .ok (.invokevirtual 342, 3) := by decide +kernel
theorem dX11_storeParts_15 : decode cX11_storeParts 15 = .ok (.istore_n 3, 1) := by decide +kernel
theorem dX11_storeParts_16 : decode cX11_storeParts 16 = .ok (.iload_n 3, 1) := by decide +kernel
theorem dX11_storeParts_17 : decode cX11_storeParts 17 = .ok (.iconst (-1), 1) := by decide +kernel
theorem dX11_storeParts_18 : decode cX11_storeParts 18 = .ok (.if_icmp .ne 12, 3) := by decide +kernel
theorem dX11_storeParts_21 : decode cX11_storeParts 21 = .ok (.aload_n 0, 1) := by decide +kernel
theorem dX11_storeParts_22 : decode cX11_storeParts 22 = .ok (.iload_n 2, 1) := by decide +kernel
theorem dX11_storeParts_23 : decode cX11_storeParts 23 = .ok (.invokevirtual 354, 3) := by decide +kernel
theorem dX11_storeParts_26 : decode cX11_storeParts 26 = .ok (.istore_n 3, 1) := by decide +kernel
theorem dX11_storeParts_27 : decode cX11_storeParts 27 = .ok (.goto 33, 3) := by decide +kernel
theorem dX11_storeParts_30 : decode cX11_storeParts 30 = .ok (.aload_n 0, 1) := by decide +kernel
theorem dX11_storeParts_31 : decode cX11_storeParts 31 = .ok (.iload_n 3, 1) := by decide +kernel
theorem dX11_storeParts_32 : decode cX11_storeParts 32 = .ok (.invokevirtual 309, 3) := by decide +kernel
theorem dX11_storeParts_35 : decode cX11_storeParts 35 = .ok (.ifCond .eq 25, 3) := by decide +kernel
theorem dX11_storeParts_38 : decode cX11_storeParts 38 = .ok (.aload_n 0, 1) := by decide +kernel
theorem dX11_storeParts_39 : decode cX11_storeParts 39 = .ok (.getfield 17, 3) := by decide +kernel
theorem dX11_storeParts_42 : decode cX11_storeParts 42 = .ok (.sipush 4771, 3) := by decide +kernel
theorem dX11_storeParts_45 : decode cX11_storeParts 45 = .ok (.iconst 3, 1) := by decide +kernel
theorem dX11_storeParts_46 : decode cX11_storeParts 46 = .ok (.iload_n 3, 1) := by decide +kernel
theorem dX11_storeParts_47 : decode cX11_storeParts 47 = .ok (.imul, 1) := by decide +kernel
theorem dX11_storeParts_48 : decode cX11_storeParts 48 = .ok (.iadd, 1) := by decide +kernel
theorem dX11_storeParts_49 : decode cX11_storeParts 49 = .ok (.iconst 2, 1) := by decide +kernel
theorem dX11_storeParts_50 : decode cX11_storeParts 50 = .ok (.iadd, 1) := by decide +kernel
theorem dX11_storeParts_51 : decode cX11_storeParts 51 = .ok (.iconst (-1), 1) := by decide +kernel
theorem dX11_storeParts_52 : decode cX11_storeParts 52 = .ok (.iastore, 1) := by decide +kernel
theorem dX11_storeParts_53 : decode cX11_storeParts 53 = .ok (.aload_n 0, 1) := by decide +kernel
theorem dX11_storeParts_54 : decode cX11_storeParts 54 = .ok (.bipush 7, 2) := by decide +kernel
theorem dX11_storeParts_56 : decode cX11_storeParts 56 = .ok (.iload_n 3, 1) := by decide +kernel
theorem dX11_storeParts_57 : decode cX11_storeParts 57 = .ok (.invokevirtual 315, 3) := by decide +kernel
theorem dX11_storeParts_60 : decode cX11_storeParts 60 = .ok (.aload_n 0, 1) := by decide +kernel
theorem dX11_storeParts_61 : decode cX11_storeParts 61 = .ok (.getfield 17, 3) := by decide +kernel
theorem dX11_storeParts_64 : decode cX11_storeParts 64 = .ok (.sipush 331, 3) := by decide +kernel
theorem dX11_storeParts_67 : decode cX11_storeParts 67 = .ok (.bipush 7, 2) := by decide +kernel
theorem dX11_storeParts_69 : decode cX11_storeParts 69 = .ok (.iload_n 1, 1) := by decide +kernel
theorem dX11_storeParts_70 : decode cX11_storeParts 70 = .ok (.imul, 1) := by decide +kernel
theorem dX11_storeParts_71 : decode cX11_storeParts 71 = .ok (.iadd, 1) := by decide +kernel
theorem dX11_storeParts_72 : decode cX11_storeParts 72 = .ok (.iconst 3, 1) := by decide +kernel
theorem dX11_storeParts_73 : decode cX11_storeParts 73 = .ok (.iadd, 1) := by decide +kernel
theorem dX11_storeParts_74 : decode cX11_storeParts 74 = .ok (.iload_n 2, 1) := by decide +kernel
theorem dX11_storeParts_75 : decode cX11_storeParts 75 = .ok (.iadd, 1) := by decide +kernel
theorem dX11_storeParts_76 : decode cX11_storeParts 76 = .ok (.iload_n 3, 1) := by decide +kernel
theorem dX11_storeParts_77 : decode cX11_storeParts 77 = .ok (.iastore, 1) := by decide +kernel
theorem dX11_storeParts_78 : decode cX11_storeParts 78 = .ok (.iinc 2 1, 3) := by decide +kernel
theorem dX11_storeParts_81 : decode cX11_storeParts 81 = .ok (.goto (-79), 3) := by decide +kernel
theorem dX11_storeParts_84 : decode cX11_storeParts 84 = .ok (.return_, 1) := by decide +kernel
theorem dX11_everyUser_0 : decode cX11_everyUser 0 = .ok (.iconst 1, 1) := by decide +kernel
theorem dX11_everyUser_1 : decode cX11_everyUser 1 = .ok (.aload_n 0, 1) := by decide +kernel
theorem dX11_everyUser_2 : decode cX11_everyUser 2 = .ok (.getfield 17, 3) := by decide +kernel
theorem dX11_everyUser_5 : decode cX11_everyUser 5 = .ok (.iconst 4, 1) := by decide +kernel
theorem dX11_everyUser_6 : decode cX11_everyUser 6 = .ok (.iaload, 1) := by decide +kernel
theorem dX11_everyUser_7 : decode cX11_everyUser 7 = .ok (.ishl, 1) := by decide +kernel
theorem dX11_everyUser_8 : decode cX11_everyUser 8 = .ok (.iconst 1, 1) := by decide +kernel
theorem dX11_everyUser_9 : decode cX11_everyUser 9 = .ok (.isub, 1) := by decide +kernel
theorem dX11_everyUser_10 : decode cX11_everyUser 10 = .ok (.ireturn, 1) := by decide +kernel
theorem dX11_areUsers_0 : decode cX11_areUsers 0 = .ok (.iload_n 1, 1) := by decide +kernel
theorem dX11_areUsers_1 : decode cX11_areUsers 1 = .ok (.aload_n 0, 1) := by decide +kernel
theorem dX11_areUsers_2 : decode cX11_areUsers 2 = .ok (.invokevirtual 357, 3) := by decide +kernel
theorem dX11_areUsers_5 : decode cX11_areUsers 5 = .ok (.iconst (-1), 1) := by decide +kernel
theorem dX11_areUsers_6 : decode cX11_areUsers 6 = .ok (.ixor, 1) := by decide +kernel
theorem dX11_areUsers_7 : decode cX11_areUsers 7 = .ok (.iand, 1) := by decide +kernel
theorem dX11_areUsers_8 : decode cX11_areUsers 8 = .ok (.ifCond .ne 7, 3) := by decide +kernel
theorem dX11_areUsers_11 : decode cX11_areUsers 11 = .ok (.iconst 1, 1) := by decide +kernel
theorem dX11_areUsers_12 : decode cX11_areUsers 12 = .ok (.goto 4, 3) := by decide +kernel
theorem dX11_areUsers_15 : decode cX11_areUsers 15 = .ok (.iconst 0, 1) := by decide +kernel
theorem dX11_areUsers_16 : decode cX11_areUsers 16 = .ok (.ireturn, 1) := by decide +kernel
theorem dX11_sizeIn_0 : decode cX11_sizeIn 0 = .ok (.iconst 0, 1) := by decide +kernel
theorem dX11_sizeIn_1 : decode cX11_sizeIn 1 = .ok (.istore_n 1, 1) := by decide +kernel
theorem dX11_sizeIn_2 : decode cX11_sizeIn 2 = .ok (.iconst 0, 1) := by decide +kernel
theorem dX11_sizeIn_3 : decode cX11_sizeIn 3 = .ok (.istore_n 2, 1) := by decide +kernel
theorem dX11_sizeIn_4 : decode cX11_sizeIn 4 = .ok (.iload_n 2, 1) := by decide +kernel
theorem dX11_sizeIn_5 : decode cX11_sizeIn 5 = .ok (.aload_n 0, 1) := by decide +kernel
theorem dX11_sizeIn_6 : decode cX11_sizeIn 6 = .ok (.getfield 325, 3) := by decide +kernel
theorem dX11_sizeIn_9 : decode cX11_sizeIn 9 = .ok (.if_icmp .ge 17, 3) := by decide +kernel
theorem dX11_sizeIn_12 : decode cX11_sizeIn 12 = .ok (.iload_n 1, 1) := by decide +kernel
theorem dX11_sizeIn_13 : decode cX11_sizeIn 13 = .ok (.aload_n 0, 1) := by decide +kernel
theorem dX11_sizeIn_14 : decode cX11_sizeIn 14 = .ok (.iload_n 2, 1) := by decide +kernel
theorem dX11_sizeIn_15 : decode cX11_sizeIn 15 = .ok (.invokevirtual 331, 3) := by decide +kernel
theorem dX11_sizeIn_18 : decode cX11_sizeIn 18 = .ok (.iadd, 1) := by decide +kernel
theorem dX11_sizeIn_19 : decode cX11_sizeIn 19 = .ok (.istore_n 1, 1) := by decide +kernel
theorem dX11_sizeIn_20 : decode cX11_sizeIn 20 = .ok (.iinc 2 1, 3) := by decide +kernel
theorem dX11_sizeIn_23 : decode cX11_sizeIn 23 = .ok (.goto (-19), 3) := by decide +kernel
theorem dX11_sizeIn_26 : decode cX11_sizeIn 26 = .ok (.iload_n 1, 1) := by decide +kernel
theorem dX11_sizeIn_27 : decode cX11_sizeIn 27 = .ok (.ireturn, 1) := by decide +kernel
theorem dX11_deliver_0 : decode cX11_deliver 0 = .ok (.aload_n 0, 1) := by decide +kernel
theorem dX11_deliver_1 : decode cX11_deliver 1 = .ok (.iload_n 1, 1) := by decide +kernel
theorem dX11_deliver_2 : decode cX11_deliver 2 = .ok (.invokevirtual 76, 3) := by decide +kernel
theorem dX11_deliver_5 : decode cX11_deliver 5 = .ok (.ifCond .eq 28, 3) := by decide +kernel
theorem dX11_deliver_8 : decode cX11_deliver 8 = .ok (.aload_n 0, 1) := by decide +kernel
theorem dX11_deliver_9 : decode cX11_deliver 9 = .ok (.iload_n 2, 1) := by decide +kernel
theorem dX11_deliver_10 : decode cX11_deliver 10 = .ok (.invokevirtual 360, 3) := by decide +kernel
theorem dX11_deliver_13 : decode cX11_deliver 13 = .ok (.ifCond .eq 20, 3) := by decide +kernel
theorem dX11_deliver_16 : decode cX11_deliver 16 = .ok (.iload_n 3, 1) := by decide +kernel
theorem dX11_deliver_17 : decode cX11_deliver 17 = .ok (.iconst (-1), 1) := by decide +kernel
theorem dX11_deliver_18 : decode cX11_deliver 18 = .ok (.if_icmp .eq 11, 3) := by decide +kernel
theorem dX11_deliver_21 : decode cX11_deliver 21 = .ok (.aload_n 0, 1) := by decide +kernel
theorem dX11_deliver_22 : decode cX11_deliver 22 = .ok (.iload_n 3, 1) := by decide +kernel
theorem dX11_deliver_23 : decode cX11_deliver 23 = .ok (.invokevirtual 264, 3) := by decide +kernel
theorem dX11_deliver_26 : decode cX11_deliver 26 = .ok (.ifCond .eq 7, 3) := by decide +kernel
theorem dX11_deliver_29 : decode cX11_deliver 29 = .ok (.iconst 1, 1) := by decide +kernel
theorem dX11_deliver_30 : decode cX11_deliver 30 = .ok (.goto 4, 3) := by decide +kernel
theorem dX11_deliver_33 : decode cX11_deliver 33 = .ok (.iconst 0, 1) := by decide +kernel
theorem dX11_deliver_34 : decode cX11_deliver 34 = .ok (.istore 4, 2) := by decide +kernel
theorem dX11_deliver_36 : decode cX11_deliver 36 = .ok (.iload_n 2, 1) := by decide +kernel
theorem dX11_deliver_37 : decode cX11_deliver 37 = .ok (.ifCond .eq 14, 3) := by decide +kernel
theorem dX11_deliver_40 : decode cX11_deliver 40 = .ok (.aload_n 0, 1) := by decide +kernel
theorem dX11_deliver_41 : decode cX11_deliver 41 = .ok (.invokevirtual 363, 3) := by decide +kernel
theorem dX11_deliver_44 : decode cX11_deliver 44 = .ok (.ifCond .eq 7, 3) := by decide +kernel
theorem dX11_deliver_47 : decode cX11_deliver 47 = .ok (.iconst 1, 1) := by decide +kernel
theorem dX11_deliver_48 : decode cX11_deliver 48 = .ok (.goto 4, 3) := by decide +kernel
theorem dX11_deliver_51 : decode cX11_deliver 51 = .ok (.iconst 0, 1) := by decide +kernel
theorem dX11_deliver_52 : decode cX11_deliver 52 = .ok (.istore 5, 2) := by decide +kernel
theorem dX11_deliver_54 : decode cX11_deliver 54 = .ok (.aload_n 0, 1) := by decide +kernel
theorem dX11_deliver_55 : decode cX11_deliver 55 = .ok (.iload 4, 2) := by decide +kernel
theorem dX11_deliver_57 : decode cX11_deliver 57 = .ok (.iload 5, 2) := by decide +kernel
theorem dX11_deliver_59 : decode cX11_deliver 59 = .ok (.iload 5, 2) := by decide +kernel
theorem dX11_deliver_61 : decode cX11_deliver 61 = .ok (.ifCond .eq 22, 3) := by decide +kernel
theorem dX11_deliver_64 : decode cX11_deliver 64 = .ok (.aload_n 0, 1) := by decide +kernel
theorem dX11_deliver_65 : decode cX11_deliver 65 = .ok (.getfield 17, 3) := by decide +kernel
theorem dX11_deliver_68 : decode cX11_deliver 68 = .ok (.bipush 7, 2) := by decide +kernel
theorem dX11_deliver_70 : decode cX11_deliver 70 = .ok (.iaload, 1) := by decide +kernel
theorem dX11_deliver_71 : decode cX11_deliver 71 = .ok (.bipush 120, 2) := by decide +kernel
theorem dX11_deliver_73 : decode cX11_deliver 73 = .ok (.if_icmp .ge 14, 3) := by decide +kernel
theorem dX11_deliver_76 : decode cX11_deliver 76 = .ok (.aload_n 0, 1) := by decide +kernel
theorem dX11_deliver_77 : decode cX11_deliver 77 = .ok (.invokevirtual 366, 3) := by decide +kernel
theorem dX11_deliver_80 : decode cX11_deliver 80 = .ok (.ifCond .eq 7, 3) := by decide +kernel
theorem dX11_deliver_83 : decode cX11_deliver 83 = .ok (.iconst 1, 1) := by decide +kernel
theorem dX11_deliver_84 : decode cX11_deliver 84 = .ok (.goto 4, 3) := by decide +kernel
theorem dX11_deliver_87 : decode cX11_deliver 87 = .ok (.iconst 0, 1) := by decide +kernel
theorem dX11_deliver_88 : decode cX11_deliver 88 = .ok (.invokevirtual 7, 3) := by decide +kernel
theorem dX11_deliver_91 : decode cX11_deliver 91 = .ok (.ifCond .ne 5, 3) := by decide +kernel
theorem dX11_deliver_94 : decode cX11_deliver 94 = .ok (.iconst 0, 1) := by decide +kernel
theorem dX11_deliver_95 : decode cX11_deliver 95 = .ok (.ireturn, 1) := by decide +kernel
theorem dX11_deliver_96 : decode cX11_deliver 96 = .ok (.aload_n 0, 1) := by decide +kernel
theorem dX11_deliver_97 : decode cX11_deliver 97 = .ok (.invokevirtual 256, 3) := by decide +kernel
theorem dX11_deliver_100 : decode cX11_deliver 100 = .ok (.aload_n 0, 1) := by decide +kernel
theorem dX11_deliver_101 : decode cX11_deliver 101 = .ok (.invokevirtual 369, 3) := by decide +kernel
theorem dX11_deliver_104 : decode cX11_deliver 104 = .ok (.istore 6, 2) := by decide +kernel
theorem dX11_deliver_106 : decode cX11_deliver 106 = .ok (.iconst 0, 1) := by decide +kernel
theorem dX11_deliver_107 : decode cX11_deliver 107 = .ok (.istore 7, 2) := by decide +kernel
theorem dX11_deliver_109 : decode cX11_deliver 109 = .ok (.iconst 0, 1) := by decide +kernel
theorem dX11_deliver_110 : decode cX11_deliver 110 = .ok (.istore 8, 2) := by decide +kernel
theorem dX11_deliver_112 : decode cX11_deliver 112 = .ok (.iload 8, 2) := by decide +kernel
theorem dX11_deliver_114 : decode cX11_deliver 114 = .ok (.aload_n 0, 1) := by decide +kernel
theorem dX11_deliver_115 : decode cX11_deliver 115 = .ok (.getfield 17, 3) := by decide +kernel
theorem dX11_deliver_118 : decode cX11_deliver 118 = .ok (.iconst 4, 1) := by decide +kernel
theorem dX11_deliver_119 : decode cX11_deliver 119 = .ok (.iaload, 1) := by decide +kernel
theorem dX11_deliver_120 : decode cX11_deliver 120 = .ok (.if_icmp .ge 64, 3) := by decide +kernel
theorem dX11_deliver_123 : decode cX11_deliver 123 = .ok (.iload_n 2, 1) := by decide +kernel
theorem dX11_deliver_124 : decode cX11_deliver 124 = .ok (.iload 8, 2) := by decide +kernel
theorem dX11_deliver_126 : decode cX11_deliver 126 = .ok (.invokestatic 372, 3) := by decide +kernel
theorem dX11_deliver_129 : decode cX11_deliver 129 = .ok (.ifCond .eq 49, 3) := by decide +kernel
theorem dX11_deliver_132 : decode cX11_deliver 132 = .ok (.aload_n 0, 1) := by decide +kernel
theorem dX11_deliver_133 : decode cX11_deliver 133 = .ok (.iload 8, 2) := by decide +kernel
theorem dX11_deliver_135 : decode cX11_deliver 135 = .ok (.invokevirtual 375, 3) := by decide +kernel
theorem dX11_deliver_138 : decode cX11_deliver 138 = .ok (.iload 6, 2) := by decide +kernel
theorem dX11_deliver_140 : decode cX11_deliver 140 = .ok (.iadd, 1) := by decide +kernel
theorem dX11_deliver_141 : decode cX11_deliver 141 = .ok (.aload_n 0, 1) := by decide +kernel
theorem dX11_deliver_142 : decode cX11_deliver 142 = .ok (.getfield 17, 3) := by decide +kernel
theorem dX11_deliver_145 : decode cX11_deliver 145 = .ok (.bipush 83, 2) := by decide +kernel
theorem dX11_deliver_147 : decode cX11_deliver 147 = .ok (.bipush 8, 2) := by decide +kernel
theorem dX11_deliver_149 : decode cX11_deliver 149 = .ok (.iload 8, 2) := by decide +kernel
theorem dX11_deliver_151 : decode cX11_deliver 151 = .ok (.imul, 1) := by decide +kernel
theorem dX11_deliver_152 : decode cX11_deliver 152 = .ok (.iadd, 1) := by decide +kernel
theorem dX11_deliver_153 : decode cX11_deliver 153 = .ok (.iconst 1, 1) := by decide +kernel
theorem dX11_deliver_154 : decode cX11_deliver 154 = .ok (.iadd, 1) := by decide +kernel
theorem dX11_deliver_155 : decode cX11_deliver 155 = .ok (.iaload, 1) := by decide +kernel
theorem dX11_deliver_156 : decode cX11_deliver 156 = .ok (.if_icmp .gt 6, 3) := by decide +kernel
theorem dX11_deliver_159 : decode cX11_deliver 159 = .ok (.goto 19, 3) := by decide +kernel
theorem dX11_deliver_162 : decode cX11_deliver 162 = .ok (.iload 7, 2) := by decide +kernel
theorem dX11_deliver_164 : decode cX11_deliver 164 = .ok (.iconst 1, 1) := by decide +kernel
theorem dX11_deliver_165 : decode cX11_deliver 165 = .ok (.iload 8, 2) := by decide +kernel
theorem dX11_deliver_167 : decode cX11_deliver 167 = .ok (.ishl, 1) := by decide +kernel
theorem dX11_deliver_168 : decode cX11_deliver 168 = .ok (.ior, 1) := by decide +kernel
theorem dX11_deliver_169 : decode cX11_deliver 169 = .ok (.istore 7, 2) := by decide +kernel
theorem dX11_deliver_171 : decode cX11_deliver 171 = .ok (.aload_n 0, 1) := by decide +kernel
theorem dX11_deliver_172 : decode cX11_deliver 172 = .ok (.iconst 2, 1) := by decide +kernel
theorem dX11_deliver_173 : decode cX11_deliver 173 = .ok (.iload 8, 2) := by decide +kernel
theorem dX11_deliver_175 : decode cX11_deliver 175 = .ok (.invokevirtual 315, 3) := by decide +kernel
theorem dX11_deliver_178 : decode cX11_deliver 178 = .ok (.iinc 8 1, 3) := by decide +kernel
theorem dX11_deliver_181 : decode cX11_deliver 181 = .ok (.goto (-69), 3) := by decide +kernel
theorem dX11_deliver_184 : decode cX11_deliver 184 = .ok (.aload_n 0, 1) := by decide +kernel
theorem dX11_deliver_185 : decode cX11_deliver 185 = .ok (.getfield 17, 3) := by decide +kernel
theorem dX11_deliver_188 : decode cX11_deliver 188 = .ok (.bipush 10, 2) := by decide +kernel
theorem dX11_deliver_190 : decode cX11_deliver 190 = .ok (.iload 7, 2) := by decide +kernel
theorem dX11_deliver_192 : decode cX11_deliver 192 = .ok (.iastore, 1) := by decide +kernel
theorem dX11_deliver_193 : decode cX11_deliver 193 = .ok (.iload 7, 2) := by decide +kernel
theorem dX11_deliver_195 : decode cX11_deliver 195 = .ok (.iload_n 2, 1) := by decide +kernel
theorem dX11_deliver_196 : decode cX11_deliver 196 = .ok (.if_icmp .ne 8, 3) := by decide +kernel
theorem dX11_deliver_199 : decode cX11_deliver 199 = .ok (.bipush (-2), 2) := by decide +kernel
theorem dX11_deliver_201 : decode cX11_deliver 201 = .ok (.goto 10, 3) := by decide +kernel
theorem dX11_deliver_204 : decode cX11_deliver 204 = .ok (.aload_n 0, 1) := by decide +kernel
theorem dX11_deliver_205 : decode cX11_deliver 205 = .ok (.getfield 17, 3) := by decide +kernel
theorem dX11_deliver_208 : decode cX11_deliver 208 = .ok (.bipush 7, 2) := by decide +kernel
theorem dX11_deliver_210 : decode cX11_deliver 210 = .ok (.iaload, 1) := by decide +kernel
theorem dX11_deliver_211 : decode cX11_deliver 211 = .ok (.istore 8, 2) := by decide +kernel
theorem dX11_deliver_213 : decode cX11_deliver 213 = .ok (.iload 8, 2) := by decide +kernel
theorem dX11_deliver_215 : decode cX11_deliver 215 = .ok (.bipush (-2), 2) := by decide +kernel
theorem dX11_deliver_217 : decode cX11_deliver 217 = .ok (.if_icmp .eq 17, 3) := by decide +kernel
theorem dX11_deliver_220 : decode cX11_deliver 220 = .ok (.aload_n 0, 1) := by decide +kernel
theorem dX11_deliver_221 : decode cX11_deliver 221 = .ok (.iload 8, 2) := by decide +kernel
theorem dX11_deliver_223 : decode cX11_deliver 223 = .ok (.iload_n 1, 1) := by decide +kernel
theorem dX11_deliver_224 : decode cX11_deliver 224 = .ok (.iload_n 2, 1) := by decide +kernel
theorem dX11_deliver_225 : decode cX11_deliver 225 = .ok (.iload 7, 2) := by decide +kernel
theorem dX11_deliver_227 : decode cX11_deliver 227 = .ok (.iconst (-1), 1) := by decide +kernel
theorem dX11_deliver_228 : decode cX11_deliver 228 = .ok (.ixor, 1) := by decide +kernel
theorem dX11_deliver_229 : decode cX11_deliver 229 = .ok (.iand, 1) := by decide +kernel
theorem dX11_deliver_230 : decode cX11_deliver 230 = .ok (.iload_n 3, 1) := by decide +kernel
theorem dX11_deliver_231 : decode cX11_deliver 231 = .ok (.invokevirtual 378, 3) := by decide +kernel
theorem dX11_deliver_234 : decode cX11_deliver 234 = .ok (.aload_n 0, 1) := by decide +kernel
theorem dX11_deliver_235 : decode cX11_deliver 235 = .ok (.iconst 0, 1) := by decide +kernel
theorem dX11_deliver_236 : decode cX11_deliver 236 = .ok (.putfield 91, 3) := by decide +kernel
theorem dX11_deliver_239 : decode cX11_deliver 239 = .ok (.iload 8, 2) := by decide +kernel
theorem dX11_deliver_241 : decode cX11_deliver 241 = .ok (.ireturn, 1) := by decide +kernel
theorem dX11_storeMessage_0 : decode cX11_storeMessage 0 = .ok (.aload_n 0, 1) := by decide +kernel
theorem dX11_storeMessage_1 : decode cX11_storeMessage 1 = .ok (.iload_n 1, 1) := by decide +kernel
theorem dX11_storeMessage_2 : decode cX11_storeMessage 2 = .ok (.invokevirtual 382, 3) := by decide +kernel
theorem dX11_storeMessage_5 : decode cX11_storeMessage 5 = .ok (.aload_n 0, 1) := by decide +kernel
theorem dX11_storeMessage_6 : decode cX11_storeMessage 6 = .ok (.getfield 17, 3) := by decide +kernel
theorem dX11_storeMessage_9 : decode cX11_storeMessage 9 = .ok (.sipush 331, 3) := by decide +kernel
theorem dX11_storeMessage_12 : decode cX11_storeMessage 12 = .ok (.bipush 7, 2) := by decide +kernel
theorem dX11_storeMessage_14 : decode cX11_storeMessage 14 = .ok (.iload_n 1, 1) := by decide +kernel
theorem dX11_storeMessage_15 : decode cX11_storeMessage 15 = .ok (.imul, 1) := by decide +kernel
theorem dX11_storeMessage_16 : decode cX11_storeMessage 16 = .ok (.iadd, 1) := by decide +kernel
theorem dX11_storeMessage_17 : decode cX11_storeMessage 17 = .ok (.iconst 0, 1) := by decide +kernel
theorem dX11_storeMessage_18 : decode cX11_storeMessage 18 = .ok (.iadd, 1) := by decide +kernel
theorem dX11_storeMessage_19 : decode cX11_storeMessage 19 = .ok (.iload_n 2, 1) := by decide +kernel
theorem dX11_storeMessage_20 : decode cX11_storeMessage 20 = .ok (.iastore, 1) := by decide +kernel
theorem dX11_storeMessage_21 : decode cX11_storeMessage 21 = .ok (.aload_n 0, 1) := by decide +kernel
theorem dX11_storeMessage_22 : decode cX11_storeMessage 22 = .ok (.getfield 17, 3) := by decide +kernel
theorem dX11_storeMessage_25 : decode cX11_storeMessage 25 = .ok (.sipush 331, 3) := by decide +kernel
theorem dX11_storeMessage_28 : decode cX11_storeMessage 28 = .ok (.bipush 7, 2) := by decide +kernel
theorem dX11_storeMessage_30 : decode cX11_storeMessage 30 = .ok (.iload_n 1, 1) := by decide +kernel
theorem dX11_storeMessage_31 : decode cX11_storeMessage 31 = .ok (.imul, 1) := by decide +kernel
theorem dX11_storeMessage_32 : decode cX11_storeMessage 32 = .ok (.iadd, 1) := by decide +kernel
theorem dX11_storeMessage_33 : decode cX11_storeMessage 33 = .ok (.iconst 1, 1) := by decide +kernel
theorem dX11_storeMessage_34 : decode cX11_storeMessage 34 = .ok (.iadd, 1) := by decide +kernel
theorem dX11_storeMessage_35 : decode cX11_storeMessage 35 = .ok (.aload_n 0, 1) := by decide +kernel
theorem dX11_storeMessage_36 : decode cX11_storeMessage 36 = .ok (.getfield 17, 3) := by decide +kernel
theorem dX11_storeMessage_39 : decode cX11_storeMessage 39 = .ok (.iconst 2, 1) := by decide +kernel
theorem dX11_storeMessage_40 : decode cX11_storeMessage 40 = .ok (.iaload, 1) := by decide +kernel
theorem dX11_storeMessage_41 : decode cX11_storeMessage 41 = .ok (.iastore, 1) := by decide +kernel
theorem dX11_storeMessage_42 : decode cX11_storeMessage 42 = .ok (.aload_n 0, 1) := by decide +kernel
theorem dX11_storeMessage_43 : decode cX11_storeMessage 43 = .ok (.getfield 17, 3) := by decide +kernel
theorem dX11_storeMessage_46 : decode cX11_storeMessage 46 = .ok (.sipush 331, 3) := by decide +kernel
theorem dX11_storeMessage_49 : decode cX11_storeMessage 49 = .ok (.bipush 7, 2) := by decide +kernel
theorem dX11_storeMessage_51 : decode cX11_storeMessage 51 = .ok (.iload_n 1, 1) := by decide +kernel
theorem dX11_storeMessage_52 : decode cX11_storeMessage 52 = .ok (.imul, 1) := by decide +kernel
theorem dX11_storeMessage_53 : decode cX11_storeMessage 53 = .ok (.iadd, 1) := by decide +kernel
theorem dX11_storeMessage_54 : decode cX11_storeMessage 54 = .ok (.iconst 2, 1) := by decide +kernel
theorem dX11_storeMessage_55 : decode cX11_storeMessage 55 = .ok (.iadd, 1) := by decide +kernel
theorem dX11_storeMessage_56 : decode cX11_storeMessage 56 = .ok (.aload_n 0, 1) := by decide +kernel
theorem dX11_storeMessage_57 : decode cX11_storeMessage 57 = .ok (.getfield 325, 3) := by decide +kernel
theorem dX11_storeMessage_60 : decode cX11_storeMessage 60 = .ok (.iastore, 1) := by decide +kernel
theorem dX11_storeMessage_61 : decode cX11_storeMessage 61 = .ok (.iconst 0, 1) := by decide +kernel
theorem dX11_storeMessage_62 : decode cX11_storeMessage 62 = .ok (.istore 5, 2) := by decide +kernel
theorem dX11_storeMessage_64 : decode cX11_storeMessage 64 = .ok (.iload 5, 2) := by decide +kernel
theorem dX11_storeMessage_66 : decode cX11_storeMessage 66 = .ok (.bipush 10, 2) := by decide +kernel
theorem dX11_storeMessage_68 : decode cX11_storeMessage 68 = .ok (.if_icmp .ge 94, 3) := by decide +kernel
theorem dX11_storeMessage_71 : decode cX11_storeMessage 71 = .ok (.aload_n 0, 1) := by decide +kernel
theorem dX11_storeMessage_72 : decode cX11_storeMessage 72 = .ok (.getfield 17, 3) := by decide +kernel
theorem dX11_storeMessage_75 : decode cX11_storeMessage 75 = .ok (.iload_n 1, 1) := by decide +kernel
theorem dX11_storeMessage_76 : decode cX11_storeMessage 76 = .ok (.iload 5, 2) := by decide +kernel
theorem dX11_storeMessage_78 : decode cX11_storeMessage 78 = .ok (.invokestatic 68, 3) := by decide +kernel
theorem dX11_storeMessage_81 : decode cX11_storeMessage 81 = .ok (.iconst 0, 1) := by decide +kernel
theorem dX11_storeMessage_82 : decode cX11_storeMessage 82 = .ok (.iadd, 1) := by decide +kernel
theorem dX11_storeMessage_83 : decode cX11_storeMessage 83 = .ok (.iload_n 3, 1) := by decide +kernel
theorem dX11_storeMessage_84 : decode cX11_storeMessage 84 = .ok (.iload 5, 2) := by decide +kernel
theorem dX11_storeMessage_86 : decode cX11_storeMessage 86 = .ok (.invokestatic 372, 3) := by decide +kernel
theorem dX11_storeMessage_89 : decode cX11_storeMessage 89 = .ok (.ifCond .eq 7, 3) := by decide +kernel
theorem dX11_storeMessage_92 : decode cX11_storeMessage 92 = .ok (.iconst 0, 1) := by decide +kernel
theorem dX11_storeMessage_93 : decode cX11_storeMessage 93 = .ok (.goto 4, 3) := by decide +kernel
theorem dX11_storeMessage_96 : decode cX11_storeMessage 96 = .ok (.iconst (-1), 1) := by decide +kernel
theorem dX11_storeMessage_97 : decode cX11_storeMessage 97 = .ok (.iastore, 1) := by decide +kernel
theorem dX11_storeMessage_98 : decode cX11_storeMessage 98 = .ok (.aload_n 0, 1) := by decide +kernel
theorem dX11_storeMessage_99 : decode cX11_storeMessage 99 = .ok (.getfield 17, 3) := by decide +kernel
theorem dX11_storeMessage_102 : decode cX11_storeMessage 102 = .ok (.iload_n 1, 1) := by decide +kernel
theorem dX11_storeMessage_103 : decode cX11_storeMessage 103 = .ok (.iload 5, 2) := by decide +kernel
theorem dX11_storeMessage_105 : decode cX11_storeMessage 105 = .ok (.invokestatic 68, 3) := by decide +kernel
theorem dX11_storeMessage_108 : decode cX11_storeMessage 108 = .ok (.iconst 1, 1) := by decide +kernel
theorem dX11_storeMessage_109 : decode cX11_storeMessage 109 = .ok (.iadd, 1) := by decide +kernel
theorem dX11_storeMessage_110 : decode cX11_storeMessage 110 = .ok (.iload 4, 2) := by decide +kernel
theorem dX11_storeMessage_112 : decode cX11_storeMessage 112 = .ok (.iconst (-1), 1) := by decide +kernel
theorem dX11_storeMessage_113 : decode cX11_storeMessage 113 = .ok (.if_icmp .ne 21, 3) := by decide +kernel
theorem dX11_storeMessage_116 : decode cX11_storeMessage 116 = .ok (.aload_n 0, 1) := by decide +kernel
theorem dX11_storeMessage_117 : decode cX11_storeMessage 117 = .ok (.getfield 17, 3) := by decide +kernel
theorem dX11_storeMessage_120 : decode cX11_storeMessage 120 = .ok (.bipush 83, 2) := by decide +kernel
theorem dX11_storeMessage_122 : decode cX11_storeMessage 122 = .ok (.bipush 8, 2) := by decide +kernel
theorem dX11_storeMessage_124 : decode cX11_storeMessage 124 = .ok (.iload 5, 2) := by decide +kernel
theorem dX11_storeMessage_126 : decode cX11_storeMessage 126 = .ok (.imul, 1) := by decide +kernel
theorem dX11_storeMessage_127 : decode cX11_storeMessage 127 = .ok (.iadd, 1) := by decide +kernel
theorem dX11_storeMessage_128 : decode cX11_storeMessage 128 = .ok (.iconst 0, 1) := by decide +kernel
theorem dX11_storeMessage_129 : decode cX11_storeMessage 129 = .ok (.iadd, 1) := by decide +kernel
theorem dX11_storeMessage_130 : decode cX11_storeMessage 130 = .ok (.iaload, 1) := by decide +kernel
theorem dX11_storeMessage_131 : decode cX11_storeMessage 131 = .ok (.goto 5, 3) := by decide +kernel
theorem dX11_storeMessage_134 : decode cX11_storeMessage 134 = .ok (.iload 4, 2) := by decide +kernel
theorem dX11_storeMessage_136 : decode cX11_storeMessage 136 = .ok (.iastore, 1) := by decide +kernel
theorem dX11_storeMessage_137 : decode cX11_storeMessage 137 = .ok (.aload_n 0, 1) := by decide +kernel
theorem dX11_storeMessage_138 : decode cX11_storeMessage 138 = .ok (.getfield 17, 3) := by decide +kernel
theorem dX11_storeMessage_141 : decode cX11_storeMessage 141 = .ok (.iload_n 1, 1) := by decide +kernel
theorem dX11_storeMessage_142 : decode cX11_storeMessage 142 = .ok (.iload 5, 2) := by decide +kernel
theorem dX11_storeMessage_144 : decode cX11_storeMessage 144 = .ok (.invokestatic 68, 3) := by decide +kernel
theorem dX11_storeMessage_147 : decode cX11_storeMessage 147 = .ok (.iconst 2, 1) := by decide +kernel
theorem dX11_storeMessage_148 : decode cX11_storeMessage 148 = .ok (.iadd, 1) := by decide +kernel
theorem dX11_storeMessage_149 : decode cX11_storeMessage 149 = .ok (.aload_n 0, 1) := by decide +kernel
theorem dX11_storeMessage_150 : decode cX11_storeMessage 150 = .ok (.getfield 17, 3) := by decide +kernel
theorem dX11_storeMessage_153 : decode cX11_storeMessage 153 = .ok (.iconst 2, 1) := by decide +kernel
theorem dX11_storeMessage_154 : decode cX11_storeMessage 154 = .ok (.iaload, 1) := by decide +kernel
theorem dX11_storeMessage_155 : decode cX11_storeMessage 155 = .ok (.iastore, 1) := by decide +kernel
theorem dX11_storeMessage_156 : decode cX11_storeMessage 156 = .ok (.iinc 5 1, 3) := by decide +kernel
theorem dX11_storeMessage_159 : decode cX11_storeMessage 159 = .ok (.goto (-95), 3) := by decide +kernel
theorem dX11_storeMessage_162 : decode cX11_storeMessage 162 = .ok (.aload_n 0, 1) := by decide +kernel
theorem dX11_storeMessage_163 : decode cX11_storeMessage 163 = .ok (.getfield 17, 3) := by decide +kernel
theorem dX11_storeMessage_166 : decode cX11_storeMessage 166 = .ok (.bipush 7, 2) := by decide +kernel
theorem dX11_storeMessage_168 : decode cX11_storeMessage 168 = .ok (.dup2, 1) := by decide +kernel
theorem dX11_storeMessage_169 : decode cX11_storeMessage 169 = .ok (.iaload, 1) := by decide +kernel
theorem dX11_storeMessage_170 : decode cX11_storeMessage 170 = .ok (.iconst 1, 1) := by decide +kernel
theorem dX11_storeMessage_171 : decode cX11_storeMessage 171 = .ok (.iadd, 1) := by decide +kernel
theorem dX11_storeMessage_172 : decode cX11_storeMessage 172 = .ok (.iastore, 1) := by decide +kernel
theorem dX11_storeMessage_173 : decode cX11_storeMessage 173 = .ok (.aload_n 0, 1) := by decide +kernel
theorem dX11_storeMessage_174 : decode cX11_storeMessage 174 = .ok (.iconst 1, 1) := by decide +kernel
theorem dX11_storeMessage_175 : decode cX11_storeMessage 175 = .ok (.iload_n 1, 1) := by decide +kernel
theorem dX11_storeMessage_176 : decode cX11_storeMessage 176 = .ok (.invokevirtual 315, 3) := by decide +kernel
theorem dX11_storeMessage_179 : decode cX11_storeMessage 179 = .ok (.return_, 1) := by decide +kernel
theorem dX11_bounced_0 : decode cX11_bounced 0 = .ok (.aload_n 0, 1) := by decide +kernel
theorem dX11_bounced_1 : decode cX11_bounced 1 = .ok (.iconst 0, 1) := by decide +kernel
theorem dX11_bounced_2 : decode cX11_bounced 2 = .ok (.putfield 3, 3) := by decide +kernel
theorem dX11_bounced_5 : decode cX11_bounced 5 = .ok (.aload_n 0, 1) := by decide +kernel
theorem dX11_bounced_6 : decode cX11_bounced 6 = .ok (.getfield 17, 3) := by decide +kernel
theorem dX11_bounced_9 : decode cX11_bounced 9 = .ok (.bipush 10, 2) := by decide +kernel
theorem dX11_bounced_11 : decode cX11_bounced 11 = .ok (.iaload, 1) := by decide +kernel
theorem dX11_bounced_12 : decode cX11_bounced 12 = .ok (.ireturn, 1) := by decide +kernel
theorem dX11_messageCount_0 : decode cX11_messageCount 0 = .ok (.aload_n 0, 1) := by decide +kernel
theorem dX11_messageCount_1 : decode cX11_messageCount 1 = .ok (.iconst 0, 1) := by decide +kernel
theorem dX11_messageCount_2 : decode cX11_messageCount 2 = .ok (.putfield 3, 3) := by decide +kernel
theorem dX11_messageCount_5 : decode cX11_messageCount 5 = .ok (.aload_n 0, 1) := by decide +kernel
theorem dX11_messageCount_6 : decode cX11_messageCount 6 = .ok (.getfield 17, 3) := by decide +kernel
theorem dX11_messageCount_9 : decode cX11_messageCount 9 = .ok (.bipush 7, 2) := by decide +kernel
theorem dX11_messageCount_11 : decode cX11_messageCount 11 = .ok (.iaload, 1) := by decide +kernel
theorem dX11_messageCount_12 : decode cX11_messageCount 12 = .ok (.ireturn, 1) := by decide +kernel
theorem dX11_message_0 : decode cX11_message 0 = .ok (.aload_n 0, 1) := by decide +kernel
theorem dX11_message_1 : decode cX11_message 1 = .ok (.aload_n 0, 1) := by decide +kernel
theorem dX11_message_2 : decode cX11_message 2 = .ok (.iload_n 1, 1) := by decide +kernel
theorem dX11_message_3 : decode cX11_message 3 = .ok (.invokevirtual 72, 3) := by decide +kernel
theorem dX11_message_6 : decode cX11_message 6 = .ok (.iload_n 2, 1) := by decide +kernel
theorem dX11_message_7 : decode cX11_message 7 = .ok (.i2l, 1) := by decide +kernel
theorem dX11_message_8 : decode cX11_message 8 = .ok (.lconst 0, 1) := by decide +kernel
theorem dX11_message_9 : decode cX11_message 9 = .ok (.ldc2_w 385, 3) := by decide +kernel
theorem dX11_message_12 : decode cX11_message 12 = .ok (.invokestatic 64, 3) := by decide +kernel
theorem dX11_message_15 : decode cX11_message 15 = .ok (.invokevirtual 267, 3) := by decide +kernel
theorem dX11_message_18 : decode cX11_message 18 = .ok (.ifCond .ne 5, 3) := by decide +kernel
theorem dX11_message_21 : decode cX11_message 21 = .ok (.iconst 0, 1) := by decide +kernel
theorem dX11_message_22 : decode cX11_message 22 = .ok (.ireturn, 1) := by decide +kernel
theorem dX11_message_23 : decode cX11_message 23 = .ok (.iload_n 2, 1) := by decide +kernel
theorem dX11_message_24 : decode cX11_message 24 = .ok (.iconst 3, 1) := by decide +kernel
theorem dX11_message_25 : decode cX11_message 25 = .ok (.if_icmp .ge 12, 3) := by decide +kernel
theorem dX11_message_28 : decode cX11_message 28 = .ok (.aload_n 0, 1) := by decide +kernel
theorem dX11_message_29 : decode cX11_message 29 = .ok (.iload_n 1, 1) := by decide +kernel
theorem dX11_message_30 : decode cX11_message 30 = .ok (.iload_n 2, 1) := by decide +kernel
theorem dX11_message_31 : decode cX11_message 31 = .ok (.invokevirtual 287, 3) := by decide +kernel
theorem dX11_message_34 : decode cX11_message 34 = .ok (.goto 29, 3) := by decide +kernel
theorem dX11_message_37 : decode cX11_message 37 = .ok (.iload_n 2, 1) := by decide +kernel
theorem dX11_message_38 : decode cX11_message 38 = .ok (.iconst 3, 1) := by decide +kernel
theorem dX11_message_39 : decode cX11_message 39 = .ok (.if_icmp .ne 11, 3) := by decide +kernel
theorem dX11_message_42 : decode cX11_message 42 = .ok (.aload_n 0, 1) := by decide +kernel
theorem dX11_message_43 : decode cX11_message 43 = .ok (.iload_n 1, 1) := by decide +kernel
theorem dX11_message_44 : decode cX11_message 44 = .ok (.invokevirtual 351, 3) := by decide +kernel
theorem dX11_message_47 : decode cX11_message 47 = .ok (.goto 16, 3) := by decide +kernel
theorem dX11_message_50 : decode cX11_message 50 = .ok (.aload_n 0, 1) := by decide +kernel
theorem dX11_message_51 : decode cX11_message 51 = .ok (.iload_n 1, 1) := by decide +kernel
theorem dX11_message_52 : decode cX11_message 52 = .ok (.invokevirtual 306, 3) := by decide +kernel
theorem dX11_message_55 : decode cX11_message 55 = .ok (.ifCond .eq 7, 3) := by decide +kernel
theorem dX11_message_58 : decode cX11_message 58 = .ok (.iconst 1, 1) := by decide +kernel
theorem dX11_message_59 : decode cX11_message 59 = .ok (.goto 4, 3) := by decide +kernel
theorem dX11_message_62 : decode cX11_message 62 = .ok (.iconst 0, 1) := by decide +kernel
theorem dX11_message_63 : decode cX11_message 63 = .ok (.ireturn, 1) := by decide +kernel
theorem dX11_partOf_0 : decode cX11_partOf 0 = .ok (.aload_n 0, 1) := by decide +kernel
theorem dX11_partOf_1 : decode cX11_partOf 1 = .ok (.aload_n 0, 1) := by decide +kernel
theorem dX11_partOf_2 : decode cX11_partOf 2 = .ok (.iload_n 1, 1) := by decide +kernel
theorem dX11_partOf_3 : decode cX11_partOf 3 = .ok (.invokevirtual 72, 3) := by decide +kernel
theorem dX11_partOf_6 : decode cX11_partOf 6 = .ok (.ifCond .eq 25, 3) := by decide +kernel
theorem dX11_partOf_9 : decode cX11_partOf 9 = .ok (.iload_n 2, 1) := by decide +kernel
theorem dX11_partOf_10 : decode cX11_partOf 10 = .ok (.i2l, 1) := by decide +kernel
theorem dX11_partOf_11 : decode cX11_partOf 11 = .ok (.lconst 0, 1) := by decide +kernel
theorem dX11_partOf_12 : decode cX11_partOf 12 = .ok (.aload_n 0, 1) := by decide +kernel
theorem dX11_partOf_13 : decode cX11_partOf 13 = .ok (.iload_n 1, 1) := by decide +kernel
theorem dX11_partOf_14 : decode cX11_partOf 14 = .ok (.iconst 2, 1) := by decide +kernel
theorem dX11_partOf_15 : decode cX11_partOf 15 = .ok (.invokevirtual 287, 3) := by decide +kernel
theorem dX11_partOf_18 : decode cX11_partOf 18 = .ok (.iconst 1, 1) := by decide +kernel
theorem dX11_partOf_19 : decode cX11_partOf 19 = .ok (.isub, 1) := by decide +kernel
theorem dX11_partOf_20 : decode cX11_partOf 20 = .ok (.i2l, 1) := by decide +kernel
theorem dX11_partOf_21 : decode cX11_partOf 21 = .ok (.invokestatic 64, 3) := by decide +kernel
theorem dX11_partOf_24 : decode cX11_partOf 24 = .ok (.ifCond .eq 7, 3) := by decide +kernel
theorem dX11_partOf_27 : decode cX11_partOf 27 = .ok (.iconst 1, 1) := by decide +kernel
theorem dX11_partOf_28 : decode cX11_partOf 28 = .ok (.goto 4, 3) := by decide +kernel
theorem dX11_partOf_31 : decode cX11_partOf 31 = .ok (.iconst 0, 1) := by decide +kernel
theorem dX11_partOf_32 : decode cX11_partOf 32 = .ok (.invokevirtual 94, 3) := by decide +kernel
theorem dX11_partOf_35 : decode cX11_partOf 35 = .ok (.ifCond .eq 14, 3) := by decide +kernel
theorem dX11_partOf_38 : decode cX11_partOf 38 = .ok (.aload_n 0, 1) := by decide +kernel
theorem dX11_partOf_39 : decode cX11_partOf 39 = .ok (.iload_n 1, 1) := by decide +kernel
theorem dX11_partOf_40 : decode cX11_partOf 40 = .ok (.iconst 3, 1) := by decide +kernel
theorem dX11_partOf_41 : decode cX11_partOf 41 = .ok (.iload_n 2, 1) := by decide +kernel
theorem dX11_partOf_42 : decode cX11_partOf 42 = .ok (.iadd, 1) := by decide +kernel
theorem dX11_partOf_43 : decode cX11_partOf 43 = .ok (.invokevirtual 287, 3) := by decide +kernel
theorem dX11_partOf_46 : decode cX11_partOf 46 = .ok (.goto 4, 3) := by decide +kernel
theorem dX11_partOf_49 : decode cX11_partOf 49 = .ok (.iconst 0, 1) := by decide +kernel
theorem dX11_partOf_50 : decode cX11_partOf 50 = .ok (.ireturn, 1) := by decide +kernel
theorem dX11_readers_0 : decode cX11_readers 0 = .ok (.aload_n 0, 1) := by decide +kernel
theorem dX11_readers_1 : decode cX11_readers 1 = .ok (.aload_n 0, 1) := by decide +kernel
theorem dX11_readers_2 : decode cX11_readers 2 = .ok (.iload_n 1, 1) := by decide +kernel
theorem dX11_readers_3 : decode cX11_readers 3 = .ok (.invokevirtual 72, 3) := by decide +kernel
theorem dX11_readers_6 : decode cX11_readers 6 = .ok (.invokevirtual 94, 3) := by decide +kernel
theorem dX11_readers_9 : decode cX11_readers 9 = .ok (.ifCond .ne 5, 3) := by decide +kernel
theorem dX11_readers_12 : decode cX11_readers 12 = .ok (.iconst 0, 1) := by decide +kernel
theorem dX11_readers_13 : decode cX11_readers 13 = .ok (.ireturn, 1) := by decide +kernel
theorem dX11_readers_14 : decode cX11_readers 14 = .ok (.iconst 0, 1) := by decide +kernel
theorem dX11_readers_15 : decode cX11_readers 15 = .ok (.istore_n 2, 1) := by decide +kernel
theorem dX11_readers_16 : decode cX11_readers 16 = .ok (.iconst 0, 1) := by decide +kernel
theorem dX11_readers_17 : decode cX11_readers 17 = .ok (.istore_n 3, 1) := by decide +kernel
theorem dX11_readers_18 : decode cX11_readers 18 = .ok (.iload_n 3, 1) := by decide +kernel
theorem dX11_readers_19 : decode cX11_readers 19 = .ok (.aload_n 0, 1) := by decide +kernel
theorem dX11_readers_20 : decode cX11_readers 20 = .ok (.getfield 17, 3) := by decide +kernel
theorem dX11_readers_23 : decode cX11_readers 23 = .ok (.iconst 4, 1) := by decide +kernel
theorem dX11_readers_24 : decode cX11_readers 24 = .ok (.iaload, 1) := by decide +kernel
theorem dX11_readers_25 : decode cX11_readers 25 = .ok (.if_icmp .ge 28, 3) := by decide +kernel
theorem dX11_readers_28 : decode cX11_readers 28 = .ok (.iload_n 2, 1) := by decide +kernel
theorem dX11_readers_29 : decode cX11_readers 29 = .ok (.aload_n 0, 1) := by decide +kernel
theorem dX11_readers_30 : decode cX11_readers 30 = .ok (.iload_n 1, 1) := by decide +kernel
theorem dX11_readers_31 : decode cX11_readers 31 = .ok (.iload_n 3, 1) := by decide +kernel
theorem dX11_readers_32 : decode cX11_readers 32 = .ok (.invokevirtual 348, 3) := by decide +kernel
theorem dX11_readers_35 : decode cX11_readers 35 = .ok (.ifCond .eq 9, 3) := by decide +kernel
theorem dX11_readers_38 : decode cX11_readers 38 = .ok (.iconst 1, 1) := by decide +kernel
theorem dX11_readers_39 : decode cX11_readers 39 = .ok (.iload_n 3, 1) := by decide +kernel
theorem dX11_readers_40 : decode cX11_readers 40 = .ok (.ishl, 1) := by decide +kernel
theorem dX11_readers_41 : decode cX11_readers 41 = .ok (.goto 4, 3) := by decide +kernel
theorem dX11_readers_44 : decode cX11_readers 44 = .ok (.iconst 0, 1) := by decide +kernel
theorem dX11_readers_45 : decode cX11_readers 45 = .ok (.ior, 1) := by decide +kernel
theorem dX11_readers_46 : decode cX11_readers 46 = .ok (.istore_n 2, 1) := by decide +kernel
theorem dX11_readers_47 : decode cX11_readers 47 = .ok (.iinc 3 1, 3) := by decide +kernel
theorem dX11_readers_50 : decode cX11_readers 50 = .ok (.goto (-32), 3) := by decide +kernel
theorem dX11_readers_53 : decode cX11_readers 53 = .ok (.iload_n 2, 1) := by decide +kernel
theorem dX11_readers_54 : decode cX11_readers 54 = .ok (.ireturn, 1) := by decide +kernel
theorem dX11_hidden_0 : decode cX11_hidden 0 = .ok (.aload_n 0, 1) := by decide +kernel
theorem dX11_hidden_1 : decode cX11_hidden 1 = .ok (.aload_n 0, 1) := by decide +kernel
theorem dX11_hidden_2 : decode cX11_hidden 2 = .ok (.iload_n 1, 1) := by decide +kernel
theorem dX11_hidden_3 : decode cX11_hidden 3 = .ok (.invokevirtual 72, 3) := by decide +kernel
theorem dX11_hidden_6 : decode cX11_hidden 6 = .ok (.invokevirtual 94, 3) := by decide +kernel
theorem dX11_hidden_9 : decode cX11_hidden 9 = .ok (.ifCond .ne 5, 3) := by decide +kernel
theorem dX11_hidden_12 : decode cX11_hidden 12 = .ok (.iconst 0, 1) := by decide +kernel
theorem dX11_hidden_13 : decode cX11_hidden 13 = .ok (.ireturn, 1) := by decide +kernel
theorem dX11_hidden_14 : decode cX11_hidden 14 = .ok (.iconst 0, 1) := by decide +kernel
theorem dX11_hidden_15 : decode cX11_hidden 15 = .ok (.istore_n 2, 1) := by decide +kernel
theorem dX11_hidden_16 : decode cX11_hidden 16 = .ok (.iconst 0, 1) := by decide +kernel
theorem dX11_hidden_17 : decode cX11_hidden 17 = .ok (.istore_n 3, 1) := by decide +kernel
theorem dX11_hidden_18 : decode cX11_hidden 18 = .ok (.iload_n 3, 1) := by decide +kernel
theorem dX11_hidden_19 : decode cX11_hidden 19 = .ok (.aload_n 0, 1) := by decide +kernel
theorem dX11_hidden_20 : decode cX11_hidden 20 = .ok (.getfield 17, 3) := by decide +kernel
theorem dX11_hidden_23 : decode cX11_hidden 23 = .ok (.iconst 4, 1) := by decide +kernel
theorem dX11_hidden_24 : decode cX11_hidden 24 = .ok (.iaload, 1) := by decide +kernel
theorem dX11_hidden_25 : decode cX11_hidden 25 = .ok (.if_icmp .ge 28, 3) := by decide +kernel
theorem dX11_hidden_28 : decode cX11_hidden 28 = .ok (.iload_n 2, 1) := by decide +kernel
theorem dX11_hidden_29 : decode cX11_hidden 29 = .ok (.aload_n 0, 1) := by decide +kernel
theorem dX11_hidden_30 : decode cX11_hidden 30 = .ok (.iload_n 1, 1) := by decide +kernel
theorem dX11_hidden_31 : decode cX11_hidden 31 = .ok (.iload_n 3, 1) := by decide +kernel
theorem dX11_hidden_32 : decode cX11_hidden 32 = .ok (.invokevirtual 387, 3) := by decide +kernel
theorem dX11_hidden_35 : decode cX11_hidden 35 = .ok (.ifCond .eq 9, 3) := by decide +kernel
theorem dX11_hidden_38 : decode cX11_hidden 38 = .ok (.iconst 1, 1) := by decide +kernel
theorem dX11_hidden_39 : decode cX11_hidden 39 = .ok (.iload_n 3, 1) := by decide +kernel
theorem dX11_hidden_40 : decode cX11_hidden 40 = .ok (.ishl, 1) := by decide +kernel
theorem dX11_hidden_41 : decode cX11_hidden 41 = .ok (.goto 4, 3) := by decide +kernel
theorem dX11_hidden_44 : decode cX11_hidden 44 = .ok (.iconst 0, 1) := by decide +kernel
theorem dX11_hidden_45 : decode cX11_hidden 45 = .ok (.ior, 1) := by decide +kernel
theorem dX11_hidden_46 : decode cX11_hidden 46 = .ok (.istore_n 2, 1) := by decide +kernel
theorem dX11_hidden_47 : decode cX11_hidden 47 = .ok (.iinc 3 1, 3) := by decide +kernel
theorem dX11_hidden_50 : decode cX11_hidden 50 = .ok (.goto (-32), 3) := by decide +kernel
theorem dX11_hidden_53 : decode cX11_hidden 53 = .ok (.iload_n 2, 1) := by decide +kernel
theorem dX11_hidden_54 : decode cX11_hidden 54 = .ok (.ireturn, 1) := by decide +kernel
theorem dX11_refValue_0 : decode cX11_refValue 0 = .ok (.aload_n 0, 1) := by decide +kernel
theorem dX11_refValue_1 : decode cX11_refValue 1 = .ok (.aload_n 0, 1) := by decide +kernel
theorem dX11_refValue_2 : decode cX11_refValue 2 = .ok (.iload_n 1, 1) := by decide +kernel
theorem dX11_refValue_3 : decode cX11_refValue 3 = .ok (.iload_n 2, 1) := by decide +kernel
theorem dX11_refValue_4 : decode cX11_refValue 4 = .ok (.invokevirtual 390, 3) := by decide +kernel
theorem dX11_refValue_7 : decode cX11_refValue 7 = .ok (.invokevirtual 94, 3) := by decide +kernel
theorem dX11_refValue_10 : decode cX11_refValue 10 = .ok (.ifCond .eq 18, 3) := by decide +kernel
theorem dX11_refValue_13 : decode cX11_refValue 13 = .ok (.aload_n 0, 1) := by decide +kernel
theorem dX11_refValue_14 : decode cX11_refValue 14 = .ok (.getfield 17, 3) := by decide +kernel
theorem dX11_refValue_17 : decode cX11_refValue 17 = .ok (.iload_n 1, 1) := by decide +kernel
theorem dX11_refValue_18 : decode cX11_refValue 18 = .ok (.iload_n 2, 1) := by decide +kernel
theorem dX11_refValue_19 : decode cX11_refValue 19 = .ok (.invokestatic 68, 3) := by decide +kernel
theorem dX11_refValue_22 : decode cX11_refValue 22 = .ok (.iload_n 3, 1) := by decide +kernel
theorem dX11_refValue_23 : decode cX11_refValue 23 = .ok (.iadd, 1) := by decide +kernel
theorem dX11_refValue_24 : decode cX11_refValue 24 = .ok (.iaload, 1) := by decide +kernel
theorem dX11_refValue_25 : decode cX11_refValue 25 = .ok (.goto 4, 3) := by decide +kernel
theorem dX11_refValue_28 : decode cX11_refValue 28 = .ok (.iconst 0, 1) := by decide +kernel
theorem dX11_refValue_29 : decode cX11_refValue 29 = .ok (.ireturn, 1) := by decide +kernel
theorem dX11_state_0 : decode cX11_state 0 = .ok (.aload_n 0, 1) := by decide +kernel
theorem dX11_state_1 : decode cX11_state 1 = .ok (.iload_n 1, 1) := by decide +kernel
theorem dX11_state_2 : decode cX11_state 2 = .ok (.iload_n 2, 1) := by decide +kernel
theorem dX11_state_3 : decode cX11_state 3 = .ok (.iconst 0, 1) := by decide +kernel
theorem dX11_state_4 : decode cX11_state 4 = .ok (.invokevirtual 393, 3) := by decide +kernel
theorem dX11_state_7 : decode cX11_state 7 = .ok (.ireturn, 1) := by decide +kernel
theorem dX11_classOf_0 : decode cX11_classOf 0 = .ok (.aload_n 0, 1) := by decide +kernel
theorem dX11_classOf_1 : decode cX11_classOf 1 = .ok (.iload_n 1, 1) := by decide +kernel
theorem dX11_classOf_2 : decode cX11_classOf 2 = .ok (.iload_n 2, 1) := by decide +kernel
theorem dX11_classOf_3 : decode cX11_classOf 3 = .ok (.iconst 1, 1) := by decide +kernel
theorem dX11_classOf_4 : decode cX11_classOf 4 = .ok (.invokevirtual 393, 3) := by decide +kernel
theorem dX11_classOf_7 : decode cX11_classOf 7 = .ok (.ireturn, 1) := by decide +kernel
theorem dX11_enteredOn_0 : decode cX11_enteredOn 0 = .ok (.aload_n 0, 1) := by decide +kernel
theorem dX11_enteredOn_1 : decode cX11_enteredOn 1 = .ok (.iload_n 1, 1) := by decide +kernel
theorem dX11_enteredOn_2 : decode cX11_enteredOn 2 = .ok (.iload_n 2, 1) := by decide +kernel
theorem dX11_enteredOn_3 : decode cX11_enteredOn 3 = .ok (.iconst 2, 1) := by decide +kernel
theorem dX11_enteredOn_4 : decode cX11_enteredOn 4 = .ok (.invokevirtual 393, 3) := by decide +kernel
theorem dX11_enteredOn_7 : decode cX11_enteredOn 7 = .ok (.ireturn, 1) := by decide +kernel
theorem dX11_expiresOn_0 : decode cX11_expiresOn 0 = .ok (.aload_n 0, 1) := by decide +kernel
theorem dX11_expiresOn_1 : decode cX11_expiresOn 1 = .ok (.aload_n 0, 1) := by decide +kernel
theorem dX11_expiresOn_2 : decode cX11_expiresOn 2 = .ok (.iload_n 1, 1) := by decide +kernel
theorem dX11_expiresOn_3 : decode cX11_expiresOn 3 = .ok (.iload_n 2, 1) := by decide +kernel
theorem dX11_expiresOn_4 : decode cX11_expiresOn 4 = .ok (.invokevirtual 390, 3) := by decide +kernel
theorem dX11_expiresOn_7 : decode cX11_expiresOn 7 = .ok (.invokevirtual 94, 3) := by decide +kernel
theorem dX11_expiresOn_10 : decode cX11_expiresOn 10 = .ok (.ifCond .ne 5, 3) := by decide +kernel
theorem dX11_expiresOn_13 : decode cX11_expiresOn 13 = .ok (.iconst 0, 1) := by decide +kernel
theorem dX11_expiresOn_14 : decode cX11_expiresOn 14 = .ok (.ireturn, 1) := by decide +kernel
theorem dX11_expiresOn_15 : decode cX11_expiresOn 15 = .ok (.aload_n 0, 1) := by decide +kernel
theorem dX11_expiresOn_16 : decode cX11_expiresOn 16 = .ok (.getfield 17, 3) := by decide +kernel
theorem dX11_expiresOn_19 : decode cX11_expiresOn 19 = .ok (.iload_n 1, 1) := by decide +kernel
theorem dX11_expiresOn_20 : decode cX11_expiresOn 20 = .ok (.iload_n 2, 1) := by decide +kernel
theorem dX11_expiresOn_21 : decode cX11_expiresOn 21 = .ok (.invokestatic 68, 3) := by decide +kernel
theorem dX11_expiresOn_24 : decode cX11_expiresOn 24 = .ok (.iconst 1, 1) := by decide +kernel
theorem dX11_expiresOn_25 : decode cX11_expiresOn 25 = .ok (.iadd, 1) := by decide +kernel
theorem dX11_expiresOn_26 : decode cX11_expiresOn 26 = .ok (.iaload, 1) := by decide +kernel
theorem dX11_expiresOn_27 : decode cX11_expiresOn 27 = .ok (.istore_n 3, 1) := by decide +kernel
theorem dX11_expiresOn_28 : decode cX11_expiresOn 28 = .ok (.aload_n 0, 1) := by decide +kernel
theorem dX11_expiresOn_29 : decode cX11_expiresOn 29 = .ok (.iload_n 1, 1) := by decide +kernel
theorem dX11_expiresOn_30 : decode cX11_expiresOn 30 = .ok (.iload_n 2, 1) := by decide +kernel
theorem dX11_expiresOn_31 : decode cX11_expiresOn 31 = .ok (.invokevirtual 348, 3) := by decide +kernel
theorem dX11_expiresOn_34 : decode cX11_expiresOn 34 = .ok (.ifCond .eq 12, 3) := by decide +kernel
theorem dX11_expiresOn_37 : decode cX11_expiresOn 37 = .ok (.aload_n 0, 1) := by decide +kernel
theorem dX11_expiresOn_38 : decode cX11_expiresOn 38 = .ok (.iload_n 3, 1) := by decide +kernel
theorem dX11_expiresOn_39 : decode cX11_expiresOn 39 = .ok (.invokevirtual 274, 3) := by decide +kernel
theorem dX11_expiresOn_42 : decode cX11_expiresOn 42 = .ok (.iconst (-1), 1) := by decide +kernel
theorem dX11_expiresOn_43 : decode cX11_expiresOn 43 = .ok (.if_icmp .ne 5, 3) := by decide +kernel
theorem dX11_expiresOn_46 : decode cX11_expiresOn 46 = .ok (.iconst (-1), 1) := by decide +kernel
theorem dX11_expiresOn_47 : decode cX11_expiresOn 47 = .ok (.ireturn, 1) := by decide +kernel
theorem dX11_expiresOn_48 : decode cX11_expiresOn 48 = .ok (.iconst 0, 1) := by decide +kernel
theorem dX11_expiresOn_49 : decode cX11_expiresOn 49 = .ok (.aload_n 0, 1) := by decide +kernel
theorem dX11_expiresOn_50 : decode cX11_expiresOn 50 = .ok (.getfield 17, 3) := by decide +kernel
theorem dX11_expiresOn_53 : decode cX11_expiresOn 53 = .ok (.iconst 2, 1) := by decide +kernel
theorem dX11_expiresOn_54 : decode cX11_expiresOn 54 = .ok (.iaload, 1) := by decide +kernel
theorem dX11_expiresOn_55 : decode cX11_expiresOn 55 = .ok (.iconst 1, 1) := by decide +kernel
theorem dX11_expiresOn_56 : decode cX11_expiresOn 56 = .ok (.iadd, 1) := by decide +kernel
theorem dX11_expiresOn_57 : decode cX11_expiresOn 57 = .ok (.aload_n 0, 1) := by decide +kernel
theorem dX11_expiresOn_58 : decode cX11_expiresOn 58 = .ok (.getfield 17, 3) := by decide +kernel
theorem dX11_expiresOn_61 : decode cX11_expiresOn 61 = .ok (.iload_n 1, 1) := by decide +kernel
theorem dX11_expiresOn_62 : decode cX11_expiresOn 62 = .ok (.iload_n 2, 1) := by decide +kernel
theorem dX11_expiresOn_63 : decode cX11_expiresOn 63 = .ok (.invokestatic 68, 3) := by decide +kernel
theorem dX11_expiresOn_66 : decode cX11_expiresOn 66 = .ok (.iconst 2, 1) := by decide +kernel
theorem dX11_expiresOn_67 : decode cX11_expiresOn 67 = .ok (.iadd, 1) := by decide +kernel
theorem dX11_expiresOn_68 : decode cX11_expiresOn 68 = .ok (.iaload, 1) := by decide +kernel
theorem dX11_expiresOn_69 : decode cX11_expiresOn 69 = .ok (.isub, 1) := by decide +kernel
theorem dX11_expiresOn_70 : decode cX11_expiresOn 70 = .ok (.aload_n 0, 1) := by decide +kernel
theorem dX11_expiresOn_71 : decode cX11_expiresOn 71 = .ok (.iload_n 3, 1) := by decide +kernel
theorem dX11_expiresOn_72 : decode cX11_expiresOn 72 = .ok (.iconst 0, 1) := by decide +kernel
theorem dX11_expiresOn_73 : decode cX11_expiresOn 73 = .ok (.invokevirtual 271, 3) := by decide +kernel
theorem dX11_expiresOn_76 : decode cX11_expiresOn 76 = .ok (.isub, 1) := by decide +kernel
theorem dX11_expiresOn_77 : decode cX11_expiresOn 77 = .ok (.invokestatic 397, 3) := by decide +kernel
theorem dX11_expiresOn_80 : decode cX11_expiresOn 80 = .ok (.istore 4, 2) := by decide +kernel
theorem dX11_expiresOn_82 : decode cX11_expiresOn 82 = .ok (.aload_n 0, 1) := by decide +kernel
theorem dX11_expiresOn_83 : decode cX11_expiresOn 83 = .ok (.getfield 17, 3) := by decide +kernel
theorem dX11_expiresOn_86 : decode cX11_expiresOn 86 = .ok (.iload_n 1, 1) := by decide +kernel
theorem dX11_expiresOn_87 : decode cX11_expiresOn 87 = .ok (.iload_n 2, 1) := by decide +kernel
theorem dX11_expiresOn_88 : decode cX11_expiresOn 88 = .ok (.invokestatic 68, 3) := by decide +kernel
theorem dX11_expiresOn_91 : decode cX11_expiresOn 91 = .ok (.iconst 2, 1) := by decide +kernel
theorem dX11_expiresOn_92 : decode cX11_expiresOn 92 = .ok (.iadd, 1) := by decide +kernel
theorem dX11_expiresOn_93 : decode cX11_expiresOn 93 = .ok (.iaload, 1) := by decide +kernel
theorem dX11_expiresOn_94 : decode cX11_expiresOn 94 = .ok (.iload 4, 2) := by decide +kernel
theorem dX11_expiresOn_96 : decode cX11_expiresOn 96 = .ok (.iadd, 1) := by decide +kernel
theorem dX11_expiresOn_97 : decode cX11_expiresOn 97 = .ok (.aload_n 0, 1) := by decide +kernel
theorem dX11_expiresOn_98 : decode cX11_expiresOn 98 = .ok (.iload_n 3, 1) := by decide +kernel
theorem dX11_expiresOn_99 : decode cX11_expiresOn 99 = .ok (.invokevirtual 274, 3) := by decide +kernel
theorem dX11_expiresOn_102 : decode cX11_expiresOn 102 = .ok (.iadd, 1) := by decide +kernel
theorem dX11_expiresOn_103 : decode cX11_expiresOn 103 = .ok (.ireturn, 1) := by decide +kernel
theorem dX11_isKeptRef_0 : decode cX11_isKeptRef 0 = .ok (.aload_n 0, 1) := by decide +kernel
theorem dX11_isKeptRef_1 : decode cX11_isKeptRef 1 = .ok (.getfield 17, 3) := by decide +kernel
theorem dX11_isKeptRef_4 : decode cX11_isKeptRef 4 = .ok (.iload_n 1, 1) := by decide +kernel
theorem dX11_isKeptRef_5 : decode cX11_isKeptRef 5 = .ok (.iload_n 2, 1) := by decide +kernel
theorem dX11_isKeptRef_6 : decode cX11_isKeptRef 6 = .ok (.invokestatic 68, 3) := by decide +kernel
theorem dX11_isKeptRef_9 : decode cX11_isKeptRef 9 = .ok (.iconst 1, 1) := by decide +kernel
theorem dX11_isKeptRef_10 : decode cX11_isKeptRef 10 = .ok (.iadd, 1) := by decide +kernel
theorem dX11_isKeptRef_11 : decode cX11_isKeptRef 11 = .ok (.iaload, 1) := by decide +kernel
theorem dX11_isKeptRef_12 : decode cX11_isKeptRef 12 = .ok (.istore_n 3, 1) := by decide +kernel
theorem dX11_isKeptRef_13 : decode cX11_isKeptRef 13 = .ok (.iconst 0, 1) := by decide +kernel
theorem dX11_isKeptRef_14 : decode cX11_isKeptRef 14 = .ok (.istore 4, 2) := by decide +kernel
theorem dX11_isKeptRef_16 : decode cX11_isKeptRef 16 = .ok (.iload_n 1, 1) := by decide +kernel
theorem dX11_isKeptRef_17 : decode cX11_isKeptRef 17 = .ok (.iconst 1, 1) := by decide +kernel
theorem dX11_isKeptRef_18 : decode cX11_isKeptRef 18 = .ok (.iadd, 1) := by decide +kernel
theorem dX11_isKeptRef_19 : decode cX11_isKeptRef 19 = .ok (.istore 5, 2) := by decide +kernel
theorem dX11_isKeptRef_21 : decode cX11_isKeptRef 21 = .ok (.iload 5, 2) := by decide +kernel
theorem dX11_isKeptRef_23 : decode cX11_isKeptRef 23 = .ok (.aload_n 0, 1) := by decide +kernel
theorem dX11_isKeptRef_24 : decode cX11_isKeptRef 24 = .ok (.getfield 17, 3) := by decide +kernel
theorem dX11_isKeptRef_27 : decode cX11_isKeptRef 27 = .ok (.bipush 7, 2) := by decide +kernel
theorem dX11_isKeptRef_29 : decode cX11_isKeptRef 29 = .ok (.iaload, 1) := by decide +kernel
theorem dX11_isKeptRef_30 : decode cX11_isKeptRef 30 = .ok (.if_icmp .ge 46, 3) := by decide +kernel
theorem dX11_isKeptRef_33 : decode cX11_isKeptRef 33 = .ok (.iload 4, 2) := by decide +kernel
theorem dX11_isKeptRef_35 : decode cX11_isKeptRef 35 = .ok (.aload_n 0, 1) := by decide +kernel
theorem dX11_isKeptRef_36 : decode cX11_isKeptRef 36 = .ok (.iload 5, 2) := by decide +kernel
theorem dX11_isKeptRef_38 : decode cX11_isKeptRef 38 = .ok (.iload_n 2, 1) := by decide +kernel
theorem dX11_isKeptRef_39 : decode cX11_isKeptRef 39 = .ok (.invokevirtual 348, 3) := by decide +kernel
theorem dX11_isKeptRef_42 : decode cX11_isKeptRef 42 = .ok (.ifCond .eq 24, 3) := by decide +kernel
theorem dX11_isKeptRef_45 : decode cX11_isKeptRef 45 = .ok (.aload_n 0, 1) := by decide +kernel
theorem dX11_isKeptRef_46 : decode cX11_isKeptRef 46 = .ok (.getfield 17, 3) := by decide +kernel
theorem dX11_isKeptRef_49 : decode cX11_isKeptRef 49 = .ok (.iload 5, 2) := by decide +kernel
theorem dX11_isKeptRef_51 : decode cX11_isKeptRef 51 = .ok (.iload_n 2, 1) := by decide +kernel
theorem dX11_isKeptRef_52 : decode cX11_isKeptRef 52 = .ok (.invokestatic 68, 3) := by decide +kernel
theorem dX11_isKeptRef_55 : decode cX11_isKeptRef 55 = .ok (.iconst 1, 1) := by decide +kernel
theorem dX11_isKeptRef_56 : decode cX11_isKeptRef 56 = .ok (.iadd, 1) := by decide +kernel
theorem dX11_isKeptRef_57 : decode cX11_isKeptRef 57 = .ok (.iaload, 1) := by decide +kernel
theorem dX11_isKeptRef_58 : decode cX11_isKeptRef 58 = .ok (.iload_n 3, 1) := by decide +kernel
theorem dX11_isKeptRef_59 : decode cX11_isKeptRef 59 = .ok (.if_icmp .ne 7, 3) := by decide +kernel
theorem dX11_isKeptRef_62 : decode cX11_isKeptRef 62 = .ok (.iconst 1, 1) := by decide +kernel
theorem dX11_isKeptRef_63 : decode cX11_isKeptRef 63 = .ok (.goto 4, 3) := by decide +kernel
theorem dX11_isKeptRef_66 : decode cX11_isKeptRef 66 = .ok (.iconst 0, 1) := by decide +kernel
theorem dX11_isKeptRef_67 : decode cX11_isKeptRef 67 = .ok (.iadd, 1) := by decide +kernel
theorem dX11_isKeptRef_68 : decode cX11_isKeptRef 68 = .ok (.istore 4, 2) := by decide +kernel
theorem dX11_isKeptRef_70 : decode cX11_isKeptRef 70 = .ok (.iinc 5 1, 3) := by decide +kernel
theorem dX11_isKeptRef_73 : decode cX11_isKeptRef 73 = .ok (.goto (-52), 3) := by decide +kernel
theorem dX11_isKeptRef_76 : decode cX11_isKeptRef 76 = .ok (.iload 4, 2) := by decide +kernel
theorem dX11_isKeptRef_78 : decode cX11_isKeptRef 78 = .ok (.aload_n 0, 1) := by decide +kernel
theorem dX11_isKeptRef_79 : decode cX11_isKeptRef 79 = .ok (.iload_n 3, 1) := by decide +kernel
theorem dX11_isKeptRef_80 : decode cX11_isKeptRef 80 = .ok (.iconst 1, 1) := by decide +kernel
theorem dX11_isKeptRef_81 : decode cX11_isKeptRef 81 = .ok (.invokevirtual 271, 3) := by decide +kernel
theorem dX11_isKeptRef_84 : decode cX11_isKeptRef 84 = .ok (.if_icmp .ge 7, 3) := by decide +kernel
theorem dX11_isKeptRef_87 : decode cX11_isKeptRef 87 = .ok (.iconst 1, 1) := by decide +kernel
theorem dX11_isKeptRef_88 : decode cX11_isKeptRef 88 = .ok (.goto 4, 3) := by decide +kernel
theorem dX11_isKeptRef_91 : decode cX11_isKeptRef 91 = .ok (.iconst 0, 1) := by decide +kernel
theorem dX11_isKeptRef_92 : decode cX11_isKeptRef 92 = .ok (.ireturn, 1) := by decide +kernel
theorem dX11_isKept_0 : decode cX11_isKept 0 = .ok (.aload_n 0, 1) := by decide +kernel
theorem dX11_isKept_1 : decode cX11_isKept 1 = .ok (.aload_n 0, 1) := by decide +kernel
theorem dX11_isKept_2 : decode cX11_isKept 2 = .ok (.iload_n 1, 1) := by decide +kernel
theorem dX11_isKept_3 : decode cX11_isKept 3 = .ok (.iload_n 2, 1) := by decide +kernel
theorem dX11_isKept_4 : decode cX11_isKept 4 = .ok (.invokevirtual 390, 3) := by decide +kernel
theorem dX11_isKept_7 : decode cX11_isKept 7 = .ok (.invokevirtual 94, 3) := by decide +kernel
theorem dX11_isKept_10 : decode cX11_isKept 10 = .ok (.ifCond .eq 25, 3) := by decide +kernel
theorem dX11_isKept_13 : decode cX11_isKept 13 = .ok (.aload_n 0, 1) := by decide +kernel
theorem dX11_isKept_14 : decode cX11_isKept 14 = .ok (.iload_n 1, 1) := by decide +kernel
theorem dX11_isKept_15 : decode cX11_isKept 15 = .ok (.iload_n 2, 1) := by decide +kernel
theorem dX11_isKept_16 : decode cX11_isKept 16 = .ok (.invokevirtual 348, 3) := by decide +kernel
theorem dX11_isKept_19 : decode cX11_isKept 19 = .ok (.ifCond .eq 16, 3) := by decide +kernel
theorem dX11_isKept_22 : decode cX11_isKept 22 = .ok (.aload_n 0, 1) := by decide +kernel
theorem dX11_isKept_23 : decode cX11_isKept 23 = .ok (.iload_n 1, 1) := by decide +kernel
theorem dX11_isKept_24 : decode cX11_isKept 24 = .ok (.iload_n 2, 1) := by decide +kernel
theorem dX11_isKept_25 : decode cX11_isKept 25 = .ok (.invokevirtual 400, 3) := by decide +kernel
theorem dX11_isKept_28 : decode cX11_isKept 28 = .ok (.ifCond .eq 7, 3) := by decide +kernel
theorem dX11_isKept_31 : decode cX11_isKept 31 = .ok (.iconst 1, 1) := by decide +kernel
theorem dX11_isKept_32 : decode cX11_isKept 32 = .ok (.goto 4, 3) := by decide +kernel
theorem dX11_isKept_35 : decode cX11_isKept 35 = .ok (.iconst 0, 1) := by decide +kernel
theorem dX11_isKept_36 : decode cX11_isKept 36 = .ok (.ireturn, 1) := by decide +kernel
theorem dX11_holdsOn_0 : decode cX11_holdsOn 0 = .ok (.aload_n 0, 1) := by decide +kernel
theorem dX11_holdsOn_1 : decode cX11_holdsOn 1 = .ok (.aload_n 0, 1) := by decide +kernel
theorem dX11_holdsOn_2 : decode cX11_holdsOn 2 = .ok (.iload_n 1, 1) := by decide +kernel
theorem dX11_holdsOn_3 : decode cX11_holdsOn 3 = .ok (.iload_n 2, 1) := by decide +kernel
theorem dX11_holdsOn_4 : decode cX11_holdsOn 4 = .ok (.invokevirtual 390, 3) := by decide +kernel
theorem dX11_holdsOn_7 : decode cX11_holdsOn 7 = .ok (.invokevirtual 94, 3) := by decide +kernel
theorem dX11_holdsOn_10 : decode cX11_holdsOn 10 = .ok (.ifCond .eq 12, 3) := by decide +kernel
theorem dX11_holdsOn_13 : decode cX11_holdsOn 13 = .ok (.aload_n 0, 1) := by decide +kernel
theorem dX11_holdsOn_14 : decode cX11_holdsOn 14 = .ok (.iload_n 1, 1) := by decide +kernel
theorem dX11_holdsOn_15 : decode cX11_holdsOn 15 = .ok (.iload_n 2, 1) := by decide +kernel
theorem dX11_holdsOn_16 : decode cX11_holdsOn 16 = .ok (.invokevirtual 319, 3) := by decide +kernel
theorem dX11_holdsOn_19 : decode cX11_holdsOn 19 = .ok (.goto 4, 3) := by decide +kernel
theorem dX11_holdsOn_22 : decode cX11_holdsOn 22 = .ok (.iconst 0, 1) := by decide +kernel
theorem dX11_holdsOn_23 : decode cX11_holdsOn 23 = .ok (.ireturn, 1) := by decide +kernel
theorem dX11_storedParts_0 : decode cX11_storedParts 0 = .ok (.aload_n 0, 1) := by decide +kernel
theorem dX11_storedParts_1 : decode cX11_storedParts 1 = .ok (.iconst 0, 1) := by decide +kernel
theorem dX11_storedParts_2 : decode cX11_storedParts 2 = .ok (.putfield 3, 3) := by decide +kernel
theorem dX11_storedParts_5 : decode cX11_storedParts 5 = .ok (.iconst 0, 1) := by decide +kernel
theorem dX11_storedParts_6 : decode cX11_storedParts 6 = .ok (.istore_n 1, 1) := by decide +kernel
theorem dX11_storedParts_7 : decode cX11_storedParts 7 = .ok (.iconst 0, 1) := by decide +kernel
theorem dX11_storedParts_8 : decode cX11_storedParts 8 = .ok (.istore_n 2, 1) := by decide +kernel
theorem dX11_storedParts_9 : decode cX11_storedParts 9 = .ok (.iload_n 2, 1) := by decide +kernel
theorem dX11_storedParts_10 : decode cX11_storedParts 10 = .ok (.aload_n 0, 1) := by decide +kernel
theorem dX11_storedParts_11 : decode cX11_storedParts 11 = .ok (.getfield 17, 3) := by decide +kernel
theorem dX11_storedParts_14 : decode cX11_storedParts 14 = .ok (.bipush 8, 2) := by decide +kernel
theorem dX11_storedParts_16 : decode cX11_storedParts 16 = .ok (.iaload, 1) := by decide +kernel
theorem dX11_storedParts_17 : decode cX11_storedParts 17 = .ok (.if_icmp .ge 25, 3) := by decide +kernel
theorem dX11_storedParts_20 : decode cX11_storedParts 20 = .ok (.iload_n 1, 1) := by decide +kernel
theorem dX11_storedParts_21 : decode cX11_storedParts 21 = .ok (.aload_n 0, 1) := by decide +kernel
theorem dX11_storedParts_22 : decode cX11_storedParts 22 = .ok (.iload_n 2, 1) := by decide +kernel
theorem dX11_storedParts_23 : decode cX11_storedParts 23 = .ok (.invokevirtual 336, 3) := by decide +kernel
theorem dX11_storedParts_26 : decode cX11_storedParts 26 = .ok (.ifCond .eq 7, 3) := by decide +kernel
theorem dX11_storedParts_29 : decode cX11_storedParts 29 = .ok (.iconst 1, 1) := by decide +kernel
theorem dX11_storedParts_30 : decode cX11_storedParts 30 = .ok (.goto 4, 3) := by decide +kernel
theorem dX11_storedParts_33 : decode cX11_storedParts 33 = .ok (.iconst 0, 1) := by decide +kernel
theorem dX11_storedParts_34 : decode cX11_storedParts 34 = .ok (.iadd, 1) := by decide +kernel
theorem dX11_storedParts_35 : decode cX11_storedParts 35 = .ok (.istore_n 1, 1) := by decide +kernel
theorem dX11_storedParts_36 : decode cX11_storedParts 36 = .ok (.iinc 2 1, 3) := by decide +kernel
theorem dX11_storedParts_39 : decode cX11_storedParts 39 = .ok (.goto (-30), 3) := by decide +kernel
theorem dX11_storedParts_42 : decode cX11_storedParts 42 = .ok (.iload_n 1, 1) := by decide +kernel
theorem dX11_storedParts_43 : decode cX11_storedParts 43 = .ok (.ireturn, 1) := by decide +kernel
theorem dX11_storedPart_0 : decode cX11_storedPart 0 = .ok (.iload_n 1, 1) := by decide +kernel
theorem dX11_storedPart_1 : decode cX11_storedPart 1 = .ok (.istore_n 2, 1) := by decide +kernel
theorem dX11_storedPart_2 : decode cX11_storedPart 2 = .ok (.iconst 0, 1) := by decide +kernel
theorem dX11_storedPart_3 : decode cX11_storedPart 3 = .ok (.istore_n 3, 1) := by decide +kernel
theorem dX11_storedPart_4 : decode cX11_storedPart 4 = .ok (.iload_n 3, 1) := by decide +kernel
theorem dX11_storedPart_5 : decode cX11_storedPart 5 = .ok (.aload_n 0, 1) := by decide +kernel
theorem dX11_storedPart_6 : decode cX11_storedPart 6 = .ok (.getfield 17, 3) := by decide +kernel
theorem dX11_storedPart_9 : decode cX11_storedPart 9 = .ok (.bipush 8, 2) := by decide +kernel
theorem dX11_storedPart_11 : decode cX11_storedPart 11 = .ok (.iaload, 1) := by decide +kernel
theorem dX11_storedPart_12 : decode cX11_storedPart 12 = .ok (.if_icmp .ge 34, 3) := by decide +kernel
theorem dX11_storedPart_15 : decode cX11_storedPart 15 = .ok (.aload_n 0, 1) := by decide +kernel
theorem dX11_storedPart_16 : decode cX11_storedPart 16 = .ok (.iload_n 3, 1) := by decide +kernel
theorem dX11_storedPart_17 : decode cX11_storedPart 17 = .ok (.invokevirtual 336, 3) := by decide +kernel
theorem dX11_storedPart_20 : decode cX11_storedPart 20 = .ok (.ifCond .ne 6, 3) := by decide +kernel
theorem dX11_storedPart_23 : decode cX11_storedPart 23 = .ok (.goto 17, 3) := by decide +kernel
theorem dX11_storedPart_26 : decode cX11_storedPart 26 = .ok (.iload_n 2, 1) := by decide +kernel
theorem dX11_storedPart_27 : decode cX11_storedPart 27 = .ok (.ifCond .ne 10, 3) := by decide +kernel
theorem dX11_storedPart_30 : decode cX11_storedPart 30 = .ok (.aload_n 0, 1) := by decide +kernel
theorem dX11_storedPart_31 : decode cX11_storedPart 31 = .ok (.iconst 0, 1) := by decide +kernel
theorem dX11_storedPart_32 : decode cX11_storedPart 32 = .ok (.putfield 3, 3) := by decide +kernel
theorem dX11_storedPart_35 : decode cX11_storedPart 35 = .ok (.iload_n 3, 1) := by decide +kernel
theorem dX11_storedPart_36 : decode cX11_storedPart 36 = .ok (.ireturn, 1) := by decide +kernel
theorem dX11_storedPart_37 : decode cX11_storedPart 37 = .ok (.iinc 2 (-1), 3) := by decide +kernel
theorem dX11_storedPart_40 : decode cX11_storedPart 40 = .ok (.iinc 3 1, 3) := by decide +kernel
theorem dX11_storedPart_43 : decode cX11_storedPart 43 = .ok (.goto (-39), 3) := by decide +kernel
theorem dX11_storedPart_46 : decode cX11_storedPart 46 = .ok (.aload_n 0, 1) := by decide +kernel
theorem dX11_storedPart_47 : decode cX11_storedPart 47 = .ok (.iconst 1, 1) := by decide +kernel
theorem dX11_storedPart_48 : decode cX11_storedPart 48 = .ok (.putfield 3, 3) := by decide +kernel
theorem dX11_storedPart_51 : decode cX11_storedPart 51 = .ok (.iconst 0, 1) := by decide +kernel
theorem dX11_storedPart_52 : decode cX11_storedPart 52 = .ok (.ireturn, 1) := by decide +kernel
theorem dX11_firstWith_0 : decode cX11_firstWith 0 = .ok (.iconst 0, 1) := by decide +kernel
theorem dX11_firstWith_1 : decode cX11_firstWith 1 = .ok (.istore_n 2, 1) := by decide +kernel
theorem dX11_firstWith_2 : decode cX11_firstWith 2 = .ok (.aload_n 0, 1) := by decide +kernel
theorem dX11_firstWith_3 : decode cX11_firstWith 3 = .ok (.iload_n 2, 1) := by decide +kernel
theorem dX11_firstWith_4 : decode cX11_firstWith 4 = .ok (.iload_n 1, 1) := by decide +kernel
theorem dX11_firstWith_5 : decode cX11_firstWith 5 = .ok (.invokevirtual 303, 3) := by decide +kernel
theorem dX11_firstWith_8 : decode cX11_firstWith 8 = .ok (.ifCond .ne 9, 3) := by decide +kernel
theorem dX11_firstWith_11 : decode cX11_firstWith 11 = .ok (.iinc 2 1, 3) := by decide +kernel
theorem dX11_firstWith_14 : decode cX11_firstWith 14 = .ok (.goto (-12), 3) := by decide +kernel
theorem dX11_firstWith_17 : decode cX11_firstWith 17 = .ok (.iload_n 2, 1) := by decide +kernel
theorem dX11_firstWith_18 : decode cX11_firstWith 18 = .ok (.ireturn, 1) := by decide +kernel
theorem dX11_part_0 : decode cX11_part 0 = .ok (.aload_n 0, 1) := by decide +kernel
theorem dX11_part_1 : decode cX11_part 1 = .ok (.aload_n 0, 1) := by decide +kernel
theorem dX11_part_2 : decode cX11_part 2 = .ok (.iload_n 1, 1) := by decide +kernel
theorem dX11_part_3 : decode cX11_part 3 = .ok (.invokevirtual 336, 3) := by decide +kernel
theorem dX11_part_6 : decode cX11_part 6 = .ok (.iload_n 2, 1) := by decide +kernel
theorem dX11_part_7 : decode cX11_part 7 = .ok (.i2l, 1) := by decide +kernel
theorem dX11_part_8 : decode cX11_part 8 = .ok (.lconst 0, 1) := by decide +kernel
theorem dX11_part_9 : decode cX11_part 9 = .ok (.ldc2_w 259, 3) := by decide +kernel
theorem dX11_part_12 : decode cX11_part 12 = .ok (.invokestatic 64, 3) := by decide +kernel
theorem dX11_part_15 : decode cX11_part 15 = .ok (.invokevirtual 267, 3) := by decide +kernel
theorem dX11_part_18 : decode cX11_part 18 = .ok (.ifCond .ne 5, 3) := by decide +kernel
theorem dX11_part_21 : decode cX11_part 21 = .ok (.iconst 0, 1) := by decide +kernel
theorem dX11_part_22 : decode cX11_part 22 = .ok (.ireturn, 1) := by decide +kernel
theorem dX11_part_23 : decode cX11_part 23 = .ok (.iload_n 2, 1) := by decide +kernel
theorem dX11_part_24 : decode cX11_part 24 = .ok (.ifCond .ne 12, 3) := by decide +kernel
theorem dX11_part_27 : decode cX11_part 27 = .ok (.aload_n 0, 1) := by decide +kernel
theorem dX11_part_28 : decode cX11_part 28 = .ok (.iload_n 1, 1) := by decide +kernel
theorem dX11_part_29 : decode cX11_part 29 = .ok (.iconst 0, 1) := by decide +kernel
theorem dX11_part_30 : decode cX11_part 30 = .ok (.invokevirtual 84, 3) := by decide +kernel
theorem dX11_part_33 : decode cX11_part 33 = .ok (.goto 35, 3) := by decide +kernel
theorem dX11_part_36 : decode cX11_part 36 = .ok (.iload_n 2, 1) := by decide +kernel
theorem dX11_part_37 : decode cX11_part 37 = .ok (.iconst 1, 1) := by decide +kernel
theorem dX11_part_38 : decode cX11_part 38 = .ok (.if_icmp .ne 11, 3) := by decide +kernel
theorem dX11_part_41 : decode cX11_part 41 = .ok (.aload_n 0, 1) := by decide +kernel
theorem dX11_part_42 : decode cX11_part 42 = .ok (.iload_n 1, 1) := by decide +kernel
theorem dX11_part_43 : decode cX11_part 43 = .ok (.invokevirtual 312, 3) := by decide +kernel
theorem dX11_part_46 : decode cX11_part 46 = .ok (.goto 22, 3) := by decide +kernel
theorem dX11_part_49 : decode cX11_part 49 = .ok (.iload_n 2, 1) := by decide +kernel
theorem dX11_part_50 : decode cX11_part 50 = .ok (.iconst 2, 1) := by decide +kernel
theorem dX11_part_51 : decode cX11_part 51 = .ok (.if_icmp .ne 12, 3) := by decide +kernel
theorem dX11_part_54 : decode cX11_part 54 = .ok (.aload_n 0, 1) := by decide +kernel
theorem dX11_part_55 : decode cX11_part 55 = .ok (.iload_n 1, 1) := by decide +kernel
theorem dX11_part_56 : decode cX11_part 56 = .ok (.iconst 2, 1) := by decide +kernel
theorem dX11_part_57 : decode cX11_part 57 = .ok (.invokevirtual 84, 3) := by decide +kernel
theorem dX11_part_60 : decode cX11_part 60 = .ok (.goto 8, 3) := by decide +kernel
theorem dX11_part_63 : decode cX11_part 63 = .ok (.aload_n 0, 1) := by decide +kernel
theorem dX11_part_64 : decode cX11_part 64 = .ok (.iload_n 1, 1) := by decide +kernel
theorem dX11_part_65 : decode cX11_part 65 = .ok (.invokevirtual 403, 3) := by decide +kernel
theorem dX11_part_68 : decode cX11_part 68 = .ok (.ireturn, 1) := by decide +kernel
theorem dX11_partByte_0 : decode cX11_partByte 0 = .ok (.aload_n 0, 1) := by decide +kernel
theorem dX11_partByte_1 : decode cX11_partByte 1 = .ok (.aload_n 0, 1) := by decide +kernel
theorem dX11_partByte_2 : decode cX11_partByte 2 = .ok (.iload_n 1, 1) := by decide +kernel
theorem dX11_partByte_3 : decode cX11_partByte 3 = .ok (.invokevirtual 336, 3) := by decide +kernel
theorem dX11_partByte_6 : decode cX11_partByte 6 = .ok (.aload_n 0, 1) := by decide +kernel
theorem dX11_partByte_7 : decode cX11_partByte 7 = .ok (.iload_n 1, 1) := by decide +kernel
theorem dX11_partByte_8 : decode cX11_partByte 8 = .ok (.invokevirtual 336, 3) := by decide +kernel
theorem dX11_partByte_11 : decode cX11_partByte 11 = .ok (.ifCond .eq 21, 3) := by decide +kernel
theorem dX11_partByte_14 : decode cX11_partByte 14 = .ok (.iload_n 2, 1) := by decide +kernel
theorem dX11_partByte_15 : decode cX11_partByte 15 = .ok (.i2l, 1) := by decide +kernel
theorem dX11_partByte_16 : decode cX11_partByte 16 = .ok (.lconst 0, 1) := by decide +kernel
theorem dX11_partByte_17 : decode cX11_partByte 17 = .ok (.aload_n 0, 1) := by decide +kernel
theorem dX11_partByte_18 : decode cX11_partByte 18 = .ok (.iload_n 1, 1) := by decide +kernel
theorem dX11_partByte_19 : decode cX11_partByte 19 = .ok (.iconst 0, 1) := by decide +kernel
theorem dX11_partByte_20 : decode cX11_partByte 20 = .ok (.invokevirtual 84, 3) := by decide +kernel
theorem dX11_partByte_23 : decode cX11_partByte 23 = .ok (.iconst 1, 1) := by decide +kernel
theorem dX11_partByte_24 : decode cX11_partByte 24 = .ok (.isub, 1) := by decide +kernel
theorem dX11_partByte_25 : decode cX11_partByte 25 = .ok (.i2l, 1) := by decide +kernel
theorem dX11_partByte_26 : decode cX11_partByte 26 = .ok (.invokestatic 64, 3) := by decide +kernel
theorem dX11_partByte_29 : decode cX11_partByte 29 = .ok (.ifCond .eq 7, 3) := by decide +kernel
theorem dX11_partByte_32 : decode cX11_partByte 32 = .ok (.iconst 1, 1) := by decide +kernel
theorem dX11_partByte_33 : decode cX11_partByte 33 = .ok (.goto 4, 3) := by decide +kernel
theorem dX11_partByte_36 : decode cX11_partByte 36 = .ok (.iconst 0, 1) := by decide +kernel
theorem dX11_partByte_37 : decode cX11_partByte 37 = .ok (.invokevirtual 267, 3) := by decide +kernel
theorem dX11_partByte_40 : decode cX11_partByte 40 = .ok (.ifCond .eq 16, 3) := by decide +kernel
theorem dX11_partByte_43 : decode cX11_partByte 43 = .ok (.aload_n 0, 1) := by decide +kernel
theorem dX11_partByte_44 : decode cX11_partByte 44 = .ok (.iload_n 1, 1) := by decide +kernel
theorem dX11_partByte_45 : decode cX11_partByte 45 = .ok (.iload_n 2, 1) := by decide +kernel
theorem dX11_partByte_46 : decode cX11_partByte 46 = .ok (.invokevirtual 277, 3) := by decide +kernel
theorem dX11_partByte_49 : decode cX11_partByte 49 = .ok (.sipush 255, 3) := by decide +kernel
theorem dX11_partByte_52 : decode cX11_partByte 52 = .ok (.iand, 1) := by decide +kernel
theorem dX11_partByte_53 : decode cX11_partByte 53 = .ok (.goto 4, 3) := by decide +kernel
theorem dX11_partByte_56 : decode cX11_partByte 56 = .ok (.iconst 0, 1) := by decide +kernel
theorem dX11_partByte_57 : decode cX11_partByte 57 = .ok (.ireturn, 1) := by decide +kernel
theorem dX11_digest_0 : decode cX11_digest 0 = .ok (.aload_n 0, 1) := by decide +kernel
theorem dX11_digest_1 : decode cX11_digest 1 = .ok (.aload_n 0, 1) := by decide +kernel
theorem dX11_digest_2 : decode cX11_digest 2 = .ok (.iload_n 1, 1) := by decide +kernel
theorem dX11_digest_3 : decode cX11_digest 3 = .ok (.invokevirtual 336, 3) := by decide +kernel
theorem dX11_digest_6 : decode cX11_digest 6 = .ok (.invokevirtual 94, 3) := by decide +kernel
theorem dX11_digest_9 : decode cX11_digest 9 = .ok (.ifCond .ne 5, 3) := by decide +kernel
theorem dX11_digest_12 : decode cX11_digest 12 = .ok (.lconst 0, 1) := by decide +kernel
theorem dX11_digest_13 : decode cX11_digest 13 = .ok (.lreturn, 1) := by decide +kernel
theorem dX11_digest_14 : decode cX11_digest 14 = .ok (.ldc2_w 406, 3) := by decide +kernel
theorem dX11_digest_17 : decode cX11_digest 17 = .ok (.lstore_n 2, 1) := by decide +kernel
theorem dX11_digest_18 : decode cX11_digest 18 = .ok (.iconst 0, 1) := by decide +kernel
theorem dX11_digest_19 : decode cX11_digest 19 = .ok (.istore 4, 2) := by decide +kernel
theorem dX11_digest_21 : decode cX11_digest 21 = .ok (.iload 4, 2) := by decide +kernel
theorem dX11_digest_23 : decode cX11_digest 23 = .ok (.aload_n 0, 1) := by decide +kernel
theorem dX11_digest_24 : decode cX11_digest 24 = .ok (.iload_n 1, 1) := by decide +kernel
theorem dX11_digest_25 : decode cX11_digest 25 = .ok (.iconst 0, 1) := by decide +kernel
theorem dX11_digest_26 : decode cX11_digest 26 = .ok (.invokevirtual 84, 3) := by decide +kernel
theorem dX11_digest_29 : decode cX11_digest 29 = .ok (.if_icmp .ge 28, 3) := by decide +kernel
theorem dX11_digest_32 : decode cX11_digest 32 = .ok (.lload_n 2, 1) := by decide +kernel
theorem dX11_digest_33 : decode cX11_digest 33 = .ok (.aload_n 0, 1) := by decide +kernel
theorem dX11_digest_34 : decode cX11_digest 34 = .ok (.iload_n 1, 1) := by decide +kernel
theorem dX11_digest_35 : decode cX11_digest 35 = .ok (.iload 4, 2) := by decide +kernel
theorem dX11_digest_37 : decode cX11_digest 37 = .ok (.invokevirtual 277, 3) := by decide +kernel
theorem dX11_digest_40 : decode cX11_digest 40 = .ok (.sipush 255, 3) := by decide +kernel
theorem dX11_digest_43 : decode cX11_digest 43 = .ok (.iand, 1) := by decide +kernel
theorem dX11_digest_44 : decode cX11_digest 44 = .ok (.i2l, 1) := by decide +kernel
theorem dX11_digest_45 : decode cX11_digest 45 = .ok (.lxor, 1) := by decide +kernel
theorem dX11_digest_46 : decode cX11_digest 46 = .ok (.ldc2_w 408, 3) := by decide +kernel
theorem dX11_digest_49 : decode cX11_digest 49 = .ok (.lmul, 1) := by decide +kernel
theorem dX11_digest_50 : decode cX11_digest 50 = .ok (.lstore_n 2, 1) := by decide +kernel
theorem dX11_digest_51 : decode cX11_digest 51 = .ok (.iinc 4 1, 3) := by decide +kernel
theorem dX11_digest_54 : decode cX11_digest 54 = .ok (.goto (-33), 3) := by decide +kernel
theorem dX11_digest_57 : decode cX11_digest 57 = .ok (.lload_n 2, 1) := by decide +kernel
theorem dX11_digest_58 : decode cX11_digest 58 = .ok (.lreturn, 1) := by decide +kernel
theorem dX11_storedBytes_0 : decode cX11_storedBytes 0 = .ok (.aload_n 0, 1) := by decide +kernel
theorem dX11_storedBytes_1 : decode cX11_storedBytes 1 = .ok (.iconst 0, 1) := by decide +kernel
theorem dX11_storedBytes_2 : decode cX11_storedBytes 2 = .ok (.putfield 3, 3) := by decide +kernel
theorem dX11_storedBytes_5 : decode cX11_storedBytes 5 = .ok (.aload_n 0, 1) := by decide +kernel
theorem dX11_storedBytes_6 : decode cX11_storedBytes 6 = .ok (.invokevirtual 339, 3) := by decide +kernel
theorem dX11_storedBytes_9 : decode cX11_storedBytes 9 = .ok (.ireturn, 1) := by decide +kernel
theorem dX11_deadBytes_0 : decode cX11_deadBytes 0 = .ok (.aload_n 0, 1) := by decide +kernel
theorem dX11_deadBytes_1 : decode cX11_deadBytes 1 = .ok (.iconst 0, 1) := by decide +kernel
theorem dX11_deadBytes_2 : decode cX11_deadBytes 2 = .ok (.putfield 3, 3) := by decide +kernel
theorem dX11_deadBytes_5 : decode cX11_deadBytes 5 = .ok (.iconst 0, 1) := by decide +kernel
theorem dX11_deadBytes_6 : decode cX11_deadBytes 6 = .ok (.istore_n 1, 1) := by decide +kernel
theorem dX11_deadBytes_7 : decode cX11_deadBytes 7 = .ok (.iconst 0, 1) := by decide +kernel
theorem dX11_deadBytes_8 : decode cX11_deadBytes 8 = .ok (.istore_n 2, 1) := by decide +kernel
theorem dX11_deadBytes_9 : decode cX11_deadBytes 9 = .ok (.iload_n 2, 1) := by decide +kernel
theorem dX11_deadBytes_10 : decode cX11_deadBytes 10 = .ok (.aload_n 0, 1) := by decide +kernel
theorem dX11_deadBytes_11 : decode cX11_deadBytes 11 = .ok (.getfield 17, 3) := by decide +kernel
theorem dX11_deadBytes_14 : decode cX11_deadBytes 14 = .ok (.bipush 8, 2) := by decide +kernel
theorem dX11_deadBytes_16 : decode cX11_deadBytes 16 = .ok (.iaload, 1) := by decide +kernel
theorem dX11_deadBytes_17 : decode cX11_deadBytes 17 = .ok (.if_icmp .ge 38, 3) := by decide +kernel
theorem dX11_deadBytes_20 : decode cX11_deadBytes 20 = .ok (.iload_n 1, 1) := by decide +kernel
theorem dX11_deadBytes_21 : decode cX11_deadBytes 21 = .ok (.aload_n 0, 1) := by decide +kernel
theorem dX11_deadBytes_22 : decode cX11_deadBytes 22 = .ok (.iload_n 2, 1) := by decide +kernel
theorem dX11_deadBytes_23 : decode cX11_deadBytes 23 = .ok (.invokevirtual 336, 3) := by decide +kernel
theorem dX11_deadBytes_26 : decode cX11_deadBytes 26 = .ok (.ifCond .eq 20, 3) := by decide +kernel
theorem dX11_deadBytes_29 : decode cX11_deadBytes 29 = .ok (.aload_n 0, 1) := by decide +kernel
theorem dX11_deadBytes_30 : decode cX11_deadBytes 30 = .ok (.iload_n 2, 1) := by decide +kernel
theorem dX11_deadBytes_31 : decode cX11_deadBytes 31 = .ok (.invokevirtual 309, 3) := by decide +kernel
theorem dX11_deadBytes_34 : decode cX11_deadBytes 34 = .ok (.ifCond .eq 12, 3) := by decide +kernel
theorem dX11_deadBytes_37 : decode cX11_deadBytes 37 = .ok (.aload_n 0, 1) := by decide +kernel
theorem dX11_deadBytes_38 : decode cX11_deadBytes 38 = .ok (.iload_n 2, 1) := by decide +kernel
theorem dX11_deadBytes_39 : decode cX11_deadBytes 39 = .ok (.iconst 0, 1) := by decide +kernel
theorem dX11_deadBytes_40 : decode cX11_deadBytes 40 = .ok (.invokevirtual 84, 3) := by decide +kernel
theorem dX11_deadBytes_43 : decode cX11_deadBytes 43 = .ok (.goto 4, 3) := by decide +kernel
theorem dX11_deadBytes_46 : decode cX11_deadBytes 46 = .ok (.iconst 0, 1) := by decide +kernel
theorem dX11_deadBytes_47 : decode cX11_deadBytes 47 = .ok (.iadd, 1) := by decide +kernel
theorem dX11_deadBytes_48 : decode cX11_deadBytes 48 = .ok (.istore_n 1, 1) := by decide +kernel
theorem dX11_deadBytes_49 : decode cX11_deadBytes 49 = .ok (.iinc 2 1, 3) := by decide +kernel
theorem dX11_deadBytes_52 : decode cX11_deadBytes 52 = .ok (.goto (-43), 3) := by decide +kernel
theorem dX11_deadBytes_55 : decode cX11_deadBytes 55 = .ok (.iload_n 1, 1) := by decide +kernel
theorem dX11_deadBytes_56 : decode cX11_deadBytes 56 = .ok (.ireturn, 1) := by decide +kernel
theorem dX11_logicalBytes_0 : decode cX11_logicalBytes 0 = .ok (.aload_n 0, 1) := by decide +kernel
theorem dX11_logicalBytes_1 : decode cX11_logicalBytes 1 = .ok (.iconst 0, 1) := by decide +kernel
theorem dX11_logicalBytes_2 : decode cX11_logicalBytes 2 = .ok (.putfield 3, 3) := by decide +kernel
theorem dX11_logicalBytes_5 : decode cX11_logicalBytes 5 = .ok (.iconst 0, 1) := by decide +kernel
theorem dX11_logicalBytes_6 : decode cX11_logicalBytes 6 = .ok (.istore_n 1, 1) := by decide +kernel
theorem dX11_logicalBytes_7 : decode cX11_logicalBytes 7 = .ok (.iconst 0, 1) := by decide +kernel
theorem dX11_logicalBytes_8 : decode cX11_logicalBytes 8 = .ok (.istore_n 2, 1) := by decide +kernel
theorem dX11_logicalBytes_9 : decode cX11_logicalBytes 9 = .ok (.iload_n 2, 1) := by decide +kernel
theorem dX11_logicalBytes_10 : decode cX11_logicalBytes 10 = .ok (.aload_n 0, 1) := by decide +kernel
theorem dX11_logicalBytes_11 : decode cX11_logicalBytes 11 = .ok (.getfield 17, 3) := by decide +kernel
theorem dX11_logicalBytes_14 : decode cX11_logicalBytes 14 = .ok (.iconst 4, 1) := by decide +kernel
theorem dX11_logicalBytes_15 : decode cX11_logicalBytes 15 = .ok (.iaload, 1) := by decide +kernel
theorem dX11_logicalBytes_16 : decode cX11_logicalBytes 16 = .ok (.if_icmp .ge 17, 3) := by decide +kernel
theorem dX11_logicalBytes_19 : decode cX11_logicalBytes 19 = .ok (.iload_n 1, 1) := by decide +kernel
theorem dX11_logicalBytes_20 : decode cX11_logicalBytes 20 = .ok (.aload_n 0, 1) := by decide +kernel
theorem dX11_logicalBytes_21 : decode cX11_logicalBytes 21 = .ok (.iload_n 2, 1) := by decide +kernel
theorem dX11_logicalBytes_22 : decode cX11_logicalBytes 22 = .ok (.invokevirtual 375, 3) := by decide +kernel
theorem dX11_logicalBytes_25 : decode cX11_logicalBytes 25 = .ok (.iadd, 1) := by decide +kernel
theorem dX11_logicalBytes_26 : decode cX11_logicalBytes 26 = .ok (.istore_n 1, 1) := by decide +kernel
theorem dX11_logicalBytes_27 : decode cX11_logicalBytes 27 = .ok (.iinc 2 1, 3) := by decide +kernel
theorem dX11_logicalBytes_30 : decode cX11_logicalBytes 30 = .ok (.goto (-21), 3) := by decide +kernel
theorem dX11_logicalBytes_33 : decode cX11_logicalBytes 33 = .ok (.iload_n 1, 1) := by decide +kernel
theorem dX11_logicalBytes_34 : decode cX11_logicalBytes 34 = .ok (.ireturn, 1) := by decide +kernel
theorem dX11_mostShared_0 : decode cX11_mostShared 0 = .ok (.aload_n 0, 1) := by decide +kernel
theorem dX11_mostShared_1 : decode cX11_mostShared 1 = .ok (.iconst 0, 1) := by decide +kernel
theorem dX11_mostShared_2 : decode cX11_mostShared 2 = .ok (.putfield 3, 3) := by decide +kernel
theorem dX11_mostShared_5 : decode cX11_mostShared 5 = .ok (.iconst (-1), 1) := by decide +kernel
theorem dX11_mostShared_6 : decode cX11_mostShared 6 = .ok (.istore_n 1, 1) := by decide +kernel
theorem dX11_mostShared_7 : decode cX11_mostShared 7 = .ok (.iconst 0, 1) := by decide +kernel
theorem dX11_mostShared_8 : decode cX11_mostShared 8 = .ok (.istore_n 2, 1) := by decide +kernel
theorem dX11_mostShared_9 : decode cX11_mostShared 9 = .ok (.iload_n 2, 1) := by decide +kernel
theorem dX11_mostShared_10 : decode cX11_mostShared 10 = .ok (.aload_n 0, 1) := by decide +kernel
theorem dX11_mostShared_11 : decode cX11_mostShared 11 = .ok (.getfield 17, 3) := by decide +kernel
theorem dX11_mostShared_14 : decode cX11_mostShared 14 = .ok (.bipush 8, 2) := by decide +kernel
theorem dX11_mostShared_16 : decode cX11_mostShared 16 = .ok (.iaload, 1) := by decide +kernel
theorem dX11_mostShared_17 : decode cX11_mostShared 17 = .ok (.if_icmp .ge 45, 3) := by decide +kernel
theorem dX11_mostShared_20 : decode cX11_mostShared 20 = .ok (.aload_n 0, 1) := by decide +kernel
theorem dX11_mostShared_21 : decode cX11_mostShared 21 = .ok (.iload_n 2, 1) := by decide +kernel
theorem dX11_mostShared_22 : decode cX11_mostShared 22 = .ok (.invokevirtual 336, 3) := by decide +kernel
theorem dX11_mostShared_25 : decode cX11_mostShared 25 = .ok (.ifCond .eq 31, 3) := by decide +kernel
theorem dX11_mostShared_28 : decode cX11_mostShared 28 = .ok (.aload_n 0, 1) := by decide +kernel
theorem dX11_mostShared_29 : decode cX11_mostShared 29 = .ok (.iload_n 2, 1) := by decide +kernel
theorem dX11_mostShared_30 : decode cX11_mostShared 30 = .ok (.invokevirtual 312, 3) := by decide +kernel
theorem dX11_mostShared_33 : decode cX11_mostShared 33 = .ok (.ifCond .le 23, 3) := by decide +kernel
theorem dX11_mostShared_36 : decode cX11_mostShared 36 = .ok (.iload_n 1, 1) := by decide +kernel
theorem dX11_mostShared_37 : decode cX11_mostShared 37 = .ok (.iconst (-1), 1) := by decide +kernel
theorem dX11_mostShared_38 : decode cX11_mostShared 38 = .ok (.if_icmp .eq 16, 3) := by decide +kernel
theorem dX11_mostShared_41 : decode cX11_mostShared 41 = .ok (.aload_n 0, 1) := by decide +kernel
theorem dX11_mostShared_42 : decode cX11_mostShared 42 = .ok (.iload_n 2, 1) := by decide +kernel
theorem dX11_mostShared_43 : decode cX11_mostShared 43 = .ok (.invokevirtual 312, 3) := by decide +kernel
theorem dX11_mostShared_46 : decode cX11_mostShared 46 = .ok (.aload_n 0, 1) := by decide +kernel
theorem dX11_mostShared_47 : decode cX11_mostShared 47 = .ok (.iload_n 1, 1) := by decide +kernel
theorem dX11_mostShared_48 : decode cX11_mostShared 48 = .ok (.invokevirtual 312, 3) := by decide +kernel
theorem dX11_mostShared_51 : decode cX11_mostShared 51 = .ok (.if_icmp .le 5, 3) := by decide +kernel
theorem dX11_mostShared_54 : decode cX11_mostShared 54 = .ok (.iload_n 2, 1) := by decide +kernel
theorem dX11_mostShared_55 : decode cX11_mostShared 55 = .ok (.istore_n 1, 1) := by decide +kernel
theorem dX11_mostShared_56 : decode cX11_mostShared 56 = .ok (.iinc 2 1, 3) := by decide +kernel
theorem dX11_mostShared_59 : decode cX11_mostShared 59 = .ok (.goto (-50), 3) := by decide +kernel
theorem dX11_mostShared_62 : decode cX11_mostShared 62 = .ok (.iload_n 1, 1) := by decide +kernel
theorem dX11_mostShared_63 : decode cX11_mostShared 63 = .ok (.ireturn, 1) := by decide +kernel
theorem dX11_usage_0 : decode cX11_usage 0 = .ok (.aload_n 0, 1) := by decide +kernel
theorem dX11_usage_1 : decode cX11_usage 1 = .ok (.aload_n 0, 1) := by decide +kernel
theorem dX11_usage_2 : decode cX11_usage 2 = .ok (.iload_n 1, 1) := by decide +kernel
theorem dX11_usage_3 : decode cX11_usage 3 = .ok (.invokevirtual 76, 3) := by decide +kernel
theorem dX11_usage_6 : decode cX11_usage 6 = .ok (.invokevirtual 94, 3) := by decide +kernel
theorem dX11_usage_9 : decode cX11_usage 9 = .ok (.ifCond .eq 11, 3) := by decide +kernel
theorem dX11_usage_12 : decode cX11_usage 12 = .ok (.aload_n 0, 1) := by decide +kernel
theorem dX11_usage_13 : decode cX11_usage 13 = .ok (.iload_n 1, 1) := by decide +kernel
theorem dX11_usage_14 : decode cX11_usage 14 = .ok (.invokevirtual 375, 3) := by decide +kernel
theorem dX11_usage_17 : decode cX11_usage 17 = .ok (.goto 4, 3) := by decide +kernel
theorem dX11_usage_20 : decode cX11_usage 20 = .ok (.iconst 0, 1) := by decide +kernel
theorem dX11_usage_21 : decode cX11_usage 21 = .ok (.ireturn, 1) := by decide +kernel
theorem dX11_quota_0 : decode cX11_quota 0 = .ok (.aload_n 0, 1) := by decide +kernel
theorem dX11_quota_1 : decode cX11_quota 1 = .ok (.aload_n 0, 1) := by decide +kernel
theorem dX11_quota_2 : decode cX11_quota 2 = .ok (.iload_n 1, 1) := by decide +kernel
theorem dX11_quota_3 : decode cX11_quota 3 = .ok (.invokevirtual 76, 3) := by decide +kernel
theorem dX11_quota_6 : decode cX11_quota 6 = .ok (.invokevirtual 94, 3) := by decide +kernel
theorem dX11_quota_9 : decode cX11_quota 9 = .ok (.ifCond .eq 20, 3) := by decide +kernel
theorem dX11_quota_12 : decode cX11_quota 12 = .ok (.aload_n 0, 1) := by decide +kernel
theorem dX11_quota_13 : decode cX11_quota 13 = .ok (.getfield 17, 3) := by decide +kernel
theorem dX11_quota_16 : decode cX11_quota 16 = .ok (.bipush 83, 2) := by decide +kernel
theorem dX11_quota_18 : decode cX11_quota 18 = .ok (.bipush 8, 2) := by decide +kernel
theorem dX11_quota_20 : decode cX11_quota 20 = .ok (.iload_n 1, 1) := by decide +kernel
theorem dX11_quota_21 : decode cX11_quota 21 = .ok (.imul, 1) := by decide +kernel
theorem dX11_quota_22 : decode cX11_quota 22 = .ok (.iadd, 1) := by decide +kernel
theorem dX11_quota_23 : decode cX11_quota 23 = .ok (.iconst 1, 1) := by decide +kernel
theorem dX11_quota_24 : decode cX11_quota 24 = .ok (.iadd, 1) := by decide +kernel
theorem dX11_quota_25 : decode cX11_quota 25 = .ok (.iaload, 1) := by decide +kernel
theorem dX11_quota_26 : decode cX11_quota 26 = .ok (.goto 4, 3) := by decide +kernel
theorem dX11_quota_29 : decode cX11_quota 29 = .ok (.iconst 0, 1) := by decide +kernel
theorem dX11_quota_30 : decode cX11_quota 30 = .ok (.ireturn, 1) := by decide +kernel
theorem dX11_reads_0 : decode cX11_reads 0 = .ok (.iconst 0, 1) := by decide +kernel
theorem dX11_reads_1 : decode cX11_reads 1 = .ok (.istore_n 3, 1) := by decide +kernel
theorem dX11_reads_2 : decode cX11_reads 2 = .ok (.iload_n 3, 1) := by decide +kernel
theorem dX11_reads_3 : decode cX11_reads 3 = .ok (.aload_n 0, 1) := by decide +kernel
theorem dX11_reads_4 : decode cX11_reads 4 = .ok (.getfield 17, 3) := by decide +kernel
theorem dX11_reads_7 : decode cX11_reads 7 = .ok (.bipush 7, 2) := by decide +kernel
theorem dX11_reads_9 : decode cX11_reads 9 = .ok (.iaload, 1) := by decide +kernel
theorem dX11_reads_10 : decode cX11_reads 10 = .ok (.if_icmp .ge 29, 3) := by decide +kernel
theorem dX11_reads_13 : decode cX11_reads 13 = .ok (.aload_n 0, 1) := by decide +kernel
theorem dX11_reads_14 : decode cX11_reads 14 = .ok (.iload_n 3, 1) := by decide +kernel
theorem dX11_reads_15 : decode cX11_reads 15 = .ok (.iload_n 1, 1) := by decide +kernel
theorem dX11_reads_16 : decode cX11_reads 16 = .ok (.invokevirtual 348, 3) := by decide +kernel
theorem dX11_reads_19 : decode cX11_reads 19 = .ok (.ifCond .eq 14, 3) := by decide +kernel
theorem dX11_reads_22 : decode cX11_reads 22 = .ok (.aload_n 0, 1) := by decide +kernel
theorem dX11_reads_23 : decode cX11_reads 23 = .ok (.iload_n 3, 1) := by decide +kernel
theorem dX11_reads_24 : decode cX11_reads 24 = .ok (.iload_n 2, 1) := by decide +kernel
theorem dX11_reads_25 : decode cX11_reads 25 = .ok (.invokevirtual 303, 3) := by decide +kernel
theorem dX11_reads_28 : decode cX11_reads 28 = .ok (.ifCond .eq 5, 3) := by decide +kernel
theorem dX11_reads_31 : decode cX11_reads 31 = .ok (.iconst 1, 1) := by decide +kernel
theorem dX11_reads_32 : decode cX11_reads 32 = .ok (.ireturn, 1) := by decide +kernel
theorem dX11_reads_33 : decode cX11_reads 33 = .ok (.iinc 3 1, 3) := by decide +kernel
theorem dX11_reads_36 : decode cX11_reads 36 = .ok (.goto (-34), 3) := by decide +kernel
theorem dX11_reads_39 : decode cX11_reads 39 = .ok (.iconst 0, 1) := by decide +kernel
theorem dX11_reads_40 : decode cX11_reads 40 = .ok (.ireturn, 1) := by decide +kernel
theorem dX11_fairShare_0 : decode cX11_fairShare 0 = .ok (.aload_n 0, 1) := by decide +kernel
theorem dX11_fairShare_1 : decode cX11_fairShare 1 = .ok (.aload_n 0, 1) := by decide +kernel
theorem dX11_fairShare_2 : decode cX11_fairShare 2 = .ok (.iload_n 1, 1) := by decide +kernel
theorem dX11_fairShare_3 : decode cX11_fairShare 3 = .ok (.invokevirtual 76, 3) := by decide +kernel
theorem dX11_fairShare_6 : decode cX11_fairShare 6 = .ok (.invokevirtual 94, 3) := by decide +kernel
theorem dX11_fairShare_9 : decode cX11_fairShare 9 = .ok (.ifCond .ne 5, 3) := by decide +kernel
theorem dX11_fairShare_12 : decode cX11_fairShare 12 = .ok (.dconst 0, 1) := by decide +kernel
theorem dX11_fairShare_13 : decode cX11_fairShare 13 = .ok (.dreturn, 1) := by decide +kernel
theorem dX11_fairShare_14 : decode cX11_fairShare 14 = .ok (.dconst 0, 1) := by decide +kernel
theorem dX11_fairShare_15 : decode cX11_fairShare 15 = .ok (.dstore_n 2, 1) := by decide +kernel
theorem dX11_fairShare_16 : decode cX11_fairShare 16 = .ok (.iconst 0, 1) := by decide +kernel
theorem dX11_fairShare_17 : decode cX11_fairShare 17 = .ok (.istore 4, 2) := by decide +kernel
theorem dX11_fairShare_19 : decode cX11_fairShare 19 = .ok (.iload 4, 2) := by decide +kernel
theorem dX11_fairShare_21 : decode cX11_fairShare 21 = .ok (.aload_n 0, 1) := by decide +kernel
theorem dX11_fairShare_22 : decode cX11_fairShare 22 = .ok (.getfield 17, 3) := by decide +kernel
theorem dX11_fairShare_25 : decode cX11_fairShare 25 = .ok (.bipush 8, 2) := by decide +kernel
theorem dX11_fairShare_27 : decode cX11_fairShare 27 = .ok (.iaload, 1) := by decide +kernel
theorem dX11_fairShare_28 : decode cX11_fairShare 28 = .ok (.if_icmp .ge 81, 3) := by decide +kernel
theorem dX11_fairShare_31 : decode cX11_fairShare 31 = .ok (.aload_n 0, 1) := by decide +kernel
theorem dX11_fairShare_32 : decode cX11_fairShare 32 = .ok (.iload_n 1, 1) := by decide +kernel
theorem dX11_fairShare_33 : decode cX11_fairShare 33 = .ok (.iload 4, 2) := by decide +kernel
theorem dX11_fairShare_35 : decode cX11_fairShare 35 = .ok (.invokevirtual 410, 3) := by decide +kernel
theorem dX11_fairShare_38 : decode cX11_fairShare 38 = .ok (.ifCond .ne 6, 3) := by decide +kernel
theorem dX11_fairShare_41 : decode cX11_fairShare 41 = .ok (.goto 62, 3) := by decide +kernel
theorem dX11_fairShare_44 : decode cX11_fairShare 44 = .ok (.iconst 0, 1) := by decide +kernel
theorem dX11_fairShare_45 : decode cX11_fairShare 45 = .ok (.istore 5, 2) := by decide +kernel
theorem dX11_fairShare_47 : decode cX11_fairShare 47 = .ok (.iconst 0, 1) := by decide +kernel
theorem dX11_fairShare_48 : decode cX11_fairShare 48 = .ok (.istore 6, 2) := by decide +kernel
theorem dX11_fairShare_50 : decode cX11_fairShare 50 = .ok (.iload 6, 2) := by decide +kernel
theorem dX11_fairShare_52 : decode cX11_fairShare 52 = .ok (.aload_n 0, 1) := by decide +kernel
theorem dX11_fairShare_53 : decode cX11_fairShare 53 = .ok (.getfield 17, 3) := by decide +kernel
theorem dX11_fairShare_56 : decode cX11_fairShare 56 = .ok (.iconst 4, 1) := by decide +kernel
theorem dX11_fairShare_57 : decode cX11_fairShare 57 = .ok (.iaload, 1) := by decide +kernel
theorem dX11_fairShare_58 : decode cX11_fairShare 58 = .ok (.if_icmp .ge 30, 3) := by decide +kernel
theorem dX11_fairShare_61 : decode cX11_fairShare 61 = .ok (.iload 5, 2) := by decide +kernel
theorem dX11_fairShare_63 : decode cX11_fairShare 63 = .ok (.aload_n 0, 1) := by decide +kernel
theorem dX11_fairShare_64 : decode cX11_fairShare 64 = .ok (.iload 6, 2) := by decide +kernel
theorem dX11_fairShare_66 : decode cX11_fairShare 66 = .ok (.iload 4, 2) := by decide +kernel
theorem dX11_fairShare_68 : decode cX11_fairShare 68 = .ok (.invokevirtual 410, 3) := by decide +kernel
theorem dX11_fairShare_71 : decode cX11_fairShare 71 = .ok (.ifCond .eq 7, 3) := by decide +kernel
theorem dX11_fairShare_74 : decode cX11_fairShare 74 = .ok (.iconst 1, 1) := by decide +kernel
theorem dX11_fairShare_75 : decode cX11_fairShare 75 = .ok (.goto 4, 3) := by decide +kernel
theorem dX11_fairShare_78 : decode cX11_fairShare 78 = .ok (.iconst 0, 1) := by decide +kernel
theorem dX11_fairShare_79 : decode cX11_fairShare 79 = .ok (.iadd, 1) := by decide +kernel
theorem dX11_fairShare_80 : decode cX11_fairShare 80 = .ok (.istore 5, 2) := by decide +kernel
theorem dX11_fairShare_82 : decode cX11_fairShare 82 = .ok (.iinc 6 1, 3) := by decide +kernel
theorem dX11_fairShare_85 : decode cX11_fairShare 85 = .ok (.goto (-35), 3) := by decide +kernel
theorem dX11_fairShare_88 : decode cX11_fairShare 88 = .ok (.dload_n 2, 1) := by decide +kernel
theorem dX11_fairShare_89 : decode cX11_fairShare 89 = .ok (.aload_n 0, 1) := by decide +kernel
theorem dX11_fairShare_90 : decode cX11_fairShare 90 = .ok (.iload 4, 2) := by decide +kernel
theorem dX11_fairShare_92 : decode cX11_fairShare 92 = .ok (.iconst 0, 1) := by decide +kernel
theorem dX11_fairShare_93 : decode cX11_fairShare 93 = .ok (.invokevirtual 84, 3) := by decide +kernel
theorem dX11_fairShare_96 : decode cX11_fairShare 96 = .ok (.i2d, 1) := by decide +kernel
theorem dX11_fairShare_97 : decode cX11_fairShare 97 = .ok (.iload 5, 2) := by decide +kernel
theorem dX11_fairShare_99 : decode cX11_fairShare 99 = .ok (.i2d, 1) := by decide +kernel
theorem dX11_fairShare_100 : decode cX11_fairShare 100 = .ok (.ddiv, 1) := by decide +kernel
theorem dX11_fairShare_101 : decode cX11_fairShare 101 = .ok (.dadd, 1) := by decide +kernel
theorem dX11_fairShare_102 : decode cX11_fairShare 102 = .ok (.dstore_n 2, 1) := by decide +kernel
theorem dX11_fairShare_103 : decode cX11_fairShare 103 = .ok (.iinc 4 1, 3) := by decide +kernel
theorem dX11_fairShare_106 : decode cX11_fairShare 106 = .ok (.goto (-87), 3) := by decide +kernel
theorem dX11_fairShare_109 : decode cX11_fairShare 109 = .ok (.dload_n 2, 1) := by decide +kernel
theorem dX11_fairShare_110 : decode cX11_fairShare 110 = .ok (.dreturn, 1) := by decide +kernel
theorem dX11_inClass_0 : decode cX11_inClass 0 = .ok (.aload_n 0, 1) := by decide +kernel
theorem dX11_inClass_1 : decode cX11_inClass 1 = .ok (.aload_n 0, 1) := by decide +kernel
theorem dX11_inClass_2 : decode cX11_inClass 2 = .ok (.iload_n 1, 1) := by decide +kernel
theorem dX11_inClass_3 : decode cX11_inClass 3 = .ok (.invokevirtual 76, 3) := by decide +kernel
theorem dX11_inClass_6 : decode cX11_inClass 6 = .ok (.ifCond .eq 15, 3) := by decide +kernel
theorem dX11_inClass_9 : decode cX11_inClass 9 = .ok (.aload_n 0, 1) := by decide +kernel
theorem dX11_inClass_10 : decode cX11_inClass 10 = .ok (.iload_n 2, 1) := by decide +kernel
theorem dX11_inClass_11 : decode cX11_inClass 11 = .ok (.invokevirtual 264, 3) := by decide +kernel
theorem dX11_inClass_14 : decode cX11_inClass 14 = .ok (.ifCond .eq 7, 3) := by decide +kernel
theorem dX11_inClass_17 : decode cX11_inClass 17 = .ok (.iconst 1, 1) := by decide +kernel
theorem dX11_inClass_18 : decode cX11_inClass 18 = .ok (.goto 4, 3) := by decide +kernel
theorem dX11_inClass_21 : decode cX11_inClass 21 = .ok (.iconst 0, 1) := by decide +kernel
theorem dX11_inClass_22 : decode cX11_inClass 22 = .ok (.invokevirtual 94, 3) := by decide +kernel
theorem dX11_inClass_25 : decode cX11_inClass 25 = .ok (.ifCond .ne 5, 3) := by decide +kernel
theorem dX11_inClass_28 : decode cX11_inClass 28 = .ok (.iconst 0, 1) := by decide +kernel
theorem dX11_inClass_29 : decode cX11_inClass 29 = .ok (.ireturn, 1) := by decide +kernel
