theorem dX10_part_0 : decode cX10_part 0 = .ok (.aload_n 0, 1) := by decide +kernel
theorem dX10_part_1 : decode cX10_part 1 = .ok (.iload_n 1, 1) := by decide +kernel
theorem dX10_part_2 : decode cX10_part 2 = .ok (.invokevirtual 262, 3) := by decide +kernel
theorem dX10_part_5 : decode cX10_part 5 = .ok (.iload_n 2, 1) := by decide +kernel
theorem dX10_part_6 : decode cX10_part 6 = .ok (.iconst 3, 1) := by decide +kernel
theorem dX10_part_7 : decode cX10_part 7 = .ok (.invokestatic 149, 3) := by decide +kernel
theorem dX10_part_10 : decode cX10_part 10 = .ok (.iload_n 2, 1) := by decide +kernel
theorem dX10_part_11 : decode cX10_part 11 = .ok (.tableswitch 70 0 2 #[25, 40, 55], 25) := by decide +kernel
theorem dX10_part_36 : decode cX10_part 36 = .ok (.aload_n 0, 1) := by decide +kernel
theorem dX10_part_37 : decode cX10_part 37 = .ok (.getfield 42, 3) := by decide +kernel
theorem dX10_part_40 : decode cX10_part 40 = .ok (.getfield 186, 3) := by decide +kernel
theorem dX10_part_43 : decode cX10_part 43 = .ok (.iload_n 1, 1) := by decide +kernel
theorem dX10_part_44 : decode cX10_part 44 = .ok (.invokevirtual 265, 3) := by decide +kernel
theorem dX10_part_47 : decode cX10_part 47 = .ok (.getfield 57, 3) := by decide +kernel
theorem dX10_part_50 : decode cX10_part 50 = .ok (.ireturn, 1) := by decide +kernel
theorem dX10_part_51 : decode cX10_part 51 = .ok (.aload_n 0, 1) := by decide +kernel
theorem dX10_part_52 : decode cX10_part 52 = .ok (.getfield 42, 3) := by decide +kernel
theorem dX10_part_55 : decode cX10_part 55 = .ok (.getfield 186, 3) := by decide +kernel
theorem dX10_part_58 : decode cX10_part 58 = .ok (.getfield 269, 3) := by decide +kernel
theorem dX10_part_61 : decode cX10_part 61 = .ok (.iload_n 1, 1) := by decide +kernel
theorem dX10_part_62 : decode cX10_part 62 = .ok (.invokestatic 142, 3) := by decide +kernel
theorem dX10_part_65 : decode cX10_part 65 = .ok (.ireturn, 1) := by decide +kernel
theorem dX10_part_66 : decode cX10_part 66 = .ok (.aload_n 0, 1) := by decide +kernel
theorem dX10_part_67 : decode cX10_part 67 = .ok (.getfield 42, 3) := by decide +kernel
theorem dX10_part_70 : decode cX10_part 70 = .ok (.getfield 186, 3) := by decide +kernel
theorem dX10_part_73 : decode cX10_part 73 = .ok (.getfield 272, 3) := by decide +kernel
theorem dX10_part_76 : decode cX10_part 76 = .ok (.iload_n 1, 1) := by decide +kernel
theorem dX10_part_77 : decode cX10_part 77 = .ok (.invokestatic 142, 3) := by decide +kernel
theorem dX10_part_80 : decode cX10_part 80 = .ok (.ireturn, 1) := by decide +kernel
theorem dX10_part_81 : decode cX10_part 81 = .ok (.aload_n 0, 1) := by decide +kernel
theorem dX10_part_82 : decode cX10_part 82 = .ok (.getfield 42, 3) := by decide +kernel
theorem dX10_part_85 : decode cX10_part 85 = .ok (.getfield 186, 3) := by decide +kernel
theorem dX10_part_88 : decode cX10_part 88 = .ok (.getfield 275, 3) := by decide +kernel
theorem dX10_part_91 : decode cX10_part 91 = .ok (.iload_n 1, 1) := by decide +kernel
theorem dX10_part_92 : decode cX10_part 92 = .ok (.invokestatic 142, 3) := by decide +kernel
theorem dX10_part_95 : decode cX10_part 95 = .ok (.ireturn, 1) := by decide +kernel
theorem dX10_digest_0 : decode cX10_digest 0 = .ok (.aload_n 0, 1) := by decide +kernel
theorem dX10_digest_1 : decode cX10_digest 1 = .ok (.iload_n 1, 1) := by decide +kernel
theorem dX10_digest_2 : decode cX10_digest 2 = .ok (.invokevirtual 262, 3) := by decide +kernel
theorem dX10_digest_5 : decode cX10_digest 5 = .ok (.aload_n 0, 1) := by decide +kernel
theorem dX10_digest_6 : decode cX10_digest 6 = .ok (.getfield 42, 3) := by decide +kernel
theorem dX10_digest_9 : decode cX10_digest 9 = .ok (.getfield 186, 3) := by decide +kernel
theorem dX10_digest_12 : decode cX10_digest 12 = .ok (.iload_n 1, 1) := by decide +kernel
theorem dX10_digest_13 : decode cX10_digest 13 = .ok (.invokevirtual 265, 3) := by decide +kernel
theorem dX10_digest_16 : decode cX10_digest 16 = .ok (.invokevirtual 286, 3) := by decide +kernel
theorem dX10_digest_19 : decode cX10_digest 19 = .ok (.lreturn, 1) := by decide +kernel
theorem dX10_storedBytes_0 : decode cX10_storedBytes 0 = .ok (.aload_n 0, 1) := by decide +kernel
theorem dX10_storedBytes_1 : decode cX10_storedBytes 1 = .ok (.getfield 42, 3) := by decide +kernel
theorem dX10_storedBytes_4 : decode cX10_storedBytes 4 = .ok (.getfield 186, 3) := by decide +kernel
theorem dX10_storedBytes_7 : decode cX10_storedBytes 7 = .ok (.iconst 0, 1) := by decide +kernel
theorem dX10_storedBytes_8 : decode cX10_storedBytes 8 = .ok (.invokevirtual 289, 3) := by decide +kernel
theorem dX10_storedBytes_11 : decode cX10_storedBytes 11 = .ok (.ireturn, 1) := by decide +kernel
theorem dX10_deadBytes_0 : decode cX10_deadBytes 0 = .ok (.aload_n 0, 1) := by decide +kernel
theorem dX10_deadBytes_1 : decode cX10_deadBytes 1 = .ok (.getfield 42, 3) := by decide +kernel
theorem dX10_deadBytes_4 : decode cX10_deadBytes 4 = .ok (.getfield 186, 3) := by decide +kernel
theorem dX10_deadBytes_7 : decode cX10_deadBytes 7 = .ok (.iconst 1, 1) := by decide +kernel
theorem dX10_deadBytes_8 : decode cX10_deadBytes 8 = .ok (.invokevirtual 289, 3) := by decide +kernel
theorem dX10_deadBytes_11 : decode cX10_deadBytes 11 = .ok (.ireturn, 1) := by decide +kernel
theorem dX10_logicalBytes_0 : decode cX10_logicalBytes 0 = .ok (.iconst 0, 1) := by decide +kernel
theorem dX10_logicalBytes_1 : decode cX10_logicalBytes 1 = .ok (.istore_n 1, 1) := by decide +kernel
theorem dX10_logicalBytes_2 : decode cX10_logicalBytes 2 = .ok (.iconst 0, 1) := by decide +kernel
theorem dX10_logicalBytes_3 : decode cX10_logicalBytes 3 = .ok (.istore_n 2, 1) := by decide +kernel
theorem dX10_logicalBytes_4 : decode cX10_logicalBytes 4 = .ok (.iload_n 2, 1) := by decide +kernel
theorem dX10_logicalBytes_5 : decode cX10_logicalBytes 5 = .ok (.aload_n 0, 1) := by decide +kernel
theorem dX10_logicalBytes_6 : decode cX10_logicalBytes 6 = .ok (.getfield 42, 3) := by decide +kernel
theorem dX10_logicalBytes_9 : decode cX10_logicalBytes 9 = .ok (.getfield 104, 3) := by decide +kernel
theorem dX10_logicalBytes_12 : decode cX10_logicalBytes 12 = .ok (.getfield 105, 3) := by decide +kernel
theorem dX10_logicalBytes_15 : decode cX10_logicalBytes 15 = .ok (.getfield 109, 3) := by decide +kernel
theorem dX10_logicalBytes_18 : decode cX10_logicalBytes 18 = .ok (.if_icmp .ge 20, 3) := by decide +kernel
theorem dX10_logicalBytes_21 : decode cX10_logicalBytes 21 = .ok (.iload_n 1, 1) := by decide +kernel
theorem dX10_logicalBytes_22 : decode cX10_logicalBytes 22 = .ok (.aload_n 0, 1) := by decide +kernel
theorem dX10_logicalBytes_23 : decode cX10_logicalBytes 23 = .ok (.getfield 42, 3) := by decide +kernel
theorem dX10_logicalBytes_26 : decode cX10_logicalBytes 26 = .ok (.iload_n 2, 1) := by decide +kernel
theorem dX10_logicalBytes_27 : decode cX10_logicalBytes 27 = .ok (.invokevirtual 293, 3) := by decide +kernel
theorem dX10_logicalBytes_30 : decode cX10_logicalBytes 30 = .ok (.iadd, 1) := by decide +kernel
theorem dX10_logicalBytes_31 : decode cX10_logicalBytes 31 = .ok (.istore_n 1, 1) := by decide +kernel
theorem dX10_logicalBytes_32 : decode cX10_logicalBytes 32 = .ok (.iinc 2 1, 3) := by decide +kernel
theorem dX10_logicalBytes_35 : decode cX10_logicalBytes 35 = .ok (.goto (-31), 3) := by decide +kernel
theorem dX10_logicalBytes_38 : decode cX10_logicalBytes 38 = .ok (.iload_n 1, 1) := by decide +kernel
theorem dX10_logicalBytes_39 : decode cX10_logicalBytes 39 = .ok (.ireturn, 1) := by decide +kernel
theorem dX10_usage_0 : decode cX10_usage 0 = .ok (.aload_n 0, 1) := by decide +kernel
theorem dX10_usage_1 : decode cX10_usage 1 = .ok (.iload_n 1, 1) := by decide +kernel
theorem dX10_usage_2 : decode cX10_usage 2 = .ok (.invokevirtual 169, 3) := by decide +kernel
theorem dX10_usage_5 : decode cX10_usage 5 = .ok (.aload_n 0, 1) := by decide +kernel
theorem dX10_usage_6 : decode cX10_usage 6 = .ok (.getfield 42, 3) := by decide +kernel
theorem dX10_usage_9 : decode cX10_usage 9 = .ok (.iload_n 1, 1) := by decide +kernel
theorem dX10_usage_10 : decode cX10_usage 10 = .ok (.invokevirtual 293, 3) := by decide +kernel
theorem dX10_usage_13 : decode cX10_usage 13 = .ok (.ireturn, 1) := by decide +kernel
theorem dX10_fairShare_0 : decode cX10_fairShare 0 = .ok (.aload_n 0, 1) := by decide +kernel
theorem dX10_fairShare_1 : decode cX10_fairShare 1 = .ok (.iload_n 1, 1) := by decide +kernel
theorem dX10_fairShare_2 : decode cX10_fairShare 2 = .ok (.invokevirtual 169, 3) := by decide +kernel
theorem dX10_fairShare_5 : decode cX10_fairShare 5 = .ok (.aload_n 0, 1) := by decide +kernel
theorem dX10_fairShare_6 : decode cX10_fairShare 6 = .ok (.getfield 42, 3) := by decide +kernel
theorem dX10_fairShare_9 : decode cX10_fairShare 9 = .ok (.aload_n 0, 1) := by decide +kernel
theorem dX10_fairShare_10 : decode cX10_fairShare 10 = .ok (.getfield 53, 3) := by decide +kernel
theorem dX10_fairShare_13 : decode cX10_fairShare 13 = .ok (.invokevirtual 302, 3) := by decide +kernel
theorem dX10_fairShare_16 : decode cX10_fairShare 16 = .ok (.dconst 0, 1) := by decide +kernel
theorem dX10_fairShare_17 : decode cX10_fairShare 17 = .ok (.dstore_n 2, 1) := by decide +kernel
theorem dX10_fairShare_18 : decode cX10_fairShare 18 = .ok (.iconst 0, 1) := by decide +kernel
theorem dX10_fairShare_19 : decode cX10_fairShare 19 = .ok (.istore 4, 2) := by decide +kernel
theorem dX10_fairShare_21 : decode cX10_fairShare 21 = .ok (.iload 4, 2) := by decide +kernel
theorem dX10_fairShare_23 : decode cX10_fairShare 23 = .ok (.aload_n 0, 1) := by decide +kernel
theorem dX10_fairShare_24 : decode cX10_fairShare 24 = .ok (.getfield 53, 3) := by decide +kernel
theorem dX10_fairShare_27 : decode cX10_fairShare 27 = .ok (.arraylength, 1) := by decide +kernel
theorem dX10_fairShare_28 : decode cX10_fairShare 28 = .ok (.if_icmp .ge 63, 3) := by decide +kernel
theorem dX10_fairShare_31 : decode cX10_fairShare 31 = .ok (.aload_n 0, 1) := by decide +kernel
theorem dX10_fairShare_32 : decode cX10_fairShare 32 = .ok (.getfield 53, 3) := by decide +kernel
theorem dX10_fairShare_35 : decode cX10_fairShare 35 = .ok (.iload 4, 2) := by decide +kernel
theorem dX10_fairShare_37 : decode cX10_fairShare 37 = .ok (.iaload, 1) := by decide +kernel
theorem dX10_fairShare_38 : decode cX10_fairShare 38 = .ok (.invokestatic 306, 3) := by decide +kernel
theorem dX10_fairShare_41 : decode cX10_fairShare 41 = .ok (.istore 5, 2) := by decide +kernel
theorem dX10_fairShare_43 : decode cX10_fairShare 43 = .ok (.iload 5, 2) := by decide +kernel
theorem dX10_fairShare_45 : decode cX10_fairShare 45 = .ok (.ifCond .le 40, 3) := by decide +kernel
theorem dX10_fairShare_48 : decode cX10_fairShare 48 = .ok (.aload_n 0, 1) := by decide +kernel
theorem dX10_fairShare_49 : decode cX10_fairShare 49 = .ok (.getfield 53, 3) := by decide +kernel
theorem dX10_fairShare_52 : decode cX10_fairShare 52 = .ok (.iload 4, 2) := by decide +kernel
theorem dX10_fairShare_54 : decode cX10_fairShare 54 = .ok (.iaload, 1) := by decide +kernel
theorem dX10_fairShare_55 : decode cX10_fairShare 55 = .ok (.iload_n 1, 1) := by decide +kernel
theorem dX10_fairShare_56 : decode cX10_fairShare 56 = .ok (.invokestatic 311, 3) := by decide +kernel
theorem dX10_fairShare_59 : decode cX10_fairShare 59 = .ok (.ifCond .eq 26, 3) := by decide +kernel
theorem dX10_fairShare_62 : decode cX10_fairShare 62 = .ok (.dload_n 2, 1) := by decide +kernel
theorem dX10_fairShare_63 : decode cX10_fairShare 63 = .ok (.aload_n 0, 1) := by decide +kernel
theorem dX10_fairShare_64 : decode cX10_fairShare 64 = .ok (.getfield 42, 3) := by decide +kernel
theorem dX10_fairShare_67 : decode cX10_fairShare 67 = .ok (.getfield 186, 3) := by decide +kernel
theorem dX10_fairShare_70 : decode cX10_fairShare 70 = .ok (.iload 4, 2) := by decide +kernel
theorem dX10_fairShare_72 : decode cX10_fairShare 72 = .ok (.invokevirtual 265, 3) := by decide +kernel
theorem dX10_fairShare_75 : decode cX10_fairShare 75 = .ok (.getfield 57, 3) := by decide +kernel
theorem dX10_fairShare_78 : decode cX10_fairShare 78 = .ok (.i2d, 1) := by decide +kernel
theorem dX10_fairShare_79 : decode cX10_fairShare 79 = .ok (.iload 5, 2) := by decide +kernel
theorem dX10_fairShare_81 : decode cX10_fairShare 81 = .ok (.i2d, 1) := by decide +kernel
theorem dX10_fairShare_82 : decode cX10_fairShare 82 = .ok (.ddiv, 1) := by decide +kernel
theorem dX10_fairShare_83 : decode cX10_fairShare 83 = .ok (.dadd, 1) := by decide +kernel
theorem dX10_fairShare_84 : decode cX10_fairShare 84 = .ok (.dstore_n 2, 1) := by decide +kernel
theorem dX10_fairShare_85 : decode cX10_fairShare 85 = .ok (.iinc 4 1, 3) := by decide +kernel
theorem dX10_fairShare_88 : decode cX10_fairShare 88 = .ok (.goto (-67), 3) := by decide +kernel
theorem dX10_fairShare_91 : decode cX10_fairShare 91 = .ok (.dload_n 2, 1) := by decide +kernel
theorem dX10_fairShare_92 : decode cX10_fairShare 92 = .ok (.dreturn, 1) := by decide +kernel
theorem dX10_matches_0 : decode cX10_matches 0 = .ok (.aload_n 0, 1) := by decide +kernel
theorem dX10_matches_1 : decode cX10_matches 1 = .ok (.iload_n 1, 1) := by decide +kernel
theorem dX10_matches_2 : decode cX10_matches 2 = .ok (.invokevirtual 169, 3) := by decide +kernel
theorem dX10_matches_5 : decode cX10_matches 5 = .ok (.aload_n 0, 1) := by decide +kernel
theorem dX10_matches_6 : decode cX10_matches 6 = .ok (.getfield 17, 3) := by decide +kernel
theorem dX10_matches_9 : decode cX10_matches 9 = .ok (.invokevirtual 119, 3) := by decide +kernel
theorem dX10_matches_12 : decode cX10_matches 12 = .ok (.lstore_n 2, 1) := by decide +kernel
theorem dX10_matches_13 : decode cX10_matches 13 = .ok (.lload_n 2, 1) := by decide +kernel
theorem dX10_matches_14 : decode cX10_matches 14 = .ok (.lconst 0, 1) := by decide +kernel
theorem dX10_matches_15 : decode cX10_matches 15 = .ok (.lcmp, 1) := by decide +kernel
theorem dX10_matches_16 : decode cX10_matches 16 = .ok (.ifCond .ne 14, 3) := by decide +kernel
theorem dX10_matches_19 : decode cX10_matches 19 = .ok (.new 70, 3) := by decide +kernel
theorem dX10_matches_22 : decode cX10_matches 22 = .ok (.dup, 1) := by decide +kernel
theorem dX10_matches_23 : decode cX10_matches 23 = .ok (.ldc_w 317, 3) := by decide +kernel
theorem dX10_matches_26 : decode cX10_matches 26 = .ok (.invokespecial 74, 3) := by decide +kernel
theorem dX10_matches_29 : decode cX10_matches 29 = .ok (.athrow, 1) := by decide +kernel
theorem dX10_matches_30 : decode cX10_matches 30 = .ok (.aload_n 0, 1) := by decide +kernel
theorem dX10_matches_31 : decode cX10_matches 31 = .ok (.getfield 17, 3) := by decide +kernel
theorem dX10_matches_34 : decode cX10_matches 34 = .ok (.iconst 0, 1) := by decide +kernel
theorem dX10_matches_35 : decode cX10_matches 35 = .ok (.invokevirtual 75, 3) := by decide +kernel
theorem dX10_matches_38 : decode cX10_matches 38 = .ok (.aload_n 0, 1) := by decide +kernel
theorem dX10_matches_39 : decode cX10_matches 39 = .ok (.getfield 42, 3) := by decide +kernel
theorem dX10_matches_42 : decode cX10_matches 42 = .ok (.iload_n 1, 1) := by decide +kernel
theorem dX10_matches_43 : decode cX10_matches 43 = .ok (.lload_n 2, 1) := by decide +kernel
theorem dX10_matches_44 : decode cX10_matches 44 = .ok (.invokevirtual 319, 3) := by decide +kernel
theorem dX10_matches_47 : decode cX10_matches 47 = .ok (.ireturn, 1) := by decide +kernel
theorem dX10_commonBytes_0 : decode cX10_commonBytes 0 = .ok (.aload_n 0, 1) := by decide +kernel
theorem dX10_commonBytes_1 : decode cX10_commonBytes 1 = .ok (.iload_n 1, 1) := by decide +kernel
theorem dX10_commonBytes_2 : decode cX10_commonBytes 2 = .ok (.invokevirtual 169, 3) := by decide +kernel
theorem dX10_commonBytes_5 : decode cX10_commonBytes 5 = .ok (.aload_n 0, 1) := by decide +kernel
theorem dX10_commonBytes_6 : decode cX10_commonBytes 6 = .ok (.iload_n 2, 1) := by decide +kernel
theorem dX10_commonBytes_7 : decode cX10_commonBytes 7 = .ok (.invokevirtual 169, 3) := by decide +kernel
theorem dX10_commonBytes_10 : decode cX10_commonBytes 10 = .ok (.aload_n 0, 1) := by decide +kernel
theorem dX10_commonBytes_11 : decode cX10_commonBytes 11 = .ok (.getfield 42, 3) := by decide +kernel
theorem dX10_commonBytes_14 : decode cX10_commonBytes 14 = .ok (.aload_n 0, 1) := by decide +kernel
theorem dX10_commonBytes_15 : decode cX10_commonBytes 15 = .ok (.getfield 53, 3) := by decide +kernel
theorem dX10_commonBytes_18 : decode cX10_commonBytes 18 = .ok (.invokevirtual 302, 3) := by decide +kernel
theorem dX10_commonBytes_21 : decode cX10_commonBytes 21 = .ok (.iconst 0, 1) := by decide +kernel
theorem dX10_commonBytes_22 : decode cX10_commonBytes 22 = .ok (.istore_n 3, 1) := by decide +kernel
theorem dX10_commonBytes_23 : decode cX10_commonBytes 23 = .ok (.iconst 0, 1) := by decide +kernel
theorem dX10_commonBytes_24 : decode cX10_commonBytes 24 = .ok (.istore 4, 2) := by decide +kernel
theorem dX10_commonBytes_26 : decode cX10_commonBytes 26 = .ok (.iload 4, 2) := by decide +kernel
theorem dX10_commonBytes_28 : decode cX10_commonBytes 28 = .ok (.aload_n 0, 1) := by decide +kernel
theorem dX10_commonBytes_29 : decode cX10_commonBytes 29 = .ok (.getfield 53, 3) := by decide +kernel
theorem dX10_commonBytes_32 : decode cX10_commonBytes 32 = .ok (.arraylength, 1) := by decide +kernel
theorem dX10_commonBytes_33 : decode cX10_commonBytes 33 = .ok (.if_icmp .ge 55, 3) := by decide +kernel
theorem dX10_commonBytes_36 : decode cX10_commonBytes 36 = .ok (.aload_n 0, 1) := by decide +kernel
theorem dX10_commonBytes_37 : decode cX10_commonBytes 37 = .ok (.getfield 53, 3) := by decide +kernel
theorem dX10_commonBytes_40 : decode cX10_commonBytes 40 = .ok (.iload 4, 2) := by decide +kernel
theorem dX10_commonBytes_42 : decode cX10_commonBytes 42 = .ok (.iaload, 1) := by decide +kernel
theorem dX10_commonBytes_43 : decode cX10_commonBytes 43 = .ok (.iload_n 1, 1) := by decide +kernel
theorem dX10_commonBytes_44 : decode cX10_commonBytes 44 = .ok (.invokestatic 311, 3) := by decide +kernel
theorem dX10_commonBytes_47 : decode cX10_commonBytes 47 = .ok (.ifCond .eq 35, 3) := by decide +kernel
theorem dX10_commonBytes_50 : decode cX10_commonBytes 50 = .ok (.aload_n 0, 1) := by decide +kernel
theorem dX10_commonBytes_51 : decode cX10_commonBytes 51 = .ok (.getfield 53, 3) := by decide +kernel
theorem dX10_commonBytes_54 : decode cX10_commonBytes 54 = .ok (.iload 4, 2) := by decide +kernel
theorem dX10_commonBytes_56 : decode cX10_commonBytes 56 = .ok (.iaload, 1) := by decide +kernel
theorem dX10_commonBytes_57 : decode cX10_commonBytes 57 = .ok (.iload_n 2, 1) := by decide +kernel
theorem dX10_commonBytes_58 : decode cX10_commonBytes 58 = .ok (.invokestatic 311, 3) := by decide +kernel
theorem dX10_commonBytes_61 : decode cX10_commonBytes 61 = .ok (.ifCond .eq 21, 3) := by decide +kernel
theorem dX10_commonBytes_64 : decode cX10_commonBytes 64 = .ok (.iload_n 3, 1) := by decide +kernel
theorem dX10_commonBytes_65 : decode cX10_commonBytes 65 = .ok (.aload_n 0, 1) := by decide +kernel
theorem dX10_commonBytes_66 : decode cX10_commonBytes 66 = .ok (.getfield 42, 3) := by decide +kernel
theorem dX10_commonBytes_69 : decode cX10_commonBytes 69 = .ok (.getfield 186, 3) := by decide +kernel
theorem dX10_commonBytes_72 : decode cX10_commonBytes 72 = .ok (.iload 4, 2) := by decide +kernel
theorem dX10_commonBytes_74 : decode cX10_commonBytes 74 = .ok (.invokevirtual 265, 3) := by decide +kernel
theorem dX10_commonBytes_77 : decode cX10_commonBytes 77 = .ok (.getfield 57, 3) := by decide +kernel
theorem dX10_commonBytes_80 : decode cX10_commonBytes 80 = .ok (.iadd, 1) := by decide +kernel
theorem dX10_commonBytes_81 : decode cX10_commonBytes 81 = .ok (.istore_n 3, 1) := by decide +kernel
theorem dX10_commonBytes_82 : decode cX10_commonBytes 82 = .ok (.iinc 4 1, 3) := by decide +kernel
theorem dX10_commonBytes_85 : decode cX10_commonBytes 85 = .ok (.goto (-59), 3) := by decide +kernel
theorem dX10_commonBytes_88 : decode cX10_commonBytes 88 = .ok (.iload_n 3, 1) := by decide +kernel
theorem dX10_commonBytes_89 : decode cX10_commonBytes 89 = .ok (.ireturn, 1) := by decide +kernel
theorem dX10_eventCount_0 : decode cX10_eventCount 0 = .ok (.aload_n 0, 1) := by decide +kernel
theorem dX10_eventCount_1 : decode cX10_eventCount 1 = .ok (.getfield 42, 3) := by decide +kernel
theorem dX10_eventCount_4 : decode cX10_eventCount 4 = .ok (.getfield 388, 3) := by decide +kernel
theorem dX10_eventCount_7 : decode cX10_eventCount 7 = .ok (.getfield 392, 3) := by decide +kernel
theorem dX10_eventCount_10 : decode cX10_eventCount 10 = .ok (.ireturn, 1) := by decide +kernel
theorem dX10_undoCount_0 : decode cX10_undoCount 0 = .ok (.aload_n 0, 1) := by decide +kernel
theorem dX10_undoCount_1 : decode cX10_undoCount 1 = .ok (.getfield 402, 3) := by decide +kernel
theorem dX10_undoCount_4 : decode cX10_undoCount 4 = .ok (.ireturn, 1) := by decide +kernel
theorem dX10_remember_0 : decode cX10_remember 0 = .ok (.aload_n 0, 1) := by decide +kernel
theorem dX10_remember_1 : decode cX10_remember 1 = .ok (.getfield 402, 3) := by decide +kernel
theorem dX10_remember_4 : decode cX10_remember 4 = .ok (.bipush 6, 2) := by decide +kernel
theorem dX10_remember_6 : decode cX10_remember 6 = .ok (.if_icmp .lt 26, 3) := by decide +kernel
theorem dX10_remember_9 : decode cX10_remember 9 = .ok (.aload_n 0, 1) := by decide +kernel
theorem dX10_remember_10 : decode cX10_remember 10 = .ok (.aload_n 0, 1) := by decide +kernel
theorem dX10_remember_11 : decode cX10_remember 11 = .ok (.getfield 437, 3) := by decide +kernel
theorem dX10_remember_14 : decode cX10_remember 14 = .ok (.iconst 1, 1) := by decide +kernel
theorem dX10_remember_15 : decode cX10_remember 15 = .ok (.iadd, 1) := by decide +kernel
theorem dX10_remember_16 : decode cX10_remember 16 = .ok (.bipush 6, 2) := by decide +kernel
theorem dX10_remember_18 : decode cX10_remember 18 = .ok (.irem, 1) := by decide +kernel
theorem dX10_remember_19 : decode cX10_remember 19 = .ok (.putfield 437, 3) := by decide +kernel
theorem dX10_remember_22 : decode cX10_remember 22 = .ok (.aload_n 0, 1) := by decide +kernel
theorem dX10_remember_23 : decode cX10_remember 23 = .ok (.dup, 1) := by decide +kernel
theorem dX10_remember_24 : decode cX10_remember 24 = .ok (.getfield 402, 3) := by decide +kernel
theorem dX10_remember_27 : decode cX10_remember 27 = .ok (.iconst 1, 1) := by decide +kernel
theorem dX10_remember_28 : decode cX10_remember 28 = .ok (.isub, 1) := by decide +kernel
theorem dX10_remember_29 : decode cX10_remember 29 = .ok (.putfield 402, 3) := by decide +kernel
theorem dX10_remember_32 : decode cX10_remember 32 = .ok (.aload_n 0, 1) := by decide +kernel
theorem dX10_remember_33 : decode cX10_remember 33 = .ok (.aload_n 0, 1) := by decide +kernel
theorem dX10_remember_34 : decode cX10_remember 34 = .ok (.getfield 402, 3) := by decide +kernel
theorem dX10_remember_37 : decode cX10_remember 37 = .ok (.invokevirtual 407, 3) := by decide +kernel
theorem dX10_remember_40 : decode cX10_remember 40 = .ok (.astore_n 1, 1) := by decide +kernel
theorem dX10_remember_41 : decode cX10_remember 41 = .ok (.aload_n 1, 1) := by decide +kernel
theorem dX10_remember_42 : decode cX10_remember 42 = .ok (.ifnull 21, 3) := by decide +kernel
theorem dX10_remember_45 : decode cX10_remember 45 = .ok (.aload_n 1, 1) := by decide +kernel
theorem dX10_remember_46 : decode cX10_remember 46 = .ok (.aload_n 0, 1) := by decide +kernel
theorem dX10_remember_47 : decode cX10_remember 47 = .ok (.getfield 42, 3) := by decide +kernel
theorem dX10_remember_50 : decode cX10_remember 50 = .ok (.invokevirtual 411, 3) := by decide +kernel
theorem dX10_remember_53 : decode cX10_remember 53 = .ok (.aload_n 0, 1) := by decide +kernel
theorem dX10_remember_54 : decode cX10_remember 54 = .ok (.dup, 1) := by decide +kernel
theorem dX10_remember_55 : decode cX10_remember 55 = .ok (.getfield 402, 3) := by decide +kernel
theorem dX10_remember_58 : decode cX10_remember 58 = .ok (.iconst 1, 1) := by decide +kernel
theorem dX10_remember_59 : decode cX10_remember 59 = .ok (.iadd, 1) := by decide +kernel
theorem dX10_remember_60 : decode cX10_remember 60 = .ok (.putfield 402, 3) := by decide +kernel
theorem dX10_remember_63 : decode cX10_remember 63 = .ok (.return_, 1) := by decide +kernel
theorem dX10_pastAt_0 : decode cX10_pastAt 0 = .ok (.aload_n 0, 1) := by decide +kernel
theorem dX10_pastAt_1 : decode cX10_pastAt 1 = .ok (.getfield 437, 3) := by decide +kernel
theorem dX10_pastAt_4 : decode cX10_pastAt 4 = .ok (.iload_n 1, 1) := by decide +kernel
theorem dX10_pastAt_5 : decode cX10_pastAt 5 = .ok (.iadd, 1) := by decide +kernel
theorem dX10_pastAt_6 : decode cX10_pastAt 6 = .ok (.bipush 6, 2) := by decide +kernel
theorem dX10_pastAt_8 : decode cX10_pastAt 8 = .ok (.irem, 1) := by decide +kernel
theorem dX10_pastAt_9 : decode cX10_pastAt 9 = .ok (.istore_n 2, 1) := by decide +kernel
theorem dX10_pastAt_10 : decode cX10_pastAt 10 = .ok (.iload_n 2, 1) := by decide +kernel
theorem dX10_pastAt_11 : decode cX10_pastAt 11 = .ok (.ifCond .lt 21, 3) := by decide +kernel
theorem dX10_pastAt_14 : decode cX10_pastAt 14 = .ok (.iload_n 2, 1) := by decide +kernel
theorem dX10_pastAt_15 : decode cX10_pastAt 15 = .ok (.aload_n 0, 1) := by decide +kernel
theorem dX10_pastAt_16 : decode cX10_pastAt 16 = .ok (.getfield 49, 3) := by decide +kernel
theorem dX10_pastAt_19 : decode cX10_pastAt 19 = .ok (.arraylength, 1) := by decide +kernel
theorem dX10_pastAt_20 : decode cX10_pastAt 20 = .ok (.if_icmp .ge 12, 3) := by decide +kernel
theorem dX10_pastAt_23 : decode cX10_pastAt 23 = .ok (.aload_n 0, 1) := by decide +kernel
theorem dX10_pastAt_24 : decode cX10_pastAt 24 = .ok (.getfield 49, 3) := by decide +kernel
theorem dX10_pastAt_27 : decode cX10_pastAt 27 = .ok (.iload_n 2, 1) := by decide +kernel
theorem dX10_pastAt_28 : decode cX10_pastAt 28 = .ok (.aaload, 1) := by decide +kernel
theorem dX10_pastAt_29 : decode cX10_pastAt 29 = .ok (.goto 4, 3) := by decide +kernel
theorem dX10_pastAt_32 : decode cX10_pastAt 32 = .ok (.aconst_null, 1) := by decide +kernel
theorem dX10_pastAt_33 : decode cX10_pastAt 33 = .ok (.areturn, 1) := by decide +kernel
theorem dX10_needKind_0 : decode cX10_needKind 0 = .ok (.iload_n 0, 1) := by decide +kernel
theorem dX10_needKind_1 : decode cX10_needKind 1 = .ok (.ifCond .lt 8, 3) := by decide +kernel
theorem dX10_needKind_4 : decode cX10_needKind 4 = .ok (.iload_n 0, 1) := by decide +kernel
theorem dX10_needKind_5 : decode cX10_needKind 5 = .ok (.iconst 3, 1) := by decide +kernel
theorem dX10_needKind_6 : decode cX10_needKind 6 = .ok (.if_icmp .le 14, 3) := by decide +kernel
theorem dX10_needKind_9 : decode cX10_needKind 9 = .ok (.new 70, 3) := by decide +kernel
theorem dX10_needKind_12 : decode cX10_needKind 12 = .ok (.dup, 1) := by decide +kernel
theorem dX10_needKind_13 : decode cX10_needKind 13 = .ok (.ldc_w 400, 3) := by decide +kernel
theorem dX10_needKind_16 : decode cX10_needKind 16 = .ok (.invokespecial 74, 3) := by decide +kernel
theorem dX10_needKind_19 : decode cX10_needKind 19 = .ok (.athrow, 1) := by decide +kernel
theorem dX10_needKind_20 : decode cX10_needKind 20 = .ok (.return_, 1) := by decide +kernel
theorem dX10_needWhat_0 : decode cX10_needWhat 0 = .ok (.iload_n 0, 1) := by decide +kernel
theorem dX10_needWhat_1 : decode cX10_needWhat 1 = .ok (.ifCond .lt 8, 3) := by decide +kernel
theorem dX10_needWhat_4 : decode cX10_needWhat 4 = .ok (.iload_n 0, 1) := by decide +kernel
theorem dX10_needWhat_5 : decode cX10_needWhat 5 = .ok (.iload_n 1, 1) := by decide +kernel
theorem dX10_needWhat_6 : decode cX10_needWhat 6 = .ok (.if_icmp .le 14, 3) := by decide +kernel
theorem dX10_needWhat_9 : decode cX10_needWhat 9 = .ok (.new 70, 3) := by decide +kernel
theorem dX10_needWhat_12 : decode cX10_needWhat 12 = .ok (.dup, 1) := by decide +kernel
theorem dX10_needWhat_13 : decode cX10_needWhat 13 = .ok (.ldc_w 440, 3) := by decide +kernel
theorem dX10_needWhat_16 : decode cX10_needWhat 16 = .ok (.invokespecial 74, 3) := by decide +kernel
theorem dX10_needWhat_19 : decode cX10_needWhat 19 = .ok (.athrow, 1) := by decide +kernel
theorem dX10_needWhat_20 : decode cX10_needWhat 20 = .ok (.return_, 1) := by decide +kernel
theorem dX10_needClass_0 : decode cX10_needClass 0 = .ok (.aload_n 0, 1) := by decide +kernel
theorem dX10_needClass_1 : decode cX10_needClass 1 = .ok (.getfield 42, 3) := by decide +kernel
theorem dX10_needClass_4 : decode cX10_needClass 4 = .ok (.getfield 104, 3) := by decide +kernel
theorem dX10_needClass_7 : decode cX10_needClass 7 = .ok (.getfield 426, 3) := by decide +kernel
theorem dX10_needClass_10 : decode cX10_needClass 10 = .ok (.iload_n 1, 1) := by decide +kernel
theorem dX10_needClass_11 : decode cX10_needClass 11 = .ok (.invokevirtual 130, 3) := by decide +kernel
theorem dX10_needClass_14 : decode cX10_needClass 14 = .ok (.ifCond .ne 14, 3) := by decide +kernel
theorem dX10_needClass_17 : decode cX10_needClass 17 = .ok (.new 134, 3) := by decide +kernel
theorem dX10_needClass_20 : decode cX10_needClass 20 = .ok (.dup, 1) := by decide +kernel
theorem dX10_needClass_21 : decode cX10_needClass 21 = .ok (.ldc_w 442, 3) := by decide +kernel
theorem dX10_needClass_24 : decode cX10_needClass 24 = .ok (.invokespecial 138, 3) := by decide +kernel
theorem dX10_needClass_27 : decode cX10_needClass 27 = .ok (.athrow, 1) := by decide +kernel
theorem dX10_needClass_28 : decode cX10_needClass 28 = .ok (.return_, 1) := by decide +kernel
theorem dX10_needUser_0 : decode cX10_needUser 0 = .ok (.aload_n 0, 1) := by decide +kernel
theorem dX10_needUser_1 : decode cX10_needUser 1 = .ok (.getfield 42, 3) := by decide +kernel
theorem dX10_needUser_4 : decode cX10_needUser 4 = .ok (.getfield 104, 3) := by decide +kernel
theorem dX10_needUser_7 : decode cX10_needUser 7 = .ok (.getfield 105, 3) := by decide +kernel
theorem dX10_needUser_10 : decode cX10_needUser 10 = .ok (.iload_n 1, 1) := by decide +kernel
theorem dX10_needUser_11 : decode cX10_needUser 11 = .ok (.invokevirtual 130, 3) := by decide +kernel
theorem dX10_needUser_14 : decode cX10_needUser 14 = .ok (.ifCond .ne 14, 3) := by decide +kernel
theorem dX10_needUser_17 : decode cX10_needUser 17 = .ok (.new 134, 3) := by decide +kernel
theorem dX10_needUser_20 : decode cX10_needUser 20 = .ok (.dup, 1) := by decide +kernel
theorem dX10_needUser_21 : decode cX10_needUser 21 = .ok (.ldc_w 444, 3) := by decide +kernel
theorem dX10_needUser_24 : decode cX10_needUser 24 = .ok (.invokespecial 138, 3) := by decide +kernel
theorem dX10_needUser_27 : decode cX10_needUser 27 = .ok (.athrow, 1) := by decide +kernel
theorem dX10_needUser_28 : decode cX10_needUser 28 = .ok (.return_, 1) := by decide +kernel
theorem dX10_needMessage_0 : decode cX10_needMessage 0 = .ok (.iload_n 1, 1) := by decide +kernel
theorem dX10_needMessage_1 : decode cX10_needMessage 1 = .ok (.ifCond .lt 14, 3) := by decide +kernel
theorem dX10_needMessage_4 : decode cX10_needMessage 4 = .ok (.iload_n 1, 1) := by decide +kernel
theorem dX10_needMessage_5 : decode cX10_needMessage 5 = .ok (.aload_n 0, 1) := by decide +kernel
theorem dX10_needMessage_6 : decode cX10_needMessage 6 = .ok (.getfield 42, 3) := by decide +kernel
theorem dX10_needMessage_9 : decode cX10_needMessage 9 = .ok (.getfield 183, 3) := by decide +kernel
theorem dX10_needMessage_12 : decode cX10_needMessage 12 = .ok (.if_icmp .lt 14, 3) := by decide +kernel
theorem dX10_needMessage_15 : decode cX10_needMessage 15 = .ok (.new 134, 3) := by decide +kernel
theorem dX10_needMessage_18 : decode cX10_needMessage 18 = .ok (.dup, 1) := by decide +kernel
theorem dX10_needMessage_19 : decode cX10_needMessage 19 = .ok (.ldc_w 451, 3) := by decide +kernel
theorem dX10_needMessage_22 : decode cX10_needMessage 22 = .ok (.invokespecial 138, 3) := by decide +kernel
theorem dX10_needMessage_25 : decode cX10_needMessage 25 = .ok (.athrow, 1) := by decide +kernel
theorem dX10_needMessage_26 : decode cX10_needMessage 26 = .ok (.return_, 1) := by decide +kernel
theorem dX10_needReference_0 : decode cX10_needReference 0 = .ok (.aload_n 0, 1) := by decide +kernel
theorem dX10_needReference_1 : decode cX10_needReference 1 = .ok (.getfield 42, 3) := by decide +kernel
theorem dX10_needReference_4 : decode cX10_needReference 4 = .ok (.iload_n 1, 1) := by decide +kernel
theorem dX10_needReference_5 : decode cX10_needReference 5 = .ok (.iload_n 2, 1) := by decide +kernel
theorem dX10_needReference_6 : decode cX10_needReference 6 = .ok (.invokevirtual 234, 3) := by decide +kernel
theorem dX10_needReference_9 : decode cX10_needReference 9 = .ok (.iconst (-1), 1) := by decide +kernel
theorem dX10_needReference_10 : decode cX10_needReference 10 = .ok (.if_icmp .ne 14, 3) := by decide +kernel
theorem dX10_needReference_13 : decode cX10_needReference 13 = .ok (.new 134, 3) := by decide +kernel
theorem dX10_needReference_16 : decode cX10_needReference 16 = .ok (.dup, 1) := by decide +kernel
theorem dX10_needReference_17 : decode cX10_needReference 17 = .ok (.ldc_w 453, 3) := by decide +kernel
theorem dX10_needReference_20 : decode cX10_needReference 20 = .ok (.invokespecial 138, 3) := by decide +kernel
theorem dX10_needReference_23 : decode cX10_needReference 23 = .ok (.athrow, 1) := by decide +kernel
theorem dX10_needReference_24 : decode cX10_needReference 24 = .ok (.return_, 1) := by decide +kernel
theorem dX10_needPart_0 : decode cX10_needPart 0 = .ok (.aload_n 0, 1) := by decide +kernel
theorem dX10_needPart_1 : decode cX10_needPart 1 = .ok (.getfield 42, 3) := by decide +kernel
theorem dX10_needPart_4 : decode cX10_needPart 4 = .ok (.getfield 186, 3) := by decide +kernel
theorem dX10_needPart_7 : decode cX10_needPart 7 = .ok (.iload_n 1, 1) := by decide +kernel
theorem dX10_needPart_8 : decode cX10_needPart 8 = .ok (.invokevirtual 376, 3) := by decide +kernel
theorem dX10_needPart_11 : decode cX10_needPart 11 = .ok (.ifCond .ne 14, 3) := by decide +kernel
theorem dX10_needPart_14 : decode cX10_needPart 14 = .ok (.new 134, 3) := by decide +kernel
theorem dX10_needPart_17 : decode cX10_needPart 17 = .ok (.dup, 1) := by decide +kernel
theorem dX10_needPart_18 : decode cX10_needPart 18 = .ok (.ldc_w 257, 3) := by decide +kernel
theorem dX10_needPart_21 : decode cX10_needPart 21 = .ok (.invokespecial 138, 3) := by decide +kernel
theorem dX10_needPart_24 : decode cX10_needPart 24 = .ok (.athrow, 1) := by decide +kernel
theorem dX10_needPart_25 : decode cX10_needPart 25 = .ok (.return_, 1) := by decide +kernel
theorem dX10_at_0 : decode cX10_at 0 = .ok (.iload_n 1, 1) := by decide +kernel
theorem dX10_at_1 : decode cX10_at 1 = .ok (.ifCond .lt 15, 3) := by decide +kernel
theorem dX10_at_4 : decode cX10_at 4 = .ok (.iload_n 1, 1) := by decide +kernel
theorem dX10_at_5 : decode cX10_at 5 = .ok (.aload_n 0, 1) := by decide +kernel
theorem dX10_at_6 : decode cX10_at 6 = .ok (.arraylength, 1) := by decide +kernel
theorem dX10_at_7 : decode cX10_at 7 = .ok (.if_icmp .ge 9, 3) := by decide +kernel
theorem dX10_at_10 : decode cX10_at 10 = .ok (.aload_n 0, 1) := by decide +kernel
theorem dX10_at_11 : decode cX10_at 11 = .ok (.iload_n 1, 1) := by decide +kernel
theorem dX10_at_12 : decode cX10_at 12 = .ok (.iaload, 1) := by decide +kernel
theorem dX10_at_13 : decode cX10_at 13 = .ok (.goto 4, 3) := by decide +kernel
theorem dX10_at_16 : decode cX10_at 16 = .ok (.iconst (-1), 1) := by decide +kernel
theorem dX10_at_17 : decode cX10_at 17 = .ok (.ireturn, 1) := by decide +kernel
theorem dX10_put_0 : decode cX10_put 0 = .ok (.iload_n 1, 1) := by decide +kernel
theorem dX10_put_1 : decode cX10_put 1 = .ok (.ifCond .lt 13, 3) := by decide +kernel
theorem dX10_put_4 : decode cX10_put 4 = .ok (.iload_n 1, 1) := by decide +kernel
theorem dX10_put_5 : decode cX10_put 5 = .ok (.aload_n 0, 1) := by decide +kernel
theorem dX10_put_6 : decode cX10_put 6 = .ok (.arraylength, 1) := by decide +kernel
theorem dX10_put_7 : decode cX10_put 7 = .ok (.if_icmp .ge 7, 3) := by decide +kernel
theorem dX10_put_10 : decode cX10_put 10 = .ok (.aload_n 0, 1) := by decide +kernel
theorem dX10_put_11 : decode cX10_put 11 = .ok (.iload_n 1, 1) := by decide +kernel
theorem dX10_put_12 : decode cX10_put 12 = .ok (.iload_n 2, 1) := by decide +kernel
theorem dX10_put_13 : decode cX10_put 13 = .ok (.iastore, 1) := by decide +kernel
theorem dX10_put_14 : decode cX10_put 14 = .ok (.return_, 1) := by decide +kernel
theorem dX10_copyRow_0 : decode cX10_copyRow 0 = .ok (.aload_n 0, 1) := by decide +kernel
theorem dX10_copyRow_1 : decode cX10_copyRow 1 = .ok (.iconst 0, 1) := by decide +kernel
theorem dX10_copyRow_2 : decode cX10_copyRow 2 = .ok (.aload_n 1, 1) := by decide +kernel
theorem dX10_copyRow_3 : decode cX10_copyRow 3 = .ok (.iconst 0, 1) := by decide +kernel
theorem dX10_copyRow_4 : decode cX10_copyRow 4 = .ok (.aload_n 0, 1) := by decide +kernel
theorem dX10_copyRow_5 : decode cX10_copyRow 5 = .ok (.arraylength, 1) := by decide +kernel
theorem dX10_copyRow_6 : decode cX10_copyRow 6 = .ok (.aload_n 1, 1) := by decide +kernel
theorem dX10_copyRow_7 : decode cX10_copyRow 7 = .ok (.arraylength, 1) := by decide +kernel
theorem dX10_copyRow_8 : decode cX10_copyRow 8 = .ok (.invokestatic 457, 3) := by decide +kernel
theorem dX10_copyRow_11 : decode cX10_copyRow 11 = .ok (.invokestatic 462, 3) := by decide +kernel
theorem dX10_copyRow_14 : decode cX10_copyRow 14 = .ok (.return_, 1) := by decide +kernel
theorem dX10_hasBit_0 : decode cX10_hasBit 0 = .ok (.iload_n 0, 1) := by decide +kernel
theorem dX10_hasBit_1 : decode cX10_hasBit 1 = .ok (.iload_n 1, 1) := by decide +kernel
theorem dX10_hasBit_2 : decode cX10_hasBit 2 = .ok (.ishr, 1) := by decide +kernel
theorem dX10_hasBit_3 : decode cX10_hasBit 3 = .ok (.iconst 1, 1) := by decide +kernel
theorem dX10_hasBit_4 : decode cX10_hasBit 4 = .ok (.iand, 1) := by decide +kernel
theorem dX10_hasBit_5 : decode cX10_hasBit 5 = .ok (.ifCond .eq 7, 3) := by decide +kernel
theorem dX10_hasBit_8 : decode cX10_hasBit 8 = .ok (.iconst 1, 1) := by decide +kernel
theorem dX10_hasBit_9 : decode cX10_hasBit 9 = .ok (.goto 4, 3) := by decide +kernel
theorem dX10_hasBit_12 : decode cX10_hasBit 12 = .ok (.iconst 0, 1) := by decide +kernel
theorem dX10_hasBit_13 : decode cX10_hasBit 13 = .ok (.ireturn, 1) := by decide +kernel
theorem dX10_isLetter_0 : decode cX10_isLetter 0 = .ok (.iload_n 0, 1) := by decide +kernel
theorem dX10_isLetter_1 : decode cX10_isLetter 1 = .ok (.bipush 97, 2) := by decide +kernel
theorem dX10_isLetter_3 : decode cX10_isLetter 3 = .ok (.if_icmp .lt 13, 3) := by decide +kernel
theorem dX10_isLetter_6 : decode cX10_isLetter 6 = .ok (.iload_n 0, 1) := by decide +kernel
theorem dX10_isLetter_7 : decode cX10_isLetter 7 = .ok (.bipush 122, 2) := by decide +kernel
theorem dX10_isLetter_9 : decode cX10_isLetter 9 = .ok (.if_icmp .gt 7, 3) := by decide +kernel
theorem dX10_isLetter_12 : decode cX10_isLetter 12 = .ok (.iconst 1, 1) := by decide +kernel
theorem dX10_isLetter_13 : decode cX10_isLetter 13 = .ok (.goto 4, 3) := by decide +kernel
theorem dX10_isLetter_16 : decode cX10_isLetter 16 = .ok (.iconst 0, 1) := by decide +kernel
theorem dX10_isLetter_17 : decode cX10_isLetter 17 = .ok (.ireturn, 1) := by decide +kernel
theorem dX10_isDigit_0 : decode cX10_isDigit 0 = .ok (.iload_n 0, 1) := by decide +kernel
theorem dX10_isDigit_1 : decode cX10_isDigit 1 = .ok (.bipush 48, 2) := by decide +kernel
theorem dX10_isDigit_3 : decode cX10_isDigit 3 = .ok (.if_icmp .lt 13, 3) := by decide +kernel
theorem dX10_isDigit_6 : decode cX10_isDigit 6 = .ok (.iload_n 0, 1) := by decide +kernel
theorem dX10_isDigit_7 : decode cX10_isDigit 7 = .ok (.bipush 57, 2) := by decide +kernel
theorem dX10_isDigit_9 : decode cX10_isDigit 9 = .ok (.if_icmp .gt 7, 3) := by decide +kernel
theorem dX10_isDigit_12 : decode cX10_isDigit 12 = .ok (.iconst 1, 1) := by decide +kernel
theorem dX10_isDigit_13 : decode cX10_isDigit 13 = .ok (.goto 4, 3) := by decide +kernel
theorem dX10_isDigit_16 : decode cX10_isDigit 16 = .ok (.iconst 0, 1) := by decide +kernel
theorem dX10_isDigit_17 : decode cX10_isDigit 17 = .ok (.ireturn, 1) := by decide +kernel
theorem dX10_withLetter_0 : decode cX10_withLetter 0 = .ok (.lload_n 0, 1) := by decide +kernel
theorem dX10_withLetter_1 : decode cX10_withLetter 1 = .ok (.ldc2_w 468, 3) := by decide +kernel
theorem dX10_withLetter_4 : decode cX10_withLetter 4 = .ok (.lcmp, 1) := by decide +kernel
theorem dX10_withLetter_5 : decode cX10_withLetter 5 = .ok (.ifCond .eq 11, 3) := by decide +kernel
theorem dX10_withLetter_8 : decode cX10_withLetter 8 = .ok (.lload_n 0, 1) := by decide +kernel
theorem dX10_withLetter_9 : decode cX10_withLetter 9 = .ok (.ldc2_w 470, 3) := by decide +kernel
theorem dX10_withLetter_12 : decode cX10_withLetter 12 = .ok (.lcmp, 1) := by decide +kernel
theorem dX10_withLetter_13 : decode cX10_withLetter 13 = .ok (.ifCond .lt 7, 3) := by decide +kernel
theorem dX10_withLetter_16 : decode cX10_withLetter 16 = .ok (.ldc2_w 468, 3) := by decide +kernel
theorem dX10_withLetter_19 : decode cX10_withLetter 19 = .ok (.lreturn, 1) := by decide +kernel
theorem dX10_withLetter_20 : decode cX10_withLetter 20 = .ok (.lload_n 0, 1) := by decide +kernel
theorem dX10_withLetter_21 : decode cX10_withLetter 21 = .ok (.ldc2_w 472, 3) := by decide +kernel
theorem dX10_withLetter_24 : decode cX10_withLetter 24 = .ok (.lmul, 1) := by decide +kernel
theorem dX10_withLetter_25 : decode cX10_withLetter 25 = .ok (.iload_n 2, 1) := by decide +kernel
theorem dX10_withLetter_26 : decode cX10_withLetter 26 = .ok (.bipush 97, 2) := by decide +kernel
theorem dX10_withLetter_28 : decode cX10_withLetter 28 = .ok (.isub, 1) := by decide +kernel
theorem dX10_withLetter_29 : decode cX10_withLetter 29 = .ok (.iconst 1, 1) := by decide +kernel
theorem dX10_withLetter_30 : decode cX10_withLetter 30 = .ok (.iadd, 1) := by decide +kernel
theorem dX10_withLetter_31 : decode cX10_withLetter 31 = .ok (.i2l, 1) := by decide +kernel
theorem dX10_withLetter_32 : decode cX10_withLetter 32 = .ok (.ladd, 1) := by decide +kernel
theorem dX10_withLetter_33 : decode cX10_withLetter 33 = .ok (.lreturn, 1) := by decide +kernel
theorem dJ5_init_d00df_0 : decode cJ5_init_d00df 0 = .ok (.aload_n 0, 1) := by decide +kernel
theorem dJ5_init_d00df_1 : decode cJ5_init_d00df 1 = .ok (.invokespecial 3, 3) := by decide +kernel
theorem dJ5_init_d00df_4 : decode cJ5_init_d00df 4 = .ok (.getstatic 18, 3) := by decide +kernel
theorem dJ5_init_d00df_7 : decode cJ5_init_d00df 7 = .ok (.ifCond .eq 18, 3) := by decide +kernel
theorem dJ5_init_d00df_10 : decode cJ5_init_d00df 10 = .ok (.aload_n 0, 1) := by decide +kernel
theorem dJ5_init_d00df_11 : decode cJ5_init_d00df 11 = .ok (.iload_n 1, 1) := by decide +kernel
theorem dJ5_init_d00df_12 : decode cJ5_init_d00df 12 = .ok (.newarray .byte, 2) := by decide +kernel
theorem dJ5_init_d00df_14 : decode cJ5_init_d00df 14 = .ok (.putfield 15, 3) := by decide +kernel
theorem dJ5_init_d00df_17 : decode cJ5_init_d00df 17 = .ok (.aload_n 0, 1) := by decide +kernel
theorem dJ5_init_d00df_18 : decode cJ5_init_d00df 18 = .ok (.iconst 0, 1) := by decide +kernel
theorem dJ5_init_d00df_19 : decode cJ5_init_d00df 19 = .ok (.putfield 22, 3) := by decide +kernel
theorem dJ5_init_d00df_22 : decode cJ5_init_d00df 22 = .ok (.goto 16, 3) := by decide +kernel
theorem dJ5_init_d00df_25 : decode cJ5_init_d00df 25 = .ok (.aload_n 0, 1) := by decide +kernel
theorem dJ5_init_d00df_26 : decode cJ5_init_d00df 26 = .ok (.iload_n 1, 1) := by decide +kernel
theorem dJ5_init_d00df_27 : decode cJ5_init_d00df 27 = .ok (.invokestatic 26, 3) := by decide +kernel
theorem dJ5_init_d00df_30 : decode cJ5_init_d00df 30 = .ok (.putfield 15, 3) := by decide +kernel
theorem dJ5_init_d00df_33 : decode cJ5_init_d00df 33 = .ok (.aload_n 0, 1) := by decide +kernel
theorem dJ5_init_d00df_34 : decode cJ5_init_d00df 34 = .ok (.iconst 1, 1) := by decide +kernel
theorem dJ5_init_d00df_35 : decode cJ5_init_d00df 35 = .ok (.putfield 22, 3) := by decide +kernel
theorem dJ5_init_d00df_38 : decode cJ5_init_d00df 38 = .ok (.return_, 1) := by decide +kernel
theorem dJ5_init_a7421_0 : decode cJ5_init_a7421 0 = .ok (.aload_n 0, 1) := by decide +kernel
theorem dJ5_init_a7421_1 : decode cJ5_init_a7421 1 = .ok (.invokespecial 3, 3) := by decide +kernel
theorem dJ5_init_a7421_4 : decode cJ5_init_a7421 4 = .ok (.aload_n 1, 1) := by decide +kernel
theorem dJ5_init_a7421_5 : decode cJ5_init_a7421 5 = .ok (.invokevirtual 32, 3) := by decide +kernel
theorem dJ5_init_a7421_8 : decode cJ5_init_a7421 8 = .ok (.istore_n 2, 1) := by decide +kernel
theorem dJ5_init_a7421_9 : decode cJ5_init_a7421 9 = .ok (.iload_n 2, 1) := by decide +kernel
theorem dJ5_init_a7421_10 : decode cJ5_init_a7421 10 = .ok (.ldc 38, 2) := by decide +kernel
theorem dJ5_init_a7421_12 : decode cJ5_init_a7421 12 = .ok (.if_icmp .ge 10, 3) := by decide +kernel
theorem dJ5_init_a7421_15 : decode cJ5_init_a7421 15 = .ok (.iload_n 2, 1) := by decide +kernel
theorem dJ5_init_a7421_16 : decode cJ5_init_a7421 16 = .ok (.bipush 16, 2) := by decide +kernel
theorem dJ5_init_a7421_18 : decode cJ5_init_a7421 18 = .ok (.iadd, 1) := by decide +kernel
theorem dJ5_init_a7421_19 : decode cJ5_init_a7421 19 = .ok (.goto 5, 3) := by decide +kernel
theorem dJ5_init_a7421_22 : decode cJ5_init_a7421 22 = .ok (.ldc 39, 2) := by decide +kernel
theorem dJ5_init_a7421_24 : decode cJ5_init_a7421 24 = .ok (.istore_n 3, 1) := by decide +kernel
theorem dJ5_init_a7421_25 : decode cJ5_init_a7421 25 = .ok (.aload_n 1, 1) := by decide +kernel
theorem dJ5_init_a7421_26 : decode cJ5_init_a7421 26 = .ok (.invokevirtual 40, 3) := by decide +kernel
theorem dJ5_init_a7421_29 : decode cJ5_init_a7421 29 = .ok (.istore 4, 2) := by decide +kernel
theorem dJ5_init_a7421_31 : decode cJ5_init_a7421 31 = .ok (.aload_n 0, 1) := by decide +kernel
theorem dJ5_init_a7421_32 : decode cJ5_init_a7421 32 = .ok (.iload 4, 2) := by decide +kernel
theorem dJ5_init_a7421_34 : decode cJ5_init_a7421 34 = .ok (.putfield 22, 3) := by decide +kernel
theorem dJ5_init_a7421_37 : decode cJ5_init_a7421 37 = .ok (.aload_n 0, 1) := by decide +kernel
theorem dJ5_init_a7421_38 : decode cJ5_init_a7421 38 = .ok (.iload 4, 2) := by decide +kernel
theorem dJ5_init_a7421_40 : decode cJ5_init_a7421 40 = .ok (.ifCond .ne 9, 3) := by decide +kernel
theorem dJ5_init_a7421_43 : decode cJ5_init_a7421 43 = .ok (.iload_n 3, 1) := by decide +kernel
theorem dJ5_init_a7421_44 : decode cJ5_init_a7421 44 = .ok (.newarray .byte, 2) := by decide +kernel
theorem dJ5_init_a7421_46 : decode cJ5_init_a7421 46 = .ok (.goto 7, 3) := by decide +kernel
theorem dJ5_init_a7421_49 : decode cJ5_init_a7421 49 = .ok (.iload_n 3, 1) := by decide +kernel
theorem dJ5_init_a7421_50 : decode cJ5_init_a7421 50 = .ok (.invokestatic 26, 3) := by decide +kernel
theorem dJ5_init_a7421_53 : decode cJ5_init_a7421 53 = .ok (.putfield 15, 3) := by decide +kernel
theorem dJ5_init_a7421_56 : decode cJ5_init_a7421 56 = .ok (.aload_n 0, 1) := by decide +kernel
theorem dJ5_init_a7421_57 : decode cJ5_init_a7421 57 = .ok (.aload_n 1, 1) := by decide +kernel
theorem dJ5_init_a7421_58 : decode cJ5_init_a7421 58 = .ok (.invokevirtual 43, 3) := by decide +kernel
theorem dJ5_init_a7421_61 : decode cJ5_init_a7421 61 = .ok (.pop, 1) := by decide +kernel
theorem dJ5_init_a7421_62 : decode cJ5_init_a7421 62 = .ok (.return_, 1) := by decide +kernel
theorem dJ5_length_8abf5_0 : decode cJ5_length_8abf5 0 = .ok (.aload_n 0, 1) := by decide +kernel
theorem dJ5_length_8abf5_1 : decode cJ5_length_8abf5 1 = .ok (.getfield 79, 3) := by decide +kernel
theorem dJ5_length_8abf5_4 : decode cJ5_length_8abf5 4 = .ok (.ireturn, 1) := by decide +kernel
theorem dJ5_ensureCapacityInternal_d00df_0 : decode cJ5_ensureCapacityInternal_d00df 0 = .ok (.aload_n 0, 1) := by decide +kernel
theorem dJ5_ensureCapacityInternal_d00df_1 : decode cJ5_ensureCapacityInternal_d00df 1 = .ok (.getfield 15, 3) := by decide +kernel
theorem dJ5_ensureCapacityInternal_d00df_4 : decode cJ5_ensureCapacityInternal_d00df 4 = .ok (.arraylength, 1) := by decide +kernel
theorem dJ5_ensureCapacityInternal_d00df_5 : decode cJ5_ensureCapacityInternal_d00df 5 = .ok (.aload_n 0, 1) := by decide +kernel
theorem dJ5_ensureCapacityInternal_d00df_6 : decode cJ5_ensureCapacityInternal_d00df 6 = .ok (.getfield 22, 3) := by decide +kernel
theorem dJ5_ensureCapacityInternal_d00df_9 : decode cJ5_ensureCapacityInternal_d00df 9 = .ok (.ishr, 1) := by decide +kernel
theorem dJ5_ensureCapacityInternal_d00df_10 : decode cJ5_ensureCapacityInternal_d00df 10 = .ok (.istore_n 2, 1) := by decide +kernel
theorem dJ5_ensureCapacityInternal_d00df_11 : decode cJ5_ensureCapacityInternal_d00df 11 = .ok (.iload_n 1, 1) := by decide +kernel
theorem dJ5_ensureCapacityInternal_d00df_12 : decode cJ5_ensureCapacityInternal_d00df 12 = .ok (.iload_n 2, 1) := by decide +kernel
theorem dJ5_ensureCapacityInternal_d00df_13 : decode cJ5_ensureCapacityInternal_d00df 13 = .ok (.isub, 1) := by decide +kernel
theorem dJ5_ensureCapacityInternal_d00df_14 : decode cJ5_ensureCapacityInternal_d00df 14 = .ok (.ifCond .le 24, 3) := by decide +kernel
theorem dJ5_ensureCapacityInternal_d00df_17 : decode cJ5_ensureCapacityInternal_d00df 17 = .ok (.aload_n 0, 1) := by decide +kernel
theorem dJ5_ensureCapacityInternal_d00df_18 : decode cJ5_ensureCapacityInternal_d00df 18 = .ok (.aload_n 0, 1) := by decide +kernel
theorem dJ5_ensureCapacityInternal_d00df_19 : decode cJ5_ensureCapacityInternal_d00df 19 = .ok (.getfield 15, 3) := by decide +kernel
theorem dJ5_ensureCapacityInternal_d00df_22 : decode cJ5_ensureCapacityInternal_d00df 22 = .ok (.aload_n 0, 1) := by decide +kernel
theorem dJ5_ensureCapacityInternal_d00df_23 : decode cJ5_ensureCapacityInternal_d00df 23 = .ok (.iload_n 1, 1) := by decide +kernel
theorem dJ5_ensureCapacityInternal_d00df_24 : decode cJ5_ensureCapacityInternal_d00df 24 = .ok (.invokevirtual 104, 3) := by decide +kernel
theorem dJ5_ensureCapacityInternal_d00df_27 : decode cJ5_ensureCapacityInternal_d00df 27 = .ok (.aload_n 0, 1) := by decide +kernel
theorem dJ5_ensureCapacityInternal_d00df_28 : decode cJ5_ensureCapacityInternal_d00df 28 = .ok (.getfield 22, 3) := by decide +kernel
theorem dJ5_ensureCapacityInternal_d00df_31 : decode cJ5_ensureCapacityInternal_d00df 31 = .ok (.ishl, 1) := by decide +kernel
theorem dJ5_ensureCapacityInternal_d00df_32 : decode cJ5_ensureCapacityInternal_d00df 32 = .ok (.invokestatic 108, 3) := by decide +kernel
theorem dJ5_ensureCapacityInternal_d00df_35 : decode cJ5_ensureCapacityInternal_d00df 35 = .ok (.putfield 15, 3) := by decide +kernel
theorem dJ5_ensureCapacityInternal_d00df_38 : decode cJ5_ensureCapacityInternal_d00df 38 = .ok (.return_, 1) := by decide +kernel
theorem dJ5_newCapacity_0f7a4_0 : decode cJ5_newCapacity_0f7a4 0 = .ok (.aload_n 0, 1) := by decide +kernel
theorem dJ5_newCapacity_0f7a4_1 : decode cJ5_newCapacity_0f7a4 1 = .ok (.getfield 15, 3) := by decide +kernel
theorem dJ5_newCapacity_0f7a4_4 : decode cJ5_newCapacity_0f7a4 4 = .ok (.arraylength, 1) := by decide +kernel
theorem dJ5_newCapacity_0f7a4_5 : decode cJ5_newCapacity_0f7a4 5 = .ok (.istore_n 2, 1) := by decide +kernel
theorem dJ5_newCapacity_0f7a4_6 : decode cJ5_newCapacity_0f7a4 6 = .ok (.iload_n 1, 1) := by decide +kernel
theorem dJ5_newCapacity_0f7a4_7 : decode cJ5_newCapacity_0f7a4 7 = .ok (.aload_n 0, 1) := by decide +kernel
theorem dJ5_newCapacity_0f7a4_8 : decode cJ5_newCapacity_0f7a4 8 = .ok (.getfield 22, 3) := by decide +kernel
theorem dJ5_newCapacity_0f7a4_11 : decode cJ5_newCapacity_0f7a4 11 = .ok (.ishl, 1) := by decide +kernel
theorem dJ5_newCapacity_0f7a4_12 : decode cJ5_newCapacity_0f7a4 12 = .ok (.istore_n 3, 1) := by decide +kernel
theorem dJ5_newCapacity_0f7a4_13 : decode cJ5_newCapacity_0f7a4 13 = .ok (.iload_n 3, 1) := by decide +kernel
theorem dJ5_newCapacity_0f7a4_14 : decode cJ5_newCapacity_0f7a4 14 = .ok (.iload_n 2, 1) := by decide +kernel
theorem dJ5_newCapacity_0f7a4_15 : decode cJ5_newCapacity_0f7a4 15 = .ok (.isub, 1) := by decide +kernel
theorem dJ5_newCapacity_0f7a4_16 : decode cJ5_newCapacity_0f7a4 16 = .ok (.istore 4, 2) := by decide +kernel
theorem dJ5_newCapacity_0f7a4_18 : decode cJ5_newCapacity_0f7a4 18 = .ok (.iload_n 2, 1) := by decide +kernel
theorem dJ5_newCapacity_0f7a4_19 : decode cJ5_newCapacity_0f7a4 19 = .ok (.iload 4, 2) := by decide +kernel
theorem dJ5_newCapacity_0f7a4_21 : decode cJ5_newCapacity_0f7a4 21 = .ok (.iload_n 2, 1) := by decide +kernel
theorem dJ5_newCapacity_0f7a4_22 : decode cJ5_newCapacity_0f7a4 22 = .ok (.iconst 2, 1) := by decide +kernel
theorem dJ5_newCapacity_0f7a4_23 : decode cJ5_newCapacity_0f7a4 23 = .ok (.aload_n 0, 1) := by decide +kernel
theorem dJ5_newCapacity_0f7a4_24 : decode cJ5_newCapacity_0f7a4 24 = .ok (.getfield 22, 3) := by decide +kernel
theorem dJ5_newCapacity_0f7a4_27 : decode cJ5_newCapacity_0f7a4 27 = .ok (.ishl, 1) := by decide +kernel
theorem dJ5_newCapacity_0f7a4_28 : decode cJ5_newCapacity_0f7a4 28 = .ok (.iadd, 1) := by decide +kernel
theorem dJ5_newCapacity_0f7a4_29 : decode cJ5_newCapacity_0f7a4 29 = .ok (.invokestatic 114, 3) := by decide +kernel
theorem dJ5_newCapacity_0f7a4_32 : decode cJ5_newCapacity_0f7a4 32 = .ok (.istore 5, 2) := by decide +kernel
theorem dJ5_newCapacity_0f7a4_34 : decode cJ5_newCapacity_0f7a4 34 = .ok (.iload 5, 2) := by decide +kernel
theorem dJ5_newCapacity_0f7a4_36 : decode cJ5_newCapacity_0f7a4 36 = .ok (.ldc 39, 2) := by decide +kernel
theorem dJ5_newCapacity_0f7a4_38 : decode cJ5_newCapacity_0f7a4 38 = .ok (.if_icmp .ne 13, 3) := by decide +kernel
theorem dJ5_newCapacity_0f7a4_41 : decode cJ5_newCapacity_0f7a4 41 = .ok (.new 120, 3) := by decide +kernel
theorem dJ5_newCapacity_0f7a4_44 : decode cJ5_newCapacity_0f7a4 44 = .ok (.dup, 1) := by decide +kernel
theorem dJ5_newCapacity_0f7a4_45 : decode cJ5_newCapacity_0f7a4 45 = .ok (.ldc 122, 2) := by decide +kernel
theorem dJ5_newCapacity_0f7a4_47 : decode cJ5_newCapacity_0f7a4 47 = .ok (.invokespecial 124, 3) := by decide +kernel
theorem dJ5_newCapacity_0f7a4_50 : decode cJ5_newCapacity_0f7a4 50 = .ok (.athrow, 1) := by decide +kernel
theorem dJ5_newCapacity_0f7a4_51 : decode cJ5_newCapacity_0f7a4 51 = .ok (.iload 5, 2) := by decide +kernel
theorem dJ5_newCapacity_0f7a4_53 : decode cJ5_newCapacity_0f7a4 53 = .ok (.aload_n 0, 1) := by decide +kernel
theorem dJ5_newCapacity_0f7a4_54 : decode cJ5_newCapacity_0f7a4 54 = .ok (.getfield 22, 3) := by decide +kernel
theorem dJ5_newCapacity_0f7a4_57 : decode cJ5_newCapacity_0f7a4 57 = .ok (.ishr, 1) := by decide +kernel
theorem dJ5_newCapacity_0f7a4_58 : decode cJ5_newCapacity_0f7a4 58 = .ok (.ireturn, 1) := by decide +kernel
theorem dJ5_inflate_da8c8_0 : decode cJ5_inflate_da8c8 0 = .ok (.aload_n 0, 1) := by decide +kernel
theorem dJ5_inflate_da8c8_1 : decode cJ5_inflate_da8c8 1 = .ok (.invokevirtual 83, 3) := by decide +kernel
theorem dJ5_inflate_da8c8_4 : decode cJ5_inflate_da8c8 4 = .ok (.ifCond .ne 4, 3) := by decide +kernel
theorem dJ5_inflate_da8c8_7 : decode cJ5_inflate_da8c8 7 = .ok (.return_, 1) := by decide +kernel
theorem dJ5_inflate_da8c8_8 : decode cJ5_inflate_da8c8 8 = .ok (.aload_n 0, 1) := by decide +kernel
theorem dJ5_inflate_da8c8_9 : decode cJ5_inflate_da8c8 9 = .ok (.getfield 15, 3) := by decide +kernel
theorem dJ5_inflate_da8c8_12 : decode cJ5_inflate_da8c8 12 = .ok (.arraylength, 1) := by decide +kernel
theorem dJ5_inflate_da8c8_13 : decode cJ5_inflate_da8c8 13 = .ok (.invokestatic 26, 3) := by decide +kernel
theorem dJ5_inflate_da8c8_16 : decode cJ5_inflate_da8c8 16 = .ok (.astore_n 1, 1) := by decide +kernel
theorem dJ5_inflate_da8c8_17 : decode cJ5_inflate_da8c8 17 = .ok (.aload_n 0, 1) := by decide +kernel
theorem dJ5_inflate_da8c8_18 : decode cJ5_inflate_da8c8 18 = .ok (.getfield 15, 3) := by decide +kernel
theorem dJ5_inflate_da8c8_21 : decode cJ5_inflate_da8c8 21 = .ok (.iconst 0, 1) := by decide +kernel
theorem dJ5_inflate_da8c8_22 : decode cJ5_inflate_da8c8 22 = .ok (.aload_n 1, 1) := by decide +kernel
theorem dJ5_inflate_da8c8_23 : decode cJ5_inflate_da8c8 23 = .ok (.iconst 0, 1) := by decide +kernel
theorem dJ5_inflate_da8c8_24 : decode cJ5_inflate_da8c8 24 = .ok (.aload_n 0, 1) := by decide +kernel
theorem dJ5_inflate_da8c8_25 : decode cJ5_inflate_da8c8 25 = .ok (.getfield 79, 3) := by decide +kernel
theorem dJ5_inflate_da8c8_28 : decode cJ5_inflate_da8c8 28 = .ok (.invokestatic 125, 3) := by decide +kernel
theorem dJ5_inflate_da8c8_31 : decode cJ5_inflate_da8c8 31 = .ok (.aload_n 0, 1) := by decide +kernel
theorem dJ5_inflate_da8c8_32 : decode cJ5_inflate_da8c8 32 = .ok (.aload_n 1, 1) := by decide +kernel
theorem dJ5_inflate_da8c8_33 : decode cJ5_inflate_da8c8 33 = .ok (.putfield 15, 3) := by decide +kernel
theorem dJ5_inflate_da8c8_36 : decode cJ5_inflate_da8c8 36 = .ok (.aload_n 0, 1) := by decide +kernel
theorem dJ5_inflate_da8c8_37 : decode cJ5_inflate_da8c8 37 = .ok (.iconst 1, 1) := by decide +kernel
theorem dJ5_inflate_da8c8_38 : decode cJ5_inflate_da8c8 38 = .ok (.putfield 22, 3) := by decide +kernel
theorem dJ5_inflate_da8c8_41 : decode cJ5_inflate_da8c8 41 = .ok (.return_, 1) := by decide +kernel
theorem dJ5_append_cf1ce_0 : decode cJ5_append_cf1ce 0 = .ok (.aload_n 1, 1) := by decide +kernel
theorem dJ5_append_cf1ce_1 : decode cJ5_append_cf1ce 1 = .ok (.ifnonnull 8, 3) := by decide +kernel
theorem dJ5_append_cf1ce_4 : decode cJ5_append_cf1ce 4 = .ok (.aload_n 0, 1) := by decide +kernel
theorem dJ5_append_cf1ce_5 : decode cJ5_append_cf1ce 5 = .ok (.invokevirtual 204, 3) := by decide +kernel
theorem dJ5_append_cf1ce_8 : decode cJ5_append_cf1ce 8 = .ok (.areturn, 1) := by decide +kernel
theorem dJ5_append_cf1ce_9 : decode cJ5_append_cf1ce 9 = .ok (.aload_n 1, 1) := by decide +kernel
theorem dJ5_append_cf1ce_10 : decode cJ5_append_cf1ce 10 = .ok (.invokevirtual 32, 3) := by decide +kernel
theorem dJ5_append_cf1ce_13 : decode cJ5_append_cf1ce 13 = .ok (.istore_n 2, 1) := by decide +kernel
theorem dJ5_append_cf1ce_14 : decode cJ5_append_cf1ce 14 = .ok (.aload_n 0, 1) := by decide +kernel
theorem dJ5_append_cf1ce_15 : decode cJ5_append_cf1ce 15 = .ok (.aload_n 0, 1) := by decide +kernel
theorem dJ5_append_cf1ce_16 : decode cJ5_append_cf1ce 16 = .ok (.getfield 79, 3) := by decide +kernel
theorem dJ5_append_cf1ce_19 : decode cJ5_append_cf1ce 19 = .ok (.iload_n 2, 1) := by decide +kernel
theorem dJ5_append_cf1ce_20 : decode cJ5_append_cf1ce 20 = .ok (.iadd, 1) := by decide +kernel
theorem dJ5_append_cf1ce_21 : decode cJ5_append_cf1ce 21 = .ok (.invokevirtual 100, 3) := by decide +kernel
theorem dJ5_append_cf1ce_24 : decode cJ5_append_cf1ce 24 = .ok (.aload_n 0, 1) := by decide +kernel
theorem dJ5_append_cf1ce_25 : decode cJ5_append_cf1ce 25 = .ok (.aload_n 0, 1) := by decide +kernel
theorem dJ5_append_cf1ce_26 : decode cJ5_append_cf1ce 26 = .ok (.getfield 79, 3) := by decide +kernel
theorem dJ5_append_cf1ce_29 : decode cJ5_append_cf1ce 29 = .ok (.aload_n 1, 1) := by decide +kernel
theorem dJ5_append_cf1ce_30 : decode cJ5_append_cf1ce 30 = .ok (.invokevirtual 208, 3) := by decide +kernel
theorem dJ5_append_cf1ce_33 : decode cJ5_append_cf1ce 33 = .ok (.aload_n 0, 1) := by decide +kernel
theorem dJ5_append_cf1ce_34 : decode cJ5_append_cf1ce 34 = .ok (.dup, 1) := by decide +kernel
theorem dJ5_append_cf1ce_35 : decode cJ5_append_cf1ce 35 = .ok (.getfield 79, 3) := by decide +kernel
theorem dJ5_append_cf1ce_38 : decode cJ5_append_cf1ce 38 = .ok (.iload_n 2, 1) := by decide +kernel
theorem dJ5_append_cf1ce_39 : decode cJ5_append_cf1ce 39 = .ok (.iadd, 1) := by decide +kernel
theorem dJ5_append_cf1ce_40 : decode cJ5_append_cf1ce 40 = .ok (.putfield 79, 3) := by decide +kernel
theorem dJ5_append_cf1ce_43 : decode cJ5_append_cf1ce 43 = .ok (.aload_n 0, 1) := by decide +kernel
theorem dJ5_append_cf1ce_44 : decode cJ5_append_cf1ce 44 = .ok (.areturn, 1) := by decide +kernel
theorem dJ5_appendNull_278bc_0 : decode cJ5_appendNull_278bc 0 = .ok (.aload_n 0, 1) := by decide +kernel
theorem dJ5_appendNull_278bc_1 : decode cJ5_appendNull_278bc 1 = .ok (.aload_n 0, 1) := by decide +kernel
theorem dJ5_appendNull_278bc_2 : decode cJ5_appendNull_278bc 2 = .ok (.getfield 79, 3) := by decide +kernel
theorem dJ5_appendNull_278bc_5 : decode cJ5_appendNull_278bc 5 = .ok (.iconst 4, 1) := by decide +kernel
theorem dJ5_appendNull_278bc_6 : decode cJ5_appendNull_278bc 6 = .ok (.iadd, 1) := by decide +kernel
theorem dJ5_appendNull_278bc_7 : decode cJ5_appendNull_278bc 7 = .ok (.invokevirtual 100, 3) := by decide +kernel
theorem dJ5_appendNull_278bc_10 : decode cJ5_appendNull_278bc 10 = .ok (.aload_n 0, 1) := by decide +kernel
theorem dJ5_appendNull_278bc_11 : decode cJ5_appendNull_278bc 11 = .ok (.getfield 79, 3) := by decide +kernel
theorem dJ5_appendNull_278bc_14 : decode cJ5_appendNull_278bc 14 = .ok (.istore_n 1, 1) := by decide +kernel
theorem dJ5_appendNull_278bc_15 : decode cJ5_appendNull_278bc 15 = .ok (.aload_n 0, 1) := by decide +kernel
theorem dJ5_appendNull_278bc_16 : decode cJ5_appendNull_278bc 16 = .ok (.getfield 15, 3) := by decide +kernel
theorem dJ5_appendNull_278bc_19 : decode cJ5_appendNull_278bc 19 = .ok (.astore_n 2, 1) := by decide +kernel
theorem dJ5_appendNull_278bc_20 : decode cJ5_appendNull_278bc 20 = .ok (.aload_n 0, 1) := by decide +kernel
theorem dJ5_appendNull_278bc_21 : decode cJ5_appendNull_278bc 21 = .ok (.invokevirtual 83, 3) := by decide +kernel
theorem dJ5_appendNull_278bc_24 : decode cJ5_appendNull_278bc 24 = .ok (.ifCond .eq 38, 3) := by decide +kernel
theorem dJ5_appendNull_278bc_27 : decode cJ5_appendNull_278bc 27 = .ok (.aload_n 2, 1) := by decide +kernel
theorem dJ5_appendNull_278bc_28 : decode cJ5_appendNull_278bc 28 = .ok (.iload_n 1, 1) := by decide +kernel
theorem dJ5_appendNull_278bc_29 : decode cJ5_appendNull_278bc 29 = .ok (.iinc 1 1, 3) := by decide +kernel
theorem dJ5_appendNull_278bc_32 : decode cJ5_appendNull_278bc 32 = .ok (.bipush 110, 2) := by decide +kernel
theorem dJ5_appendNull_278bc_34 : decode cJ5_appendNull_278bc 34 = .ok (.bastore, 1) := by decide +kernel
theorem dJ5_appendNull_278bc_35 : decode cJ5_appendNull_278bc 35 = .ok (.aload_n 2, 1) := by decide +kernel
theorem dJ5_appendNull_278bc_36 : decode cJ5_appendNull_278bc 36 = .ok (.iload_n 1, 1) := by decide +kernel
theorem dJ5_appendNull_278bc_37 : decode cJ5_appendNull_278bc 37 = .ok (.iinc 1 1, 3) := by decide +kernel
theorem dJ5_appendNull_278bc_40 : decode cJ5_appendNull_278bc 40 = .ok (.bipush 117, 2) := by decide +kernel
theorem dJ5_appendNull_278bc_42 : decode cJ5_appendNull_278bc 42 = .ok (.bastore, 1) := by decide +kernel
theorem dJ5_appendNull_278bc_43 : decode cJ5_appendNull_278bc 43 = .ok (.aload_n 2, 1) := by decide +kernel
theorem dJ5_appendNull_278bc_44 : decode cJ5_appendNull_278bc 44 = .ok (.iload_n 1, 1) := by decide +kernel
theorem dJ5_appendNull_278bc_45 : decode cJ5_appendNull_278bc 45 = .ok (.iinc 1 1, 3) := by decide +kernel
theorem dJ5_appendNull_278bc_48 : decode cJ5_appendNull_278bc 48 = .ok (.bipush 108, 2) := by decide +kernel
theorem dJ5_appendNull_278bc_50 : decode cJ5_appendNull_278bc 50 = .ok (.bastore, 1) := by decide +kernel
theorem dJ5_appendNull_278bc_51 : decode cJ5_appendNull_278bc 51 = .ok (.aload_n 2, 1) := by decide +kernel
theorem dJ5_appendNull_278bc_52 : decode cJ5_appendNull_278bc 52 = .ok (.iload_n 1, 1) := by decide +kernel
theorem dJ5_appendNull_278bc_53 : decode cJ5_appendNull_278bc 53 = .ok (.iinc 1 1, 3) := by decide +kernel
theorem dJ5_appendNull_278bc_56 : decode cJ5_appendNull_278bc 56 = .ok (.bipush 108, 2) := by decide +kernel
theorem dJ5_appendNull_278bc_58 : decode cJ5_appendNull_278bc 58 = .ok (.bastore, 1) := by decide +kernel
theorem dJ5_appendNull_278bc_59 : decode cJ5_appendNull_278bc 59 = .ok (.goto 17, 3) := by decide +kernel
theorem dJ5_appendNull_278bc_62 : decode cJ5_appendNull_278bc 62 = .ok (.aload_n 2, 1) := by decide +kernel
theorem dJ5_appendNull_278bc_63 : decode cJ5_appendNull_278bc 63 = .ok (.iload_n 1, 1) := by decide +kernel
theorem dJ5_appendNull_278bc_64 : decode cJ5_appendNull_278bc 64 = .ok (.bipush 110, 2) := by decide +kernel
theorem dJ5_appendNull_278bc_66 : decode cJ5_appendNull_278bc 66 = .ok (.bipush 117, 2) := by decide +kernel
theorem dJ5_appendNull_278bc_68 : decode cJ5_appendNull_278bc 68 = .ok (.bipush 108, 2) := by decide +kernel
theorem dJ5_appendNull_278bc_70 : decode cJ5_appendNull_278bc 70 = .ok (.bipush 108, 2) := by decide +kernel
theorem dJ5_appendNull_278bc_72 : decode cJ5_appendNull_278bc 72 = .ok (.invokestatic 226, 3) := by decide +kernel
theorem dJ5_appendNull_278bc_75 : decode cJ5_appendNull_278bc 75 = .ok (.istore_n 1, 1) := by decide +kernel
theorem dJ5_appendNull_278bc_76 : decode cJ5_appendNull_278bc 76 = .ok (.aload_n 0, 1) := by decide +kernel
theorem dJ5_appendNull_278bc_77 : decode cJ5_appendNull_278bc 77 = .ok (.iload_n 1, 1) := by decide +kernel
theorem dJ5_appendNull_278bc_78 : decode cJ5_appendNull_278bc 78 = .ok (.putfield 79, 3) := by decide +kernel
theorem dJ5_appendNull_278bc_81 : decode cJ5_appendNull_278bc 81 = .ok (.aload_n 0, 1) := by decide +kernel
theorem dJ5_appendNull_278bc_82 : decode cJ5_appendNull_278bc 82 = .ok (.areturn, 1) := by decide +kernel
theorem dJ5_append_3fe6f_0 : decode cJ5_append_3fe6f 0 = .ok (.aload_n 0, 1) := by decide +kernel
theorem dJ5_append_3fe6f_1 : decode cJ5_append_3fe6f 1 = .ok (.aload_n 0, 1) := by decide +kernel
theorem dJ5_append_3fe6f_2 : decode cJ5_append_3fe6f 2 = .ok (.getfield 79, 3) := by decide +kernel
theorem dJ5_append_3fe6f_5 : decode cJ5_append_3fe6f 5 = .ok (.iconst 1, 1) := by decide +kernel
theorem dJ5_append_3fe6f_6 : decode cJ5_append_3fe6f 6 = .ok (.iadd, 1) := by decide +kernel
theorem dJ5_append_3fe6f_7 : decode cJ5_append_3fe6f 7 = .ok (.invokevirtual 100, 3) := by decide +kernel
theorem dJ5_append_3fe6f_10 : decode cJ5_append_3fe6f 10 = .ok (.aload_n 0, 1) := by decide +kernel
theorem dJ5_append_3fe6f_11 : decode cJ5_append_3fe6f 11 = .ok (.invokevirtual 83, 3) := by decide +kernel
theorem dJ5_append_3fe6f_14 : decode cJ5_append_3fe6f 14 = .ok (.ifCond .eq 31, 3) := by decide +kernel
theorem dJ5_append_3fe6f_17 : decode cJ5_append_3fe6f 17 = .ok (.iload_n 1, 1) := by decide +kernel
theorem dJ5_append_3fe6f_18 : decode cJ5_append_3fe6f 18 = .ok (.invokestatic 191, 3) := by decide +kernel
theorem dJ5_append_3fe6f_21 : decode cJ5_append_3fe6f 21 = .ok (.ifCond .eq 24, 3) := by decide +kernel
theorem dJ5_append_3fe6f_24 : decode cJ5_append_3fe6f 24 = .ok (.aload_n 0, 1) := by decide +kernel
theorem dJ5_append_3fe6f_25 : decode cJ5_append_3fe6f 25 = .ok (.getfield 15, 3) := by decide +kernel
theorem dJ5_append_3fe6f_28 : decode cJ5_append_3fe6f 28 = .ok (.aload_n 0, 1) := by decide +kernel
theorem dJ5_append_3fe6f_29 : decode cJ5_append_3fe6f 29 = .ok (.dup, 1) := by decide +kernel
theorem dJ5_append_3fe6f_30 : decode cJ5_append_3fe6f 30 = .ok (.getfield 79, 3) := by decide +kernel
theorem dJ5_append_3fe6f_33 : decode cJ5_append_3fe6f 33 = .ok (.dup_x1, 1) := by decide +kernel
theorem dJ5_append_3fe6f_34 : decode cJ5_append_3fe6f 34 = .ok (.iconst 1, 1) := by decide +kernel
theorem dJ5_append_3fe6f_35 : decode cJ5_append_3fe6f 35 = .ok (.iadd, 1) := by decide +kernel
theorem dJ5_append_3fe6f_36 : decode cJ5_append_3fe6f 36 = .ok (.putfield 79, 3) := by decide +kernel
theorem dJ5_append_3fe6f_39 : decode cJ5_append_3fe6f 39 = .ok (.iload_n 1, 1) := by decide +kernel
theorem dJ5_append_3fe6f_40 : decode cJ5_append_3fe6f 40 = .ok (.i2b, 1) := by decide +kernel
theorem dJ5_append_3fe6f_41 : decode cJ5_append_3fe6f 41 = .ok (.bastore, 1) := by decide +kernel
theorem dJ5_append_3fe6f_42 : decode cJ5_append_3fe6f 42 = .ok (.goto 33, 3) := by decide +kernel
theorem dJ5_append_3fe6f_45 : decode cJ5_append_3fe6f 45 = .ok (.aload_n 0, 1) := by decide +kernel
theorem dJ5_append_3fe6f_46 : decode cJ5_append_3fe6f 46 = .ok (.invokevirtual 83, 3) := by decide +kernel
theorem dJ5_append_3fe6f_49 : decode cJ5_append_3fe6f 49 = .ok (.ifCond .eq 7, 3) := by decide +kernel
theorem dJ5_append_3fe6f_52 : decode cJ5_append_3fe6f 52 = .ok (.aload_n 0, 1) := by decide +kernel
theorem dJ5_append_3fe6f_53 : decode cJ5_append_3fe6f 53 = .ok (.invokevirtual 195, 3) := by decide +kernel
theorem dJ5_append_3fe6f_56 : decode cJ5_append_3fe6f 56 = .ok (.aload_n 0, 1) := by decide +kernel
theorem dJ5_append_3fe6f_57 : decode cJ5_append_3fe6f 57 = .ok (.getfield 15, 3) := by decide +kernel
theorem dJ5_append_3fe6f_60 : decode cJ5_append_3fe6f 60 = .ok (.aload_n 0, 1) := by decide +kernel
theorem dJ5_append_3fe6f_61 : decode cJ5_append_3fe6f 61 = .ok (.dup, 1) := by decide +kernel
theorem dJ5_append_3fe6f_62 : decode cJ5_append_3fe6f 62 = .ok (.getfield 79, 3) := by decide +kernel
theorem dJ5_append_3fe6f_65 : decode cJ5_append_3fe6f 65 = .ok (.dup_x1, 1) := by decide +kernel
theorem dJ5_append_3fe6f_66 : decode cJ5_append_3fe6f 66 = .ok (.iconst 1, 1) := by decide +kernel
theorem dJ5_append_3fe6f_67 : decode cJ5_append_3fe6f 67 = .ok (.iadd, 1) := by decide +kernel
theorem dJ5_append_3fe6f_68 : decode cJ5_append_3fe6f 68 = .ok (.putfield 79, 3) := by decide +kernel
theorem dJ5_append_3fe6f_71 : decode cJ5_append_3fe6f 71 = .ok (.iload_n 1, 1) := by decide +kernel
theorem dJ5_append_3fe6f_72 : decode cJ5_append_3fe6f 72 = .ok (.invokestatic 197, 3) := by decide +kernel
theorem dJ5_append_3fe6f_75 : decode cJ5_append_3fe6f 75 = .ok (.aload_n 0, 1) := by decide +kernel
theorem dJ5_append_3fe6f_76 : decode cJ5_append_3fe6f 76 = .ok (.areturn, 1) := by decide +kernel
theorem dJ5_append_c97b9_0 : decode cJ5_append_c97b9 0 = .ok (.aload_n 0, 1) := by decide +kernel
theorem dJ5_append_c97b9_1 : decode cJ5_append_c97b9 1 = .ok (.getfield 79, 3) := by decide +kernel
theorem dJ5_append_c97b9_4 : decode cJ5_append_c97b9 4 = .ok (.istore_n 2, 1) := by decide +kernel
theorem dJ5_append_c97b9_5 : decode cJ5_append_c97b9 5 = .ok (.iload_n 2, 1) := by decide +kernel
theorem dJ5_append_c97b9_6 : decode cJ5_append_c97b9 6 = .ok (.iload_n 1, 1) := by decide +kernel
theorem dJ5_append_c97b9_7 : decode cJ5_append_c97b9 7 = .ok (.invokestatic 245, 3) := by decide +kernel
theorem dJ5_append_c97b9_10 : decode cJ5_append_c97b9 10 = .ok (.iadd, 1) := by decide +kernel
theorem dJ5_append_c97b9_11 : decode cJ5_append_c97b9 11 = .ok (.istore_n 3, 1) := by decide +kernel
theorem dJ5_append_c97b9_12 : decode cJ5_append_c97b9 12 = .ok (.aload_n 0, 1) := by decide +kernel
theorem dJ5_append_c97b9_13 : decode cJ5_append_c97b9 13 = .ok (.iload_n 3, 1) := by decide +kernel
theorem dJ5_append_c97b9_14 : decode cJ5_append_c97b9 14 = .ok (.invokevirtual 100, 3) := by decide +kernel
theorem dJ5_append_c97b9_17 : decode cJ5_append_c97b9 17 = .ok (.aload_n 0, 1) := by decide +kernel
theorem dJ5_append_c97b9_18 : decode cJ5_append_c97b9 18 = .ok (.invokevirtual 83, 3) := by decide +kernel
theorem dJ5_append_c97b9_21 : decode cJ5_append_c97b9 21 = .ok (.ifCond .eq 16, 3) := by decide +kernel
theorem dJ5_append_c97b9_24 : decode cJ5_append_c97b9 24 = .ok (.iload_n 1, 1) := by decide +kernel
theorem dJ5_append_c97b9_25 : decode cJ5_append_c97b9 25 = .ok (.iload_n 3, 1) := by decide +kernel
theorem dJ5_append_c97b9_26 : decode cJ5_append_c97b9 26 = .ok (.aload_n 0, 1) := by decide +kernel
theorem dJ5_append_c97b9_27 : decode cJ5_append_c97b9 27 = .ok (.getfield 15, 3) := by decide +kernel
theorem dJ5_append_c97b9_30 : decode cJ5_append_c97b9 30 = .ok (.invokestatic 248, 3) := by decide +kernel
theorem dJ5_append_c97b9_33 : decode cJ5_append_c97b9 33 = .ok (.pop, 1) := by decide +kernel
theorem dJ5_append_c97b9_34 : decode cJ5_append_c97b9 34 = .ok (.goto 14, 3) := by decide +kernel
theorem dJ5_append_c97b9_37 : decode cJ5_append_c97b9 37 = .ok (.iload_n 1, 1) := by decide +kernel
theorem dJ5_append_c97b9_38 : decode cJ5_append_c97b9 38 = .ok (.iload_n 2, 1) := by decide +kernel
theorem dJ5_append_c97b9_39 : decode cJ5_append_c97b9 39 = .ok (.iload_n 3, 1) := by decide +kernel
theorem dJ5_append_c97b9_40 : decode cJ5_append_c97b9 40 = .ok (.aload_n 0, 1) := by decide +kernel
theorem dJ5_append_c97b9_41 : decode cJ5_append_c97b9 41 = .ok (.getfield 15, 3) := by decide +kernel
theorem dJ5_append_c97b9_44 : decode cJ5_append_c97b9 44 = .ok (.invokestatic 251, 3) := by decide +kernel
theorem dJ5_append_c97b9_47 : decode cJ5_append_c97b9 47 = .ok (.pop, 1) := by decide +kernel
theorem dJ5_append_c97b9_48 : decode cJ5_append_c97b9 48 = .ok (.aload_n 0, 1) := by decide +kernel
theorem dJ5_append_c97b9_49 : decode cJ5_append_c97b9 49 = .ok (.iload_n 3, 1) := by decide +kernel
theorem dJ5_append_c97b9_50 : decode cJ5_append_c97b9 50 = .ok (.putfield 79, 3) := by decide +kernel
theorem dJ5_append_c97b9_53 : decode cJ5_append_c97b9 53 = .ok (.aload_n 0, 1) := by decide +kernel
theorem dJ5_append_c97b9_54 : decode cJ5_append_c97b9 54 = .ok (.areturn, 1) := by decide +kernel
theorem dJ5_getValue_6d5f1_0 : decode cJ5_getValue_6d5f1 0 = .ok (.aload_n 0, 1) := by decide +kernel
theorem dJ5_getValue_6d5f1_1 : decode cJ5_getValue_6d5f1 1 = .ok (.getfield 15, 3) := by decide +kernel
theorem dJ5_getValue_6d5f1_4 : decode cJ5_getValue_6d5f1 4 = .ok (.areturn, 1) := by decide +kernel
theorem dJ5_isLatin1_aae02_0 : decode cJ5_isLatin1_aae02 0 = .ok (.getstatic 18, 3) := by decide +kernel
theorem dJ5_isLatin1_aae02_3 : decode cJ5_isLatin1_aae02 3 = .ok (.ifCond .eq 14, 3) := by decide +kernel
theorem dJ5_isLatin1_aae02_6 : decode cJ5_isLatin1_aae02 6 = .ok (.aload_n 0, 1) := by decide +kernel
theorem dJ5_isLatin1_aae02_7 : decode cJ5_isLatin1_aae02 7 = .ok (.getfield 22, 3) := by decide +kernel
theorem dJ5_isLatin1_aae02_10 : decode cJ5_isLatin1_aae02 10 = .ok (.ifCond .ne 7, 3) := by decide +kernel
theorem dJ5_isLatin1_aae02_13 : decode cJ5_isLatin1_aae02 13 = .ok (.iconst 1, 1) := by decide +kernel
theorem dJ5_isLatin1_aae02_14 : decode cJ5_isLatin1_aae02 14 = .ok (.goto 4, 3) := by decide +kernel
theorem dJ5_isLatin1_aae02_17 : decode cJ5_isLatin1_aae02 17 = .ok (.iconst 0, 1) := by decide +kernel
theorem dJ5_isLatin1_aae02_18 : decode cJ5_isLatin1_aae02 18 = .ok (.ireturn, 1) := by decide +kernel
theorem dJ5_inflateIfNeededFor_a7421_0 : decode cJ5_inflateIfNeededFor_a7421 0 = .ok (.getstatic 18, 3) := by decide +kernel
theorem dJ5_inflateIfNeededFor_a7421_3 : decode cJ5_inflateIfNeededFor_a7421 3 = .ok (.ifCond .eq 18, 3) := by decide +kernel
theorem dJ5_inflateIfNeededFor_a7421_6 : decode cJ5_inflateIfNeededFor_a7421 6 = .ok (.aload_n 0, 1) := by decide +kernel
theorem dJ5_inflateIfNeededFor_a7421_7 : decode cJ5_inflateIfNeededFor_a7421 7 = .ok (.getfield 22, 3) := by decide +kernel
theorem dJ5_inflateIfNeededFor_a7421_10 : decode cJ5_inflateIfNeededFor_a7421 10 = .ok (.aload_n 1, 1) := by decide +kernel
theorem dJ5_inflateIfNeededFor_a7421_11 : decode cJ5_inflateIfNeededFor_a7421 11 = .ok (.invokevirtual 40, 3) := by decide +kernel
theorem dJ5_inflateIfNeededFor_a7421_14 : decode cJ5_inflateIfNeededFor_a7421 14 = .ok (.if_icmp .eq 7, 3) := by decide +kernel
theorem dJ5_inflateIfNeededFor_a7421_17 : decode cJ5_inflateIfNeededFor_a7421 17 = .ok (.aload_n 0, 1) := by decide +kernel
theorem dJ5_inflateIfNeededFor_a7421_18 : decode cJ5_inflateIfNeededFor_a7421 18 = .ok (.invokevirtual 195, 3) := by decide +kernel
theorem dJ5_inflateIfNeededFor_a7421_21 : decode cJ5_inflateIfNeededFor_a7421 21 = .ok (.return_, 1) := by decide +kernel
theorem dJ5_putStringAt_47b60_0 : decode cJ5_putStringAt_47b60 0 = .ok (.aload_n 0, 1) := by decide +kernel
theorem dJ5_putStringAt_47b60_1 : decode cJ5_putStringAt_47b60 1 = .ok (.aload_n 2, 1) := by decide +kernel
theorem dJ5_putStringAt_47b60_2 : decode cJ5_putStringAt_47b60 2 = .ok (.invokevirtual 397, 3) := by decide +kernel
theorem dJ5_putStringAt_47b60_5 : decode cJ5_putStringAt_47b60 5 = .ok (.aload_n 2, 1) := by decide +kernel
theorem dJ5_putStringAt_47b60_6 : decode cJ5_putStringAt_47b60 6 = .ok (.aload_n 0, 1) := by decide +kernel
theorem dJ5_putStringAt_47b60_7 : decode cJ5_putStringAt_47b60 7 = .ok (.getfield 15, 3) := by decide +kernel
theorem dJ5_putStringAt_47b60_10 : decode cJ5_putStringAt_47b60 10 = .ok (.iload_n 1, 1) := by decide +kernel
theorem dJ5_putStringAt_47b60_11 : decode cJ5_putStringAt_47b60 11 = .ok (.aload_n 0, 1) := by decide +kernel
theorem dJ5_putStringAt_47b60_12 : decode cJ5_putStringAt_47b60 12 = .ok (.getfield 22, 3) := by decide +kernel
theorem dJ5_putStringAt_47b60_15 : decode cJ5_putStringAt_47b60 15 = .ok (.invokevirtual 399, 3) := by decide +kernel
theorem dJ5_putStringAt_47b60_18 : decode cJ5_putStringAt_47b60 18 = .ok (.return_, 1) := by decide +kernel
theorem dJ6_getChars_ba4f3_0 : decode cJ6_getChars_ba4f3 0 = .ok (.iload_n 1, 1) := by decide +kernel
theorem dJ6_getChars_ba4f3_1 : decode cJ6_getChars_ba4f3 1 = .ok (.istore 5, 2) := by decide +kernel
theorem dJ6_getChars_ba4f3_3 : decode cJ6_getChars_ba4f3 3 = .ok (.iload_n 0, 1) := by decide +kernel
theorem dJ6_getChars_ba4f3_4 : decode cJ6_getChars_ba4f3 4 = .ok (.ifCond .ge 7, 3) := by decide +kernel
theorem dJ6_getChars_ba4f3_7 : decode cJ6_getChars_ba4f3 7 = .ok (.iconst 1, 1) := by decide +kernel
theorem dJ6_getChars_ba4f3_8 : decode cJ6_getChars_ba4f3 8 = .ok (.goto 4, 3) := by decide +kernel
theorem dJ6_getChars_ba4f3_11 : decode cJ6_getChars_ba4f3 11 = .ok (.iconst 0, 1) := by decide +kernel
theorem dJ6_getChars_ba4f3_12 : decode cJ6_getChars_ba4f3 12 = .ok (.istore 6, 2) := by decide +kernel
theorem dJ6_getChars_ba4f3_14 : decode cJ6_getChars_ba4f3 14 = .ok (.iload 6, 2) := by decide +kernel
theorem dJ6_getChars_ba4f3_16 : decode cJ6_getChars_ba4f3 16 = .ok (.ifCond .ne 6, 3) := by decide +kernel
theorem dJ6_getChars_ba4f3_19 : decode cJ6_getChars_ba4f3 19 = .ok (.iload_n 0, 1) := by decide +kernel
theorem dJ6_getChars_ba4f3_20 : decode cJ6_getChars_ba4f3 20 = .ok (.ineg, 1) := by decide +kernel
theorem dJ6_getChars_ba4f3_21 : decode cJ6_getChars_ba4f3 21 = .ok (.istore_n 0, 1) := by decide +kernel
theorem dJ6_getChars_ba4f3_22 : decode cJ6_getChars_ba4f3 22 = .ok (.iload_n 0, 1) := by decide +kernel
theorem dJ6_getChars_ba4f3_23 : decode cJ6_getChars_ba4f3 23 = .ok (.bipush (-100), 2) := by decide +kernel
theorem dJ6_getChars_ba4f3_25 : decode cJ6_getChars_ba4f3 25 = .ok (.if_icmp .gt 47, 3) := by decide +kernel
theorem dJ6_getChars_ba4f3_28 : decode cJ6_getChars_ba4f3 28 = .ok (.iload_n 0, 1) := by decide +kernel
theorem dJ6_getChars_ba4f3_29 : decode cJ6_getChars_ba4f3 29 = .ok (.bipush 100, 2) := by decide +kernel
theorem dJ6_getChars_ba4f3_31 : decode cJ6_getChars_ba4f3 31 = .ok (.idiv, 1) := by decide +kernel
theorem dJ6_getChars_ba4f3_32 : decode cJ6_getChars_ba4f3 32 = .ok (.istore_n 3, 1) := by decide +kernel
theorem dJ6_getChars_ba4f3_33 : decode cJ6_getChars_ba4f3 33 = .ok (.iload_n 3, 1) := by decide +kernel
theorem dJ6_getChars_ba4f3_34 : decode cJ6_getChars_ba4f3 34 = .ok (.bipush 100, 2) := by decide +kernel
theorem dJ6_getChars_ba4f3_36 : decode cJ6_getChars_ba4f3 36 = .ok (.imul, 1) := by decide +kernel
theorem dJ6_getChars_ba4f3_37 : decode cJ6_getChars_ba4f3 37 = .ok (.iload_n 0, 1) := by decide +kernel
theorem dJ6_getChars_ba4f3_38 : decode cJ6_getChars_ba4f3 38 = .ok (.isub, 1) := by decide +kernel
theorem dJ6_getChars_ba4f3_39 : decode cJ6_getChars_ba4f3 39 = .ok (.istore 4, 2) := by decide +kernel
theorem dJ6_getChars_ba4f3_41 : decode cJ6_getChars_ba4f3 41 = .ok (.iload_n 3, 1) := by decide +kernel
theorem dJ6_getChars_ba4f3_42 : decode cJ6_getChars_ba4f3 42 = .ok (.istore_n 0, 1) := by decide +kernel
theorem dJ6_getChars_ba4f3_43 : decode cJ6_getChars_ba4f3 43 = .ok (.aload_n 2, 1) := by decide +kernel
theorem dJ6_getChars_ba4f3_44 : decode cJ6_getChars_ba4f3 44 = .ok (.iinc 5 (-1), 3) := by decide +kernel
theorem dJ6_getChars_ba4f3_47 : decode cJ6_getChars_ba4f3 47 = .ok (.iload 5, 2) := by decide +kernel
theorem dJ6_getChars_ba4f3_49 : decode cJ6_getChars_ba4f3 49 = .ok (.getstatic 83, 3) := by decide +kernel
theorem dJ6_getChars_ba4f3_52 : decode cJ6_getChars_ba4f3 52 = .ok (.iload 4, 2) := by decide +kernel
theorem dJ6_getChars_ba4f3_54 : decode cJ6_getChars_ba4f3 54 = .ok (.baload, 1) := by decide +kernel
theorem dJ6_getChars_ba4f3_55 : decode cJ6_getChars_ba4f3 55 = .ok (.bastore, 1) := by decide +kernel
theorem dJ6_getChars_ba4f3_56 : decode cJ6_getChars_ba4f3 56 = .ok (.aload_n 2, 1) := by decide +kernel
theorem dJ6_getChars_ba4f3_57 : decode cJ6_getChars_ba4f3 57 = .ok (.iinc 5 (-1), 3) := by decide +kernel
theorem dJ6_getChars_ba4f3_60 : decode cJ6_getChars_ba4f3 60 = .ok (.iload 5, 2) := by decide +kernel
theorem dJ6_getChars_ba4f3_62 : decode cJ6_getChars_ba4f3 62 = .ok (.getstatic 87, 3) := by decide +kernel
theorem dJ6_getChars_ba4f3_65 : decode cJ6_getChars_ba4f3 65 = .ok (.iload 4, 2) := by decide +kernel
theorem dJ6_getChars_ba4f3_67 : decode cJ6_getChars_ba4f3 67 = .ok (.baload, 1) := by decide +kernel
theorem dJ6_getChars_ba4f3_68 : decode cJ6_getChars_ba4f3 68 = .ok (.bastore, 1) := by decide +kernel
theorem dJ6_getChars_ba4f3_69 : decode cJ6_getChars_ba4f3 69 = .ok (.goto (-47), 3) := by decide +kernel
theorem dJ6_getChars_ba4f3_72 : decode cJ6_getChars_ba4f3 72 = .ok (.aload_n 2, 1) := by decide +kernel
theorem dJ6_getChars_ba4f3_73 : decode cJ6_getChars_ba4f3 73 = .ok (.iinc 5 (-1), 3) := by decide +kernel
theorem dJ6_getChars_ba4f3_76 : decode cJ6_getChars_ba4f3 76 = .ok (.iload 5, 2) := by decide +kernel
theorem dJ6_getChars_ba4f3_78 : decode cJ6_getChars_ba4f3 78 = .ok (.getstatic 83, 3) := by decide +kernel
theorem dJ6_getChars_ba4f3_81 : decode cJ6_getChars_ba4f3 81 = .ok (.iload_n 0, 1) := by decide +kernel
theorem dJ6_getChars_ba4f3_82 : decode cJ6_getChars_ba4f3 82 = .ok (.ineg, 1) := by decide +kernel
theorem dJ6_getChars_ba4f3_83 : decode cJ6_getChars_ba4f3 83 = .ok (.baload, 1) := by decide +kernel
theorem dJ6_getChars_ba4f3_84 : decode cJ6_getChars_ba4f3 84 = .ok (.bastore, 1) := by decide +kernel
theorem dJ6_getChars_ba4f3_85 : decode cJ6_getChars_ba4f3 85 = .ok (.iload_n 0, 1) := by decide +kernel
theorem dJ6_getChars_ba4f3_86 : decode cJ6_getChars_ba4f3 86 = .ok (.bipush (-9), 2) := by decide +kernel
theorem dJ6_getChars_ba4f3_88 : decode cJ6_getChars_ba4f3 88 = .ok (.if_icmp .ge 16, 3) := by decide +kernel
theorem dJ6_getChars_ba4f3_91 : decode cJ6_getChars_ba4f3 91 = .ok (.aload_n 2, 1) := by decide +kernel
theorem dJ6_getChars_ba4f3_92 : decode cJ6_getChars_ba4f3 92 = .ok (.iinc 5 (-1), 3) := by decide +kernel
theorem dJ6_getChars_ba4f3_95 : decode cJ6_getChars_ba4f3 95 = .ok (.iload 5, 2) := by decide +kernel
theorem dJ6_getChars_ba4f3_97 : decode cJ6_getChars_ba4f3 97 = .ok (.getstatic 87, 3) := by decide +kernel
theorem dJ6_getChars_ba4f3_100 : decode cJ6_getChars_ba4f3 100 = .ok (.iload_n 0, 1) := by decide +kernel
theorem dJ6_getChars_ba4f3_101 : decode cJ6_getChars_ba4f3 101 = .ok (.ineg, 1) := by decide +kernel
theorem dJ6_getChars_ba4f3_102 : decode cJ6_getChars_ba4f3 102 = .ok (.baload, 1) := by decide +kernel
theorem dJ6_getChars_ba4f3_103 : decode cJ6_getChars_ba4f3 103 = .ok (.bastore, 1) := by decide +kernel
theorem dJ6_getChars_ba4f3_104 : decode cJ6_getChars_ba4f3 104 = .ok (.iload 6, 2) := by decide +kernel
theorem dJ6_getChars_ba4f3_106 : decode cJ6_getChars_ba4f3 106 = .ok (.ifCond .eq 12, 3) := by decide +kernel
theorem dJ6_getChars_ba4f3_109 : decode cJ6_getChars_ba4f3 109 = .ok (.aload_n 2, 1) := by decide +kernel
theorem dJ6_getChars_ba4f3_110 : decode cJ6_getChars_ba4f3 110 = .ok (.iinc 5 (-1), 3) := by decide +kernel
theorem dJ6_getChars_ba4f3_113 : decode cJ6_getChars_ba4f3 113 = .ok (.iload 5, 2) := by decide +kernel
theorem dJ6_getChars_ba4f3_115 : decode cJ6_getChars_ba4f3 115 = .ok (.bipush 45, 2) := by decide +kernel
theorem dJ6_getChars_ba4f3_117 : decode cJ6_getChars_ba4f3 117 = .ok (.bastore, 1) := by decide +kernel
theorem dJ6_getChars_ba4f3_118 : decode cJ6_getChars_ba4f3 118 = .ok (.iload 5, 2) := by decide +kernel
theorem dJ6_getChars_ba4f3_120 : decode cJ6_getChars_ba4f3 120 = .ok (.ireturn, 1) := by decide +kernel
theorem dJ6_stringSize_0f7a4_0 : decode cJ6_stringSize_0f7a4 0 = .ok (.iconst 1, 1) := by decide +kernel
theorem dJ6_stringSize_0f7a4_1 : decode cJ6_stringSize_0f7a4 1 = .ok (.istore_n 1, 1) := by decide +kernel
theorem dJ6_stringSize_0f7a4_2 : decode cJ6_stringSize_0f7a4 2 = .ok (.iload_n 0, 1) := by decide +kernel
theorem dJ6_stringSize_0f7a4_3 : decode cJ6_stringSize_0f7a4 3 = .ok (.ifCond .lt 8, 3) := by decide +kernel
theorem dJ6_stringSize_0f7a4_6 : decode cJ6_stringSize_0f7a4 6 = .ok (.iconst 0, 1) := by decide +kernel
theorem dJ6_stringSize_0f7a4_7 : decode cJ6_stringSize_0f7a4 7 = .ok (.istore_n 1, 1) := by decide +kernel
theorem dJ6_stringSize_0f7a4_8 : decode cJ6_stringSize_0f7a4 8 = .ok (.iload_n 0, 1) := by decide +kernel
theorem dJ6_stringSize_0f7a4_9 : decode cJ6_stringSize_0f7a4 9 = .ok (.ineg, 1) := by decide +kernel
theorem dJ6_stringSize_0f7a4_10 : decode cJ6_stringSize_0f7a4 10 = .ok (.istore_n 0, 1) := by decide +kernel
theorem dJ6_stringSize_0f7a4_11 : decode cJ6_stringSize_0f7a4 11 = .ok (.bipush (-10), 2) := by decide +kernel
theorem dJ6_stringSize_0f7a4_13 : decode cJ6_stringSize_0f7a4 13 = .ok (.istore_n 2, 1) := by decide +kernel
theorem dJ6_stringSize_0f7a4_14 : decode cJ6_stringSize_0f7a4 14 = .ok (.iconst 1, 1) := by decide +kernel
theorem dJ6_stringSize_0f7a4_15 : decode cJ6_stringSize_0f7a4 15 = .ok (.istore_n 3, 1) := by decide +kernel
theorem dJ6_stringSize_0f7a4_16 : decode cJ6_stringSize_0f7a4 16 = .ok (.iload_n 3, 1) := by decide +kernel
theorem dJ6_stringSize_0f7a4_17 : decode cJ6_stringSize_0f7a4 17 = .ok (.bipush 10, 2) := by decide +kernel
theorem dJ6_stringSize_0f7a4_19 : decode cJ6_stringSize_0f7a4 19 = .ok (.if_icmp .ge 23, 3) := by decide +kernel
theorem dJ6_stringSize_0f7a4_22 : decode cJ6_stringSize_0f7a4 22 = .ok (.iload_n 0, 1) := by decide +kernel
theorem dJ6_stringSize_0f7a4_23 : decode cJ6_stringSize_0f7a4 23 = .ok (.iload_n 2, 1) := by decide +kernel
theorem dJ6_stringSize_0f7a4_24 : decode cJ6_stringSize_0f7a4 24 = .ok (.if_icmp .le 7, 3) := by decide +kernel
theorem dJ6_stringSize_0f7a4_27 : decode cJ6_stringSize_0f7a4 27 = .ok (.iload_n 3, 1) := by decide +kernel
theorem dJ6_stringSize_0f7a4_28 : decode cJ6_stringSize_0f7a4 28 = .ok (.iload_n 1, 1) := by decide +kernel
theorem dJ6_stringSize_0f7a4_29 : decode cJ6_stringSize_0f7a4 29 = .ok (.iadd, 1) := by decide +kernel
theorem dJ6_stringSize_0f7a4_30 : decode cJ6_stringSize_0f7a4 30 = .ok (.ireturn, 1) := by decide +kernel
theorem dJ6_stringSize_0f7a4_31 : decode cJ6_stringSize_0f7a4 31 = .ok (.bipush 10, 2) := by decide +kernel
theorem dJ6_stringSize_0f7a4_33 : decode cJ6_stringSize_0f7a4 33 = .ok (.iload_n 2, 1) := by decide +kernel
theorem dJ6_stringSize_0f7a4_34 : decode cJ6_stringSize_0f7a4 34 = .ok (.imul, 1) := by decide +kernel
theorem dJ6_stringSize_0f7a4_35 : decode cJ6_stringSize_0f7a4 35 = .ok (.istore_n 2, 1) := by decide +kernel
theorem dJ6_stringSize_0f7a4_36 : decode cJ6_stringSize_0f7a4 36 = .ok (.iinc 3 1, 3) := by decide +kernel
theorem dJ6_stringSize_0f7a4_39 : decode cJ6_stringSize_0f7a4 39 = .ok (.goto (-23), 3) := by decide +kernel
theorem dJ6_stringSize_0f7a4_42 : decode cJ6_stringSize_0f7a4 42 = .ok (.bipush 10, 2) := by decide +kernel
theorem dJ6_stringSize_0f7a4_44 : decode cJ6_stringSize_0f7a4 44 = .ok (.iload_n 1, 1) := by decide +kernel
theorem dJ6_stringSize_0f7a4_45 : decode cJ6_stringSize_0f7a4 45 = .ok (.iadd, 1) := by decide +kernel
theorem dJ6_stringSize_0f7a4_46 : decode cJ6_stringSize_0f7a4 46 = .ok (.ireturn, 1) := by decide +kernel
theorem dJ6_bitCount_0f7a4_0 : decode cJ6_bitCount_0f7a4 0 = .ok (.iload_n 0, 1) := by decide +kernel
theorem dJ6_bitCount_0f7a4_1 : decode cJ6_bitCount_0f7a4 1 = .ok (.iload_n 0, 1) := by decide +kernel
theorem dJ6_bitCount_0f7a4_2 : decode cJ6_bitCount_0f7a4 2 = .ok (.iconst 1, 1) := by decide +kernel
theorem dJ6_bitCount_0f7a4_3 : decode cJ6_bitCount_0f7a4 3 = .ok (.iushr, 1) := by decide +kernel
theorem dJ6_bitCount_0f7a4_4 : decode cJ6_bitCount_0f7a4 4 = .ok (.ldc_w 265, 3) := by decide +kernel
theorem dJ6_bitCount_0f7a4_7 : decode cJ6_bitCount_0f7a4 7 = .ok (.iand, 1) := by decide +kernel
theorem dJ6_bitCount_0f7a4_8 : decode cJ6_bitCount_0f7a4 8 = .ok (.isub, 1) := by decide +kernel
theorem dJ6_bitCount_0f7a4_9 : decode cJ6_bitCount_0f7a4 9 = .ok (.istore_n 0, 1) := by decide +kernel
theorem dJ6_bitCount_0f7a4_10 : decode cJ6_bitCount_0f7a4 10 = .ok (.iload_n 0, 1) := by decide +kernel
theorem dJ6_bitCount_0f7a4_11 : decode cJ6_bitCount_0f7a4 11 = .ok (.ldc_w 266, 3) := by decide +kernel
theorem dJ6_bitCount_0f7a4_14 : decode cJ6_bitCount_0f7a4 14 = .ok (.iand, 1) := by decide +kernel
theorem dJ6_bitCount_0f7a4_15 : decode cJ6_bitCount_0f7a4 15 = .ok (.iload_n 0, 1) := by decide +kernel
theorem dJ6_bitCount_0f7a4_16 : decode cJ6_bitCount_0f7a4 16 = .ok (.iconst 2, 1) := by decide +kernel
theorem dJ6_bitCount_0f7a4_17 : decode cJ6_bitCount_0f7a4 17 = .ok (.iushr, 1) := by decide +kernel
theorem dJ6_bitCount_0f7a4_18 : decode cJ6_bitCount_0f7a4 18 = .ok (.ldc_w 266, 3) := by decide +kernel
theorem dJ6_bitCount_0f7a4_21 : decode cJ6_bitCount_0f7a4 21 = .ok (.iand, 1) := by decide +kernel
theorem dJ6_bitCount_0f7a4_22 : decode cJ6_bitCount_0f7a4 22 = .ok (.iadd, 1) := by decide +kernel
theorem dJ6_bitCount_0f7a4_23 : decode cJ6_bitCount_0f7a4 23 = .ok (.istore_n 0, 1) := by decide +kernel
theorem dJ6_bitCount_0f7a4_24 : decode cJ6_bitCount_0f7a4 24 = .ok (.iload_n 0, 1) := by decide +kernel
theorem dJ6_bitCount_0f7a4_25 : decode cJ6_bitCount_0f7a4 25 = .ok (.iload_n 0, 1) := by decide +kernel
theorem dJ6_bitCount_0f7a4_26 : decode cJ6_bitCount_0f7a4 26 = .ok (.iconst 4, 1) := by decide +kernel
theorem dJ6_bitCount_0f7a4_27 : decode cJ6_bitCount_0f7a4 27 = .ok (.iushr, 1) := by decide +kernel
theorem dJ6_bitCount_0f7a4_28 : decode cJ6_bitCount_0f7a4 28 = .ok (.iadd, 1) := by decide +kernel
theorem dJ6_bitCount_0f7a4_29 : decode cJ6_bitCount_0f7a4 29 = .ok (.ldc_w 267, 3) := by decide +kernel
theorem dJ6_bitCount_0f7a4_32 : decode cJ6_bitCount_0f7a4 32 = .ok (.iand, 1) := by decide +kernel
theorem dJ6_bitCount_0f7a4_33 : decode cJ6_bitCount_0f7a4 33 = .ok (.istore_n 0, 1) := by decide +kernel
theorem dJ6_bitCount_0f7a4_34 : decode cJ6_bitCount_0f7a4 34 = .ok (.iload_n 0, 1) := by decide +kernel
theorem dJ6_bitCount_0f7a4_35 : decode cJ6_bitCount_0f7a4 35 = .ok (.iload_n 0, 1) := by decide +kernel
theorem dJ6_bitCount_0f7a4_36 : decode cJ6_bitCount_0f7a4 36 = .ok (.bipush 8, 2) := by decide +kernel
theorem dJ6_bitCount_0f7a4_38 : decode cJ6_bitCount_0f7a4 38 = .ok (.iushr, 1) := by decide +kernel
theorem dJ6_bitCount_0f7a4_39 : decode cJ6_bitCount_0f7a4 39 = .ok (.iadd, 1) := by decide +kernel
theorem dJ6_bitCount_0f7a4_40 : decode cJ6_bitCount_0f7a4 40 = .ok (.istore_n 0, 1) := by decide +kernel
theorem dJ6_bitCount_0f7a4_41 : decode cJ6_bitCount_0f7a4 41 = .ok (.iload_n 0, 1) := by decide +kernel
theorem dJ6_bitCount_0f7a4_42 : decode cJ6_bitCount_0f7a4 42 = .ok (.iload_n 0, 1) := by decide +kernel
theorem dJ6_bitCount_0f7a4_43 : decode cJ6_bitCount_0f7a4 43 = .ok (.bipush 16, 2) := by decide +kernel
theorem dJ6_bitCount_0f7a4_45 : decode cJ6_bitCount_0f7a4 45 = .ok (.iushr, 1) := by decide +kernel
theorem dJ6_bitCount_0f7a4_46 : decode cJ6_bitCount_0f7a4 46 = .ok (.iadd, 1) := by decide +kernel
theorem dJ6_bitCount_0f7a4_47 : decode cJ6_bitCount_0f7a4 47 = .ok (.istore_n 0, 1) := by decide +kernel
theorem dJ6_bitCount_0f7a4_48 : decode cJ6_bitCount_0f7a4 48 = .ok (.iload_n 0, 1) := by decide +kernel
theorem dJ6_bitCount_0f7a4_49 : decode cJ6_bitCount_0f7a4 49 = .ok (.bipush 63, 2) := by decide +kernel
theorem dJ6_bitCount_0f7a4_51 : decode cJ6_bitCount_0f7a4 51 = .ok (.iand, 1) := by decide +kernel
theorem dJ6_bitCount_0f7a4_52 : decode cJ6_bitCount_0f7a4 52 = .ok (.ireturn, 1) := by decide +kernel
theorem dJ9_max_7cf53_0 : decode cJ9_max_7cf53 0 = .ok (.iload_n 0, 1) := by decide +kernel
theorem dJ9_max_7cf53_1 : decode cJ9_max_7cf53 1 = .ok (.iload_n 1, 1) := by decide +kernel
theorem dJ9_max_7cf53_2 : decode cJ9_max_7cf53 2 = .ok (.if_icmp .lt 7, 3) := by decide +kernel
theorem dJ9_max_7cf53_5 : decode cJ9_max_7cf53 5 = .ok (.iload_n 0, 1) := by decide +kernel
theorem dJ9_max_7cf53_6 : decode cJ9_max_7cf53 6 = .ok (.goto 4, 3) := by decide +kernel
theorem dJ9_max_7cf53_9 : decode cJ9_max_7cf53 9 = .ok (.iload_n 1, 1) := by decide +kernel
theorem dJ9_max_7cf53_10 : decode cJ9_max_7cf53 10 = .ok (.ireturn, 1) := by decide +kernel
theorem dJ9_min_7cf53_0 : decode cJ9_min_7cf53 0 = .ok (.iload_n 0, 1) := by decide +kernel
theorem dJ9_min_7cf53_1 : decode cJ9_min_7cf53 1 = .ok (.iload_n 1, 1) := by decide +kernel
theorem dJ9_min_7cf53_2 : decode cJ9_min_7cf53 2 = .ok (.if_icmp .gt 7, 3) := by decide +kernel
theorem dJ9_min_7cf53_5 : decode cJ9_min_7cf53 5 = .ok (.iload_n 0, 1) := by decide +kernel
theorem dJ9_min_7cf53_6 : decode cJ9_min_7cf53 6 = .ok (.goto 4, 3) := by decide +kernel
theorem dJ9_min_7cf53_9 : decode cJ9_min_7cf53 9 = .ok (.iload_n 1, 1) := by decide +kernel
theorem dJ9_min_7cf53_10 : decode cJ9_min_7cf53 10 = .ok (.ireturn, 1) := by decide +kernel
theorem dJ0_init_81219_0 : decode cJ0_init_81219 0 = .ok (.aload_n 0, 1) := by decide +kernel
theorem dJ0_init_81219_1 : decode cJ0_init_81219 1 = .ok (.aload_n 1, 1) := by decide +kernel
theorem dJ0_init_81219_2 : decode cJ0_init_81219 2 = .ok (.aconst_null, 1) := by decide +kernel
theorem dJ0_init_81219_3 : decode cJ0_init_81219 3 = .ok (.invokespecial 489, 3) := by decide +kernel
theorem dJ0_init_81219_6 : decode cJ0_init_81219 6 = .ok (.return_, 1) := by decide +kernel
theorem dJ0_length_8abf5_0 : decode cJ0_length_8abf5 0 = .ok (.aload_n 0, 1) := by decide +kernel
theorem dJ0_length_8abf5_1 : decode cJ0_length_8abf5 1 = .ok (.getfield 9, 3) := by decide +kernel
theorem dJ0_length_8abf5_4 : decode cJ0_length_8abf5 4 = .ok (.arraylength, 1) := by decide +kernel
theorem dJ0_length_8abf5_5 : decode cJ0_length_8abf5 5 = .ok (.aload_n 0, 1) := by decide +kernel
theorem dJ0_length_8abf5_6 : decode cJ0_length_8abf5 6 = .ok (.invokevirtual 335, 3) := by decide +kernel
theorem dJ0_length_8abf5_9 : decode cJ0_length_8abf5 9 = .ok (.ishr, 1) := by decide +kernel
theorem dJ0_length_8abf5_10 : decode cJ0_length_8abf5 10 = .ok (.ireturn, 1) := by decide +kernel
theorem dJ0_charAt_5068e_0 : decode cJ0_charAt_5068e 0 = .ok (.aload_n 0, 1) := by decide +kernel
theorem dJ0_charAt_5068e_1 : decode cJ0_charAt_5068e 1 = .ok (.invokevirtual 492, 3) := by decide +kernel
theorem dJ0_charAt_5068e_4 : decode cJ0_charAt_5068e 4 = .ok (.ifCond .eq 12, 3) := by decide +kernel
theorem dJ0_charAt_5068e_7 : decode cJ0_charAt_5068e 7 = .ok (.aload_n 0, 1) := by decide +kernel
theorem dJ0_charAt_5068e_8 : decode cJ0_charAt_5068e 8 = .ok (.getfield 9, 3) := by decide +kernel
theorem dJ0_charAt_5068e_11 : decode cJ0_charAt_5068e 11 = .ok (.iload_n 1, 1) := by decide +kernel
theorem dJ0_charAt_5068e_12 : decode cJ0_charAt_5068e 12 = .ok (.invokestatic 495, 3) := by decide +kernel
theorem dJ0_charAt_5068e_15 : decode cJ0_charAt_5068e 15 = .ok (.ireturn, 1) := by decide +kernel
theorem dJ0_charAt_5068e_16 : decode cJ0_charAt_5068e 16 = .ok (.aload_n 0, 1) := by decide +kernel
theorem dJ0_charAt_5068e_17 : decode cJ0_charAt_5068e 17 = .ok (.getfield 9, 3) := by decide +kernel
theorem dJ0_charAt_5068e_20 : decode cJ0_charAt_5068e 20 = .ok (.iload_n 1, 1) := by decide +kernel
theorem dJ0_charAt_5068e_21 : decode cJ0_charAt_5068e 21 = .ok (.invokestatic 498, 3) := by decide +kernel
theorem dJ0_charAt_5068e_24 : decode cJ0_charAt_5068e 24 = .ok (.ireturn, 1) := by decide +kernel
theorem dJ0_getBytes_840e7_0 : decode cJ0_getBytes_840e7 0 = .ok (.aload_n 0, 1) := by decide +kernel
theorem dJ0_getBytes_840e7_1 : decode cJ0_getBytes_840e7 1 = .ok (.invokevirtual 335, 3) := by decide +kernel
theorem dJ0_getBytes_840e7_4 : decode cJ0_getBytes_840e7 4 = .ok (.iload_n 3, 1) := by decide +kernel
theorem dJ0_getBytes_840e7_5 : decode cJ0_getBytes_840e7 5 = .ok (.if_icmp .ne 23, 3) := by decide +kernel
theorem dJ0_getBytes_840e7_8 : decode cJ0_getBytes_840e7 8 = .ok (.aload_n 0, 1) := by decide +kernel
theorem dJ0_getBytes_840e7_9 : decode cJ0_getBytes_840e7 9 = .ok (.getfield 9, 3) := by decide +kernel
theorem dJ0_getBytes_840e7_12 : decode cJ0_getBytes_840e7 12 = .ok (.iconst 0, 1) := by decide +kernel
theorem dJ0_getBytes_840e7_13 : decode cJ0_getBytes_840e7 13 = .ok (.aload_n 1, 1) := by decide +kernel
theorem dJ0_getBytes_840e7_14 : decode cJ0_getBytes_840e7 14 = .ok (.iload_n 2, 1) := by decide +kernel
theorem dJ0_getBytes_840e7_15 : decode cJ0_getBytes_840e7 15 = .ok (.iload_n 3, 1) := by decide +kernel
theorem dJ0_getBytes_840e7_16 : decode cJ0_getBytes_840e7 16 = .ok (.ishl, 1) := by decide +kernel
theorem dJ0_getBytes_840e7_17 : decode cJ0_getBytes_840e7 17 = .ok (.aload_n 0, 1) := by decide +kernel
theorem dJ0_getBytes_840e7_18 : decode cJ0_getBytes_840e7 18 = .ok (.getfield 9, 3) := by decide +kernel
theorem dJ0_getBytes_840e7_21 : decode cJ0_getBytes_840e7 21 = .ok (.arraylength, 1) := by decide +kernel
theorem dJ0_getBytes_840e7_22 : decode cJ0_getBytes_840e7 22 = .ok (.invokestatic 212, 3) := by decide +kernel
theorem dJ0_getBytes_840e7_25 : decode cJ0_getBytes_840e7 25 = .ok (.goto 18, 3) := by decide +kernel
theorem dJ0_getBytes_840e7_28 : decode cJ0_getBytes_840e7 28 = .ok (.aload_n 0, 1) := by decide +kernel
theorem dJ0_getBytes_840e7_29 : decode cJ0_getBytes_840e7 29 = .ok (.getfield 9, 3) := by decide +kernel
theorem dJ0_getBytes_840e7_32 : decode cJ0_getBytes_840e7 32 = .ok (.iconst 0, 1) := by decide +kernel
theorem dJ0_getBytes_840e7_33 : decode cJ0_getBytes_840e7 33 = .ok (.aload_n 1, 1) := by decide +kernel
theorem dJ0_getBytes_840e7_34 : decode cJ0_getBytes_840e7 34 = .ok (.iload_n 2, 1) := by decide +kernel
theorem dJ0_getBytes_840e7_35 : decode cJ0_getBytes_840e7 35 = .ok (.aload_n 0, 1) := by decide +kernel
theorem dJ0_getBytes_840e7_36 : decode cJ0_getBytes_840e7 36 = .ok (.getfield 9, 3) := by decide +kernel
theorem dJ0_getBytes_840e7_39 : decode cJ0_getBytes_840e7 39 = .ok (.arraylength, 1) := by decide +kernel
theorem dJ0_getBytes_840e7_40 : decode cJ0_getBytes_840e7 40 = .ok (.invokestatic 106, 3) := by decide +kernel
theorem dJ0_getBytes_840e7_43 : decode cJ0_getBytes_840e7 43 = .ok (.return_, 1) := by decide +kernel
theorem dJ0_init_db425_0 : decode cJ0_init_db425 0 = .ok (.aload_n 0, 1) := by decide +kernel
theorem dJ0_init_db425_1 : decode cJ0_init_db425 1 = .ok (.invokespecial 1, 3) := by decide +kernel
theorem dJ0_init_db425_4 : decode cJ0_init_db425 4 = .ok (.aload_n 1, 1) := by decide +kernel
theorem dJ0_init_db425_5 : decode cJ0_init_db425 5 = .ok (.invokevirtual 552, 3) := by decide +kernel
theorem dJ0_init_db425_8 : decode cJ0_init_db425 8 = .ok (.astore_n 3, 1) := by decide +kernel
theorem dJ0_init_db425_9 : decode cJ0_init_db425 9 = .ok (.aload_n 1, 1) := by decide +kernel
theorem dJ0_init_db425_10 : decode cJ0_init_db425 10 = .ok (.invokevirtual 549, 3) := by decide +kernel
theorem dJ0_init_db425_13 : decode cJ0_init_db425 13 = .ok (.istore 4, 2) := by decide +kernel
theorem dJ0_init_db425_15 : decode cJ0_init_db425 15 = .ok (.aload_n 1, 1) := by decide +kernel
theorem dJ0_init_db425_16 : decode cJ0_init_db425 16 = .ok (.invokevirtual 1047, 3) := by decide +kernel
theorem dJ0_init_db425_19 : decode cJ0_init_db425 19 = .ok (.ifCond .eq 22, 3) := by decide +kernel
theorem dJ0_init_db425_22 : decode cJ0_init_db425 22 = .ok (.aload_n 0, 1) := by decide +kernel
theorem dJ0_init_db425_23 : decode cJ0_init_db425 23 = .ok (.iconst 0, 1) := by decide +kernel
theorem dJ0_init_db425_24 : decode cJ0_init_db425 24 = .ok (.putfield 15, 3) := by decide +kernel
theorem dJ0_init_db425_27 : decode cJ0_init_db425 27 = .ok (.aload_n 0, 1) := by decide +kernel
theorem dJ0_init_db425_28 : decode cJ0_init_db425 28 = .ok (.aload_n 3, 1) := by decide +kernel
theorem dJ0_init_db425_29 : decode cJ0_init_db425 29 = .ok (.iconst 0, 1) := by decide +kernel
theorem dJ0_init_db425_30 : decode cJ0_init_db425 30 = .ok (.iload 4, 2) := by decide +kernel
theorem dJ0_init_db425_32 : decode cJ0_init_db425 32 = .ok (.invokestatic 54, 3) := by decide +kernel
theorem dJ0_init_db425_35 : decode cJ0_init_db425 35 = .ok (.putfield 9, 3) := by decide +kernel
theorem dJ0_init_db425_38 : decode cJ0_init_db425 38 = .ok (.goto 59, 3) := by decide +kernel
theorem dJ0_init_db425_41 : decode cJ0_init_db425 41 = .ok (.getstatic 38, 3) := by decide +kernel
theorem dJ0_init_db425_44 : decode cJ0_init_db425 44 = .ok (.ifCond .eq 35, 3) := by decide +kernel
theorem dJ0_init_db425_47 : decode cJ0_init_db425 47 = .ok (.aload_n 1, 1) := by decide +kernel
theorem dJ0_init_db425_48 : decode cJ0_init_db425 48 = .ok (.getfield 1048, 3) := by decide +kernel
theorem dJ0_init_db425_51 : decode cJ0_init_db425 51 = .ok (.ifCond .eq 28, 3) := by decide +kernel
theorem dJ0_init_db425_54 : decode cJ0_init_db425 54 = .ok (.aload_n 0, 1) := by decide +kernel
theorem dJ0_init_db425_55 : decode cJ0_init_db425 55 = .ok (.aload_n 3, 1) := by decide +kernel
theorem dJ0_init_db425_56 : decode cJ0_init_db425 56 = .ok (.iconst 0, 1) := by decide +kernel
theorem dJ0_init_db425_57 : decode cJ0_init_db425 57 = .ok (.iload 4, 2) := by decide +kernel
theorem dJ0_init_db425_59 : decode cJ0_init_db425 59 = .ok (.invokestatic 1051, 3) := by decide +kernel
theorem dJ0_init_db425_62 : decode cJ0_init_db425 62 = .ok (.putfield 9, 3) := by decide +kernel
theorem dJ0_init_db425_65 : decode cJ0_init_db425 65 = .ok (.aload_n 0, 1) := by decide +kernel
theorem dJ0_init_db425_66 : decode cJ0_init_db425 66 = .ok (.aload_n 0, 1) := by decide +kernel
theorem dJ0_init_db425_67 : decode cJ0_init_db425 67 = .ok (.getfield 9, 3) := by decide +kernel
theorem dJ0_init_db425_70 : decode cJ0_init_db425 70 = .ok (.iload 4, 2) := by decide +kernel
theorem dJ0_init_db425_72 : decode cJ0_init_db425 72 = .ok (.invokestatic 47, 3) := by decide +kernel
theorem dJ0_init_db425_75 : decode cJ0_init_db425 75 = .ok (.putfield 15, 3) := by decide +kernel
theorem dJ0_init_db425_78 : decode cJ0_init_db425 78 = .ok (.return_, 1) := by decide +kernel
theorem dJ0_init_db425_79 : decode cJ0_init_db425 79 = .ok (.aload_n 0, 1) := by decide +kernel
theorem dJ0_init_db425_80 : decode cJ0_init_db425 80 = .ok (.iconst 1, 1) := by decide +kernel
theorem dJ0_init_db425_81 : decode cJ0_init_db425 81 = .ok (.putfield 15, 3) := by decide +kernel
theorem dJ0_init_db425_84 : decode cJ0_init_db425 84 = .ok (.aload_n 0, 1) := by decide +kernel
theorem dJ0_init_db425_85 : decode cJ0_init_db425 85 = .ok (.aload_n 3, 1) := by decide +kernel
theorem dJ0_init_db425_86 : decode cJ0_init_db425 86 = .ok (.iconst 0, 1) := by decide +kernel
theorem dJ0_init_db425_87 : decode cJ0_init_db425 87 = .ok (.iload 4, 2) := by decide +kernel
theorem dJ0_init_db425_89 : decode cJ0_init_db425 89 = .ok (.iconst 1, 1) := by decide +kernel
theorem dJ0_init_db425_90 : decode cJ0_init_db425 90 = .ok (.ishl, 1) := by decide +kernel
theorem dJ0_init_db425_91 : decode cJ0_init_db425 91 = .ok (.invokestatic 54, 3) := by decide +kernel
theorem dJ0_init_db425_94 : decode cJ0_init_db425 94 = .ok (.putfield 9, 3) := by decide +kernel
theorem dJ0_init_db425_97 : decode cJ0_init_db425 97 = .ok (.return_, 1) := by decide +kernel
theorem dJ0_coder_7d493_0 : decode cJ0_coder_7d493 0 = .ok (.getstatic 38, 3) := by decide +kernel
theorem dJ0_coder_7d493_3 : decode cJ0_coder_7d493 3 = .ok (.ifCond .eq 10, 3) := by decide +kernel
theorem dJ0_coder_7d493_6 : decode cJ0_coder_7d493 6 = .ok (.aload_n 0, 1) := by decide +kernel
theorem dJ0_coder_7d493_7 : decode cJ0_coder_7d493 7 = .ok (.getfield 15, 3) := by decide +kernel
theorem dJ0_coder_7d493_10 : decode cJ0_coder_7d493 10 = .ok (.goto 4, 3) := by decide +kernel
theorem dJ0_coder_7d493_13 : decode cJ0_coder_7d493 13 = .ok (.iconst 1, 1) := by decide +kernel
theorem dJ0_coder_7d493_14 : decode cJ0_coder_7d493 14 = .ok (.ireturn, 1) := by decide +kernel
theorem dJ0_isLatin1_aae02_0 : decode cJ0_isLatin1_aae02 0 = .ok (.getstatic 38, 3) := by decide +kernel
theorem dJ0_isLatin1_aae02_3 : decode cJ0_isLatin1_aae02 3 = .ok (.ifCond .eq 14, 3) := by decide +kernel
theorem dJ0_isLatin1_aae02_6 : decode cJ0_isLatin1_aae02 6 = .ok (.aload_n 0, 1) := by decide +kernel
theorem dJ0_isLatin1_aae02_7 : decode cJ0_isLatin1_aae02 7 = .ok (.getfield 15, 3) := by decide +kernel
theorem dJ0_isLatin1_aae02_10 : decode cJ0_isLatin1_aae02 10 = .ok (.ifCond .ne 7, 3) := by decide +kernel
theorem dJ0_isLatin1_aae02_13 : decode cJ0_isLatin1_aae02 13 = .ok (.iconst 1, 1) := by decide +kernel
theorem dJ0_isLatin1_aae02_14 : decode cJ0_isLatin1_aae02 14 = .ok (.goto 4, 3) := by decide +kernel
theorem dJ0_isLatin1_aae02_17 : decode cJ0_isLatin1_aae02 17 = .ok (.iconst 0, 1) := by decide +kernel
theorem dJ0_isLatin1_aae02_18 : decode cJ0_isLatin1_aae02 18 = .ok (.ireturn, 1) := by decide +kernel
theorem dJ0_checkIndex_df160_0 : decode cJ0_checkIndex_df160 0 = .ok (.iload_n 0, 1) := by decide +kernel
theorem dJ0_checkIndex_df160_1 : decode cJ0_checkIndex_df160 1 = .ok (.iload_n 1, 1) := by decide +kernel
theorem dJ0_checkIndex_df160_2 : decode cJ0_checkIndex_df160 2 = .ok (.getstatic 1053, 3) := by decide +kernel
theorem dJ0_checkIndex_df160_5 : decode cJ0_checkIndex_df160 5 = .ok (.invokestatic 1059, 3) := by decide +kernel
theorem dJ0_checkIndex_df160_8 : decode cJ0_checkIndex_df160 8 = .ok (.pop, 1) := by decide +kernel
theorem dJ0_checkIndex_df160_9 : decode cJ0_checkIndex_df160 9 = .ok (.return_, 1) := by decide +kernel
theorem dJ0_checkBoundsOffCount_cabcc_0 : decode cJ0_checkBoundsOffCount_cabcc 0 = .ok (.iload_n 0, 1) := by decide +kernel
theorem dJ0_checkBoundsOffCount_cabcc_1 : decode cJ0_checkBoundsOffCount_cabcc 1 = .ok (.iload_n 1, 1) := by decide +kernel
theorem dJ0_checkBoundsOffCount_cabcc_2 : decode cJ0_checkBoundsOffCount_cabcc 2 = .ok (.iload_n 2, 1) := by decide +kernel
theorem dJ0_checkBoundsOffCount_cabcc_3 : decode cJ0_checkBoundsOffCount_cabcc 3 = .ok (.getstatic 1053, 3) := by decide +kernel
theorem dJ0_checkBoundsOffCount_cabcc_6 : decode cJ0_checkBoundsOffCount_cabcc 6 = .ok (.invokestatic 1065, 3) := by decide +kernel
theorem dJ0_checkBoundsOffCount_cabcc_9 : decode cJ0_checkBoundsOffCount_cabcc 9 = .ok (.ireturn, 1) := by decide +kernel
theorem dJ0_checkBoundsBeginEnd_23922_0 : decode cJ0_checkBoundsBeginEnd_23922 0 = .ok (.iload_n 0, 1) := by decide +kernel
theorem dJ0_checkBoundsBeginEnd_23922_1 : decode cJ0_checkBoundsBeginEnd_23922 1 = .ok (.iload_n 1, 1) := by decide +kernel
theorem dJ0_checkBoundsBeginEnd_23922_2 : decode cJ0_checkBoundsBeginEnd_23922 2 = .ok (.iload_n 2, 1) := by decide +kernel
theorem dJ0_checkBoundsBeginEnd_23922_3 : decode cJ0_checkBoundsBeginEnd_23922 3 = .ok (.getstatic 1053, 3) := by decide +kernel
theorem dJ0_checkBoundsBeginEnd_23922_6 : decode cJ0_checkBoundsBeginEnd_23922 6 = .ok (.invokestatic 1062, 3) := by decide +kernel
theorem dJ0_checkBoundsBeginEnd_23922_9 : decode cJ0_checkBoundsBeginEnd_23922 9 = .ok (.pop, 1) := by decide +kernel
theorem dJ0_checkBoundsBeginEnd_23922_10 : decode cJ0_checkBoundsBeginEnd_23922 10 = .ok (.return_, 1) := by decide +kernel
theorem dJ4_init_da8c8_0 : decode cJ4_init_da8c8 0 = .ok (.aload_n 0, 1) := by decide +kernel
theorem dJ4_init_da8c8_1 : decode cJ4_init_da8c8 1 = .ok (.bipush 16, 2) := by decide +kernel
theorem dJ4_init_da8c8_3 : decode cJ4_init_da8c8 3 = .ok (.invokespecial 1, 3) := by decide +kernel
theorem dJ4_init_da8c8_6 : decode cJ4_init_da8c8 6 = .ok (.return_, 1) := by decide +kernel
theorem dJ4_init_a7421_0 : decode cJ4_init_a7421 0 = .ok (.aload_n 0, 1) := by decide +kernel
theorem dJ4_init_a7421_1 : decode cJ4_init_a7421 1 = .ok (.aload_n 1, 1) := by decide +kernel
theorem dJ4_init_a7421_2 : decode cJ4_init_a7421 2 = .ok (.invokespecial 7, 3) := by decide +kernel
theorem dJ4_init_a7421_5 : decode cJ4_init_a7421 5 = .ok (.return_, 1) := by decide +kernel
theorem dJ4_append_15ec4_0 : decode cJ4_append_15ec4 0 = .ok (.aload_n 0, 1) := by decide +kernel
theorem dJ4_append_15ec4_1 : decode cJ4_append_15ec4 1 = .ok (.aload_n 1, 1) := by decide +kernel
theorem dJ4_append_15ec4_2 : decode cJ4_append_15ec4 2 = .ok (.invokespecial 29, 3) := by decide +kernel
theorem dJ4_append_15ec4_5 : decode cJ4_append_15ec4 5 = .ok (.pop, 1) := by decide +kernel
theorem dJ4_append_15ec4_6 : decode cJ4_append_15ec4 6 = .ok (.aload_n 0, 1) := by decide +kernel
theorem dJ4_append_15ec4_7 : decode cJ4_append_15ec4 7 = .ok (.areturn, 1) := by decide +kernel
theorem dJ4_append_cf468_0 : decode cJ4_append_cf468 0 = .ok (.aload_n 0, 1) := by decide +kernel
theorem dJ4_append_cf468_1 : decode cJ4_append_cf468 1 = .ok (.iload_n 1, 1) := by decide +kernel
theorem dJ4_append_cf468_2 : decode cJ4_append_cf468 2 = .ok (.invokespecial 50, 3) := by decide +kernel
theorem dJ4_append_cf468_5 : decode cJ4_append_cf468 5 = .ok (.pop, 1) := by decide +kernel
theorem dJ4_append_cf468_6 : decode cJ4_append_cf468 6 = .ok (.aload_n 0, 1) := by decide +kernel
theorem dJ4_append_cf468_7 : decode cJ4_append_cf468 7 = .ok (.areturn, 1) := by decide +kernel
theorem dJ4_append_bf812_0 : decode cJ4_append_bf812 0 = .ok (.aload_n 0, 1) := by decide +kernel
theorem dJ4_append_bf812_1 : decode cJ4_append_bf812 1 = .ok (.iload_n 1, 1) := by decide +kernel
theorem dJ4_append_bf812_2 : decode cJ4_append_bf812 2 = .ok (.invokespecial 53, 3) := by decide +kernel
theorem dJ4_append_bf812_5 : decode cJ4_append_bf812 5 = .ok (.pop, 1) := by decide +kernel
theorem dJ4_append_bf812_6 : decode cJ4_append_bf812 6 = .ok (.aload_n 0, 1) := by decide +kernel
theorem dJ4_append_bf812_7 : decode cJ4_append_bf812 7 = .ok (.areturn, 1) := by decide +kernel
theorem dJ4_toString_0e30d_0 : decode cJ4_toString_0e30d 0 = .ok (.new 18, 3) := by decide +kernel
theorem dJ4_toString_0e30d_3 : decode cJ4_toString_0e30d 3 = .ok (.dup, 1) := by decide +kernel
theorem dJ4_toString_0e30d_4 : decode cJ4_toString_0e30d 4 = .ok (.aload_n 0, 1) := by decide +kernel
theorem dJ4_toString_0e30d_5 : decode cJ4_toString_0e30d 5 = .ok (.invokespecial 137, 3) := by decide +kernel
theorem dJ4_toString_0e30d_8 : decode cJ4_toString_0e30d 8 = .ok (.areturn, 1) := by decide +kernel
theorem dJ4_append_cf1ce_0 : decode cJ4_append_cf1ce 0 = .ok (.aload_n 0, 1) := by decide +kernel
theorem dJ4_append_cf1ce_1 : decode cJ4_append_cf1ce 1 = .ok (.aload_n 1, 1) := by decide +kernel
theorem dJ4_append_cf1ce_2 : decode cJ4_append_cf1ce 2 = .ok (.invokevirtual 23, 3) := by decide +kernel
theorem dJ4_append_cf1ce_5 : decode cJ4_append_cf1ce 5 = .ok (.areturn, 1) := by decide +kernel
theorem dJ4_length_8abf5_0 : decode cJ4_length_8abf5 0 = .ok (.aload_n 0, 1) := by decide +kernel
theorem dJ4_length_8abf5_1 : decode cJ4_length_8abf5 1 = .ok (.invokespecial 343, 3) := by decide +kernel
theorem dJ4_length_8abf5_4 : decode cJ4_length_8abf5 4 = .ok (.ireturn, 1) := by decide +kernel
theorem dJ1_charAt_3b067_0 : decode cJ1_charAt_3b067 0 = .ok (.iload_n 1, 1) := by decide +kernel
theorem dJ1_charAt_3b067_1 : decode cJ1_charAt_3b067 1 = .ok (.aload_n 0, 1) := by decide +kernel
theorem dJ1_charAt_3b067_2 : decode cJ1_charAt_3b067 2 = .ok (.arraylength, 1) := by decide +kernel
theorem dJ1_charAt_3b067_3 : decode cJ1_charAt_3b067 3 = .ok (.invokestatic 9, 3) := by decide +kernel
theorem dJ1_charAt_3b067_6 : decode cJ1_charAt_3b067 6 = .ok (.aload_n 0, 1) := by decide +kernel
theorem dJ1_charAt_3b067_7 : decode cJ1_charAt_3b067 7 = .ok (.iload_n 1, 1) := by decide +kernel
theorem dJ1_charAt_3b067_8 : decode cJ1_charAt_3b067 8 = .ok (.baload, 1) := by decide +kernel
theorem dJ1_charAt_3b067_9 : decode cJ1_charAt_3b067 9 = .ok (.sipush 255, 3) := by decide +kernel
theorem dJ1_charAt_3b067_12 : decode cJ1_charAt_3b067 12 = .ok (.iand, 1) := by decide +kernel
theorem dJ1_charAt_3b067_13 : decode cJ1_charAt_3b067 13 = .ok (.i2c, 1) := by decide +kernel
theorem dJ1_charAt_3b067_14 : decode cJ1_charAt_3b067 14 = .ok (.ireturn, 1) := by decide +kernel
theorem dJ1_canEncode_fc78d_0 : decode cJ1_canEncode_fc78d 0 = .ok (.iload_n 0, 1) := by decide +kernel
theorem dJ1_canEncode_fc78d_1 : decode cJ1_canEncode_fc78d 1 = .ok (.sipush 255, 3) := by decide +kernel
theorem dJ1_canEncode_fc78d_4 : decode cJ1_canEncode_fc78d 4 = .ok (.if_icmp .gt 7, 3) := by decide +kernel
theorem dJ1_canEncode_fc78d_7 : decode cJ1_canEncode_fc78d 7 = .ok (.iconst 1, 1) := by decide +kernel
theorem dJ1_canEncode_fc78d_8 : decode cJ1_canEncode_fc78d 8 = .ok (.goto 4, 3) := by decide +kernel
theorem dJ1_canEncode_fc78d_11 : decode cJ1_canEncode_fc78d 11 = .ok (.iconst 0, 1) := by decide +kernel
theorem dJ1_canEncode_fc78d_12 : decode cJ1_canEncode_fc78d 12 = .ok (.ireturn, 1) := by decide +kernel
theorem dJ1_inflate_0e8fd_0 : decode cJ1_inflate_0e8fd 0 = .ok (.aload_n 0, 1) := by decide +kernel
theorem dJ1_inflate_0e8fd_1 : decode cJ1_inflate_0e8fd 1 = .ok (.iload_n 1, 1) := by decide +kernel
theorem dJ1_inflate_0e8fd_2 : decode cJ1_inflate_0e8fd 2 = .ok (.aload_n 2, 1) := by decide +kernel
theorem dJ1_inflate_0e8fd_3 : decode cJ1_inflate_0e8fd 3 = .ok (.iload_n 3, 1) := by decide +kernel
theorem dJ1_inflate_0e8fd_4 : decode cJ1_inflate_0e8fd 4 = .ok (.iload 4, 2) := by decide +kernel
theorem dJ1_inflate_0e8fd_6 : decode cJ1_inflate_0e8fd 6 = .ok (.invokestatic 240, 3) := by decide +kernel
theorem dJ1_inflate_0e8fd_9 : decode cJ1_inflate_0e8fd 9 = .ok (.return_, 1) := by decide +kernel
theorem dJ2_newBytesFor_77867_0 : decode cJ2_newBytesFor_77867 0 = .ok (.iload_n 0, 1) := by decide +kernel
theorem dJ2_newBytesFor_77867_1 : decode cJ2_newBytesFor_77867 1 = .ok (.invokestatic 11, 3) := by decide +kernel
theorem dJ2_newBytesFor_77867_4 : decode cJ2_newBytesFor_77867 4 = .ok (.newarray .byte, 2) := by decide +kernel
theorem dJ2_newBytesFor_77867_6 : decode cJ2_newBytesFor_77867 6 = .ok (.areturn, 1) := by decide +kernel
theorem dJ2_newBytesLength_0f7a4_0 : decode cJ2_newBytesLength_0f7a4 0 = .ok (.iload_n 0, 1) := by decide +kernel
theorem dJ2_newBytesLength_0f7a4_1 : decode cJ2_newBytesLength_0f7a4 1 = .ok (.ifCond .ge 11, 3) := by decide +kernel
theorem dJ2_newBytesLength_0f7a4_4 : decode cJ2_newBytesLength_0f7a4 4 = .ok (.new 17, 3) := by decide +kernel
theorem dJ2_newBytesLength_0f7a4_7 : decode cJ2_newBytesLength_0f7a4 7 = .ok (.dup, 1) := by decide +kernel
theorem dJ2_newBytesLength_0f7a4_8 : decode cJ2_newBytesLength_0f7a4 8 = .ok (.invokespecial 19, 3) := by decide +kernel
theorem dJ2_newBytesLength_0f7a4_11 : decode cJ2_newBytesLength_0f7a4 11 = .ok (.athrow, 1) := by decide +kernel
theorem dJ2_newBytesLength_0f7a4_12 : decode cJ2_newBytesLength_0f7a4 12 = .ok (.iload_n 0, 1) := by decide +kernel
theorem dJ2_newBytesLength_0f7a4_13 : decode cJ2_newBytesLength_0f7a4 13 = .ok (.ldc 20, 2) := by decide +kernel
theorem dJ2_newBytesLength_0f7a4_15 : decode cJ2_newBytesLength_0f7a4 15 = .ok (.if_icmp .lt 40, 3) := by decide +kernel
theorem dJ2_newBytesLength_0f7a4_18 : decode cJ2_newBytesLength_0f7a4 18 = .ok (.new 21, 3) := by decide +kernel
theorem dJ2_newBytesLength_0f7a4_21 : decode cJ2_newBytesLength_0f7a4 21 = .ok (.dup, 1) := by decide +kernel
theorem dJ2_newBytesLength_0f7a4_22 : decode cJ2_newBytesLength_0f7a4 22 = .ok (.new 23, 3) := by decide +kernel
theorem dJ2_newBytesLength_0f7a4_25 : decode cJ2_newBytesLength_0f7a4 25 = .ok (.dup, 1) := by decide +kernel
theorem dJ2_newBytesLength_0f7a4_26 : decode cJ2_newBytesLength_0f7a4 26 = .ok (.invokespecial 25, 3) := by decide +kernel
theorem dJ2_newBytesLength_0f7a4_29 : decode cJ2_newBytesLength_0f7a4 29 = .ok (.ldc 26, 2) := by decide +kernel
theorem dJ2_newBytesLength_0f7a4_31 : decode cJ2_newBytesLength_0f7a4 31 = .ok (.invokevirtual 28, 3) := by decide +kernel
theorem dJ2_newBytesLength_0f7a4_34 : decode cJ2_newBytesLength_0f7a4 34 = .ok (.iload_n 0, 1) := by decide +kernel
theorem dJ2_newBytesLength_0f7a4_35 : decode cJ2_newBytesLength_0f7a4 35 = .ok (.invokevirtual 32, 3) := by decide +kernel
theorem dJ2_newBytesLength_0f7a4_38 : decode cJ2_newBytesLength_0f7a4 38 = .ok (.ldc 35, 2) := by decide +kernel
theorem dJ2_newBytesLength_0f7a4_40 : decode cJ2_newBytesLength_0f7a4 40 = .ok (.invokevirtual 28, 3) := by decide +kernel
theorem dJ2_newBytesLength_0f7a4_43 : decode cJ2_newBytesLength_0f7a4 43 = .ok (.ldc 20, 2) := by decide +kernel
theorem dJ2_newBytesLength_0f7a4_45 : decode cJ2_newBytesLength_0f7a4 45 = .ok (.invokevirtual 32, 3) := by decide +kernel
theorem dJ2_newBytesLength_0f7a4_48 : decode cJ2_newBytesLength_0f7a4 48 = .ok (.invokevirtual 37, 3) := by decide +kernel
theorem dJ2_newBytesLength_0f7a4_51 : decode cJ2_newBytesLength_0f7a4 51 = .ok (.invokespecial 41, 3) := by decide +kernel
theorem dJ2_newBytesLength_0f7a4_54 : decode cJ2_newBytesLength_0f7a4 54 = .ok (.athrow, 1) := by decide +kernel
theorem dJ2_newBytesLength_0f7a4_55 : decode cJ2_newBytesLength_0f7a4 55 = .ok (.iload_n 0, 1) := by decide +kernel
theorem dJ2_newBytesLength_0f7a4_56 : decode cJ2_newBytesLength_0f7a4 56 = .ok (.iconst 1, 1) := by decide +kernel
theorem dJ2_newBytesLength_0f7a4_57 : decode cJ2_newBytesLength_0f7a4 57 = .ok (.ishl, 1) := by decide +kernel
theorem dJ2_newBytesLength_0f7a4_58 : decode cJ2_newBytesLength_0f7a4 58 = .ok (.ireturn, 1) := by decide +kernel
theorem dJ2_putChar_b72d1_0 : decode cJ2_putChar_b72d1 0 = .ok (.getstatic 44, 3) := by decide +kernel
theorem dJ2_putChar_b72d1_3 : decode cJ2_putChar_b72d1 3 = .ok (.ifCond .ne 25, 3) := by decide +kernel
theorem dJ2_putChar_b72d1_6 : decode cJ2_putChar_b72d1 6 = .ok (.iload_n 1, 1) := by decide +kernel
theorem dJ2_putChar_b72d1_7 : decode cJ2_putChar_b72d1 7 = .ok (.ifCond .lt 11, 3) := by decide +kernel
theorem dJ2_putChar_b72d1_10 : decode cJ2_putChar_b72d1 10 = .ok (.iload_n 1, 1) := by decide +kernel
theorem dJ2_putChar_b72d1_11 : decode cJ2_putChar_b72d1 11 = .ok (.aload_n 0, 1) := by decide +kernel
theorem dJ2_putChar_b72d1_12 : decode cJ2_putChar_b72d1 12 = .ok (.invokestatic 48, 3) := by decide +kernel
theorem dJ2_putChar_b72d1_15 : decode cJ2_putChar_b72d1 15 = .ok (.if_icmp .lt 13, 3) := by decide +kernel
theorem dJ2_putChar_b72d1_18 : decode cJ2_putChar_b72d1 18 = .ok (.new 52, 3) := by decide +kernel
theorem dJ2_putChar_b72d1_21 : decode cJ2_putChar_b72d1 21 = .ok (.dup, 1) := by decide +kernel
theorem dJ2_putChar_b72d1_22 : decode cJ2_putChar_b72d1 22 = .ok (.ldc 54, 2) := by decide +kernel
theorem dJ2_putChar_b72d1_24 : decode cJ2_putChar_b72d1 24 = .ok (.invokespecial 56, 3) := by decide +kernel
theorem dJ2_putChar_b72d1_27 : decode cJ2_putChar_b72d1 27 = .ok (.athrow, 1) := by decide +kernel
theorem dJ2_putChar_b72d1_28 : decode cJ2_putChar_b72d1 28 = .ok (.iload_n 1, 1) := by decide +kernel
theorem dJ2_putChar_b72d1_29 : decode cJ2_putChar_b72d1 29 = .ok (.iconst 1, 1) := by decide +kernel
theorem dJ2_putChar_b72d1_30 : decode cJ2_putChar_b72d1 30 = .ok (.ishl, 1) := by decide +kernel
theorem dJ2_putChar_b72d1_31 : decode cJ2_putChar_b72d1 31 = .ok (.istore_n 1, 1) := by decide +kernel
theorem dJ2_putChar_b72d1_32 : decode cJ2_putChar_b72d1 32 = .ok (.aload_n 0, 1) := by decide +kernel
theorem dJ2_putChar_b72d1_33 : decode cJ2_putChar_b72d1 33 = .ok (.iload_n 1, 1) := by decide +kernel
theorem dJ2_putChar_b72d1_34 : decode cJ2_putChar_b72d1 34 = .ok (.iinc 1 1, 3) := by decide +kernel
theorem dJ2_putChar_b72d1_37 : decode cJ2_putChar_b72d1 37 = .ok (.iload_n 2, 1) := by decide +kernel
theorem dJ2_putChar_b72d1_38 : decode cJ2_putChar_b72d1 38 = .ok (.getstatic 59, 3) := by decide +kernel
theorem dJ2_putChar_b72d1_41 : decode cJ2_putChar_b72d1 41 = .ok (.ishr, 1) := by decide +kernel
theorem dJ2_putChar_b72d1_42 : decode cJ2_putChar_b72d1 42 = .ok (.i2b, 1) := by decide +kernel
theorem dJ2_putChar_b72d1_43 : decode cJ2_putChar_b72d1 43 = .ok (.bastore, 1) := by decide +kernel
theorem dJ2_putChar_b72d1_44 : decode cJ2_putChar_b72d1 44 = .ok (.aload_n 0, 1) := by decide +kernel
theorem dJ2_putChar_b72d1_45 : decode cJ2_putChar_b72d1 45 = .ok (.iload_n 1, 1) := by decide +kernel
theorem dJ2_putChar_b72d1_46 : decode cJ2_putChar_b72d1 46 = .ok (.iload_n 2, 1) := by decide +kernel
theorem dJ2_putChar_b72d1_47 : decode cJ2_putChar_b72d1 47 = .ok (.getstatic 63, 3) := by decide +kernel
theorem dJ2_putChar_b72d1_50 : decode cJ2_putChar_b72d1 50 = .ok (.ishr, 1) := by decide +kernel
theorem dJ2_putChar_b72d1_51 : decode cJ2_putChar_b72d1 51 = .ok (.i2b, 1) := by decide +kernel
theorem dJ2_putChar_b72d1_52 : decode cJ2_putChar_b72d1 52 = .ok (.bastore, 1) := by decide +kernel
theorem dJ2_putChar_b72d1_53 : decode cJ2_putChar_b72d1 53 = .ok (.return_, 1) := by decide +kernel
theorem dJ2_getChar_3b067_0 : decode cJ2_getChar_3b067 0 = .ok (.getstatic 44, 3) := by decide +kernel
theorem dJ2_getChar_3b067_3 : decode cJ2_getChar_3b067 3 = .ok (.ifCond .ne 25, 3) := by decide +kernel
theorem dJ2_getChar_3b067_6 : decode cJ2_getChar_3b067 6 = .ok (.iload_n 1, 1) := by decide +kernel
theorem dJ2_getChar_3b067_7 : decode cJ2_getChar_3b067 7 = .ok (.ifCond .lt 11, 3) := by decide +kernel
theorem dJ2_getChar_3b067_10 : decode cJ2_getChar_3b067 10 = .ok (.iload_n 1, 1) := by decide +kernel
theorem dJ2_getChar_3b067_11 : decode cJ2_getChar_3b067 11 = .ok (.aload_n 0, 1) := by decide +kernel
theorem dJ2_getChar_3b067_12 : decode cJ2_getChar_3b067 12 = .ok (.invokestatic 48, 3) := by decide +kernel
theorem dJ2_getChar_3b067_15 : decode cJ2_getChar_3b067 15 = .ok (.if_icmp .lt 13, 3) := by decide +kernel
theorem dJ2_getChar_3b067_18 : decode cJ2_getChar_3b067 18 = .ok (.new 52, 3) := by decide +kernel
theorem dJ2_getChar_3b067_21 : decode cJ2_getChar_3b067 21 = .ok (.dup, 1) := by decide +kernel
theorem dJ2_getChar_3b067_22 : decode cJ2_getChar_3b067 22 = .ok (.ldc 54, 2) := by decide +kernel
theorem dJ2_getChar_3b067_24 : decode cJ2_getChar_3b067 24 = .ok (.invokespecial 56, 3) := by decide +kernel
theorem dJ2_getChar_3b067_27 : decode cJ2_getChar_3b067 27 = .ok (.athrow, 1) := by decide +kernel
theorem dJ2_getChar_3b067_28 : decode cJ2_getChar_3b067 28 = .ok (.iload_n 1, 1) := by decide +kernel
theorem dJ2_getChar_3b067_29 : decode cJ2_getChar_3b067 29 = .ok (.iconst 1, 1) := by decide +kernel
theorem dJ2_getChar_3b067_30 : decode cJ2_getChar_3b067 30 = .ok (.ishl, 1) := by decide +kernel
theorem dJ2_getChar_3b067_31 : decode cJ2_getChar_3b067 31 = .ok (.istore_n 1, 1) := by decide +kernel
theorem dJ2_getChar_3b067_32 : decode cJ2_getChar_3b067 32 = .ok (.aload_n 0, 1) := by decide +kernel
theorem dJ2_getChar_3b067_33 : decode cJ2_getChar_3b067 33 = .ok (.iload_n 1, 1) := by decide +kernel
theorem dJ2_getChar_3b067_34 : decode cJ2_getChar_3b067 34 = .ok (.iinc 1 1, 3) := by decide +kernel
theorem dJ2_getChar_3b067_37 : decode cJ2_getChar_3b067 37 = .ok (.baload, 1) := by decide +kernel
theorem dJ2_getChar_3b067_38 : decode cJ2_getChar_3b067 38 = .ok (.sipush 255, 3) := by decide +kernel
theorem dJ2_getChar_3b067_41 : decode cJ2_getChar_3b067 41 = .ok (.iand, 1) := by decide +kernel
theorem dJ2_getChar_3b067_42 : decode cJ2_getChar_3b067 42 = .ok (.getstatic 59, 3) := by decide +kernel
theorem dJ2_getChar_3b067_45 : decode cJ2_getChar_3b067 45 = .ok (.ishl, 1) := by decide +kernel
theorem dJ2_getChar_3b067_46 : decode cJ2_getChar_3b067 46 = .ok (.aload_n 0, 1) := by decide +kernel
theorem dJ2_getChar_3b067_47 : decode cJ2_getChar_3b067 47 = .ok (.iload_n 1, 1) := by decide +kernel
theorem dJ2_getChar_3b067_48 : decode cJ2_getChar_3b067 48 = .ok (.baload, 1) := by decide +kernel
theorem dJ2_getChar_3b067_49 : decode cJ2_getChar_3b067 49 = .ok (.sipush 255, 3) := by decide +kernel
theorem dJ2_getChar_3b067_52 : decode cJ2_getChar_3b067 52 = .ok (.iand, 1) := by decide +kernel
theorem dJ2_getChar_3b067_53 : decode cJ2_getChar_3b067 53 = .ok (.getstatic 63, 3) := by decide +kernel
theorem dJ2_getChar_3b067_56 : decode cJ2_getChar_3b067 56 = .ok (.ishl, 1) := by decide +kernel
theorem dJ2_getChar_3b067_57 : decode cJ2_getChar_3b067 57 = .ok (.ior, 1) := by decide +kernel
theorem dJ2_getChar_3b067_58 : decode cJ2_getChar_3b067 58 = .ok (.i2c, 1) := by decide +kernel
theorem dJ2_getChar_3b067_59 : decode cJ2_getChar_3b067 59 = .ok (.ireturn, 1) := by decide +kernel
theorem dJ2_length_9d52b_0 : decode cJ2_length_9d52b 0 = .ok (.aload_n 0, 1) := by decide +kernel
theorem dJ2_length_9d52b_1 : decode cJ2_length_9d52b 1 = .ok (.arraylength, 1) := by decide +kernel
theorem dJ2_length_9d52b_2 : decode cJ2_length_9d52b 2 = .ok (.iconst 1, 1) := by decide +kernel
theorem dJ2_length_9d52b_3 : decode cJ2_length_9d52b 3 = .ok (.ishr, 1) := by decide +kernel
theorem dJ2_length_9d52b_4 : decode cJ2_length_9d52b 4 = .ok (.ireturn, 1) := by decide +kernel
theorem dJ2_coderFromArrayLen_85cad_0 : decode cJ2_coderFromArrayLen_85cad 0 = .ok (.iload_n 1, 1) := by decide +kernel
theorem dJ2_coderFromArrayLen_85cad_1 : decode cJ2_coderFromArrayLen_85cad 1 = .ok (.aload_n 0, 1) := by decide +kernel
theorem dJ2_coderFromArrayLen_85cad_2 : decode cJ2_coderFromArrayLen_85cad 2 = .ok (.arraylength, 1) := by decide +kernel
theorem dJ2_coderFromArrayLen_85cad_3 : decode cJ2_coderFromArrayLen_85cad 3 = .ok (.isub, 1) := by decide +kernel
theorem dJ2_coderFromArrayLen_85cad_4 : decode cJ2_coderFromArrayLen_85cad 4 = .ok (.bipush 31, 2) := by decide +kernel
theorem dJ2_coderFromArrayLen_85cad_6 : decode cJ2_coderFromArrayLen_85cad 6 = .ok (.iushr, 1) := by decide +kernel
theorem dJ2_coderFromArrayLen_85cad_7 : decode cJ2_coderFromArrayLen_85cad 7 = .ok (.i2b, 1) := by decide +kernel
theorem dJ2_coderFromArrayLen_85cad_8 : decode cJ2_coderFromArrayLen_85cad 8 = .ok (.ireturn, 1) := by decide +kernel
theorem dJ2_compress_39247_0 : decode cJ2_compress_39247 0 = .ok (.iload_n 2, 1) := by decide +kernel
theorem dJ2_compress_39247_1 : decode cJ2_compress_39247 1 = .ok (.newarray .byte, 2) := by decide +kernel
theorem dJ2_compress_39247_3 : decode cJ2_compress_39247 3 = .ok (.astore_n 3, 1) := by decide +kernel
theorem dJ2_compress_39247_4 : decode cJ2_compress_39247 4 = .ok (.aload_n 0, 1) := by decide +kernel
theorem dJ2_compress_39247_5 : decode cJ2_compress_39247 5 = .ok (.iload_n 1, 1) := by decide +kernel
theorem dJ2_compress_39247_6 : decode cJ2_compress_39247 6 = .ok (.aload_n 3, 1) := by decide +kernel
theorem dJ2_compress_39247_7 : decode cJ2_compress_39247 7 = .ok (.iconst 0, 1) := by decide +kernel
theorem dJ2_compress_39247_8 : decode cJ2_compress_39247 8 = .ok (.iload_n 2, 1) := by decide +kernel
theorem dJ2_compress_39247_9 : decode cJ2_compress_39247 9 = .ok (.invokestatic 123, 3) := by decide +kernel
theorem dJ2_compress_39247_12 : decode cJ2_compress_39247 12 = .ok (.istore 4, 2) := by decide +kernel
theorem dJ2_compress_39247_14 : decode cJ2_compress_39247 14 = .ok (.iload 4, 2) := by decide +kernel
theorem dJ2_compress_39247_16 : decode cJ2_compress_39247 16 = .ok (.iload_n 2, 1) := by decide +kernel
theorem dJ2_compress_39247_17 : decode cJ2_compress_39247 17 = .ok (.if_icmp .eq 47, 3) := by decide +kernel
theorem dJ2_compress_39247_20 : decode cJ2_compress_39247 20 = .ok (.aload_n 0, 1) := by decide +kernel
theorem dJ2_compress_39247_21 : decode cJ2_compress_39247 21 = .ok (.iload_n 1, 1) := by decide +kernel
theorem dJ2_compress_39247_22 : decode cJ2_compress_39247 22 = .ok (.iconst 1, 1) := by decide +kernel
theorem dJ2_compress_39247_23 : decode cJ2_compress_39247 23 = .ok (.ishl, 1) := by decide +kernel
theorem dJ2_compress_39247_24 : decode cJ2_compress_39247 24 = .ok (.iload_n 1, 1) := by decide +kernel
theorem dJ2_compress_39247_25 : decode cJ2_compress_39247 25 = .ok (.iload_n 2, 1) := by decide +kernel
theorem dJ2_compress_39247_26 : decode cJ2_compress_39247 26 = .ok (.iadd, 1) := by decide +kernel
theorem dJ2_compress_39247_27 : decode cJ2_compress_39247 27 = .ok (.invokestatic 11, 3) := by decide +kernel
theorem dJ2_compress_39247_30 : decode cJ2_compress_39247 30 = .ok (.invokestatic 126, 3) := by decide +kernel
theorem dJ2_compress_39247_33 : decode cJ2_compress_39247 33 = .ok (.astore 5, 2) := by decide +kernel
theorem dJ2_compress_39247_35 : decode cJ2_compress_39247 35 = .ok (.aload 5, 2) := by decide +kernel
theorem dJ2_compress_39247_37 : decode cJ2_compress_39247 37 = .ok (.iload 4, 2) := by decide +kernel
theorem dJ2_compress_39247_39 : decode cJ2_compress_39247 39 = .ok (.invokestatic 71, 3) := by decide +kernel
theorem dJ2_compress_39247_42 : decode cJ2_compress_39247 42 = .ok (.sipush 255, 3) := by decide +kernel
theorem dJ2_compress_39247_45 : decode cJ2_compress_39247 45 = .ok (.if_icmp .gt 16, 3) := by decide +kernel
theorem dJ2_compress_39247_48 : decode cJ2_compress_39247 48 = .ok (.aload 5, 2) := by decide +kernel
theorem dJ2_compress_39247_50 : decode cJ2_compress_39247 50 = .ok (.iconst 0, 1) := by decide +kernel
theorem dJ2_compress_39247_51 : decode cJ2_compress_39247 51 = .ok (.aload_n 3, 1) := by decide +kernel
theorem dJ2_compress_39247_52 : decode cJ2_compress_39247 52 = .ok (.iconst 0, 1) := by decide +kernel
theorem dJ2_compress_39247_53 : decode cJ2_compress_39247 53 = .ok (.iload_n 2, 1) := by decide +kernel
theorem dJ2_compress_39247_54 : decode cJ2_compress_39247 54 = .ok (.invokestatic 123, 3) := by decide +kernel
theorem dJ2_compress_39247_57 : decode cJ2_compress_39247 57 = .ok (.iload_n 2, 1) := by decide +kernel
theorem dJ2_compress_39247_58 : decode cJ2_compress_39247 58 = .ok (.if_icmp .eq 6, 3) := by decide +kernel
theorem dJ2_compress_39247_61 : decode cJ2_compress_39247 61 = .ok (.aload 5, 2) := by decide +kernel
theorem dJ2_compress_39247_63 : decode cJ2_compress_39247 63 = .ok (.areturn, 1) := by decide +kernel
theorem dJ2_compress_39247_64 : decode cJ2_compress_39247 64 = .ok (.aload_n 3, 1) := by decide +kernel
theorem dJ2_compress_39247_65 : decode cJ2_compress_39247 65 = .ok (.areturn, 1) := by decide +kernel
theorem dJ2_compress_5af95_0 : decode cJ2_compress_5af95 0 = .ok (.iload_n 1, 1) := by decide +kernel
theorem dJ2_compress_5af95_1 : decode cJ2_compress_5af95 1 = .ok (.iload 4, 2) := by decide +kernel
theorem dJ2_compress_5af95_3 : decode cJ2_compress_5af95 3 = .ok (.aload_n 0, 1) := by decide +kernel
theorem dJ2_compress_5af95_4 : decode cJ2_compress_5af95 4 = .ok (.invokestatic 173, 3) := by decide +kernel
theorem dJ2_compress_5af95_7 : decode cJ2_compress_5af95 7 = .ok (.iconst 0, 1) := by decide +kernel
theorem dJ2_compress_5af95_8 : decode cJ2_compress_5af95 8 = .ok (.istore 5, 2) := by decide +kernel
theorem dJ2_compress_5af95_10 : decode cJ2_compress_5af95 10 = .ok (.iload 5, 2) := by decide +kernel
theorem dJ2_compress_5af95_12 : decode cJ2_compress_5af95 12 = .ok (.iload 4, 2) := by decide +kernel
theorem dJ2_compress_5af95_14 : decode cJ2_compress_5af95 14 = .ok (.if_icmp .ge 39, 3) := by decide +kernel
theorem dJ2_compress_5af95_17 : decode cJ2_compress_5af95 17 = .ok (.aload_n 0, 1) := by decide +kernel
theorem dJ2_compress_5af95_18 : decode cJ2_compress_5af95 18 = .ok (.iload_n 1, 1) := by decide +kernel
theorem dJ2_compress_5af95_19 : decode cJ2_compress_5af95 19 = .ok (.invokestatic 71, 3) := by decide +kernel
theorem dJ2_compress_5af95_22 : decode cJ2_compress_5af95 22 = .ok (.istore 6, 2) := by decide +kernel
theorem dJ2_compress_5af95_24 : decode cJ2_compress_5af95 24 = .ok (.iload 6, 2) := by decide +kernel
theorem dJ2_compress_5af95_26 : decode cJ2_compress_5af95 26 = .ok (.sipush 255, 3) := by decide +kernel
theorem dJ2_compress_5af95_29 : decode cJ2_compress_5af95 29 = .ok (.if_icmp .le 6, 3) := by decide +kernel
theorem dJ2_compress_5af95_32 : decode cJ2_compress_5af95 32 = .ok (.iload 5, 2) := by decide +kernel
theorem dJ2_compress_5af95_34 : decode cJ2_compress_5af95 34 = .ok (.ireturn, 1) := by decide +kernel
theorem dJ2_compress_5af95_35 : decode cJ2_compress_5af95 35 = .ok (.aload_n 2, 1) := by decide +kernel
theorem dJ2_compress_5af95_36 : decode cJ2_compress_5af95 36 = .ok (.iload_n 3, 1) := by decide +kernel
theorem dJ2_compress_5af95_37 : decode cJ2_compress_5af95 37 = .ok (.iload 6, 2) := by decide +kernel
theorem dJ2_compress_5af95_39 : decode cJ2_compress_5af95 39 = .ok (.i2b, 1) := by decide +kernel
theorem dJ2_compress_5af95_40 : decode cJ2_compress_5af95 40 = .ok (.bastore, 1) := by decide +kernel
theorem dJ2_compress_5af95_41 : decode cJ2_compress_5af95 41 = .ok (.iinc 1 1, 3) := by decide +kernel
theorem dJ2_compress_5af95_44 : decode cJ2_compress_5af95 44 = .ok (.iinc 3 1, 3) := by decide +kernel
theorem dJ2_compress_5af95_47 : decode cJ2_compress_5af95 47 = .ok (.iinc 5 1, 3) := by decide +kernel
theorem dJ2_compress_5af95_50 : decode cJ2_compress_5af95 50 = .ok (.goto (-40), 3) := by decide +kernel
theorem dJ2_compress_5af95_53 : decode cJ2_compress_5af95 53 = .ok (.iload 4, 2) := by decide +kernel
theorem dJ2_compress_5af95_55 : decode cJ2_compress_5af95 55 = .ok (.ireturn, 1) := by decide +kernel
theorem dJ2_putCharSB_b72d1_0 : decode cJ2_putCharSB_b72d1 0 = .ok (.iload_n 1, 1) := by decide +kernel
theorem dJ2_putCharSB_b72d1_1 : decode cJ2_putCharSB_b72d1 1 = .ok (.aload_n 0, 1) := by decide +kernel
theorem dJ2_putCharSB_b72d1_2 : decode cJ2_putCharSB_b72d1 2 = .ok (.invokestatic 67, 3) := by decide +kernel
theorem dJ2_putCharSB_b72d1_5 : decode cJ2_putCharSB_b72d1 5 = .ok (.aload_n 0, 1) := by decide +kernel
theorem dJ2_putCharSB_b72d1_6 : decode cJ2_putCharSB_b72d1 6 = .ok (.iload_n 1, 1) := by decide +kernel
theorem dJ2_putCharSB_b72d1_7 : decode cJ2_putCharSB_b72d1 7 = .ok (.iload_n 2, 1) := by decide +kernel
theorem dJ2_putCharSB_b72d1_8 : decode cJ2_putCharSB_b72d1 8 = .ok (.invokestatic 111, 3) := by decide +kernel
theorem dJ2_putCharSB_b72d1_11 : decode cJ2_putCharSB_b72d1 11 = .ok (.return_, 1) := by decide +kernel
theorem dJ2_getChars_46870_0 : decode cJ2_getChars_46870 0 = .ok (.iload_n 1, 1) := by decide +kernel
theorem dJ2_getChars_46870_1 : decode cJ2_getChars_46870 1 = .ok (.iload_n 2, 1) := by decide +kernel
theorem dJ2_getChars_46870_2 : decode cJ2_getChars_46870 2 = .ok (.aload_n 3, 1) := by decide +kernel
theorem dJ2_getChars_46870_3 : decode cJ2_getChars_46870 3 = .ok (.invokestatic 96, 3) := by decide +kernel
theorem dJ2_getChars_46870_6 : decode cJ2_getChars_46870 6 = .ok (.iload_n 0, 1) := by decide +kernel
theorem dJ2_getChars_46870_7 : decode cJ2_getChars_46870 7 = .ok (.iload_n 2, 1) := by decide +kernel
theorem dJ2_getChars_46870_8 : decode cJ2_getChars_46870 8 = .ok (.aload_n 3, 1) := by decide +kernel
theorem dJ2_getChars_46870_9 : decode cJ2_getChars_46870 9 = .ok (.invokestatic 393, 3) := by decide +kernel
theorem dJ2_getChars_46870_12 : decode cJ2_getChars_46870 12 = .ok (.istore 4, 2) := by decide +kernel
theorem dJ2_getChars_46870_14 : decode cJ2_getChars_46870 14 = .ok (.getstatic 44, 3) := by decide +kernel
theorem dJ2_getChars_46870_17 : decode cJ2_getChars_46870 17 = .ok (.ifCond .ne 17, 3) := by decide +kernel
theorem dJ2_getChars_46870_20 : decode cJ2_getChars_46870 20 = .ok (.iload_n 1, 1) := by decide +kernel
theorem dJ2_getChars_46870_21 : decode cJ2_getChars_46870 21 = .ok (.iload 4, 2) := by decide +kernel
theorem dJ2_getChars_46870_23 : decode cJ2_getChars_46870 23 = .ok (.if_icmp .eq 11, 3) := by decide +kernel
theorem dJ2_getChars_46870_26 : decode cJ2_getChars_46870 26 = .ok (.new 52, 3) := by decide +kernel
theorem dJ2_getChars_46870_29 : decode cJ2_getChars_46870 29 = .ok (.dup, 1) := by decide +kernel
theorem dJ2_getChars_46870_30 : decode cJ2_getChars_46870 30 = .ok (.invokespecial 66, 3) := by decide +kernel
theorem dJ2_getChars_46870_33 : decode cJ2_getChars_46870 33 = .ok (.athrow, 1) := by decide +kernel
theorem dJ2_getChars_46870_34 : decode cJ2_getChars_46870 34 = .ok (.iload 4, 2) := by decide +kernel
theorem dJ2_getChars_46870_36 : decode cJ2_getChars_46870 36 = .ok (.ireturn, 1) := by decide +kernel
theorem dJ2_putCharsAt_cd4e5_0 : decode cJ2_putCharsAt_cd4e5 0 = .ok (.iload_n 1, 1) := by decide +kernel
theorem dJ2_putCharsAt_cd4e5_1 : decode cJ2_putCharsAt_cd4e5 1 = .ok (.iconst 4, 1) := by decide +kernel
theorem dJ2_putCharsAt_cd4e5_2 : decode cJ2_putCharsAt_cd4e5 2 = .ok (.iadd, 1) := by decide +kernel
theorem dJ2_putCharsAt_cd4e5_3 : decode cJ2_putCharsAt_cd4e5 3 = .ok (.istore 6, 2) := by decide +kernel
theorem dJ2_putCharsAt_cd4e5_5 : decode cJ2_putCharsAt_cd4e5 5 = .ok (.iload_n 1, 1) := by decide +kernel
theorem dJ2_putCharsAt_cd4e5_6 : decode cJ2_putCharsAt_cd4e5 6 = .ok (.iload 6, 2) := by decide +kernel
theorem dJ2_putCharsAt_cd4e5_8 : decode cJ2_putCharsAt_cd4e5 8 = .ok (.aload_n 0, 1) := by decide +kernel
theorem dJ2_putCharsAt_cd4e5_9 : decode cJ2_putCharsAt_cd4e5 9 = .ok (.invokestatic 96, 3) := by decide +kernel
theorem dJ2_putCharsAt_cd4e5_12 : decode cJ2_putCharsAt_cd4e5 12 = .ok (.aload_n 0, 1) := by decide +kernel
theorem dJ2_putCharsAt_cd4e5_13 : decode cJ2_putCharsAt_cd4e5 13 = .ok (.iload_n 1, 1) := by decide +kernel
theorem dJ2_putCharsAt_cd4e5_14 : decode cJ2_putCharsAt_cd4e5 14 = .ok (.iinc 1 1, 3) := by decide +kernel
theorem dJ2_putCharsAt_cd4e5_17 : decode cJ2_putCharsAt_cd4e5 17 = .ok (.iload_n 2, 1) := by decide +kernel
theorem dJ2_putCharsAt_cd4e5_18 : decode cJ2_putCharsAt_cd4e5 18 = .ok (.invokestatic 111, 3) := by decide +kernel
theorem dJ2_putCharsAt_cd4e5_21 : decode cJ2_putCharsAt_cd4e5 21 = .ok (.aload_n 0, 1) := by decide +kernel
theorem dJ2_putCharsAt_cd4e5_22 : decode cJ2_putCharsAt_cd4e5 22 = .ok (.iload_n 1, 1) := by decide +kernel
theorem dJ2_putCharsAt_cd4e5_23 : decode cJ2_putCharsAt_cd4e5 23 = .ok (.iinc 1 1, 3) := by decide +kernel
theorem dJ2_putCharsAt_cd4e5_26 : decode cJ2_putCharsAt_cd4e5 26 = .ok (.iload_n 3, 1) := by decide +kernel
theorem dJ2_putCharsAt_cd4e5_27 : decode cJ2_putCharsAt_cd4e5 27 = .ok (.invokestatic 111, 3) := by decide +kernel
theorem dJ2_putCharsAt_cd4e5_30 : decode cJ2_putCharsAt_cd4e5 30 = .ok (.aload_n 0, 1) := by decide +kernel
theorem dJ2_putCharsAt_cd4e5_31 : decode cJ2_putCharsAt_cd4e5 31 = .ok (.iload_n 1, 1) := by decide +kernel
theorem dJ2_putCharsAt_cd4e5_32 : decode cJ2_putCharsAt_cd4e5 32 = .ok (.iinc 1 1, 3) := by decide +kernel
theorem dJ2_putCharsAt_cd4e5_35 : decode cJ2_putCharsAt_cd4e5 35 = .ok (.iload 4, 2) := by decide +kernel
theorem dJ2_putCharsAt_cd4e5_37 : decode cJ2_putCharsAt_cd4e5 37 = .ok (.invokestatic 111, 3) := by decide +kernel
theorem dJ2_putCharsAt_cd4e5_40 : decode cJ2_putCharsAt_cd4e5 40 = .ok (.aload_n 0, 1) := by decide +kernel
theorem dJ2_putCharsAt_cd4e5_41 : decode cJ2_putCharsAt_cd4e5 41 = .ok (.iload_n 1, 1) := by decide +kernel
theorem dJ2_putCharsAt_cd4e5_42 : decode cJ2_putCharsAt_cd4e5 42 = .ok (.iinc 1 1, 3) := by decide +kernel
theorem dJ2_putCharsAt_cd4e5_45 : decode cJ2_putCharsAt_cd4e5 45 = .ok (.iload 5, 2) := by decide +kernel
theorem dJ2_putCharsAt_cd4e5_47 : decode cJ2_putCharsAt_cd4e5 47 = .ok (.invokestatic 111, 3) := by decide +kernel
theorem dJ2_putCharsAt_cd4e5_50 : decode cJ2_putCharsAt_cd4e5 50 = .ok (.getstatic 44, 3) := by decide +kernel
theorem dJ2_putCharsAt_cd4e5_53 : decode cJ2_putCharsAt_cd4e5 53 = .ok (.ifCond .ne 17, 3) := by decide +kernel
theorem dJ2_putCharsAt_cd4e5_56 : decode cJ2_putCharsAt_cd4e5 56 = .ok (.iload_n 1, 1) := by decide +kernel
theorem dJ2_putCharsAt_cd4e5_57 : decode cJ2_putCharsAt_cd4e5 57 = .ok (.iload 6, 2) := by decide +kernel
theorem dJ2_putCharsAt_cd4e5_59 : decode cJ2_putCharsAt_cd4e5 59 = .ok (.if_icmp .eq 11, 3) := by decide +kernel
theorem dJ2_putCharsAt_cd4e5_62 : decode cJ2_putCharsAt_cd4e5 62 = .ok (.new 52, 3) := by decide +kernel
theorem dJ2_putCharsAt_cd4e5_65 : decode cJ2_putCharsAt_cd4e5 65 = .ok (.dup, 1) := by decide +kernel
theorem dJ2_putCharsAt_cd4e5_66 : decode cJ2_putCharsAt_cd4e5 66 = .ok (.invokespecial 66, 3) := by decide +kernel
theorem dJ2_putCharsAt_cd4e5_69 : decode cJ2_putCharsAt_cd4e5 69 = .ok (.athrow, 1) := by decide +kernel
theorem dJ2_putCharsAt_cd4e5_70 : decode cJ2_putCharsAt_cd4e5 70 = .ok (.iload 6, 2) := by decide +kernel
theorem dJ2_putCharsAt_cd4e5_72 : decode cJ2_putCharsAt_cd4e5 72 = .ok (.ireturn, 1) := by decide +kernel
theorem dJ2_charAt_3b067_0 : decode cJ2_charAt_3b067 0 = .ok (.iload_n 1, 1) := by decide +kernel
theorem dJ2_charAt_3b067_1 : decode cJ2_charAt_3b067 1 = .ok (.aload_n 0, 1) := by decide +kernel
theorem dJ2_charAt_3b067_2 : decode cJ2_charAt_3b067 2 = .ok (.invokestatic 67, 3) := by decide +kernel
theorem dJ2_charAt_3b067_5 : decode cJ2_charAt_3b067 5 = .ok (.aload_n 0, 1) := by decide +kernel
theorem dJ2_charAt_3b067_6 : decode cJ2_charAt_3b067 6 = .ok (.iload_n 1, 1) := by decide +kernel
theorem dJ2_charAt_3b067_7 : decode cJ2_charAt_3b067 7 = .ok (.invokestatic 71, 3) := by decide +kernel
theorem dJ2_charAt_3b067_10 : decode cJ2_charAt_3b067 10 = .ok (.ireturn, 1) := by decide +kernel
theorem dJ2_inflate_0e8fd_0 : decode cJ2_inflate_0e8fd 0 = .ok (.iload_n 3, 1) := by decide +kernel
theorem dJ2_inflate_0e8fd_1 : decode cJ2_inflate_0e8fd 1 = .ok (.iload 4, 2) := by decide +kernel
theorem dJ2_inflate_0e8fd_3 : decode cJ2_inflate_0e8fd 3 = .ok (.aload_n 2, 1) := by decide +kernel
theorem dJ2_inflate_0e8fd_4 : decode cJ2_inflate_0e8fd 4 = .ok (.invokestatic 173, 3) := by decide +kernel
theorem dJ2_inflate_0e8fd_7 : decode cJ2_inflate_0e8fd 7 = .ok (.iconst 0, 1) := by decide +kernel
theorem dJ2_inflate_0e8fd_8 : decode cJ2_inflate_0e8fd 8 = .ok (.istore 5, 2) := by decide +kernel
theorem dJ2_inflate_0e8fd_10 : decode cJ2_inflate_0e8fd 10 = .ok (.iload 5, 2) := by decide +kernel
theorem dJ2_inflate_0e8fd_12 : decode cJ2_inflate_0e8fd 12 = .ok (.iload 4, 2) := by decide +kernel
theorem dJ2_inflate_0e8fd_14 : decode cJ2_inflate_0e8fd 14 = .ok (.if_icmp .ge 27, 3) := by decide +kernel
theorem dJ2_inflate_0e8fd_17 : decode cJ2_inflate_0e8fd 17 = .ok (.aload_n 2, 1) := by decide +kernel
theorem dJ2_inflate_0e8fd_18 : decode cJ2_inflate_0e8fd 18 = .ok (.iload_n 3, 1) := by decide +kernel
theorem dJ2_inflate_0e8fd_19 : decode cJ2_inflate_0e8fd 19 = .ok (.iinc 3 1, 3) := by decide +kernel
theorem dJ2_inflate_0e8fd_22 : decode cJ2_inflate_0e8fd 22 = .ok (.aload_n 0, 1) := by decide +kernel
theorem dJ2_inflate_0e8fd_23 : decode cJ2_inflate_0e8fd 23 = .ok (.iload_n 1, 1) := by decide +kernel
theorem dJ2_inflate_0e8fd_24 : decode cJ2_inflate_0e8fd 24 = .ok (.iinc 1 1, 3) := by decide +kernel
theorem dJ2_inflate_0e8fd_27 : decode cJ2_inflate_0e8fd 27 = .ok (.baload, 1) := by decide +kernel
theorem dJ2_inflate_0e8fd_28 : decode cJ2_inflate_0e8fd 28 = .ok (.sipush 255, 3) := by decide +kernel
theorem dJ2_inflate_0e8fd_31 : decode cJ2_inflate_0e8fd 31 = .ok (.iand, 1) := by decide +kernel
theorem dJ2_inflate_0e8fd_32 : decode cJ2_inflate_0e8fd 32 = .ok (.invokestatic 111, 3) := by decide +kernel
theorem dJ2_inflate_0e8fd_35 : decode cJ2_inflate_0e8fd 35 = .ok (.iinc 5 1, 3) := by decide +kernel
theorem dJ2_inflate_0e8fd_38 : decode cJ2_inflate_0e8fd 38 = .ok (.goto (-28), 3) := by decide +kernel
theorem dJ2_inflate_0e8fd_41 : decode cJ2_inflate_0e8fd 41 = .ok (.return_, 1) := by decide +kernel
theorem dJ2_getChars_ba4f3_0 : decode cJ2_getChars_ba4f3 0 = .ok (.iload_n 1, 1) := by decide +kernel
theorem dJ2_getChars_ba4f3_1 : decode cJ2_getChars_ba4f3 1 = .ok (.istore 5, 2) := by decide +kernel
theorem dJ2_getChars_ba4f3_3 : decode cJ2_getChars_ba4f3 3 = .ok (.iload_n 0, 1) := by decide +kernel
theorem dJ2_getChars_ba4f3_4 : decode cJ2_getChars_ba4f3 4 = .ok (.ifCond .ge 7, 3) := by decide +kernel
theorem dJ2_getChars_ba4f3_7 : decode cJ2_getChars_ba4f3 7 = .ok (.iconst 1, 1) := by decide +kernel
theorem dJ2_getChars_ba4f3_8 : decode cJ2_getChars_ba4f3 8 = .ok (.goto 4, 3) := by decide +kernel
theorem dJ2_getChars_ba4f3_11 : decode cJ2_getChars_ba4f3 11 = .ok (.iconst 0, 1) := by decide +kernel
theorem dJ2_getChars_ba4f3_12 : decode cJ2_getChars_ba4f3 12 = .ok (.istore 6, 2) := by decide +kernel
theorem dJ2_getChars_ba4f3_14 : decode cJ2_getChars_ba4f3 14 = .ok (.iload 6, 2) := by decide +kernel
theorem dJ2_getChars_ba4f3_16 : decode cJ2_getChars_ba4f3 16 = .ok (.ifCond .ne 6, 3) := by decide +kernel
theorem dJ2_getChars_ba4f3_19 : decode cJ2_getChars_ba4f3 19 = .ok (.iload_n 0, 1) := by decide +kernel
theorem dJ2_getChars_ba4f3_20 : decode cJ2_getChars_ba4f3 20 = .ok (.ineg, 1) := by decide +kernel
theorem dJ2_getChars_ba4f3_21 : decode cJ2_getChars_ba4f3 21 = .ok (.istore_n 0, 1) := by decide +kernel
theorem dJ2_getChars_ba4f3_22 : decode cJ2_getChars_ba4f3 22 = .ok (.iload_n 0, 1) := by decide +kernel
theorem dJ2_getChars_ba4f3_23 : decode cJ2_getChars_ba4f3 23 = .ok (.bipush (-100), 2) := by decide +kernel
theorem dJ2_getChars_ba4f3_25 : decode cJ2_getChars_ba4f3 25 = .ok (.if_icmp .gt 51, 3) := by decide +kernel
theorem dJ2_getChars_ba4f3_28 : decode cJ2_getChars_ba4f3 28 = .ok (.iload_n 0, 1) := by decide +kernel
theorem dJ2_getChars_ba4f3_29 : decode cJ2_getChars_ba4f3 29 = .ok (.bipush 100, 2) := by decide +kernel
theorem dJ2_getChars_ba4f3_31 : decode cJ2_getChars_ba4f3 31 = .ok (.idiv, 1) := by decide +kernel
theorem dJ2_getChars_ba4f3_32 : decode cJ2_getChars_ba4f3 32 = .ok (.istore_n 3, 1) := by decide +kernel
theorem dJ2_getChars_ba4f3_33 : decode cJ2_getChars_ba4f3 33 = .ok (.iload_n 3, 1) := by decide +kernel
theorem dJ2_getChars_ba4f3_34 : decode cJ2_getChars_ba4f3 34 = .ok (.bipush 100, 2) := by decide +kernel
theorem dJ2_getChars_ba4f3_36 : decode cJ2_getChars_ba4f3 36 = .ok (.imul, 1) := by decide +kernel
theorem dJ2_getChars_ba4f3_37 : decode cJ2_getChars_ba4f3 37 = .ok (.iload_n 0, 1) := by decide +kernel
theorem dJ2_getChars_ba4f3_38 : decode cJ2_getChars_ba4f3 38 = .ok (.isub, 1) := by decide +kernel
theorem dJ2_getChars_ba4f3_39 : decode cJ2_getChars_ba4f3 39 = .ok (.istore 4, 2) := by decide +kernel
theorem dJ2_getChars_ba4f3_41 : decode cJ2_getChars_ba4f3 41 = .ok (.iload_n 3, 1) := by decide +kernel
theorem dJ2_getChars_ba4f3_42 : decode cJ2_getChars_ba4f3 42 = .ok (.istore_n 0, 1) := by decide +kernel
theorem dJ2_getChars_ba4f3_43 : decode cJ2_getChars_ba4f3 43 = .ok (.aload_n 2, 1) := by decide +kernel
theorem dJ2_getChars_ba4f3_44 : decode cJ2_getChars_ba4f3 44 = .ok (.iinc 5 (-1), 3) := by decide +kernel
theorem dJ2_getChars_ba4f3_47 : decode cJ2_getChars_ba4f3 47 = .ok (.iload 5, 2) := by decide +kernel
theorem dJ2_getChars_ba4f3_49 : decode cJ2_getChars_ba4f3 49 = .ok (.getstatic 403, 3) := by decide +kernel
theorem dJ2_getChars_ba4f3_52 : decode cJ2_getChars_ba4f3 52 = .ok (.iload 4, 2) := by decide +kernel
theorem dJ2_getChars_ba4f3_54 : decode cJ2_getChars_ba4f3 54 = .ok (.baload, 1) := by decide +kernel
theorem dJ2_getChars_ba4f3_55 : decode cJ2_getChars_ba4f3 55 = .ok (.invokestatic 111, 3) := by decide +kernel
theorem dJ2_getChars_ba4f3_58 : decode cJ2_getChars_ba4f3 58 = .ok (.aload_n 2, 1) := by decide +kernel
theorem dJ2_getChars_ba4f3_59 : decode cJ2_getChars_ba4f3 59 = .ok (.iinc 5 (-1), 3) := by decide +kernel
theorem dJ2_getChars_ba4f3_62 : decode cJ2_getChars_ba4f3 62 = .ok (.iload 5, 2) := by decide +kernel
theorem dJ2_getChars_ba4f3_64 : decode cJ2_getChars_ba4f3 64 = .ok (.getstatic 407, 3) := by decide +kernel
theorem dJ2_getChars_ba4f3_67 : decode cJ2_getChars_ba4f3 67 = .ok (.iload 4, 2) := by decide +kernel
theorem dJ2_getChars_ba4f3_69 : decode cJ2_getChars_ba4f3 69 = .ok (.baload, 1) := by decide +kernel
theorem dJ2_getChars_ba4f3_70 : decode cJ2_getChars_ba4f3 70 = .ok (.invokestatic 111, 3) := by decide +kernel
theorem dJ2_getChars_ba4f3_73 : decode cJ2_getChars_ba4f3 73 = .ok (.goto (-51), 3) := by decide +kernel
theorem dJ2_getChars_ba4f3_76 : decode cJ2_getChars_ba4f3 76 = .ok (.aload_n 2, 1) := by decide +kernel
theorem dJ2_getChars_ba4f3_77 : decode cJ2_getChars_ba4f3 77 = .ok (.iinc 5 (-1), 3) := by decide +kernel
theorem dJ2_getChars_ba4f3_80 : decode cJ2_getChars_ba4f3 80 = .ok (.iload 5, 2) := by decide +kernel
theorem dJ2_getChars_ba4f3_82 : decode cJ2_getChars_ba4f3 82 = .ok (.getstatic 403, 3) := by decide +kernel
theorem dJ2_getChars_ba4f3_85 : decode cJ2_getChars_ba4f3 85 = .ok (.iload_n 0, 1) := by decide +kernel
theorem dJ2_getChars_ba4f3_86 : decode cJ2_getChars_ba4f3 86 = .ok (.ineg, 1) := by decide +kernel
theorem dJ2_getChars_ba4f3_87 : decode cJ2_getChars_ba4f3 87 = .ok (.baload, 1) := by decide +kernel
theorem dJ2_getChars_ba4f3_88 : decode cJ2_getChars_ba4f3 88 = .ok (.invokestatic 111, 3) := by decide +kernel
theorem dJ2_getChars_ba4f3_91 : decode cJ2_getChars_ba4f3 91 = .ok (.iload_n 0, 1) := by decide +kernel
theorem dJ2_getChars_ba4f3_92 : decode cJ2_getChars_ba4f3 92 = .ok (.bipush (-9), 2) := by decide +kernel
theorem dJ2_getChars_ba4f3_94 : decode cJ2_getChars_ba4f3 94 = .ok (.if_icmp .ge 18, 3) := by decide +kernel
theorem dJ2_getChars_ba4f3_97 : decode cJ2_getChars_ba4f3 97 = .ok (.aload_n 2, 1) := by decide +kernel
theorem dJ2_getChars_ba4f3_98 : decode cJ2_getChars_ba4f3 98 = .ok (.iinc 5 (-1), 3) := by decide +kernel
theorem dJ2_getChars_ba4f3_101 : decode cJ2_getChars_ba4f3 101 = .ok (.iload 5, 2) := by decide +kernel
theorem dJ2_getChars_ba4f3_103 : decode cJ2_getChars_ba4f3 103 = .ok (.getstatic 407, 3) := by decide +kernel
theorem dJ2_getChars_ba4f3_106 : decode cJ2_getChars_ba4f3 106 = .ok (.iload_n 0, 1) := by decide +kernel
theorem dJ2_getChars_ba4f3_107 : decode cJ2_getChars_ba4f3 107 = .ok (.ineg, 1) := by decide +kernel
theorem dJ2_getChars_ba4f3_108 : decode cJ2_getChars_ba4f3 108 = .ok (.baload, 1) := by decide +kernel
theorem dJ2_getChars_ba4f3_109 : decode cJ2_getChars_ba4f3 109 = .ok (.invokestatic 111, 3) := by decide +kernel
theorem dJ2_getChars_ba4f3_112 : decode cJ2_getChars_ba4f3 112 = .ok (.iload 6, 2) := by decide +kernel
theorem dJ2_getChars_ba4f3_114 : decode cJ2_getChars_ba4f3 114 = .ok (.ifCond .eq 14, 3) := by decide +kernel
theorem dJ2_getChars_ba4f3_117 : decode cJ2_getChars_ba4f3 117 = .ok (.aload_n 2, 1) := by decide +kernel
theorem dJ2_getChars_ba4f3_118 : decode cJ2_getChars_ba4f3 118 = .ok (.iinc 5 (-1), 3) := by decide +kernel
theorem dJ2_getChars_ba4f3_121 : decode cJ2_getChars_ba4f3 121 = .ok (.iload 5, 2) := by decide +kernel
theorem dJ2_getChars_ba4f3_123 : decode cJ2_getChars_ba4f3 123 = .ok (.bipush 45, 2) := by decide +kernel
theorem dJ2_getChars_ba4f3_125 : decode cJ2_getChars_ba4f3 125 = .ok (.invokestatic 111, 3) := by decide +kernel
theorem dJ2_getChars_ba4f3_128 : decode cJ2_getChars_ba4f3 128 = .ok (.iload 5, 2) := by decide +kernel
theorem dJ2_getChars_ba4f3_130 : decode cJ2_getChars_ba4f3 130 = .ok (.ireturn, 1) := by decide +kernel
theorem dJ2_checkIndex_2214a_0 : decode cJ2_checkIndex_2214a 0 = .ok (.iload_n 0, 1) := by decide +kernel
theorem dJ2_checkIndex_2214a_1 : decode cJ2_checkIndex_2214a 1 = .ok (.aload_n 1, 1) := by decide +kernel
theorem dJ2_checkIndex_2214a_2 : decode cJ2_checkIndex_2214a 2 = .ok (.invokestatic 48, 3) := by decide +kernel
theorem dJ2_checkIndex_2214a_5 : decode cJ2_checkIndex_2214a 5 = .ok (.invokestatic 414, 3) := by decide +kernel
theorem dJ2_checkIndex_2214a_8 : decode cJ2_checkIndex_2214a 8 = .ok (.return_, 1) := by decide +kernel
theorem dJ2_checkBoundsBeginEnd_d044e_0 : decode cJ2_checkBoundsBeginEnd_d044e 0 = .ok (.iload_n 0, 1) := by decide +kernel
theorem dJ2_checkBoundsBeginEnd_d044e_1 : decode cJ2_checkBoundsBeginEnd_d044e 1 = .ok (.iload_n 1, 1) := by decide +kernel
theorem dJ2_checkBoundsBeginEnd_d044e_2 : decode cJ2_checkBoundsBeginEnd_d044e 2 = .ok (.aload_n 2, 1) := by decide +kernel
theorem dJ2_checkBoundsBeginEnd_d044e_3 : decode cJ2_checkBoundsBeginEnd_d044e 3 = .ok (.invokestatic 48, 3) := by decide +kernel
theorem dJ2_checkBoundsBeginEnd_d044e_6 : decode cJ2_checkBoundsBeginEnd_d044e 6 = .ok (.invokestatic 241, 3) := by decide +kernel
theorem dJ2_checkBoundsBeginEnd_d044e_9 : decode cJ2_checkBoundsBeginEnd_d044e 9 = .ok (.return_, 1) := by decide +kernel
theorem dJ2_checkBoundsOffCount_d044e_0 : decode cJ2_checkBoundsOffCount_d044e 0 = .ok (.iload_n 0, 1) := by decide +kernel
theorem dJ2_checkBoundsOffCount_d044e_1 : decode cJ2_checkBoundsOffCount_d044e 1 = .ok (.iload_n 1, 1) := by decide +kernel
theorem dJ2_checkBoundsOffCount_d044e_2 : decode cJ2_checkBoundsOffCount_d044e 2 = .ok (.aload_n 2, 1) := by decide +kernel
theorem dJ2_checkBoundsOffCount_d044e_3 : decode cJ2_checkBoundsOffCount_d044e 3 = .ok (.invokestatic 48, 3) := by decide +kernel
theorem dJ2_checkBoundsOffCount_d044e_6 : decode cJ2_checkBoundsOffCount_d044e 6 = .ok (.invokestatic 419, 3) := by decide +kernel
theorem dJ2_checkBoundsOffCount_d044e_9 : decode cJ2_checkBoundsOffCount_d044e 9 = .ok (.pop, 1) := by decide +kernel
theorem dJ2_checkBoundsOffCount_d044e_10 : decode cJ2_checkBoundsOffCount_d044e 10 = .ok (.return_, 1) := by decide +kernel
theorem dJ7_fill_53178_0 : decode cJ7_fill_53178 0 = .ok (.iconst 0, 1) := by decide +kernel
theorem dJ7_fill_53178_1 : decode cJ7_fill_53178 1 = .ok (.istore_n 2, 1) := by decide +kernel
theorem dJ7_fill_53178_2 : decode cJ7_fill_53178 2 = .ok (.aload_n 0, 1) := by decide +kernel
theorem dJ7_fill_53178_3 : decode cJ7_fill_53178 3 = .ok (.arraylength, 1) := by decide +kernel
theorem dJ7_fill_53178_4 : decode cJ7_fill_53178 4 = .ok (.istore_n 3, 1) := by decide +kernel
theorem dJ7_fill_53178_5 : decode cJ7_fill_53178 5 = .ok (.iload_n 2, 1) := by decide +kernel
theorem dJ7_fill_53178_6 : decode cJ7_fill_53178 6 = .ok (.iload_n 3, 1) := by decide +kernel
theorem dJ7_fill_53178_7 : decode cJ7_fill_53178 7 = .ok (.if_icmp .ge 13, 3) := by decide +kernel
theorem dJ7_fill_53178_10 : decode cJ7_fill_53178 10 = .ok (.aload_n 0, 1) := by decide +kernel
theorem dJ7_fill_53178_11 : decode cJ7_fill_53178 11 = .ok (.iload_n 2, 1) := by decide +kernel
theorem dJ7_fill_53178_12 : decode cJ7_fill_53178 12 = .ok (.iload_n 1, 1) := by decide +kernel
theorem dJ7_fill_53178_13 : decode cJ7_fill_53178 13 = .ok (.iastore, 1) := by decide +kernel
theorem dJ7_fill_53178_14 : decode cJ7_fill_53178 14 = .ok (.iinc 2 1, 3) := by decide +kernel
theorem dJ7_fill_53178_17 : decode cJ7_fill_53178 17 = .ok (.goto (-12), 3) := by decide +kernel
theorem dJ7_fill_53178_20 : decode cJ7_fill_53178 20 = .ok (.return_, 1) := by decide +kernel
theorem dJ7_copyOf_9075b_0 : decode cJ7_copyOf_9075b 0 = .ok (.iload_n 1, 1) := by decide +kernel
theorem dJ7_copyOf_9075b_1 : decode cJ7_copyOf_9075b 1 = .ok (.aload_n 0, 1) := by decide +kernel
theorem dJ7_copyOf_9075b_2 : decode cJ7_copyOf_9075b 2 = .ok (.arraylength, 1) := by decide +kernel
theorem dJ7_copyOf_9075b_3 : decode cJ7_copyOf_9075b 3 = .ok (.if_icmp .ne 11, 3) := by decide +kernel
theorem dJ7_copyOf_9075b_6 : decode cJ7_copyOf_9075b 6 = .ok (.aload_n 0, 1) := by decide +kernel
theorem dJ7_copyOf_9075b_7 : decode cJ7_copyOf_9075b 7 = .ok (.invokevirtual 310, 3) := by decide +kernel
theorem dJ7_copyOf_9075b_10 : decode cJ7_copyOf_9075b 10 = .ok (.checkcast 311, 3) := by decide +kernel
theorem dJ7_copyOf_9075b_13 : decode cJ7_copyOf_9075b 13 = .ok (.areturn, 1) := by decide +kernel
theorem dJ7_copyOf_9075b_14 : decode cJ7_copyOf_9075b 14 = .ok (.iload_n 1, 1) := by decide +kernel
theorem dJ7_copyOf_9075b_15 : decode cJ7_copyOf_9075b 15 = .ok (.newarray .byte, 2) := by decide +kernel
theorem dJ7_copyOf_9075b_17 : decode cJ7_copyOf_9075b 17 = .ok (.astore_n 2, 1) := by decide +kernel
theorem dJ7_copyOf_9075b_18 : decode cJ7_copyOf_9075b 18 = .ok (.aload_n 0, 1) := by decide +kernel
theorem dJ7_copyOf_9075b_19 : decode cJ7_copyOf_9075b 19 = .ok (.iconst 0, 1) := by decide +kernel
theorem dJ7_copyOf_9075b_20 : decode cJ7_copyOf_9075b 20 = .ok (.aload_n 2, 1) := by decide +kernel
theorem dJ7_copyOf_9075b_21 : decode cJ7_copyOf_9075b 21 = .ok (.iconst 0, 1) := by decide +kernel
theorem dJ7_copyOf_9075b_22 : decode cJ7_copyOf_9075b 22 = .ok (.aload_n 0, 1) := by decide +kernel
theorem dJ7_copyOf_9075b_23 : decode cJ7_copyOf_9075b 23 = .ok (.arraylength, 1) := by decide +kernel
theorem dJ7_copyOf_9075b_24 : decode cJ7_copyOf_9075b 24 = .ok (.iload_n 1, 1) := by decide +kernel
theorem dJ7_copyOf_9075b_25 : decode cJ7_copyOf_9075b 25 = .ok (.invokestatic 304, 3) := by decide +kernel
theorem dJ7_copyOf_9075b_28 : decode cJ7_copyOf_9075b 28 = .ok (.invokestatic 150, 3) := by decide +kernel
theorem dJ7_copyOf_9075b_31 : decode cJ7_copyOf_9075b 31 = .ok (.aload_n 2, 1) := by decide +kernel
theorem dJ7_copyOf_9075b_32 : decode cJ7_copyOf_9075b 32 = .ok (.areturn, 1) := by decide +kernel
theorem dJ7_checkLength_df160_0 : decode cJ7_checkLength_df160 0 = .ok (.iload_n 1, 1) := by decide +kernel
theorem dJ7_checkLength_df160_1 : decode cJ7_checkLength_df160 1 = .ok (.iload_n 0, 1) := by decide +kernel
theorem dJ7_checkLength_df160_2 : decode cJ7_checkLength_df160 2 = .ok (.if_icmp .ge 35, 3) := by decide +kernel
theorem dJ7_checkLength_df160_5 : decode cJ7_checkLength_df160 5 = .ok (.new 43, 3) := by decide +kernel
theorem dJ7_checkLength_df160_8 : decode cJ7_checkLength_df160 8 = .ok (.dup, 1) := by decide +kernel
theorem dJ7_checkLength_df160_9 : decode cJ7_checkLength_df160 9 = .ok (.new 45, 3) := by decide +kernel
theorem dJ7_checkLength_df160_12 : decode cJ7_checkLength_df160 12 = .ok (.dup, 1) := by decide +kernel
theorem dJ7_checkLength_df160_13 : decode cJ7_checkLength_df160 13 = .ok (.invokespecial 47, 3) := by decide +kernel
theorem dJ7_checkLength_df160_16 : decode cJ7_checkLength_df160 16 = .ok (.iload_n 0, 1) := by decide +kernel
theorem dJ7_checkLength_df160_17 : decode cJ7_checkLength_df160 17 = .ok (.invokevirtual 54, 3) := by decide +kernel
theorem dJ7_checkLength_df160_20 : decode cJ7_checkLength_df160 20 = .ok (.ldc_w 337, 3) := by decide +kernel
theorem dJ7_checkLength_df160_23 : decode cJ7_checkLength_df160 23 = .ok (.invokevirtual 50, 3) := by decide +kernel
theorem dJ7_checkLength_df160_26 : decode cJ7_checkLength_df160 26 = .ok (.iload_n 1, 1) := by decide +kernel
theorem dJ7_checkLength_df160_27 : decode cJ7_checkLength_df160 27 = .ok (.invokevirtual 54, 3) := by decide +kernel
theorem dJ7_checkLength_df160_30 : decode cJ7_checkLength_df160 30 = .ok (.invokevirtual 61, 3) := by decide +kernel
theorem dJ7_checkLength_df160_33 : decode cJ7_checkLength_df160 33 = .ok (.invokespecial 65, 3) := by decide +kernel
theorem dJ7_checkLength_df160_36 : decode cJ7_checkLength_df160 36 = .ok (.athrow, 1) := by decide +kernel
theorem dJ7_checkLength_df160_37 : decode cJ7_checkLength_df160 37 = .ok (.return_, 1) := by decide +kernel
theorem dJ7_copyOfRange_39247_0 : decode cJ7_copyOfRange_39247 0 = .ok (.iload_n 1, 1) := by decide +kernel
theorem dJ7_copyOfRange_39247_1 : decode cJ7_copyOfRange_39247 1 = .ok (.ifCond .ne 9, 3) := by decide +kernel
theorem dJ7_copyOfRange_39247_4 : decode cJ7_copyOfRange_39247 4 = .ok (.iload_n 2, 1) := by decide +kernel
theorem dJ7_copyOfRange_39247_5 : decode cJ7_copyOfRange_39247 5 = .ok (.aload_n 0, 1) := by decide +kernel
theorem dJ7_copyOfRange_39247_6 : decode cJ7_copyOfRange_39247 6 = .ok (.arraylength, 1) := by decide +kernel
theorem dJ7_copyOfRange_39247_7 : decode cJ7_copyOfRange_39247 7 = .ok (.if_icmp .eq 10, 3) := by decide +kernel
theorem dJ7_copyOfRange_39247_10 : decode cJ7_copyOfRange_39247 10 = .ok (.aload_n 0, 1) := by decide +kernel
theorem dJ7_copyOfRange_39247_11 : decode cJ7_copyOfRange_39247 11 = .ok (.iload_n 1, 1) := by decide +kernel
theorem dJ7_copyOfRange_39247_12 : decode cJ7_copyOfRange_39247 12 = .ok (.iload_n 2, 1) := by decide +kernel
theorem dJ7_copyOfRange_39247_13 : decode cJ7_copyOfRange_39247 13 = .ok (.invokestatic 339, 3) := by decide +kernel
theorem dJ7_copyOfRange_39247_16 : decode cJ7_copyOfRange_39247 16 = .ok (.areturn, 1) := by decide +kernel
theorem dJ7_copyOfRange_39247_17 : decode cJ7_copyOfRange_39247 17 = .ok (.aload_n 0, 1) := by decide +kernel
theorem dJ7_copyOfRange_39247_18 : decode cJ7_copyOfRange_39247 18 = .ok (.invokevirtual 310, 3) := by decide +kernel
theorem dJ7_copyOfRange_39247_21 : decode cJ7_copyOfRange_39247 21 = .ok (.checkcast 311, 3) := by decide +kernel
theorem dJ7_copyOfRange_39247_24 : decode cJ7_copyOfRange_39247 24 = .ok (.areturn, 1) := by decide +kernel
theorem dJ7_copyOfRangeByte_39247_0 : decode cJ7_copyOfRangeByte_39247 0 = .ok (.iload_n 1, 1) := by decide +kernel
theorem dJ7_copyOfRangeByte_39247_1 : decode cJ7_copyOfRangeByte_39247 1 = .ok (.iload_n 2, 1) := by decide +kernel
theorem dJ7_copyOfRangeByte_39247_2 : decode cJ7_copyOfRangeByte_39247 2 = .ok (.invokestatic 343, 3) := by decide +kernel
theorem dJ7_copyOfRangeByte_39247_5 : decode cJ7_copyOfRangeByte_39247 5 = .ok (.iload_n 2, 1) := by decide +kernel
theorem dJ7_copyOfRangeByte_39247_6 : decode cJ7_copyOfRangeByte_39247 6 = .ok (.iload_n 1, 1) := by decide +kernel
theorem dJ7_copyOfRangeByte_39247_7 : decode cJ7_copyOfRangeByte_39247 7 = .ok (.isub, 1) := by decide +kernel
theorem dJ7_copyOfRangeByte_39247_8 : decode cJ7_copyOfRangeByte_39247 8 = .ok (.istore_n 3, 1) := by decide +kernel
theorem dJ7_copyOfRangeByte_39247_9 : decode cJ7_copyOfRangeByte_39247 9 = .ok (.iload_n 3, 1) := by decide +kernel
theorem dJ7_copyOfRangeByte_39247_10 : decode cJ7_copyOfRangeByte_39247 10 = .ok (.newarray .byte, 2) := by decide +kernel
theorem dJ7_copyOfRangeByte_39247_12 : decode cJ7_copyOfRangeByte_39247 12 = .ok (.astore 4, 2) := by decide +kernel
theorem dJ7_copyOfRangeByte_39247_14 : decode cJ7_copyOfRangeByte_39247 14 = .ok (.aload_n 0, 1) := by decide +kernel
theorem dJ7_copyOfRangeByte_39247_15 : decode cJ7_copyOfRangeByte_39247 15 = .ok (.iload_n 1, 1) := by decide +kernel
theorem dJ7_copyOfRangeByte_39247_16 : decode cJ7_copyOfRangeByte_39247 16 = .ok (.aload 4, 2) := by decide +kernel
theorem dJ7_copyOfRangeByte_39247_18 : decode cJ7_copyOfRangeByte_39247 18 = .ok (.iconst 0, 1) := by decide +kernel
theorem dJ7_copyOfRangeByte_39247_19 : decode cJ7_copyOfRangeByte_39247 19 = .ok (.aload_n 0, 1) := by decide +kernel
theorem dJ7_copyOfRangeByte_39247_20 : decode cJ7_copyOfRangeByte_39247 20 = .ok (.arraylength, 1) := by decide +kernel
theorem dJ7_copyOfRangeByte_39247_21 : decode cJ7_copyOfRangeByte_39247 21 = .ok (.iload_n 1, 1) := by decide +kernel
theorem dJ7_copyOfRangeByte_39247_22 : decode cJ7_copyOfRangeByte_39247 22 = .ok (.isub, 1) := by decide +kernel
theorem dJ7_copyOfRangeByte_39247_23 : decode cJ7_copyOfRangeByte_39247 23 = .ok (.iload_n 3, 1) := by decide +kernel
theorem dJ7_copyOfRangeByte_39247_24 : decode cJ7_copyOfRangeByte_39247 24 = .ok (.invokestatic 304, 3) := by decide +kernel
theorem dJ7_copyOfRangeByte_39247_27 : decode cJ7_copyOfRangeByte_39247 27 = .ok (.invokestatic 150, 3) := by decide +kernel
theorem dJ7_copyOfRangeByte_39247_30 : decode cJ7_copyOfRangeByte_39247 30 = .ok (.aload 4, 2) := by decide +kernel
theorem dJ7_copyOfRangeByte_39247_32 : decode cJ7_copyOfRangeByte_39247 32 = .ok (.areturn, 1) := by decide +kernel
theorem dJ8_newLength_cabcc_0 : decode cJ8_newLength_cabcc 0 = .ok (.iload_n 0, 1) := by decide +kernel
theorem dJ8_newLength_cabcc_1 : decode cJ8_newLength_cabcc 1 = .ok (.iload_n 1, 1) := by decide +kernel
theorem dJ8_newLength_cabcc_2 : decode cJ8_newLength_cabcc 2 = .ok (.iload_n 2, 1) := by decide +kernel
theorem dJ8_newLength_cabcc_3 : decode cJ8_newLength_cabcc 3 = .ok (.invokestatic 194, 3) := by decide +kernel
theorem dJ8_newLength_cabcc_6 : decode cJ8_newLength_cabcc 6 = .ok (.iadd, 1) := by decide +kernel
theorem dJ8_newLength_cabcc_7 : decode cJ8_newLength_cabcc 7 = .ok (.istore_n 3, 1) := by decide +kernel
theorem dJ8_newLength_cabcc_8 : decode cJ8_newLength_cabcc 8 = .ok (.iconst 0, 1) := by decide +kernel
theorem dJ8_newLength_cabcc_9 : decode cJ8_newLength_cabcc 9 = .ok (.iload_n 3, 1) := by decide +kernel
theorem dJ8_newLength_cabcc_10 : decode cJ8_newLength_cabcc 10 = .ok (.if_icmp .ge 11, 3) := by decide +kernel
theorem dJ8_newLength_cabcc_13 : decode cJ8_newLength_cabcc 13 = .ok (.iload_n 3, 1) := by decide +kernel
theorem dJ8_newLength_cabcc_14 : decode cJ8_newLength_cabcc 14 = .ok (.ldc 200, 2) := by decide +kernel
theorem dJ8_newLength_cabcc_16 : decode cJ8_newLength_cabcc 16 = .ok (.if_icmp .gt 5, 3) := by decide +kernel
theorem dJ8_newLength_cabcc_19 : decode cJ8_newLength_cabcc 19 = .ok (.iload_n 3, 1) := by decide +kernel
theorem dJ8_newLength_cabcc_20 : decode cJ8_newLength_cabcc 20 = .ok (.ireturn, 1) := by decide +kernel
theorem dJ8_newLength_cabcc_21 : decode cJ8_newLength_cabcc 21 = .ok (.iload_n 0, 1) := by decide +kernel
theorem dJ8_newLength_cabcc_22 : decode cJ8_newLength_cabcc 22 = .ok (.iload_n 1, 1) := by decide +kernel
theorem dJ8_newLength_cabcc_23 : decode cJ8_newLength_cabcc 23 = .ok (.invokestatic 201, 3) := by decide +kernel
theorem dJ8_newLength_cabcc_26 : decode cJ8_newLength_cabcc 26 = .ok (.ireturn, 1) := by decide +kernel
theorem dJ8_hugeLength_7cf53_0 : decode cJ8_hugeLength_7cf53 0 = .ok (.iload_n 0, 1) := by decide +kernel
theorem dJ8_hugeLength_7cf53_1 : decode cJ8_hugeLength_7cf53 1 = .ok (.iload_n 1, 1) := by decide +kernel
theorem dJ8_hugeLength_7cf53_2 : decode cJ8_hugeLength_7cf53 2 = .ok (.iadd, 1) := by decide +kernel
theorem dJ8_hugeLength_7cf53_3 : decode cJ8_hugeLength_7cf53 3 = .ok (.istore_n 2, 1) := by decide +kernel
theorem dJ8_hugeLength_7cf53_4 : decode cJ8_hugeLength_7cf53 4 = .ok (.iload_n 2, 1) := by decide +kernel
theorem dJ8_hugeLength_7cf53_5 : decode cJ8_hugeLength_7cf53 5 = .ok (.ifCond .ge 44, 3) := by decide +kernel
theorem dJ8_hugeLength_7cf53_8 : decode cJ8_hugeLength_7cf53 8 = .ok (.new 204, 3) := by decide +kernel
theorem dJ8_hugeLength_7cf53_11 : decode cJ8_hugeLength_7cf53 11 = .ok (.dup, 1) := by decide +kernel
theorem dJ8_hugeLength_7cf53_12 : decode cJ8_hugeLength_7cf53 12 = .ok (.new 89, 3) := by decide +kernel
theorem dJ8_hugeLength_7cf53_15 : decode cJ8_hugeLength_7cf53 15 = .ok (.dup, 1) := by decide +kernel
theorem dJ8_hugeLength_7cf53_16 : decode cJ8_hugeLength_7cf53 16 = .ok (.invokespecial 91, 3) := by decide +kernel
theorem dJ8_hugeLength_7cf53_19 : decode cJ8_hugeLength_7cf53 19 = .ok (.ldc 206, 2) := by decide +kernel
theorem dJ8_hugeLength_7cf53_21 : decode cJ8_hugeLength_7cf53 21 = .ok (.invokevirtual 94, 3) := by decide +kernel
theorem dJ8_hugeLength_7cf53_24 : decode cJ8_hugeLength_7cf53 24 = .ok (.iload_n 0, 1) := by decide +kernel
theorem dJ8_hugeLength_7cf53_25 : decode cJ8_hugeLength_7cf53 25 = .ok (.invokevirtual 98, 3) := by decide +kernel
theorem dJ8_hugeLength_7cf53_28 : decode cJ8_hugeLength_7cf53 28 = .ok (.ldc 208, 2) := by decide +kernel
theorem dJ8_hugeLength_7cf53_30 : decode cJ8_hugeLength_7cf53 30 = .ok (.invokevirtual 94, 3) := by decide +kernel
theorem dJ8_hugeLength_7cf53_33 : decode cJ8_hugeLength_7cf53 33 = .ok (.iload_n 1, 1) := by decide +kernel
theorem dJ8_hugeLength_7cf53_34 : decode cJ8_hugeLength_7cf53 34 = .ok (.invokevirtual 98, 3) := by decide +kernel
theorem dJ8_hugeLength_7cf53_37 : decode cJ8_hugeLength_7cf53 37 = .ok (.ldc 210, 2) := by decide +kernel
theorem dJ8_hugeLength_7cf53_39 : decode cJ8_hugeLength_7cf53 39 = .ok (.invokevirtual 94, 3) := by decide +kernel
theorem dJ8_hugeLength_7cf53_42 : decode cJ8_hugeLength_7cf53 42 = .ok (.invokevirtual 101, 3) := by decide +kernel
theorem dJ8_hugeLength_7cf53_45 : decode cJ8_hugeLength_7cf53 45 = .ok (.invokespecial 212, 3) := by decide +kernel
theorem dJ8_hugeLength_7cf53_48 : decode cJ8_hugeLength_7cf53 48 = .ok (.athrow, 1) := by decide +kernel
theorem dJ8_hugeLength_7cf53_49 : decode cJ8_hugeLength_7cf53 49 = .ok (.iload_n 2, 1) := by decide +kernel
theorem dJ8_hugeLength_7cf53_50 : decode cJ8_hugeLength_7cf53 50 = .ok (.ldc 200, 2) := by decide +kernel
theorem dJ8_hugeLength_7cf53_52 : decode cJ8_hugeLength_7cf53 52 = .ok (.if_icmp .gt 6, 3) := by decide +kernel
theorem dJ8_hugeLength_7cf53_55 : decode cJ8_hugeLength_7cf53 55 = .ok (.ldc 200, 2) := by decide +kernel
theorem dJ8_hugeLength_7cf53_57 : decode cJ8_hugeLength_7cf53 57 = .ok (.ireturn, 1) := by decide +kernel
theorem dJ8_hugeLength_7cf53_58 : decode cJ8_hugeLength_7cf53 58 = .ok (.iload_n 2, 1) := by decide +kernel
theorem dJ8_hugeLength_7cf53_59 : decode cJ8_hugeLength_7cf53 59 = .ok (.ireturn, 1) := by decide +kernel
theorem dJ3_checkIndex_8e157_0 : decode cJ3_checkIndex_8e157 0 = .ok (.iload_n 0, 1) := by decide +kernel
theorem dJ3_checkIndex_8e157_1 : decode cJ3_checkIndex_8e157 1 = .ok (.ifCond .lt 8, 3) := by decide +kernel
theorem dJ3_checkIndex_8e157_4 : decode cJ3_checkIndex_8e157 4 = .ok (.iload_n 0, 1) := by decide +kernel
theorem dJ3_checkIndex_8e157_5 : decode cJ3_checkIndex_8e157 5 = .ok (.iload_n 1, 1) := by decide +kernel
theorem dJ3_checkIndex_8e157_6 : decode cJ3_checkIndex_8e157 6 = .ok (.if_icmp .lt 10, 3) := by decide +kernel
theorem dJ3_checkIndex_8e157_9 : decode cJ3_checkIndex_8e157 9 = .ok (.aload_n 2, 1) := by decide +kernel
theorem dJ3_checkIndex_8e157_10 : decode cJ3_checkIndex_8e157 10 = .ok (.iload_n 0, 1) := by decide +kernel
theorem dJ3_checkIndex_8e157_11 : decode cJ3_checkIndex_8e157 11 = .ok (.iload_n 1, 1) := by decide +kernel
theorem dJ3_checkIndex_8e157_12 : decode cJ3_checkIndex_8e157 12 = .ok (.invokestatic 95, 3) := by decide +kernel
theorem dJ3_checkIndex_8e157_15 : decode cJ3_checkIndex_8e157 15 = .ok (.athrow, 1) := by decide +kernel
theorem dJ3_checkIndex_8e157_16 : decode cJ3_checkIndex_8e157 16 = .ok (.iload_n 0, 1) := by decide +kernel
theorem dJ3_checkIndex_8e157_17 : decode cJ3_checkIndex_8e157 17 = .ok (.ireturn, 1) := by decide +kernel
theorem dJ3_checkFromToIndex_8c36e_0 : decode cJ3_checkFromToIndex_8c36e 0 = .ok (.iload_n 0, 1) := by decide +kernel
theorem dJ3_checkFromToIndex_8c36e_1 : decode cJ3_checkFromToIndex_8c36e 1 = .ok (.ifCond .lt 13, 3) := by decide +kernel
theorem dJ3_checkFromToIndex_8c36e_4 : decode cJ3_checkFromToIndex_8c36e 4 = .ok (.iload_n 0, 1) := by decide +kernel
theorem dJ3_checkFromToIndex_8c36e_5 : decode cJ3_checkFromToIndex_8c36e 5 = .ok (.iload_n 1, 1) := by decide +kernel
theorem dJ3_checkFromToIndex_8c36e_6 : decode cJ3_checkFromToIndex_8c36e 6 = .ok (.if_icmp .gt 8, 3) := by decide +kernel
theorem dJ3_checkFromToIndex_8c36e_9 : decode cJ3_checkFromToIndex_8c36e 9 = .ok (.iload_n 1, 1) := by decide +kernel
theorem dJ3_checkFromToIndex_8c36e_10 : decode cJ3_checkFromToIndex_8c36e 10 = .ok (.iload_n 2, 1) := by decide +kernel
theorem dJ3_checkFromToIndex_8c36e_11 : decode cJ3_checkFromToIndex_8c36e 11 = .ok (.if_icmp .le 11, 3) := by decide +kernel
theorem dJ3_checkFromToIndex_8c36e_14 : decode cJ3_checkFromToIndex_8c36e 14 = .ok (.aload_n 3, 1) := by decide +kernel
theorem dJ3_checkFromToIndex_8c36e_15 : decode cJ3_checkFromToIndex_8c36e 15 = .ok (.iload_n 0, 1) := by decide +kernel
theorem dJ3_checkFromToIndex_8c36e_16 : decode cJ3_checkFromToIndex_8c36e 16 = .ok (.iload_n 1, 1) := by decide +kernel
theorem dJ3_checkFromToIndex_8c36e_17 : decode cJ3_checkFromToIndex_8c36e 17 = .ok (.iload_n 2, 1) := by decide +kernel
theorem dJ3_checkFromToIndex_8c36e_18 : decode cJ3_checkFromToIndex_8c36e 18 = .ok (.invokestatic 99, 3) := by decide +kernel
theorem dJ3_checkFromToIndex_8c36e_21 : decode cJ3_checkFromToIndex_8c36e 21 = .ok (.athrow, 1) := by decide +kernel
theorem dJ3_checkFromToIndex_8c36e_22 : decode cJ3_checkFromToIndex_8c36e 22 = .ok (.iload_n 0, 1) := by decide +kernel
theorem dJ3_checkFromToIndex_8c36e_23 : decode cJ3_checkFromToIndex_8c36e 23 = .ok (.ireturn, 1) := by decide +kernel
theorem dJ3_checkFromIndexSize_8c36e_0 : decode cJ3_checkFromIndexSize_8c36e 0 = .ok (.iload_n 2, 1) := by decide +kernel
theorem dJ3_checkFromIndexSize_8c36e_1 : decode cJ3_checkFromIndexSize_8c36e 1 = .ok (.iload_n 0, 1) := by decide +kernel
theorem dJ3_checkFromIndexSize_8c36e_2 : decode cJ3_checkFromIndexSize_8c36e 2 = .ok (.ior, 1) := by decide +kernel
theorem dJ3_checkFromIndexSize_8c36e_3 : decode cJ3_checkFromIndexSize_8c36e 3 = .ok (.iload_n 1, 1) := by decide +kernel
theorem dJ3_checkFromIndexSize_8c36e_4 : decode cJ3_checkFromIndexSize_8c36e 4 = .ok (.ior, 1) := by decide +kernel
theorem dJ3_checkFromIndexSize_8c36e_5 : decode cJ3_checkFromIndexSize_8c36e 5 = .ok (.ifCond .lt 10, 3) := by decide +kernel
theorem dJ3_checkFromIndexSize_8c36e_8 : decode cJ3_checkFromIndexSize_8c36e 8 = .ok (.iload_n 1, 1) := by decide +kernel
theorem dJ3_checkFromIndexSize_8c36e_9 : decode cJ3_checkFromIndexSize_8c36e 9 = .ok (.iload_n 2, 1) := by decide +kernel
theorem dJ3_checkFromIndexSize_8c36e_10 : decode cJ3_checkFromIndexSize_8c36e 10 = .ok (.iload_n 0, 1) := by decide +kernel
theorem dJ3_checkFromIndexSize_8c36e_11 : decode cJ3_checkFromIndexSize_8c36e 11 = .ok (.isub, 1) := by decide +kernel
theorem dJ3_checkFromIndexSize_8c36e_12 : decode cJ3_checkFromIndexSize_8c36e 12 = .ok (.if_icmp .le 11, 3) := by decide +kernel
theorem dJ3_checkFromIndexSize_8c36e_15 : decode cJ3_checkFromIndexSize_8c36e 15 = .ok (.aload_n 3, 1) := by decide +kernel
theorem dJ3_checkFromIndexSize_8c36e_16 : decode cJ3_checkFromIndexSize_8c36e 16 = .ok (.iload_n 0, 1) := by decide +kernel
theorem dJ3_checkFromIndexSize_8c36e_17 : decode cJ3_checkFromIndexSize_8c36e 17 = .ok (.iload_n 1, 1) := by decide +kernel
theorem dJ3_checkFromIndexSize_8c36e_18 : decode cJ3_checkFromIndexSize_8c36e 18 = .ok (.iload_n 2, 1) := by decide +kernel
theorem dJ3_checkFromIndexSize_8c36e_19 : decode cJ3_checkFromIndexSize_8c36e 19 = .ok (.invokestatic 103, 3) := by decide +kernel
theorem dJ3_checkFromIndexSize_8c36e_22 : decode cJ3_checkFromIndexSize_8c36e 22 = .ok (.athrow, 1) := by decide +kernel
theorem dJ3_checkFromIndexSize_8c36e_23 : decode cJ3_checkFromIndexSize_8c36e 23 = .ok (.iload_n 0, 1) := by decide +kernel
theorem dJ3_checkFromIndexSize_8c36e_24 : decode cJ3_checkFromIndexSize_8c36e 24 = .ok (.ireturn, 1) := by decide +kernel
theorem dL_draw_0 : decode cL_draw 0 = .ok (.iload_n 1, 1) := by decide +kernel
theorem dL_draw_1 : decode cL_draw 1 = .ok (.aload_n 0, 1) := by decide +kernel
theorem dL_draw_2 : decode cL_draw 2 = .ok (.arraylength, 1) := by decide +kernel
theorem dL_draw_3 : decode cL_draw 3 = .ok (.if_icmp .ge 9, 3) := by decide +kernel
theorem dL_draw_6 : decode cL_draw 6 = .ok (.aload_n 0, 1) := by decide +kernel
theorem dL_draw_7 : decode cL_draw 7 = .ok (.iload_n 1, 1) := by decide +kernel
theorem dL_draw_8 : decode cL_draw 8 = .ok (.iaload, 1) := by decide +kernel
theorem dL_draw_9 : decode cL_draw 9 = .ok (.goto 4, 3) := by decide +kernel
theorem dL_draw_12 : decode cL_draw 12 = .ok (.iconst 0, 1) := by decide +kernel
theorem dL_draw_13 : decode cL_draw 13 = .ok (.ldc 7, 2) := by decide +kernel
theorem dL_draw_15 : decode cL_draw 15 = .ok (.iand, 1) := by decide +kernel
theorem dL_draw_16 : decode cL_draw 16 = .ok (.iload_n 2, 1) := by decide +kernel
theorem dL_draw_17 : decode cL_draw 17 = .ok (.irem, 1) := by decide +kernel
theorem dL_draw_18 : decode cL_draw 18 = .ok (.ireturn, 1) := by decide +kernel
theorem dL_four_0 : decode cL_four 0 = .ok (.iconst 0, 1) := by decide +kernel
theorem dL_four_1 : decode cL_four 1 = .ok (.istore_n 2, 1) := by decide +kernel
theorem dL_four_2 : decode cL_four 2 = .ok (.iconst 0, 1) := by decide +kernel
theorem dL_four_3 : decode cL_four 3 = .ok (.istore_n 3, 1) := by decide +kernel
theorem dL_four_4 : decode cL_four 4 = .ok (.iload_n 3, 1) := by decide +kernel
theorem dL_four_5 : decode cL_four 5 = .ok (.iconst 4, 1) := by decide +kernel
theorem dL_four_6 : decode cL_four 6 = .ok (.if_icmp .ge 36, 3) := by decide +kernel
theorem dL_four_9 : decode cL_four 9 = .ok (.iload_n 2, 1) := by decide +kernel
theorem dL_four_10 : decode cL_four 10 = .ok (.bipush 8, 2) := by decide +kernel
theorem dL_four_12 : decode cL_four 12 = .ok (.ishl, 1) := by decide +kernel
theorem dL_four_13 : decode cL_four 13 = .ok (.iload_n 1, 1) := by decide +kernel
theorem dL_four_14 : decode cL_four 14 = .ok (.iload_n 3, 1) := by decide +kernel
theorem dL_four_15 : decode cL_four 15 = .ok (.iadd, 1) := by decide +kernel
theorem dL_four_16 : decode cL_four 16 = .ok (.aload_n 0, 1) := by decide +kernel
theorem dL_four_17 : decode cL_four 17 = .ok (.invokevirtual 8, 3) := by decide +kernel
theorem dL_four_20 : decode cL_four 20 = .ok (.if_icmp .ge 13, 3) := by decide +kernel
theorem dL_four_23 : decode cL_four 23 = .ok (.aload_n 0, 1) := by decide +kernel
theorem dL_four_24 : decode cL_four 24 = .ok (.iload_n 1, 1) := by decide +kernel
theorem dL_four_25 : decode cL_four 25 = .ok (.iload_n 3, 1) := by decide +kernel
theorem dL_four_26 : decode cL_four 26 = .ok (.iadd, 1) := by decide +kernel
theorem dL_four_27 : decode cL_four 27 = .ok (.invokevirtual 14, 3) := by decide +kernel
theorem dL_four_30 : decode cL_four 30 = .ok (.goto 4, 3) := by decide +kernel
theorem dL_four_33 : decode cL_four 33 = .ok (.iconst 0, 1) := by decide +kernel
theorem dL_four_34 : decode cL_four 34 = .ok (.ior, 1) := by decide +kernel
theorem dL_four_35 : decode cL_four 35 = .ok (.istore_n 2, 1) := by decide +kernel
theorem dL_four_36 : decode cL_four 36 = .ok (.iinc 3 1, 3) := by decide +kernel
theorem dL_four_39 : decode cL_four 39 = .ok (.goto (-35), 3) := by decide +kernel
theorem dL_four_42 : decode cL_four 42 = .ok (.iload_n 2, 1) := by decide +kernel
theorem dL_four_43 : decode cL_four 43 = .ok (.ireturn, 1) := by decide +kernel
theorem dL_feed_0 : decode cL_feed 0 = .ok (.iconst 0, 1) := by decide +kernel
theorem dL_feed_1 : decode cL_feed 1 = .ok (.istore_n 2, 1) := by decide +kernel
theorem dL_feed_2 : decode cL_feed 2 = .ok (.iconst 0, 1) := by decide +kernel
theorem dL_feed_3 : decode cL_feed 3 = .ok (.istore_n 3, 1) := by decide +kernel
theorem dL_feed_4 : decode cL_feed 4 = .ok (.iload_n 3, 1) := by decide +kernel
theorem dL_feed_5 : decode cL_feed 5 = .ok (.aload_n 1, 1) := by decide +kernel
theorem dL_feed_6 : decode cL_feed 6 = .ok (.invokevirtual 8, 3) := by decide +kernel
theorem dL_feed_9 : decode cL_feed 9 = .ok (.if_icmp .lt 7, 3) := by decide +kernel
theorem dL_feed_12 : decode cL_feed 12 = .ok (.iload_n 3, 1) := by decide +kernel
theorem dL_feed_13 : decode cL_feed 13 = .ok (.ifCond .ne 50, 3) := by decide +kernel
theorem dL_feed_16 : decode cL_feed 16 = .ok (.aload_n 0, 1) := by decide +kernel
theorem dL_feed_17 : decode cL_feed 17 = .ok (.aload_n 1, 1) := by decide +kernel
theorem dL_feed_18 : decode cL_feed 18 = .ok (.iload_n 3, 1) := by decide +kernel
theorem dL_feed_19 : decode cL_feed 19 = .ok (.invokestatic 18, 3) := by decide +kernel
theorem dL_feed_22 : decode cL_feed 22 = .ok (.aload_n 1, 1) := by decide +kernel
theorem dL_feed_23 : decode cL_feed 23 = .ok (.iload_n 3, 1) := by decide +kernel
theorem dL_feed_24 : decode cL_feed 24 = .ok (.iconst 4, 1) := by decide +kernel
theorem dL_feed_25 : decode cL_feed 25 = .ok (.iadd, 1) := by decide +kernel
theorem dL_feed_26 : decode cL_feed 26 = .ok (.invokestatic 18, 3) := by decide +kernel
theorem dL_feed_29 : decode cL_feed 29 = .ok (.aload_n 1, 1) := by decide +kernel
theorem dL_feed_30 : decode cL_feed 30 = .ok (.iload_n 3, 1) := by decide +kernel
theorem dL_feed_31 : decode cL_feed 31 = .ok (.bipush 8, 2) := by decide +kernel
theorem dL_feed_33 : decode cL_feed 33 = .ok (.iadd, 1) := by decide +kernel
theorem dL_feed_34 : decode cL_feed 34 = .ok (.invokestatic 18, 3) := by decide +kernel
theorem dL_feed_37 : decode cL_feed 37 = .ok (.aload_n 1, 1) := by decide +kernel
theorem dL_feed_38 : decode cL_feed 38 = .ok (.iload_n 3, 1) := by decide +kernel
theorem dL_feed_39 : decode cL_feed 39 = .ok (.bipush 12, 2) := by decide +kernel
theorem dL_feed_41 : decode cL_feed 41 = .ok (.iadd, 1) := by decide +kernel
theorem dL_feed_42 : decode cL_feed 42 = .ok (.invokestatic 18, 3) := by decide +kernel
theorem dL_feed_45 : decode cL_feed 45 = .ok (.aload_n 1, 1) := by decide +kernel
theorem dL_feed_46 : decode cL_feed 46 = .ok (.iload_n 3, 1) := by decide +kernel
theorem dL_feed_47 : decode cL_feed 47 = .ok (.bipush 16, 2) := by decide +kernel
theorem dL_feed_49 : decode cL_feed 49 = .ok (.iadd, 1) := by decide +kernel
theorem dL_feed_50 : decode cL_feed 50 = .ok (.invokestatic 18, 3) := by decide +kernel
theorem dL_feed_53 : decode cL_feed 53 = .ok (.invokevirtual 24, 3) := by decide +kernel
theorem dL_feed_56 : decode cL_feed 56 = .ok (.istore_n 2, 1) := by decide +kernel
theorem dL_feed_57 : decode cL_feed 57 = .ok (.iinc 3 20, 3) := by decide +kernel
theorem dL_feed_60 : decode cL_feed 60 = .ok (.goto (-56), 3) := by decide +kernel
theorem dL_feed_63 : decode cL_feed 63 = .ok (.aload_n 0, 1) := by decide +kernel
theorem dL_feed_64 : decode cL_feed 64 = .ok (.iload_n 2, 1) := by decide +kernel
theorem dL_feed_65 : decode cL_feed 65 = .ok (.aload_n 1, 1) := by decide +kernel
theorem dL_feed_66 : decode cL_feed 66 = .ok (.invokevirtual 8, 3) := by decide +kernel
theorem dL_feed_69 : decode cL_feed 69 = .ok (.invokestatic 30, 3) := by decide +kernel
theorem dL_feed_72 : decode cL_feed 72 = .ok (.invokevirtual 36, 3) := by decide +kernel
theorem dL_feed_75 : decode cL_feed 75 = .ok (.return_, 1) := by decide +kernel
theorem dL_grace_0 : decode cL_grace 0 = .ok (.aload_n 0, 1) := by decide +kernel
theorem dL_grace_1 : decode cL_grace 1 = .ok (.iconst 0, 1) := by decide +kernel
theorem dL_grace_2 : decode cL_grace 2 = .ok (.bipush 6, 2) := by decide +kernel
theorem dL_grace_4 : decode cL_grace 4 = .ok (.invokestatic 40, 3) := by decide +kernel
theorem dL_grace_7 : decode cL_grace 7 = .ok (.ireturn, 1) := by decide +kernel
theorem dL_interval_0 : decode cL_interval 0 = .ok (.iconst 1, 1) := by decide +kernel
theorem dL_interval_1 : decode cL_interval 1 = .ok (.aload_n 0, 1) := by decide +kernel
theorem dL_interval_2 : decode cL_interval 2 = .ok (.iconst 1, 1) := by decide +kernel
theorem dL_interval_3 : decode cL_interval 3 = .ok (.iconst 5, 1) := by decide +kernel
theorem dL_interval_4 : decode cL_interval 4 = .ok (.invokestatic 40, 3) := by decide +kernel
theorem dL_interval_7 : decode cL_interval 7 = .ok (.iadd, 1) := by decide +kernel
theorem dL_interval_8 : decode cL_interval 8 = .ok (.ireturn, 1) := by decide +kernel
theorem dL_classes_0 : decode cL_classes 0 = .ok (.iconst 1, 1) := by decide +kernel
theorem dL_classes_1 : decode cL_classes 1 = .ok (.aload_n 0, 1) := by decide +kernel
theorem dL_classes_2 : decode cL_classes 2 = .ok (.iconst 2, 1) := by decide +kernel
theorem dL_classes_3 : decode cL_classes 3 = .ok (.iconst 4, 1) := by decide +kernel
theorem dL_classes_4 : decode cL_classes 4 = .ok (.invokestatic 40, 3) := by decide +kernel
theorem dL_classes_7 : decode cL_classes 7 = .ok (.iadd, 1) := by decide +kernel
theorem dL_classes_8 : decode cL_classes 8 = .ok (.ireturn, 1) := by decide +kernel
theorem dL_users_0 : decode cL_users 0 = .ok (.iconst 1, 1) := by decide +kernel
theorem dL_users_1 : decode cL_users 1 = .ok (.aload_n 0, 1) := by decide +kernel
theorem dL_users_2 : decode cL_users 2 = .ok (.iconst 3, 1) := by decide +kernel
theorem dL_users_3 : decode cL_users 3 = .ok (.iconst 3, 1) := by decide +kernel
theorem dL_users_4 : decode cL_users 4 = .ok (.invokestatic 40, 3) := by decide +kernel
theorem dL_users_7 : decode cL_users 7 = .ok (.iadd, 1) := by decide +kernel
theorem dL_users_8 : decode cL_users 8 = .ok (.ireturn, 1) := by decide +kernel
theorem dL_holds_0 : decode cL_holds 0 = .ok (.aload_n 0, 1) := by decide +kernel
theorem dL_holds_1 : decode cL_holds 1 = .ok (.iconst 4, 1) := by decide +kernel
theorem dL_holds_2 : decode cL_holds 2 = .ok (.iconst 3, 1) := by decide +kernel
theorem dL_holds_3 : decode cL_holds 3 = .ok (.invokestatic 40, 3) := by decide +kernel
theorem dL_holds_6 : decode cL_holds 6 = .ok (.ireturn, 1) := by decide +kernel
theorem dL_days_0 : decode cL_days 0 = .ok (.aload_n 0, 1) := by decide +kernel
theorem dL_days_1 : decode cL_days 1 = .ok (.bipush 10, 2) := by decide +kernel
theorem dL_days_3 : decode cL_days 3 = .ok (.iconst 4, 1) := by decide +kernel
theorem dL_days_4 : decode cL_days 4 = .ok (.iload_n 1, 1) := by decide +kernel
theorem dL_days_5 : decode cL_days 5 = .ok (.imul, 1) := by decide +kernel
theorem dL_days_6 : decode cL_days 6 = .ok (.iadd, 1) := by decide +kernel
theorem dL_days_7 : decode cL_days 7 = .ok (.bipush 6, 2) := by decide +kernel
theorem dL_days_9 : decode cL_days 9 = .ok (.invokestatic 40, 3) := by decide +kernel
theorem dL_days_12 : decode cL_days 12 = .ok (.ifCond .ne 7, 3) := by decide +kernel
theorem dL_days_15 : decode cL_days 15 = .ok (.iconst (-1), 1) := by decide +kernel
theorem dL_days_16 : decode cL_days 16 = .ok (.goto 17, 3) := by decide +kernel
theorem dL_days_19 : decode cL_days 19 = .ok (.iconst 1, 1) := by decide +kernel
theorem dL_days_20 : decode cL_days 20 = .ok (.aload_n 0, 1) := by decide +kernel
theorem dL_days_21 : decode cL_days 21 = .ok (.bipush 11, 2) := by decide +kernel
theorem dL_days_23 : decode cL_days 23 = .ok (.iconst 4, 1) := by decide +kernel
theorem dL_days_24 : decode cL_days 24 = .ok (.iload_n 1, 1) := by decide +kernel
theorem dL_days_25 : decode cL_days 25 = .ok (.imul, 1) := by decide +kernel
theorem dL_days_26 : decode cL_days 26 = .ok (.iadd, 1) := by decide +kernel
theorem dL_days_27 : decode cL_days 27 = .ok (.bipush 12, 2) := by decide +kernel
theorem dL_days_29 : decode cL_days 29 = .ok (.invokestatic 40, 3) := by decide +kernel
theorem dL_days_32 : decode cL_days 32 = .ok (.iadd, 1) := by decide +kernel
theorem dL_days_33 : decode cL_days 33 = .ok (.ireturn, 1) := by decide +kernel
theorem dL_keep_0 : decode cL_keep 0 = .ok (.aload_n 0, 1) := by decide +kernel
theorem dL_keep_1 : decode cL_keep 1 = .ok (.bipush 12, 2) := by decide +kernel
theorem dL_keep_3 : decode cL_keep 3 = .ok (.iconst 4, 1) := by decide +kernel
theorem dL_keep_4 : decode cL_keep 4 = .ok (.iload_n 1, 1) := by decide +kernel
theorem dL_keep_5 : decode cL_keep 5 = .ok (.imul, 1) := by decide +kernel
theorem dL_keep_6 : decode cL_keep 6 = .ok (.iadd, 1) := by decide +kernel
theorem dL_keep_7 : decode cL_keep 7 = .ok (.iconst 4, 1) := by decide +kernel
theorem dL_keep_8 : decode cL_keep 8 = .ok (.invokestatic 40, 3) := by decide +kernel
theorem dL_keep_11 : decode cL_keep 11 = .ok (.iconst 3, 1) := by decide +kernel
theorem dL_keep_12 : decode cL_keep 12 = .ok (.irem, 1) := by decide +kernel
theorem dL_keep_13 : decode cL_keep 13 = .ok (.ireturn, 1) := by decide +kernel
theorem dL_then_0 : decode cL_then 0 = .ok (.iload_n 1, 1) := by decide +kernel
theorem dL_then_1 : decode cL_then 1 = .ok (.ifCond .eq 17, 3) := by decide +kernel
theorem dL_then_4 : decode cL_then 4 = .ok (.aload_n 0, 1) := by decide +kernel
theorem dL_then_5 : decode cL_then 5 = .ok (.bipush 13, 2) := by decide +kernel
theorem dL_then_7 : decode cL_then 7 = .ok (.iconst 4, 1) := by decide +kernel
theorem dL_then_8 : decode cL_then 8 = .ok (.iload_n 1, 1) := by decide +kernel
theorem dL_then_9 : decode cL_then 9 = .ok (.imul, 1) := by decide +kernel
theorem dL_then_10 : decode cL_then 10 = .ok (.iadd, 1) := by decide +kernel
theorem dL_then_11 : decode cL_then 11 = .ok (.iconst 2, 1) := by decide +kernel
theorem dL_then_12 : decode cL_then 12 = .ok (.invokestatic 40, 3) := by decide +kernel
theorem dL_then_15 : decode cL_then 15 = .ok (.ifCond .ne 7, 3) := by decide +kernel
theorem dL_then_18 : decode cL_then 18 = .ok (.iconst (-1), 1) := by decide +kernel
theorem dL_then_19 : decode cL_then 19 = .ok (.goto 18, 3) := by decide +kernel
theorem dL_then_22 : decode cL_then 22 = .ok (.aload_n 0, 1) := by decide +kernel
theorem dL_then_23 : decode cL_then 23 = .ok (.bipush 13, 2) := by decide +kernel
theorem dL_then_25 : decode cL_then 25 = .ok (.iconst 4, 1) := by decide +kernel
theorem dL_then_26 : decode cL_then 26 = .ok (.iload_n 1, 1) := by decide +kernel
theorem dL_then_27 : decode cL_then 27 = .ok (.imul, 1) := by decide +kernel
theorem dL_then_28 : decode cL_then 28 = .ok (.iadd, 1) := by decide +kernel
theorem dL_then_29 : decode cL_then 29 = .ok (.iconst 2, 1) := by decide +kernel
theorem dL_then_30 : decode cL_then 30 = .ok (.iload_n 1, 1) := by decide +kernel
theorem dL_then_31 : decode cL_then 31 = .ok (.imul, 1) := by decide +kernel
theorem dL_then_32 : decode cL_then 32 = .ok (.invokestatic 40, 3) := by decide +kernel
theorem dL_then_35 : decode cL_then 35 = .ok (.iconst 2, 1) := by decide +kernel
theorem dL_then_36 : decode cL_then 36 = .ok (.idiv, 1) := by decide +kernel
theorem dL_then_37 : decode cL_then 37 = .ok (.ireturn, 1) := by decide +kernel
theorem dL_classOf_0 : decode cL_classOf 0 = .ok (.aload_n 0, 1) := by decide +kernel
theorem dL_classOf_1 : decode cL_classOf 1 = .ok (.bipush 30, 2) := by decide +kernel
theorem dL_classOf_3 : decode cL_classOf 3 = .ok (.iconst 2, 1) := by decide +kernel
theorem dL_classOf_4 : decode cL_classOf 4 = .ok (.iload_n 1, 1) := by decide +kernel
theorem dL_classOf_5 : decode cL_classOf 5 = .ok (.imul, 1) := by decide +kernel
theorem dL_classOf_6 : decode cL_classOf 6 = .ok (.iadd, 1) := by decide +kernel
theorem dL_classOf_7 : decode cL_classOf 7 = .ok (.aload_n 0, 1) := by decide +kernel
theorem dL_classOf_8 : decode cL_classOf 8 = .ok (.invokestatic 44, 3) := by decide +kernel
theorem dL_classOf_11 : decode cL_classOf 11 = .ok (.invokestatic 40, 3) := by decide +kernel
theorem dL_classOf_14 : decode cL_classOf 14 = .ok (.ireturn, 1) := by decide +kernel
theorem dL_quota_0 : decode cL_quota 0 = .ok (.bipush 10, 2) := by decide +kernel
theorem dL_quota_2 : decode cL_quota 2 = .ok (.aload_n 0, 1) := by decide +kernel
theorem dL_quota_3 : decode cL_quota 3 = .ok (.bipush 31, 2) := by decide +kernel
theorem dL_quota_5 : decode cL_quota 5 = .ok (.iconst 2, 1) := by decide +kernel
theorem dL_quota_6 : decode cL_quota 6 = .ok (.iload_n 1, 1) := by decide +kernel
theorem dL_quota_7 : decode cL_quota 7 = .ok (.imul, 1) := by decide +kernel
theorem dL_quota_8 : decode cL_quota 8 = .ok (.iadd, 1) := by decide +kernel
theorem dL_quota_9 : decode cL_quota 9 = .ok (.bipush 90, 2) := by decide +kernel
theorem dL_quota_11 : decode cL_quota 11 = .ok (.invokestatic 40, 3) := by decide +kernel
theorem dL_quota_14 : decode cL_quota 14 = .ok (.iadd, 1) := by decide +kernel
theorem dL_quota_15 : decode cL_quota 15 = .ok (.ireturn, 1) := by decide +kernel
theorem dL_holder_0 : decode cL_holder 0 = .ok (.aload_n 0, 1) := by decide +kernel
theorem dL_holder_1 : decode cL_holder 1 = .ok (.bipush 40, 2) := by decide +kernel
theorem dL_holder_3 : decode cL_holder 3 = .ok (.iconst 4, 1) := by decide +kernel
theorem dL_holder_4 : decode cL_holder 4 = .ok (.iload_n 1, 1) := by decide +kernel
theorem dL_holder_5 : decode cL_holder 5 = .ok (.imul, 1) := by decide +kernel
theorem dL_holder_6 : decode cL_holder 6 = .ok (.iadd, 1) := by decide +kernel
theorem dL_holder_7 : decode cL_holder 7 = .ok (.aload_n 0, 1) := by decide +kernel
theorem dL_holder_8 : decode cL_holder 8 = .ok (.invokestatic 48, 3) := by decide +kernel
theorem dL_holder_11 : decode cL_holder 11 = .ok (.invokestatic 40, 3) := by decide +kernel
theorem dL_holder_14 : decode cL_holder 14 = .ok (.ireturn, 1) := by decide +kernel
theorem dL_hasDays_0 : decode cL_hasDays 0 = .ok (.aload_n 0, 1) := by decide +kernel
theorem dL_hasDays_1 : decode cL_hasDays 1 = .ok (.bipush 41, 2) := by decide +kernel
theorem dL_hasDays_3 : decode cL_hasDays 3 = .ok (.iconst 4, 1) := by decide +kernel
theorem dL_hasDays_4 : decode cL_hasDays 4 = .ok (.iload_n 1, 1) := by decide +kernel
theorem dL_hasDays_5 : decode cL_hasDays 5 = .ok (.imul, 1) := by decide +kernel
theorem dL_hasDays_6 : decode cL_hasDays 6 = .ok (.iadd, 1) := by decide +kernel
theorem dL_hasDays_7 : decode cL_hasDays 7 = .ok (.iconst 2, 1) := by decide +kernel
theorem dL_hasDays_8 : decode cL_hasDays 8 = .ok (.invokestatic 40, 3) := by decide +kernel
theorem dL_hasDays_11 : decode cL_hasDays 11 = .ok (.ifCond .ne 7, 3) := by decide +kernel
theorem dL_hasDays_14 : decode cL_hasDays 14 = .ok (.iconst 1, 1) := by decide +kernel
theorem dL_hasDays_15 : decode cL_hasDays 15 = .ok (.goto 4, 3) := by decide +kernel
theorem dL_hasDays_18 : decode cL_hasDays 18 = .ok (.iconst 0, 1) := by decide +kernel
theorem dL_hasDays_19 : decode cL_hasDays 19 = .ok (.ireturn, 1) := by decide +kernel
theorem dL_hasWord_0 : decode cL_hasWord 0 = .ok (.aload_n 0, 1) := by decide +kernel
theorem dL_hasWord_1 : decode cL_hasWord 1 = .ok (.bipush 42, 2) := by decide +kernel
theorem dL_hasWord_3 : decode cL_hasWord 3 = .ok (.iconst 4, 1) := by decide +kernel
theorem dL_hasWord_4 : decode cL_hasWord 4 = .ok (.iload_n 1, 1) := by decide +kernel
theorem dL_hasWord_5 : decode cL_hasWord 5 = .ok (.imul, 1) := by decide +kernel
theorem dL_hasWord_6 : decode cL_hasWord 6 = .ok (.iadd, 1) := by decide +kernel
theorem dL_hasWord_7 : decode cL_hasWord 7 = .ok (.iconst 2, 1) := by decide +kernel
theorem dL_hasWord_8 : decode cL_hasWord 8 = .ok (.invokestatic 40, 3) := by decide +kernel
theorem dL_hasWord_11 : decode cL_hasWord 11 = .ok (.ifCond .ne 7, 3) := by decide +kernel
theorem dL_hasWord_14 : decode cL_hasWord 14 = .ok (.iconst 1, 1) := by decide +kernel
theorem dL_hasWord_15 : decode cL_hasWord 15 = .ok (.goto 4, 3) := by decide +kernel
theorem dL_hasWord_18 : decode cL_hasWord 18 = .ok (.iconst 0, 1) := by decide +kernel
theorem dL_hasWord_19 : decode cL_hasWord 19 = .ok (.ireturn, 1) := by decide +kernel
theorem dL_text_0 : decode cL_text 0 = .ok (.new 51, 3) := by decide +kernel
theorem dL_text_3 : decode cL_text 3 = .ok (.dup, 1) := by decide +kernel
theorem dL_text_4 : decode cL_text 4 = .ok (.ldc 53, 2) := by decide +kernel
theorem dL_text_6 : decode cL_text 6 = .ok (.invokespecial 55, 3) := by decide +kernel
theorem dL_text_9 : decode cL_text 9 = .ok (.aload_n 0, 1) := by decide +kernel
theorem dL_text_10 : decode cL_text 10 = .ok (.invokestatic 58, 3) := by decide +kernel
theorem dL_text_13 : decode cL_text 13 = .ok (.invokevirtual 61, 3) := by decide +kernel
theorem dL_text_16 : decode cL_text 16 = .ok (.ldc 64, 2) := by decide +kernel
theorem dL_text_18 : decode cL_text 18 = .ok (.invokevirtual 66, 3) := by decide +kernel
theorem dL_text_21 : decode cL_text 21 = .ok (.aload_n 0, 1) := by decide +kernel
theorem dL_text_22 : decode cL_text 22 = .ok (.invokestatic 69, 3) := by decide +kernel
theorem dL_text_25 : decode cL_text 25 = .ok (.invokevirtual 61, 3) := by decide +kernel
theorem dL_text_28 : decode cL_text 28 = .ok (.ldc 72, 2) := by decide +kernel
theorem dL_text_30 : decode cL_text 30 = .ok (.invokevirtual 66, 3) := by decide +kernel
theorem dL_text_33 : decode cL_text 33 = .ok (.astore_n 1, 1) := by decide +kernel
theorem dL_text_34 : decode cL_text 34 = .ok (.iconst 0, 1) := by decide +kernel
theorem dL_text_35 : decode cL_text 35 = .ok (.istore_n 2, 1) := by decide +kernel
theorem dL_text_36 : decode cL_text 36 = .ok (.iload_n 2, 1) := by decide +kernel
theorem dL_text_37 : decode cL_text 37 = .ok (.aload_n 0, 1) := by decide +kernel
theorem dL_text_38 : decode cL_text 38 = .ok (.invokestatic 44, 3) := by decide +kernel
theorem dL_text_41 : decode cL_text 41 = .ok (.if_icmp .ge 114, 3) := by decide +kernel
theorem dL_text_44 : decode cL_text 44 = .ok (.aload_n 1, 1) := by decide +kernel
theorem dL_text_45 : decode cL_text 45 = .ok (.ldc 74, 2) := by decide +kernel
theorem dL_text_47 : decode cL_text 47 = .ok (.invokevirtual 66, 3) := by decide +kernel
theorem dL_text_50 : decode cL_text 50 = .ok (.bipush 97, 2) := by decide +kernel
theorem dL_text_52 : decode cL_text 52 = .ok (.iload_n 2, 1) := by decide +kernel
theorem dL_text_53 : decode cL_text 53 = .ok (.iadd, 1) := by decide +kernel
theorem dL_text_54 : decode cL_text 54 = .ok (.i2c, 1) := by decide +kernel
theorem dL_text_55 : decode cL_text 55 = .ok (.invokevirtual 76, 3) := by decide +kernel
theorem dL_text_58 : decode cL_text 58 = .ok (.ldc 79, 2) := by decide +kernel
theorem dL_text_60 : decode cL_text 60 = .ok (.invokevirtual 66, 3) := by decide +kernel
theorem dL_text_63 : decode cL_text 63 = .ok (.pop, 1) := by decide +kernel
theorem dL_text_64 : decode cL_text 64 = .ok (.aload_n 0, 1) := by decide +kernel
theorem dL_text_65 : decode cL_text 65 = .ok (.iload_n 2, 1) := by decide +kernel
theorem dL_text_66 : decode cL_text 66 = .ok (.invokestatic 81, 3) := by decide +kernel
theorem dL_text_69 : decode cL_text 69 = .ok (.ifCond .ge 13, 3) := by decide +kernel
theorem dL_text_72 : decode cL_text 72 = .ok (.aload_n 1, 1) := by decide +kernel
theorem dL_text_73 : decode cL_text 73 = .ok (.ldc 85, 2) := by decide +kernel
theorem dL_text_75 : decode cL_text 75 = .ok (.invokevirtual 66, 3) := by decide +kernel
theorem dL_text_78 : decode cL_text 78 = .ok (.pop, 1) := by decide +kernel
theorem dL_text_79 : decode cL_text 79 = .ok (.goto 13, 3) := by decide +kernel
theorem dL_text_82 : decode cL_text 82 = .ok (.aload_n 1, 1) := by decide +kernel
theorem dL_text_83 : decode cL_text 83 = .ok (.aload_n 0, 1) := by decide +kernel
theorem dL_text_84 : decode cL_text 84 = .ok (.iload_n 2, 1) := by decide +kernel
theorem dL_text_85 : decode cL_text 85 = .ok (.invokestatic 81, 3) := by decide +kernel
theorem dL_text_88 : decode cL_text 88 = .ok (.invokevirtual 61, 3) := by decide +kernel
theorem dL_text_91 : decode cL_text 91 = .ok (.pop, 1) := by decide +kernel
theorem dL_text_92 : decode cL_text 92 = .ok (.aload_n 0, 1) := by decide +kernel
theorem dL_text_93 : decode cL_text 93 = .ok (.iload_n 2, 1) := by decide +kernel
theorem dL_text_94 : decode cL_text 94 = .ok (.invokestatic 87, 3) := by decide +kernel
theorem dL_text_97 : decode cL_text 97 = .ok (.ifCond .le 18, 3) := by decide +kernel
theorem dL_text_100 : decode cL_text 100 = .ok (.aload_n 1, 1) := by decide +kernel
theorem dL_text_101 : decode cL_text 101 = .ok (.ldc 90, 2) := by decide +kernel
theorem dL_text_103 : decode cL_text 103 = .ok (.invokevirtual 66, 3) := by decide +kernel
theorem dL_text_106 : decode cL_text 106 = .ok (.aload_n 0, 1) := by decide +kernel
theorem dL_text_107 : decode cL_text 107 = .ok (.iload_n 2, 1) := by decide +kernel
theorem dL_text_108 : decode cL_text 108 = .ok (.invokestatic 87, 3) := by decide +kernel
theorem dL_text_111 : decode cL_text 111 = .ok (.invokevirtual 61, 3) := by decide +kernel
theorem dL_text_114 : decode cL_text 114 = .ok (.pop, 1) := by decide +kernel
theorem dL_text_115 : decode cL_text 115 = .ok (.aload_n 0, 1) := by decide +kernel
theorem dL_text_116 : decode cL_text 116 = .ok (.iload_n 2, 1) := by decide +kernel
theorem dL_text_117 : decode cL_text 117 = .ok (.invokestatic 92, 3) := by decide +kernel
theorem dL_text_120 : decode cL_text 120 = .ok (.ifCond .lt 22, 3) := by decide +kernel
theorem dL_text_123 : decode cL_text 123 = .ok (.aload_n 1, 1) := by decide +kernel
theorem dL_text_124 : decode cL_text 124 = .ok (.ldc 95, 2) := by decide +kernel
theorem dL_text_126 : decode cL_text 126 = .ok (.invokevirtual 66, 3) := by decide +kernel
theorem dL_text_129 : decode cL_text 129 = .ok (.bipush 97, 2) := by decide +kernel
theorem dL_text_131 : decode cL_text 131 = .ok (.aload_n 0, 1) := by decide +kernel
theorem dL_text_132 : decode cL_text 132 = .ok (.iload_n 2, 1) := by decide +kernel
theorem dL_text_133 : decode cL_text 133 = .ok (.invokestatic 92, 3) := by decide +kernel
theorem dL_text_136 : decode cL_text 136 = .ok (.iadd, 1) := by decide +kernel
theorem dL_text_137 : decode cL_text 137 = .ok (.i2c, 1) := by decide +kernel
theorem dL_text_138 : decode cL_text 138 = .ok (.invokevirtual 76, 3) := by decide +kernel
theorem dL_text_141 : decode cL_text 141 = .ok (.pop, 1) := by decide +kernel
theorem dL_text_142 : decode cL_text 142 = .ok (.aload_n 1, 1) := by decide +kernel
theorem dL_text_143 : decode cL_text 143 = .ok (.ldc 72, 2) := by decide +kernel
theorem dL_text_145 : decode cL_text 145 = .ok (.invokevirtual 66, 3) := by decide +kernel
theorem dL_text_148 : decode cL_text 148 = .ok (.pop, 1) := by decide +kernel
theorem dL_text_149 : decode cL_text 149 = .ok (.iinc 2 1, 3) := by decide +kernel
theorem dL_text_152 : decode cL_text 152 = .ok (.goto (-116), 3) := by decide +kernel
theorem dL_text_155 : decode cL_text 155 = .ok (.iconst 0, 1) := by decide +kernel
theorem dL_text_156 : decode cL_text 156 = .ok (.istore_n 2, 1) := by decide +kernel
theorem dL_text_157 : decode cL_text 157 = .ok (.iload_n 2, 1) := by decide +kernel
theorem dL_text_158 : decode cL_text 158 = .ok (.aload_n 0, 1) := by decide +kernel
theorem dL_text_159 : decode cL_text 159 = .ok (.invokestatic 48, 3) := by decide +kernel
theorem dL_text_162 : decode cL_text 162 = .ok (.if_icmp .ge 59, 3) := by decide +kernel
theorem dL_text_165 : decode cL_text 165 = .ok (.aload_n 1, 1) := by decide +kernel
theorem dL_text_166 : decode cL_text 166 = .ok (.ldc 97, 2) := by decide +kernel
theorem dL_text_168 : decode cL_text 168 = .ok (.invokevirtual 66, 3) := by decide +kernel
theorem dL_text_171 : decode cL_text 171 = .ok (.bipush 97, 2) := by decide +kernel
theorem dL_text_173 : decode cL_text 173 = .ok (.iload_n 2, 1) := by decide +kernel
theorem dL_text_174 : decode cL_text 174 = .ok (.iadd, 1) := by decide +kernel
theorem dL_text_175 : decode cL_text 175 = .ok (.i2c, 1) := by decide +kernel
theorem dL_text_176 : decode cL_text 176 = .ok (.invokevirtual 76, 3) := by decide +kernel
theorem dL_text_179 : decode cL_text 179 = .ok (.ldc 99, 2) := by decide +kernel
theorem dL_text_181 : decode cL_text 181 = .ok (.invokevirtual 66, 3) := by decide +kernel
theorem dL_text_184 : decode cL_text 184 = .ok (.bipush 97, 2) := by decide +kernel
theorem dL_text_186 : decode cL_text 186 = .ok (.aload_n 0, 1) := by decide +kernel
theorem dL_text_187 : decode cL_text 187 = .ok (.iload_n 2, 1) := by decide +kernel
theorem dL_text_188 : decode cL_text 188 = .ok (.invokestatic 101, 3) := by decide +kernel
theorem dL_text_191 : decode cL_text 191 = .ok (.iadd, 1) := by decide +kernel
theorem dL_text_192 : decode cL_text 192 = .ok (.i2c, 1) := by decide +kernel
theorem dL_text_193 : decode cL_text 193 = .ok (.invokevirtual 76, 3) := by decide +kernel
theorem dL_text_196 : decode cL_text 196 = .ok (.ldc 104, 2) := by decide +kernel
theorem dL_text_198 : decode cL_text 198 = .ok (.invokevirtual 66, 3) := by decide +kernel
theorem dL_text_201 : decode cL_text 201 = .ok (.aload_n 0, 1) := by decide +kernel
theorem dL_text_202 : decode cL_text 202 = .ok (.iload_n 2, 1) := by decide +kernel
theorem dL_text_203 : decode cL_text 203 = .ok (.invokestatic 106, 3) := by decide +kernel
theorem dL_text_206 : decode cL_text 206 = .ok (.invokevirtual 61, 3) := by decide +kernel
theorem dL_text_209 : decode cL_text 209 = .ok (.ldc 72, 2) := by decide +kernel
theorem dL_text_211 : decode cL_text 211 = .ok (.invokevirtual 66, 3) := by decide +kernel
theorem dL_text_214 : decode cL_text 214 = .ok (.pop, 1) := by decide +kernel
theorem dL_text_215 : decode cL_text 215 = .ok (.iinc 2 1, 3) := by decide +kernel
theorem dL_text_218 : decode cL_text 218 = .ok (.goto (-61), 3) := by decide +kernel
theorem dL_text_221 : decode cL_text 221 = .ok (.iconst 0, 1) := by decide +kernel
theorem dL_text_222 : decode cL_text 222 = .ok (.istore_n 2, 1) := by decide +kernel
theorem dL_text_223 : decode cL_text 223 = .ok (.iload_n 2, 1) := by decide +kernel
theorem dL_text_224 : decode cL_text 224 = .ok (.aload_n 0, 1) := by decide +kernel
theorem dL_text_225 : decode cL_text 225 = .ok (.invokestatic 109, 3) := by decide +kernel
theorem dL_text_228 : decode cL_text 228 = .ok (.if_icmp .ge 78, 3) := by decide +kernel
theorem dL_text_231 : decode cL_text 231 = .ok (.aload_n 1, 1) := by decide +kernel
theorem dL_text_232 : decode cL_text 232 = .ok (.ldc 112, 2) := by decide +kernel
theorem dL_text_234 : decode cL_text 234 = .ok (.invokevirtual 66, 3) := by decide +kernel
theorem dL_text_237 : decode cL_text 237 = .ok (.bipush 97, 2) := by decide +kernel
theorem dL_text_239 : decode cL_text 239 = .ok (.iload_n 2, 1) := by decide +kernel
theorem dL_text_240 : decode cL_text 240 = .ok (.iadd, 1) := by decide +kernel
theorem dL_text_241 : decode cL_text 241 = .ok (.i2c, 1) := by decide +kernel
theorem dL_text_242 : decode cL_text 242 = .ok (.invokevirtual 76, 3) := by decide +kernel
theorem dL_text_245 : decode cL_text 245 = .ok (.ldc 114, 2) := by decide +kernel
theorem dL_text_247 : decode cL_text 247 = .ok (.invokevirtual 66, 3) := by decide +kernel
theorem dL_text_250 : decode cL_text 250 = .ok (.bipush 97, 2) := by decide +kernel
theorem dL_text_252 : decode cL_text 252 = .ok (.aload_n 0, 1) := by decide +kernel
theorem dL_text_253 : decode cL_text 253 = .ok (.iload_n 2, 1) := by decide +kernel
theorem dL_text_254 : decode cL_text 254 = .ok (.invokestatic 116, 3) := by decide +kernel
theorem dL_text_257 : decode cL_text 257 = .ok (.iadd, 1) := by decide +kernel
theorem dL_text_258 : decode cL_text 258 = .ok (.i2c, 1) := by decide +kernel
theorem dL_text_259 : decode cL_text 259 = .ok (.invokevirtual 76, 3) := by decide +kernel
theorem dL_text_262 : decode cL_text 262 = .ok (.pop, 1) := by decide +kernel
theorem dL_text_263 : decode cL_text 263 = .ok (.aload_n 0, 1) := by decide +kernel
theorem dL_text_264 : decode cL_text 264 = .ok (.iload_n 2, 1) := by decide +kernel
theorem dL_text_265 : decode cL_text 265 = .ok (.invokestatic 119, 3) := by decide +kernel
theorem dL_text_268 : decode cL_text 268 = .ok (.ifCond .eq 10, 3) := by decide +kernel
theorem dL_text_271 : decode cL_text 271 = .ok (.aload_n 1, 1) := by decide +kernel
theorem dL_text_272 : decode cL_text 272 = .ok (.ldc 123, 2) := by decide +kernel
theorem dL_text_274 : decode cL_text 274 = .ok (.invokevirtual 66, 3) := by decide +kernel
theorem dL_text_277 : decode cL_text 277 = .ok (.pop, 1) := by decide +kernel
theorem dL_text_278 : decode cL_text 278 = .ok (.aload_n 0, 1) := by decide +kernel
theorem dL_text_279 : decode cL_text 279 = .ok (.iload_n 2, 1) := by decide +kernel
theorem dL_text_280 : decode cL_text 280 = .ok (.invokestatic 125, 3) := by decide +kernel
theorem dL_text_283 : decode cL_text 283 = .ok (.ifCond .eq 10, 3) := by decide +kernel
theorem dL_text_286 : decode cL_text 286 = .ok (.aload_n 1, 1) := by decide +kernel
theorem dL_text_287 : decode cL_text 287 = .ok (.ldc 128, 2) := by decide +kernel
theorem dL_text_289 : decode cL_text 289 = .ok (.invokevirtual 66, 3) := by decide +kernel
theorem dL_text_292 : decode cL_text 292 = .ok (.pop, 1) := by decide +kernel
theorem dL_text_293 : decode cL_text 293 = .ok (.aload_n 1, 1) := by decide +kernel
theorem dL_text_294 : decode cL_text 294 = .ok (.ldc 72, 2) := by decide +kernel
theorem dL_text_296 : decode cL_text 296 = .ok (.invokevirtual 66, 3) := by decide +kernel
theorem dL_text_299 : decode cL_text 299 = .ok (.pop, 1) := by decide +kernel
theorem dL_text_300 : decode cL_text 300 = .ok (.iinc 2 1, 3) := by decide +kernel
theorem dL_text_303 : decode cL_text 303 = .ok (.goto (-80), 3) := by decide +kernel
theorem dL_text_306 : decode cL_text 306 = .ok (.aload_n 1, 1) := by decide +kernel
theorem dL_text_307 : decode cL_text 307 = .ok (.invokevirtual 130, 3) := by decide +kernel
theorem dL_text_310 : decode cL_text 310 = .ok (.areturn, 1) := by decide +kernel
theorem dL_load_0 : decode cL_load 0 = .ok (.aload_n 0, 1) := by decide +kernel
theorem dL_load_1 : decode cL_load 1 = .ok (.aload_n 1, 1) := by decide +kernel
theorem dL_load_2 : decode cL_load 2 = .ok (.invokestatic 134, 3) := by decide +kernel
theorem dL_load_5 : decode cL_load 5 = .ok (.invokestatic 138, 3) := by decide +kernel
theorem dL_load_8 : decode cL_load 8 = .ok (.aload_n 0, 1) := by decide +kernel
theorem dL_load_9 : decode cL_load 9 = .ok (.invokevirtual 142, 3) := by decide +kernel
theorem dL_load_12 : decode cL_load 12 = .ok (.aload_n 1, 1) := by decide +kernel
theorem dL_load_13 : decode cL_load 13 = .ok (.invokestatic 48, 3) := by decide +kernel
theorem dL_load_16 : decode cL_load 16 = .ok (.if_icmp .ne 53, 3) := by decide +kernel
theorem dL_load_19 : decode cL_load 19 = .ok (.aload_n 0, 1) := by decide +kernel
theorem dL_load_20 : decode cL_load 20 = .ok (.invokevirtual 145, 3) := by decide +kernel
theorem dL_load_23 : decode cL_load 23 = .ok (.ifCond .ne 46, 3) := by decide +kernel
theorem dL_load_26 : decode cL_load 26 = .ok (.aload_n 0, 1) := by decide +kernel
theorem dL_load_27 : decode cL_load 27 = .ok (.invokevirtual 148, 3) := by decide +kernel
theorem dL_load_30 : decode cL_load 30 = .ok (.iconst (-1), 1) := by decide +kernel
theorem dL_load_31 : decode cL_load 31 = .ok (.if_icmp .ne 38, 3) := by decide +kernel
theorem dL_load_34 : decode cL_load 34 = .ok (.aload_n 0, 1) := by decide +kernel
theorem dL_load_35 : decode cL_load 35 = .ok (.iconst 0, 1) := by decide +kernel
theorem dL_load_36 : decode cL_load 36 = .ok (.invokevirtual 151, 3) := by decide +kernel
theorem dL_load_39 : decode cL_load 39 = .ok (.aload_n 1, 1) := by decide +kernel
theorem dL_load_40 : decode cL_load 40 = .ok (.invokestatic 44, 3) := by decide +kernel
theorem dL_load_43 : decode cL_load 43 = .ok (.if_icmp .ne 26, 3) := by decide +kernel
theorem dL_load_46 : decode cL_load 46 = .ok (.aload_n 0, 1) := by decide +kernel
theorem dL_load_47 : decode cL_load 47 = .ok (.iconst 3, 1) := by decide +kernel
theorem dL_load_48 : decode cL_load 48 = .ok (.invokevirtual 151, 3) := by decide +kernel
theorem dL_load_51 : decode cL_load 51 = .ok (.aload_n 1, 1) := by decide +kernel
theorem dL_load_52 : decode cL_load 52 = .ok (.invokestatic 109, 3) := by decide +kernel
theorem dL_load_55 : decode cL_load 55 = .ok (.if_icmp .ne 14, 3) := by decide +kernel
theorem dL_load_58 : decode cL_load 58 = .ok (.aload_n 0, 1) := by decide +kernel
theorem dL_load_59 : decode cL_load 59 = .ok (.invokevirtual 155, 3) := by decide +kernel
theorem dL_load_62 : decode cL_load 62 = .ok (.ifCond .ne 7, 3) := by decide +kernel
theorem dL_load_65 : decode cL_load 65 = .ok (.iconst 1, 1) := by decide +kernel
theorem dL_load_66 : decode cL_load 66 = .ok (.goto 4, 3) := by decide +kernel
theorem dL_load_69 : decode cL_load 69 = .ok (.iconst 0, 1) := by decide +kernel
theorem dL_load_70 : decode cL_load 70 = .ok (.ireturn, 1) := by decide +kernel
theorem dL_parts_0 : decode cL_parts 0 = .ok (.iconst 1, 1) := by decide +kernel
theorem dL_parts_1 : decode cL_parts 1 = .ok (.aload_n 0, 1) := by decide +kernel
theorem dL_parts_2 : decode cL_parts 2 = .ok (.bipush 60, 2) := by decide +kernel
theorem dL_parts_4 : decode cL_parts 4 = .ok (.bipush 8, 2) := by decide +kernel
theorem dL_parts_6 : decode cL_parts 6 = .ok (.iload_n 1, 1) := by decide +kernel
theorem dL_parts_7 : decode cL_parts 7 = .ok (.imul, 1) := by decide +kernel
theorem dL_parts_8 : decode cL_parts 8 = .ok (.iadd, 1) := by decide +kernel
theorem dL_parts_9 : decode cL_parts 9 = .ok (.iconst 3, 1) := by decide +kernel
theorem dL_parts_10 : decode cL_parts 10 = .ok (.invokestatic 40, 3) := by decide +kernel
theorem dL_parts_13 : decode cL_parts 13 = .ok (.iadd, 1) := by decide +kernel
theorem dL_parts_14 : decode cL_parts 14 = .ok (.ireturn, 1) := by decide +kernel
theorem dL_sort_0 : decode cL_sort 0 = .ok (.aload_n 0, 1) := by decide +kernel
theorem dL_sort_1 : decode cL_sort 1 = .ok (.bipush 61, 2) := by decide +kernel
theorem dL_sort_3 : decode cL_sort 3 = .ok (.bipush 8, 2) := by decide +kernel
theorem dL_sort_5 : decode cL_sort 5 = .ok (.iload_n 1, 1) := by decide +kernel
theorem dL_sort_6 : decode cL_sort 6 = .ok (.imul, 1) := by decide +kernel
theorem dL_sort_7 : decode cL_sort 7 = .ok (.iadd, 1) := by decide +kernel
theorem dL_sort_8 : decode cL_sort 8 = .ok (.iload_n 2, 1) := by decide +kernel
theorem dL_sort_9 : decode cL_sort 9 = .ok (.iadd, 1) := by decide +kernel
theorem dL_sort_10 : decode cL_sort 10 = .ok (.bipush 6, 2) := by decide +kernel
theorem dL_sort_12 : decode cL_sort 12 = .ok (.invokestatic 40, 3) := by decide +kernel
theorem dL_sort_15 : decode cL_sort 15 = .ok (.ireturn, 1) := by decide +kernel
theorem dL_part_0 : decode cL_part 0 = .ok (.iload_n 0, 1) := by decide +kernel
theorem dL_part_1 : decode cL_part 1 = .ok (.tableswitch 50 0 4 #[35, 38, 41, 44, 47], 35) := by decide +kernel
theorem dL_part_36 : decode cL_part 36 = .ok (.ldc 158, 2) := by decide +kernel
theorem dL_part_38 : decode cL_part 38 = .ok (.areturn, 1) := by decide +kernel
theorem dL_part_39 : decode cL_part 39 = .ok (.ldc 160, 2) := by decide +kernel
theorem dL_part_41 : decode cL_part 41 = .ok (.areturn, 1) := by decide +kernel
theorem dL_part_42 : decode cL_part 42 = .ok (.ldc 162, 2) := by decide +kernel
theorem dL_part_44 : decode cL_part 44 = .ok (.areturn, 1) := by decide +kernel
theorem dL_part_45 : decode cL_part 45 = .ok (.ldc 164, 2) := by decide +kernel
theorem dL_part_47 : decode cL_part 47 = .ok (.areturn, 1) := by decide +kernel
theorem dL_part_48 : decode cL_part 48 = .ok (.ldc 166, 2) := by decide +kernel
theorem dL_part_50 : decode cL_part 50 = .ok (.areturn, 1) := by decide +kernel
theorem dL_part_51 : decode cL_part 51 = .ok (.ldc 168, 2) := by decide +kernel
theorem dL_part_53 : decode cL_part 53 = .ok (.areturn, 1) := by decide +kernel
theorem dL_hasAb_0 : decode cL_hasAb 0 = .ok (.iconst 0, 1) := by decide +kernel
theorem dL_hasAb_1 : decode cL_hasAb 1 = .ok (.istore_n 2, 1) := by decide +kernel
theorem dL_hasAb_2 : decode cL_hasAb 2 = .ok (.iload_n 2, 1) := by decide +kernel
theorem dL_hasAb_3 : decode cL_hasAb 3 = .ok (.aload_n 0, 1) := by decide +kernel
theorem dL_hasAb_4 : decode cL_hasAb 4 = .ok (.iload_n 1, 1) := by decide +kernel
theorem dL_hasAb_5 : decode cL_hasAb 5 = .ok (.invokestatic 170, 3) := by decide +kernel
theorem dL_hasAb_8 : decode cL_hasAb 8 = .ok (.if_icmp .ge 40, 3) := by decide +kernel
theorem dL_hasAb_11 : decode cL_hasAb 11 = .ok (.aload_n 0, 1) := by decide +kernel
theorem dL_hasAb_12 : decode cL_hasAb 12 = .ok (.iload_n 1, 1) := by decide +kernel
theorem dL_hasAb_13 : decode cL_hasAb 13 = .ok (.iload_n 2, 1) := by decide +kernel
theorem dL_hasAb_14 : decode cL_hasAb 14 = .ok (.invokestatic 173, 3) := by decide +kernel
theorem dL_hasAb_17 : decode cL_hasAb 17 = .ok (.ifCond .eq 23, 3) := by decide +kernel
theorem dL_hasAb_20 : decode cL_hasAb 20 = .ok (.aload_n 0, 1) := by decide +kernel
theorem dL_hasAb_21 : decode cL_hasAb 21 = .ok (.iload_n 1, 1) := by decide +kernel
theorem dL_hasAb_22 : decode cL_hasAb 22 = .ok (.iload_n 2, 1) := by decide +kernel
theorem dL_hasAb_23 : decode cL_hasAb 23 = .ok (.invokestatic 173, 3) := by decide +kernel
theorem dL_hasAb_26 : decode cL_hasAb 26 = .ok (.iconst 1, 1) := by decide +kernel
theorem dL_hasAb_27 : decode cL_hasAb 27 = .ok (.if_icmp .eq 13, 3) := by decide +kernel
theorem dL_hasAb_30 : decode cL_hasAb 30 = .ok (.aload_n 0, 1) := by decide +kernel
theorem dL_hasAb_31 : decode cL_hasAb 31 = .ok (.iload_n 1, 1) := by decide +kernel
theorem dL_hasAb_32 : decode cL_hasAb 32 = .ok (.iload_n 2, 1) := by decide +kernel
theorem dL_hasAb_33 : decode cL_hasAb 33 = .ok (.invokestatic 173, 3) := by decide +kernel
theorem dL_hasAb_36 : decode cL_hasAb 36 = .ok (.iconst 3, 1) := by decide +kernel
theorem dL_hasAb_37 : decode cL_hasAb 37 = .ok (.if_icmp .ne 5, 3) := by decide +kernel
theorem dL_hasAb_40 : decode cL_hasAb 40 = .ok (.iconst 1, 1) := by decide +kernel
theorem dL_hasAb_41 : decode cL_hasAb 41 = .ok (.ireturn, 1) := by decide +kernel
theorem dL_hasAb_42 : decode cL_hasAb 42 = .ok (.iinc 2 1, 3) := by decide +kernel
theorem dL_hasAb_45 : decode cL_hasAb 45 = .ok (.goto (-43), 3) := by decide +kernel
theorem dL_hasAb_48 : decode cL_hasAb 48 = .ok (.iconst 0, 1) := by decide +kernel
theorem dL_hasAb_49 : decode cL_hasAb 49 = .ok (.ireturn, 1) := by decide +kernel
theorem dL_size_0 : decode cL_size 0 = .ok (.iconst 0, 1) := by decide +kernel
theorem dL_size_1 : decode cL_size 1 = .ok (.istore_n 2, 1) := by decide +kernel
theorem dL_size_2 : decode cL_size 2 = .ok (.iconst 0, 1) := by decide +kernel
theorem dL_size_3 : decode cL_size 3 = .ok (.istore_n 3, 1) := by decide +kernel
theorem dL_size_4 : decode cL_size 4 = .ok (.iload_n 3, 1) := by decide +kernel
theorem dL_size_5 : decode cL_size 5 = .ok (.aload_n 0, 1) := by decide +kernel
theorem dL_size_6 : decode cL_size 6 = .ok (.iload_n 1, 1) := by decide +kernel
theorem dL_size_7 : decode cL_size 7 = .ok (.invokestatic 170, 3) := by decide +kernel
theorem dL_size_10 : decode cL_size 10 = .ok (.if_icmp .ge 24, 3) := by decide +kernel
theorem dL_size_13 : decode cL_size 13 = .ok (.iload_n 2, 1) := by decide +kernel
theorem dL_size_14 : decode cL_size 14 = .ok (.aload_n 0, 1) := by decide +kernel
theorem dL_size_15 : decode cL_size 15 = .ok (.iload_n 1, 1) := by decide +kernel
theorem dL_size_16 : decode cL_size 16 = .ok (.iload_n 3, 1) := by decide +kernel
theorem dL_size_17 : decode cL_size 17 = .ok (.invokestatic 173, 3) := by decide +kernel
theorem dL_size_20 : decode cL_size 20 = .ok (.invokestatic 176, 3) := by decide +kernel
theorem dL_size_23 : decode cL_size 23 = .ok (.invokevirtual 8, 3) := by decide +kernel
theorem dL_size_26 : decode cL_size 26 = .ok (.iadd, 1) := by decide +kernel
theorem dL_size_27 : decode cL_size 27 = .ok (.istore_n 2, 1) := by decide +kernel
theorem dL_size_28 : decode cL_size 28 = .ok (.iinc 3 1, 3) := by decide +kernel
theorem dL_size_31 : decode cL_size 31 = .ok (.goto (-27), 3) := by decide +kernel
theorem dL_size_34 : decode cL_size 34 = .ok (.iload_n 2, 1) := by decide +kernel
theorem dL_size_35 : decode cL_size 35 = .ok (.ireturn, 1) := by decide +kernel
theorem dL_recipients_0 : decode cL_recipients 0 = .ok (.iconst 1, 1) := by decide +kernel
theorem dL_recipients_1 : decode cL_recipients 1 = .ok (.aload_n 0, 1) := by decide +kernel
theorem dL_recipients_2 : decode cL_recipients 2 = .ok (.bipush 65, 2) := by decide +kernel
theorem dL_recipients_4 : decode cL_recipients 4 = .ok (.bipush 8, 2) := by decide +kernel
theorem dL_recipients_6 : decode cL_recipients 6 = .ok (.iload_n 1, 1) := by decide +kernel
theorem dL_recipients_7 : decode cL_recipients 7 = .ok (.imul, 1) := by decide +kernel
theorem dL_recipients_8 : decode cL_recipients 8 = .ok (.iadd, 1) := by decide +kernel
theorem dL_recipients_9 : decode cL_recipients 9 = .ok (.iconst 1, 1) := by decide +kernel
theorem dL_recipients_10 : decode cL_recipients 10 = .ok (.aload_n 0, 1) := by decide +kernel
theorem dL_recipients_11 : decode cL_recipients 11 = .ok (.invokestatic 48, 3) := by decide +kernel
theorem dL_recipients_14 : decode cL_recipients 14 = .ok (.ishl, 1) := by decide +kernel
theorem dL_recipients_15 : decode cL_recipients 15 = .ok (.iconst 1, 1) := by decide +kernel
theorem dL_recipients_16 : decode cL_recipients 16 = .ok (.isub, 1) := by decide +kernel
theorem dL_recipients_17 : decode cL_recipients 17 = .ok (.invokestatic 40, 3) := by decide +kernel
theorem dL_recipients_20 : decode cL_recipients 20 = .ok (.iadd, 1) := by decide +kernel
theorem dL_recipients_21 : decode cL_recipients 21 = .ok (.ireturn, 1) := by decide +kernel
theorem dL_special_0 : decode cL_special 0 = .ok (.aload_n 0, 1) := by decide +kernel
theorem dL_special_1 : decode cL_special 1 = .ok (.bipush 66, 2) := by decide +kernel
theorem dL_special_3 : decode cL_special 3 = .ok (.bipush 8, 2) := by decide +kernel
theorem dL_special_5 : decode cL_special 5 = .ok (.iload_n 1, 1) := by decide +kernel
theorem dL_special_6 : decode cL_special 6 = .ok (.imul, 1) := by decide +kernel
theorem dL_special_7 : decode cL_special 7 = .ok (.iadd, 1) := by decide +kernel
theorem dL_special_8 : decode cL_special 8 = .ok (.iconst 3, 1) := by decide +kernel
theorem dL_special_9 : decode cL_special 9 = .ok (.invokestatic 40, 3) := by decide +kernel
theorem dL_special_12 : decode cL_special 12 = .ok (.ifCond .ne 21, 3) := by decide +kernel
theorem dL_special_15 : decode cL_special 15 = .ok (.aload_n 0, 1) := by decide +kernel
theorem dL_special_16 : decode cL_special 16 = .ok (.bipush 67, 2) := by decide +kernel
theorem dL_special_18 : decode cL_special 18 = .ok (.bipush 8, 2) := by decide +kernel
theorem dL_special_20 : decode cL_special 20 = .ok (.iload_n 1, 1) := by decide +kernel
theorem dL_special_21 : decode cL_special 21 = .ok (.imul, 1) := by decide +kernel
theorem dL_special_22 : decode cL_special 22 = .ok (.iadd, 1) := by decide +kernel
theorem dL_special_23 : decode cL_special 23 = .ok (.aload_n 0, 1) := by decide +kernel
theorem dL_special_24 : decode cL_special 24 = .ok (.invokestatic 44, 3) := by decide +kernel
theorem dL_special_27 : decode cL_special 27 = .ok (.invokestatic 40, 3) := by decide +kernel
theorem dL_special_30 : decode cL_special 30 = .ok (.goto 4, 3) := by decide +kernel
theorem dL_special_33 : decode cL_special 33 = .ok (.iconst (-1), 1) := by decide +kernel
theorem dL_special_34 : decode cL_special 34 = .ok (.ireturn, 1) := by decide +kernel
theorem dL_deliver_0 : decode cL_deliver 0 = .ok (.new 51, 3) := by decide +kernel
theorem dL_deliver_3 : decode cL_deliver 3 = .ok (.dup, 1) := by decide +kernel
theorem dL_deliver_4 : decode cL_deliver 4 = .ok (.aload_n 1, 1) := by decide +kernel
theorem dL_deliver_5 : decode cL_deliver 5 = .ok (.iload_n 2, 1) := by decide +kernel
theorem dL_deliver_6 : decode cL_deliver 6 = .ok (.iconst 0, 1) := by decide +kernel
theorem dL_deliver_7 : decode cL_deliver 7 = .ok (.invokestatic 173, 3) := by decide +kernel
theorem dL_deliver_10 : decode cL_deliver 10 = .ok (.invokestatic 176, 3) := by decide +kernel
theorem dL_deliver_13 : decode cL_deliver 13 = .ok (.invokespecial 55, 3) := by decide +kernel
theorem dL_deliver_16 : decode cL_deliver 16 = .ok (.astore_n 3, 1) := by decide +kernel
theorem dL_deliver_17 : decode cL_deliver 17 = .ok (.iconst 1, 1) := by decide +kernel
theorem dL_deliver_18 : decode cL_deliver 18 = .ok (.istore 4, 2) := by decide +kernel
theorem dL_deliver_20 : decode cL_deliver 20 = .ok (.iload 4, 2) := by decide +kernel
theorem dL_deliver_22 : decode cL_deliver 22 = .ok (.aload_n 1, 1) := by decide +kernel
theorem dL_deliver_23 : decode cL_deliver 23 = .ok (.iload_n 2, 1) := by decide +kernel
theorem dL_deliver_24 : decode cL_deliver 24 = .ok (.invokestatic 170, 3) := by decide +kernel
theorem dL_deliver_27 : decode cL_deliver 27 = .ok (.if_icmp .ge 29, 3) := by decide +kernel
theorem dL_deliver_30 : decode cL_deliver 30 = .ok (.aload_n 3, 1) := by decide +kernel
theorem dL_deliver_31 : decode cL_deliver 31 = .ok (.bipush 124, 2) := by decide +kernel
theorem dL_deliver_33 : decode cL_deliver 33 = .ok (.invokevirtual 76, 3) := by decide +kernel
theorem dL_deliver_36 : decode cL_deliver 36 = .ok (.aload_n 1, 1) := by decide +kernel
theorem dL_deliver_37 : decode cL_deliver 37 = .ok (.iload_n 2, 1) := by decide +kernel
theorem dL_deliver_38 : decode cL_deliver 38 = .ok (.iload 4, 2) := by decide +kernel
theorem dL_deliver_40 : decode cL_deliver 40 = .ok (.invokestatic 173, 3) := by decide +kernel
theorem dL_deliver_43 : decode cL_deliver 43 = .ok (.invokestatic 176, 3) := by decide +kernel
theorem dL_deliver_46 : decode cL_deliver 46 = .ok (.invokevirtual 66, 3) := by decide +kernel
theorem dL_deliver_49 : decode cL_deliver 49 = .ok (.pop, 1) := by decide +kernel
theorem dL_deliver_50 : decode cL_deliver 50 = .ok (.iinc 4 1, 3) := by decide +kernel
theorem dL_deliver_53 : decode cL_deliver 53 = .ok (.goto (-33), 3) := by decide +kernel
theorem dL_deliver_56 : decode cL_deliver 56 = .ok (.aload_n 0, 1) := by decide +kernel
theorem dL_deliver_57 : decode cL_deliver 57 = .ok (.aload_n 3, 1) := by decide +kernel
theorem dL_deliver_58 : decode cL_deliver 58 = .ok (.invokevirtual 130, 3) := by decide +kernel
theorem dL_deliver_61 : decode cL_deliver 61 = .ok (.invokestatic 138, 3) := by decide +kernel
theorem dL_deliver_64 : decode cL_deliver 64 = .ok (.aload_n 0, 1) := by decide +kernel
theorem dL_deliver_65 : decode cL_deliver 65 = .ok (.iconst 0, 1) := by decide +kernel
theorem dL_deliver_66 : decode cL_deliver 66 = .ok (.aload_n 1, 1) := by decide +kernel
theorem dL_deliver_67 : decode cL_deliver 67 = .ok (.iload_n 2, 1) := by decide +kernel
theorem dL_deliver_68 : decode cL_deliver 68 = .ok (.invokestatic 180, 3) := by decide +kernel
theorem dL_deliver_71 : decode cL_deliver 71 = .ok (.aload_n 1, 1) := by decide +kernel
theorem dL_deliver_72 : decode cL_deliver 72 = .ok (.iload_n 2, 1) := by decide +kernel
theorem dL_deliver_73 : decode cL_deliver 73 = .ok (.invokestatic 183, 3) := by decide +kernel
theorem dL_deliver_76 : decode cL_deliver 76 = .ok (.invokevirtual 186, 3) := by decide +kernel
theorem dL_deliver_79 : decode cL_deliver 79 = .ok (.ireturn, 1) := by decide +kernel
theorem dL_wrong_0 : decode cL_wrong 0 = .ok (.aload_n 0, 1) := by decide +kernel
theorem dL_wrong_1 : decode cL_wrong 1 = .ok (.aload_n 1, 1) := by decide +kernel
theorem dL_wrong_2 : decode cL_wrong 2 = .ok (.invokestatic 138, 3) := by decide +kernel
theorem dL_wrong_5 : decode cL_wrong 5 = .ok (.aload_n 0, 1) := by decide +kernel
theorem dL_wrong_6 : decode cL_wrong 6 = .ok (.invokevirtual 142, 3) := by decide +kernel
theorem dL_wrong_9 : decode cL_wrong 9 = .ok (.bipush (-4), 2) := by decide +kernel
theorem dL_wrong_11 : decode cL_wrong 11 = .ok (.if_icmp .ne 23, 3) := by decide +kernel
theorem dL_wrong_14 : decode cL_wrong 14 = .ok (.aload_n 0, 1) := by decide +kernel
theorem dL_wrong_15 : decode cL_wrong 15 = .ok (.invokevirtual 145, 3) := by decide +kernel
theorem dL_wrong_18 : decode cL_wrong 18 = .ok (.iload_n 2, 1) := by decide +kernel
theorem dL_wrong_19 : decode cL_wrong 19 = .ok (.if_icmp .ne 15, 3) := by decide +kernel
theorem dL_wrong_22 : decode cL_wrong 22 = .ok (.aload_n 0, 1) := by decide +kernel
theorem dL_wrong_23 : decode cL_wrong 23 = .ok (.invokevirtual 148, 3) := by decide +kernel
theorem dL_wrong_26 : decode cL_wrong 26 = .ok (.iload_n 3, 1) := by decide +kernel
theorem dL_wrong_27 : decode cL_wrong 27 = .ok (.if_icmp .ne 7, 3) := by decide +kernel
theorem dL_wrong_30 : decode cL_wrong 30 = .ok (.iconst 1, 1) := by decide +kernel
theorem dL_wrong_31 : decode cL_wrong 31 = .ok (.goto 4, 3) := by decide +kernel
theorem dL_wrong_34 : decode cL_wrong 34 = .ok (.iconst 0, 1) := by decide +kernel
theorem dL_wrong_35 : decode cL_wrong 35 = .ok (.ireturn, 1) := by decide +kernel
theorem dL_errors_0 : decode cL_errors 0 = .ok (.new 25, 3) := by decide +kernel
theorem dL_errors_3 : decode cL_errors 3 = .ok (.dup, 1) := by decide +kernel
theorem dL_errors_4 : decode cL_errors 4 = .ok (.invokespecial 190, 3) := by decide +kernel
theorem dL_errors_7 : decode cL_errors 7 = .ok (.astore_n 0, 1) := by decide +kernel
theorem dL_errors_8 : decode cL_errors 8 = .ok (.ldc 191, 2) := by decide +kernel
theorem dL_errors_10 : decode cL_errors 10 = .ok (.astore_n 1, 1) := by decide +kernel
theorem dL_errors_11 : decode cL_errors 11 = .ok (.new 51, 3) := by decide +kernel
theorem dL_errors_14 : decode cL_errors 14 = .ok (.dup, 1) := by decide +kernel
theorem dL_errors_15 : decode cL_errors 15 = .ok (.invokespecial 193, 3) := by decide +kernel
theorem dL_errors_18 : decode cL_errors 18 = .ok (.aload_n 1, 1) := by decide +kernel
theorem dL_errors_19 : decode cL_errors 19 = .ok (.invokevirtual 66, 3) := by decide +kernel
theorem dL_errors_22 : decode cL_errors 22 = .ok (.ldc 194, 2) := by decide +kernel
theorem dL_errors_24 : decode cL_errors 24 = .ok (.invokevirtual 66, 3) := by decide +kernel
theorem dL_errors_27 : decode cL_errors 27 = .ok (.invokevirtual 130, 3) := by decide +kernel
theorem dL_errors_30 : decode cL_errors 30 = .ok (.astore_n 2, 1) := by decide +kernel
theorem dL_errors_31 : decode cL_errors 31 = .ok (.new 51, 3) := by decide +kernel
theorem dL_errors_34 : decode cL_errors 34 = .ok (.dup, 1) := by decide +kernel
theorem dL_errors_35 : decode cL_errors 35 = .ok (.invokespecial 193, 3) := by decide +kernel
theorem dL_errors_38 : decode cL_errors 38 = .ok (.aload_n 2, 1) := by decide +kernel
theorem dL_errors_39 : decode cL_errors 39 = .ok (.invokevirtual 66, 3) := by decide +kernel
theorem dL_errors_42 : decode cL_errors 42 = .ok (.ldc 196, 2) := by decide +kernel
theorem dL_errors_44 : decode cL_errors 44 = .ok (.invokevirtual 66, 3) := by decide +kernel
theorem dL_errors_47 : decode cL_errors 47 = .ok (.invokevirtual 130, 3) := by decide +kernel
theorem dL_errors_50 : decode cL_errors 50 = .ok (.astore_n 3, 1) := by decide +kernel
theorem dL_errors_51 : decode cL_errors 51 = .ok (.aload_n 0, 1) := by decide +kernel
theorem dL_errors_52 : decode cL_errors 52 = .ok (.ldc 198, 2) := by decide +kernel
theorem dL_errors_54 : decode cL_errors 54 = .ok (.iconst 1, 1) := by decide +kernel
theorem dL_errors_55 : decode cL_errors 55 = .ok (.iconst 0, 1) := by decide +kernel
theorem dL_errors_56 : decode cL_errors 56 = .ok (.invokestatic 200, 3) := by decide +kernel
theorem dL_errors_59 : decode cL_errors 59 = .ok (.ifCond .eq 131, 3) := by decide +kernel
theorem dL_errors_62 : decode cL_errors 62 = .ok (.aload_n 0, 1) := by decide +kernel
theorem dL_errors_63 : decode cL_errors 63 = .ok (.ldc 204, 2) := by decide +kernel
theorem dL_errors_65 : decode cL_errors 65 = .ok (.iconst 2, 1) := by decide +kernel
theorem dL_errors_66 : decode cL_errors 66 = .ok (.bipush 12, 2) := by decide +kernel
theorem dL_errors_68 : decode cL_errors 68 = .ok (.invokestatic 200, 3) := by decide +kernel
theorem dL_errors_71 : decode cL_errors 71 = .ok (.ifCond .eq 119, 3) := by decide +kernel
theorem dL_errors_74 : decode cL_errors 74 = .ok (.aload_n 0, 1) := by decide +kernel
theorem dL_errors_75 : decode cL_errors 75 = .ok (.new 51, 3) := by decide +kernel
theorem dL_errors_78 : decode cL_errors 78 = .ok (.dup, 1) := by decide +kernel
theorem dL_errors_79 : decode cL_errors 79 = .ok (.invokespecial 193, 3) := by decide +kernel
theorem dL_errors_82 : decode cL_errors 82 = .ok (.aload_n 1, 1) := by decide +kernel
theorem dL_errors_83 : decode cL_errors 83 = .ok (.invokevirtual 66, 3) := by decide +kernel
theorem dL_errors_86 : decode cL_errors 86 = .ok (.ldc 206, 2) := by decide +kernel
theorem dL_errors_88 : decode cL_errors 88 = .ok (.invokevirtual 66, 3) := by decide +kernel
theorem dL_errors_91 : decode cL_errors 91 = .ok (.invokevirtual 130, 3) := by decide +kernel
theorem dL_errors_94 : decode cL_errors 94 = .ok (.iconst 4, 1) := by decide +kernel
theorem dL_errors_95 : decode cL_errors 95 = .ok (.bipush 22, 2) := by decide +kernel
theorem dL_errors_97 : decode cL_errors 97 = .ok (.invokestatic 200, 3) := by decide +kernel
theorem dL_errors_100 : decode cL_errors 100 = .ok (.ifCond .eq 90, 3) := by decide +kernel
theorem dL_errors_103 : decode cL_errors 103 = .ok (.aload_n 0, 1) := by decide +kernel
theorem dL_errors_104 : decode cL_errors 104 = .ok (.new 51, 3) := by decide +kernel
theorem dL_errors_107 : decode cL_errors 107 = .ok (.dup, 1) := by decide +kernel
theorem dL_errors_108 : decode cL_errors 108 = .ok (.invokespecial 193, 3) := by decide +kernel
theorem dL_errors_111 : decode cL_errors 111 = .ok (.aload_n 1, 1) := by decide +kernel
theorem dL_errors_112 : decode cL_errors 112 = .ok (.invokevirtual 66, 3) := by decide +kernel
theorem dL_errors_115 : decode cL_errors 115 = .ok (.ldc 208, 2) := by decide +kernel
theorem dL_errors_117 : decode cL_errors 117 = .ok (.invokevirtual 66, 3) := by decide +kernel
theorem dL_errors_120 : decode cL_errors 120 = .ok (.invokevirtual 130, 3) := by decide +kernel
theorem dL_errors_123 : decode cL_errors 123 = .ok (.iconst 1, 1) := by decide +kernel
theorem dL_errors_124 : decode cL_errors 124 = .ok (.bipush 28, 2) := by decide +kernel
theorem dL_errors_126 : decode cL_errors 126 = .ok (.invokestatic 200, 3) := by decide +kernel
theorem dL_errors_129 : decode cL_errors 129 = .ok (.ifCond .eq 61, 3) := by decide +kernel
theorem dL_errors_132 : decode cL_errors 132 = .ok (.aload_n 0, 1) := by decide +kernel
theorem dL_errors_133 : decode cL_errors 133 = .ok (.new 51, 3) := by decide +kernel
theorem dL_errors_136 : decode cL_errors 136 = .ok (.dup, 1) := by decide +kernel
theorem dL_errors_137 : decode cL_errors 137 = .ok (.invokespecial 193, 3) := by decide +kernel
theorem dL_errors_140 : decode cL_errors 140 = .ok (.aload_n 1, 1) := by decide +kernel
theorem dL_errors_141 : decode cL_errors 141 = .ok (.invokevirtual 66, 3) := by decide +kernel
theorem dL_errors_144 : decode cL_errors 144 = .ok (.ldc 210, 2) := by decide +kernel
theorem dL_errors_146 : decode cL_errors 146 = .ok (.invokevirtual 66, 3) := by decide +kernel
theorem dL_errors_149 : decode cL_errors 149 = .ok (.invokevirtual 130, 3) := by decide +kernel
theorem dL_errors_152 : decode cL_errors 152 = .ok (.iconst 2, 1) := by decide +kernel
theorem dL_errors_153 : decode cL_errors 153 = .ok (.bipush 35, 2) := by decide +kernel
theorem dL_errors_155 : decode cL_errors 155 = .ok (.invokestatic 200, 3) := by decide +kernel
theorem dL_errors_158 : decode cL_errors 158 = .ok (.ifCond .eq 32, 3) := by decide +kernel
theorem dL_errors_161 : decode cL_errors 161 = .ok (.aload_n 0, 1) := by decide +kernel
theorem dL_errors_162 : decode cL_errors 162 = .ok (.new 51, 3) := by decide +kernel
theorem dL_errors_165 : decode cL_errors 165 = .ok (.dup, 1) := by decide +kernel
theorem dL_errors_166 : decode cL_errors 166 = .ok (.invokespecial 193, 3) := by decide +kernel
theorem dL_errors_169 : decode cL_errors 169 = .ok (.aload_n 2, 1) := by decide +kernel
theorem dL_errors_170 : decode cL_errors 170 = .ok (.invokevirtual 66, 3) := by decide +kernel
theorem dL_errors_173 : decode cL_errors 173 = .ok (.ldc 212, 2) := by decide +kernel
theorem dL_errors_175 : decode cL_errors 175 = .ok (.invokevirtual 66, 3) := by decide +kernel
theorem dL_errors_178 : decode cL_errors 178 = .ok (.invokevirtual 130, 3) := by decide +kernel
theorem dL_errors_181 : decode cL_errors 181 = .ok (.iconst 3, 1) := by decide +kernel
theorem dL_errors_182 : decode cL_errors 182 = .ok (.bipush 43, 2) := by decide +kernel
theorem dL_errors_184 : decode cL_errors 184 = .ok (.invokestatic 200, 3) := by decide +kernel
theorem dL_errors_187 : decode cL_errors 187 = .ok (.ifCond .ne 5, 3) := by decide +kernel
theorem dL_errors_190 : decode cL_errors 190 = .ok (.iconst 0, 1) := by decide +kernel
theorem dL_errors_191 : decode cL_errors 191 = .ok (.ireturn, 1) := by decide +kernel
theorem dL_errors_192 : decode cL_errors 192 = .ok (.aload_n 0, 1) := by decide +kernel
theorem dL_errors_193 : decode cL_errors 193 = .ok (.new 51, 3) := by decide +kernel
theorem dL_errors_196 : decode cL_errors 196 = .ok (.dup, 1) := by decide +kernel
theorem dL_errors_197 : decode cL_errors 197 = .ok (.invokespecial 193, 3) := by decide +kernel
theorem dL_errors_200 : decode cL_errors 200 = .ok (.aload_n 2, 1) := by decide +kernel
theorem dL_errors_201 : decode cL_errors 201 = .ok (.invokevirtual 66, 3) := by decide +kernel
theorem dL_errors_204 : decode cL_errors 204 = .ok (.ldc 214, 2) := by decide +kernel
theorem dL_errors_206 : decode cL_errors 206 = .ok (.invokevirtual 66, 3) := by decide +kernel
theorem dL_errors_209 : decode cL_errors 209 = .ok (.invokevirtual 130, 3) := by decide +kernel
theorem dL_errors_212 : decode cL_errors 212 = .ok (.iconst 3, 1) := by decide +kernel
theorem dL_errors_213 : decode cL_errors 213 = .ok (.bipush 57, 2) := by decide +kernel
theorem dL_errors_215 : decode cL_errors 215 = .ok (.invokestatic 200, 3) := by decide +kernel
theorem dL_errors_218 : decode cL_errors 218 = .ok (.ifCond .eq 148, 3) := by decide +kernel
theorem dL_errors_221 : decode cL_errors 221 = .ok (.aload_n 0, 1) := by decide +kernel
theorem dL_errors_222 : decode cL_errors 222 = .ok (.new 51, 3) := by decide +kernel
theorem dL_errors_225 : decode cL_errors 225 = .ok (.dup, 1) := by decide +kernel
theorem dL_errors_226 : decode cL_errors 226 = .ok (.invokespecial 193, 3) := by decide +kernel
theorem dL_errors_229 : decode cL_errors 229 = .ok (.aload_n 2, 1) := by decide +kernel
theorem dL_errors_230 : decode cL_errors 230 = .ok (.invokevirtual 66, 3) := by decide +kernel
theorem dL_errors_233 : decode cL_errors 233 = .ok (.ldc 216, 2) := by decide +kernel
theorem dL_errors_235 : decode cL_errors 235 = .ok (.invokevirtual 66, 3) := by decide +kernel
theorem dL_errors_238 : decode cL_errors 238 = .ok (.invokevirtual 130, 3) := by decide +kernel
theorem dL_errors_241 : decode cL_errors 241 = .ok (.iconst 2, 1) := by decide +kernel
theorem dL_errors_242 : decode cL_errors 242 = .ok (.bipush 57, 2) := by decide +kernel
theorem dL_errors_244 : decode cL_errors 244 = .ok (.invokestatic 200, 3) := by decide +kernel
theorem dL_errors_247 : decode cL_errors 247 = .ok (.ifCond .eq 119, 3) := by decide +kernel
theorem dL_errors_250 : decode cL_errors 250 = .ok (.aload_n 0, 1) := by decide +kernel
theorem dL_errors_251 : decode cL_errors 251 = .ok (.new 51, 3) := by decide +kernel
theorem dL_errors_254 : decode cL_errors 254 = .ok (.dup, 1) := by decide +kernel
theorem dL_errors_255 : decode cL_errors 255 = .ok (.invokespecial 193, 3) := by decide +kernel
theorem dL_errors_258 : decode cL_errors 258 = .ok (.aload_n 2, 1) := by decide +kernel
theorem dL_errors_259 : decode cL_errors 259 = .ok (.invokevirtual 66, 3) := by decide +kernel
theorem dL_errors_262 : decode cL_errors 262 = .ok (.ldc 218, 2) := by decide +kernel
theorem dL_errors_264 : decode cL_errors 264 = .ok (.invokevirtual 66, 3) := by decide +kernel
theorem dL_errors_267 : decode cL_errors 267 = .ok (.invokevirtual 130, 3) := by decide +kernel
theorem dL_errors_270 : decode cL_errors 270 = .ok (.iconst 4, 1) := by decide +kernel
theorem dL_errors_271 : decode cL_errors 271 = .ok (.bipush 37, 2) := by decide +kernel
theorem dL_errors_273 : decode cL_errors 273 = .ok (.invokestatic 200, 3) := by decide +kernel
theorem dL_errors_276 : decode cL_errors 276 = .ok (.ifCond .eq 90, 3) := by decide +kernel
theorem dL_errors_279 : decode cL_errors 279 = .ok (.aload_n 0, 1) := by decide +kernel
theorem dL_errors_280 : decode cL_errors 280 = .ok (.new 51, 3) := by decide +kernel
theorem dL_errors_283 : decode cL_errors 283 = .ok (.dup, 1) := by decide +kernel
theorem dL_errors_284 : decode cL_errors 284 = .ok (.invokespecial 193, 3) := by decide +kernel
theorem dL_errors_287 : decode cL_errors 287 = .ok (.aload_n 2, 1) := by decide +kernel
theorem dL_errors_288 : decode cL_errors 288 = .ok (.invokevirtual 66, 3) := by decide +kernel
theorem dL_errors_291 : decode cL_errors 291 = .ok (.ldc 220, 2) := by decide +kernel
theorem dL_errors_293 : decode cL_errors 293 = .ok (.invokevirtual 66, 3) := by decide +kernel
theorem dL_errors_296 : decode cL_errors 296 = .ok (.invokevirtual 130, 3) := by decide +kernel
theorem dL_errors_299 : decode cL_errors 299 = .ok (.iconst 3, 1) := by decide +kernel
theorem dL_errors_300 : decode cL_errors 300 = .ok (.bipush 50, 2) := by decide +kernel
theorem dL_errors_302 : decode cL_errors 302 = .ok (.invokestatic 200, 3) := by decide +kernel
theorem dL_errors_305 : decode cL_errors 305 = .ok (.ifCond .eq 61, 3) := by decide +kernel
theorem dL_errors_308 : decode cL_errors 308 = .ok (.aload_n 0, 1) := by decide +kernel
theorem dL_errors_309 : decode cL_errors 309 = .ok (.new 51, 3) := by decide +kernel
theorem dL_errors_312 : decode cL_errors 312 = .ok (.dup, 1) := by decide +kernel
theorem dL_errors_313 : decode cL_errors 313 = .ok (.invokespecial 193, 3) := by decide +kernel
theorem dL_errors_316 : decode cL_errors 316 = .ok (.aload_n 3, 1) := by decide +kernel
theorem dL_errors_317 : decode cL_errors 317 = .ok (.invokevirtual 66, 3) := by decide +kernel
theorem dL_errors_320 : decode cL_errors 320 = .ok (.ldc 222, 2) := by decide +kernel
theorem dL_errors_322 : decode cL_errors 322 = .ok (.invokevirtual 66, 3) := by decide +kernel
theorem dL_errors_325 : decode cL_errors 325 = .ok (.invokevirtual 130, 3) := by decide +kernel
theorem dL_errors_328 : decode cL_errors 328 = .ok (.iconst 3, 1) := by decide +kernel
theorem dL_errors_329 : decode cL_errors 329 = .ok (.bipush 66, 2) := by decide +kernel
theorem dL_errors_331 : decode cL_errors 331 = .ok (.invokestatic 200, 3) := by decide +kernel
theorem dL_errors_334 : decode cL_errors 334 = .ok (.ifCond .eq 32, 3) := by decide +kernel
theorem dL_errors_337 : decode cL_errors 337 = .ok (.aload_n 0, 1) := by decide +kernel
theorem dL_errors_338 : decode cL_errors 338 = .ok (.new 51, 3) := by decide +kernel
theorem dL_errors_341 : decode cL_errors 341 = .ok (.dup, 1) := by decide +kernel
theorem dL_errors_342 : decode cL_errors 342 = .ok (.invokespecial 193, 3) := by decide +kernel
theorem dL_errors_345 : decode cL_errors 345 = .ok (.aload_n 3, 1) := by decide +kernel
theorem dL_errors_346 : decode cL_errors 346 = .ok (.invokevirtual 66, 3) := by decide +kernel
theorem dL_errors_349 : decode cL_errors 349 = .ok (.ldc 224, 2) := by decide +kernel
theorem dL_errors_351 : decode cL_errors 351 = .ok (.invokevirtual 66, 3) := by decide +kernel
theorem dL_errors_354 : decode cL_errors 354 = .ok (.invokevirtual 130, 3) := by decide +kernel
theorem dL_errors_357 : decode cL_errors 357 = .ok (.iconst 3, 1) := by decide +kernel
theorem dL_errors_358 : decode cL_errors 358 = .ok (.bipush 68, 2) := by decide +kernel
theorem dL_errors_360 : decode cL_errors 360 = .ok (.invokestatic 200, 3) := by decide +kernel
theorem dL_errors_363 : decode cL_errors 363 = .ok (.ifCond .ne 5, 3) := by decide +kernel
theorem dL_errors_366 : decode cL_errors 366 = .ok (.iconst 0, 1) := by decide +kernel
theorem dL_errors_367 : decode cL_errors 367 = .ok (.ireturn, 1) := by decide +kernel
theorem dL_errors_368 : decode cL_errors 368 = .ok (.aload_n 0, 1) := by decide +kernel
theorem dL_errors_369 : decode cL_errors 369 = .ok (.new 51, 3) := by decide +kernel
theorem dL_errors_372 : decode cL_errors 372 = .ok (.dup, 1) := by decide +kernel
theorem dL_errors_373 : decode cL_errors 373 = .ok (.invokespecial 193, 3) := by decide +kernel
theorem dL_errors_376 : decode cL_errors 376 = .ok (.aload_n 3, 1) := by decide +kernel
theorem dL_errors_377 : decode cL_errors 377 = .ok (.invokevirtual 66, 3) := by decide +kernel
theorem dL_errors_380 : decode cL_errors 380 = .ok (.ldc 226, 2) := by decide +kernel
theorem dL_errors_382 : decode cL_errors 382 = .ok (.invokevirtual 66, 3) := by decide +kernel
theorem dL_errors_385 : decode cL_errors 385 = .ok (.invokevirtual 130, 3) := by decide +kernel
theorem dL_errors_388 : decode cL_errors 388 = .ok (.iconst 3, 1) := by decide +kernel
theorem dL_errors_389 : decode cL_errors 389 = .ok (.bipush 72, 2) := by decide +kernel
theorem dL_errors_391 : decode cL_errors 391 = .ok (.invokestatic 200, 3) := by decide +kernel
theorem dL_errors_394 : decode cL_errors 394 = .ok (.ifCond .eq 61, 3) := by decide +kernel
theorem dL_errors_397 : decode cL_errors 397 = .ok (.aload_n 0, 1) := by decide +kernel
theorem dL_errors_398 : decode cL_errors 398 = .ok (.new 51, 3) := by decide +kernel
theorem dL_errors_401 : decode cL_errors 401 = .ok (.dup, 1) := by decide +kernel
theorem dL_errors_402 : decode cL_errors 402 = .ok (.invokespecial 193, 3) := by decide +kernel
theorem dL_errors_405 : decode cL_errors 405 = .ok (.aload_n 3, 1) := by decide +kernel
theorem dL_errors_406 : decode cL_errors 406 = .ok (.invokevirtual 66, 3) := by decide +kernel
theorem dL_errors_409 : decode cL_errors 409 = .ok (.ldc 228, 2) := by decide +kernel
theorem dL_errors_411 : decode cL_errors 411 = .ok (.invokevirtual 66, 3) := by decide +kernel
theorem dL_errors_414 : decode cL_errors 414 = .ok (.invokevirtual 130, 3) := by decide +kernel
theorem dL_errors_417 : decode cL_errors 417 = .ok (.iconst 2, 1) := by decide +kernel
theorem dL_errors_418 : decode cL_errors 418 = .ok (.bipush 84, 2) := by decide +kernel
theorem dL_errors_420 : decode cL_errors 420 = .ok (.invokestatic 200, 3) := by decide +kernel
theorem dL_errors_423 : decode cL_errors 423 = .ok (.ifCond .eq 32, 3) := by decide +kernel
theorem dL_errors_426 : decode cL_errors 426 = .ok (.aload_n 0, 1) := by decide +kernel
theorem dL_errors_427 : decode cL_errors 427 = .ok (.new 51, 3) := by decide +kernel
theorem dL_errors_430 : decode cL_errors 430 = .ok (.dup, 1) := by decide +kernel
theorem dL_errors_431 : decode cL_errors 431 = .ok (.invokespecial 193, 3) := by decide +kernel
theorem dL_errors_434 : decode cL_errors 434 = .ok (.aload_n 3, 1) := by decide +kernel
theorem dL_errors_435 : decode cL_errors 435 = .ok (.invokevirtual 66, 3) := by decide +kernel
theorem dL_errors_438 : decode cL_errors 438 = .ok (.ldc 230, 2) := by decide +kernel
theorem dL_errors_440 : decode cL_errors 440 = .ok (.invokevirtual 66, 3) := by decide +kernel
theorem dL_errors_443 : decode cL_errors 443 = .ok (.invokevirtual 130, 3) := by decide +kernel
theorem dL_errors_446 : decode cL_errors 446 = .ok (.iconst 1, 1) := by decide +kernel
theorem dL_errors_447 : decode cL_errors 447 = .ok (.bipush 79, 2) := by decide +kernel
theorem dL_errors_449 : decode cL_errors 449 = .ok (.invokestatic 200, 3) := by decide +kernel
theorem dL_errors_452 : decode cL_errors 452 = .ok (.ifCond .ne 5, 3) := by decide +kernel
theorem dL_errors_455 : decode cL_errors 455 = .ok (.iconst 0, 1) := by decide +kernel
theorem dL_errors_456 : decode cL_errors 456 = .ok (.ireturn, 1) := by decide +kernel
theorem dL_errors_457 : decode cL_errors 457 = .ok (.new 51, 3) := by decide +kernel
theorem dL_errors_460 : decode cL_errors 460 = .ok (.dup, 1) := by decide +kernel
theorem dL_errors_461 : decode cL_errors 461 = .ok (.aload_n 1, 1) := by decide +kernel
theorem dL_errors_462 : decode cL_errors 462 = .ok (.invokespecial 55, 3) := by decide +kernel
theorem dL_errors_465 : decode cL_errors 465 = .ok (.astore 4, 2) := by decide +kernel
theorem dL_errors_467 : decode cL_errors 467 = .ok (.iconst 0, 1) := by decide +kernel
theorem dL_errors_468 : decode cL_errors 468 = .ok (.istore 5, 2) := by decide +kernel
theorem dL_errors_470 : decode cL_errors 470 = .ok (.iload 5, 2) := by decide +kernel
theorem dL_errors_472 : decode cL_errors 472 = .ok (.bipush 9, 2) := by decide +kernel
theorem dL_errors_474 : decode cL_errors 474 = .ok (.if_icmp .ge 31, 3) := by decide +kernel
theorem dL_errors_477 : decode cL_errors 477 = .ok (.aload 4, 2) := by decide +kernel
theorem dL_errors_479 : decode cL_errors 479 = .ok (.ldc 232, 2) := by decide +kernel
theorem dL_errors_481 : decode cL_errors 481 = .ok (.invokevirtual 66, 3) := by decide +kernel
theorem dL_errors_484 : decode cL_errors 484 = .ok (.bipush 97, 2) := by decide +kernel
theorem dL_errors_486 : decode cL_errors 486 = .ok (.iload 5, 2) := by decide +kernel
theorem dL_errors_488 : decode cL_errors 488 = .ok (.iadd, 1) := by decide +kernel
theorem dL_errors_489 : decode cL_errors 489 = .ok (.i2c, 1) := by decide +kernel
theorem dL_errors_490 : decode cL_errors 490 = .ok (.invokevirtual 76, 3) := by decide +kernel
theorem dL_errors_493 : decode cL_errors 493 = .ok (.ldc 234, 2) := by decide +kernel
theorem dL_errors_495 : decode cL_errors 495 = .ok (.invokevirtual 66, 3) := by decide +kernel
theorem dL_errors_498 : decode cL_errors 498 = .ok (.pop, 1) := by decide +kernel
theorem dL_errors_499 : decode cL_errors 499 = .ok (.iinc 5 1, 3) := by decide +kernel
theorem dL_errors_502 : decode cL_errors 502 = .ok (.goto (-32), 3) := by decide +kernel
theorem dL_errors_505 : decode cL_errors 505 = .ok (.aload_n 0, 1) := by decide +kernel
theorem dL_errors_506 : decode cL_errors 506 = .ok (.aload 4, 2) := by decide +kernel
theorem dL_errors_508 : decode cL_errors 508 = .ok (.invokevirtual 130, 3) := by decide +kernel
theorem dL_errors_511 : decode cL_errors 511 = .ok (.iconst 4, 1) := by decide +kernel
theorem dL_errors_512 : decode cL_errors 512 = .ok (.sipush 150, 3) := by decide +kernel
theorem dL_errors_515 : decode cL_errors 515 = .ok (.invokestatic 200, 3) := by decide +kernel
theorem dL_errors_518 : decode cL_errors 518 = .ok (.ifCond .eq 22, 3) := by decide +kernel
theorem dL_errors_521 : decode cL_errors 521 = .ok (.aload_n 0, 1) := by decide +kernel
theorem dL_errors_522 : decode cL_errors 522 = .ok (.iconst 0, 1) := by decide +kernel
theorem dL_errors_523 : decode cL_errors 523 = .ok (.invokevirtual 151, 3) := by decide +kernel
theorem dL_errors_526 : decode cL_errors 526 = .ok (.ifCond .ne 14, 3) := by decide +kernel
theorem dL_errors_529 : decode cL_errors 529 = .ok (.aload_n 0, 1) := by decide +kernel
theorem dL_errors_530 : decode cL_errors 530 = .ok (.invokevirtual 236, 3) := by decide +kernel
theorem dL_errors_533 : decode cL_errors 533 = .ok (.ifCond .ne 7, 3) := by decide +kernel
theorem dL_errors_536 : decode cL_errors 536 = .ok (.iconst 1, 1) := by decide +kernel
theorem dL_errors_537 : decode cL_errors 537 = .ok (.goto 4, 3) := by decide +kernel
theorem dL_errors_540 : decode cL_errors 540 = .ok (.iconst 0, 1) := by decide +kernel
theorem dL_errors_541 : decode cL_errors 541 = .ok (.ireturn, 1) := by decide +kernel
theorem dL_law_0 : decode cL_law 0 = .ok (.new 25, 3) := by decide +kernel
theorem dL_law_3 : decode cL_law 3 = .ok (.dup, 1) := by decide +kernel
theorem dL_law_4 : decode cL_law 4 = .ok (.invokespecial 190, 3) := by decide +kernel
theorem dL_law_7 : decode cL_law 7 = .ok (.astore_n 1, 1) := by decide +kernel
theorem dL_law_8 : decode cL_law 8 = .ok (.aload_n 1, 1) := by decide +kernel
theorem dL_law_9 : decode cL_law 9 = .ok (.aload_n 0, 1) := by decide +kernel
theorem dL_law_10 : decode cL_law 10 = .ok (.invokestatic 239, 3) := by decide +kernel
theorem dL_law_13 : decode cL_law 13 = .ok (.ifCond .eq 9, 3) := by decide +kernel
theorem dL_law_16 : decode cL_law 16 = .ok (.invokestatic 242, 3) := by decide +kernel
theorem dL_law_19 : decode cL_law 19 = .ok (.ifCond .ne 5, 3) := by decide +kernel
theorem dL_law_22 : decode cL_law 22 = .ok (.iconst 0, 1) := by decide +kernel
theorem dL_law_23 : decode cL_law 23 = .ok (.ireturn, 1) := by decide +kernel
theorem dL_law_24 : decode cL_law 24 = .ok (.bipush 6, 2) := by decide +kernel
theorem dL_law_26 : decode cL_law 26 = .ok (.newarray .int, 2) := by decide +kernel
theorem dL_law_28 : decode cL_law 28 = .ok (.dup, 1) := by decide +kernel
theorem dL_law_29 : decode cL_law 29 = .ok (.iconst 0, 1) := by decide +kernel
theorem dL_law_30 : decode cL_law 30 = .ok (.iconst (-1), 1) := by decide +kernel
theorem dL_law_31 : decode cL_law 31 = .ok (.iastore, 1) := by decide +kernel
theorem dL_law_32 : decode cL_law 32 = .ok (.dup, 1) := by decide +kernel
theorem dL_law_33 : decode cL_law 33 = .ok (.iconst 1, 1) := by decide +kernel
theorem dL_law_34 : decode cL_law 34 = .ok (.iconst (-1), 1) := by decide +kernel
theorem dL_law_35 : decode cL_law 35 = .ok (.iastore, 1) := by decide +kernel
theorem dL_law_36 : decode cL_law 36 = .ok (.dup, 1) := by decide +kernel
theorem dL_law_37 : decode cL_law 37 = .ok (.iconst 2, 1) := by decide +kernel
theorem dL_law_38 : decode cL_law 38 = .ok (.iconst (-1), 1) := by decide +kernel
theorem dL_law_39 : decode cL_law 39 = .ok (.iastore, 1) := by decide +kernel
theorem dL_law_40 : decode cL_law 40 = .ok (.dup, 1) := by decide +kernel
theorem dL_law_41 : decode cL_law 41 = .ok (.iconst 3, 1) := by decide +kernel
theorem dL_law_42 : decode cL_law 42 = .ok (.iconst (-1), 1) := by decide +kernel
theorem dL_law_43 : decode cL_law 43 = .ok (.iastore, 1) := by decide +kernel
theorem dL_law_44 : decode cL_law 44 = .ok (.dup, 1) := by decide +kernel
theorem dL_law_45 : decode cL_law 45 = .ok (.iconst 4, 1) := by decide +kernel
theorem dL_law_46 : decode cL_law 46 = .ok (.iconst (-1), 1) := by decide +kernel
theorem dL_law_47 : decode cL_law 47 = .ok (.iastore, 1) := by decide +kernel
theorem dL_law_48 : decode cL_law 48 = .ok (.dup, 1) := by decide +kernel
theorem dL_law_49 : decode cL_law 49 = .ok (.iconst 5, 1) := by decide +kernel
theorem dL_law_50 : decode cL_law 50 = .ok (.iconst (-1), 1) := by decide +kernel
theorem dL_law_51 : decode cL_law 51 = .ok (.iastore, 1) := by decide +kernel
theorem dL_law_52 : decode cL_law 52 = .ok (.astore_n 2, 1) := by decide +kernel
theorem dL_law_53 : decode cL_law 53 = .ok (.iconst 3, 1) := by decide +kernel
theorem dL_law_54 : decode cL_law 54 = .ok (.newarray .int, 2) := by decide +kernel
theorem dL_law_56 : decode cL_law 56 = .ok (.astore_n 3, 1) := by decide +kernel
theorem dL_law_57 : decode cL_law 57 = .ok (.iconst 3, 1) := by decide +kernel
theorem dL_law_58 : decode cL_law 58 = .ok (.newarray .int, 2) := by decide +kernel
theorem dL_law_60 : decode cL_law 60 = .ok (.astore 4, 2) := by decide +kernel
theorem dL_law_62 : decode cL_law 62 = .ok (.iconst 0, 1) := by decide +kernel
theorem dL_law_63 : decode cL_law 63 = .ok (.istore 5, 2) := by decide +kernel
theorem dL_law_65 : decode cL_law 65 = .ok (.iconst 0, 1) := by decide +kernel
theorem dL_law_66 : decode cL_law 66 = .ok (.istore 6, 2) := by decide +kernel
theorem dL_law_68 : decode cL_law 68 = .ok (.iconst 0, 1) := by decide +kernel
theorem dL_law_69 : decode cL_law 69 = .ok (.istore 7, 2) := by decide +kernel
theorem dL_law_71 : decode cL_law 71 = .ok (.iconst 0, 1) := by decide +kernel
theorem dL_law_72 : decode cL_law 72 = .ok (.istore 8, 2) := by decide +kernel
theorem dL_law_74 : decode cL_law 74 = .ok (.iconst 0, 1) := by decide +kernel
theorem dL_law_75 : decode cL_law 75 = .ok (.istore 9, 2) := by decide +kernel
theorem dL_law_77 : decode cL_law 77 = .ok (.iload 9, 2) := by decide +kernel
theorem dL_law_79 : decode cL_law 79 = .ok (.bipush 9, 2) := by decide +kernel
theorem dL_law_81 : decode cL_law 81 = .ok (.if_icmp .ge 448, 3) := by decide +kernel
theorem dL_law_84 : decode cL_law 84 = .ok (.iconst 0, 1) := by decide +kernel
theorem dL_law_85 : decode cL_law 85 = .ok (.istore 10, 2) := by decide +kernel
theorem dL_law_87 : decode cL_law 87 = .ok (.iconst 0, 1) := by decide +kernel
theorem dL_law_88 : decode cL_law 88 = .ok (.istore 11, 2) := by decide +kernel
theorem dL_law_90 : decode cL_law 90 = .ok (.iload 11, 2) := by decide +kernel
theorem dL_law_92 : decode cL_law 92 = .ok (.aload_n 0, 1) := by decide +kernel
theorem dL_law_93 : decode cL_law 93 = .ok (.invokestatic 48, 3) := by decide +kernel
theorem dL_law_96 : decode cL_law 96 = .ok (.if_icmp .ge 53, 3) := by decide +kernel
theorem dL_law_99 : decode cL_law 99 = .ok (.aload_n 0, 1) := by decide +kernel
theorem dL_law_100 : decode cL_law 100 = .ok (.iload 9, 2) := by decide +kernel
theorem dL_law_102 : decode cL_law 102 = .ok (.invokestatic 180, 3) := by decide +kernel
theorem dL_law_105 : decode cL_law 105 = .ok (.iload 11, 2) := by decide +kernel
theorem dL_law_107 : decode cL_law 107 = .ok (.ishr, 1) := by decide +kernel
theorem dL_law_108 : decode cL_law 108 = .ok (.iconst 1, 1) := by decide +kernel
theorem dL_law_109 : decode cL_law 109 = .ok (.iand, 1) := by decide +kernel
theorem dL_law_110 : decode cL_law 110 = .ok (.iconst 1, 1) := by decide +kernel
theorem dL_law_111 : decode cL_law 111 = .ok (.if_icmp .ne 32, 3) := by decide +kernel
theorem dL_law_114 : decode cL_law 114 = .ok (.aload_n 3, 1) := by decide +kernel
theorem dL_law_115 : decode cL_law 115 = .ok (.iload 11, 2) := by decide +kernel
theorem dL_law_117 : decode cL_law 117 = .ok (.iaload, 1) := by decide +kernel
theorem dL_law_118 : decode cL_law 118 = .ok (.aload_n 0, 1) := by decide +kernel
theorem dL_law_119 : decode cL_law 119 = .ok (.iload 9, 2) := by decide +kernel
theorem dL_law_121 : decode cL_law 121 = .ok (.invokestatic 246, 3) := by decide +kernel
theorem dL_law_124 : decode cL_law 124 = .ok (.iadd, 1) := by decide +kernel
theorem dL_law_125 : decode cL_law 125 = .ok (.aload_n 0, 1) := by decide +kernel
theorem dL_law_126 : decode cL_law 126 = .ok (.iload 11, 2) := by decide +kernel
theorem dL_law_128 : decode cL_law 128 = .ok (.invokestatic 106, 3) := by decide +kernel
theorem dL_law_131 : decode cL_law 131 = .ok (.if_icmp .le 12, 3) := by decide +kernel
theorem dL_law_134 : decode cL_law 134 = .ok (.iload 10, 2) := by decide +kernel
theorem dL_law_136 : decode cL_law 136 = .ok (.iconst 1, 1) := by decide +kernel
theorem dL_law_137 : decode cL_law 137 = .ok (.iload 11, 2) := by decide +kernel
theorem dL_law_139 : decode cL_law 139 = .ok (.ishl, 1) := by decide +kernel
theorem dL_law_140 : decode cL_law 140 = .ok (.ior, 1) := by decide +kernel
theorem dL_law_141 : decode cL_law 141 = .ok (.istore 10, 2) := by decide +kernel
theorem dL_law_143 : decode cL_law 143 = .ok (.iinc 11 1, 3) := by decide +kernel
theorem dL_law_146 : decode cL_law 146 = .ok (.goto (-56), 3) := by decide +kernel
theorem dL_law_149 : decode cL_law 149 = .ok (.aload_n 1, 1) := by decide +kernel
theorem dL_law_150 : decode cL_law 150 = .ok (.aload_n 0, 1) := by decide +kernel
theorem dL_law_151 : decode cL_law 151 = .ok (.iload 9, 2) := by decide +kernel
theorem dL_law_153 : decode cL_law 153 = .ok (.invokestatic 249, 3) := by decide +kernel
theorem dL_law_156 : decode cL_law 156 = .ok (.istore 11, 2) := by decide +kernel
theorem dL_law_158 : decode cL_law 158 = .ok (.aload_n 1, 1) := by decide +kernel
theorem dL_law_159 : decode cL_law 159 = .ok (.invokevirtual 252, 3) := by decide +kernel
theorem dL_law_162 : decode cL_law 162 = .ok (.iload 10, 2) := by decide +kernel
theorem dL_law_164 : decode cL_law 164 = .ok (.if_icmp .ne 26, 3) := by decide +kernel
theorem dL_law_167 : decode cL_law 167 = .ok (.iload 11, 2) := by decide +kernel
theorem dL_law_169 : decode cL_law 169 = .ok (.iload 10, 2) := by decide +kernel
theorem dL_law_171 : decode cL_law 171 = .ok (.aload_n 0, 1) := by decide +kernel
theorem dL_law_172 : decode cL_law 172 = .ok (.iload 9, 2) := by decide +kernel
theorem dL_law_174 : decode cL_law 174 = .ok (.invokestatic 180, 3) := by decide +kernel
theorem dL_law_177 : decode cL_law 177 = .ok (.if_icmp .ne 8, 3) := by decide +kernel
theorem dL_law_180 : decode cL_law 180 = .ok (.bipush (-2), 2) := by decide +kernel
theorem dL_law_182 : decode cL_law 182 = .ok (.goto 5, 3) := by decide +kernel
theorem dL_law_185 : decode cL_law 185 = .ok (.iload 7, 2) := by decide +kernel
theorem dL_law_187 : decode cL_law 187 = .ok (.if_icmp .eq 5, 3) := by decide +kernel
theorem dL_law_190 : decode cL_law 190 = .ok (.iconst 0, 1) := by decide +kernel
theorem dL_law_191 : decode cL_law 191 = .ok (.ireturn, 1) := by decide +kernel
theorem dL_law_192 : decode cL_law 192 = .ok (.iload 8, 2) := by decide +kernel
theorem dL_law_194 : decode cL_law 194 = .ok (.iload 10, 2) := by decide +kernel
theorem dL_law_196 : decode cL_law 196 = .ok (.invokestatic 255, 3) := by decide +kernel
theorem dL_law_199 : decode cL_law 199 = .ok (.iload 11, 2) := by decide +kernel
theorem dL_law_201 : decode cL_law 201 = .ok (.ifCond .ge 7, 3) := by decide +kernel
theorem dL_law_204 : decode cL_law 204 = .ok (.iconst 0, 1) := by decide +kernel
theorem dL_law_205 : decode cL_law 205 = .ok (.goto 4, 3) := by decide +kernel
theorem dL_law_208 : decode cL_law 208 = .ok (.iconst 1, 1) := by decide +kernel
theorem dL_law_209 : decode cL_law 209 = .ok (.iadd, 1) := by decide +kernel
theorem dL_law_210 : decode cL_law 210 = .ok (.iadd, 1) := by decide +kernel
theorem dL_law_211 : decode cL_law 211 = .ok (.istore 8, 2) := by decide +kernel
theorem dL_law_213 : decode cL_law 213 = .ok (.iload 11, 2) := by decide +kernel
theorem dL_law_215 : decode cL_law 215 = .ok (.ifCond .ge 6, 3) := by decide +kernel
theorem dL_law_218 : decode cL_law 218 = .ok (.goto 305, 3) := by decide +kernel
theorem dL_law_221 : decode cL_law 221 = .ok (.iconst 0, 1) := by decide +kernel
theorem dL_law_222 : decode cL_law 222 = .ok (.istore 12, 2) := by decide +kernel
theorem dL_law_224 : decode cL_law 224 = .ok (.iload 12, 2) := by decide +kernel
theorem dL_law_226 : decode cL_law 226 = .ok (.aload_n 0, 1) := by decide +kernel
theorem dL_law_227 : decode cL_law 227 = .ok (.iload 9, 2) := by decide +kernel
theorem dL_law_229 : decode cL_law 229 = .ok (.invokestatic 170, 3) := by decide +kernel
theorem dL_law_232 : decode cL_law 232 = .ok (.if_icmp .ge 65, 3) := by decide +kernel
theorem dL_law_235 : decode cL_law 235 = .ok (.aload_n 0, 1) := by decide +kernel
theorem dL_law_236 : decode cL_law 236 = .ok (.iload 9, 2) := by decide +kernel
theorem dL_law_238 : decode cL_law 238 = .ok (.iload 12, 2) := by decide +kernel
theorem dL_law_240 : decode cL_law 240 = .ok (.invokestatic 173, 3) := by decide +kernel
theorem dL_law_243 : decode cL_law 243 = .ok (.istore 13, 2) := by decide +kernel
theorem dL_law_245 : decode cL_law 245 = .ok (.aload_n 2, 1) := by decide +kernel
theorem dL_law_246 : decode cL_law 246 = .ok (.iload 13, 2) := by decide +kernel
theorem dL_law_248 : decode cL_law 248 = .ok (.iaload, 1) := by decide +kernel
theorem dL_law_249 : decode cL_law 249 = .ok (.ifCond .ge 25, 3) := by decide +kernel
theorem dL_law_252 : decode cL_law 252 = .ok (.aload_n 2, 1) := by decide +kernel
theorem dL_law_253 : decode cL_law 253 = .ok (.iload 13, 2) := by decide +kernel
theorem dL_law_255 : decode cL_law 255 = .ok (.iload 5, 2) := by decide +kernel
theorem dL_law_257 : decode cL_law 257 = .ok (.iastore, 1) := by decide +kernel
theorem dL_law_258 : decode cL_law 258 = .ok (.iinc 5 1, 3) := by decide +kernel
theorem dL_law_261 : decode cL_law 261 = .ok (.iload 6, 2) := by decide +kernel
theorem dL_law_263 : decode cL_law 263 = .ok (.iload 13, 2) := by decide +kernel
theorem dL_law_265 : decode cL_law 265 = .ok (.invokestatic 176, 3) := by decide +kernel
theorem dL_law_268 : decode cL_law 268 = .ok (.invokevirtual 8, 3) := by decide +kernel
theorem dL_law_271 : decode cL_law 271 = .ok (.iadd, 1) := by decide +kernel
theorem dL_law_272 : decode cL_law 272 = .ok (.istore 6, 2) := by decide +kernel
theorem dL_law_274 : decode cL_law 274 = .ok (.aload_n 1, 1) := by decide +kernel
theorem dL_law_275 : decode cL_law 275 = .ok (.iload 11, 2) := by decide +kernel
theorem dL_law_277 : decode cL_law 277 = .ok (.iload 12, 2) := by decide +kernel
theorem dL_law_279 : decode cL_law 279 = .ok (.invokevirtual 260, 3) := by decide +kernel
theorem dL_law_282 : decode cL_law 282 = .ok (.aload_n 2, 1) := by decide +kernel
theorem dL_law_283 : decode cL_law 283 = .ok (.iload 13, 2) := by decide +kernel
theorem dL_law_285 : decode cL_law 285 = .ok (.iaload, 1) := by decide +kernel
theorem dL_law_286 : decode cL_law 286 = .ok (.if_icmp .eq 5, 3) := by decide +kernel
theorem dL_law_289 : decode cL_law 289 = .ok (.iconst 0, 1) := by decide +kernel
theorem dL_law_290 : decode cL_law 290 = .ok (.ireturn, 1) := by decide +kernel
theorem dL_law_291 : decode cL_law 291 = .ok (.iinc 12 1, 3) := by decide +kernel
theorem dL_law_294 : decode cL_law 294 = .ok (.goto (-70), 3) := by decide +kernel
theorem dL_law_297 : decode cL_law 297 = .ok (.iconst 0, 1) := by decide +kernel
theorem dL_law_298 : decode cL_law 298 = .ok (.istore 12, 2) := by decide +kernel
theorem dL_law_300 : decode cL_law 300 = .ok (.iload 12, 2) := by decide +kernel
theorem dL_law_302 : decode cL_law 302 = .ok (.aload_n 0, 1) := by decide +kernel
theorem dL_law_303 : decode cL_law 303 = .ok (.invokestatic 48, 3) := by decide +kernel
theorem dL_law_306 : decode cL_law 306 = .ok (.if_icmp .ge 149, 3) := by decide +kernel
theorem dL_law_309 : decode cL_law 309 = .ok (.aload_n 0, 1) := by decide +kernel
theorem dL_law_310 : decode cL_law 310 = .ok (.iload 9, 2) := by decide +kernel
theorem dL_law_312 : decode cL_law 312 = .ok (.invokestatic 180, 3) := by decide +kernel
theorem dL_law_315 : decode cL_law 315 = .ok (.iload 10, 2) := by decide +kernel
theorem dL_law_317 : decode cL_law 317 = .ok (.iconst (-1), 1) := by decide +kernel
theorem dL_law_318 : decode cL_law 318 = .ok (.ixor, 1) := by decide +kernel
theorem dL_law_319 : decode cL_law 319 = .ok (.iand, 1) := by decide +kernel
theorem dL_law_320 : decode cL_law 320 = .ok (.iload 12, 2) := by decide +kernel
theorem dL_law_322 : decode cL_law 322 = .ok (.ishr, 1) := by decide +kernel
theorem dL_law_323 : decode cL_law 323 = .ok (.iconst 1, 1) := by decide +kernel
theorem dL_law_324 : decode cL_law 324 = .ok (.iand, 1) := by decide +kernel
theorem dL_law_325 : decode cL_law 325 = .ok (.iconst 1, 1) := by decide +kernel
theorem dL_law_326 : decode cL_law 326 = .ok (.if_icmp .ne 7, 3) := by decide +kernel
theorem dL_law_329 : decode cL_law 329 = .ok (.iconst 1, 1) := by decide +kernel
theorem dL_law_330 : decode cL_law 330 = .ok (.goto 4, 3) := by decide +kernel
theorem dL_law_333 : decode cL_law 333 = .ok (.iconst 0, 1) := by decide +kernel
theorem dL_law_334 : decode cL_law 334 = .ok (.istore 13, 2) := by decide +kernel
theorem dL_law_336 : decode cL_law 336 = .ok (.aload_n 3, 1) := by decide +kernel
theorem dL_law_337 : decode cL_law 337 = .ok (.iload 12, 2) := by decide +kernel
theorem dL_law_339 : decode cL_law 339 = .ok (.dup2, 1) := by decide +kernel
theorem dL_law_340 : decode cL_law 340 = .ok (.iaload, 1) := by decide +kernel
theorem dL_law_341 : decode cL_law 341 = .ok (.iload 13, 2) := by decide +kernel
theorem dL_law_343 : decode cL_law 343 = .ok (.ifCond .eq 12, 3) := by decide +kernel
theorem dL_law_346 : decode cL_law 346 = .ok (.aload_n 0, 1) := by decide +kernel
theorem dL_law_347 : decode cL_law 347 = .ok (.iload 9, 2) := by decide +kernel
theorem dL_law_349 : decode cL_law 349 = .ok (.invokestatic 246, 3) := by decide +kernel
theorem dL_law_352 : decode cL_law 352 = .ok (.goto 4, 3) := by decide +kernel
theorem dL_law_355 : decode cL_law 355 = .ok (.iconst 0, 1) := by decide +kernel
theorem dL_law_356 : decode cL_law 356 = .ok (.iadd, 1) := by decide +kernel
theorem dL_law_357 : decode cL_law 357 = .ok (.iastore, 1) := by decide +kernel
theorem dL_law_358 : decode cL_law 358 = .ok (.aload 4, 2) := by decide +kernel
theorem dL_law_360 : decode cL_law 360 = .ok (.iload 12, 2) := by decide +kernel
theorem dL_law_362 : decode cL_law 362 = .ok (.dup2, 1) := by decide +kernel
theorem dL_law_363 : decode cL_law 363 = .ok (.iaload, 1) := by decide +kernel
theorem dL_law_364 : decode cL_law 364 = .ok (.iload 13, 2) := by decide +kernel
theorem dL_law_366 : decode cL_law 366 = .ok (.ifCond .eq 16, 3) := by decide +kernel
theorem dL_law_369 : decode cL_law 369 = .ok (.aload_n 0, 1) := by decide +kernel
theorem dL_law_370 : decode cL_law 370 = .ok (.iload 9, 2) := by decide +kernel
theorem dL_law_372 : decode cL_law 372 = .ok (.invokestatic 263, 3) := by decide +kernel
theorem dL_law_375 : decode cL_law 375 = .ok (.ifCond .eq 7, 3) := by decide +kernel
theorem dL_law_378 : decode cL_law 378 = .ok (.iconst 1, 1) := by decide +kernel
theorem dL_law_379 : decode cL_law 379 = .ok (.goto 4, 3) := by decide +kernel
theorem dL_law_382 : decode cL_law 382 = .ok (.iconst 0, 1) := by decide +kernel
theorem dL_law_383 : decode cL_law 383 = .ok (.iadd, 1) := by decide +kernel
theorem dL_law_384 : decode cL_law 384 = .ok (.iastore, 1) := by decide +kernel
theorem dL_law_385 : decode cL_law 385 = .ok (.iload 13, 2) := by decide +kernel
theorem dL_law_387 : decode cL_law 387 = .ok (.ifCond .eq 62, 3) := by decide +kernel
theorem dL_law_390 : decode cL_law 390 = .ok (.aload_n 1, 1) := by decide +kernel
theorem dL_law_391 : decode cL_law 391 = .ok (.iload 11, 2) := by decide +kernel
theorem dL_law_393 : decode cL_law 393 = .ok (.iload 12, 2) := by decide +kernel
theorem dL_law_395 : decode cL_law 395 = .ok (.invokevirtual 266, 3) := by decide +kernel
theorem dL_law_398 : decode cL_law 398 = .ok (.ifCond .ne 49, 3) := by decide +kernel
theorem dL_law_401 : decode cL_law 401 = .ok (.aload_n 1, 1) := by decide +kernel
theorem dL_law_402 : decode cL_law 402 = .ok (.iload 11, 2) := by decide +kernel
theorem dL_law_404 : decode cL_law 404 = .ok (.iload 12, 2) := by decide +kernel
theorem dL_law_406 : decode cL_law 406 = .ok (.invokevirtual 269, 3) := by decide +kernel
theorem dL_law_409 : decode cL_law 409 = .ok (.aload_n 0, 1) := by decide +kernel
theorem dL_law_410 : decode cL_law 410 = .ok (.iload 9, 2) := by decide +kernel
theorem dL_law_412 : decode cL_law 412 = .ok (.invokestatic 183, 3) := by decide +kernel
theorem dL_law_415 : decode cL_law 415 = .ok (.ifCond .ge 12, 3) := by decide +kernel
theorem dL_law_418 : decode cL_law 418 = .ok (.aload_n 0, 1) := by decide +kernel
theorem dL_law_419 : decode cL_law 419 = .ok (.iload 12, 2) := by decide +kernel
theorem dL_law_421 : decode cL_law 421 = .ok (.invokestatic 101, 3) := by decide +kernel
theorem dL_law_424 : decode cL_law 424 = .ok (.goto 9, 3) := by decide +kernel
theorem dL_law_427 : decode cL_law 427 = .ok (.aload_n 0, 1) := by decide +kernel
theorem dL_law_428 : decode cL_law 428 = .ok (.iload 9, 2) := by decide +kernel
theorem dL_law_430 : decode cL_law 430 = .ok (.invokestatic 183, 3) := by decide +kernel
theorem dL_law_433 : decode cL_law 433 = .ok (.if_icmp .ne 14, 3) := by decide +kernel
theorem dL_law_436 : decode cL_law 436 = .ok (.aload_n 1, 1) := by decide +kernel
theorem dL_law_437 : decode cL_law 437 = .ok (.iload 11, 2) := by decide +kernel
theorem dL_law_439 : decode cL_law 439 = .ok (.iload 12, 2) := by decide +kernel
theorem dL_law_441 : decode cL_law 441 = .ok (.invokevirtual 271, 3) := by decide +kernel
theorem dL_law_444 : decode cL_law 444 = .ok (.ifCond .eq 5, 3) := by decide +kernel
theorem dL_law_447 : decode cL_law 447 = .ok (.iconst 0, 1) := by decide +kernel
theorem dL_law_448 : decode cL_law 448 = .ok (.ireturn, 1) := by decide +kernel
theorem dL_law_449 : decode cL_law 449 = .ok (.iinc 12 1, 3) := by decide +kernel
theorem dL_law_452 : decode cL_law 452 = .ok (.goto (-152), 3) := by decide +kernel
theorem dL_law_455 : decode cL_law 455 = .ok (.aload_n 1, 1) := by decide +kernel
theorem dL_law_456 : decode cL_law 456 = .ok (.iload 11, 2) := by decide +kernel
theorem dL_law_458 : decode cL_law 458 = .ok (.invokevirtual 274, 3) := by decide +kernel
theorem dL_law_461 : decode cL_law 461 = .ok (.aload_n 0, 1) := by decide +kernel
theorem dL_law_462 : decode cL_law 462 = .ok (.iload 9, 2) := by decide +kernel
theorem dL_law_464 : decode cL_law 464 = .ok (.invokestatic 180, 3) := by decide +kernel
theorem dL_law_467 : decode cL_law 467 = .ok (.iload 10, 2) := by decide +kernel
theorem dL_law_469 : decode cL_law 469 = .ok (.iconst (-1), 1) := by decide +kernel
theorem dL_law_470 : decode cL_law 470 = .ok (.ixor, 1) := by decide +kernel
theorem dL_law_471 : decode cL_law 471 = .ok (.iand, 1) := by decide +kernel
theorem dL_law_472 : decode cL_law 472 = .ok (.if_icmp .ne 46, 3) := by decide +kernel
theorem dL_law_475 : decode cL_law 475 = .ok (.aload_n 1, 1) := by decide +kernel
theorem dL_law_476 : decode cL_law 476 = .ok (.iload 11, 2) := by decide +kernel
theorem dL_law_478 : decode cL_law 478 = .ok (.iconst 3, 1) := by decide +kernel
theorem dL_law_479 : decode cL_law 479 = .ok (.invokevirtual 277, 3) := by decide +kernel
theorem dL_law_482 : decode cL_law 482 = .ok (.aload_n 0, 1) := by decide +kernel
theorem dL_law_483 : decode cL_law 483 = .ok (.iload 9, 2) := by decide +kernel
theorem dL_law_485 : decode cL_law 485 = .ok (.invokestatic 246, 3) := by decide +kernel
theorem dL_law_488 : decode cL_law 488 = .ok (.if_icmp .ne 30, 3) := by decide +kernel
theorem dL_law_491 : decode cL_law 491 = .ok (.aload_n 1, 1) := by decide +kernel
theorem dL_law_492 : decode cL_law 492 = .ok (.iload 11, 2) := by decide +kernel
theorem dL_law_494 : decode cL_law 494 = .ok (.iconst 2, 1) := by decide +kernel
theorem dL_law_495 : decode cL_law 495 = .ok (.invokevirtual 277, 3) := by decide +kernel
theorem dL_law_498 : decode cL_law 498 = .ok (.aload_n 0, 1) := by decide +kernel
theorem dL_law_499 : decode cL_law 499 = .ok (.iload 9, 2) := by decide +kernel
theorem dL_law_501 : decode cL_law 501 = .ok (.invokestatic 170, 3) := by decide +kernel
theorem dL_law_504 : decode cL_law 504 = .ok (.if_icmp .ne 14, 3) := by decide +kernel
theorem dL_law_507 : decode cL_law 507 = .ok (.aload_n 1, 1) := by decide +kernel
theorem dL_law_508 : decode cL_law 508 = .ok (.iload 11, 2) := by decide +kernel
theorem dL_law_510 : decode cL_law 510 = .ok (.iconst 4, 1) := by decide +kernel
theorem dL_law_511 : decode cL_law 511 = .ok (.invokevirtual 277, 3) := by decide +kernel
theorem dL_law_514 : decode cL_law 514 = .ok (.iconst 1, 1) := by decide +kernel
theorem dL_law_515 : decode cL_law 515 = .ok (.if_icmp .eq 5, 3) := by decide +kernel
theorem dL_law_518 : decode cL_law 518 = .ok (.iconst 0, 1) := by decide +kernel
theorem dL_law_519 : decode cL_law 519 = .ok (.ireturn, 1) := by decide +kernel
theorem dL_law_520 : decode cL_law 520 = .ok (.iinc 7 1, 3) := by decide +kernel
theorem dL_law_523 : decode cL_law 523 = .ok (.iinc 9 1, 3) := by decide +kernel
theorem dL_law_526 : decode cL_law 526 = .ok (.goto (-449), 3) := by decide +kernel
theorem dL_law_529 : decode cL_law 529 = .ok (.aload_n 1, 1) := by decide +kernel
theorem dL_law_530 : decode cL_law 530 = .ok (.invokevirtual 280, 3) := by decide +kernel
theorem dL_law_533 : decode cL_law 533 = .ok (.iload 5, 2) := by decide +kernel
theorem dL_law_535 : decode cL_law 535 = .ok (.if_icmp .ne 37, 3) := by decide +kernel
theorem dL_law_538 : decode cL_law 538 = .ok (.aload_n 1, 1) := by decide +kernel
theorem dL_law_539 : decode cL_law 539 = .ok (.invokevirtual 283, 3) := by decide +kernel
theorem dL_law_542 : decode cL_law 542 = .ok (.iload 6, 2) := by decide +kernel
theorem dL_law_544 : decode cL_law 544 = .ok (.if_icmp .ne 28, 3) := by decide +kernel
theorem dL_law_547 : decode cL_law 547 = .ok (.aload_n 1, 1) := by decide +kernel
theorem dL_law_548 : decode cL_law 548 = .ok (.invokevirtual 286, 3) := by decide +kernel
theorem dL_law_551 : decode cL_law 551 = .ok (.ifCond .ne 21, 3) := by decide +kernel
theorem dL_law_554 : decode cL_law 554 = .ok (.aload_n 1, 1) := by decide +kernel
theorem dL_law_555 : decode cL_law 555 = .ok (.invokevirtual 289, 3) := by decide +kernel
theorem dL_law_558 : decode cL_law 558 = .ok (.iload 7, 2) := by decide +kernel
theorem dL_law_560 : decode cL_law 560 = .ok (.if_icmp .ne 12, 3) := by decide +kernel
theorem dL_law_563 : decode cL_law 563 = .ok (.aload_n 1, 1) := by decide +kernel
theorem dL_law_564 : decode cL_law 564 = .ok (.invokevirtual 292, 3) := by decide +kernel
theorem dL_law_567 : decode cL_law 567 = .ok (.iload 8, 2) := by decide +kernel
theorem dL_law_569 : decode cL_law 569 = .ok (.if_icmp .eq 5, 3) := by decide +kernel
theorem dL_law_572 : decode cL_law 572 = .ok (.iconst 0, 1) := by decide +kernel
theorem dL_law_573 : decode cL_law 573 = .ok (.ireturn, 1) := by decide +kernel
theorem dL_law_574 : decode cL_law 574 = .ok (.iconst 0, 1) := by decide +kernel
theorem dL_law_575 : decode cL_law 575 = .ok (.istore 9, 2) := by decide +kernel
theorem dL_law_577 : decode cL_law 577 = .ok (.iload 9, 2) := by decide +kernel
theorem dL_law_579 : decode cL_law 579 = .ok (.bipush 6, 2) := by decide +kernel
theorem dL_law_581 : decode cL_law 581 = .ok (.if_icmp .ge 115, 3) := by decide +kernel
theorem dL_law_584 : decode cL_law 584 = .ok (.aload_n 2, 1) := by decide +kernel
theorem dL_law_585 : decode cL_law 585 = .ok (.iload 9, 2) := by decide +kernel
theorem dL_law_587 : decode cL_law 587 = .ok (.iaload, 1) := by decide +kernel
theorem dL_law_588 : decode cL_law 588 = .ok (.ifCond .ge 6, 3) := by decide +kernel
theorem dL_law_591 : decode cL_law 591 = .ok (.goto 99, 3) := by decide +kernel
theorem dL_law_594 : decode cL_law 594 = .ok (.ldc2_w 295, 3) := by decide +kernel
theorem dL_law_597 : decode cL_law 597 = .ok (.lstore 10, 2) := by decide +kernel
theorem dL_law_599 : decode cL_law 599 = .ok (.iconst 0, 1) := by decide +kernel
theorem dL_law_600 : decode cL_law 600 = .ok (.istore 12, 2) := by decide +kernel
theorem dL_law_602 : decode cL_law 602 = .ok (.iload 12, 2) := by decide +kernel
theorem dL_law_604 : decode cL_law 604 = .ok (.iload 9, 2) := by decide +kernel
theorem dL_law_606 : decode cL_law 606 = .ok (.invokestatic 176, 3) := by decide +kernel
theorem dL_law_609 : decode cL_law 609 = .ok (.invokevirtual 8, 3) := by decide +kernel
theorem dL_law_612 : decode cL_law 612 = .ok (.if_icmp .ge 29, 3) := by decide +kernel
theorem dL_law_615 : decode cL_law 615 = .ok (.lload 10, 2) := by decide +kernel
theorem dL_law_617 : decode cL_law 617 = .ok (.iload 9, 2) := by decide +kernel
theorem dL_law_619 : decode cL_law 619 = .ok (.invokestatic 176, 3) := by decide +kernel
theorem dL_law_622 : decode cL_law 622 = .ok (.iload 12, 2) := by decide +kernel
theorem dL_law_624 : decode cL_law 624 = .ok (.invokevirtual 14, 3) := by decide +kernel
theorem dL_law_627 : decode cL_law 627 = .ok (.i2l, 1) := by decide +kernel
theorem dL_law_628 : decode cL_law 628 = .ok (.lxor, 1) := by decide +kernel
theorem dL_law_629 : decode cL_law 629 = .ok (.ldc2_w 297, 3) := by decide +kernel
theorem dL_law_632 : decode cL_law 632 = .ok (.lmul, 1) := by decide +kernel
theorem dL_law_633 : decode cL_law 633 = .ok (.lstore 10, 2) := by decide +kernel
theorem dL_law_635 : decode cL_law 635 = .ok (.iinc 12 1, 3) := by decide +kernel
theorem dL_law_638 : decode cL_law 638 = .ok (.goto (-36), 3) := by decide +kernel
theorem dL_law_641 : decode cL_law 641 = .ok (.aload_n 1, 1) := by decide +kernel
theorem dL_law_642 : decode cL_law 642 = .ok (.aload_n 2, 1) := by decide +kernel
theorem dL_law_643 : decode cL_law 643 = .ok (.iload 9, 2) := by decide +kernel
theorem dL_law_645 : decode cL_law 645 = .ok (.iaload, 1) := by decide +kernel
theorem dL_law_646 : decode cL_law 646 = .ok (.invokevirtual 299, 3) := by decide +kernel
theorem dL_law_649 : decode cL_law 649 = .ok (.lload 10, 2) := by decide +kernel
theorem dL_law_651 : decode cL_law 651 = .ok (.lcmp, 1) := by decide +kernel
theorem dL_law_652 : decode cL_law 652 = .ok (.ifCond .ne 36, 3) := by decide +kernel
theorem dL_law_655 : decode cL_law 655 = .ok (.aload_n 1, 1) := by decide +kernel
theorem dL_law_656 : decode cL_law 656 = .ok (.aload_n 2, 1) := by decide +kernel
theorem dL_law_657 : decode cL_law 657 = .ok (.iload 9, 2) := by decide +kernel
theorem dL_law_659 : decode cL_law 659 = .ok (.iaload, 1) := by decide +kernel
theorem dL_law_660 : decode cL_law 660 = .ok (.iconst 0, 1) := by decide +kernel
theorem dL_law_661 : decode cL_law 661 = .ok (.invokevirtual 303, 3) := by decide +kernel
theorem dL_law_664 : decode cL_law 664 = .ok (.iload 9, 2) := by decide +kernel
theorem dL_law_666 : decode cL_law 666 = .ok (.invokestatic 176, 3) := by decide +kernel
theorem dL_law_669 : decode cL_law 669 = .ok (.invokevirtual 8, 3) := by decide +kernel
theorem dL_law_672 : decode cL_law 672 = .ok (.if_icmp .ne 16, 3) := by decide +kernel
theorem dL_law_675 : decode cL_law 675 = .ok (.aload_n 1, 1) := by decide +kernel
theorem dL_law_676 : decode cL_law 676 = .ok (.aload_n 2, 1) := by decide +kernel
theorem dL_law_677 : decode cL_law 677 = .ok (.iload 9, 2) := by decide +kernel
theorem dL_law_679 : decode cL_law 679 = .ok (.iaload, 1) := by decide +kernel
theorem dL_law_680 : decode cL_law 680 = .ok (.iconst 2, 1) := by decide +kernel
theorem dL_law_681 : decode cL_law 681 = .ok (.invokevirtual 303, 3) := by decide +kernel
theorem dL_law_684 : decode cL_law 684 = .ok (.iconst (-1), 1) := by decide +kernel
theorem dL_law_685 : decode cL_law 685 = .ok (.if_icmp .eq 5, 3) := by decide +kernel
theorem dL_law_688 : decode cL_law 688 = .ok (.iconst 0, 1) := by decide +kernel
theorem dL_law_689 : decode cL_law 689 = .ok (.ireturn, 1) := by decide +kernel
theorem dL_law_690 : decode cL_law 690 = .ok (.iinc 9 1, 3) := by decide +kernel
theorem dL_law_693 : decode cL_law 693 = .ok (.goto (-116), 3) := by decide +kernel
theorem dL_law_696 : decode cL_law 696 = .ok (.dconst 0, 1) := by decide +kernel
theorem dL_law_697 : decode cL_law 697 = .ok (.dstore 9, 2) := by decide +kernel
theorem dL_law_699 : decode cL_law 699 = .ok (.iconst 0, 1) := by decide +kernel
theorem dL_law_700 : decode cL_law 700 = .ok (.istore 11, 2) := by decide +kernel
theorem dL_law_702 : decode cL_law 702 = .ok (.iconst 0, 1) := by decide +kernel
theorem dL_law_703 : decode cL_law 703 = .ok (.istore 12, 2) := by decide +kernel
theorem dL_law_705 : decode cL_law 705 = .ok (.iload 12, 2) := by decide +kernel
theorem dL_law_707 : decode cL_law 707 = .ok (.aload_n 0, 1) := by decide +kernel
theorem dL_law_708 : decode cL_law 708 = .ok (.invokestatic 48, 3) := by decide +kernel
theorem dL_law_711 : decode cL_law 711 = .ok (.if_icmp .ge 79, 3) := by decide +kernel
theorem dL_law_714 : decode cL_law 714 = .ok (.aload_n 1, 1) := by decide +kernel
theorem dL_law_715 : decode cL_law 715 = .ok (.ldc 158, 2) := by decide +kernel
theorem dL_law_717 : decode cL_law 717 = .ok (.invokestatic 138, 3) := by decide +kernel
theorem dL_law_720 : decode cL_law 720 = .ok (.aload_n 1, 1) := by decide +kernel
theorem dL_law_721 : decode cL_law 721 = .ok (.iload 12, 2) := by decide +kernel
theorem dL_law_723 : decode cL_law 723 = .ok (.invokevirtual 305, 3) := by decide +kernel
theorem dL_law_726 : decode cL_law 726 = .ok (.aload_n 3, 1) := by decide +kernel
theorem dL_law_727 : decode cL_law 727 = .ok (.iload 12, 2) := by decide +kernel
theorem dL_law_729 : decode cL_law 729 = .ok (.iaload, 1) := by decide +kernel
theorem dL_law_730 : decode cL_law 730 = .ok (.if_icmp .ne 32, 3) := by decide +kernel
theorem dL_law_733 : decode cL_law 733 = .ok (.aload_n 1, 1) := by decide +kernel
theorem dL_law_734 : decode cL_law 734 = .ok (.iload 12, 2) := by decide +kernel
theorem dL_law_736 : decode cL_law 736 = .ok (.invokevirtual 308, 3) := by decide +kernel
theorem dL_law_739 : decode cL_law 739 = .ok (.aload 4, 2) := by decide +kernel
theorem dL_law_741 : decode cL_law 741 = .ok (.iload 12, 2) := by decide +kernel
theorem dL_law_743 : decode cL_law 743 = .ok (.iaload, 1) := by decide +kernel
theorem dL_law_744 : decode cL_law 744 = .ok (.if_icmp .ne 18, 3) := by decide +kernel
theorem dL_law_747 : decode cL_law 747 = .ok (.aload_n 1, 1) := by decide +kernel
theorem dL_law_748 : decode cL_law 748 = .ok (.iload 12, 2) := by decide +kernel
theorem dL_law_750 : decode cL_law 750 = .ok (.iload 12, 2) := by decide +kernel
theorem dL_law_752 : decode cL_law 752 = .ok (.invokevirtual 311, 3) := by decide +kernel
theorem dL_law_755 : decode cL_law 755 = .ok (.aload_n 3, 1) := by decide +kernel
theorem dL_law_756 : decode cL_law 756 = .ok (.iload 12, 2) := by decide +kernel
theorem dL_law_758 : decode cL_law 758 = .ok (.iaload, 1) := by decide +kernel
theorem dL_law_759 : decode cL_law 759 = .ok (.if_icmp .le 5, 3) := by decide +kernel
theorem dL_law_762 : decode cL_law 762 = .ok (.iconst 0, 1) := by decide +kernel
theorem dL_law_763 : decode cL_law 763 = .ok (.ireturn, 1) := by decide +kernel
theorem dL_law_764 : decode cL_law 764 = .ok (.dload 9, 2) := by decide +kernel
theorem dL_law_766 : decode cL_law 766 = .ok (.aload_n 1, 1) := by decide +kernel
theorem dL_law_767 : decode cL_law 767 = .ok (.iload 12, 2) := by decide +kernel
theorem dL_law_769 : decode cL_law 769 = .ok (.invokevirtual 314, 3) := by decide +kernel
theorem dL_law_772 : decode cL_law 772 = .ok (.dadd, 1) := by decide +kernel
theorem dL_law_773 : decode cL_law 773 = .ok (.dstore 9, 2) := by decide +kernel
theorem dL_law_775 : decode cL_law 775 = .ok (.iload 11, 2) := by decide +kernel
theorem dL_law_777 : decode cL_law 777 = .ok (.aload_n 3, 1) := by decide +kernel
theorem dL_law_778 : decode cL_law 778 = .ok (.iload 12, 2) := by decide +kernel
theorem dL_law_780 : decode cL_law 780 = .ok (.iaload, 1) := by decide +kernel
theorem dL_law_781 : decode cL_law 781 = .ok (.iadd, 1) := by decide +kernel
theorem dL_law_782 : decode cL_law 782 = .ok (.istore 11, 2) := by decide +kernel
theorem dL_law_784 : decode cL_law 784 = .ok (.iinc 12 1, 3) := by decide +kernel
theorem dL_law_787 : decode cL_law 787 = .ok (.goto (-82), 3) := by decide +kernel
theorem dL_law_790 : decode cL_law 790 = .ok (.aload_n 1, 1) := by decide +kernel
theorem dL_law_791 : decode cL_law 791 = .ok (.invokevirtual 318, 3) := by decide +kernel
theorem dL_law_794 : decode cL_law 794 = .ok (.iload 11, 2) := by decide +kernel
theorem dL_law_796 : decode cL_law 796 = .ok (.if_icmp .ne 33, 3) := by decide +kernel
theorem dL_law_799 : decode cL_law 799 = .ok (.dload 9, 2) := by decide +kernel
theorem dL_law_801 : decode cL_law 801 = .ok (.iload 6, 2) := by decide +kernel
theorem dL_law_803 : decode cL_law 803 = .ok (.i2d, 1) := by decide +kernel
theorem dL_law_804 : decode cL_law 804 = .ok (.ldc2_w 321, 3) := by decide +kernel
theorem dL_law_807 : decode cL_law 807 = .ok (.dsub, 1) := by decide +kernel
theorem dL_law_808 : decode cL_law 808 = .ok (.dcmp .l, 1) := by decide +kernel
theorem dL_law_809 : decode cL_law 809 = .ok (.ifCond .le 20, 3) := by decide +kernel
theorem dL_law_812 : decode cL_law 812 = .ok (.dload 9, 2) := by decide +kernel
theorem dL_law_814 : decode cL_law 814 = .ok (.iload 6, 2) := by decide +kernel
theorem dL_law_816 : decode cL_law 816 = .ok (.i2d, 1) := by decide +kernel
theorem dL_law_817 : decode cL_law 817 = .ok (.ldc2_w 321, 3) := by decide +kernel
theorem dL_law_820 : decode cL_law 820 = .ok (.dadd, 1) := by decide +kernel
theorem dL_law_821 : decode cL_law 821 = .ok (.dcmp .g, 1) := by decide +kernel
theorem dL_law_822 : decode cL_law 822 = .ok (.ifCond .ge 7, 3) := by decide +kernel
theorem dL_law_825 : decode cL_law 825 = .ok (.iconst 1, 1) := by decide +kernel
theorem dL_law_826 : decode cL_law 826 = .ok (.goto 4, 3) := by decide +kernel
theorem dL_law_829 : decode cL_law 829 = .ok (.iconst 0, 1) := by decide +kernel
theorem dL_law_830 : decode cL_law 830 = .ok (.ireturn, 1) := by decide +kernel
