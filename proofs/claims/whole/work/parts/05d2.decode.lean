theorem dX11_inClass_30 : decode cX11_inClass 30 = .ok (.iconst 0, 1) := by decide +kernel
theorem dX11_inClass_31 : decode cX11_inClass 31 = .ok (.istore_n 3, 1) := by decide +kernel
theorem dX11_inClass_32 : decode cX11_inClass 32 = .ok (.iconst 0, 1) := by decide +kernel
theorem dX11_inClass_33 : decode cX11_inClass 33 = .ok (.istore 4, 2) := by decide +kernel
theorem dX11_inClass_35 : decode cX11_inClass 35 = .ok (.iload 4, 2) := by decide +kernel
theorem dX11_inClass_37 : decode cX11_inClass 37 = .ok (.aload_n 0, 1) := by decide +kernel
theorem dX11_inClass_38 : decode cX11_inClass 38 = .ok (.getfield 17, 3) := by decide +kernel
theorem dX11_inClass_41 : decode cX11_inClass 41 = .ok (.bipush 7, 2) := by decide +kernel
theorem dX11_inClass_43 : decode cX11_inClass 43 = .ok (.iaload, 1) := by decide +kernel
theorem dX11_inClass_44 : decode cX11_inClass 44 = .ok (.if_icmp .ge 44, 3) := by decide +kernel
theorem dX11_inClass_47 : decode cX11_inClass 47 = .ok (.iload_n 3, 1) := by decide +kernel
theorem dX11_inClass_48 : decode cX11_inClass 48 = .ok (.aload_n 0, 1) := by decide +kernel
theorem dX11_inClass_49 : decode cX11_inClass 49 = .ok (.iload 4, 2) := by decide +kernel
theorem dX11_inClass_51 : decode cX11_inClass 51 = .ok (.iload_n 1, 1) := by decide +kernel
theorem dX11_inClass_52 : decode cX11_inClass 52 = .ok (.invokevirtual 348, 3) := by decide +kernel
theorem dX11_inClass_55 : decode cX11_inClass 55 = .ok (.ifCond .eq 24, 3) := by decide +kernel
theorem dX11_inClass_58 : decode cX11_inClass 58 = .ok (.aload_n 0, 1) := by decide +kernel
theorem dX11_inClass_59 : decode cX11_inClass 59 = .ok (.getfield 17, 3) := by decide +kernel
theorem dX11_inClass_62 : decode cX11_inClass 62 = .ok (.iload 4, 2) := by decide +kernel
theorem dX11_inClass_64 : decode cX11_inClass 64 = .ok (.iload_n 1, 1) := by decide +kernel
theorem dX11_inClass_65 : decode cX11_inClass 65 = .ok (.invokestatic 68, 3) := by decide +kernel
theorem dX11_inClass_68 : decode cX11_inClass 68 = .ok (.iconst 1, 1) := by decide +kernel
theorem dX11_inClass_69 : decode cX11_inClass 69 = .ok (.iadd, 1) := by decide +kernel
theorem dX11_inClass_70 : decode cX11_inClass 70 = .ok (.iaload, 1) := by decide +kernel
theorem dX11_inClass_71 : decode cX11_inClass 71 = .ok (.iload_n 2, 1) := by decide +kernel
theorem dX11_inClass_72 : decode cX11_inClass 72 = .ok (.if_icmp .ne 7, 3) := by decide +kernel
theorem dX11_inClass_75 : decode cX11_inClass 75 = .ok (.iconst 1, 1) := by decide +kernel
theorem dX11_inClass_76 : decode cX11_inClass 76 = .ok (.goto 4, 3) := by decide +kernel
theorem dX11_inClass_79 : decode cX11_inClass 79 = .ok (.iconst 0, 1) := by decide +kernel
theorem dX11_inClass_80 : decode cX11_inClass 80 = .ok (.iadd, 1) := by decide +kernel
theorem dX11_inClass_81 : decode cX11_inClass 81 = .ok (.istore_n 3, 1) := by decide +kernel
theorem dX11_inClass_82 : decode cX11_inClass 82 = .ok (.iinc 4 1, 3) := by decide +kernel
theorem dX11_inClass_85 : decode cX11_inClass 85 = .ok (.goto (-50), 3) := by decide +kernel
theorem dX11_inClass_88 : decode cX11_inClass 88 = .ok (.iload_n 3, 1) := by decide +kernel
theorem dX11_inClass_89 : decode cX11_inClass 89 = .ok (.ireturn, 1) := by decide +kernel
theorem dX11_matches_0 : decode cX11_matches 0 = .ok (.aload_n 0, 1) := by decide +kernel
theorem dX11_matches_1 : decode cX11_matches 1 = .ok (.aload_n 0, 1) := by decide +kernel
theorem dX11_matches_2 : decode cX11_matches 2 = .ok (.iload_n 1, 1) := by decide +kernel
theorem dX11_matches_3 : decode cX11_matches 3 = .ok (.invokevirtual 76, 3) := by decide +kernel
theorem dX11_matches_6 : decode cX11_matches 6 = .ok (.aload_n 0, 1) := by decide +kernel
theorem dX11_matches_7 : decode cX11_matches 7 = .ok (.invokevirtual 261, 3) := by decide +kernel
theorem dX11_matches_10 : decode cX11_matches 10 = .ok (.ifCond .eq 16, 3) := by decide +kernel
theorem dX11_matches_13 : decode cX11_matches 13 = .ok (.aload_n 0, 1) := by decide +kernel
theorem dX11_matches_14 : decode cX11_matches 14 = .ok (.getfield 91, 3) := by decide +kernel
theorem dX11_matches_17 : decode cX11_matches 17 = .ok (.bipush 10, 2) := by decide +kernel
theorem dX11_matches_19 : decode cX11_matches 19 = .ok (.if_icmp .gt 7, 3) := by decide +kernel
theorem dX11_matches_22 : decode cX11_matches 22 = .ok (.iconst 1, 1) := by decide +kernel
theorem dX11_matches_23 : decode cX11_matches 23 = .ok (.goto 4, 3) := by decide +kernel
theorem dX11_matches_26 : decode cX11_matches 26 = .ok (.iconst 0, 1) := by decide +kernel
theorem dX11_matches_27 : decode cX11_matches 27 = .ok (.invokevirtual 267, 3) := by decide +kernel
theorem dX11_matches_30 : decode cX11_matches 30 = .ok (.ifCond .ne 5, 3) := by decide +kernel
theorem dX11_matches_33 : decode cX11_matches 33 = .ok (.iconst 0, 1) := by decide +kernel
theorem dX11_matches_34 : decode cX11_matches 34 = .ok (.ireturn, 1) := by decide +kernel
theorem dX11_matches_35 : decode cX11_matches 35 = .ok (.aload_n 0, 1) := by decide +kernel
theorem dX11_matches_36 : decode cX11_matches 36 = .ok (.aload_n 0, 1) := by decide +kernel
theorem dX11_matches_37 : decode cX11_matches 37 = .ok (.getfield 91, 3) := by decide +kernel
theorem dX11_matches_40 : decode cX11_matches 40 = .ok (.putfield 284, 3) := by decide +kernel
theorem dX11_matches_43 : decode cX11_matches 43 = .ok (.iconst 0, 1) := by decide +kernel
theorem dX11_matches_44 : decode cX11_matches 44 = .ok (.istore_n 2, 1) := by decide +kernel
theorem dX11_matches_45 : decode cX11_matches 45 = .ok (.iload_n 2, 1) := by decide +kernel
theorem dX11_matches_46 : decode cX11_matches 46 = .ok (.aload_n 0, 1) := by decide +kernel
theorem dX11_matches_47 : decode cX11_matches 47 = .ok (.getfield 284, 3) := by decide +kernel
theorem dX11_matches_50 : decode cX11_matches 50 = .ok (.if_icmp .ge 21, 3) := by decide +kernel
theorem dX11_matches_53 : decode cX11_matches 53 = .ok (.aload_n 0, 1) := by decide +kernel
theorem dX11_matches_54 : decode cX11_matches 54 = .ok (.getfield 38, 3) := by decide +kernel
theorem dX11_matches_57 : decode cX11_matches 57 = .ok (.iload_n 2, 1) := by decide +kernel
theorem dX11_matches_58 : decode cX11_matches 58 = .ok (.aload_n 0, 1) := by decide +kernel
theorem dX11_matches_59 : decode cX11_matches 59 = .ok (.getfield 32, 3) := by decide +kernel
theorem dX11_matches_62 : decode cX11_matches 62 = .ok (.iload_n 2, 1) := by decide +kernel
theorem dX11_matches_63 : decode cX11_matches 63 = .ok (.baload, 1) := by decide +kernel
theorem dX11_matches_64 : decode cX11_matches 64 = .ok (.iastore, 1) := by decide +kernel
theorem dX11_matches_65 : decode cX11_matches 65 = .ok (.iinc 2 1, 3) := by decide +kernel
theorem dX11_matches_68 : decode cX11_matches 68 = .ok (.goto (-23), 3) := by decide +kernel
theorem dX11_matches_71 : decode cX11_matches 71 = .ok (.aload_n 0, 1) := by decide +kernel
theorem dX11_matches_72 : decode cX11_matches 72 = .ok (.iconst 0, 1) := by decide +kernel
theorem dX11_matches_73 : decode cX11_matches 73 = .ok (.putfield 91, 3) := by decide +kernel
theorem dX11_matches_76 : decode cX11_matches 76 = .ok (.iconst 0, 1) := by decide +kernel
theorem dX11_matches_77 : decode cX11_matches 77 = .ok (.istore_n 2, 1) := by decide +kernel
theorem dX11_matches_78 : decode cX11_matches 78 = .ok (.iconst 0, 1) := by decide +kernel
theorem dX11_matches_79 : decode cX11_matches 79 = .ok (.istore_n 3, 1) := by decide +kernel
theorem dX11_matches_80 : decode cX11_matches 80 = .ok (.iload_n 3, 1) := by decide +kernel
theorem dX11_matches_81 : decode cX11_matches 81 = .ok (.aload_n 0, 1) := by decide +kernel
theorem dX11_matches_82 : decode cX11_matches 82 = .ok (.getfield 17, 3) := by decide +kernel
theorem dX11_matches_85 : decode cX11_matches 85 = .ok (.bipush 7, 2) := by decide +kernel
theorem dX11_matches_87 : decode cX11_matches 87 = .ok (.iaload, 1) := by decide +kernel
theorem dX11_matches_88 : decode cX11_matches 88 = .ok (.if_icmp .ge 34, 3) := by decide +kernel
theorem dX11_matches_91 : decode cX11_matches 91 = .ok (.iload_n 2, 1) := by decide +kernel
theorem dX11_matches_92 : decode cX11_matches 92 = .ok (.aload_n 0, 1) := by decide +kernel
theorem dX11_matches_93 : decode cX11_matches 93 = .ok (.iload_n 3, 1) := by decide +kernel
theorem dX11_matches_94 : decode cX11_matches 94 = .ok (.iload_n 1, 1) := by decide +kernel
theorem dX11_matches_95 : decode cX11_matches 95 = .ok (.invokevirtual 348, 3) := by decide +kernel
theorem dX11_matches_98 : decode cX11_matches 98 = .ok (.ifCond .eq 15, 3) := by decide +kernel
theorem dX11_matches_101 : decode cX11_matches 101 = .ok (.aload_n 0, 1) := by decide +kernel
theorem dX11_matches_102 : decode cX11_matches 102 = .ok (.iload_n 3, 1) := by decide +kernel
theorem dX11_matches_103 : decode cX11_matches 103 = .ok (.invokevirtual 296, 3) := by decide +kernel
theorem dX11_matches_106 : decode cX11_matches 106 = .ok (.ifCond .eq 7, 3) := by decide +kernel
theorem dX11_matches_109 : decode cX11_matches 109 = .ok (.iconst 1, 1) := by decide +kernel
theorem dX11_matches_110 : decode cX11_matches 110 = .ok (.goto 4, 3) := by decide +kernel
theorem dX11_matches_113 : decode cX11_matches 113 = .ok (.iconst 0, 1) := by decide +kernel
theorem dX11_matches_114 : decode cX11_matches 114 = .ok (.iadd, 1) := by decide +kernel
theorem dX11_matches_115 : decode cX11_matches 115 = .ok (.istore_n 2, 1) := by decide +kernel
theorem dX11_matches_116 : decode cX11_matches 116 = .ok (.iinc 3 1, 3) := by decide +kernel
theorem dX11_matches_119 : decode cX11_matches 119 = .ok (.goto (-39), 3) := by decide +kernel
theorem dX11_matches_122 : decode cX11_matches 122 = .ok (.iload_n 2, 1) := by decide +kernel
theorem dX11_matches_123 : decode cX11_matches 123 = .ok (.ireturn, 1) := by decide +kernel
theorem dX11_commonBytes_0 : decode cX11_commonBytes 0 = .ok (.aload_n 0, 1) := by decide +kernel
theorem dX11_commonBytes_1 : decode cX11_commonBytes 1 = .ok (.aload_n 0, 1) := by decide +kernel
theorem dX11_commonBytes_2 : decode cX11_commonBytes 2 = .ok (.iload_n 1, 1) := by decide +kernel
theorem dX11_commonBytes_3 : decode cX11_commonBytes 3 = .ok (.invokevirtual 76, 3) := by decide +kernel
theorem dX11_commonBytes_6 : decode cX11_commonBytes 6 = .ok (.ifCond .eq 15, 3) := by decide +kernel
theorem dX11_commonBytes_9 : decode cX11_commonBytes 9 = .ok (.aload_n 0, 1) := by decide +kernel
theorem dX11_commonBytes_10 : decode cX11_commonBytes 10 = .ok (.iload_n 2, 1) := by decide +kernel
theorem dX11_commonBytes_11 : decode cX11_commonBytes 11 = .ok (.invokevirtual 76, 3) := by decide +kernel
theorem dX11_commonBytes_14 : decode cX11_commonBytes 14 = .ok (.ifCond .eq 7, 3) := by decide +kernel
theorem dX11_commonBytes_17 : decode cX11_commonBytes 17 = .ok (.iconst 1, 1) := by decide +kernel
theorem dX11_commonBytes_18 : decode cX11_commonBytes 18 = .ok (.goto 4, 3) := by decide +kernel
theorem dX11_commonBytes_21 : decode cX11_commonBytes 21 = .ok (.iconst 0, 1) := by decide +kernel
theorem dX11_commonBytes_22 : decode cX11_commonBytes 22 = .ok (.invokevirtual 94, 3) := by decide +kernel
theorem dX11_commonBytes_25 : decode cX11_commonBytes 25 = .ok (.ifCond .ne 5, 3) := by decide +kernel
theorem dX11_commonBytes_28 : decode cX11_commonBytes 28 = .ok (.iconst 0, 1) := by decide +kernel
theorem dX11_commonBytes_29 : decode cX11_commonBytes 29 = .ok (.ireturn, 1) := by decide +kernel
theorem dX11_commonBytes_30 : decode cX11_commonBytes 30 = .ok (.iconst 0, 1) := by decide +kernel
theorem dX11_commonBytes_31 : decode cX11_commonBytes 31 = .ok (.istore_n 3, 1) := by decide +kernel
theorem dX11_commonBytes_32 : decode cX11_commonBytes 32 = .ok (.iconst 0, 1) := by decide +kernel
theorem dX11_commonBytes_33 : decode cX11_commonBytes 33 = .ok (.istore 4, 2) := by decide +kernel
theorem dX11_commonBytes_35 : decode cX11_commonBytes 35 = .ok (.iload 4, 2) := by decide +kernel
theorem dX11_commonBytes_37 : decode cX11_commonBytes 37 = .ok (.aload_n 0, 1) := by decide +kernel
theorem dX11_commonBytes_38 : decode cX11_commonBytes 38 = .ok (.getfield 17, 3) := by decide +kernel
theorem dX11_commonBytes_41 : decode cX11_commonBytes 41 = .ok (.bipush 8, 2) := by decide +kernel
theorem dX11_commonBytes_43 : decode cX11_commonBytes 43 = .ok (.iaload, 1) := by decide +kernel
theorem dX11_commonBytes_44 : decode cX11_commonBytes 44 = .ok (.if_icmp .ge 43, 3) := by decide +kernel
theorem dX11_commonBytes_47 : decode cX11_commonBytes 47 = .ok (.iload_n 3, 1) := by decide +kernel
theorem dX11_commonBytes_48 : decode cX11_commonBytes 48 = .ok (.aload_n 0, 1) := by decide +kernel
theorem dX11_commonBytes_49 : decode cX11_commonBytes 49 = .ok (.iload_n 1, 1) := by decide +kernel
theorem dX11_commonBytes_50 : decode cX11_commonBytes 50 = .ok (.iload 4, 2) := by decide +kernel
theorem dX11_commonBytes_52 : decode cX11_commonBytes 52 = .ok (.invokevirtual 410, 3) := by decide +kernel
theorem dX11_commonBytes_55 : decode cX11_commonBytes 55 = .ok (.ifCond .eq 23, 3) := by decide +kernel
theorem dX11_commonBytes_58 : decode cX11_commonBytes 58 = .ok (.aload_n 0, 1) := by decide +kernel
theorem dX11_commonBytes_59 : decode cX11_commonBytes 59 = .ok (.iload_n 2, 1) := by decide +kernel
theorem dX11_commonBytes_60 : decode cX11_commonBytes 60 = .ok (.iload 4, 2) := by decide +kernel
theorem dX11_commonBytes_62 : decode cX11_commonBytes 62 = .ok (.invokevirtual 410, 3) := by decide +kernel
theorem dX11_commonBytes_65 : decode cX11_commonBytes 65 = .ok (.ifCond .eq 13, 3) := by decide +kernel
theorem dX11_commonBytes_68 : decode cX11_commonBytes 68 = .ok (.aload_n 0, 1) := by decide +kernel
theorem dX11_commonBytes_69 : decode cX11_commonBytes 69 = .ok (.iload 4, 2) := by decide +kernel
theorem dX11_commonBytes_71 : decode cX11_commonBytes 71 = .ok (.iconst 0, 1) := by decide +kernel
theorem dX11_commonBytes_72 : decode cX11_commonBytes 72 = .ok (.invokevirtual 84, 3) := by decide +kernel
theorem dX11_commonBytes_75 : decode cX11_commonBytes 75 = .ok (.goto 4, 3) := by decide +kernel
theorem dX11_commonBytes_78 : decode cX11_commonBytes 78 = .ok (.iconst 0, 1) := by decide +kernel
theorem dX11_commonBytes_79 : decode cX11_commonBytes 79 = .ok (.iadd, 1) := by decide +kernel
theorem dX11_commonBytes_80 : decode cX11_commonBytes 80 = .ok (.istore_n 3, 1) := by decide +kernel
theorem dX11_commonBytes_81 : decode cX11_commonBytes 81 = .ok (.iinc 4 1, 3) := by decide +kernel
theorem dX11_commonBytes_84 : decode cX11_commonBytes 84 = .ok (.goto (-49), 3) := by decide +kernel
theorem dX11_commonBytes_87 : decode cX11_commonBytes 87 = .ok (.iload_n 3, 1) := by decide +kernel
theorem dX11_commonBytes_88 : decode cX11_commonBytes 88 = .ok (.ireturn, 1) := by decide +kernel
theorem dX11_enter_0 : decode cX11_enter 0 = .ok (.aload_n 0, 1) := by decide +kernel
theorem dX11_enter_1 : decode cX11_enter 1 = .ok (.getfield 17, 3) := by decide +kernel
theorem dX11_enter_4 : decode cX11_enter 4 = .ok (.iload_n 1, 1) := by decide +kernel
theorem dX11_enter_5 : decode cX11_enter 5 = .ok (.iload_n 2, 1) := by decide +kernel
theorem dX11_enter_6 : decode cX11_enter 6 = .ok (.invokestatic 68, 3) := by decide +kernel
theorem dX11_enter_9 : decode cX11_enter 9 = .ok (.iconst 1, 1) := by decide +kernel
theorem dX11_enter_10 : decode cX11_enter 10 = .ok (.iadd, 1) := by decide +kernel
theorem dX11_enter_11 : decode cX11_enter 11 = .ok (.iload_n 3, 1) := by decide +kernel
theorem dX11_enter_12 : decode cX11_enter 12 = .ok (.iastore, 1) := by decide +kernel
theorem dX11_enter_13 : decode cX11_enter 13 = .ok (.aload_n 0, 1) := by decide +kernel
theorem dX11_enter_14 : decode cX11_enter 14 = .ok (.getfield 17, 3) := by decide +kernel
theorem dX11_enter_17 : decode cX11_enter 17 = .ok (.iload_n 1, 1) := by decide +kernel
theorem dX11_enter_18 : decode cX11_enter 18 = .ok (.iload_n 2, 1) := by decide +kernel
theorem dX11_enter_19 : decode cX11_enter 19 = .ok (.invokestatic 68, 3) := by decide +kernel
theorem dX11_enter_22 : decode cX11_enter 22 = .ok (.iconst 2, 1) := by decide +kernel
theorem dX11_enter_23 : decode cX11_enter 23 = .ok (.iadd, 1) := by decide +kernel
theorem dX11_enter_24 : decode cX11_enter 24 = .ok (.aload_n 0, 1) := by decide +kernel
theorem dX11_enter_25 : decode cX11_enter 25 = .ok (.getfield 17, 3) := by decide +kernel
theorem dX11_enter_28 : decode cX11_enter 28 = .ok (.iconst 2, 1) := by decide +kernel
theorem dX11_enter_29 : decode cX11_enter 29 = .ok (.iaload, 1) := by decide +kernel
theorem dX11_enter_30 : decode cX11_enter 30 = .ok (.iastore, 1) := by decide +kernel
theorem dX11_enter_31 : decode cX11_enter 31 = .ok (.return_, 1) := by decide +kernel
theorem dX11_file_0 : decode cX11_file 0 = .ok (.aload_n 0, 1) := by decide +kernel
theorem dX11_file_1 : decode cX11_file 1 = .ok (.aload_n 0, 1) := by decide +kernel
theorem dX11_file_2 : decode cX11_file 2 = .ok (.iload_n 3, 1) := by decide +kernel
theorem dX11_file_3 : decode cX11_file 3 = .ok (.invokevirtual 264, 3) := by decide +kernel
theorem dX11_file_6 : decode cX11_file 6 = .ok (.ifCond .eq 16, 3) := by decide +kernel
theorem dX11_file_9 : decode cX11_file 9 = .ok (.aload_n 0, 1) := by decide +kernel
theorem dX11_file_10 : decode cX11_file 10 = .ok (.iload_n 1, 1) := by decide +kernel
theorem dX11_file_11 : decode cX11_file 11 = .ok (.iload_n 2, 1) := by decide +kernel
theorem dX11_file_12 : decode cX11_file 12 = .ok (.invokevirtual 390, 3) := by decide +kernel
theorem dX11_file_15 : decode cX11_file 15 = .ok (.ifCond .eq 7, 3) := by decide +kernel
theorem dX11_file_18 : decode cX11_file 18 = .ok (.iconst 1, 1) := by decide +kernel
theorem dX11_file_19 : decode cX11_file 19 = .ok (.goto 4, 3) := by decide +kernel
theorem dX11_file_22 : decode cX11_file 22 = .ok (.iconst 0, 1) := by decide +kernel
theorem dX11_file_23 : decode cX11_file 23 = .ok (.aload_n 0, 1) := by decide +kernel
theorem dX11_file_24 : decode cX11_file 24 = .ok (.iload_n 1, 1) := by decide +kernel
theorem dX11_file_25 : decode cX11_file 25 = .ok (.iload_n 2, 1) := by decide +kernel
theorem dX11_file_26 : decode cX11_file 26 = .ok (.invokevirtual 390, 3) := by decide +kernel
theorem dX11_file_29 : decode cX11_file 29 = .ok (.ifCond .eq 12, 3) := by decide +kernel
theorem dX11_file_32 : decode cX11_file 32 = .ok (.aload_n 0, 1) := by decide +kernel
theorem dX11_file_33 : decode cX11_file 33 = .ok (.iload_n 1, 1) := by decide +kernel
theorem dX11_file_34 : decode cX11_file 34 = .ok (.iload_n 2, 1) := by decide +kernel
theorem dX11_file_35 : decode cX11_file 35 = .ok (.invokevirtual 348, 3) := by decide +kernel
theorem dX11_file_38 : decode cX11_file 38 = .ok (.ifCond .eq 7, 3) := by decide +kernel
theorem dX11_file_41 : decode cX11_file 41 = .ok (.iconst 1, 1) := by decide +kernel
theorem dX11_file_42 : decode cX11_file 42 = .ok (.goto 4, 3) := by decide +kernel
theorem dX11_file_45 : decode cX11_file 45 = .ok (.iconst 0, 1) := by decide +kernel
theorem dX11_file_46 : decode cX11_file 46 = .ok (.invokevirtual 267, 3) := by decide +kernel
theorem dX11_file_49 : decode cX11_file 49 = .ok (.ifCond .ne 5, 3) := by decide +kernel
theorem dX11_file_52 : decode cX11_file 52 = .ok (.iconst 0, 1) := by decide +kernel
theorem dX11_file_53 : decode cX11_file 53 = .ok (.ireturn, 1) := by decide +kernel
theorem dX11_file_54 : decode cX11_file 54 = .ok (.aload_n 0, 1) := by decide +kernel
theorem dX11_file_55 : decode cX11_file 55 = .ok (.getfield 17, 3) := by decide +kernel
theorem dX11_file_58 : decode cX11_file 58 = .ok (.iload_n 1, 1) := by decide +kernel
theorem dX11_file_59 : decode cX11_file 59 = .ok (.iload_n 2, 1) := by decide +kernel
theorem dX11_file_60 : decode cX11_file 60 = .ok (.invokestatic 68, 3) := by decide +kernel
theorem dX11_file_63 : decode cX11_file 63 = .ok (.iconst 1, 1) := by decide +kernel
theorem dX11_file_64 : decode cX11_file 64 = .ok (.iadd, 1) := by decide +kernel
theorem dX11_file_65 : decode cX11_file 65 = .ok (.iaload, 1) := by decide +kernel
theorem dX11_file_66 : decode cX11_file 66 = .ok (.istore 4, 2) := by decide +kernel
theorem dX11_file_68 : decode cX11_file 68 = .ok (.iload 4, 2) := by decide +kernel
theorem dX11_file_70 : decode cX11_file 70 = .ok (.iload_n 3, 1) := by decide +kernel
theorem dX11_file_71 : decode cX11_file 71 = .ok (.if_icmp .ne 27, 3) := by decide +kernel
theorem dX11_file_74 : decode cX11_file 74 = .ok (.aload_n 0, 1) := by decide +kernel
theorem dX11_file_75 : decode cX11_file 75 = .ok (.getfield 17, 3) := by decide +kernel
theorem dX11_file_78 : decode cX11_file 78 = .ok (.iload_n 1, 1) := by decide +kernel
theorem dX11_file_79 : decode cX11_file 79 = .ok (.iload_n 2, 1) := by decide +kernel
theorem dX11_file_80 : decode cX11_file 80 = .ok (.invokestatic 68, 3) := by decide +kernel
theorem dX11_file_83 : decode cX11_file 83 = .ok (.iconst 2, 1) := by decide +kernel
theorem dX11_file_84 : decode cX11_file 84 = .ok (.iadd, 1) := by decide +kernel
theorem dX11_file_85 : decode cX11_file 85 = .ok (.iaload, 1) := by decide +kernel
theorem dX11_file_86 : decode cX11_file 86 = .ok (.aload_n 0, 1) := by decide +kernel
theorem dX11_file_87 : decode cX11_file 87 = .ok (.getfield 17, 3) := by decide +kernel
theorem dX11_file_90 : decode cX11_file 90 = .ok (.iconst 2, 1) := by decide +kernel
theorem dX11_file_91 : decode cX11_file 91 = .ok (.iaload, 1) := by decide +kernel
theorem dX11_file_92 : decode cX11_file 92 = .ok (.if_icmp .ne 6, 3) := by decide +kernel
theorem dX11_file_95 : decode cX11_file 95 = .ok (.iload 4, 2) := by decide +kernel
theorem dX11_file_97 : decode cX11_file 97 = .ok (.ireturn, 1) := by decide +kernel
theorem dX11_file_98 : decode cX11_file 98 = .ok (.aload_n 0, 1) := by decide +kernel
theorem dX11_file_99 : decode cX11_file 99 = .ok (.invokevirtual 256, 3) := by decide +kernel
theorem dX11_file_102 : decode cX11_file 102 = .ok (.aload_n 0, 1) := by decide +kernel
theorem dX11_file_103 : decode cX11_file 103 = .ok (.iload_n 1, 1) := by decide +kernel
theorem dX11_file_104 : decode cX11_file 104 = .ok (.iload_n 2, 1) := by decide +kernel
theorem dX11_file_105 : decode cX11_file 105 = .ok (.iload_n 3, 1) := by decide +kernel
theorem dX11_file_106 : decode cX11_file 106 = .ok (.invokevirtual 413, 3) := by decide +kernel
theorem dX11_file_109 : decode cX11_file 109 = .ok (.iload 4, 2) := by decide +kernel
theorem dX11_file_111 : decode cX11_file 111 = .ok (.ireturn, 1) := by decide +kernel
theorem dX11_delete_0 : decode cX11_delete 0 = .ok (.aload_n 0, 1) := by decide +kernel
theorem dX11_delete_1 : decode cX11_delete 1 = .ok (.aload_n 0, 1) := by decide +kernel
theorem dX11_delete_2 : decode cX11_delete 2 = .ok (.iload_n 1, 1) := by decide +kernel
theorem dX11_delete_3 : decode cX11_delete 3 = .ok (.iload_n 2, 1) := by decide +kernel
theorem dX11_delete_4 : decode cX11_delete 4 = .ok (.invokevirtual 390, 3) := by decide +kernel
theorem dX11_delete_7 : decode cX11_delete 7 = .ok (.aload_n 0, 1) := by decide +kernel
theorem dX11_delete_8 : decode cX11_delete 8 = .ok (.iload_n 1, 1) := by decide +kernel
theorem dX11_delete_9 : decode cX11_delete 9 = .ok (.iload_n 2, 1) := by decide +kernel
theorem dX11_delete_10 : decode cX11_delete 10 = .ok (.invokevirtual 390, 3) := by decide +kernel
theorem dX11_delete_13 : decode cX11_delete 13 = .ok (.ifCond .eq 12, 3) := by decide +kernel
theorem dX11_delete_16 : decode cX11_delete 16 = .ok (.aload_n 0, 1) := by decide +kernel
theorem dX11_delete_17 : decode cX11_delete 17 = .ok (.iload_n 1, 1) := by decide +kernel
theorem dX11_delete_18 : decode cX11_delete 18 = .ok (.iload_n 2, 1) := by decide +kernel
theorem dX11_delete_19 : decode cX11_delete 19 = .ok (.invokevirtual 348, 3) := by decide +kernel
theorem dX11_delete_22 : decode cX11_delete 22 = .ok (.ifCond .eq 7, 3) := by decide +kernel
theorem dX11_delete_25 : decode cX11_delete 25 = .ok (.iconst 1, 1) := by decide +kernel
theorem dX11_delete_26 : decode cX11_delete 26 = .ok (.goto 4, 3) := by decide +kernel
theorem dX11_delete_29 : decode cX11_delete 29 = .ok (.iconst 0, 1) := by decide +kernel
theorem dX11_delete_30 : decode cX11_delete 30 = .ok (.invokevirtual 267, 3) := by decide +kernel
theorem dX11_delete_33 : decode cX11_delete 33 = .ok (.ifCond .ne 5, 3) := by decide +kernel
theorem dX11_delete_36 : decode cX11_delete 36 = .ok (.iconst 0, 1) := by decide +kernel
theorem dX11_delete_37 : decode cX11_delete 37 = .ok (.ireturn, 1) := by decide +kernel
theorem dX11_delete_38 : decode cX11_delete 38 = .ok (.aload_n 0, 1) := by decide +kernel
theorem dX11_delete_39 : decode cX11_delete 39 = .ok (.invokevirtual 256, 3) := by decide +kernel
theorem dX11_delete_42 : decode cX11_delete 42 = .ok (.aload_n 0, 1) := by decide +kernel
theorem dX11_delete_43 : decode cX11_delete 43 = .ok (.iload_n 1, 1) := by decide +kernel
theorem dX11_delete_44 : decode cX11_delete 44 = .ok (.iload_n 2, 1) := by decide +kernel
theorem dX11_delete_45 : decode cX11_delete 45 = .ok (.iconst 1, 1) := by decide +kernel
theorem dX11_delete_46 : decode cX11_delete 46 = .ok (.invokevirtual 416, 3) := by decide +kernel
theorem dX11_delete_49 : decode cX11_delete 49 = .ok (.ireturn, 1) := by decide +kernel
theorem dX11_recover_0 : decode cX11_recover 0 = .ok (.aload_n 0, 1) := by decide +kernel
theorem dX11_recover_1 : decode cX11_recover 1 = .ok (.aload_n 0, 1) := by decide +kernel
theorem dX11_recover_2 : decode cX11_recover 2 = .ok (.iload_n 1, 1) := by decide +kernel
theorem dX11_recover_3 : decode cX11_recover 3 = .ok (.iload_n 2, 1) := by decide +kernel
theorem dX11_recover_4 : decode cX11_recover 4 = .ok (.invokevirtual 390, 3) := by decide +kernel
theorem dX11_recover_7 : decode cX11_recover 7 = .ok (.aload_n 0, 1) := by decide +kernel
theorem dX11_recover_8 : decode cX11_recover 8 = .ok (.iload_n 1, 1) := by decide +kernel
theorem dX11_recover_9 : decode cX11_recover 9 = .ok (.iload_n 2, 1) := by decide +kernel
theorem dX11_recover_10 : decode cX11_recover 10 = .ok (.invokevirtual 390, 3) := by decide +kernel
theorem dX11_recover_13 : decode cX11_recover 13 = .ok (.ifCond .eq 12, 3) := by decide +kernel
theorem dX11_recover_16 : decode cX11_recover 16 = .ok (.aload_n 0, 1) := by decide +kernel
theorem dX11_recover_17 : decode cX11_recover 17 = .ok (.iload_n 1, 1) := by decide +kernel
theorem dX11_recover_18 : decode cX11_recover 18 = .ok (.iload_n 2, 1) := by decide +kernel
theorem dX11_recover_19 : decode cX11_recover 19 = .ok (.invokevirtual 387, 3) := by decide +kernel
theorem dX11_recover_22 : decode cX11_recover 22 = .ok (.ifCond .eq 7, 3) := by decide +kernel
theorem dX11_recover_25 : decode cX11_recover 25 = .ok (.iconst 1, 1) := by decide +kernel
theorem dX11_recover_26 : decode cX11_recover 26 = .ok (.goto 4, 3) := by decide +kernel
theorem dX11_recover_29 : decode cX11_recover 29 = .ok (.iconst 0, 1) := by decide +kernel
theorem dX11_recover_30 : decode cX11_recover 30 = .ok (.invokevirtual 267, 3) := by decide +kernel
theorem dX11_recover_33 : decode cX11_recover 33 = .ok (.ifCond .ne 5, 3) := by decide +kernel
theorem dX11_recover_36 : decode cX11_recover 36 = .ok (.iconst 0, 1) := by decide +kernel
theorem dX11_recover_37 : decode cX11_recover 37 = .ok (.ireturn, 1) := by decide +kernel
theorem dX11_recover_38 : decode cX11_recover 38 = .ok (.aload_n 0, 1) := by decide +kernel
theorem dX11_recover_39 : decode cX11_recover 39 = .ok (.invokevirtual 256, 3) := by decide +kernel
theorem dX11_recover_42 : decode cX11_recover 42 = .ok (.aload_n 0, 1) := by decide +kernel
theorem dX11_recover_43 : decode cX11_recover 43 = .ok (.iload_n 1, 1) := by decide +kernel
theorem dX11_recover_44 : decode cX11_recover 44 = .ok (.iload_n 2, 1) := by decide +kernel
theorem dX11_recover_45 : decode cX11_recover 45 = .ok (.invokevirtual 79, 3) := by decide +kernel
theorem dX11_recover_48 : decode cX11_recover 48 = .ok (.istore_n 3, 1) := by decide +kernel
theorem dX11_recover_49 : decode cX11_recover 49 = .ok (.aload_n 0, 1) := by decide +kernel
theorem dX11_recover_50 : decode cX11_recover 50 = .ok (.getfield 17, 3) := by decide +kernel
theorem dX11_recover_53 : decode cX11_recover 53 = .ok (.iload_n 1, 1) := by decide +kernel
theorem dX11_recover_54 : decode cX11_recover 54 = .ok (.iload_n 2, 1) := by decide +kernel
theorem dX11_recover_55 : decode cX11_recover 55 = .ok (.invokestatic 68, 3) := by decide +kernel
theorem dX11_recover_58 : decode cX11_recover 58 = .ok (.iconst 0, 1) := by decide +kernel
theorem dX11_recover_59 : decode cX11_recover 59 = .ok (.iadd, 1) := by decide +kernel
theorem dX11_recover_60 : decode cX11_recover 60 = .ok (.iconst 0, 1) := by decide +kernel
theorem dX11_recover_61 : decode cX11_recover 61 = .ok (.iastore, 1) := by decide +kernel
theorem dX11_recover_62 : decode cX11_recover 62 = .ok (.aload_n 0, 1) := by decide +kernel
theorem dX11_recover_63 : decode cX11_recover 63 = .ok (.getfield 17, 3) := by decide +kernel
theorem dX11_recover_66 : decode cX11_recover 66 = .ok (.iload_n 1, 1) := by decide +kernel
theorem dX11_recover_67 : decode cX11_recover 67 = .ok (.iload_n 2, 1) := by decide +kernel
theorem dX11_recover_68 : decode cX11_recover 68 = .ok (.invokestatic 68, 3) := by decide +kernel
theorem dX11_recover_71 : decode cX11_recover 71 = .ok (.iconst 2, 1) := by decide +kernel
theorem dX11_recover_72 : decode cX11_recover 72 = .ok (.iadd, 1) := by decide +kernel
theorem dX11_recover_73 : decode cX11_recover 73 = .ok (.aload_n 0, 1) := by decide +kernel
theorem dX11_recover_74 : decode cX11_recover 74 = .ok (.getfield 17, 3) := by decide +kernel
theorem dX11_recover_77 : decode cX11_recover 77 = .ok (.iconst 2, 1) := by decide +kernel
theorem dX11_recover_78 : decode cX11_recover 78 = .ok (.iaload, 1) := by decide +kernel
theorem dX11_recover_79 : decode cX11_recover 79 = .ok (.iastore, 1) := by decide +kernel
theorem dX11_recover_80 : decode cX11_recover 80 = .ok (.iload_n 3, 1) := by decide +kernel
theorem dX11_recover_81 : decode cX11_recover 81 = .ok (.ireturn, 1) := by decide +kernel
theorem dX11_isActive_0 : decode cX11_isActive 0 = .ok (.aload_n 0, 1) := by decide +kernel
theorem dX11_isActive_1 : decode cX11_isActive 1 = .ok (.aload_n 0, 1) := by decide +kernel
theorem dX11_isActive_2 : decode cX11_isActive 2 = .ok (.iload_n 1, 1) := by decide +kernel
theorem dX11_isActive_3 : decode cX11_isActive 3 = .ok (.invokevirtual 419, 3) := by decide +kernel
theorem dX11_isActive_6 : decode cX11_isActive 6 = .ok (.invokevirtual 94, 3) := by decide +kernel
theorem dX11_isActive_9 : decode cX11_isActive 9 = .ok (.ifCond .eq 17, 3) := by decide +kernel
theorem dX11_isActive_12 : decode cX11_isActive 12 = .ok (.aload_n 0, 1) := by decide +kernel
theorem dX11_isActive_13 : decode cX11_isActive 13 = .ok (.iload_n 1, 1) := by decide +kernel
theorem dX11_isActive_14 : decode cX11_isActive 14 = .ok (.iconst 3, 1) := by decide +kernel
theorem dX11_isActive_15 : decode cX11_isActive 15 = .ok (.invokevirtual 293, 3) := by decide +kernel
theorem dX11_isActive_18 : decode cX11_isActive 18 = .ok (.iconst 1, 1) := by decide +kernel
theorem dX11_isActive_19 : decode cX11_isActive 19 = .ok (.if_icmp .ne 7, 3) := by decide +kernel
theorem dX11_isActive_22 : decode cX11_isActive 22 = .ok (.iconst 1, 1) := by decide +kernel
theorem dX11_isActive_23 : decode cX11_isActive 23 = .ok (.goto 4, 3) := by decide +kernel
theorem dX11_isActive_26 : decode cX11_isActive 26 = .ok (.iconst 0, 1) := by decide +kernel
theorem dX11_isActive_27 : decode cX11_isActive 27 = .ok (.ireturn, 1) := by decide +kernel
theorem dX11_release_0 : decode cX11_release 0 = .ok (.iconst 0, 1) := by decide +kernel
theorem dX11_release_1 : decode cX11_release 1 = .ok (.istore_n 2, 1) := by decide +kernel
theorem dX11_release_2 : decode cX11_release 2 = .ok (.iconst 0, 1) := by decide +kernel
theorem dX11_release_3 : decode cX11_release 3 = .ok (.istore_n 3, 1) := by decide +kernel
theorem dX11_release_4 : decode cX11_release 4 = .ok (.iload_n 3, 1) := by decide +kernel
theorem dX11_release_5 : decode cX11_release 5 = .ok (.aload_n 0, 1) := by decide +kernel
theorem dX11_release_6 : decode cX11_release 6 = .ok (.getfield 17, 3) := by decide +kernel
theorem dX11_release_9 : decode cX11_release 9 = .ok (.bipush 7, 2) := by decide +kernel
theorem dX11_release_11 : decode cX11_release 11 = .ok (.iaload, 1) := by decide +kernel
theorem dX11_release_12 : decode cX11_release 12 = .ok (.if_icmp .ge 57, 3) := by decide +kernel
theorem dX11_release_15 : decode cX11_release 15 = .ok (.aload_n 0, 1) := by decide +kernel
theorem dX11_release_16 : decode cX11_release 16 = .ok (.iload_n 3, 1) := by decide +kernel
theorem dX11_release_17 : decode cX11_release 17 = .ok (.iload_n 1, 1) := by decide +kernel
theorem dX11_release_18 : decode cX11_release 18 = .ok (.invokevirtual 387, 3) := by decide +kernel
theorem dX11_release_21 : decode cX11_release 21 = .ok (.ifCond .eq 42, 3) := by decide +kernel
theorem dX11_release_24 : decode cX11_release 24 = .ok (.aload_n 0, 1) := by decide +kernel
theorem dX11_release_25 : decode cX11_release 25 = .ok (.iload_n 3, 1) := by decide +kernel
theorem dX11_release_26 : decode cX11_release 26 = .ok (.iload_n 1, 1) := by decide +kernel
theorem dX11_release_27 : decode cX11_release 27 = .ok (.invokevirtual 319, 3) := by decide +kernel
theorem dX11_release_30 : decode cX11_release 30 = .ok (.ifCond .eq 6, 3) := by decide +kernel
theorem dX11_release_33 : decode cX11_release 33 = .ok (.goto 30, 3) := by decide +kernel
theorem dX11_release_36 : decode cX11_release 36 = .ok (.aload_n 0, 1) := by decide +kernel
theorem dX11_release_37 : decode cX11_release 37 = .ok (.getfield 17, 3) := by decide +kernel
theorem dX11_release_40 : decode cX11_release 40 = .ok (.iload_n 3, 1) := by decide +kernel
theorem dX11_release_41 : decode cX11_release 41 = .ok (.iload_n 1, 1) := by decide +kernel
theorem dX11_release_42 : decode cX11_release 42 = .ok (.invokestatic 68, 3) := by decide +kernel
theorem dX11_release_45 : decode cX11_release 45 = .ok (.iconst 0, 1) := by decide +kernel
theorem dX11_release_46 : decode cX11_release 46 = .ok (.iadd, 1) := by decide +kernel
theorem dX11_release_47 : decode cX11_release 47 = .ok (.iconst 3, 1) := by decide +kernel
theorem dX11_release_48 : decode cX11_release 48 = .ok (.iastore, 1) := by decide +kernel
theorem dX11_release_49 : decode cX11_release 49 = .ok (.aload_n 0, 1) := by decide +kernel
theorem dX11_release_50 : decode cX11_release 50 = .ok (.iconst 4, 1) := by decide +kernel
theorem dX11_release_51 : decode cX11_release 51 = .ok (.iload_n 3, 1) := by decide +kernel
theorem dX11_release_52 : decode cX11_release 52 = .ok (.invokevirtual 315, 3) := by decide +kernel
theorem dX11_release_55 : decode cX11_release 55 = .ok (.aload_n 0, 1) := by decide +kernel
theorem dX11_release_56 : decode cX11_release 56 = .ok (.iload_n 3, 1) := by decide +kernel
theorem dX11_release_57 : decode cX11_release 57 = .ok (.invokevirtual 322, 3) := by decide +kernel
theorem dX11_release_60 : decode cX11_release 60 = .ok (.iinc 2 1, 3) := by decide +kernel
theorem dX11_release_63 : decode cX11_release 63 = .ok (.iinc 3 1, 3) := by decide +kernel
theorem dX11_release_66 : decode cX11_release 66 = .ok (.goto (-62), 3) := by decide +kernel
theorem dX11_release_69 : decode cX11_release 69 = .ok (.iload_n 2, 1) := by decide +kernel
theorem dX11_release_70 : decode cX11_release 70 = .ok (.ireturn, 1) := by decide +kernel
theorem dX11_setHold_0 : decode cX11_setHold 0 = .ok (.aload_n 0, 1) := by decide +kernel
theorem dX11_setHold_1 : decode cX11_setHold 1 = .ok (.aload_n 0, 1) := by decide +kernel
theorem dX11_setHold_2 : decode cX11_setHold 2 = .ok (.iload_n 1, 1) := by decide +kernel
theorem dX11_setHold_3 : decode cX11_setHold 3 = .ok (.invokevirtual 419, 3) := by decide +kernel
theorem dX11_setHold_6 : decode cX11_setHold 6 = .ok (.invokevirtual 94, 3) := by decide +kernel
theorem dX11_setHold_9 : decode cX11_setHold 9 = .ok (.ifCond .eq 22, 3) := by decide +kernel
theorem dX11_setHold_12 : decode cX11_setHold 12 = .ok (.aload_n 0, 1) := by decide +kernel
theorem dX11_setHold_13 : decode cX11_setHold 13 = .ok (.iload_n 1, 1) := by decide +kernel
theorem dX11_setHold_14 : decode cX11_setHold 14 = .ok (.iconst 3, 1) := by decide +kernel
theorem dX11_setHold_15 : decode cX11_setHold 15 = .ok (.invokevirtual 293, 3) := by decide +kernel
theorem dX11_setHold_18 : decode cX11_setHold 18 = .ok (.iconst 1, 1) := by decide +kernel
theorem dX11_setHold_19 : decode cX11_setHold 19 = .ok (.if_icmp .ne 7, 3) := by decide +kernel
theorem dX11_setHold_22 : decode cX11_setHold 22 = .ok (.iconst 1, 1) := by decide +kernel
theorem dX11_setHold_23 : decode cX11_setHold 23 = .ok (.goto 4, 3) := by decide +kernel
theorem dX11_setHold_26 : decode cX11_setHold 26 = .ok (.iconst 0, 1) := by decide +kernel
theorem dX11_setHold_27 : decode cX11_setHold 27 = .ok (.iload_n 2, 1) := by decide +kernel
theorem dX11_setHold_28 : decode cX11_setHold 28 = .ok (.if_icmp .ne 5, 3) := by decide +kernel
theorem dX11_setHold_31 : decode cX11_setHold 31 = .ok (.iconst 0, 1) := by decide +kernel
theorem dX11_setHold_32 : decode cX11_setHold 32 = .ok (.ireturn, 1) := by decide +kernel
theorem dX11_setHold_33 : decode cX11_setHold 33 = .ok (.aload_n 0, 1) := by decide +kernel
theorem dX11_setHold_34 : decode cX11_setHold 34 = .ok (.invokevirtual 256, 3) := by decide +kernel
theorem dX11_setHold_37 : decode cX11_setHold 37 = .ok (.aload_n 0, 1) := by decide +kernel
theorem dX11_setHold_38 : decode cX11_setHold 38 = .ok (.getfield 17, 3) := by decide +kernel
theorem dX11_setHold_41 : decode cX11_setHold 41 = .ok (.sipush 205, 3) := by decide +kernel
theorem dX11_setHold_44 : decode cX11_setHold 44 = .ok (.bipush 21, 2) := by decide +kernel
theorem dX11_setHold_46 : decode cX11_setHold 46 = .ok (.iload_n 1, 1) := by decide +kernel
theorem dX11_setHold_47 : decode cX11_setHold 47 = .ok (.imul, 1) := by decide +kernel
theorem dX11_setHold_48 : decode cX11_setHold 48 = .ok (.iadd, 1) := by decide +kernel
theorem dX11_setHold_49 : decode cX11_setHold 49 = .ok (.iconst 3, 1) := by decide +kernel
theorem dX11_setHold_50 : decode cX11_setHold 50 = .ok (.iadd, 1) := by decide +kernel
theorem dX11_setHold_51 : decode cX11_setHold 51 = .ok (.iload_n 2, 1) := by decide +kernel
theorem dX11_setHold_52 : decode cX11_setHold 52 = .ok (.ifCond .eq 7, 3) := by decide +kernel
theorem dX11_setHold_55 : decode cX11_setHold 55 = .ok (.iconst 1, 1) := by decide +kernel
theorem dX11_setHold_56 : decode cX11_setHold 56 = .ok (.goto 4, 3) := by decide +kernel
theorem dX11_setHold_59 : decode cX11_setHold 59 = .ok (.iconst 0, 1) := by decide +kernel
theorem dX11_setHold_60 : decode cX11_setHold 60 = .ok (.iastore, 1) := by decide +kernel
theorem dX11_setHold_61 : decode cX11_setHold 61 = .ok (.iload_n 2, 1) := by decide +kernel
theorem dX11_setHold_62 : decode cX11_setHold 62 = .ok (.ifCond .eq 7, 3) := by decide +kernel
theorem dX11_setHold_65 : decode cX11_setHold 65 = .ok (.iconst 0, 1) := by decide +kernel
theorem dX11_setHold_66 : decode cX11_setHold 66 = .ok (.goto 13, 3) := by decide +kernel
theorem dX11_setHold_69 : decode cX11_setHold 69 = .ok (.aload_n 0, 1) := by decide +kernel
theorem dX11_setHold_70 : decode cX11_setHold 70 = .ok (.aload_n 0, 1) := by decide +kernel
theorem dX11_setHold_71 : decode cX11_setHold 71 = .ok (.iload_n 1, 1) := by decide +kernel
theorem dX11_setHold_72 : decode cX11_setHold 72 = .ok (.iconst 0, 1) := by decide +kernel
theorem dX11_setHold_73 : decode cX11_setHold 73 = .ok (.invokevirtual 293, 3) := by decide +kernel
theorem dX11_setHold_76 : decode cX11_setHold 76 = .ok (.invokevirtual 422, 3) := by decide +kernel
theorem dX11_setHold_79 : decode cX11_setHold 79 = .ok (.ireturn, 1) := by decide +kernel
theorem dX11_heldOnlyBy_0 : decode cX11_heldOnlyBy 0 = .ok (.aload_n 0, 1) := by decide +kernel
theorem dX11_heldOnlyBy_1 : decode cX11_heldOnlyBy 1 = .ok (.aload_n 0, 1) := by decide +kernel
theorem dX11_heldOnlyBy_2 : decode cX11_heldOnlyBy 2 = .ok (.iload_n 1, 1) := by decide +kernel
theorem dX11_heldOnlyBy_3 : decode cX11_heldOnlyBy 3 = .ok (.invokevirtual 419, 3) := by decide +kernel
theorem dX11_heldOnlyBy_6 : decode cX11_heldOnlyBy 6 = .ok (.invokevirtual 94, 3) := by decide +kernel
theorem dX11_heldOnlyBy_9 : decode cX11_heldOnlyBy 9 = .ok (.ifCond .ne 5, 3) := by decide +kernel
theorem dX11_heldOnlyBy_12 : decode cX11_heldOnlyBy 12 = .ok (.iconst 0, 1) := by decide +kernel
theorem dX11_heldOnlyBy_13 : decode cX11_heldOnlyBy 13 = .ok (.ireturn, 1) := by decide +kernel
theorem dX11_heldOnlyBy_14 : decode cX11_heldOnlyBy 14 = .ok (.aload_n 0, 1) := by decide +kernel
theorem dX11_heldOnlyBy_15 : decode cX11_heldOnlyBy 15 = .ok (.iload_n 1, 1) := by decide +kernel
theorem dX11_heldOnlyBy_16 : decode cX11_heldOnlyBy 16 = .ok (.iconst 0, 1) := by decide +kernel
theorem dX11_heldOnlyBy_17 : decode cX11_heldOnlyBy 17 = .ok (.invokevirtual 293, 3) := by decide +kernel
theorem dX11_heldOnlyBy_20 : decode cX11_heldOnlyBy 20 = .ok (.istore_n 2, 1) := by decide +kernel
theorem dX11_heldOnlyBy_21 : decode cX11_heldOnlyBy 21 = .ok (.iconst 0, 1) := by decide +kernel
theorem dX11_heldOnlyBy_22 : decode cX11_heldOnlyBy 22 = .ok (.istore_n 3, 1) := by decide +kernel
theorem dX11_heldOnlyBy_23 : decode cX11_heldOnlyBy 23 = .ok (.iconst 0, 1) := by decide +kernel
theorem dX11_heldOnlyBy_24 : decode cX11_heldOnlyBy 24 = .ok (.istore 4, 2) := by decide +kernel
theorem dX11_heldOnlyBy_26 : decode cX11_heldOnlyBy 26 = .ok (.iload 4, 2) := by decide +kernel
theorem dX11_heldOnlyBy_28 : decode cX11_heldOnlyBy 28 = .ok (.aload_n 0, 1) := by decide +kernel
theorem dX11_heldOnlyBy_29 : decode cX11_heldOnlyBy 29 = .ok (.getfield 17, 3) := by decide +kernel
theorem dX11_heldOnlyBy_32 : decode cX11_heldOnlyBy 32 = .ok (.bipush 7, 2) := by decide +kernel
theorem dX11_heldOnlyBy_34 : decode cX11_heldOnlyBy 34 = .ok (.iaload, 1) := by decide +kernel
theorem dX11_heldOnlyBy_35 : decode cX11_heldOnlyBy 35 = .ok (.if_icmp .ge 40, 3) := by decide +kernel
theorem dX11_heldOnlyBy_38 : decode cX11_heldOnlyBy 38 = .ok (.iload_n 3, 1) := by decide +kernel
theorem dX11_heldOnlyBy_39 : decode cX11_heldOnlyBy 39 = .ok (.aload_n 0, 1) := by decide +kernel
theorem dX11_heldOnlyBy_40 : decode cX11_heldOnlyBy 40 = .ok (.iload 4, 2) := by decide +kernel
theorem dX11_heldOnlyBy_42 : decode cX11_heldOnlyBy 42 = .ok (.iload_n 2, 1) := by decide +kernel
theorem dX11_heldOnlyBy_43 : decode cX11_heldOnlyBy 43 = .ok (.invokevirtual 387, 3) := by decide +kernel
theorem dX11_heldOnlyBy_46 : decode cX11_heldOnlyBy 46 = .ok (.ifCond .eq 20, 3) := by decide +kernel
theorem dX11_heldOnlyBy_49 : decode cX11_heldOnlyBy 49 = .ok (.aload_n 0, 1) := by decide +kernel
theorem dX11_heldOnlyBy_50 : decode cX11_heldOnlyBy 50 = .ok (.iload 4, 2) := by decide +kernel
theorem dX11_heldOnlyBy_52 : decode cX11_heldOnlyBy 52 = .ok (.iload_n 2, 1) := by decide +kernel
theorem dX11_heldOnlyBy_53 : decode cX11_heldOnlyBy 53 = .ok (.invokevirtual 319, 3) := by decide +kernel
theorem dX11_heldOnlyBy_56 : decode cX11_heldOnlyBy 56 = .ok (.iconst 1, 1) := by decide +kernel
theorem dX11_heldOnlyBy_57 : decode cX11_heldOnlyBy 57 = .ok (.iload_n 1, 1) := by decide +kernel
theorem dX11_heldOnlyBy_58 : decode cX11_heldOnlyBy 58 = .ok (.ishl, 1) := by decide +kernel
theorem dX11_heldOnlyBy_59 : decode cX11_heldOnlyBy 59 = .ok (.if_icmp .ne 7, 3) := by decide +kernel
theorem dX11_heldOnlyBy_62 : decode cX11_heldOnlyBy 62 = .ok (.iconst 1, 1) := by decide +kernel
theorem dX11_heldOnlyBy_63 : decode cX11_heldOnlyBy 63 = .ok (.goto 4, 3) := by decide +kernel
theorem dX11_heldOnlyBy_66 : decode cX11_heldOnlyBy 66 = .ok (.iconst 0, 1) := by decide +kernel
theorem dX11_heldOnlyBy_67 : decode cX11_heldOnlyBy 67 = .ok (.iadd, 1) := by decide +kernel
theorem dX11_heldOnlyBy_68 : decode cX11_heldOnlyBy 68 = .ok (.istore_n 3, 1) := by decide +kernel
theorem dX11_heldOnlyBy_69 : decode cX11_heldOnlyBy 69 = .ok (.iinc 4 1, 3) := by decide +kernel
theorem dX11_heldOnlyBy_72 : decode cX11_heldOnlyBy 72 = .ok (.goto (-46), 3) := by decide +kernel
theorem dX11_heldOnlyBy_75 : decode cX11_heldOnlyBy 75 = .ok (.iload_n 3, 1) := by decide +kernel
theorem dX11_heldOnlyBy_76 : decode cX11_heldOnlyBy 76 = .ok (.ireturn, 1) := by decide +kernel
theorem dX11_setQuota_0 : decode cX11_setQuota 0 = .ok (.aload_n 0, 1) := by decide +kernel
theorem dX11_setQuota_1 : decode cX11_setQuota 1 = .ok (.aload_n 0, 1) := by decide +kernel
theorem dX11_setQuota_2 : decode cX11_setQuota 2 = .ok (.iload_n 1, 1) := by decide +kernel
theorem dX11_setQuota_3 : decode cX11_setQuota 3 = .ok (.invokevirtual 76, 3) := by decide +kernel
theorem dX11_setQuota_6 : decode cX11_setQuota 6 = .ok (.iload_n 2, 1) := by decide +kernel
theorem dX11_setQuota_7 : decode cX11_setQuota 7 = .ok (.i2l, 1) := by decide +kernel
theorem dX11_setQuota_8 : decode cX11_setQuota 8 = .ok (.lconst 1, 1) := by decide +kernel
theorem dX11_setQuota_9 : decode cX11_setQuota 9 = .ok (.ldc2_w 425, 3) := by decide +kernel
theorem dX11_setQuota_12 : decode cX11_setQuota 12 = .ok (.invokestatic 64, 3) := by decide +kernel
theorem dX11_setQuota_15 : decode cX11_setQuota 15 = .ok (.invokevirtual 267, 3) := by decide +kernel
theorem dX11_setQuota_18 : decode cX11_setQuota 18 = .ok (.ifCond .ne 5, 3) := by decide +kernel
theorem dX11_setQuota_21 : decode cX11_setQuota 21 = .ok (.iconst 0, 1) := by decide +kernel
theorem dX11_setQuota_22 : decode cX11_setQuota 22 = .ok (.ireturn, 1) := by decide +kernel
theorem dX11_setQuota_23 : decode cX11_setQuota 23 = .ok (.aload_n 0, 1) := by decide +kernel
theorem dX11_setQuota_24 : decode cX11_setQuota 24 = .ok (.getfield 17, 3) := by decide +kernel
theorem dX11_setQuota_27 : decode cX11_setQuota 27 = .ok (.bipush 83, 2) := by decide +kernel
theorem dX11_setQuota_29 : decode cX11_setQuota 29 = .ok (.bipush 8, 2) := by decide +kernel
theorem dX11_setQuota_31 : decode cX11_setQuota 31 = .ok (.iload_n 1, 1) := by decide +kernel
theorem dX11_setQuota_32 : decode cX11_setQuota 32 = .ok (.imul, 1) := by decide +kernel
theorem dX11_setQuota_33 : decode cX11_setQuota 33 = .ok (.iadd, 1) := by decide +kernel
theorem dX11_setQuota_34 : decode cX11_setQuota 34 = .ok (.iconst 1, 1) := by decide +kernel
theorem dX11_setQuota_35 : decode cX11_setQuota 35 = .ok (.iadd, 1) := by decide +kernel
theorem dX11_setQuota_36 : decode cX11_setQuota 36 = .ok (.iaload, 1) := by decide +kernel
theorem dX11_setQuota_37 : decode cX11_setQuota 37 = .ok (.istore_n 3, 1) := by decide +kernel
theorem dX11_setQuota_38 : decode cX11_setQuota 38 = .ok (.iload_n 3, 1) := by decide +kernel
theorem dX11_setQuota_39 : decode cX11_setQuota 39 = .ok (.iload_n 2, 1) := by decide +kernel
theorem dX11_setQuota_40 : decode cX11_setQuota 40 = .ok (.if_icmp .ne 5, 3) := by decide +kernel
theorem dX11_setQuota_43 : decode cX11_setQuota 43 = .ok (.iload_n 3, 1) := by decide +kernel
theorem dX11_setQuota_44 : decode cX11_setQuota 44 = .ok (.ireturn, 1) := by decide +kernel
theorem dX11_setQuota_45 : decode cX11_setQuota 45 = .ok (.aload_n 0, 1) := by decide +kernel
theorem dX11_setQuota_46 : decode cX11_setQuota 46 = .ok (.invokevirtual 256, 3) := by decide +kernel
theorem dX11_setQuota_49 : decode cX11_setQuota 49 = .ok (.aload_n 0, 1) := by decide +kernel
theorem dX11_setQuota_50 : decode cX11_setQuota 50 = .ok (.getfield 17, 3) := by decide +kernel
theorem dX11_setQuota_53 : decode cX11_setQuota 53 = .ok (.bipush 83, 2) := by decide +kernel
theorem dX11_setQuota_55 : decode cX11_setQuota 55 = .ok (.bipush 8, 2) := by decide +kernel
theorem dX11_setQuota_57 : decode cX11_setQuota 57 = .ok (.iload_n 1, 1) := by decide +kernel
theorem dX11_setQuota_58 : decode cX11_setQuota 58 = .ok (.imul, 1) := by decide +kernel
theorem dX11_setQuota_59 : decode cX11_setQuota 59 = .ok (.iadd, 1) := by decide +kernel
theorem dX11_setQuota_60 : decode cX11_setQuota 60 = .ok (.iconst 1, 1) := by decide +kernel
theorem dX11_setQuota_61 : decode cX11_setQuota 61 = .ok (.iadd, 1) := by decide +kernel
theorem dX11_setQuota_62 : decode cX11_setQuota 62 = .ok (.iload_n 2, 1) := by decide +kernel
theorem dX11_setQuota_63 : decode cX11_setQuota 63 = .ok (.iastore, 1) := by decide +kernel
theorem dX11_setQuota_64 : decode cX11_setQuota 64 = .ok (.iload_n 3, 1) := by decide +kernel
theorem dX11_setQuota_65 : decode cX11_setQuota 65 = .ok (.ireturn, 1) := by decide +kernel
theorem dX11_countLives_0 : decode cX11_countLives 0 = .ok (.iconst 0, 1) := by decide +kernel
theorem dX11_countLives_1 : decode cX11_countLives 1 = .ok (.istore_n 1, 1) := by decide +kernel
theorem dX11_countLives_2 : decode cX11_countLives 2 = .ok (.iload_n 1, 1) := by decide +kernel
theorem dX11_countLives_3 : decode cX11_countLives 3 = .ok (.bipush 80, 2) := by decide +kernel
theorem dX11_countLives_5 : decode cX11_countLives 5 = .ok (.if_icmp .ge 23, 3) := by decide +kernel
theorem dX11_countLives_8 : decode cX11_countLives 8 = .ok (.aload_n 0, 1) := by decide +kernel
theorem dX11_countLives_9 : decode cX11_countLives 9 = .ok (.getfield 44, 3) := by decide +kernel
theorem dX11_countLives_12 : decode cX11_countLives 12 = .ok (.iload_n 1, 1) := by decide +kernel
theorem dX11_countLives_13 : decode cX11_countLives 13 = .ok (.iconst 0, 1) := by decide +kernel
theorem dX11_countLives_14 : decode cX11_countLives 14 = .ok (.iastore, 1) := by decide +kernel
theorem dX11_countLives_15 : decode cX11_countLives 15 = .ok (.aload_n 0, 1) := by decide +kernel
theorem dX11_countLives_16 : decode cX11_countLives 16 = .ok (.getfield 47, 3) := by decide +kernel
theorem dX11_countLives_19 : decode cX11_countLives 19 = .ok (.iload_n 1, 1) := by decide +kernel
theorem dX11_countLives_20 : decode cX11_countLives 20 = .ok (.iconst 0, 1) := by decide +kernel
theorem dX11_countLives_21 : decode cX11_countLives 21 = .ok (.iastore, 1) := by decide +kernel
theorem dX11_countLives_22 : decode cX11_countLives 22 = .ok (.iinc 1 1, 3) := by decide +kernel
theorem dX11_countLives_25 : decode cX11_countLives 25 = .ok (.goto (-23), 3) := by decide +kernel
theorem dX11_countLives_28 : decode cX11_countLives 28 = .ok (.iconst 0, 1) := by decide +kernel
theorem dX11_countLives_29 : decode cX11_countLives 29 = .ok (.istore_n 1, 1) := by decide +kernel
theorem dX11_countLives_30 : decode cX11_countLives 30 = .ok (.iload_n 1, 1) := by decide +kernel
theorem dX11_countLives_31 : decode cX11_countLives 31 = .ok (.aload_n 0, 1) := by decide +kernel
theorem dX11_countLives_32 : decode cX11_countLives 32 = .ok (.getfield 17, 3) := by decide +kernel
theorem dX11_countLives_35 : decode cX11_countLives 35 = .ok (.bipush 7, 2) := by decide +kernel
theorem dX11_countLives_37 : decode cX11_countLives 37 = .ok (.iaload, 1) := by decide +kernel
theorem dX11_countLives_38 : decode cX11_countLives 38 = .ok (.if_icmp .ge 67, 3) := by decide +kernel
theorem dX11_countLives_41 : decode cX11_countLives 41 = .ok (.iload_n 1, 1) := by decide +kernel
theorem dX11_countLives_42 : decode cX11_countLives 42 = .ok (.iconst 0, 1) := by decide +kernel
theorem dX11_countLives_43 : decode cX11_countLives 43 = .ok (.invokestatic 68, 3) := by decide +kernel
theorem dX11_countLives_46 : decode cX11_countLives 46 = .ok (.istore_n 2, 1) := by decide +kernel
theorem dX11_countLives_47 : decode cX11_countLives 47 = .ok (.iconst 0, 1) := by decide +kernel
theorem dX11_countLives_48 : decode cX11_countLives 48 = .ok (.istore_n 3, 1) := by decide +kernel
theorem dX11_countLives_49 : decode cX11_countLives 49 = .ok (.iload_n 3, 1) := by decide +kernel
theorem dX11_countLives_50 : decode cX11_countLives 50 = .ok (.aload_n 0, 1) := by decide +kernel
theorem dX11_countLives_51 : decode cX11_countLives 51 = .ok (.getfield 17, 3) := by decide +kernel
theorem dX11_countLives_54 : decode cX11_countLives 54 = .ok (.iconst 4, 1) := by decide +kernel
theorem dX11_countLives_55 : decode cX11_countLives 55 = .ok (.iaload, 1) := by decide +kernel
theorem dX11_countLives_56 : decode cX11_countLives 56 = .ok (.if_icmp .ge 43, 3) := by decide +kernel
theorem dX11_countLives_59 : decode cX11_countLives 59 = .ok (.aload_n 0, 1) := by decide +kernel
theorem dX11_countLives_60 : decode cX11_countLives 60 = .ok (.getfield 17, 3) := by decide +kernel
theorem dX11_countLives_63 : decode cX11_countLives 63 = .ok (.iload_n 2, 1) := by decide +kernel
theorem dX11_countLives_64 : decode cX11_countLives 64 = .ok (.iaload, 1) := by decide +kernel
theorem dX11_countLives_65 : decode cX11_countLives 65 = .ok (.ifCond .ne 25, 3) := by decide +kernel
theorem dX11_countLives_68 : decode cX11_countLives 68 = .ok (.aload_n 0, 1) := by decide +kernel
theorem dX11_countLives_69 : decode cX11_countLives 69 = .ok (.getfield 44, 3) := by decide +kernel
theorem dX11_countLives_72 : decode cX11_countLives 72 = .ok (.bipush 8, 2) := by decide +kernel
theorem dX11_countLives_74 : decode cX11_countLives 74 = .ok (.iload_n 3, 1) := by decide +kernel
theorem dX11_countLives_75 : decode cX11_countLives 75 = .ok (.imul, 1) := by decide +kernel
theorem dX11_countLives_76 : decode cX11_countLives 76 = .ok (.aload_n 0, 1) := by decide +kernel
theorem dX11_countLives_77 : decode cX11_countLives 77 = .ok (.getfield 17, 3) := by decide +kernel
theorem dX11_countLives_80 : decode cX11_countLives 80 = .ok (.iload_n 2, 1) := by decide +kernel
theorem dX11_countLives_81 : decode cX11_countLives 81 = .ok (.iconst 1, 1) := by decide +kernel
theorem dX11_countLives_82 : decode cX11_countLives 82 = .ok (.iadd, 1) := by decide +kernel
theorem dX11_countLives_83 : decode cX11_countLives 83 = .ok (.iaload, 1) := by decide +kernel
theorem dX11_countLives_84 : decode cX11_countLives 84 = .ok (.iadd, 1) := by decide +kernel
theorem dX11_countLives_85 : decode cX11_countLives 85 = .ok (.dup2, 1) := by decide +kernel
theorem dX11_countLives_86 : decode cX11_countLives 86 = .ok (.iaload, 1) := by decide +kernel
theorem dX11_countLives_87 : decode cX11_countLives 87 = .ok (.iconst 1, 1) := by decide +kernel
theorem dX11_countLives_88 : decode cX11_countLives 88 = .ok (.iadd, 1) := by decide +kernel
theorem dX11_countLives_89 : decode cX11_countLives 89 = .ok (.iastore, 1) := by decide +kernel
theorem dX11_countLives_90 : decode cX11_countLives 90 = .ok (.iinc 2 3, 3) := by decide +kernel
theorem dX11_countLives_93 : decode cX11_countLives 93 = .ok (.iinc 3 1, 3) := by decide +kernel
theorem dX11_countLives_96 : decode cX11_countLives 96 = .ok (.goto (-47), 3) := by decide +kernel
theorem dX11_countLives_99 : decode cX11_countLives 99 = .ok (.iinc 1 1, 3) := by decide +kernel
theorem dX11_countLives_102 : decode cX11_countLives 102 = .ok (.goto (-72), 3) := by decide +kernel
theorem dX11_countLives_105 : decode cX11_countLives 105 = .ok (.return_, 1) := by decide +kernel
theorem dX11_isDue_0 : decode cX11_isDue 0 = .ok (.aload_n 0, 1) := by decide +kernel
theorem dX11_isDue_1 : decode cX11_isDue 1 = .ok (.getfield 17, 3) := by decide +kernel
theorem dX11_isDue_4 : decode cX11_isDue 4 = .ok (.iload_n 1, 1) := by decide +kernel
theorem dX11_isDue_5 : decode cX11_isDue 5 = .ok (.iconst 1, 1) := by decide +kernel
theorem dX11_isDue_6 : decode cX11_isDue 6 = .ok (.iadd, 1) := by decide +kernel
theorem dX11_isDue_7 : decode cX11_isDue 7 = .ok (.iaload, 1) := by decide +kernel
theorem dX11_isDue_8 : decode cX11_isDue 8 = .ok (.istore_n 3, 1) := by decide +kernel
theorem dX11_isDue_9 : decode cX11_isDue 9 = .ok (.aload_n 0, 1) := by decide +kernel
theorem dX11_isDue_10 : decode cX11_isDue 10 = .ok (.getfield 17, 3) := by decide +kernel
theorem dX11_isDue_13 : decode cX11_isDue 13 = .ok (.bipush 11, 2) := by decide +kernel
theorem dX11_isDue_15 : decode cX11_isDue 15 = .ok (.bipush 9, 2) := by decide +kernel
theorem dX11_isDue_17 : decode cX11_isDue 17 = .ok (.iload_n 3, 1) := by decide +kernel
theorem dX11_isDue_18 : decode cX11_isDue 18 = .ok (.imul, 1) := by decide +kernel
theorem dX11_isDue_19 : decode cX11_isDue 19 = .ok (.iadd, 1) := by decide +kernel
theorem dX11_isDue_20 : decode cX11_isDue 20 = .ok (.iconst 0, 1) := by decide +kernel
theorem dX11_isDue_21 : decode cX11_isDue 21 = .ok (.iadd, 1) := by decide +kernel
theorem dX11_isDue_22 : decode cX11_isDue 22 = .ok (.iaload, 1) := by decide +kernel
theorem dX11_isDue_23 : decode cX11_isDue 23 = .ok (.istore 4, 2) := by decide +kernel
theorem dX11_isDue_25 : decode cX11_isDue 25 = .ok (.iload 4, 2) := by decide +kernel
theorem dX11_isDue_27 : decode cX11_isDue 27 = .ok (.iconst (-1), 1) := by decide +kernel
theorem dX11_isDue_28 : decode cX11_isDue 28 = .ok (.if_icmp .eq 23, 3) := by decide +kernel
theorem dX11_isDue_31 : decode cX11_isDue 31 = .ok (.aload_n 0, 1) := by decide +kernel
theorem dX11_isDue_32 : decode cX11_isDue 32 = .ok (.getfield 17, 3) := by decide +kernel
theorem dX11_isDue_35 : decode cX11_isDue 35 = .ok (.iconst 2, 1) := by decide +kernel
theorem dX11_isDue_36 : decode cX11_isDue 36 = .ok (.iaload, 1) := by decide +kernel
theorem dX11_isDue_37 : decode cX11_isDue 37 = .ok (.aload_n 0, 1) := by decide +kernel
theorem dX11_isDue_38 : decode cX11_isDue 38 = .ok (.getfield 17, 3) := by decide +kernel
theorem dX11_isDue_41 : decode cX11_isDue 41 = .ok (.iload_n 1, 1) := by decide +kernel
theorem dX11_isDue_42 : decode cX11_isDue 42 = .ok (.iconst 2, 1) := by decide +kernel
theorem dX11_isDue_43 : decode cX11_isDue 43 = .ok (.iadd, 1) := by decide +kernel
theorem dX11_isDue_44 : decode cX11_isDue 44 = .ok (.iaload, 1) := by decide +kernel
theorem dX11_isDue_45 : decode cX11_isDue 45 = .ok (.isub, 1) := by decide +kernel
theorem dX11_isDue_46 : decode cX11_isDue 46 = .ok (.iload 4, 2) := by decide +kernel
theorem dX11_isDue_48 : decode cX11_isDue 48 = .ok (.if_icmp .ge 5, 3) := by decide +kernel
theorem dX11_isDue_51 : decode cX11_isDue 51 = .ok (.iconst 0, 1) := by decide +kernel
theorem dX11_isDue_52 : decode cX11_isDue 52 = .ok (.ireturn, 1) := by decide +kernel
theorem dX11_isDue_53 : decode cX11_isDue 53 = .ok (.bipush 8, 2) := by decide +kernel
theorem dX11_isDue_55 : decode cX11_isDue 55 = .ok (.iload_n 2, 1) := by decide +kernel
theorem dX11_isDue_56 : decode cX11_isDue 56 = .ok (.imul, 1) := by decide +kernel
theorem dX11_isDue_57 : decode cX11_isDue 57 = .ok (.iload_n 3, 1) := by decide +kernel
theorem dX11_isDue_58 : decode cX11_isDue 58 = .ok (.iadd, 1) := by decide +kernel
theorem dX11_isDue_59 : decode cX11_isDue 59 = .ok (.istore 5, 2) := by decide +kernel
theorem dX11_isDue_61 : decode cX11_isDue 61 = .ok (.aload_n 0, 1) := by decide +kernel
theorem dX11_isDue_62 : decode cX11_isDue 62 = .ok (.getfield 44, 3) := by decide +kernel
theorem dX11_isDue_65 : decode cX11_isDue 65 = .ok (.iload 5, 2) := by decide +kernel
theorem dX11_isDue_67 : decode cX11_isDue 67 = .ok (.iaload, 1) := by decide +kernel
theorem dX11_isDue_68 : decode cX11_isDue 68 = .ok (.aload_n 0, 1) := by decide +kernel
theorem dX11_isDue_69 : decode cX11_isDue 69 = .ok (.getfield 47, 3) := by decide +kernel
theorem dX11_isDue_72 : decode cX11_isDue 72 = .ok (.iload 5, 2) := by decide +kernel
theorem dX11_isDue_74 : decode cX11_isDue 74 = .ok (.iaload, 1) := by decide +kernel
theorem dX11_isDue_75 : decode cX11_isDue 75 = .ok (.isub, 1) := by decide +kernel
theorem dX11_isDue_76 : decode cX11_isDue 76 = .ok (.iconst 1, 1) := by decide +kernel
theorem dX11_isDue_77 : decode cX11_isDue 77 = .ok (.isub, 1) := by decide +kernel
theorem dX11_isDue_78 : decode cX11_isDue 78 = .ok (.aload_n 0, 1) := by decide +kernel
theorem dX11_isDue_79 : decode cX11_isDue 79 = .ok (.getfield 17, 3) := by decide +kernel
theorem dX11_isDue_82 : decode cX11_isDue 82 = .ok (.bipush 11, 2) := by decide +kernel
theorem dX11_isDue_84 : decode cX11_isDue 84 = .ok (.bipush 9, 2) := by decide +kernel
theorem dX11_isDue_86 : decode cX11_isDue 86 = .ok (.iload_n 3, 1) := by decide +kernel
theorem dX11_isDue_87 : decode cX11_isDue 87 = .ok (.imul, 1) := by decide +kernel
theorem dX11_isDue_88 : decode cX11_isDue 88 = .ok (.iadd, 1) := by decide +kernel
theorem dX11_isDue_89 : decode cX11_isDue 89 = .ok (.iconst 1, 1) := by decide +kernel
theorem dX11_isDue_90 : decode cX11_isDue 90 = .ok (.iadd, 1) := by decide +kernel
theorem dX11_isDue_91 : decode cX11_isDue 91 = .ok (.iaload, 1) := by decide +kernel
theorem dX11_isDue_92 : decode cX11_isDue 92 = .ok (.if_icmp .lt 7, 3) := by decide +kernel
theorem dX11_isDue_95 : decode cX11_isDue 95 = .ok (.iconst 1, 1) := by decide +kernel
theorem dX11_isDue_96 : decode cX11_isDue 96 = .ok (.goto 4, 3) := by decide +kernel
theorem dX11_isDue_99 : decode cX11_isDue 99 = .ok (.iconst 0, 1) := by decide +kernel
theorem dX11_isDue_100 : decode cX11_isDue 100 = .ok (.ireturn, 1) := by decide +kernel
theorem dX11_leave_0 : decode cX11_leave 0 = .ok (.aload_n 0, 1) := by decide +kernel
theorem dX11_leave_1 : decode cX11_leave 1 = .ok (.getfield 44, 3) := by decide +kernel
theorem dX11_leave_4 : decode cX11_leave 4 = .ok (.bipush 8, 2) := by decide +kernel
theorem dX11_leave_6 : decode cX11_leave 6 = .ok (.iload_n 2, 1) := by decide +kernel
theorem dX11_leave_7 : decode cX11_leave 7 = .ok (.imul, 1) := by decide +kernel
theorem dX11_leave_8 : decode cX11_leave 8 = .ok (.aload_n 0, 1) := by decide +kernel
theorem dX11_leave_9 : decode cX11_leave 9 = .ok (.getfield 17, 3) := by decide +kernel
theorem dX11_leave_12 : decode cX11_leave 12 = .ok (.iload_n 1, 1) := by decide +kernel
theorem dX11_leave_13 : decode cX11_leave 13 = .ok (.iload_n 2, 1) := by decide +kernel
theorem dX11_leave_14 : decode cX11_leave 14 = .ok (.invokestatic 68, 3) := by decide +kernel
theorem dX11_leave_17 : decode cX11_leave 17 = .ok (.iconst 1, 1) := by decide +kernel
theorem dX11_leave_18 : decode cX11_leave 18 = .ok (.iadd, 1) := by decide +kernel
theorem dX11_leave_19 : decode cX11_leave 19 = .ok (.iaload, 1) := by decide +kernel
theorem dX11_leave_20 : decode cX11_leave 20 = .ok (.iadd, 1) := by decide +kernel
theorem dX11_leave_21 : decode cX11_leave 21 = .ok (.dup2, 1) := by decide +kernel
theorem dX11_leave_22 : decode cX11_leave 22 = .ok (.iaload, 1) := by decide +kernel
theorem dX11_leave_23 : decode cX11_leave 23 = .ok (.iconst 1, 1) := by decide +kernel
theorem dX11_leave_24 : decode cX11_leave 24 = .ok (.isub, 1) := by decide +kernel
theorem dX11_leave_25 : decode cX11_leave 25 = .ok (.iastore, 1) := by decide +kernel
theorem dX11_leave_26 : decode cX11_leave 26 = .ok (.iload_n 3, 1) := by decide +kernel
theorem dX11_leave_27 : decode cX11_leave 27 = .ok (.iconst (-1), 1) := by decide +kernel
theorem dX11_leave_28 : decode cX11_leave 28 = .ok (.if_icmp .ne 14, 3) := by decide +kernel
theorem dX11_leave_31 : decode cX11_leave 31 = .ok (.aload_n 0, 1) := by decide +kernel
theorem dX11_leave_32 : decode cX11_leave 32 = .ok (.iload_n 1, 1) := by decide +kernel
theorem dX11_leave_33 : decode cX11_leave 33 = .ok (.iload_n 2, 1) := by decide +kernel
theorem dX11_leave_34 : decode cX11_leave 34 = .ok (.iconst 2, 1) := by decide +kernel
theorem dX11_leave_35 : decode cX11_leave 35 = .ok (.invokevirtual 416, 3) := by decide +kernel
theorem dX11_leave_38 : decode cX11_leave 38 = .ok (.pop, 1) := by decide +kernel
theorem dX11_leave_39 : decode cX11_leave 39 = .ok (.goto 31, 3) := by decide +kernel
theorem dX11_leave_42 : decode cX11_leave 42 = .ok (.aload_n 0, 1) := by decide +kernel
theorem dX11_leave_43 : decode cX11_leave 43 = .ok (.iload_n 1, 1) := by decide +kernel
theorem dX11_leave_44 : decode cX11_leave 44 = .ok (.iload_n 2, 1) := by decide +kernel
theorem dX11_leave_45 : decode cX11_leave 45 = .ok (.iload_n 3, 1) := by decide +kernel
theorem dX11_leave_46 : decode cX11_leave 46 = .ok (.invokevirtual 413, 3) := by decide +kernel
theorem dX11_leave_49 : decode cX11_leave 49 = .ok (.aload_n 0, 1) := by decide +kernel
theorem dX11_leave_50 : decode cX11_leave 50 = .ok (.getfield 44, 3) := by decide +kernel
theorem dX11_leave_53 : decode cX11_leave 53 = .ok (.bipush 8, 2) := by decide +kernel
theorem dX11_leave_55 : decode cX11_leave 55 = .ok (.iload_n 2, 1) := by decide +kernel
theorem dX11_leave_56 : decode cX11_leave 56 = .ok (.imul, 1) := by decide +kernel
theorem dX11_leave_57 : decode cX11_leave 57 = .ok (.iload_n 3, 1) := by decide +kernel
theorem dX11_leave_58 : decode cX11_leave 58 = .ok (.iadd, 1) := by decide +kernel
theorem dX11_leave_59 : decode cX11_leave 59 = .ok (.dup2, 1) := by decide +kernel
theorem dX11_leave_60 : decode cX11_leave 60 = .ok (.iaload, 1) := by decide +kernel
theorem dX11_leave_61 : decode cX11_leave 61 = .ok (.iconst 1, 1) := by decide +kernel
theorem dX11_leave_62 : decode cX11_leave 62 = .ok (.iadd, 1) := by decide +kernel
theorem dX11_leave_63 : decode cX11_leave 63 = .ok (.iastore, 1) := by decide +kernel
theorem dX11_leave_64 : decode cX11_leave 64 = .ok (.aload_n 0, 1) := by decide +kernel
theorem dX11_leave_65 : decode cX11_leave 65 = .ok (.iconst 3, 1) := by decide +kernel
theorem dX11_leave_66 : decode cX11_leave 66 = .ok (.iload_n 1, 1) := by decide +kernel
theorem dX11_leave_67 : decode cX11_leave 67 = .ok (.invokevirtual 315, 3) := by decide +kernel
theorem dX11_leave_70 : decode cX11_leave 70 = .ok (.return_, 1) := by decide +kernel
theorem dX11_leaveAll_0 : decode cX11_leaveAll 0 = .ok (.iconst 0, 1) := by decide +kernel
theorem dX11_leaveAll_1 : decode cX11_leaveAll 1 = .ok (.istore_n 1, 1) := by decide +kernel
theorem dX11_leaveAll_2 : decode cX11_leaveAll 2 = .ok (.aload_n 0, 1) := by decide +kernel
theorem dX11_leaveAll_3 : decode cX11_leaveAll 3 = .ok (.invokevirtual 427, 3) := by decide +kernel
theorem dX11_leaveAll_6 : decode cX11_leaveAll 6 = .ok (.iconst 0, 1) := by decide +kernel
theorem dX11_leaveAll_7 : decode cX11_leaveAll 7 = .ok (.istore_n 2, 1) := by decide +kernel
theorem dX11_leaveAll_8 : decode cX11_leaveAll 8 = .ok (.iload_n 2, 1) := by decide +kernel
theorem dX11_leaveAll_9 : decode cX11_leaveAll 9 = .ok (.aload_n 0, 1) := by decide +kernel
theorem dX11_leaveAll_10 : decode cX11_leaveAll 10 = .ok (.getfield 17, 3) := by decide +kernel
theorem dX11_leaveAll_13 : decode cX11_leaveAll 13 = .ok (.bipush 7, 2) := by decide +kernel
theorem dX11_leaveAll_15 : decode cX11_leaveAll 15 = .ok (.iaload, 1) := by decide +kernel
theorem dX11_leaveAll_16 : decode cX11_leaveAll 16 = .ok (.if_icmp .ge 111, 3) := by decide +kernel
theorem dX11_leaveAll_19 : decode cX11_leaveAll 19 = .ok (.iload_n 2, 1) := by decide +kernel
theorem dX11_leaveAll_20 : decode cX11_leaveAll 20 = .ok (.iconst 0, 1) := by decide +kernel
theorem dX11_leaveAll_21 : decode cX11_leaveAll 21 = .ok (.invokestatic 68, 3) := by decide +kernel
theorem dX11_leaveAll_24 : decode cX11_leaveAll 24 = .ok (.istore_n 3, 1) := by decide +kernel
theorem dX11_leaveAll_25 : decode cX11_leaveAll 25 = .ok (.iconst 0, 1) := by decide +kernel
theorem dX11_leaveAll_26 : decode cX11_leaveAll 26 = .ok (.istore 4, 2) := by decide +kernel
theorem dX11_leaveAll_28 : decode cX11_leaveAll 28 = .ok (.iload 4, 2) := by decide +kernel
theorem dX11_leaveAll_30 : decode cX11_leaveAll 30 = .ok (.aload_n 0, 1) := by decide +kernel
theorem dX11_leaveAll_31 : decode cX11_leaveAll 31 = .ok (.getfield 17, 3) := by decide +kernel
theorem dX11_leaveAll_34 : decode cX11_leaveAll 34 = .ok (.iconst 4, 1) := by decide +kernel
theorem dX11_leaveAll_35 : decode cX11_leaveAll 35 = .ok (.iaload, 1) := by decide +kernel
theorem dX11_leaveAll_36 : decode cX11_leaveAll 36 = .ok (.if_icmp .ge 85, 3) := by decide +kernel
theorem dX11_leaveAll_39 : decode cX11_leaveAll 39 = .ok (.aload_n 0, 1) := by decide +kernel
theorem dX11_leaveAll_40 : decode cX11_leaveAll 40 = .ok (.getfield 17, 3) := by decide +kernel
theorem dX11_leaveAll_43 : decode cX11_leaveAll 43 = .ok (.iload_n 3, 1) := by decide +kernel
theorem dX11_leaveAll_44 : decode cX11_leaveAll 44 = .ok (.iaload, 1) := by decide +kernel
theorem dX11_leaveAll_45 : decode cX11_leaveAll 45 = .ok (.ifCond .ne 35, 3) := by decide +kernel
theorem dX11_leaveAll_48 : decode cX11_leaveAll 48 = .ok (.aload_n 0, 1) := by decide +kernel
theorem dX11_leaveAll_49 : decode cX11_leaveAll 49 = .ok (.iload_n 3, 1) := by decide +kernel
theorem dX11_leaveAll_50 : decode cX11_leaveAll 50 = .ok (.iload 4, 2) := by decide +kernel
theorem dX11_leaveAll_52 : decode cX11_leaveAll 52 = .ok (.invokevirtual 430, 3) := by decide +kernel
theorem dX11_leaveAll_55 : decode cX11_leaveAll 55 = .ok (.ifCond .eq 25, 3) := by decide +kernel
theorem dX11_leaveAll_58 : decode cX11_leaveAll 58 = .ok (.aload_n 0, 1) := by decide +kernel
theorem dX11_leaveAll_59 : decode cX11_leaveAll 59 = .ok (.iload_n 2, 1) := by decide +kernel
theorem dX11_leaveAll_60 : decode cX11_leaveAll 60 = .ok (.iload 4, 2) := by decide +kernel
theorem dX11_leaveAll_62 : decode cX11_leaveAll 62 = .ok (.aload_n 0, 1) := by decide +kernel
theorem dX11_leaveAll_63 : decode cX11_leaveAll 63 = .ok (.aload_n 0, 1) := by decide +kernel
theorem dX11_leaveAll_64 : decode cX11_leaveAll 64 = .ok (.getfield 17, 3) := by decide +kernel
theorem dX11_leaveAll_67 : decode cX11_leaveAll 67 = .ok (.iload_n 3, 1) := by decide +kernel
theorem dX11_leaveAll_68 : decode cX11_leaveAll 68 = .ok (.iconst 1, 1) := by decide +kernel
theorem dX11_leaveAll_69 : decode cX11_leaveAll 69 = .ok (.iadd, 1) := by decide +kernel
theorem dX11_leaveAll_70 : decode cX11_leaveAll 70 = .ok (.iaload, 1) := by decide +kernel
theorem dX11_leaveAll_71 : decode cX11_leaveAll 71 = .ok (.iconst 2, 1) := by decide +kernel
theorem dX11_leaveAll_72 : decode cX11_leaveAll 72 = .ok (.invokevirtual 271, 3) := by decide +kernel
theorem dX11_leaveAll_75 : decode cX11_leaveAll 75 = .ok (.invokevirtual 433, 3) := by decide +kernel
theorem dX11_leaveAll_78 : decode cX11_leaveAll 78 = .ok (.iconst 1, 1) := by decide +kernel
theorem dX11_leaveAll_79 : decode cX11_leaveAll 79 = .ok (.istore_n 1, 1) := by decide +kernel
theorem dX11_leaveAll_80 : decode cX11_leaveAll 80 = .ok (.aload_n 0, 1) := by decide +kernel
theorem dX11_leaveAll_81 : decode cX11_leaveAll 81 = .ok (.getfield 17, 3) := by decide +kernel
theorem dX11_leaveAll_84 : decode cX11_leaveAll 84 = .ok (.iload_n 3, 1) := by decide +kernel
theorem dX11_leaveAll_85 : decode cX11_leaveAll 85 = .ok (.iaload, 1) := by decide +kernel
theorem dX11_leaveAll_86 : decode cX11_leaveAll 86 = .ok (.ifCond .ne 26, 3) := by decide +kernel
theorem dX11_leaveAll_89 : decode cX11_leaveAll 89 = .ok (.aload_n 0, 1) := by decide +kernel
theorem dX11_leaveAll_90 : decode cX11_leaveAll 90 = .ok (.getfield 47, 3) := by decide +kernel
theorem dX11_leaveAll_93 : decode cX11_leaveAll 93 = .ok (.bipush 8, 2) := by decide +kernel
theorem dX11_leaveAll_95 : decode cX11_leaveAll 95 = .ok (.iload 4, 2) := by decide +kernel
theorem dX11_leaveAll_97 : decode cX11_leaveAll 97 = .ok (.imul, 1) := by decide +kernel
theorem dX11_leaveAll_98 : decode cX11_leaveAll 98 = .ok (.aload_n 0, 1) := by decide +kernel
theorem dX11_leaveAll_99 : decode cX11_leaveAll 99 = .ok (.getfield 17, 3) := by decide +kernel
theorem dX11_leaveAll_102 : decode cX11_leaveAll 102 = .ok (.iload_n 3, 1) := by decide +kernel
theorem dX11_leaveAll_103 : decode cX11_leaveAll 103 = .ok (.iconst 1, 1) := by decide +kernel
theorem dX11_leaveAll_104 : decode cX11_leaveAll 104 = .ok (.iadd, 1) := by decide +kernel
theorem dX11_leaveAll_105 : decode cX11_leaveAll 105 = .ok (.iaload, 1) := by decide +kernel
theorem dX11_leaveAll_106 : decode cX11_leaveAll 106 = .ok (.iadd, 1) := by decide +kernel
theorem dX11_leaveAll_107 : decode cX11_leaveAll 107 = .ok (.dup2, 1) := by decide +kernel
theorem dX11_leaveAll_108 : decode cX11_leaveAll 108 = .ok (.iaload, 1) := by decide +kernel
theorem dX11_leaveAll_109 : decode cX11_leaveAll 109 = .ok (.iconst 1, 1) := by decide +kernel
theorem dX11_leaveAll_110 : decode cX11_leaveAll 110 = .ok (.iadd, 1) := by decide +kernel
theorem dX11_leaveAll_111 : decode cX11_leaveAll 111 = .ok (.iastore, 1) := by decide +kernel
theorem dX11_leaveAll_112 : decode cX11_leaveAll 112 = .ok (.iinc 3 3, 3) := by decide +kernel
theorem dX11_leaveAll_115 : decode cX11_leaveAll 115 = .ok (.iinc 4 1, 3) := by decide +kernel
theorem dX11_leaveAll_118 : decode cX11_leaveAll 118 = .ok (.goto (-90), 3) := by decide +kernel
theorem dX11_leaveAll_121 : decode cX11_leaveAll 121 = .ok (.iinc 2 1, 3) := by decide +kernel
theorem dX11_leaveAll_124 : decode cX11_leaveAll 124 = .ok (.goto (-116), 3) := by decide +kernel
theorem dX11_leaveAll_127 : decode cX11_leaveAll 127 = .ok (.iload_n 1, 1) := by decide +kernel
theorem dX11_leaveAll_128 : decode cX11_leaveAll 128 = .ok (.ireturn, 1) := by decide +kernel
theorem dX11_layAging_0 : decode cX11_layAging 0 = .ok (.aload_n 0, 1) := by decide +kernel
theorem dX11_layAging_1 : decode cX11_layAging 1 = .ok (.ldc_w 438, 3) := by decide +kernel
theorem dX11_layAging_4 : decode cX11_layAging 4 = .ok (.putfield 439, 3) := by decide +kernel
theorem dX11_layAging_7 : decode cX11_layAging 7 = .ok (.iconst 0, 1) := by decide +kernel
theorem dX11_layAging_8 : decode cX11_layAging 8 = .ok (.istore_n 1, 1) := by decide +kernel
theorem dX11_layAging_9 : decode cX11_layAging 9 = .ok (.iload_n 1, 1) := by decide +kernel
theorem dX11_layAging_10 : decode cX11_layAging 10 = .ok (.aload_n 0, 1) := by decide +kernel
theorem dX11_layAging_11 : decode cX11_layAging 11 = .ok (.getfield 17, 3) := by decide +kernel
theorem dX11_layAging_14 : decode cX11_layAging 14 = .ok (.bipush 7, 2) := by decide +kernel
theorem dX11_layAging_16 : decode cX11_layAging 16 = .ok (.iaload, 1) := by decide +kernel
theorem dX11_layAging_17 : decode cX11_layAging 17 = .ok (.if_icmp .ge 117, 3) := by decide +kernel
theorem dX11_layAging_20 : decode cX11_layAging 20 = .ok (.iload_n 1, 1) := by decide +kernel
theorem dX11_layAging_21 : decode cX11_layAging 21 = .ok (.iconst 0, 1) := by decide +kernel
theorem dX11_layAging_22 : decode cX11_layAging 22 = .ok (.invokestatic 68, 3) := by decide +kernel
theorem dX11_layAging_25 : decode cX11_layAging 25 = .ok (.istore_n 2, 1) := by decide +kernel
theorem dX11_layAging_26 : decode cX11_layAging 26 = .ok (.iconst 0, 1) := by decide +kernel
theorem dX11_layAging_27 : decode cX11_layAging 27 = .ok (.istore_n 3, 1) := by decide +kernel
theorem dX11_layAging_28 : decode cX11_layAging 28 = .ok (.iload_n 3, 1) := by decide +kernel
theorem dX11_layAging_29 : decode cX11_layAging 29 = .ok (.aload_n 0, 1) := by decide +kernel
theorem dX11_layAging_30 : decode cX11_layAging 30 = .ok (.getfield 17, 3) := by decide +kernel
theorem dX11_layAging_33 : decode cX11_layAging 33 = .ok (.iconst 4, 1) := by decide +kernel
theorem dX11_layAging_34 : decode cX11_layAging 34 = .ok (.iaload, 1) := by decide +kernel
theorem dX11_layAging_35 : decode cX11_layAging 35 = .ok (.if_icmp .ge 93, 3) := by decide +kernel
theorem dX11_layAging_38 : decode cX11_layAging 38 = .ok (.aload_n 0, 1) := by decide +kernel
theorem dX11_layAging_39 : decode cX11_layAging 39 = .ok (.getfield 17, 3) := by decide +kernel
theorem dX11_layAging_42 : decode cX11_layAging 42 = .ok (.iload_n 2, 1) := by decide +kernel
theorem dX11_layAging_43 : decode cX11_layAging 43 = .ok (.iaload, 1) := by decide +kernel
theorem dX11_layAging_44 : decode cX11_layAging 44 = .ok (.ifCond .ne 27, 3) := by decide +kernel
theorem dX11_layAging_47 : decode cX11_layAging 47 = .ok (.aload_n 0, 1) := by decide +kernel
theorem dX11_layAging_48 : decode cX11_layAging 48 = .ok (.getfield 17, 3) := by decide +kernel
theorem dX11_layAging_51 : decode cX11_layAging 51 = .ok (.bipush 11, 2) := by decide +kernel
theorem dX11_layAging_53 : decode cX11_layAging 53 = .ok (.bipush 9, 2) := by decide +kernel
theorem dX11_layAging_55 : decode cX11_layAging 55 = .ok (.aload_n 0, 1) := by decide +kernel
theorem dX11_layAging_56 : decode cX11_layAging 56 = .ok (.getfield 17, 3) := by decide +kernel
theorem dX11_layAging_59 : decode cX11_layAging 59 = .ok (.iload_n 2, 1) := by decide +kernel
theorem dX11_layAging_60 : decode cX11_layAging 60 = .ok (.iconst 1, 1) := by decide +kernel
theorem dX11_layAging_61 : decode cX11_layAging 61 = .ok (.iadd, 1) := by decide +kernel
theorem dX11_layAging_62 : decode cX11_layAging 62 = .ok (.iaload, 1) := by decide +kernel
theorem dX11_layAging_63 : decode cX11_layAging 63 = .ok (.imul, 1) := by decide +kernel
theorem dX11_layAging_64 : decode cX11_layAging 64 = .ok (.iadd, 1) := by decide +kernel
theorem dX11_layAging_65 : decode cX11_layAging 65 = .ok (.iconst 0, 1) := by decide +kernel
theorem dX11_layAging_66 : decode cX11_layAging 66 = .ok (.iadd, 1) := by decide +kernel
theorem dX11_layAging_67 : decode cX11_layAging 67 = .ok (.iaload, 1) := by decide +kernel
theorem dX11_layAging_68 : decode cX11_layAging 68 = .ok (.goto 4, 3) := by decide +kernel
theorem dX11_layAging_71 : decode cX11_layAging 71 = .ok (.iconst (-1), 1) := by decide +kernel
theorem dX11_layAging_72 : decode cX11_layAging 72 = .ok (.istore 4, 2) := by decide +kernel
theorem dX11_layAging_74 : decode cX11_layAging 74 = .ok (.aload_n 0, 1) := by decide +kernel
theorem dX11_layAging_75 : decode cX11_layAging 75 = .ok (.getfield 17, 3) := by decide +kernel
theorem dX11_layAging_78 : decode cX11_layAging 78 = .ok (.iload_n 2, 1) := by decide +kernel
theorem dX11_layAging_79 : decode cX11_layAging 79 = .ok (.iconst 2, 1) := by decide +kernel
theorem dX11_layAging_80 : decode cX11_layAging 80 = .ok (.iadd, 1) := by decide +kernel
theorem dX11_layAging_81 : decode cX11_layAging 81 = .ok (.iaload, 1) := by decide +kernel
theorem dX11_layAging_82 : decode cX11_layAging 82 = .ok (.iload 4, 2) := by decide +kernel
theorem dX11_layAging_84 : decode cX11_layAging 84 = .ok (.iadd, 1) := by decide +kernel
theorem dX11_layAging_85 : decode cX11_layAging 85 = .ok (.istore 5, 2) := by decide +kernel
theorem dX11_layAging_87 : decode cX11_layAging 87 = .ok (.iload 4, 2) := by decide +kernel
theorem dX11_layAging_89 : decode cX11_layAging 89 = .ok (.iconst (-1), 1) := by decide +kernel
theorem dX11_layAging_90 : decode cX11_layAging 90 = .ok (.if_icmp .eq 29, 3) := by decide +kernel
theorem dX11_layAging_93 : decode cX11_layAging 93 = .ok (.iload 5, 2) := by decide +kernel
theorem dX11_layAging_95 : decode cX11_layAging 95 = .ok (.aload_n 0, 1) := by decide +kernel
theorem dX11_layAging_96 : decode cX11_layAging 96 = .ok (.getfield 17, 3) := by decide +kernel
theorem dX11_layAging_99 : decode cX11_layAging 99 = .ok (.iconst 2, 1) := by decide +kernel
theorem dX11_layAging_100 : decode cX11_layAging 100 = .ok (.iaload, 1) := by decide +kernel
theorem dX11_layAging_101 : decode cX11_layAging 101 = .ok (.if_icmp .le 18, 3) := by decide +kernel
theorem dX11_layAging_104 : decode cX11_layAging 104 = .ok (.iload 5, 2) := by decide +kernel
theorem dX11_layAging_106 : decode cX11_layAging 106 = .ok (.aload_n 0, 1) := by decide +kernel
theorem dX11_layAging_107 : decode cX11_layAging 107 = .ok (.getfield 439, 3) := by decide +kernel
theorem dX11_layAging_110 : decode cX11_layAging 110 = .ok (.if_icmp .ge 9, 3) := by decide +kernel
theorem dX11_layAging_113 : decode cX11_layAging 113 = .ok (.aload_n 0, 1) := by decide +kernel
theorem dX11_layAging_114 : decode cX11_layAging 114 = .ok (.iload 5, 2) := by decide +kernel
theorem dX11_layAging_116 : decode cX11_layAging 116 = .ok (.putfield 439, 3) := by decide +kernel
theorem dX11_layAging_119 : decode cX11_layAging 119 = .ok (.iinc 2 3, 3) := by decide +kernel
theorem dX11_layAging_122 : decode cX11_layAging 122 = .ok (.iinc 3 1, 3) := by decide +kernel
theorem dX11_layAging_125 : decode cX11_layAging 125 = .ok (.goto (-97), 3) := by decide +kernel
theorem dX11_layAging_128 : decode cX11_layAging 128 = .ok (.iinc 1 1, 3) := by decide +kernel
theorem dX11_layAging_131 : decode cX11_layAging 131 = .ok (.goto (-122), 3) := by decide +kernel
theorem dX11_layAging_134 : decode cX11_layAging 134 = .ok (.return_, 1) := by decide +kernel
theorem dX11_leaveInThought_0 : decode cX11_leaveInThought 0 = .ok (.aload_n 0, 1) := by decide +kernel
theorem dX11_leaveInThought_1 : decode cX11_leaveInThought 1 = .ok (.getfield 442, 3) := by decide +kernel
theorem dX11_leaveInThought_4 : decode cX11_leaveInThought 4 = .ok (.ifCond .eq 17, 3) := by decide +kernel
theorem dX11_leaveInThought_7 : decode cX11_leaveInThought 7 = .ok (.aload_n 0, 1) := by decide +kernel
theorem dX11_leaveInThought_8 : decode cX11_leaveInThought 8 = .ok (.getfield 17, 3) := by decide +kernel
theorem dX11_leaveInThought_11 : decode cX11_leaveInThought 11 = .ok (.iconst 2, 1) := by decide +kernel
theorem dX11_leaveInThought_12 : decode cX11_leaveInThought 12 = .ok (.iaload, 1) := by decide +kernel
theorem dX11_leaveInThought_13 : decode cX11_leaveInThought 13 = .ok (.aload_n 0, 1) := by decide +kernel
theorem dX11_leaveInThought_14 : decode cX11_leaveInThought 14 = .ok (.getfield 439, 3) := by decide +kernel
theorem dX11_leaveInThought_17 : decode cX11_leaveInThought 17 = .ok (.if_icmp .ge 4, 3) := by decide +kernel
theorem dX11_leaveInThought_20 : decode cX11_leaveInThought 20 = .ok (.return_, 1) := by decide +kernel
theorem dX11_leaveInThought_21 : decode cX11_leaveInThought 21 = .ok (.aload_n 0, 1) := by decide +kernel
theorem dX11_leaveInThought_22 : decode cX11_leaveInThought 22 = .ok (.aload_n 0, 1) := by decide +kernel
theorem dX11_leaveInThought_23 : decode cX11_leaveInThought 23 = .ok (.invokevirtual 445, 3) := by decide +kernel
theorem dX11_leaveInThought_26 : decode cX11_leaveInThought 26 = .ok (.ifCond .ne 7, 3) := by decide +kernel
theorem dX11_leaveInThought_29 : decode cX11_leaveInThought 29 = .ok (.iconst 1, 1) := by decide +kernel
theorem dX11_leaveInThought_30 : decode cX11_leaveInThought 30 = .ok (.goto 4, 3) := by decide +kernel
theorem dX11_leaveInThought_33 : decode cX11_leaveInThought 33 = .ok (.iconst 0, 1) := by decide +kernel
theorem dX11_leaveInThought_34 : decode cX11_leaveInThought 34 = .ok (.putfield 442, 3) := by decide +kernel
theorem dX11_leaveInThought_37 : decode cX11_leaveInThought 37 = .ok (.aload_n 0, 1) := by decide +kernel
theorem dX11_leaveInThought_38 : decode cX11_leaveInThought 38 = .ok (.invokevirtual 448, 3) := by decide +kernel
theorem dX11_leaveInThought_41 : decode cX11_leaveInThought 41 = .ok (.return_, 1) := by decide +kernel
theorem dX11_round_0 : decode cX11_round 0 = .ok (.iconst 0, 1) := by decide +kernel
theorem dX11_round_1 : decode cX11_round 1 = .ok (.istore_n 1, 1) := by decide +kernel
theorem dX11_round_2 : decode cX11_round 2 = .ok (.iconst 0, 1) := by decide +kernel
theorem dX11_round_3 : decode cX11_round 3 = .ok (.istore_n 2, 1) := by decide +kernel
theorem dX11_round_4 : decode cX11_round 4 = .ok (.iload_n 2, 1) := by decide +kernel
theorem dX11_round_5 : decode cX11_round 5 = .ok (.aload_n 0, 1) := by decide +kernel
theorem dX11_round_6 : decode cX11_round 6 = .ok (.getfield 17, 3) := by decide +kernel
theorem dX11_round_9 : decode cX11_round 9 = .ok (.bipush 8, 2) := by decide +kernel
theorem dX11_round_11 : decode cX11_round 11 = .ok (.iaload, 1) := by decide +kernel
theorem dX11_round_12 : decode cX11_round 12 = .ok (.if_icmp .ge 75, 3) := by decide +kernel
theorem dX11_round_15 : decode cX11_round 15 = .ok (.aload_n 0, 1) := by decide +kernel
theorem dX11_round_16 : decode cX11_round 16 = .ok (.iload_n 2, 1) := by decide +kernel
theorem dX11_round_17 : decode cX11_round 17 = .ok (.invokevirtual 336, 3) := by decide +kernel
theorem dX11_round_20 : decode cX11_round 20 = .ok (.ifCond .eq 61, 3) := by decide +kernel
theorem dX11_round_23 : decode cX11_round 23 = .ok (.aload_n 0, 1) := by decide +kernel
theorem dX11_round_24 : decode cX11_round 24 = .ok (.iload_n 2, 1) := by decide +kernel
theorem dX11_round_25 : decode cX11_round 25 = .ok (.invokevirtual 309, 3) := by decide +kernel
theorem dX11_round_28 : decode cX11_round 28 = .ok (.ifCond .eq 53, 3) := by decide +kernel
theorem dX11_round_31 : decode cX11_round 31 = .ok (.aload_n 0, 1) := by decide +kernel
theorem dX11_round_32 : decode cX11_round 32 = .ok (.getfield 17, 3) := by decide +kernel
theorem dX11_round_35 : decode cX11_round 35 = .ok (.iconst 2, 1) := by decide +kernel
theorem dX11_round_36 : decode cX11_round 36 = .ok (.iaload, 1) := by decide +kernel
theorem dX11_round_37 : decode cX11_round 37 = .ok (.aload_n 0, 1) := by decide +kernel
theorem dX11_round_38 : decode cX11_round 38 = .ok (.iload_n 2, 1) := by decide +kernel
theorem dX11_round_39 : decode cX11_round 39 = .ok (.iconst 2, 1) := by decide +kernel
theorem dX11_round_40 : decode cX11_round 40 = .ok (.invokevirtual 84, 3) := by decide +kernel
theorem dX11_round_43 : decode cX11_round 43 = .ok (.isub, 1) := by decide +kernel
theorem dX11_round_44 : decode cX11_round 44 = .ok (.aload_n 0, 1) := by decide +kernel
theorem dX11_round_45 : decode cX11_round 45 = .ok (.getfield 17, 3) := by decide +kernel
theorem dX11_round_48 : decode cX11_round 48 = .ok (.iconst 0, 1) := by decide +kernel
theorem dX11_round_49 : decode cX11_round 49 = .ok (.iaload, 1) := by decide +kernel
theorem dX11_round_50 : decode cX11_round 50 = .ok (.if_icmp .ge 6, 3) := by decide +kernel
theorem dX11_round_53 : decode cX11_round 53 = .ok (.goto 28, 3) := by decide +kernel
theorem dX11_round_56 : decode cX11_round 56 = .ok (.aload_n 0, 1) := by decide +kernel
theorem dX11_round_57 : decode cX11_round 57 = .ok (.getfield 17, 3) := by decide +kernel
theorem dX11_round_60 : decode cX11_round 60 = .ok (.sipush 4771, 3) := by decide +kernel
theorem dX11_round_63 : decode cX11_round 63 = .ok (.iconst 3, 1) := by decide +kernel
theorem dX11_round_64 : decode cX11_round 64 = .ok (.iload_n 2, 1) := by decide +kernel
theorem dX11_round_65 : decode cX11_round 65 = .ok (.imul, 1) := by decide +kernel
theorem dX11_round_66 : decode cX11_round 66 = .ok (.iadd, 1) := by decide +kernel
theorem dX11_round_67 : decode cX11_round 67 = .ok (.iconst 1, 1) := by decide +kernel
theorem dX11_round_68 : decode cX11_round 68 = .ok (.iadd, 1) := by decide +kernel
theorem dX11_round_69 : decode cX11_round 69 = .ok (.iconst 0, 1) := by decide +kernel
theorem dX11_round_70 : decode cX11_round 70 = .ok (.iastore, 1) := by decide +kernel
theorem dX11_round_71 : decode cX11_round 71 = .ok (.aload_n 0, 1) := by decide +kernel
theorem dX11_round_72 : decode cX11_round 72 = .ok (.bipush 8, 2) := by decide +kernel
theorem dX11_round_74 : decode cX11_round 74 = .ok (.iload_n 2, 1) := by decide +kernel
theorem dX11_round_75 : decode cX11_round 75 = .ok (.invokevirtual 315, 3) := by decide +kernel
theorem dX11_round_78 : decode cX11_round 78 = .ok (.iinc 1 1, 3) := by decide +kernel
theorem dX11_round_81 : decode cX11_round 81 = .ok (.iinc 2 1, 3) := by decide +kernel
theorem dX11_round_84 : decode cX11_round 84 = .ok (.goto (-80), 3) := by decide +kernel
theorem dX11_round_87 : decode cX11_round 87 = .ok (.aload_n 0, 1) := by decide +kernel
theorem dX11_round_88 : decode cX11_round 88 = .ok (.bipush 9, 2) := by decide +kernel
theorem dX11_round_90 : decode cX11_round 90 = .ok (.iload_n 1, 1) := by decide +kernel
theorem dX11_round_91 : decode cX11_round 91 = .ok (.invokevirtual 315, 3) := by decide +kernel
theorem dX11_round_94 : decode cX11_round 94 = .ok (.iload_n 1, 1) := by decide +kernel
theorem dX11_round_95 : decode cX11_round 95 = .ok (.ireturn, 1) := by decide +kernel
theorem dX11_passDay_0 : decode cX11_passDay 0 = .ok (.aload_n 0, 1) := by decide +kernel
theorem dX11_passDay_1 : decode cX11_passDay 1 = .ok (.getfield 17, 3) := by decide +kernel
theorem dX11_passDay_4 : decode cX11_passDay 4 = .ok (.iconst 2, 1) := by decide +kernel
theorem dX11_passDay_5 : decode cX11_passDay 5 = .ok (.dup2, 1) := by decide +kernel
theorem dX11_passDay_6 : decode cX11_passDay 6 = .ok (.iaload, 1) := by decide +kernel
theorem dX11_passDay_7 : decode cX11_passDay 7 = .ok (.iconst 1, 1) := by decide +kernel
theorem dX11_passDay_8 : decode cX11_passDay 8 = .ok (.iadd, 1) := by decide +kernel
theorem dX11_passDay_9 : decode cX11_passDay 9 = .ok (.iastore, 1) := by decide +kernel
theorem dX11_passDay_10 : decode cX11_passDay 10 = .ok (.aload_n 0, 1) := by decide +kernel
theorem dX11_passDay_11 : decode cX11_passDay 11 = .ok (.getfield 87, 3) := by decide +kernel
theorem dX11_passDay_14 : decode cX11_passDay 14 = .ok (.ifCond .ne 14, 3) := by decide +kernel
theorem dX11_passDay_17 : decode cX11_passDay 17 = .ok (.aload_n 0, 1) := by decide +kernel
theorem dX11_passDay_18 : decode cX11_passDay 18 = .ok (.invokevirtual 445, 3) := by decide +kernel
theorem dX11_passDay_21 : decode cX11_passDay 21 = .ok (.ifCond .eq 7, 3) := by decide +kernel
theorem dX11_passDay_24 : decode cX11_passDay 24 = .ok (.iconst 1, 1) := by decide +kernel
theorem dX11_passDay_25 : decode cX11_passDay 25 = .ok (.goto 4, 3) := by decide +kernel
theorem dX11_passDay_28 : decode cX11_passDay 28 = .ok (.iconst 0, 1) := by decide +kernel
theorem dX11_passDay_29 : decode cX11_passDay 29 = .ok (.istore_n 1, 1) := by decide +kernel
theorem dX11_passDay_30 : decode cX11_passDay 30 = .ok (.aload_n 0, 1) := by decide +kernel
theorem dX11_passDay_31 : decode cX11_passDay 31 = .ok (.getfield 87, 3) := by decide +kernel
theorem dX11_passDay_34 : decode cX11_passDay 34 = .ok (.ifCond .eq 7, 3) := by decide +kernel
theorem dX11_passDay_37 : decode cX11_passDay 37 = .ok (.aload_n 0, 1) := by decide +kernel
theorem dX11_passDay_38 : decode cX11_passDay 38 = .ok (.invokevirtual 451, 3) := by decide +kernel
theorem dX11_passDay_41 : decode cX11_passDay 41 = .ok (.aload_n 0, 1) := by decide +kernel
theorem dX11_passDay_42 : decode cX11_passDay 42 = .ok (.getfield 17, 3) := by decide +kernel
theorem dX11_passDay_45 : decode cX11_passDay 45 = .ok (.iconst 2, 1) := by decide +kernel
theorem dX11_passDay_46 : decode cX11_passDay 46 = .ok (.iaload, 1) := by decide +kernel
theorem dX11_passDay_47 : decode cX11_passDay 47 = .ok (.aload_n 0, 1) := by decide +kernel
theorem dX11_passDay_48 : decode cX11_passDay 48 = .ok (.getfield 17, 3) := by decide +kernel
theorem dX11_passDay_51 : decode cX11_passDay 51 = .ok (.iconst 1, 1) := by decide +kernel
theorem dX11_passDay_52 : decode cX11_passDay 52 = .ok (.iaload, 1) := by decide +kernel
theorem dX11_passDay_53 : decode cX11_passDay 53 = .ok (.irem, 1) := by decide +kernel
theorem dX11_passDay_54 : decode cX11_passDay 54 = .ok (.ifCond .ne 10, 3) := by decide +kernel
theorem dX11_passDay_57 : decode cX11_passDay 57 = .ok (.aload_n 0, 1) := by decide +kernel
theorem dX11_passDay_58 : decode cX11_passDay 58 = .ok (.invokevirtual 454, 3) := by decide +kernel
theorem dX11_passDay_61 : decode cX11_passDay 61 = .ok (.goto 4, 3) := by decide +kernel
theorem dX11_passDay_64 : decode cX11_passDay 64 = .ok (.iconst 0, 1) := by decide +kernel
theorem dX11_passDay_65 : decode cX11_passDay 65 = .ok (.istore_n 2, 1) := by decide +kernel
theorem dX11_passDay_66 : decode cX11_passDay 66 = .ok (.aload_n 0, 1) := by decide +kernel
theorem dX11_passDay_67 : decode cX11_passDay 67 = .ok (.bipush 10, 2) := by decide +kernel
theorem dX11_passDay_69 : decode cX11_passDay 69 = .ok (.aload_n 0, 1) := by decide +kernel
theorem dX11_passDay_70 : decode cX11_passDay 70 = .ok (.getfield 17, 3) := by decide +kernel
theorem dX11_passDay_73 : decode cX11_passDay 73 = .ok (.iconst 2, 1) := by decide +kernel
theorem dX11_passDay_74 : decode cX11_passDay 74 = .ok (.iaload, 1) := by decide +kernel
theorem dX11_passDay_75 : decode cX11_passDay 75 = .ok (.invokevirtual 315, 3) := by decide +kernel
theorem dX11_passDay_78 : decode cX11_passDay 78 = .ok (.iload_n 2, 1) := by decide +kernel
theorem dX11_passDay_79 : decode cX11_passDay 79 = .ok (.ireturn, 1) := by decide +kernel
theorem dX11_advance_0 : decode cX11_advance 0 = .ok (.aload_n 0, 1) := by decide +kernel
theorem dX11_advance_1 : decode cX11_advance 1 = .ok (.iload_n 1, 1) := by decide +kernel
theorem dX11_advance_2 : decode cX11_advance 2 = .ok (.i2l, 1) := by decide +kernel
theorem dX11_advance_3 : decode cX11_advance 3 = .ok (.lconst 1, 1) := by decide +kernel
theorem dX11_advance_4 : decode cX11_advance 4 = .ok (.ldc2_w 456, 3) := by decide +kernel
theorem dX11_advance_7 : decode cX11_advance 7 = .ok (.invokestatic 64, 3) := by decide +kernel
theorem dX11_advance_10 : decode cX11_advance 10 = .ok (.aload_n 0, 1) := by decide +kernel
theorem dX11_advance_11 : decode cX11_advance 11 = .ok (.getfield 17, 3) := by decide +kernel
theorem dX11_advance_14 : decode cX11_advance 14 = .ok (.iconst 2, 1) := by decide +kernel
theorem dX11_advance_15 : decode cX11_advance 15 = .ok (.iaload, 1) := by decide +kernel
theorem dX11_advance_16 : decode cX11_advance 16 = .ok (.i2l, 1) := by decide +kernel
theorem dX11_advance_17 : decode cX11_advance 17 = .ok (.iload_n 1, 1) := by decide +kernel
theorem dX11_advance_18 : decode cX11_advance 18 = .ok (.i2l, 1) := by decide +kernel
theorem dX11_advance_19 : decode cX11_advance 19 = .ok (.ladd, 1) := by decide +kernel
theorem dX11_advance_20 : decode cX11_advance 20 = .ok (.ldc2_w 458, 3) := by decide +kernel
theorem dX11_advance_23 : decode cX11_advance 23 = .ok (.lcmp, 1) := by decide +kernel
theorem dX11_advance_24 : decode cX11_advance 24 = .ok (.ifCond .gt 7, 3) := by decide +kernel
theorem dX11_advance_27 : decode cX11_advance 27 = .ok (.iconst 1, 1) := by decide +kernel
theorem dX11_advance_28 : decode cX11_advance 28 = .ok (.goto 4, 3) := by decide +kernel
theorem dX11_advance_31 : decode cX11_advance 31 = .ok (.iconst 0, 1) := by decide +kernel
theorem dX11_advance_32 : decode cX11_advance 32 = .ok (.invokevirtual 267, 3) := by decide +kernel
theorem dX11_advance_35 : decode cX11_advance 35 = .ok (.ifCond .ne 5, 3) := by decide +kernel
theorem dX11_advance_38 : decode cX11_advance 38 = .ok (.iconst 0, 1) := by decide +kernel
theorem dX11_advance_39 : decode cX11_advance 39 = .ok (.ireturn, 1) := by decide +kernel
theorem dX11_advance_40 : decode cX11_advance 40 = .ok (.aload_n 0, 1) := by decide +kernel
theorem dX11_advance_41 : decode cX11_advance 41 = .ok (.invokevirtual 256, 3) := by decide +kernel
theorem dX11_advance_44 : decode cX11_advance 44 = .ok (.iconst 0, 1) := by decide +kernel
theorem dX11_advance_45 : decode cX11_advance 45 = .ok (.istore_n 2, 1) := by decide +kernel
theorem dX11_advance_46 : decode cX11_advance 46 = .ok (.iconst 0, 1) := by decide +kernel
theorem dX11_advance_47 : decode cX11_advance 47 = .ok (.istore_n 3, 1) := by decide +kernel
theorem dX11_advance_48 : decode cX11_advance 48 = .ok (.iload_n 3, 1) := by decide +kernel
theorem dX11_advance_49 : decode cX11_advance 49 = .ok (.iload_n 1, 1) := by decide +kernel
theorem dX11_advance_50 : decode cX11_advance 50 = .ok (.if_icmp .ge 16, 3) := by decide +kernel
theorem dX11_advance_53 : decode cX11_advance 53 = .ok (.iload_n 2, 1) := by decide +kernel
theorem dX11_advance_54 : decode cX11_advance 54 = .ok (.aload_n 0, 1) := by decide +kernel
theorem dX11_advance_55 : decode cX11_advance 55 = .ok (.invokevirtual 460, 3) := by decide +kernel
theorem dX11_advance_58 : decode cX11_advance 58 = .ok (.iadd, 1) := by decide +kernel
theorem dX11_advance_59 : decode cX11_advance 59 = .ok (.istore_n 2, 1) := by decide +kernel
theorem dX11_advance_60 : decode cX11_advance 60 = .ok (.iinc 3 1, 3) := by decide +kernel
theorem dX11_advance_63 : decode cX11_advance 63 = .ok (.goto (-15), 3) := by decide +kernel
theorem dX11_advance_66 : decode cX11_advance 66 = .ok (.iload_n 2, 1) := by decide +kernel
theorem dX11_advance_67 : decode cX11_advance 67 = .ok (.ireturn, 1) := by decide +kernel
theorem dX11_nextRound_0 : decode cX11_nextRound 0 = .ok (.aload_n 0, 1) := by decide +kernel
theorem dX11_nextRound_1 : decode cX11_nextRound 1 = .ok (.iconst 0, 1) := by decide +kernel
theorem dX11_nextRound_2 : decode cX11_nextRound 2 = .ok (.putfield 3, 3) := by decide +kernel
theorem dX11_nextRound_5 : decode cX11_nextRound 5 = .ok (.aload_n 0, 1) := by decide +kernel
theorem dX11_nextRound_6 : decode cX11_nextRound 6 = .ok (.getfield 17, 3) := by decide +kernel
theorem dX11_nextRound_9 : decode cX11_nextRound 9 = .ok (.iconst 2, 1) := by decide +kernel
theorem dX11_nextRound_10 : decode cX11_nextRound 10 = .ok (.iaload, 1) := by decide +kernel
theorem dX11_nextRound_11 : decode cX11_nextRound 11 = .ok (.aload_n 0, 1) := by decide +kernel
theorem dX11_nextRound_12 : decode cX11_nextRound 12 = .ok (.getfield 17, 3) := by decide +kernel
theorem dX11_nextRound_15 : decode cX11_nextRound 15 = .ok (.iconst 1, 1) := by decide +kernel
theorem dX11_nextRound_16 : decode cX11_nextRound 16 = .ok (.iaload, 1) := by decide +kernel
theorem dX11_nextRound_17 : decode cX11_nextRound 17 = .ok (.idiv, 1) := by decide +kernel
theorem dX11_nextRound_18 : decode cX11_nextRound 18 = .ok (.iconst 1, 1) := by decide +kernel
theorem dX11_nextRound_19 : decode cX11_nextRound 19 = .ok (.iadd, 1) := by decide +kernel
theorem dX11_nextRound_20 : decode cX11_nextRound 20 = .ok (.aload_n 0, 1) := by decide +kernel
theorem dX11_nextRound_21 : decode cX11_nextRound 21 = .ok (.getfield 17, 3) := by decide +kernel
theorem dX11_nextRound_24 : decode cX11_nextRound 24 = .ok (.iconst 1, 1) := by decide +kernel
theorem dX11_nextRound_25 : decode cX11_nextRound 25 = .ok (.iaload, 1) := by decide +kernel
theorem dX11_nextRound_26 : decode cX11_nextRound 26 = .ok (.imul, 1) := by decide +kernel
theorem dX11_nextRound_27 : decode cX11_nextRound 27 = .ok (.ireturn, 1) := by decide +kernel
theorem dX11_beginThought_0 : decode cX11_beginThought 0 = .ok (.iconst 0, 1) := by decide +kernel
theorem dX11_beginThought_1 : decode cX11_beginThought 1 = .ok (.istore_n 1, 1) := by decide +kernel
theorem dX11_beginThought_2 : decode cX11_beginThought 2 = .ok (.iload_n 1, 1) := by decide +kernel
theorem dX11_beginThought_3 : decode cX11_beginThought 3 = .ok (.sipush 6391, 3) := by decide +kernel
theorem dX11_beginThought_6 : decode cX11_beginThought 6 = .ok (.if_icmp .ge 21, 3) := by decide +kernel
theorem dX11_beginThought_9 : decode cX11_beginThought 9 = .ok (.aload_n 0, 1) := by decide +kernel
theorem dX11_beginThought_10 : decode cX11_beginThought 10 = .ok (.getfield 50, 3) := by decide +kernel
theorem dX11_beginThought_13 : decode cX11_beginThought 13 = .ok (.iload_n 1, 1) := by decide +kernel
theorem dX11_beginThought_14 : decode cX11_beginThought 14 = .ok (.aload_n 0, 1) := by decide +kernel
theorem dX11_beginThought_15 : decode cX11_beginThought 15 = .ok (.getfield 17, 3) := by decide +kernel
theorem dX11_beginThought_18 : decode cX11_beginThought 18 = .ok (.iload_n 1, 1) := by decide +kernel
theorem dX11_beginThought_19 : decode cX11_beginThought 19 = .ok (.iaload, 1) := by decide +kernel
theorem dX11_beginThought_20 : decode cX11_beginThought 20 = .ok (.iastore, 1) := by decide +kernel
theorem dX11_beginThought_21 : decode cX11_beginThought 21 = .ok (.iinc 1 1, 3) := by decide +kernel
theorem dX11_beginThought_24 : decode cX11_beginThought 24 = .ok (.goto (-22), 3) := by decide +kernel
theorem dX11_beginThought_27 : decode cX11_beginThought 27 = .ok (.aload_n 0, 1) := by decide +kernel
theorem dX11_beginThought_28 : decode cX11_beginThought 28 = .ok (.iconst 1, 1) := by decide +kernel
theorem dX11_beginThought_29 : decode cX11_beginThought 29 = .ok (.putfield 87, 3) := by decide +kernel
theorem dX11_beginThought_32 : decode cX11_beginThought 32 = .ok (.aload_n 0, 1) := by decide +kernel
theorem dX11_beginThought_33 : decode cX11_beginThought 33 = .ok (.iconst 0, 1) := by decide +kernel
theorem dX11_beginThought_34 : decode cX11_beginThought 34 = .ok (.putfield 442, 3) := by decide +kernel
theorem dX11_beginThought_37 : decode cX11_beginThought 37 = .ok (.return_, 1) := by decide +kernel
theorem dX11_endThought_0 : decode cX11_endThought 0 = .ok (.iconst 0, 1) := by decide +kernel
theorem dX11_endThought_1 : decode cX11_endThought 1 = .ok (.istore_n 1, 1) := by decide +kernel
theorem dX11_endThought_2 : decode cX11_endThought 2 = .ok (.iload_n 1, 1) := by decide +kernel
theorem dX11_endThought_3 : decode cX11_endThought 3 = .ok (.sipush 6391, 3) := by decide +kernel
theorem dX11_endThought_6 : decode cX11_endThought 6 = .ok (.if_icmp .ge 21, 3) := by decide +kernel
theorem dX11_endThought_9 : decode cX11_endThought 9 = .ok (.aload_n 0, 1) := by decide +kernel
theorem dX11_endThought_10 : decode cX11_endThought 10 = .ok (.getfield 17, 3) := by decide +kernel
theorem dX11_endThought_13 : decode cX11_endThought 13 = .ok (.iload_n 1, 1) := by decide +kernel
theorem dX11_endThought_14 : decode cX11_endThought 14 = .ok (.aload_n 0, 1) := by decide +kernel
theorem dX11_endThought_15 : decode cX11_endThought 15 = .ok (.getfield 50, 3) := by decide +kernel
theorem dX11_endThought_18 : decode cX11_endThought 18 = .ok (.iload_n 1, 1) := by decide +kernel
theorem dX11_endThought_19 : decode cX11_endThought 19 = .ok (.iaload, 1) := by decide +kernel
theorem dX11_endThought_20 : decode cX11_endThought 20 = .ok (.iastore, 1) := by decide +kernel
theorem dX11_endThought_21 : decode cX11_endThought 21 = .ok (.iinc 1 1, 3) := by decide +kernel
theorem dX11_endThought_24 : decode cX11_endThought 24 = .ok (.goto (-22), 3) := by decide +kernel
theorem dX11_endThought_27 : decode cX11_endThought 27 = .ok (.aload_n 0, 1) := by decide +kernel
theorem dX11_endThought_28 : decode cX11_endThought 28 = .ok (.iconst 0, 1) := by decide +kernel
theorem dX11_endThought_29 : decode cX11_endThought 29 = .ok (.putfield 87, 3) := by decide +kernel
theorem dX11_endThought_32 : decode cX11_endThought 32 = .ok (.return_, 1) := by decide +kernel
theorem dX11_removedOn_0 : decode cX11_removedOn 0 = .ok (.aload_n 0, 1) := by decide +kernel
theorem dX11_removedOn_1 : decode cX11_removedOn 1 = .ok (.aload_n 0, 1) := by decide +kernel
theorem dX11_removedOn_2 : decode cX11_removedOn 2 = .ok (.iload_n 1, 1) := by decide +kernel
theorem dX11_removedOn_3 : decode cX11_removedOn 3 = .ok (.invokevirtual 336, 3) := by decide +kernel
theorem dX11_removedOn_6 : decode cX11_removedOn 6 = .ok (.invokevirtual 94, 3) := by decide +kernel
theorem dX11_removedOn_9 : decode cX11_removedOn 9 = .ok (.ifCond .ne 5, 3) := by decide +kernel
theorem dX11_removedOn_12 : decode cX11_removedOn 12 = .ok (.iconst 0, 1) := by decide +kernel
theorem dX11_removedOn_13 : decode cX11_removedOn 13 = .ok (.ireturn, 1) := by decide +kernel
theorem dX11_removedOn_14 : decode cX11_removedOn 14 = .ok (.aload_n 0, 1) := by decide +kernel
theorem dX11_removedOn_15 : decode cX11_removedOn 15 = .ok (.invokevirtual 463, 3) := by decide +kernel
theorem dX11_removedOn_18 : decode cX11_removedOn 18 = .ok (.iconst 0, 1) := by decide +kernel
theorem dX11_removedOn_19 : decode cX11_removedOn 19 = .ok (.istore_n 2, 1) := by decide +kernel
theorem dX11_removedOn_20 : decode cX11_removedOn 20 = .ok (.iload_n 2, 1) := by decide +kernel
theorem dX11_removedOn_21 : decode cX11_removedOn 21 = .ok (.sipush 2000, 3) := by decide +kernel
theorem dX11_removedOn_24 : decode cX11_removedOn 24 = .ok (.if_icmp .ge 22, 3) := by decide +kernel
theorem dX11_removedOn_27 : decode cX11_removedOn 27 = .ok (.aload_n 0, 1) := by decide +kernel
theorem dX11_removedOn_28 : decode cX11_removedOn 28 = .ok (.iload_n 1, 1) := by decide +kernel
theorem dX11_removedOn_29 : decode cX11_removedOn 29 = .ok (.invokevirtual 336, 3) := by decide +kernel
theorem dX11_removedOn_32 : decode cX11_removedOn 32 = .ok (.ifCond .eq 14, 3) := by decide +kernel
theorem dX11_removedOn_35 : decode cX11_removedOn 35 = .ok (.aload_n 0, 1) := by decide +kernel
theorem dX11_removedOn_36 : decode cX11_removedOn 36 = .ok (.invokevirtual 460, 3) := by decide +kernel
theorem dX11_removedOn_39 : decode cX11_removedOn 39 = .ok (.pop, 1) := by decide +kernel
theorem dX11_removedOn_40 : decode cX11_removedOn 40 = .ok (.iinc 2 1, 3) := by decide +kernel
theorem dX11_removedOn_43 : decode cX11_removedOn 43 = .ok (.goto (-23), 3) := by decide +kernel
theorem dX11_removedOn_46 : decode cX11_removedOn 46 = .ok (.aload_n 0, 1) := by decide +kernel
theorem dX11_removedOn_47 : decode cX11_removedOn 47 = .ok (.iload_n 1, 1) := by decide +kernel
theorem dX11_removedOn_48 : decode cX11_removedOn 48 = .ok (.invokevirtual 336, 3) := by decide +kernel
theorem dX11_removedOn_51 : decode cX11_removedOn 51 = .ok (.ifCond .eq 7, 3) := by decide +kernel
theorem dX11_removedOn_54 : decode cX11_removedOn 54 = .ok (.iconst (-1), 1) := by decide +kernel
theorem dX11_removedOn_55 : decode cX11_removedOn 55 = .ok (.goto 9, 3) := by decide +kernel
theorem dX11_removedOn_58 : decode cX11_removedOn 58 = .ok (.aload_n 0, 1) := by decide +kernel
theorem dX11_removedOn_59 : decode cX11_removedOn 59 = .ok (.getfield 17, 3) := by decide +kernel
theorem dX11_removedOn_62 : decode cX11_removedOn 62 = .ok (.iconst 2, 1) := by decide +kernel
theorem dX11_removedOn_63 : decode cX11_removedOn 63 = .ok (.iaload, 1) := by decide +kernel
theorem dX11_removedOn_64 : decode cX11_removedOn 64 = .ok (.istore_n 2, 1) := by decide +kernel
theorem dX11_removedOn_65 : decode cX11_removedOn 65 = .ok (.aload_n 0, 1) := by decide +kernel
theorem dX11_removedOn_66 : decode cX11_removedOn 66 = .ok (.invokevirtual 466, 3) := by decide +kernel
theorem dX11_removedOn_69 : decode cX11_removedOn 69 = .ok (.iload_n 2, 1) := by decide +kernel
theorem dX11_removedOn_70 : decode cX11_removedOn 70 = .ok (.ireturn, 1) := by decide +kernel
theorem dX11_emptyOn_0 : decode cX11_emptyOn 0 = .ok (.aload_n 0, 1) := by decide +kernel
theorem dX11_emptyOn_1 : decode cX11_emptyOn 1 = .ok (.iconst 0, 1) := by decide +kernel
theorem dX11_emptyOn_2 : decode cX11_emptyOn 2 = .ok (.putfield 3, 3) := by decide +kernel
theorem dX11_emptyOn_5 : decode cX11_emptyOn 5 = .ok (.aload_n 0, 1) := by decide +kernel
theorem dX11_emptyOn_6 : decode cX11_emptyOn 6 = .ok (.invokevirtual 463, 3) := by decide +kernel
theorem dX11_emptyOn_9 : decode cX11_emptyOn 9 = .ok (.iconst 0, 1) := by decide +kernel
theorem dX11_emptyOn_10 : decode cX11_emptyOn 10 = .ok (.istore_n 1, 1) := by decide +kernel
theorem dX11_emptyOn_11 : decode cX11_emptyOn 11 = .ok (.iload_n 1, 1) := by decide +kernel
theorem dX11_emptyOn_12 : decode cX11_emptyOn 12 = .ok (.sipush 2000, 3) := by decide +kernel
theorem dX11_emptyOn_15 : decode cX11_emptyOn 15 = .ok (.if_icmp .ge 21, 3) := by decide +kernel
theorem dX11_emptyOn_18 : decode cX11_emptyOn 18 = .ok (.aload_n 0, 1) := by decide +kernel
theorem dX11_emptyOn_19 : decode cX11_emptyOn 19 = .ok (.invokevirtual 339, 3) := by decide +kernel
theorem dX11_emptyOn_22 : decode cX11_emptyOn 22 = .ok (.ifCond .le 14, 3) := by decide +kernel
theorem dX11_emptyOn_25 : decode cX11_emptyOn 25 = .ok (.aload_n 0, 1) := by decide +kernel
theorem dX11_emptyOn_26 : decode cX11_emptyOn 26 = .ok (.invokevirtual 460, 3) := by decide +kernel
theorem dX11_emptyOn_29 : decode cX11_emptyOn 29 = .ok (.pop, 1) := by decide +kernel
theorem dX11_emptyOn_30 : decode cX11_emptyOn 30 = .ok (.iinc 1 1, 3) := by decide +kernel
theorem dX11_emptyOn_33 : decode cX11_emptyOn 33 = .ok (.goto (-22), 3) := by decide +kernel
theorem dX11_emptyOn_36 : decode cX11_emptyOn 36 = .ok (.aload_n 0, 1) := by decide +kernel
theorem dX11_emptyOn_37 : decode cX11_emptyOn 37 = .ok (.invokevirtual 339, 3) := by decide +kernel
theorem dX11_emptyOn_40 : decode cX11_emptyOn 40 = .ok (.ifCond .le 7, 3) := by decide +kernel
theorem dX11_emptyOn_43 : decode cX11_emptyOn 43 = .ok (.iconst (-1), 1) := by decide +kernel
theorem dX11_emptyOn_44 : decode cX11_emptyOn 44 = .ok (.goto 9, 3) := by decide +kernel
theorem dX11_emptyOn_47 : decode cX11_emptyOn 47 = .ok (.aload_n 0, 1) := by decide +kernel
theorem dX11_emptyOn_48 : decode cX11_emptyOn 48 = .ok (.getfield 17, 3) := by decide +kernel
theorem dX11_emptyOn_51 : decode cX11_emptyOn 51 = .ok (.iconst 2, 1) := by decide +kernel
theorem dX11_emptyOn_52 : decode cX11_emptyOn 52 = .ok (.iaload, 1) := by decide +kernel
theorem dX11_emptyOn_53 : decode cX11_emptyOn 53 = .ok (.istore_n 1, 1) := by decide +kernel
theorem dX11_emptyOn_54 : decode cX11_emptyOn 54 = .ok (.aload_n 0, 1) := by decide +kernel
theorem dX11_emptyOn_55 : decode cX11_emptyOn 55 = .ok (.invokevirtual 466, 3) := by decide +kernel
theorem dX11_emptyOn_58 : decode cX11_emptyOn 58 = .ok (.iload_n 1, 1) := by decide +kernel
theorem dX11_emptyOn_59 : decode cX11_emptyOn 59 = .ok (.ireturn, 1) := by decide +kernel
theorem dX11_areDays_0 : decode cX11_areDays 0 = .ok (.iload_n 0, 1) := by decide +kernel
theorem dX11_areDays_1 : decode cX11_areDays 1 = .ok (.i2l, 1) := by decide +kernel
theorem dX11_areDays_2 : decode cX11_areDays 2 = .ok (.lconst 0, 1) := by decide +kernel
theorem dX11_areDays_3 : decode cX11_areDays 3 = .ok (.ldc2_w 469, 3) := by decide +kernel
theorem dX11_areDays_6 : decode cX11_areDays 6 = .ok (.invokestatic 64, 3) := by decide +kernel
theorem dX11_areDays_9 : decode cX11_areDays 9 = .ok (.ireturn, 1) := by decide +kernel
theorem dX11_bytesAfter_0 : decode cX11_bytesAfter 0 = .ok (.aload_n 0, 1) := by decide +kernel
theorem dX11_bytesAfter_1 : decode cX11_bytesAfter 1 = .ok (.iload_n 1, 1) := by decide +kernel
theorem dX11_bytesAfter_2 : decode cX11_bytesAfter 2 = .ok (.invokestatic 471, 3) := by decide +kernel
theorem dX11_bytesAfter_5 : decode cX11_bytesAfter 5 = .ok (.invokevirtual 94, 3) := by decide +kernel
theorem dX11_bytesAfter_8 : decode cX11_bytesAfter 8 = .ok (.ifCond .ne 5, 3) := by decide +kernel
theorem dX11_bytesAfter_11 : decode cX11_bytesAfter 11 = .ok (.iconst 0, 1) := by decide +kernel
theorem dX11_bytesAfter_12 : decode cX11_bytesAfter 12 = .ok (.ireturn, 1) := by decide +kernel
theorem dX11_bytesAfter_13 : decode cX11_bytesAfter 13 = .ok (.aload_n 0, 1) := by decide +kernel
theorem dX11_bytesAfter_14 : decode cX11_bytesAfter 14 = .ok (.invokevirtual 463, 3) := by decide +kernel
theorem dX11_bytesAfter_17 : decode cX11_bytesAfter 17 = .ok (.iconst 0, 1) := by decide +kernel
theorem dX11_bytesAfter_18 : decode cX11_bytesAfter 18 = .ok (.istore_n 2, 1) := by decide +kernel
theorem dX11_bytesAfter_19 : decode cX11_bytesAfter 19 = .ok (.iload_n 2, 1) := by decide +kernel
theorem dX11_bytesAfter_20 : decode cX11_bytesAfter 20 = .ok (.iload_n 1, 1) := by decide +kernel
theorem dX11_bytesAfter_21 : decode cX11_bytesAfter 21 = .ok (.if_icmp .ge 14, 3) := by decide +kernel
theorem dX11_bytesAfter_24 : decode cX11_bytesAfter 24 = .ok (.aload_n 0, 1) := by decide +kernel
theorem dX11_bytesAfter_25 : decode cX11_bytesAfter 25 = .ok (.invokevirtual 460, 3) := by decide +kernel
theorem dX11_bytesAfter_28 : decode cX11_bytesAfter 28 = .ok (.pop, 1) := by decide +kernel
theorem dX11_bytesAfter_29 : decode cX11_bytesAfter 29 = .ok (.iinc 2 1, 3) := by decide +kernel
theorem dX11_bytesAfter_32 : decode cX11_bytesAfter 32 = .ok (.goto (-13), 3) := by decide +kernel
theorem dX11_bytesAfter_35 : decode cX11_bytesAfter 35 = .ok (.aload_n 0, 1) := by decide +kernel
theorem dX11_bytesAfter_36 : decode cX11_bytesAfter 36 = .ok (.invokevirtual 339, 3) := by decide +kernel
theorem dX11_bytesAfter_39 : decode cX11_bytesAfter 39 = .ok (.istore_n 2, 1) := by decide +kernel
theorem dX11_bytesAfter_40 : decode cX11_bytesAfter 40 = .ok (.aload_n 0, 1) := by decide +kernel
theorem dX11_bytesAfter_41 : decode cX11_bytesAfter 41 = .ok (.invokevirtual 466, 3) := by decide +kernel
theorem dX11_bytesAfter_44 : decode cX11_bytesAfter 44 = .ok (.iload_n 2, 1) := by decide +kernel
theorem dX11_bytesAfter_45 : decode cX11_bytesAfter 45 = .ok (.ireturn, 1) := by decide +kernel
theorem dX11_livesOf_0 : decode cX11_livesOf 0 = .ok (.iconst 0, 1) := by decide +kernel
theorem dX11_livesOf_1 : decode cX11_livesOf 1 = .ok (.istore_n 2, 1) := by decide +kernel
theorem dX11_livesOf_2 : decode cX11_livesOf 2 = .ok (.iconst 0, 1) := by decide +kernel
theorem dX11_livesOf_3 : decode cX11_livesOf 3 = .ok (.istore_n 3, 1) := by decide +kernel
theorem dX11_livesOf_4 : decode cX11_livesOf 4 = .ok (.iload_n 3, 1) := by decide +kernel
theorem dX11_livesOf_5 : decode cX11_livesOf 5 = .ok (.aload_n 0, 1) := by decide +kernel
theorem dX11_livesOf_6 : decode cX11_livesOf 6 = .ok (.getfield 17, 3) := by decide +kernel
theorem dX11_livesOf_9 : decode cX11_livesOf 9 = .ok (.bipush 7, 2) := by decide +kernel
theorem dX11_livesOf_11 : decode cX11_livesOf 11 = .ok (.iaload, 1) := by decide +kernel
theorem dX11_livesOf_12 : decode cX11_livesOf 12 = .ok (.if_icmp .ge 26, 3) := by decide +kernel
theorem dX11_livesOf_15 : decode cX11_livesOf 15 = .ok (.iload_n 2, 1) := by decide +kernel
theorem dX11_livesOf_16 : decode cX11_livesOf 16 = .ok (.aload_n 0, 1) := by decide +kernel
theorem dX11_livesOf_17 : decode cX11_livesOf 17 = .ok (.iload_n 3, 1) := by decide +kernel
theorem dX11_livesOf_18 : decode cX11_livesOf 18 = .ok (.iload_n 1, 1) := by decide +kernel
theorem dX11_livesOf_19 : decode cX11_livesOf 19 = .ok (.invokevirtual 348, 3) := by decide +kernel
theorem dX11_livesOf_22 : decode cX11_livesOf 22 = .ok (.ifCond .eq 7, 3) := by decide +kernel
theorem dX11_livesOf_25 : decode cX11_livesOf 25 = .ok (.iconst 1, 1) := by decide +kernel
theorem dX11_livesOf_26 : decode cX11_livesOf 26 = .ok (.goto 4, 3) := by decide +kernel
theorem dX11_livesOf_29 : decode cX11_livesOf 29 = .ok (.iconst 0, 1) := by decide +kernel
theorem dX11_livesOf_30 : decode cX11_livesOf 30 = .ok (.iadd, 1) := by decide +kernel
theorem dX11_livesOf_31 : decode cX11_livesOf 31 = .ok (.istore_n 2, 1) := by decide +kernel
theorem dX11_livesOf_32 : decode cX11_livesOf 32 = .ok (.iinc 3 1, 3) := by decide +kernel
theorem dX11_livesOf_35 : decode cX11_livesOf 35 = .ok (.goto (-31), 3) := by decide +kernel
theorem dX11_livesOf_38 : decode cX11_livesOf 38 = .ok (.iload_n 2, 1) := by decide +kernel
theorem dX11_livesOf_39 : decode cX11_livesOf 39 = .ok (.ireturn, 1) := by decide +kernel
theorem dX11_goneAfter_0 : decode cX11_goneAfter 0 = .ok (.aload_n 0, 1) := by decide +kernel
theorem dX11_goneAfter_1 : decode cX11_goneAfter 1 = .ok (.aload_n 0, 1) := by decide +kernel
theorem dX11_goneAfter_2 : decode cX11_goneAfter 2 = .ok (.iload_n 1, 1) := by decide +kernel
theorem dX11_goneAfter_3 : decode cX11_goneAfter 3 = .ok (.invokevirtual 76, 3) := by decide +kernel
theorem dX11_goneAfter_6 : decode cX11_goneAfter 6 = .ok (.iload_n 2, 1) := by decide +kernel
theorem dX11_goneAfter_7 : decode cX11_goneAfter 7 = .ok (.invokestatic 471, 3) := by decide +kernel
theorem dX11_goneAfter_10 : decode cX11_goneAfter 10 = .ok (.invokevirtual 267, 3) := by decide +kernel
theorem dX11_goneAfter_13 : decode cX11_goneAfter 13 = .ok (.ifCond .ne 5, 3) := by decide +kernel
theorem dX11_goneAfter_16 : decode cX11_goneAfter 16 = .ok (.iconst 0, 1) := by decide +kernel
theorem dX11_goneAfter_17 : decode cX11_goneAfter 17 = .ok (.ireturn, 1) := by decide +kernel
theorem dX11_goneAfter_18 : decode cX11_goneAfter 18 = .ok (.aload_n 0, 1) := by decide +kernel
theorem dX11_goneAfter_19 : decode cX11_goneAfter 19 = .ok (.iload_n 1, 1) := by decide +kernel
theorem dX11_goneAfter_20 : decode cX11_goneAfter 20 = .ok (.invokevirtual 474, 3) := by decide +kernel
theorem dX11_goneAfter_23 : decode cX11_goneAfter 23 = .ok (.istore_n 3, 1) := by decide +kernel
theorem dX11_goneAfter_24 : decode cX11_goneAfter 24 = .ok (.aload_n 0, 1) := by decide +kernel
theorem dX11_goneAfter_25 : decode cX11_goneAfter 25 = .ok (.invokevirtual 463, 3) := by decide +kernel
theorem dX11_goneAfter_28 : decode cX11_goneAfter 28 = .ok (.iconst 0, 1) := by decide +kernel
theorem dX11_goneAfter_29 : decode cX11_goneAfter 29 = .ok (.istore 4, 2) := by decide +kernel
theorem dX11_goneAfter_31 : decode cX11_goneAfter 31 = .ok (.iload 4, 2) := by decide +kernel
theorem dX11_goneAfter_33 : decode cX11_goneAfter 33 = .ok (.iload_n 2, 1) := by decide +kernel
theorem dX11_goneAfter_34 : decode cX11_goneAfter 34 = .ok (.if_icmp .ge 14, 3) := by decide +kernel
theorem dX11_goneAfter_37 : decode cX11_goneAfter 37 = .ok (.aload_n 0, 1) := by decide +kernel
theorem dX11_goneAfter_38 : decode cX11_goneAfter 38 = .ok (.invokevirtual 460, 3) := by decide +kernel
theorem dX11_goneAfter_41 : decode cX11_goneAfter 41 = .ok (.pop, 1) := by decide +kernel
theorem dX11_goneAfter_42 : decode cX11_goneAfter 42 = .ok (.iinc 4 1, 3) := by decide +kernel
theorem dX11_goneAfter_45 : decode cX11_goneAfter 45 = .ok (.goto (-14), 3) := by decide +kernel
theorem dX11_goneAfter_48 : decode cX11_goneAfter 48 = .ok (.aload_n 0, 1) := by decide +kernel
theorem dX11_goneAfter_49 : decode cX11_goneAfter 49 = .ok (.iload_n 1, 1) := by decide +kernel
theorem dX11_goneAfter_50 : decode cX11_goneAfter 50 = .ok (.invokevirtual 474, 3) := by decide +kernel
theorem dX11_goneAfter_53 : decode cX11_goneAfter 53 = .ok (.istore 4, 2) := by decide +kernel
theorem dX11_goneAfter_55 : decode cX11_goneAfter 55 = .ok (.aload_n 0, 1) := by decide +kernel
theorem dX11_goneAfter_56 : decode cX11_goneAfter 56 = .ok (.invokevirtual 466, 3) := by decide +kernel
theorem dX11_goneAfter_59 : decode cX11_goneAfter 59 = .ok (.iload_n 3, 1) := by decide +kernel
theorem dX11_goneAfter_60 : decode cX11_goneAfter 60 = .ok (.iload 4, 2) := by decide +kernel
theorem dX11_goneAfter_62 : decode cX11_goneAfter 62 = .ok (.isub, 1) := by decide +kernel
theorem dX11_goneAfter_63 : decode cX11_goneAfter 63 = .ok (.ireturn, 1) := by decide +kernel
theorem dX11_eventCount_0 : decode cX11_eventCount 0 = .ok (.aload_n 0, 1) := by decide +kernel
theorem dX11_eventCount_1 : decode cX11_eventCount 1 = .ok (.iconst 0, 1) := by decide +kernel
theorem dX11_eventCount_2 : decode cX11_eventCount 2 = .ok (.putfield 3, 3) := by decide +kernel
theorem dX11_eventCount_5 : decode cX11_eventCount 5 = .ok (.aload_n 0, 1) := by decide +kernel
theorem dX11_eventCount_6 : decode cX11_eventCount 6 = .ok (.getfield 17, 3) := by decide +kernel
theorem dX11_eventCount_9 : decode cX11_eventCount 9 = .ok (.bipush 9, 2) := by decide +kernel
theorem dX11_eventCount_11 : decode cX11_eventCount 11 = .ok (.iaload, 1) := by decide +kernel
theorem dX11_eventCount_12 : decode cX11_eventCount 12 = .ok (.ireturn, 1) := by decide +kernel
theorem dX11_event_0 : decode cX11_event 0 = .ok (.aload_n 0, 1) := by decide +kernel
theorem dX11_event_1 : decode cX11_event 1 = .ok (.iload_n 1, 1) := by decide +kernel
theorem dX11_event_2 : decode cX11_event 2 = .ok (.i2l, 1) := by decide +kernel
theorem dX11_event_3 : decode cX11_event 3 = .ok (.lconst 0, 1) := by decide +kernel
theorem dX11_event_4 : decode cX11_event 4 = .ok (.aload_n 0, 1) := by decide +kernel
theorem dX11_event_5 : decode cX11_event 5 = .ok (.getfield 17, 3) := by decide +kernel
theorem dX11_event_8 : decode cX11_event 8 = .ok (.bipush 9, 2) := by decide +kernel
theorem dX11_event_10 : decode cX11_event 10 = .ok (.iaload, 1) := by decide +kernel
theorem dX11_event_11 : decode cX11_event 11 = .ok (.iconst 1, 1) := by decide +kernel
theorem dX11_event_12 : decode cX11_event 12 = .ok (.isub, 1) := by decide +kernel
theorem dX11_event_13 : decode cX11_event 13 = .ok (.i2l, 1) := by decide +kernel
theorem dX11_event_14 : decode cX11_event 14 = .ok (.invokestatic 64, 3) := by decide +kernel
theorem dX11_event_17 : decode cX11_event 17 = .ok (.iload_n 2, 1) := by decide +kernel
theorem dX11_event_18 : decode cX11_event 18 = .ok (.i2l, 1) := by decide +kernel
theorem dX11_event_19 : decode cX11_event 19 = .ok (.lconst 0, 1) := by decide +kernel
theorem dX11_event_20 : decode cX11_event 20 = .ok (.ldc2_w 82, 3) := by decide +kernel
theorem dX11_event_23 : decode cX11_event 23 = .ok (.invokestatic 64, 3) := by decide +kernel
theorem dX11_event_26 : decode cX11_event 26 = .ok (.invokevirtual 267, 3) := by decide +kernel
theorem dX11_event_29 : decode cX11_event 29 = .ok (.ifCond .eq 20, 3) := by decide +kernel
theorem dX11_event_32 : decode cX11_event 32 = .ok (.aload_n 0, 1) := by decide +kernel
theorem dX11_event_33 : decode cX11_event 33 = .ok (.getfield 17, 3) := by decide +kernel
theorem dX11_event_36 : decode cX11_event 36 = .ok (.sipush 6211, 3) := by decide +kernel
theorem dX11_event_39 : decode cX11_event 39 = .ok (.iconst 3, 1) := by decide +kernel
theorem dX11_event_40 : decode cX11_event 40 = .ok (.iload_n 1, 1) := by decide +kernel
theorem dX11_event_41 : decode cX11_event 41 = .ok (.imul, 1) := by decide +kernel
theorem dX11_event_42 : decode cX11_event 42 = .ok (.iadd, 1) := by decide +kernel
theorem dX11_event_43 : decode cX11_event 43 = .ok (.iload_n 2, 1) := by decide +kernel
theorem dX11_event_44 : decode cX11_event 44 = .ok (.iadd, 1) := by decide +kernel
theorem dX11_event_45 : decode cX11_event 45 = .ok (.iaload, 1) := by decide +kernel
theorem dX11_event_46 : decode cX11_event 46 = .ok (.goto 4, 3) := by decide +kernel
theorem dX11_event_49 : decode cX11_event 49 = .ok (.iconst 0, 1) := by decide +kernel
theorem dX11_event_50 : decode cX11_event 50 = .ok (.ireturn, 1) := by decide +kernel
theorem dX11_eventsOf_0 : decode cX11_eventsOf 0 = .ok (.aload_n 0, 1) := by decide +kernel
theorem dX11_eventsOf_1 : decode cX11_eventsOf 1 = .ok (.iload_n 1, 1) := by decide +kernel
theorem dX11_eventsOf_2 : decode cX11_eventsOf 2 = .ok (.i2l, 1) := by decide +kernel
theorem dX11_eventsOf_3 : decode cX11_eventsOf 3 = .ok (.lconst 1, 1) := by decide +kernel
theorem dX11_eventsOf_4 : decode cX11_eventsOf 4 = .ok (.ldc2_w 477, 3) := by decide +kernel
theorem dX11_eventsOf_7 : decode cX11_eventsOf 7 = .ok (.invokestatic 64, 3) := by decide +kernel
theorem dX11_eventsOf_10 : decode cX11_eventsOf 10 = .ok (.invokevirtual 94, 3) := by decide +kernel
theorem dX11_eventsOf_13 : decode cX11_eventsOf 13 = .ok (.ifCond .ne 5, 3) := by decide +kernel
theorem dX11_eventsOf_16 : decode cX11_eventsOf 16 = .ok (.iconst 0, 1) := by decide +kernel
theorem dX11_eventsOf_17 : decode cX11_eventsOf 17 = .ok (.ireturn, 1) := by decide +kernel
theorem dX11_eventsOf_18 : decode cX11_eventsOf 18 = .ok (.iconst 0, 1) := by decide +kernel
theorem dX11_eventsOf_19 : decode cX11_eventsOf 19 = .ok (.istore_n 2, 1) := by decide +kernel
theorem dX11_eventsOf_20 : decode cX11_eventsOf 20 = .ok (.iconst 0, 1) := by decide +kernel
theorem dX11_eventsOf_21 : decode cX11_eventsOf 21 = .ok (.istore_n 3, 1) := by decide +kernel
theorem dX11_eventsOf_22 : decode cX11_eventsOf 22 = .ok (.iload_n 3, 1) := by decide +kernel
theorem dX11_eventsOf_23 : decode cX11_eventsOf 23 = .ok (.aload_n 0, 1) := by decide +kernel
theorem dX11_eventsOf_24 : decode cX11_eventsOf 24 = .ok (.getfield 17, 3) := by decide +kernel
theorem dX11_eventsOf_27 : decode cX11_eventsOf 27 = .ok (.bipush 9, 2) := by decide +kernel
theorem dX11_eventsOf_29 : decode cX11_eventsOf 29 = .ok (.iaload, 1) := by decide +kernel
theorem dX11_eventsOf_30 : decode cX11_eventsOf 30 = .ok (.if_icmp .ge 35, 3) := by decide +kernel
theorem dX11_eventsOf_33 : decode cX11_eventsOf 33 = .ok (.iload_n 2, 1) := by decide +kernel
theorem dX11_eventsOf_34 : decode cX11_eventsOf 34 = .ok (.aload_n 0, 1) := by decide +kernel
theorem dX11_eventsOf_35 : decode cX11_eventsOf 35 = .ok (.getfield 17, 3) := by decide +kernel
theorem dX11_eventsOf_38 : decode cX11_eventsOf 38 = .ok (.sipush 6211, 3) := by decide +kernel
theorem dX11_eventsOf_41 : decode cX11_eventsOf 41 = .ok (.iconst 3, 1) := by decide +kernel
theorem dX11_eventsOf_42 : decode cX11_eventsOf 42 = .ok (.iload_n 3, 1) := by decide +kernel
theorem dX11_eventsOf_43 : decode cX11_eventsOf 43 = .ok (.imul, 1) := by decide +kernel
theorem dX11_eventsOf_44 : decode cX11_eventsOf 44 = .ok (.iadd, 1) := by decide +kernel
theorem dX11_eventsOf_45 : decode cX11_eventsOf 45 = .ok (.iconst 1, 1) := by decide +kernel
theorem dX11_eventsOf_46 : decode cX11_eventsOf 46 = .ok (.iadd, 1) := by decide +kernel
theorem dX11_eventsOf_47 : decode cX11_eventsOf 47 = .ok (.iaload, 1) := by decide +kernel
theorem dX11_eventsOf_48 : decode cX11_eventsOf 48 = .ok (.iload_n 1, 1) := by decide +kernel
theorem dX11_eventsOf_49 : decode cX11_eventsOf 49 = .ok (.if_icmp .ne 7, 3) := by decide +kernel
theorem dX11_eventsOf_52 : decode cX11_eventsOf 52 = .ok (.iconst 1, 1) := by decide +kernel
theorem dX11_eventsOf_53 : decode cX11_eventsOf 53 = .ok (.goto 4, 3) := by decide +kernel
theorem dX11_eventsOf_56 : decode cX11_eventsOf 56 = .ok (.iconst 0, 1) := by decide +kernel
theorem dX11_eventsOf_57 : decode cX11_eventsOf 57 = .ok (.iadd, 1) := by decide +kernel
theorem dX11_eventsOf_58 : decode cX11_eventsOf 58 = .ok (.istore_n 2, 1) := by decide +kernel
theorem dX11_eventsOf_59 : decode cX11_eventsOf 59 = .ok (.iinc 3 1, 3) := by decide +kernel
theorem dX11_eventsOf_62 : decode cX11_eventsOf 62 = .ok (.goto (-40), 3) := by decide +kernel
theorem dX11_eventsOf_65 : decode cX11_eventsOf 65 = .ok (.iload_n 2, 1) := by decide +kernel
theorem dX11_eventsOf_66 : decode cX11_eventsOf 66 = .ok (.ireturn, 1) := by decide +kernel
theorem dX11_remember_0 : decode cX11_remember 0 = .ok (.aload_n 0, 1) := by decide +kernel
theorem dX11_remember_1 : decode cX11_remember 1 = .ok (.getfield 479, 3) := by decide +kernel
theorem dX11_remember_4 : decode cX11_remember 4 = .ok (.bipush 6, 2) := by decide +kernel
theorem dX11_remember_6 : decode cX11_remember 6 = .ok (.if_icmp .ne 26, 3) := by decide +kernel
theorem dX11_remember_9 : decode cX11_remember 9 = .ok (.aload_n 0, 1) := by decide +kernel
theorem dX11_remember_10 : decode cX11_remember 10 = .ok (.aload_n 0, 1) := by decide +kernel
theorem dX11_remember_11 : decode cX11_remember 11 = .ok (.getfield 482, 3) := by decide +kernel
theorem dX11_remember_14 : decode cX11_remember 14 = .ok (.iconst 1, 1) := by decide +kernel
theorem dX11_remember_15 : decode cX11_remember 15 = .ok (.iadd, 1) := by decide +kernel
theorem dX11_remember_16 : decode cX11_remember 16 = .ok (.bipush 6, 2) := by decide +kernel
theorem dX11_remember_18 : decode cX11_remember 18 = .ok (.irem, 1) := by decide +kernel
theorem dX11_remember_19 : decode cX11_remember 19 = .ok (.putfield 482, 3) := by decide +kernel
theorem dX11_remember_22 : decode cX11_remember 22 = .ok (.aload_n 0, 1) := by decide +kernel
theorem dX11_remember_23 : decode cX11_remember 23 = .ok (.dup, 1) := by decide +kernel
theorem dX11_remember_24 : decode cX11_remember 24 = .ok (.getfield 479, 3) := by decide +kernel
theorem dX11_remember_27 : decode cX11_remember 27 = .ok (.iconst 1, 1) := by decide +kernel
theorem dX11_remember_28 : decode cX11_remember 28 = .ok (.isub, 1) := by decide +kernel
theorem dX11_remember_29 : decode cX11_remember 29 = .ok (.putfield 479, 3) := by decide +kernel
theorem dX11_remember_32 : decode cX11_remember 32 = .ok (.aload_n 0, 1) := by decide +kernel
theorem dX11_remember_33 : decode cX11_remember 33 = .ok (.getfield 482, 3) := by decide +kernel
theorem dX11_remember_36 : decode cX11_remember 36 = .ok (.aload_n 0, 1) := by decide +kernel
theorem dX11_remember_37 : decode cX11_remember 37 = .ok (.getfield 479, 3) := by decide +kernel
theorem dX11_remember_40 : decode cX11_remember 40 = .ok (.iadd, 1) := by decide +kernel
theorem dX11_remember_41 : decode cX11_remember 41 = .ok (.bipush 6, 2) := by decide +kernel
theorem dX11_remember_43 : decode cX11_remember 43 = .ok (.irem, 1) := by decide +kernel
theorem dX11_remember_44 : decode cX11_remember 44 = .ok (.istore_n 1, 1) := by decide +kernel
theorem dX11_remember_45 : decode cX11_remember 45 = .ok (.iconst 0, 1) := by decide +kernel
theorem dX11_remember_46 : decode cX11_remember 46 = .ok (.istore_n 2, 1) := by decide +kernel
theorem dX11_remember_47 : decode cX11_remember 47 = .ok (.iload_n 2, 1) := by decide +kernel
theorem dX11_remember_48 : decode cX11_remember 48 = .ok (.sipush 6391, 3) := by decide +kernel
theorem dX11_remember_51 : decode cX11_remember 51 = .ok (.if_icmp .ge 27, 3) := by decide +kernel
theorem dX11_remember_54 : decode cX11_remember 54 = .ok (.aload_n 0, 1) := by decide +kernel
theorem dX11_remember_55 : decode cX11_remember 55 = .ok (.getfield 54, 3) := by decide +kernel
theorem dX11_remember_58 : decode cX11_remember 58 = .ok (.sipush 6391, 3) := by decide +kernel
theorem dX11_remember_61 : decode cX11_remember 61 = .ok (.iload_n 1, 1) := by decide +kernel
theorem dX11_remember_62 : decode cX11_remember 62 = .ok (.imul, 1) := by decide +kernel
theorem dX11_remember_63 : decode cX11_remember 63 = .ok (.iload_n 2, 1) := by decide +kernel
theorem dX11_remember_64 : decode cX11_remember 64 = .ok (.iadd, 1) := by decide +kernel
theorem dX11_remember_65 : decode cX11_remember 65 = .ok (.aload_n 0, 1) := by decide +kernel
theorem dX11_remember_66 : decode cX11_remember 66 = .ok (.getfield 17, 3) := by decide +kernel
theorem dX11_remember_69 : decode cX11_remember 69 = .ok (.iload_n 2, 1) := by decide +kernel
theorem dX11_remember_70 : decode cX11_remember 70 = .ok (.iaload, 1) := by decide +kernel
theorem dX11_remember_71 : decode cX11_remember 71 = .ok (.iastore, 1) := by decide +kernel
theorem dX11_remember_72 : decode cX11_remember 72 = .ok (.iinc 2 1, 3) := by decide +kernel
theorem dX11_remember_75 : decode cX11_remember 75 = .ok (.goto (-28), 3) := by decide +kernel
theorem dX11_remember_78 : decode cX11_remember 78 = .ok (.iconst 0, 1) := by decide +kernel
theorem dX11_remember_79 : decode cX11_remember 79 = .ok (.istore_n 2, 1) := by decide +kernel
theorem dX11_remember_80 : decode cX11_remember 80 = .ok (.iload_n 2, 1) := by decide +kernel
theorem dX11_remember_81 : decode cX11_remember 81 = .ok (.sipush 200, 3) := by decide +kernel
theorem dX11_remember_84 : decode cX11_remember 84 = .ok (.aload_n 0, 1) := by decide +kernel
theorem dX11_remember_85 : decode cX11_remember 85 = .ok (.getfield 17, 3) := by decide +kernel
theorem dX11_remember_88 : decode cX11_remember 88 = .ok (.bipush 8, 2) := by decide +kernel
theorem dX11_remember_90 : decode cX11_remember 90 = .ok (.iaload, 1) := by decide +kernel
theorem dX11_remember_91 : decode cX11_remember 91 = .ok (.imul, 1) := by decide +kernel
theorem dX11_remember_92 : decode cX11_remember 92 = .ok (.if_icmp .ge 26, 3) := by decide +kernel
theorem dX11_remember_95 : decode cX11_remember 95 = .ok (.aload_n 0, 1) := by decide +kernel
theorem dX11_remember_96 : decode cX11_remember 96 = .ok (.getfield 58, 3) := by decide +kernel
theorem dX11_remember_99 : decode cX11_remember 99 = .ok (.ldc 24, 2) := by decide +kernel
theorem dX11_remember_101 : decode cX11_remember 101 = .ok (.iload_n 1, 1) := by decide +kernel
theorem dX11_remember_102 : decode cX11_remember 102 = .ok (.imul, 1) := by decide +kernel
theorem dX11_remember_103 : decode cX11_remember 103 = .ok (.iload_n 2, 1) := by decide +kernel
theorem dX11_remember_104 : decode cX11_remember 104 = .ok (.iadd, 1) := by decide +kernel
theorem dX11_remember_105 : decode cX11_remember 105 = .ok (.aload_n 0, 1) := by decide +kernel
theorem dX11_remember_106 : decode cX11_remember 106 = .ok (.getfield 25, 3) := by decide +kernel
theorem dX11_remember_109 : decode cX11_remember 109 = .ok (.iload_n 2, 1) := by decide +kernel
theorem dX11_remember_110 : decode cX11_remember 110 = .ok (.baload, 1) := by decide +kernel
theorem dX11_remember_111 : decode cX11_remember 111 = .ok (.bastore, 1) := by decide +kernel
theorem dX11_remember_112 : decode cX11_remember 112 = .ok (.iinc 2 1, 3) := by decide +kernel
theorem dX11_remember_115 : decode cX11_remember 115 = .ok (.goto (-35), 3) := by decide +kernel
theorem dX11_remember_118 : decode cX11_remember 118 = .ok (.aload_n 0, 1) := by decide +kernel
theorem dX11_remember_119 : decode cX11_remember 119 = .ok (.dup, 1) := by decide +kernel
theorem dX11_remember_120 : decode cX11_remember 120 = .ok (.getfield 479, 3) := by decide +kernel
theorem dX11_remember_123 : decode cX11_remember 123 = .ok (.iconst 1, 1) := by decide +kernel
theorem dX11_remember_124 : decode cX11_remember 124 = .ok (.iadd, 1) := by decide +kernel
theorem dX11_remember_125 : decode cX11_remember 125 = .ok (.putfield 479, 3) := by decide +kernel
theorem dX11_remember_128 : decode cX11_remember 128 = .ok (.return_, 1) := by decide +kernel
theorem dX11_undo_0 : decode cX11_undo 0 = .ok (.aload_n 0, 1) := by decide +kernel
theorem dX11_undo_1 : decode cX11_undo 1 = .ok (.aload_n 0, 1) := by decide +kernel
theorem dX11_undo_2 : decode cX11_undo 2 = .ok (.getfield 479, 3) := by decide +kernel
theorem dX11_undo_5 : decode cX11_undo 5 = .ok (.ifCond .le 7, 3) := by decide +kernel
theorem dX11_undo_8 : decode cX11_undo 8 = .ok (.iconst 1, 1) := by decide +kernel
theorem dX11_undo_9 : decode cX11_undo 9 = .ok (.goto 4, 3) := by decide +kernel
theorem dX11_undo_12 : decode cX11_undo 12 = .ok (.iconst 0, 1) := by decide +kernel
theorem dX11_undo_13 : decode cX11_undo 13 = .ok (.invokevirtual 94, 3) := by decide +kernel
theorem dX11_undo_16 : decode cX11_undo 16 = .ok (.ifCond .ne 5, 3) := by decide +kernel
theorem dX11_undo_19 : decode cX11_undo 19 = .ok (.iconst 0, 1) := by decide +kernel
theorem dX11_undo_20 : decode cX11_undo 20 = .ok (.ireturn, 1) := by decide +kernel
theorem dX11_undo_21 : decode cX11_undo 21 = .ok (.aload_n 0, 1) := by decide +kernel
theorem dX11_undo_22 : decode cX11_undo 22 = .ok (.dup, 1) := by decide +kernel
theorem dX11_undo_23 : decode cX11_undo 23 = .ok (.getfield 479, 3) := by decide +kernel
theorem dX11_undo_26 : decode cX11_undo 26 = .ok (.iconst 1, 1) := by decide +kernel
theorem dX11_undo_27 : decode cX11_undo 27 = .ok (.isub, 1) := by decide +kernel
theorem dX11_undo_28 : decode cX11_undo 28 = .ok (.putfield 479, 3) := by decide +kernel
theorem dX11_undo_31 : decode cX11_undo 31 = .ok (.aload_n 0, 1) := by decide +kernel
theorem dX11_undo_32 : decode cX11_undo 32 = .ok (.getfield 482, 3) := by decide +kernel
theorem dX11_undo_35 : decode cX11_undo 35 = .ok (.aload_n 0, 1) := by decide +kernel
theorem dX11_undo_36 : decode cX11_undo 36 = .ok (.getfield 479, 3) := by decide +kernel
theorem dX11_undo_39 : decode cX11_undo 39 = .ok (.iadd, 1) := by decide +kernel
theorem dX11_undo_40 : decode cX11_undo 40 = .ok (.bipush 6, 2) := by decide +kernel
theorem dX11_undo_42 : decode cX11_undo 42 = .ok (.irem, 1) := by decide +kernel
theorem dX11_undo_43 : decode cX11_undo 43 = .ok (.istore_n 1, 1) := by decide +kernel
theorem dX11_undo_44 : decode cX11_undo 44 = .ok (.iconst 0, 1) := by decide +kernel
theorem dX11_undo_45 : decode cX11_undo 45 = .ok (.istore_n 2, 1) := by decide +kernel
theorem dX11_undo_46 : decode cX11_undo 46 = .ok (.iload_n 2, 1) := by decide +kernel
theorem dX11_undo_47 : decode cX11_undo 47 = .ok (.sipush 6391, 3) := by decide +kernel
theorem dX11_undo_50 : decode cX11_undo 50 = .ok (.if_icmp .ge 27, 3) := by decide +kernel
theorem dX11_undo_53 : decode cX11_undo 53 = .ok (.aload_n 0, 1) := by decide +kernel
theorem dX11_undo_54 : decode cX11_undo 54 = .ok (.getfield 17, 3) := by decide +kernel
theorem dX11_undo_57 : decode cX11_undo 57 = .ok (.iload_n 2, 1) := by decide +kernel
theorem dX11_undo_58 : decode cX11_undo 58 = .ok (.aload_n 0, 1) := by decide +kernel
theorem dX11_undo_59 : decode cX11_undo 59 = .ok (.getfield 54, 3) := by decide +kernel
theorem dX11_undo_62 : decode cX11_undo 62 = .ok (.sipush 6391, 3) := by decide +kernel
theorem dX11_undo_65 : decode cX11_undo 65 = .ok (.iload_n 1, 1) := by decide +kernel
theorem dX11_undo_66 : decode cX11_undo 66 = .ok (.imul, 1) := by decide +kernel
theorem dX11_undo_67 : decode cX11_undo 67 = .ok (.iload_n 2, 1) := by decide +kernel
theorem dX11_undo_68 : decode cX11_undo 68 = .ok (.iadd, 1) := by decide +kernel
theorem dX11_undo_69 : decode cX11_undo 69 = .ok (.iaload, 1) := by decide +kernel
theorem dX11_undo_70 : decode cX11_undo 70 = .ok (.iastore, 1) := by decide +kernel
theorem dX11_undo_71 : decode cX11_undo 71 = .ok (.iinc 2 1, 3) := by decide +kernel
theorem dX11_undo_74 : decode cX11_undo 74 = .ok (.goto (-28), 3) := by decide +kernel
theorem dX11_undo_77 : decode cX11_undo 77 = .ok (.iconst 0, 1) := by decide +kernel
theorem dX11_undo_78 : decode cX11_undo 78 = .ok (.istore_n 2, 1) := by decide +kernel
theorem dX11_undo_79 : decode cX11_undo 79 = .ok (.iload_n 2, 1) := by decide +kernel
theorem dX11_undo_80 : decode cX11_undo 80 = .ok (.sipush 200, 3) := by decide +kernel
theorem dX11_undo_83 : decode cX11_undo 83 = .ok (.aload_n 0, 1) := by decide +kernel
theorem dX11_undo_84 : decode cX11_undo 84 = .ok (.getfield 17, 3) := by decide +kernel
theorem dX11_undo_87 : decode cX11_undo 87 = .ok (.bipush 8, 2) := by decide +kernel
theorem dX11_undo_89 : decode cX11_undo 89 = .ok (.iaload, 1) := by decide +kernel
theorem dX11_undo_90 : decode cX11_undo 90 = .ok (.imul, 1) := by decide +kernel
theorem dX11_undo_91 : decode cX11_undo 91 = .ok (.if_icmp .ge 26, 3) := by decide +kernel
theorem dX11_undo_94 : decode cX11_undo 94 = .ok (.aload_n 0, 1) := by decide +kernel
theorem dX11_undo_95 : decode cX11_undo 95 = .ok (.getfield 25, 3) := by decide +kernel
theorem dX11_undo_98 : decode cX11_undo 98 = .ok (.iload_n 2, 1) := by decide +kernel
theorem dX11_undo_99 : decode cX11_undo 99 = .ok (.aload_n 0, 1) := by decide +kernel
theorem dX11_undo_100 : decode cX11_undo 100 = .ok (.getfield 58, 3) := by decide +kernel
theorem dX11_undo_103 : decode cX11_undo 103 = .ok (.ldc 24, 2) := by decide +kernel
theorem dX11_undo_105 : decode cX11_undo 105 = .ok (.iload_n 1, 1) := by decide +kernel
theorem dX11_undo_106 : decode cX11_undo 106 = .ok (.imul, 1) := by decide +kernel
theorem dX11_undo_107 : decode cX11_undo 107 = .ok (.iload_n 2, 1) := by decide +kernel
theorem dX11_undo_108 : decode cX11_undo 108 = .ok (.iadd, 1) := by decide +kernel
theorem dX11_undo_109 : decode cX11_undo 109 = .ok (.baload, 1) := by decide +kernel
theorem dX11_undo_110 : decode cX11_undo 110 = .ok (.bastore, 1) := by decide +kernel
theorem dX11_undo_111 : decode cX11_undo 111 = .ok (.iinc 2 1, 3) := by decide +kernel
theorem dX11_undo_114 : decode cX11_undo 114 = .ok (.goto (-35), 3) := by decide +kernel
theorem dX11_undo_117 : decode cX11_undo 117 = .ok (.aload_n 0, 1) := by decide +kernel
theorem dX11_undo_118 : decode cX11_undo 118 = .ok (.getfield 479, 3) := by decide +kernel
theorem dX11_undo_121 : decode cX11_undo 121 = .ok (.ireturn, 1) := by decide +kernel
theorem dX11_undoCount_0 : decode cX11_undoCount 0 = .ok (.aload_n 0, 1) := by decide +kernel
theorem dX11_undoCount_1 : decode cX11_undoCount 1 = .ok (.iconst 0, 1) := by decide +kernel
theorem dX11_undoCount_2 : decode cX11_undoCount 2 = .ok (.putfield 3, 3) := by decide +kernel
theorem dX11_undoCount_5 : decode cX11_undoCount 5 = .ok (.aload_n 0, 1) := by decide +kernel
theorem dX11_undoCount_6 : decode cX11_undoCount 6 = .ok (.getfield 479, 3) := by decide +kernel
theorem dX11_undoCount_9 : decode cX11_undoCount 9 = .ok (.ireturn, 1) := by decide +kernel
theorem dX11_write_0 : decode cX11_write 0 = .ok (.aload_n 0, 1) := by decide +kernel
theorem dX11_write_1 : decode cX11_write 1 = .ok (.getfield 61, 3) := by decide +kernel
theorem dX11_write_4 : decode cX11_write 4 = .ok (.aload_n 0, 1) := by decide +kernel
theorem dX11_write_5 : decode cX11_write 5 = .ok (.getfield 485, 3) := by decide +kernel
theorem dX11_write_8 : decode cX11_write 8 = .ok (.iload_n 1, 1) := by decide +kernel
theorem dX11_write_9 : decode cX11_write 9 = .ok (.i2b, 1) := by decide +kernel
theorem dX11_write_10 : decode cX11_write 10 = .ok (.bastore, 1) := by decide +kernel
theorem dX11_write_11 : decode cX11_write 11 = .ok (.aload_n 0, 1) := by decide +kernel
theorem dX11_write_12 : decode cX11_write 12 = .ok (.dup, 1) := by decide +kernel
theorem dX11_write_13 : decode cX11_write 13 = .ok (.getfield 485, 3) := by decide +kernel
theorem dX11_write_16 : decode cX11_write 16 = .ok (.iconst 1, 1) := by decide +kernel
theorem dX11_write_17 : decode cX11_write 17 = .ok (.iadd, 1) := by decide +kernel
theorem dX11_write_18 : decode cX11_write 18 = .ok (.putfield 485, 3) := by decide +kernel
theorem dX11_write_21 : decode cX11_write 21 = .ok (.return_, 1) := by decide +kernel
theorem dX11_writeNumber_0 : decode cX11_writeNumber 0 = .ok (.iconst 1, 1) := by decide +kernel
theorem dX11_writeNumber_1 : decode cX11_writeNumber 1 = .ok (.istore_n 2, 1) := by decide +kernel
theorem dX11_writeNumber_2 : decode cX11_writeNumber 2 = .ok (.iload_n 1, 1) := by decide +kernel
theorem dX11_writeNumber_3 : decode cX11_writeNumber 3 = .ok (.iload_n 2, 1) := by decide +kernel
theorem dX11_writeNumber_4 : decode cX11_writeNumber 4 = .ok (.idiv, 1) := by decide +kernel
theorem dX11_writeNumber_5 : decode cX11_writeNumber 5 = .ok (.bipush 10, 2) := by decide +kernel
theorem dX11_writeNumber_7 : decode cX11_writeNumber 7 = .ok (.if_icmp .lt 11, 3) := by decide +kernel
theorem dX11_writeNumber_10 : decode cX11_writeNumber 10 = .ok (.iload_n 2, 1) := by decide +kernel
theorem dX11_writeNumber_11 : decode cX11_writeNumber 11 = .ok (.bipush 10, 2) := by decide +kernel
theorem dX11_writeNumber_13 : decode cX11_writeNumber 13 = .ok (.imul, 1) := by decide +kernel
theorem dX11_writeNumber_14 : decode cX11_writeNumber 14 = .ok (.istore_n 2, 1) := by decide +kernel
theorem dX11_writeNumber_15 : decode cX11_writeNumber 15 = .ok (.goto (-13), 3) := by decide +kernel
theorem dX11_writeNumber_18 : decode cX11_writeNumber 18 = .ok (.iload_n 2, 1) := by decide +kernel
theorem dX11_writeNumber_19 : decode cX11_writeNumber 19 = .ok (.istore_n 3, 1) := by decide +kernel
theorem dX11_writeNumber_20 : decode cX11_writeNumber 20 = .ok (.iload_n 3, 1) := by decide +kernel
theorem dX11_writeNumber_21 : decode cX11_writeNumber 21 = .ok (.ifCond .le 24, 3) := by decide +kernel
theorem dX11_writeNumber_24 : decode cX11_writeNumber 24 = .ok (.aload_n 0, 1) := by decide +kernel
theorem dX11_writeNumber_25 : decode cX11_writeNumber 25 = .ok (.bipush 48, 2) := by decide +kernel
theorem dX11_writeNumber_27 : decode cX11_writeNumber 27 = .ok (.iload_n 1, 1) := by decide +kernel
theorem dX11_writeNumber_28 : decode cX11_writeNumber 28 = .ok (.iload_n 3, 1) := by decide +kernel
theorem dX11_writeNumber_29 : decode cX11_writeNumber 29 = .ok (.idiv, 1) := by decide +kernel
theorem dX11_writeNumber_30 : decode cX11_writeNumber 30 = .ok (.bipush 10, 2) := by decide +kernel
theorem dX11_writeNumber_32 : decode cX11_writeNumber 32 = .ok (.irem, 1) := by decide +kernel
theorem dX11_writeNumber_33 : decode cX11_writeNumber 33 = .ok (.iadd, 1) := by decide +kernel
theorem dX11_writeNumber_34 : decode cX11_writeNumber 34 = .ok (.invokevirtual 488, 3) := by decide +kernel
theorem dX11_writeNumber_37 : decode cX11_writeNumber 37 = .ok (.iload_n 3, 1) := by decide +kernel
theorem dX11_writeNumber_38 : decode cX11_writeNumber 38 = .ok (.bipush 10, 2) := by decide +kernel
theorem dX11_writeNumber_40 : decode cX11_writeNumber 40 = .ok (.idiv, 1) := by decide +kernel
theorem dX11_writeNumber_41 : decode cX11_writeNumber 41 = .ok (.istore_n 3, 1) := by decide +kernel
theorem dX11_writeNumber_42 : decode cX11_writeNumber 42 = .ok (.goto (-22), 3) := by decide +kernel
theorem dX11_writeNumber_45 : decode cX11_writeNumber 45 = .ok (.return_, 1) := by decide +kernel
theorem dX11_writeClass_0 : decode cX11_writeClass 0 = .ok (.iconst 0, 1) := by decide +kernel
theorem dX11_writeClass_1 : decode cX11_writeClass 1 = .ok (.istore_n 2, 1) := by decide +kernel
theorem dX11_writeClass_2 : decode cX11_writeClass 2 = .ok (.iload_n 2, 1) := by decide +kernel
theorem dX11_writeClass_3 : decode cX11_writeClass 3 = .ok (.bipush 6, 2) := by decide +kernel
theorem dX11_writeClass_5 : decode cX11_writeClass 5 = .ok (.if_icmp .ge 32, 3) := by decide +kernel
theorem dX11_writeClass_8 : decode cX11_writeClass 8 = .ok (.aload_n 0, 1) := by decide +kernel
theorem dX11_writeClass_9 : decode cX11_writeClass 9 = .ok (.iload_n 1, 1) := by decide +kernel
theorem dX11_writeClass_10 : decode cX11_writeClass 10 = .ok (.iconst 3, 1) := by decide +kernel
theorem dX11_writeClass_11 : decode cX11_writeClass 11 = .ok (.iload_n 2, 1) := by decide +kernel
theorem dX11_writeClass_12 : decode cX11_writeClass 12 = .ok (.iadd, 1) := by decide +kernel
theorem dX11_writeClass_13 : decode cX11_writeClass 13 = .ok (.invokevirtual 271, 3) := by decide +kernel
theorem dX11_writeClass_16 : decode cX11_writeClass 16 = .ok (.ifCond .eq 21, 3) := by decide +kernel
theorem dX11_writeClass_19 : decode cX11_writeClass 19 = .ok (.aload_n 0, 1) := by decide +kernel
theorem dX11_writeClass_20 : decode cX11_writeClass 20 = .ok (.aload_n 0, 1) := by decide +kernel
theorem dX11_writeClass_21 : decode cX11_writeClass 21 = .ok (.iload_n 1, 1) := by decide +kernel
theorem dX11_writeClass_22 : decode cX11_writeClass 22 = .ok (.iconst 3, 1) := by decide +kernel
theorem dX11_writeClass_23 : decode cX11_writeClass 23 = .ok (.iload_n 2, 1) := by decide +kernel
theorem dX11_writeClass_24 : decode cX11_writeClass 24 = .ok (.iadd, 1) := by decide +kernel
theorem dX11_writeClass_25 : decode cX11_writeClass 25 = .ok (.invokevirtual 271, 3) := by decide +kernel
theorem dX11_writeClass_28 : decode cX11_writeClass 28 = .ok (.invokevirtual 488, 3) := by decide +kernel
theorem dX11_writeClass_31 : decode cX11_writeClass 31 = .ok (.iinc 2 1, 3) := by decide +kernel
theorem dX11_writeClass_34 : decode cX11_writeClass 34 = .ok (.goto (-32), 3) := by decide +kernel
theorem dX11_writeClass_37 : decode cX11_writeClass 37 = .ok (.return_, 1) := by decide +kernel
theorem dX11_writeMailbox_0 : decode cX11_writeMailbox 0 = .ok (.aload_n 0, 1) := by decide +kernel
theorem dX11_writeMailbox_1 : decode cX11_writeMailbox 1 = .ok (.aload_n 0, 1) := by decide +kernel
theorem dX11_writeMailbox_2 : decode cX11_writeMailbox 2 = .ok (.iload_n 1, 1) := by decide +kernel
theorem dX11_writeMailbox_3 : decode cX11_writeMailbox 3 = .ok (.invokevirtual 76, 3) := by decide +kernel
theorem dX11_writeMailbox_6 : decode cX11_writeMailbox 6 = .ok (.invokevirtual 94, 3) := by decide +kernel
theorem dX11_writeMailbox_9 : decode cX11_writeMailbox 9 = .ok (.ifCond .ne 5, 3) := by decide +kernel
theorem dX11_writeMailbox_12 : decode cX11_writeMailbox 12 = .ok (.iconst 0, 1) := by decide +kernel
theorem dX11_writeMailbox_13 : decode cX11_writeMailbox 13 = .ok (.ireturn, 1) := by decide +kernel
theorem dX11_writeMailbox_14 : decode cX11_writeMailbox 14 = .ok (.aload_n 0, 1) := by decide +kernel
theorem dX11_writeMailbox_15 : decode cX11_writeMailbox 15 = .ok (.iconst 0, 1) := by decide +kernel
theorem dX11_writeMailbox_16 : decode cX11_writeMailbox 16 = .ok (.putfield 485, 3) := by decide +kernel
theorem dX11_writeMailbox_19 : decode cX11_writeMailbox 19 = .ok (.iconst 0, 1) := by decide +kernel
theorem dX11_writeMailbox_20 : decode cX11_writeMailbox 20 = .ok (.istore_n 2, 1) := by decide +kernel
theorem dX11_writeMailbox_21 : decode cX11_writeMailbox 21 = .ok (.iload_n 2, 1) := by decide +kernel
theorem dX11_writeMailbox_22 : decode cX11_writeMailbox 22 = .ok (.aload_n 0, 1) := by decide +kernel
theorem dX11_writeMailbox_23 : decode cX11_writeMailbox 23 = .ok (.getfield 17, 3) := by decide +kernel
theorem dX11_writeMailbox_26 : decode cX11_writeMailbox 26 = .ok (.bipush 7, 2) := by decide +kernel
theorem dX11_writeMailbox_28 : decode cX11_writeMailbox 28 = .ok (.iaload, 1) := by decide +kernel
theorem dX11_writeMailbox_29 : decode cX11_writeMailbox 29 = .ok (.if_icmp .ge 76, 3) := by decide +kernel
theorem dX11_writeMailbox_32 : decode cX11_writeMailbox 32 = .ok (.aload_n 0, 1) := by decide +kernel
theorem dX11_writeMailbox_33 : decode cX11_writeMailbox 33 = .ok (.iload_n 2, 1) := by decide +kernel
theorem dX11_writeMailbox_34 : decode cX11_writeMailbox 34 = .ok (.iload_n 1, 1) := by decide +kernel
theorem dX11_writeMailbox_35 : decode cX11_writeMailbox 35 = .ok (.invokevirtual 348, 3) := by decide +kernel
theorem dX11_writeMailbox_38 : decode cX11_writeMailbox 38 = .ok (.ifCond .ne 6, 3) := by decide +kernel
theorem dX11_writeMailbox_41 : decode cX11_writeMailbox 41 = .ok (.goto 58, 3) := by decide +kernel
theorem dX11_writeMailbox_44 : decode cX11_writeMailbox 44 = .ok (.aload_n 0, 1) := by decide +kernel
theorem dX11_writeMailbox_45 : decode cX11_writeMailbox 45 = .ok (.iload_n 2, 1) := by decide +kernel
theorem dX11_writeMailbox_46 : decode cX11_writeMailbox 46 = .ok (.invokevirtual 491, 3) := by decide +kernel
theorem dX11_writeMailbox_49 : decode cX11_writeMailbox 49 = .ok (.aload_n 0, 1) := by decide +kernel
theorem dX11_writeMailbox_50 : decode cX11_writeMailbox 50 = .ok (.bipush 58, 2) := by decide +kernel
theorem dX11_writeMailbox_52 : decode cX11_writeMailbox 52 = .ok (.invokevirtual 488, 3) := by decide +kernel
theorem dX11_writeMailbox_55 : decode cX11_writeMailbox 55 = .ok (.aload_n 0, 1) := by decide +kernel
theorem dX11_writeMailbox_56 : decode cX11_writeMailbox 56 = .ok (.aload_n 0, 1) := by decide +kernel
theorem dX11_writeMailbox_57 : decode cX11_writeMailbox 57 = .ok (.getfield 17, 3) := by decide +kernel
theorem dX11_writeMailbox_60 : decode cX11_writeMailbox 60 = .ok (.iload_n 2, 1) := by decide +kernel
theorem dX11_writeMailbox_61 : decode cX11_writeMailbox 61 = .ok (.iload_n 1, 1) := by decide +kernel
theorem dX11_writeMailbox_62 : decode cX11_writeMailbox 62 = .ok (.invokestatic 68, 3) := by decide +kernel
theorem dX11_writeMailbox_65 : decode cX11_writeMailbox 65 = .ok (.iconst 1, 1) := by decide +kernel
theorem dX11_writeMailbox_66 : decode cX11_writeMailbox 66 = .ok (.iadd, 1) := by decide +kernel
theorem dX11_writeMailbox_67 : decode cX11_writeMailbox 67 = .ok (.iaload, 1) := by decide +kernel
theorem dX11_writeMailbox_68 : decode cX11_writeMailbox 68 = .ok (.invokevirtual 494, 3) := by decide +kernel
theorem dX11_writeMailbox_71 : decode cX11_writeMailbox 71 = .ok (.aload_n 0, 1) := by decide +kernel
theorem dX11_writeMailbox_72 : decode cX11_writeMailbox 72 = .ok (.bipush 47, 2) := by decide +kernel
theorem dX11_writeMailbox_74 : decode cX11_writeMailbox 74 = .ok (.invokevirtual 488, 3) := by decide +kernel
theorem dX11_writeMailbox_77 : decode cX11_writeMailbox 77 = .ok (.aload_n 0, 1) := by decide +kernel
theorem dX11_writeMailbox_78 : decode cX11_writeMailbox 78 = .ok (.aload_n 0, 1) := by decide +kernel
theorem dX11_writeMailbox_79 : decode cX11_writeMailbox 79 = .ok (.getfield 17, 3) := by decide +kernel
theorem dX11_writeMailbox_82 : decode cX11_writeMailbox 82 = .ok (.iload_n 2, 1) := by decide +kernel
theorem dX11_writeMailbox_83 : decode cX11_writeMailbox 83 = .ok (.iload_n 1, 1) := by decide +kernel
theorem dX11_writeMailbox_84 : decode cX11_writeMailbox 84 = .ok (.invokestatic 68, 3) := by decide +kernel
theorem dX11_writeMailbox_87 : decode cX11_writeMailbox 87 = .ok (.iconst 2, 1) := by decide +kernel
theorem dX11_writeMailbox_88 : decode cX11_writeMailbox 88 = .ok (.iadd, 1) := by decide +kernel
theorem dX11_writeMailbox_89 : decode cX11_writeMailbox 89 = .ok (.iaload, 1) := by decide +kernel
theorem dX11_writeMailbox_90 : decode cX11_writeMailbox 90 = .ok (.invokevirtual 491, 3) := by decide +kernel
theorem dX11_writeMailbox_93 : decode cX11_writeMailbox 93 = .ok (.aload_n 0, 1) := by decide +kernel
theorem dX11_writeMailbox_94 : decode cX11_writeMailbox 94 = .ok (.bipush 10, 2) := by decide +kernel
theorem dX11_writeMailbox_96 : decode cX11_writeMailbox 96 = .ok (.invokevirtual 488, 3) := by decide +kernel
theorem dX11_writeMailbox_99 : decode cX11_writeMailbox 99 = .ok (.iinc 2 1, 3) := by decide +kernel
theorem dX11_writeMailbox_102 : decode cX11_writeMailbox 102 = .ok (.goto (-81), 3) := by decide +kernel
theorem dX11_writeMailbox_105 : decode cX11_writeMailbox 105 = .ok (.aload_n 0, 1) := by decide +kernel
theorem dX11_writeMailbox_106 : decode cX11_writeMailbox 106 = .ok (.getfield 485, 3) := by decide +kernel
theorem dX11_writeMailbox_109 : decode cX11_writeMailbox 109 = .ok (.ireturn, 1) := by decide +kernel
theorem dX11_outputByte_0 : decode cX11_outputByte 0 = .ok (.aload_n 0, 1) := by decide +kernel
theorem dX11_outputByte_1 : decode cX11_outputByte 1 = .ok (.iload_n 1, 1) := by decide +kernel
theorem dX11_outputByte_2 : decode cX11_outputByte 2 = .ok (.i2l, 1) := by decide +kernel
theorem dX11_outputByte_3 : decode cX11_outputByte 3 = .ok (.lconst 0, 1) := by decide +kernel
theorem dX11_outputByte_4 : decode cX11_outputByte 4 = .ok (.aload_n 0, 1) := by decide +kernel
theorem dX11_outputByte_5 : decode cX11_outputByte 5 = .ok (.getfield 485, 3) := by decide +kernel
theorem dX11_outputByte_8 : decode cX11_outputByte 8 = .ok (.iconst 1, 1) := by decide +kernel
theorem dX11_outputByte_9 : decode cX11_outputByte 9 = .ok (.isub, 1) := by decide +kernel
theorem dX11_outputByte_10 : decode cX11_outputByte 10 = .ok (.i2l, 1) := by decide +kernel
theorem dX11_outputByte_11 : decode cX11_outputByte 11 = .ok (.invokestatic 64, 3) := by decide +kernel
theorem dX11_outputByte_14 : decode cX11_outputByte 14 = .ok (.invokevirtual 94, 3) := by decide +kernel
theorem dX11_outputByte_17 : decode cX11_outputByte 17 = .ok (.ifCond .eq 12, 3) := by decide +kernel
theorem dX11_outputByte_20 : decode cX11_outputByte 20 = .ok (.aload_n 0, 1) := by decide +kernel
theorem dX11_outputByte_21 : decode cX11_outputByte 21 = .ok (.getfield 61, 3) := by decide +kernel
theorem dX11_outputByte_24 : decode cX11_outputByte 24 = .ok (.iload_n 1, 1) := by decide +kernel
theorem dX11_outputByte_25 : decode cX11_outputByte 25 = .ok (.baload, 1) := by decide +kernel
theorem dX11_outputByte_26 : decode cX11_outputByte 26 = .ok (.goto 4, 3) := by decide +kernel
theorem dX11_outputByte_29 : decode cX11_outputByte 29 = .ok (.iconst 0, 1) := by decide +kernel
theorem dX11_outputByte_30 : decode cX11_outputByte 30 = .ok (.ireturn, 1) := by decide +kernel
theorem dJ6_bitCount_0f7a4_0 : decode cJ6_bitCount_0f7a4 0 = .ok (.iload_n 0, 1) := by decide +kernel
theorem dJ6_bitCount_0f7a4_1 : decode cJ6_bitCount_0f7a4 1 = .ok (.iload_n 0, 1) := by decide +kernel
theorem dJ6_bitCount_0f7a4_2 : decode cJ6_bitCount_0f7a4 2 = .ok (.iconst 1, 1) := by decide +kernel
theorem dJ6_bitCount_0f7a4_3 : decode cJ6_bitCount_0f7a4 3 = .ok (.iushr, 1) := by decide +kernel
theorem dJ6_bitCount_0f7a4_4 : decode cJ6_bitCount_0f7a4 4 = .ok (.ldc_w 265, 3) := by decide +kernel
theorem dJ6_bitCount_0f7a4_7 : decode cJ6_bitCount_0f7a4 7 = .ok (.iand, 1) := by decide +kernel
theorem dJ6_bitCount_0f7a4_8 : decode cJ6_bitCount_0f7a4 8 = .ok (.isub, 1) := by decide +kernel
theorem dJ6_bitCount_0f7a4_9 : decode cJ6_bitCount_0f7a4 9 = .ok (.istore_n 0, 1) := by decide +kernel
theorem dJ6_bitCount_0f7a4_10 : decode cJ6_bitCount_0f7a4 10 = .ok (.iload_n 0, 1) := by decide +kernel
theorem dJ6_bitCount_0f7a4_11 : decode cJ6_bitCount_0f7a4 11 = .ok (.ldc_w 266, 3) := by decide +kernel
theorem dJ6_bitCount_0f7a4_14 : decode cJ6_bitCount_0f7a4 14 = .ok (.iand, 1) := by decide +kernel
theorem dJ6_bitCount_0f7a4_15 : decode cJ6_bitCount_0f7a4 15 = .ok (.iload_n 0, 1) := by decide +kernel
theorem dJ6_bitCount_0f7a4_16 : decode cJ6_bitCount_0f7a4 16 = .ok (.iconst 2, 1) := by decide +kernel
theorem dJ6_bitCount_0f7a4_17 : decode cJ6_bitCount_0f7a4 17 = .ok (.iushr, 1) := by decide +kernel
theorem dJ6_bitCount_0f7a4_18 : decode cJ6_bitCount_0f7a4 18 = .ok (.ldc_w 266, 3) := by decide +kernel
theorem dJ6_bitCount_0f7a4_21 : decode cJ6_bitCount_0f7a4 21 = .ok (.iand, 1) := by decide +kernel
theorem dJ6_bitCount_0f7a4_22 : decode cJ6_bitCount_0f7a4 22 = .ok (.iadd, 1) := by decide +kernel
theorem dJ6_bitCount_0f7a4_23 : decode cJ6_bitCount_0f7a4 23 = .ok (.istore_n 0, 1) := by decide +kernel
theorem dJ6_bitCount_0f7a4_24 : decode cJ6_bitCount_0f7a4 24 = .ok (.iload_n 0, 1) := by decide +kernel
theorem dJ6_bitCount_0f7a4_25 : decode cJ6_bitCount_0f7a4 25 = .ok (.iload_n 0, 1) := by decide +kernel
theorem dJ6_bitCount_0f7a4_26 : decode cJ6_bitCount_0f7a4 26 = .ok (.iconst 4, 1) := by decide +kernel
theorem dJ6_bitCount_0f7a4_27 : decode cJ6_bitCount_0f7a4 27 = .ok (.iushr, 1) := by decide +kernel
theorem dJ6_bitCount_0f7a4_28 : decode cJ6_bitCount_0f7a4 28 = .ok (.iadd, 1) := by decide +kernel
theorem dJ6_bitCount_0f7a4_29 : decode cJ6_bitCount_0f7a4 29 = .ok (.ldc_w 267, 3) := by decide +kernel
theorem dJ6_bitCount_0f7a4_32 : decode cJ6_bitCount_0f7a4 32 = .ok (.iand, 1) := by decide +kernel
theorem dJ6_bitCount_0f7a4_33 : decode cJ6_bitCount_0f7a4 33 = .ok (.istore_n 0, 1) := by decide +kernel
theorem dJ6_bitCount_0f7a4_34 : decode cJ6_bitCount_0f7a4 34 = .ok (.iload_n 0, 1) := by decide +kernel
theorem dJ6_bitCount_0f7a4_35 : decode cJ6_bitCount_0f7a4 35 = .ok (.iload_n 0, 1) := by decide +kernel
theorem dJ6_bitCount_0f7a4_36 : decode cJ6_bitCount_0f7a4 36 = .ok (.bipush 8, 2) := by decide +kernel
theorem dJ6_bitCount_0f7a4_38 : decode cJ6_bitCount_0f7a4 38 = .ok (.iushr, 1) := by decide +kernel
theorem dJ6_bitCount_0f7a4_39 : decode cJ6_bitCount_0f7a4 39 = .ok (.iadd, 1) := by decide +kernel
theorem dJ6_bitCount_0f7a4_40 : decode cJ6_bitCount_0f7a4 40 = .ok (.istore_n 0, 1) := by decide +kernel
theorem dJ6_bitCount_0f7a4_41 : decode cJ6_bitCount_0f7a4 41 = .ok (.iload_n 0, 1) := by decide +kernel
theorem dJ6_bitCount_0f7a4_42 : decode cJ6_bitCount_0f7a4 42 = .ok (.iload_n 0, 1) := by decide +kernel
theorem dJ6_bitCount_0f7a4_43 : decode cJ6_bitCount_0f7a4 43 = .ok (.bipush 16, 2) := by decide +kernel
theorem dJ6_bitCount_0f7a4_45 : decode cJ6_bitCount_0f7a4 45 = .ok (.iushr, 1) := by decide +kernel
theorem dJ6_bitCount_0f7a4_46 : decode cJ6_bitCount_0f7a4 46 = .ok (.iadd, 1) := by decide +kernel
theorem dJ6_bitCount_0f7a4_47 : decode cJ6_bitCount_0f7a4 47 = .ok (.istore_n 0, 1) := by decide +kernel
theorem dJ6_bitCount_0f7a4_48 : decode cJ6_bitCount_0f7a4 48 = .ok (.iload_n 0, 1) := by decide +kernel
theorem dJ6_bitCount_0f7a4_49 : decode cJ6_bitCount_0f7a4 49 = .ok (.bipush 63, 2) := by decide +kernel
theorem dJ6_bitCount_0f7a4_51 : decode cJ6_bitCount_0f7a4 51 = .ok (.iand, 1) := by decide +kernel
theorem dJ6_bitCount_0f7a4_52 : decode cJ6_bitCount_0f7a4 52 = .ok (.ireturn, 1) := by decide +kernel
theorem dJ9_max_7cf53_0 : decode cJ9_max_7cf53 0 = .ok (.iload_n 0, 1) := by decide +kernel
theorem dJ9_max_7cf53_1 : decode cJ9_max_7cf53 1 = .ok (.iload_n 1, 1) := by decide +kernel
theorem dJ9_max_7cf53_2 : decode cJ9_max_7cf53 2 = .ok (.if_icmp .lt 7, 3) := by decide +kernel
theorem dJ9_max_7cf53_5 : decode cJ9_max_7cf53 5 = .ok (.iload_n 0, 1) := by decide +kernel
theorem dJ9_max_7cf53_6 : decode cJ9_max_7cf53 6 = .ok (.goto 4, 3) := by decide +kernel
theorem dJ9_max_7cf53_9 : decode cJ9_max_7cf53 9 = .ok (.iload_n 1, 1) := by decide +kernel
theorem dJ9_max_7cf53_10 : decode cJ9_max_7cf53 10 = .ok (.ireturn, 1) := by decide +kernel
theorem dJ9_min_7cf53_0 : decode cJ9_min_7cf53 0 = .ok (.iload_n 0, 1) := by decide +kernel
theorem dJ9_min_7cf53_1 : decode cJ9_min_7cf53 1 = .ok (.iload_n 1, 1) := by decide +kernel
theorem dJ9_min_7cf53_2 : decode cJ9_min_7cf53 2 = .ok (.if_icmp .gt 7, 3) := by decide +kernel
theorem dJ9_min_7cf53_5 : decode cJ9_min_7cf53 5 = .ok (.iload_n 0, 1) := by decide +kernel
theorem dJ9_min_7cf53_6 : decode cJ9_min_7cf53 6 = .ok (.goto 4, 3) := by decide +kernel
theorem dJ9_min_7cf53_9 : decode cJ9_min_7cf53 9 = .ok (.iload_n 1, 1) := by decide +kernel
theorem dJ9_min_7cf53_10 : decode cJ9_min_7cf53 10 = .ok (.ireturn, 1) := by decide +kernel
theorem dJ0_length_8abf5_0 : decode cJ0_length_8abf5 0 = .ok (.aload_n 0, 1) := by decide +kernel
theorem dJ0_length_8abf5_1 : decode cJ0_length_8abf5 1 = .ok (.getfield 9, 3) := by decide +kernel
theorem dJ0_length_8abf5_4 : decode cJ0_length_8abf5 4 = .ok (.arraylength, 1) := by decide +kernel
theorem dJ0_length_8abf5_5 : decode cJ0_length_8abf5 5 = .ok (.aload_n 0, 1) := by decide +kernel
theorem dJ0_length_8abf5_6 : decode cJ0_length_8abf5 6 = .ok (.invokevirtual 335, 3) := by decide +kernel
theorem dJ0_length_8abf5_9 : decode cJ0_length_8abf5 9 = .ok (.ishr, 1) := by decide +kernel
theorem dJ0_length_8abf5_10 : decode cJ0_length_8abf5 10 = .ok (.ireturn, 1) := by decide +kernel
theorem dJ0_charAt_5068e_0 : decode cJ0_charAt_5068e 0 = .ok (.aload_n 0, 1) := by decide +kernel
theorem dJ0_charAt_5068e_1 : decode cJ0_charAt_5068e 1 = .ok (.invokevirtual 492, 3) := by decide +kernel
theorem dJ0_charAt_5068e_4 : decode cJ0_charAt_5068e 4 = .ok (.ifCond .eq 12, 3) := by decide +kernel
theorem dJ0_charAt_5068e_7 : decode cJ0_charAt_5068e 7 = .ok (.aload_n 0, 1) := by decide +kernel
theorem dJ0_charAt_5068e_8 : decode cJ0_charAt_5068e 8 = .ok (.getfield 9, 3) := by decide +kernel
theorem dJ0_charAt_5068e_11 : decode cJ0_charAt_5068e 11 = .ok (.iload_n 1, 1) := by decide +kernel
theorem dJ0_charAt_5068e_12 : decode cJ0_charAt_5068e 12 = .ok (.invokestatic 495, 3) := by decide +kernel
theorem dJ0_charAt_5068e_15 : decode cJ0_charAt_5068e 15 = .ok (.ireturn, 1) := by decide +kernel
theorem dJ0_charAt_5068e_16 : decode cJ0_charAt_5068e 16 = .ok (.aload_n 0, 1) := by decide +kernel
theorem dJ0_charAt_5068e_17 : decode cJ0_charAt_5068e 17 = .ok (.getfield 9, 3) := by decide +kernel
theorem dJ0_charAt_5068e_20 : decode cJ0_charAt_5068e 20 = .ok (.iload_n 1, 1) := by decide +kernel
theorem dJ0_charAt_5068e_21 : decode cJ0_charAt_5068e 21 = .ok (.invokestatic 498, 3) := by decide +kernel
theorem dJ0_charAt_5068e_24 : decode cJ0_charAt_5068e 24 = .ok (.ireturn, 1) := by decide +kernel
theorem dJ0_coder_7d493_0 : decode cJ0_coder_7d493 0 = .ok (.getstatic 38, 3) := by decide +kernel
theorem dJ0_coder_7d493_3 : decode cJ0_coder_7d493 3 = .ok (.ifCond .eq 10, 3) := by decide +kernel
theorem dJ0_coder_7d493_6 : decode cJ0_coder_7d493 6 = .ok (.aload_n 0, 1) := by decide +kernel
theorem dJ0_coder_7d493_7 : decode cJ0_coder_7d493 7 = .ok (.getfield 15, 3) := by decide +kernel
theorem dJ0_coder_7d493_10 : decode cJ0_coder_7d493 10 = .ok (.goto 4, 3) := by decide +kernel
theorem dJ0_coder_7d493_13 : decode cJ0_coder_7d493 13 = .ok (.iconst 1, 1) := by decide +kernel
theorem dJ0_coder_7d493_14 : decode cJ0_coder_7d493 14 = .ok (.ireturn, 1) := by decide +kernel
theorem dJ0_isLatin1_aae02_0 : decode cJ0_isLatin1_aae02 0 = .ok (.getstatic 38, 3) := by decide +kernel
theorem dJ0_isLatin1_aae02_3 : decode cJ0_isLatin1_aae02 3 = .ok (.ifCond .eq 14, 3) := by decide +kernel
theorem dJ0_isLatin1_aae02_6 : decode cJ0_isLatin1_aae02 6 = .ok (.aload_n 0, 1) := by decide +kernel
theorem dJ0_isLatin1_aae02_7 : decode cJ0_isLatin1_aae02 7 = .ok (.getfield 15, 3) := by decide +kernel
theorem dJ0_isLatin1_aae02_10 : decode cJ0_isLatin1_aae02 10 = .ok (.ifCond .ne 7, 3) := by decide +kernel
theorem dJ0_isLatin1_aae02_13 : decode cJ0_isLatin1_aae02 13 = .ok (.iconst 1, 1) := by decide +kernel
theorem dJ0_isLatin1_aae02_14 : decode cJ0_isLatin1_aae02 14 = .ok (.goto 4, 3) := by decide +kernel
theorem dJ0_isLatin1_aae02_17 : decode cJ0_isLatin1_aae02 17 = .ok (.iconst 0, 1) := by decide +kernel
theorem dJ0_isLatin1_aae02_18 : decode cJ0_isLatin1_aae02 18 = .ok (.ireturn, 1) := by decide +kernel
theorem dJ0_checkIndex_df160_0 : decode cJ0_checkIndex_df160 0 = .ok (.iload_n 0, 1) := by decide +kernel
theorem dJ0_checkIndex_df160_1 : decode cJ0_checkIndex_df160 1 = .ok (.iload_n 1, 1) := by decide +kernel
theorem dJ0_checkIndex_df160_2 : decode cJ0_checkIndex_df160 2 = .ok (.getstatic 1053, 3) := by decide +kernel
theorem dJ0_checkIndex_df160_5 : decode cJ0_checkIndex_df160 5 = .ok (.invokestatic 1059, 3) := by decide +kernel
theorem dJ0_checkIndex_df160_8 : decode cJ0_checkIndex_df160 8 = .ok (.pop, 1) := by decide +kernel
theorem dJ0_checkIndex_df160_9 : decode cJ0_checkIndex_df160 9 = .ok (.return_, 1) := by decide +kernel
theorem dJ1_charAt_3b067_0 : decode cJ1_charAt_3b067 0 = .ok (.iload_n 1, 1) := by decide +kernel
theorem dJ1_charAt_3b067_1 : decode cJ1_charAt_3b067 1 = .ok (.aload_n 0, 1) := by decide +kernel
theorem dJ1_charAt_3b067_2 : decode cJ1_charAt_3b067 2 = .ok (.arraylength, 1) := by decide +kernel
theorem dJ1_charAt_3b067_3 : decode cJ1_charAt_3b067 3 = .ok (.invokestatic 9, 3) := by decide +kernel
theorem dJ1_charAt_3b067_6 : decode cJ1_charAt_3b067 6 = .ok (.aload_n 0, 1) := by decide +kernel
theorem dJ1_charAt_3b067_7 : decode cJ1_charAt_3b067 7 = .ok (.iload_n 1, 1) := by decide +kernel
theorem dJ1_charAt_3b067_8 : decode cJ1_charAt_3b067 8 = .ok (.baload, 1) := by decide +kernel
theorem dJ1_charAt_3b067_9 : decode cJ1_charAt_3b067 9 = .ok (.sipush 255, 3) := by decide +kernel
theorem dJ1_charAt_3b067_12 : decode cJ1_charAt_3b067 12 = .ok (.iand, 1) := by decide +kernel
theorem dJ1_charAt_3b067_13 : decode cJ1_charAt_3b067 13 = .ok (.i2c, 1) := by decide +kernel
theorem dJ1_charAt_3b067_14 : decode cJ1_charAt_3b067 14 = .ok (.ireturn, 1) := by decide +kernel
theorem dJ2_getChar_3b067_0 : decode cJ2_getChar_3b067 0 = .ok (.getstatic 44, 3) := by decide +kernel
theorem dJ2_getChar_3b067_3 : decode cJ2_getChar_3b067 3 = .ok (.ifCond .ne 25, 3) := by decide +kernel
theorem dJ2_getChar_3b067_6 : decode cJ2_getChar_3b067 6 = .ok (.iload_n 1, 1) := by decide +kernel
theorem dJ2_getChar_3b067_7 : decode cJ2_getChar_3b067 7 = .ok (.ifCond .lt 11, 3) := by decide +kernel
theorem dJ2_getChar_3b067_10 : decode cJ2_getChar_3b067 10 = .ok (.iload_n 1, 1) := by decide +kernel
theorem dJ2_getChar_3b067_11 : decode cJ2_getChar_3b067 11 = .ok (.aload_n 0, 1) := by decide +kernel
theorem dJ2_getChar_3b067_12 : decode cJ2_getChar_3b067 12 = .ok (.invokestatic 48, 3) := by decide +kernel
theorem dJ2_getChar_3b067_15 : decode cJ2_getChar_3b067 15 = .ok (.if_icmp .lt 13, 3) := by decide +kernel
theorem dJ2_getChar_3b067_18 : decode cJ2_getChar_3b067 18 = .ok (.new 52, 3) := by decide +kernel
theorem dJ2_getChar_3b067_21 : decode cJ2_getChar_3b067 21 = .ok (.dup, 1) := by decide +kernel
theorem dJ2_getChar_3b067_22 : decode cJ2_getChar_3b067 22 = .ok (.ldc 54, 2) := by decide +kernel
theorem dJ2_getChar_3b067_24 : decode cJ2_getChar_3b067 24 = .ok (.invokespecial 56, 3) := by decide +kernel
theorem dJ2_getChar_3b067_27 : decode cJ2_getChar_3b067 27 = .ok (.athrow, 1) := by decide +kernel
theorem dJ2_getChar_3b067_28 : decode cJ2_getChar_3b067 28 = .ok (.iload_n 1, 1) := by decide +kernel
theorem dJ2_getChar_3b067_29 : decode cJ2_getChar_3b067 29 = .ok (.iconst 1, 1) := by decide +kernel
theorem dJ2_getChar_3b067_30 : decode cJ2_getChar_3b067 30 = .ok (.ishl, 1) := by decide +kernel
theorem dJ2_getChar_3b067_31 : decode cJ2_getChar_3b067 31 = .ok (.istore_n 1, 1) := by decide +kernel
theorem dJ2_getChar_3b067_32 : decode cJ2_getChar_3b067 32 = .ok (.aload_n 0, 1) := by decide +kernel
theorem dJ2_getChar_3b067_33 : decode cJ2_getChar_3b067 33 = .ok (.iload_n 1, 1) := by decide +kernel
theorem dJ2_getChar_3b067_34 : decode cJ2_getChar_3b067 34 = .ok (.iinc 1 1, 3) := by decide +kernel
theorem dJ2_getChar_3b067_37 : decode cJ2_getChar_3b067 37 = .ok (.baload, 1) := by decide +kernel
theorem dJ2_getChar_3b067_38 : decode cJ2_getChar_3b067 38 = .ok (.sipush 255, 3) := by decide +kernel
theorem dJ2_getChar_3b067_41 : decode cJ2_getChar_3b067 41 = .ok (.iand, 1) := by decide +kernel
theorem dJ2_getChar_3b067_42 : decode cJ2_getChar_3b067 42 = .ok (.getstatic 59, 3) := by decide +kernel
theorem dJ2_getChar_3b067_45 : decode cJ2_getChar_3b067 45 = .ok (.ishl, 1) := by decide +kernel
theorem dJ2_getChar_3b067_46 : decode cJ2_getChar_3b067 46 = .ok (.aload_n 0, 1) := by decide +kernel
theorem dJ2_getChar_3b067_47 : decode cJ2_getChar_3b067 47 = .ok (.iload_n 1, 1) := by decide +kernel
theorem dJ2_getChar_3b067_48 : decode cJ2_getChar_3b067 48 = .ok (.baload, 1) := by decide +kernel
theorem dJ2_getChar_3b067_49 : decode cJ2_getChar_3b067 49 = .ok (.sipush 255, 3) := by decide +kernel
theorem dJ2_getChar_3b067_52 : decode cJ2_getChar_3b067 52 = .ok (.iand, 1) := by decide +kernel
theorem dJ2_getChar_3b067_53 : decode cJ2_getChar_3b067 53 = .ok (.getstatic 63, 3) := by decide +kernel
theorem dJ2_getChar_3b067_56 : decode cJ2_getChar_3b067 56 = .ok (.ishl, 1) := by decide +kernel
theorem dJ2_getChar_3b067_57 : decode cJ2_getChar_3b067 57 = .ok (.ior, 1) := by decide +kernel
theorem dJ2_getChar_3b067_58 : decode cJ2_getChar_3b067 58 = .ok (.i2c, 1) := by decide +kernel
theorem dJ2_getChar_3b067_59 : decode cJ2_getChar_3b067 59 = .ok (.ireturn, 1) := by decide +kernel
theorem dJ2_length_9d52b_0 : decode cJ2_length_9d52b 0 = .ok (.aload_n 0, 1) := by decide +kernel
theorem dJ2_length_9d52b_1 : decode cJ2_length_9d52b 1 = .ok (.arraylength, 1) := by decide +kernel
theorem dJ2_length_9d52b_2 : decode cJ2_length_9d52b 2 = .ok (.iconst 1, 1) := by decide +kernel
theorem dJ2_length_9d52b_3 : decode cJ2_length_9d52b 3 = .ok (.ishr, 1) := by decide +kernel
theorem dJ2_length_9d52b_4 : decode cJ2_length_9d52b 4 = .ok (.ireturn, 1) := by decide +kernel
theorem dJ2_charAt_3b067_0 : decode cJ2_charAt_3b067 0 = .ok (.iload_n 1, 1) := by decide +kernel
theorem dJ2_charAt_3b067_1 : decode cJ2_charAt_3b067 1 = .ok (.aload_n 0, 1) := by decide +kernel
theorem dJ2_charAt_3b067_2 : decode cJ2_charAt_3b067 2 = .ok (.invokestatic 67, 3) := by decide +kernel
theorem dJ2_charAt_3b067_5 : decode cJ2_charAt_3b067 5 = .ok (.aload_n 0, 1) := by decide +kernel
theorem dJ2_charAt_3b067_6 : decode cJ2_charAt_3b067 6 = .ok (.iload_n 1, 1) := by decide +kernel
theorem dJ2_charAt_3b067_7 : decode cJ2_charAt_3b067 7 = .ok (.invokestatic 71, 3) := by decide +kernel
theorem dJ2_charAt_3b067_10 : decode cJ2_charAt_3b067 10 = .ok (.ireturn, 1) := by decide +kernel
theorem dJ2_checkIndex_2214a_0 : decode cJ2_checkIndex_2214a 0 = .ok (.iload_n 0, 1) := by decide +kernel
theorem dJ2_checkIndex_2214a_1 : decode cJ2_checkIndex_2214a 1 = .ok (.aload_n 1, 1) := by decide +kernel
theorem dJ2_checkIndex_2214a_2 : decode cJ2_checkIndex_2214a 2 = .ok (.invokestatic 48, 3) := by decide +kernel
theorem dJ2_checkIndex_2214a_5 : decode cJ2_checkIndex_2214a 5 = .ok (.invokestatic 414, 3) := by decide +kernel
theorem dJ2_checkIndex_2214a_8 : decode cJ2_checkIndex_2214a 8 = .ok (.return_, 1) := by decide +kernel
theorem dJ7_fill_53178_0 : decode cJ7_fill_53178 0 = .ok (.iconst 0, 1) := by decide +kernel
theorem dJ7_fill_53178_1 : decode cJ7_fill_53178 1 = .ok (.istore_n 2, 1) := by decide +kernel
theorem dJ7_fill_53178_2 : decode cJ7_fill_53178 2 = .ok (.aload_n 0, 1) := by decide +kernel
theorem dJ7_fill_53178_3 : decode cJ7_fill_53178 3 = .ok (.arraylength, 1) := by decide +kernel
theorem dJ7_fill_53178_4 : decode cJ7_fill_53178 4 = .ok (.istore_n 3, 1) := by decide +kernel
theorem dJ7_fill_53178_5 : decode cJ7_fill_53178 5 = .ok (.iload_n 2, 1) := by decide +kernel
theorem dJ7_fill_53178_6 : decode cJ7_fill_53178 6 = .ok (.iload_n 3, 1) := by decide +kernel
theorem dJ7_fill_53178_7 : decode cJ7_fill_53178 7 = .ok (.if_icmp .ge 13, 3) := by decide +kernel
theorem dJ7_fill_53178_10 : decode cJ7_fill_53178 10 = .ok (.aload_n 0, 1) := by decide +kernel
theorem dJ7_fill_53178_11 : decode cJ7_fill_53178 11 = .ok (.iload_n 2, 1) := by decide +kernel
theorem dJ7_fill_53178_12 : decode cJ7_fill_53178 12 = .ok (.iload_n 1, 1) := by decide +kernel
theorem dJ7_fill_53178_13 : decode cJ7_fill_53178 13 = .ok (.iastore, 1) := by decide +kernel
theorem dJ7_fill_53178_14 : decode cJ7_fill_53178 14 = .ok (.iinc 2 1, 3) := by decide +kernel
theorem dJ7_fill_53178_17 : decode cJ7_fill_53178 17 = .ok (.goto (-12), 3) := by decide +kernel
theorem dJ7_fill_53178_20 : decode cJ7_fill_53178 20 = .ok (.return_, 1) := by decide +kernel
theorem dJ3_checkIndex_8e157_0 : decode cJ3_checkIndex_8e157 0 = .ok (.iload_n 0, 1) := by decide +kernel
theorem dJ3_checkIndex_8e157_1 : decode cJ3_checkIndex_8e157 1 = .ok (.ifCond .lt 8, 3) := by decide +kernel
theorem dJ3_checkIndex_8e157_4 : decode cJ3_checkIndex_8e157 4 = .ok (.iload_n 0, 1) := by decide +kernel
theorem dJ3_checkIndex_8e157_5 : decode cJ3_checkIndex_8e157 5 = .ok (.iload_n 1, 1) := by decide +kernel
theorem dJ3_checkIndex_8e157_6 : decode cJ3_checkIndex_8e157 6 = .ok (.if_icmp .lt 10, 3) := by decide +kernel
theorem dJ3_checkIndex_8e157_9 : decode cJ3_checkIndex_8e157 9 = .ok (.aload_n 2, 1) := by decide +kernel
theorem dJ3_checkIndex_8e157_10 : decode cJ3_checkIndex_8e157 10 = .ok (.iload_n 0, 1) := by decide +kernel
theorem dJ3_checkIndex_8e157_11 : decode cJ3_checkIndex_8e157 11 = .ok (.iload_n 1, 1) := by decide +kernel
theorem dJ3_checkIndex_8e157_12 : decode cJ3_checkIndex_8e157 12 = .ok (.invokestatic 95, 3) := by decide +kernel
theorem dJ3_checkIndex_8e157_15 : decode cJ3_checkIndex_8e157 15 = .ok (.athrow, 1) := by decide +kernel
theorem dJ3_checkIndex_8e157_16 : decode cJ3_checkIndex_8e157 16 = .ok (.iload_n 0, 1) := by decide +kernel
theorem dJ3_checkIndex_8e157_17 : decode cJ3_checkIndex_8e157 17 = .ok (.ireturn, 1) := by decide +kernel
theorem dL_append_0 : decode cL_append 0 = .ok (.aload 6, 2) := by decide +kernel
theorem dL_append_2 : decode cL_append 2 = .ok (.iconst 0, 1) := by decide +kernel
theorem dL_append_3 : decode cL_append 3 = .ok (.aload_n 0, 1) := by decide +kernel
theorem dL_append_4 : decode cL_append 4 = .ok (.iload_n 1, 1) := by decide +kernel
theorem dL_append_5 : decode cL_append 5 = .ok (.iload_n 2, 1) := by decide +kernel
theorem dL_append_6 : decode cL_append 6 = .ok (.iload_n 3, 1) := by decide +kernel
theorem dL_append_7 : decode cL_append 7 = .ok (.iload 4, 2) := by decide +kernel
theorem dL_append_9 : decode cL_append 9 = .ok (.iload 5, 2) := by decide +kernel
theorem dL_append_11 : decode cL_append 11 = .ok (.invokevirtual 7, 3) := by decide +kernel
theorem dL_append_14 : decode cL_append 14 = .ok (.i2l, 1) := by decide +kernel
theorem dL_append_15 : decode cL_append 15 = .ok (.lastore, 1) := by decide +kernel
theorem dL_append_16 : decode cL_append 16 = .ok (.goto 7, 3) := by decide +kernel
theorem dL_append_19 : decode cL_append 19 = .ok (.astore 7, 2) := by decide +kernel
theorem dL_append_21 : decode cL_append 21 = .ok (.iconst 1, 1) := by decide +kernel
theorem dL_append_22 : decode cL_append 22 = .ok (.ireturn, 1) := by decide +kernel
theorem dL_append_23 : decode cL_append 23 = .ok (.iconst 0, 1) := by decide +kernel
theorem dL_append_24 : decode cL_append 24 = .ok (.ireturn, 1) := by decide +kernel
theorem dL_truncate_0 : decode cL_truncate 0 = .ok (.aload_n 0, 1) := by decide +kernel
theorem dL_truncate_1 : decode cL_truncate 1 = .ok (.iload_n 1, 1) := by decide +kernel
theorem dL_truncate_2 : decode cL_truncate 2 = .ok (.invokevirtual 15, 3) := by decide +kernel
theorem dL_truncate_5 : decode cL_truncate 5 = .ok (.goto 6, 3) := by decide +kernel
theorem dL_truncate_8 : decode cL_truncate 8 = .ok (.astore_n 2, 1) := by decide +kernel
theorem dL_truncate_9 : decode cL_truncate 9 = .ok (.iconst 1, 1) := by decide +kernel
theorem dL_truncate_10 : decode cL_truncate 10 = .ok (.ireturn, 1) := by decide +kernel
theorem dL_truncate_11 : decode cL_truncate 11 = .ok (.iconst 0, 1) := by decide +kernel
theorem dL_truncate_12 : decode cL_truncate 12 = .ok (.ireturn, 1) := by decide +kernel
theorem dL_find_0 : decode cL_find 0 = .ok (.aload_n 2, 1) := by decide +kernel
theorem dL_find_1 : decode cL_find 1 = .ok (.iconst 0, 1) := by decide +kernel
theorem dL_find_2 : decode cL_find 2 = .ok (.aload_n 0, 1) := by decide +kernel
theorem dL_find_3 : decode cL_find 3 = .ok (.iload_n 1, 1) := by decide +kernel
theorem dL_find_4 : decode cL_find 4 = .ok (.invokevirtual 21, 3) := by decide +kernel
theorem dL_find_7 : decode cL_find 7 = .ok (.i2l, 1) := by decide +kernel
theorem dL_find_8 : decode cL_find 8 = .ok (.lastore, 1) := by decide +kernel
theorem dL_find_9 : decode cL_find 9 = .ok (.goto 6, 3) := by decide +kernel
theorem dL_find_12 : decode cL_find 12 = .ok (.astore_n 3, 1) := by decide +kernel
theorem dL_find_13 : decode cL_find 13 = .ok (.iconst 1, 1) := by decide +kernel
theorem dL_find_14 : decode cL_find 14 = .ok (.ireturn, 1) := by decide +kernel
theorem dL_find_15 : decode cL_find 15 = .ok (.iconst 0, 1) := by decide +kernel
theorem dL_find_16 : decode cL_find 16 = .ok (.ireturn, 1) := by decide +kernel
theorem dL_count_0 : decode cL_count 0 = .ok (.aload_n 2, 1) := by decide +kernel
theorem dL_count_1 : decode cL_count 1 = .ok (.iconst 0, 1) := by decide +kernel
theorem dL_count_2 : decode cL_count 2 = .ok (.aload_n 0, 1) := by decide +kernel
theorem dL_count_3 : decode cL_count 3 = .ok (.iload_n 1, 1) := by decide +kernel
theorem dL_count_4 : decode cL_count 4 = .ok (.invokevirtual 25, 3) := by decide +kernel
theorem dL_count_7 : decode cL_count 7 = .ok (.i2l, 1) := by decide +kernel
theorem dL_count_8 : decode cL_count 8 = .ok (.lastore, 1) := by decide +kernel
theorem dL_count_9 : decode cL_count 9 = .ok (.goto 6, 3) := by decide +kernel
theorem dL_count_12 : decode cL_count 12 = .ok (.astore_n 3, 1) := by decide +kernel
theorem dL_count_13 : decode cL_count 13 = .ok (.iconst 1, 1) := by decide +kernel
theorem dL_count_14 : decode cL_count 14 = .ok (.ireturn, 1) := by decide +kernel
theorem dL_count_15 : decode cL_count 15 = .ok (.iconst 0, 1) := by decide +kernel
theorem dL_count_16 : decode cL_count 16 = .ok (.ireturn, 1) := by decide +kernel
theorem dL_members_0 : decode cL_members 0 = .ok (.aload_n 2, 1) := by decide +kernel
theorem dL_members_1 : decode cL_members 1 = .ok (.iconst 0, 1) := by decide +kernel
theorem dL_members_2 : decode cL_members 2 = .ok (.aload_n 0, 1) := by decide +kernel
theorem dL_members_3 : decode cL_members 3 = .ok (.iload_n 1, 1) := by decide +kernel
theorem dL_members_4 : decode cL_members 4 = .ok (.invokevirtual 28, 3) := by decide +kernel
theorem dL_members_7 : decode cL_members 7 = .ok (.i2l, 1) := by decide +kernel
theorem dL_members_8 : decode cL_members 8 = .ok (.lastore, 1) := by decide +kernel
theorem dL_members_9 : decode cL_members 9 = .ok (.goto 6, 3) := by decide +kernel
theorem dL_members_12 : decode cL_members 12 = .ok (.astore_n 3, 1) := by decide +kernel
theorem dL_members_13 : decode cL_members 13 = .ok (.iconst 1, 1) := by decide +kernel
theorem dL_members_14 : decode cL_members 14 = .ok (.ireturn, 1) := by decide +kernel
theorem dL_members_15 : decode cL_members 15 = .ok (.iconst 0, 1) := by decide +kernel
theorem dL_members_16 : decode cL_members 16 = .ok (.ireturn, 1) := by decide +kernel
theorem dL_retention_0 : decode cL_retention 0 = .ok (.aload_n 3, 1) := by decide +kernel
theorem dL_retention_1 : decode cL_retention 1 = .ok (.iconst 0, 1) := by decide +kernel
theorem dL_retention_2 : decode cL_retention 2 = .ok (.aload_n 0, 1) := by decide +kernel
theorem dL_retention_3 : decode cL_retention 3 = .ok (.iload_n 1, 1) := by decide +kernel
theorem dL_retention_4 : decode cL_retention 4 = .ok (.iload_n 2, 1) := by decide +kernel
theorem dL_retention_5 : decode cL_retention 5 = .ok (.invokevirtual 33, 3) := by decide +kernel
theorem dL_retention_8 : decode cL_retention 8 = .ok (.i2l, 1) := by decide +kernel
theorem dL_retention_9 : decode cL_retention 9 = .ok (.lastore, 1) := by decide +kernel
theorem dL_retention_10 : decode cL_retention 10 = .ok (.goto 11, 3) := by decide +kernel
theorem dL_retention_13 : decode cL_retention 13 = .ok (.astore 4, 2) := by decide +kernel
theorem dL_retention_15 : decode cL_retention 15 = .ok (.iconst 1, 1) := by decide +kernel
theorem dL_retention_16 : decode cL_retention 16 = .ok (.ireturn, 1) := by decide +kernel
theorem dL_retention_17 : decode cL_retention 17 = .ok (.astore 4, 2) := by decide +kernel
theorem dL_retention_19 : decode cL_retention 19 = .ok (.iconst 2, 1) := by decide +kernel
theorem dL_retention_20 : decode cL_retention 20 = .ok (.ireturn, 1) := by decide +kernel
theorem dL_retention_21 : decode cL_retention 21 = .ok (.iconst 0, 1) := by decide +kernel
theorem dL_retention_22 : decode cL_retention 22 = .ok (.ireturn, 1) := by decide +kernel
theorem dL_ladderDays_0 : decode cL_ladderDays 0 = .ok (.aload_n 2, 1) := by decide +kernel
theorem dL_ladderDays_1 : decode cL_ladderDays 1 = .ok (.iconst 0, 1) := by decide +kernel
theorem dL_ladderDays_2 : decode cL_ladderDays 2 = .ok (.aload_n 0, 1) := by decide +kernel
theorem dL_ladderDays_3 : decode cL_ladderDays 3 = .ok (.iload_n 1, 1) := by decide +kernel
theorem dL_ladderDays_4 : decode cL_ladderDays 4 = .ok (.invokevirtual 37, 3) := by decide +kernel
theorem dL_ladderDays_7 : decode cL_ladderDays 7 = .ok (.i2l, 1) := by decide +kernel
theorem dL_ladderDays_8 : decode cL_ladderDays 8 = .ok (.lastore, 1) := by decide +kernel
theorem dL_ladderDays_9 : decode cL_ladderDays 9 = .ok (.goto 6, 3) := by decide +kernel
theorem dL_ladderDays_12 : decode cL_ladderDays 12 = .ok (.astore_n 3, 1) := by decide +kernel
theorem dL_ladderDays_13 : decode cL_ladderDays 13 = .ok (.iconst 1, 1) := by decide +kernel
theorem dL_ladderDays_14 : decode cL_ladderDays 14 = .ok (.ireturn, 1) := by decide +kernel
theorem dL_ladderDays_15 : decode cL_ladderDays 15 = .ok (.iconst 0, 1) := by decide +kernel
theorem dL_ladderDays_16 : decode cL_ladderDays 16 = .ok (.ireturn, 1) := by decide +kernel
theorem dL_deliver_0 : decode cL_deliver 0 = .ok (.aload 4, 2) := by decide +kernel
theorem dL_deliver_2 : decode cL_deliver 2 = .ok (.iconst 0, 1) := by decide +kernel
theorem dL_deliver_3 : decode cL_deliver 3 = .ok (.aload_n 0, 1) := by decide +kernel
theorem dL_deliver_4 : decode cL_deliver 4 = .ok (.iload_n 1, 1) := by decide +kernel
theorem dL_deliver_5 : decode cL_deliver 5 = .ok (.iload_n 2, 1) := by decide +kernel
theorem dL_deliver_6 : decode cL_deliver 6 = .ok (.iload_n 3, 1) := by decide +kernel
theorem dL_deliver_7 : decode cL_deliver 7 = .ok (.invokevirtual 40, 3) := by decide +kernel
theorem dL_deliver_10 : decode cL_deliver 10 = .ok (.i2l, 1) := by decide +kernel
theorem dL_deliver_11 : decode cL_deliver 11 = .ok (.lastore, 1) := by decide +kernel
theorem dL_deliver_12 : decode cL_deliver 12 = .ok (.goto 15, 3) := by decide +kernel
theorem dL_deliver_15 : decode cL_deliver 15 = .ok (.astore 5, 2) := by decide +kernel
theorem dL_deliver_17 : decode cL_deliver 17 = .ok (.iconst 1, 1) := by decide +kernel
theorem dL_deliver_18 : decode cL_deliver 18 = .ok (.ireturn, 1) := by decide +kernel
theorem dL_deliver_19 : decode cL_deliver 19 = .ok (.astore 5, 2) := by decide +kernel
theorem dL_deliver_21 : decode cL_deliver 21 = .ok (.iconst 2, 1) := by decide +kernel
theorem dL_deliver_22 : decode cL_deliver 22 = .ok (.ireturn, 1) := by decide +kernel
theorem dL_deliver_23 : decode cL_deliver 23 = .ok (.astore 5, 2) := by decide +kernel
theorem dL_deliver_25 : decode cL_deliver 25 = .ok (.iconst 3, 1) := by decide +kernel
theorem dL_deliver_26 : decode cL_deliver 26 = .ok (.ireturn, 1) := by decide +kernel
theorem dL_deliver_27 : decode cL_deliver 27 = .ok (.iconst 0, 1) := by decide +kernel
theorem dL_deliver_28 : decode cL_deliver 28 = .ok (.ireturn, 1) := by decide +kernel
theorem dL_message_0 : decode cL_message 0 = .ok (.aload_n 3, 1) := by decide +kernel
theorem dL_message_1 : decode cL_message 1 = .ok (.iconst 0, 1) := by decide +kernel
theorem dL_message_2 : decode cL_message 2 = .ok (.aload_n 0, 1) := by decide +kernel
theorem dL_message_3 : decode cL_message 3 = .ok (.iload_n 1, 1) := by decide +kernel
theorem dL_message_4 : decode cL_message 4 = .ok (.iload_n 2, 1) := by decide +kernel
theorem dL_message_5 : decode cL_message 5 = .ok (.invokevirtual 44, 3) := by decide +kernel
theorem dL_message_8 : decode cL_message 8 = .ok (.i2l, 1) := by decide +kernel
theorem dL_message_9 : decode cL_message 9 = .ok (.lastore, 1) := by decide +kernel
theorem dL_message_10 : decode cL_message 10 = .ok (.goto 11, 3) := by decide +kernel
theorem dL_message_13 : decode cL_message 13 = .ok (.astore 4, 2) := by decide +kernel
theorem dL_message_15 : decode cL_message 15 = .ok (.iconst 1, 1) := by decide +kernel
theorem dL_message_16 : decode cL_message 16 = .ok (.ireturn, 1) := by decide +kernel
theorem dL_message_17 : decode cL_message 17 = .ok (.astore 4, 2) := by decide +kernel
theorem dL_message_19 : decode cL_message 19 = .ok (.iconst 2, 1) := by decide +kernel
theorem dL_message_20 : decode cL_message 20 = .ok (.ireturn, 1) := by decide +kernel
theorem dL_message_21 : decode cL_message 21 = .ok (.iconst 0, 1) := by decide +kernel
theorem dL_message_22 : decode cL_message 22 = .ok (.ireturn, 1) := by decide +kernel
theorem dL_partOf_0 : decode cL_partOf 0 = .ok (.aload_n 3, 1) := by decide +kernel
theorem dL_partOf_1 : decode cL_partOf 1 = .ok (.iconst 0, 1) := by decide +kernel
theorem dL_partOf_2 : decode cL_partOf 2 = .ok (.aload_n 0, 1) := by decide +kernel
theorem dL_partOf_3 : decode cL_partOf 3 = .ok (.iload_n 1, 1) := by decide +kernel
theorem dL_partOf_4 : decode cL_partOf 4 = .ok (.iload_n 2, 1) := by decide +kernel
theorem dL_partOf_5 : decode cL_partOf 5 = .ok (.invokevirtual 47, 3) := by decide +kernel
theorem dL_partOf_8 : decode cL_partOf 8 = .ok (.i2l, 1) := by decide +kernel
theorem dL_partOf_9 : decode cL_partOf 9 = .ok (.lastore, 1) := by decide +kernel
theorem dL_partOf_10 : decode cL_partOf 10 = .ok (.goto 7, 3) := by decide +kernel
theorem dL_partOf_13 : decode cL_partOf 13 = .ok (.astore 4, 2) := by decide +kernel
theorem dL_partOf_15 : decode cL_partOf 15 = .ok (.iconst 1, 1) := by decide +kernel
theorem dL_partOf_16 : decode cL_partOf 16 = .ok (.ireturn, 1) := by decide +kernel
theorem dL_partOf_17 : decode cL_partOf 17 = .ok (.iconst 0, 1) := by decide +kernel
theorem dL_partOf_18 : decode cL_partOf 18 = .ok (.ireturn, 1) := by decide +kernel
theorem dL_readers_0 : decode cL_readers 0 = .ok (.aload_n 2, 1) := by decide +kernel
theorem dL_readers_1 : decode cL_readers 1 = .ok (.iconst 0, 1) := by decide +kernel
theorem dL_readers_2 : decode cL_readers 2 = .ok (.aload_n 0, 1) := by decide +kernel
theorem dL_readers_3 : decode cL_readers 3 = .ok (.iload_n 1, 1) := by decide +kernel
theorem dL_readers_4 : decode cL_readers 4 = .ok (.invokevirtual 50, 3) := by decide +kernel
theorem dL_readers_7 : decode cL_readers 7 = .ok (.i2l, 1) := by decide +kernel
theorem dL_readers_8 : decode cL_readers 8 = .ok (.lastore, 1) := by decide +kernel
theorem dL_readers_9 : decode cL_readers 9 = .ok (.goto 6, 3) := by decide +kernel
theorem dL_readers_12 : decode cL_readers 12 = .ok (.astore_n 3, 1) := by decide +kernel
theorem dL_readers_13 : decode cL_readers 13 = .ok (.iconst 1, 1) := by decide +kernel
theorem dL_readers_14 : decode cL_readers 14 = .ok (.ireturn, 1) := by decide +kernel
theorem dL_readers_15 : decode cL_readers 15 = .ok (.iconst 0, 1) := by decide +kernel
theorem dL_readers_16 : decode cL_readers 16 = .ok (.ireturn, 1) := by decide +kernel
theorem dL_hidden_0 : decode cL_hidden 0 = .ok (.aload_n 2, 1) := by decide +kernel
theorem dL_hidden_1 : decode cL_hidden 1 = .ok (.iconst 0, 1) := by decide +kernel
theorem dL_hidden_2 : decode cL_hidden 2 = .ok (.aload_n 0, 1) := by decide +kernel
theorem dL_hidden_3 : decode cL_hidden 3 = .ok (.iload_n 1, 1) := by decide +kernel
theorem dL_hidden_4 : decode cL_hidden 4 = .ok (.invokevirtual 53, 3) := by decide +kernel
theorem dL_hidden_7 : decode cL_hidden 7 = .ok (.i2l, 1) := by decide +kernel
theorem dL_hidden_8 : decode cL_hidden 8 = .ok (.lastore, 1) := by decide +kernel
theorem dL_hidden_9 : decode cL_hidden 9 = .ok (.goto 6, 3) := by decide +kernel
theorem dL_hidden_12 : decode cL_hidden 12 = .ok (.astore_n 3, 1) := by decide +kernel
theorem dL_hidden_13 : decode cL_hidden 13 = .ok (.iconst 1, 1) := by decide +kernel
theorem dL_hidden_14 : decode cL_hidden 14 = .ok (.ireturn, 1) := by decide +kernel
theorem dL_hidden_15 : decode cL_hidden 15 = .ok (.iconst 0, 1) := by decide +kernel
theorem dL_hidden_16 : decode cL_hidden 16 = .ok (.ireturn, 1) := by decide +kernel
theorem dL_state_0 : decode cL_state 0 = .ok (.aload_n 3, 1) := by decide +kernel
theorem dL_state_1 : decode cL_state 1 = .ok (.iconst 0, 1) := by decide +kernel
theorem dL_state_2 : decode cL_state 2 = .ok (.aload_n 0, 1) := by decide +kernel
theorem dL_state_3 : decode cL_state 3 = .ok (.iload_n 1, 1) := by decide +kernel
theorem dL_state_4 : decode cL_state 4 = .ok (.iload_n 2, 1) := by decide +kernel
theorem dL_state_5 : decode cL_state 5 = .ok (.invokevirtual 56, 3) := by decide +kernel
theorem dL_state_8 : decode cL_state 8 = .ok (.i2l, 1) := by decide +kernel
theorem dL_state_9 : decode cL_state 9 = .ok (.lastore, 1) := by decide +kernel
theorem dL_state_10 : decode cL_state 10 = .ok (.goto 7, 3) := by decide +kernel
theorem dL_state_13 : decode cL_state 13 = .ok (.astore 4, 2) := by decide +kernel
theorem dL_state_15 : decode cL_state 15 = .ok (.iconst 1, 1) := by decide +kernel
theorem dL_state_16 : decode cL_state 16 = .ok (.ireturn, 1) := by decide +kernel
theorem dL_state_17 : decode cL_state 17 = .ok (.iconst 0, 1) := by decide +kernel
theorem dL_state_18 : decode cL_state 18 = .ok (.ireturn, 1) := by decide +kernel
theorem dL_classOf_0 : decode cL_classOf 0 = .ok (.aload_n 3, 1) := by decide +kernel
theorem dL_classOf_1 : decode cL_classOf 1 = .ok (.iconst 0, 1) := by decide +kernel
theorem dL_classOf_2 : decode cL_classOf 2 = .ok (.aload_n 0, 1) := by decide +kernel
theorem dL_classOf_3 : decode cL_classOf 3 = .ok (.iload_n 1, 1) := by decide +kernel
theorem dL_classOf_4 : decode cL_classOf 4 = .ok (.iload_n 2, 1) := by decide +kernel
theorem dL_classOf_5 : decode cL_classOf 5 = .ok (.invokevirtual 59, 3) := by decide +kernel
theorem dL_classOf_8 : decode cL_classOf 8 = .ok (.i2l, 1) := by decide +kernel
theorem dL_classOf_9 : decode cL_classOf 9 = .ok (.lastore, 1) := by decide +kernel
theorem dL_classOf_10 : decode cL_classOf 10 = .ok (.goto 7, 3) := by decide +kernel
theorem dL_classOf_13 : decode cL_classOf 13 = .ok (.astore 4, 2) := by decide +kernel
theorem dL_classOf_15 : decode cL_classOf 15 = .ok (.iconst 1, 1) := by decide +kernel
theorem dL_classOf_16 : decode cL_classOf 16 = .ok (.ireturn, 1) := by decide +kernel
theorem dL_classOf_17 : decode cL_classOf 17 = .ok (.iconst 0, 1) := by decide +kernel
theorem dL_classOf_18 : decode cL_classOf 18 = .ok (.ireturn, 1) := by decide +kernel
theorem dL_enteredOn_0 : decode cL_enteredOn 0 = .ok (.aload_n 3, 1) := by decide +kernel
theorem dL_enteredOn_1 : decode cL_enteredOn 1 = .ok (.iconst 0, 1) := by decide +kernel
theorem dL_enteredOn_2 : decode cL_enteredOn 2 = .ok (.aload_n 0, 1) := by decide +kernel
theorem dL_enteredOn_3 : decode cL_enteredOn 3 = .ok (.iload_n 1, 1) := by decide +kernel
theorem dL_enteredOn_4 : decode cL_enteredOn 4 = .ok (.iload_n 2, 1) := by decide +kernel
theorem dL_enteredOn_5 : decode cL_enteredOn 5 = .ok (.invokevirtual 62, 3) := by decide +kernel
theorem dL_enteredOn_8 : decode cL_enteredOn 8 = .ok (.i2l, 1) := by decide +kernel
theorem dL_enteredOn_9 : decode cL_enteredOn 9 = .ok (.lastore, 1) := by decide +kernel
theorem dL_enteredOn_10 : decode cL_enteredOn 10 = .ok (.goto 7, 3) := by decide +kernel
theorem dL_enteredOn_13 : decode cL_enteredOn 13 = .ok (.astore 4, 2) := by decide +kernel
theorem dL_enteredOn_15 : decode cL_enteredOn 15 = .ok (.iconst 1, 1) := by decide +kernel
theorem dL_enteredOn_16 : decode cL_enteredOn 16 = .ok (.ireturn, 1) := by decide +kernel
theorem dL_enteredOn_17 : decode cL_enteredOn 17 = .ok (.iconst 0, 1) := by decide +kernel
theorem dL_enteredOn_18 : decode cL_enteredOn 18 = .ok (.ireturn, 1) := by decide +kernel
theorem dL_expiresOn_0 : decode cL_expiresOn 0 = .ok (.aload_n 3, 1) := by decide +kernel
theorem dL_expiresOn_1 : decode cL_expiresOn 1 = .ok (.iconst 0, 1) := by decide +kernel
theorem dL_expiresOn_2 : decode cL_expiresOn 2 = .ok (.aload_n 0, 1) := by decide +kernel
theorem dL_expiresOn_3 : decode cL_expiresOn 3 = .ok (.iload_n 1, 1) := by decide +kernel
theorem dL_expiresOn_4 : decode cL_expiresOn 4 = .ok (.iload_n 2, 1) := by decide +kernel
theorem dL_expiresOn_5 : decode cL_expiresOn 5 = .ok (.invokevirtual 65, 3) := by decide +kernel
theorem dL_expiresOn_8 : decode cL_expiresOn 8 = .ok (.i2l, 1) := by decide +kernel
theorem dL_expiresOn_9 : decode cL_expiresOn 9 = .ok (.lastore, 1) := by decide +kernel
theorem dL_expiresOn_10 : decode cL_expiresOn 10 = .ok (.goto 7, 3) := by decide +kernel
theorem dL_expiresOn_13 : decode cL_expiresOn 13 = .ok (.astore 4, 2) := by decide +kernel
theorem dL_expiresOn_15 : decode cL_expiresOn 15 = .ok (.iconst 1, 1) := by decide +kernel
theorem dL_expiresOn_16 : decode cL_expiresOn 16 = .ok (.ireturn, 1) := by decide +kernel
theorem dL_expiresOn_17 : decode cL_expiresOn 17 = .ok (.iconst 0, 1) := by decide +kernel
theorem dL_expiresOn_18 : decode cL_expiresOn 18 = .ok (.ireturn, 1) := by decide +kernel
theorem dL_isKept_0 : decode cL_isKept 0 = .ok (.aload_n 3, 1) := by decide +kernel
theorem dL_isKept_1 : decode cL_isKept 1 = .ok (.iconst 0, 1) := by decide +kernel
theorem dL_isKept_2 : decode cL_isKept 2 = .ok (.aload_n 0, 1) := by decide +kernel
theorem dL_isKept_3 : decode cL_isKept 3 = .ok (.iload_n 1, 1) := by decide +kernel
theorem dL_isKept_4 : decode cL_isKept 4 = .ok (.iload_n 2, 1) := by decide +kernel
theorem dL_isKept_5 : decode cL_isKept 5 = .ok (.invokevirtual 68, 3) := by decide +kernel
theorem dL_isKept_8 : decode cL_isKept 8 = .ok (.ifCond .eq 7, 3) := by decide +kernel
theorem dL_isKept_11 : decode cL_isKept 11 = .ok (.lconst 1, 1) := by decide +kernel
theorem dL_isKept_12 : decode cL_isKept 12 = .ok (.goto 4, 3) := by decide +kernel
theorem dL_isKept_15 : decode cL_isKept 15 = .ok (.lconst 0, 1) := by decide +kernel
theorem dL_isKept_16 : decode cL_isKept 16 = .ok (.lastore, 1) := by decide +kernel
theorem dL_isKept_17 : decode cL_isKept 17 = .ok (.goto 7, 3) := by decide +kernel
theorem dL_isKept_20 : decode cL_isKept 20 = .ok (.astore 4, 2) := by decide +kernel
theorem dL_isKept_22 : decode cL_isKept 22 = .ok (.iconst 1, 1) := by decide +kernel
theorem dL_isKept_23 : decode cL_isKept 23 = .ok (.ireturn, 1) := by decide +kernel
theorem dL_isKept_24 : decode cL_isKept 24 = .ok (.iconst 0, 1) := by decide +kernel
theorem dL_isKept_25 : decode cL_isKept 25 = .ok (.ireturn, 1) := by decide +kernel
theorem dL_holdsOn_0 : decode cL_holdsOn 0 = .ok (.aload_n 3, 1) := by decide +kernel
theorem dL_holdsOn_1 : decode cL_holdsOn 1 = .ok (.iconst 0, 1) := by decide +kernel
theorem dL_holdsOn_2 : decode cL_holdsOn 2 = .ok (.aload_n 0, 1) := by decide +kernel
theorem dL_holdsOn_3 : decode cL_holdsOn 3 = .ok (.iload_n 1, 1) := by decide +kernel
theorem dL_holdsOn_4 : decode cL_holdsOn 4 = .ok (.iload_n 2, 1) := by decide +kernel
theorem dL_holdsOn_5 : decode cL_holdsOn 5 = .ok (.invokevirtual 72, 3) := by decide +kernel
theorem dL_holdsOn_8 : decode cL_holdsOn 8 = .ok (.i2l, 1) := by decide +kernel
theorem dL_holdsOn_9 : decode cL_holdsOn 9 = .ok (.lastore, 1) := by decide +kernel
theorem dL_holdsOn_10 : decode cL_holdsOn 10 = .ok (.goto 7, 3) := by decide +kernel
theorem dL_holdsOn_13 : decode cL_holdsOn 13 = .ok (.astore 4, 2) := by decide +kernel
theorem dL_holdsOn_15 : decode cL_holdsOn 15 = .ok (.iconst 1, 1) := by decide +kernel
theorem dL_holdsOn_16 : decode cL_holdsOn 16 = .ok (.ireturn, 1) := by decide +kernel
theorem dL_holdsOn_17 : decode cL_holdsOn 17 = .ok (.iconst 0, 1) := by decide +kernel
theorem dL_holdsOn_18 : decode cL_holdsOn 18 = .ok (.ireturn, 1) := by decide +kernel
theorem dL_storedPart_0 : decode cL_storedPart 0 = .ok (.aload_n 2, 1) := by decide +kernel
theorem dL_storedPart_1 : decode cL_storedPart 1 = .ok (.iconst 0, 1) := by decide +kernel
theorem dL_storedPart_2 : decode cL_storedPart 2 = .ok (.aload_n 0, 1) := by decide +kernel
theorem dL_storedPart_3 : decode cL_storedPart 3 = .ok (.iload_n 1, 1) := by decide +kernel
theorem dL_storedPart_4 : decode cL_storedPart 4 = .ok (.invokevirtual 75, 3) := by decide +kernel
theorem dL_storedPart_7 : decode cL_storedPart 7 = .ok (.i2l, 1) := by decide +kernel
theorem dL_storedPart_8 : decode cL_storedPart 8 = .ok (.lastore, 1) := by decide +kernel
theorem dL_storedPart_9 : decode cL_storedPart 9 = .ok (.goto 6, 3) := by decide +kernel
theorem dL_storedPart_12 : decode cL_storedPart 12 = .ok (.astore_n 3, 1) := by decide +kernel
theorem dL_storedPart_13 : decode cL_storedPart 13 = .ok (.iconst 1, 1) := by decide +kernel
theorem dL_storedPart_14 : decode cL_storedPart 14 = .ok (.ireturn, 1) := by decide +kernel
theorem dL_storedPart_15 : decode cL_storedPart 15 = .ok (.iconst 0, 1) := by decide +kernel
theorem dL_storedPart_16 : decode cL_storedPart 16 = .ok (.ireturn, 1) := by decide +kernel
theorem dL_part_0 : decode cL_part 0 = .ok (.aload_n 3, 1) := by decide +kernel
theorem dL_part_1 : decode cL_part 1 = .ok (.iconst 0, 1) := by decide +kernel
theorem dL_part_2 : decode cL_part 2 = .ok (.aload_n 0, 1) := by decide +kernel
theorem dL_part_3 : decode cL_part 3 = .ok (.iload_n 1, 1) := by decide +kernel
theorem dL_part_4 : decode cL_part 4 = .ok (.iload_n 2, 1) := by decide +kernel
theorem dL_part_5 : decode cL_part 5 = .ok (.invokevirtual 78, 3) := by decide +kernel
theorem dL_part_8 : decode cL_part 8 = .ok (.i2l, 1) := by decide +kernel
theorem dL_part_9 : decode cL_part 9 = .ok (.lastore, 1) := by decide +kernel
theorem dL_part_10 : decode cL_part 10 = .ok (.goto 11, 3) := by decide +kernel
theorem dL_part_13 : decode cL_part 13 = .ok (.astore 4, 2) := by decide +kernel
theorem dL_part_15 : decode cL_part 15 = .ok (.iconst 1, 1) := by decide +kernel
theorem dL_part_16 : decode cL_part 16 = .ok (.ireturn, 1) := by decide +kernel
theorem dL_part_17 : decode cL_part 17 = .ok (.astore 4, 2) := by decide +kernel
theorem dL_part_19 : decode cL_part 19 = .ok (.iconst 2, 1) := by decide +kernel
theorem dL_part_20 : decode cL_part 20 = .ok (.ireturn, 1) := by decide +kernel
theorem dL_part_21 : decode cL_part 21 = .ok (.iconst 0, 1) := by decide +kernel
theorem dL_part_22 : decode cL_part 22 = .ok (.ireturn, 1) := by decide +kernel
theorem dL_partByte_0 : decode cL_partByte 0 = .ok (.aload_n 3, 1) := by decide +kernel
theorem dL_partByte_1 : decode cL_partByte 1 = .ok (.iconst 0, 1) := by decide +kernel
theorem dL_partByte_2 : decode cL_partByte 2 = .ok (.aload_n 0, 1) := by decide +kernel
theorem dL_partByte_3 : decode cL_partByte 3 = .ok (.iload_n 1, 1) := by decide +kernel
theorem dL_partByte_4 : decode cL_partByte 4 = .ok (.iload_n 2, 1) := by decide +kernel
theorem dL_partByte_5 : decode cL_partByte 5 = .ok (.invokevirtual 81, 3) := by decide +kernel
theorem dL_partByte_8 : decode cL_partByte 8 = .ok (.i2l, 1) := by decide +kernel
theorem dL_partByte_9 : decode cL_partByte 9 = .ok (.lastore, 1) := by decide +kernel
theorem dL_partByte_10 : decode cL_partByte 10 = .ok (.goto 11, 3) := by decide +kernel
theorem dL_partByte_13 : decode cL_partByte 13 = .ok (.astore 4, 2) := by decide +kernel
theorem dL_partByte_15 : decode cL_partByte 15 = .ok (.iconst 1, 1) := by decide +kernel
theorem dL_partByte_16 : decode cL_partByte 16 = .ok (.ireturn, 1) := by decide +kernel
theorem dL_partByte_17 : decode cL_partByte 17 = .ok (.astore 4, 2) := by decide +kernel
theorem dL_partByte_19 : decode cL_partByte 19 = .ok (.iconst 2, 1) := by decide +kernel
theorem dL_partByte_20 : decode cL_partByte 20 = .ok (.ireturn, 1) := by decide +kernel
theorem dL_partByte_21 : decode cL_partByte 21 = .ok (.iconst 0, 1) := by decide +kernel
theorem dL_partByte_22 : decode cL_partByte 22 = .ok (.ireturn, 1) := by decide +kernel
theorem dL_digest_0 : decode cL_digest 0 = .ok (.aload_n 2, 1) := by decide +kernel
theorem dL_digest_1 : decode cL_digest 1 = .ok (.iconst 0, 1) := by decide +kernel
theorem dL_digest_2 : decode cL_digest 2 = .ok (.aload_n 0, 1) := by decide +kernel
theorem dL_digest_3 : decode cL_digest 3 = .ok (.iload_n 1, 1) := by decide +kernel
theorem dL_digest_4 : decode cL_digest 4 = .ok (.invokevirtual 86, 3) := by decide +kernel
theorem dL_digest_7 : decode cL_digest 7 = .ok (.lastore, 1) := by decide +kernel
theorem dL_digest_8 : decode cL_digest 8 = .ok (.goto 6, 3) := by decide +kernel
theorem dL_digest_11 : decode cL_digest 11 = .ok (.astore_n 3, 1) := by decide +kernel
theorem dL_digest_12 : decode cL_digest 12 = .ok (.iconst 1, 1) := by decide +kernel
theorem dL_digest_13 : decode cL_digest 13 = .ok (.ireturn, 1) := by decide +kernel
theorem dL_digest_14 : decode cL_digest 14 = .ok (.iconst 0, 1) := by decide +kernel
theorem dL_digest_15 : decode cL_digest 15 = .ok (.ireturn, 1) := by decide +kernel
theorem dL_usage_0 : decode cL_usage 0 = .ok (.aload_n 2, 1) := by decide +kernel
theorem dL_usage_1 : decode cL_usage 1 = .ok (.iconst 0, 1) := by decide +kernel
theorem dL_usage_2 : decode cL_usage 2 = .ok (.aload_n 0, 1) := by decide +kernel
theorem dL_usage_3 : decode cL_usage 3 = .ok (.iload_n 1, 1) := by decide +kernel
theorem dL_usage_4 : decode cL_usage 4 = .ok (.invokevirtual 90, 3) := by decide +kernel
theorem dL_usage_7 : decode cL_usage 7 = .ok (.i2l, 1) := by decide +kernel
theorem dL_usage_8 : decode cL_usage 8 = .ok (.lastore, 1) := by decide +kernel
theorem dL_usage_9 : decode cL_usage 9 = .ok (.goto 6, 3) := by decide +kernel
theorem dL_usage_12 : decode cL_usage 12 = .ok (.astore_n 3, 1) := by decide +kernel
theorem dL_usage_13 : decode cL_usage 13 = .ok (.iconst 1, 1) := by decide +kernel
theorem dL_usage_14 : decode cL_usage 14 = .ok (.ireturn, 1) := by decide +kernel
theorem dL_usage_15 : decode cL_usage 15 = .ok (.iconst 0, 1) := by decide +kernel
theorem dL_usage_16 : decode cL_usage 16 = .ok (.ireturn, 1) := by decide +kernel
theorem dL_quota_0 : decode cL_quota 0 = .ok (.aload_n 2, 1) := by decide +kernel
theorem dL_quota_1 : decode cL_quota 1 = .ok (.iconst 0, 1) := by decide +kernel
theorem dL_quota_2 : decode cL_quota 2 = .ok (.aload_n 0, 1) := by decide +kernel
theorem dL_quota_3 : decode cL_quota 3 = .ok (.iload_n 1, 1) := by decide +kernel
theorem dL_quota_4 : decode cL_quota 4 = .ok (.invokevirtual 93, 3) := by decide +kernel
theorem dL_quota_7 : decode cL_quota 7 = .ok (.i2l, 1) := by decide +kernel
theorem dL_quota_8 : decode cL_quota 8 = .ok (.lastore, 1) := by decide +kernel
theorem dL_quota_9 : decode cL_quota 9 = .ok (.goto 6, 3) := by decide +kernel
theorem dL_quota_12 : decode cL_quota 12 = .ok (.astore_n 3, 1) := by decide +kernel
theorem dL_quota_13 : decode cL_quota 13 = .ok (.iconst 1, 1) := by decide +kernel
theorem dL_quota_14 : decode cL_quota 14 = .ok (.ireturn, 1) := by decide +kernel
theorem dL_quota_15 : decode cL_quota 15 = .ok (.iconst 0, 1) := by decide +kernel
theorem dL_quota_16 : decode cL_quota 16 = .ok (.ireturn, 1) := by decide +kernel
theorem dL_fairShare_0 : decode cL_fairShare 0 = .ok (.aload_n 2, 1) := by decide +kernel
theorem dL_fairShare_1 : decode cL_fairShare 1 = .ok (.iconst 0, 1) := by decide +kernel
theorem dL_fairShare_2 : decode cL_fairShare 2 = .ok (.aload_n 0, 1) := by decide +kernel
theorem dL_fairShare_3 : decode cL_fairShare 3 = .ok (.iload_n 1, 1) := by decide +kernel
theorem dL_fairShare_4 : decode cL_fairShare 4 = .ok (.invokevirtual 96, 3) := by decide +kernel
theorem dL_fairShare_7 : decode cL_fairShare 7 = .ok (.dastore, 1) := by decide +kernel
theorem dL_fairShare_8 : decode cL_fairShare 8 = .ok (.goto 6, 3) := by decide +kernel
theorem dL_fairShare_11 : decode cL_fairShare 11 = .ok (.astore_n 3, 1) := by decide +kernel
theorem dL_fairShare_12 : decode cL_fairShare 12 = .ok (.iconst 1, 1) := by decide +kernel
theorem dL_fairShare_13 : decode cL_fairShare 13 = .ok (.ireturn, 1) := by decide +kernel
theorem dL_fairShare_14 : decode cL_fairShare 14 = .ok (.iconst 0, 1) := by decide +kernel
theorem dL_fairShare_15 : decode cL_fairShare 15 = .ok (.ireturn, 1) := by decide +kernel
theorem dL_inClass_0 : decode cL_inClass 0 = .ok (.aload_n 3, 1) := by decide +kernel
theorem dL_inClass_1 : decode cL_inClass 1 = .ok (.iconst 0, 1) := by decide +kernel
theorem dL_inClass_2 : decode cL_inClass 2 = .ok (.aload_n 0, 1) := by decide +kernel
theorem dL_inClass_3 : decode cL_inClass 3 = .ok (.iload_n 1, 1) := by decide +kernel
theorem dL_inClass_4 : decode cL_inClass 4 = .ok (.iload_n 2, 1) := by decide +kernel
theorem dL_inClass_5 : decode cL_inClass 5 = .ok (.invokevirtual 100, 3) := by decide +kernel
theorem dL_inClass_8 : decode cL_inClass 8 = .ok (.i2l, 1) := by decide +kernel
theorem dL_inClass_9 : decode cL_inClass 9 = .ok (.lastore, 1) := by decide +kernel
theorem dL_inClass_10 : decode cL_inClass 10 = .ok (.goto 7, 3) := by decide +kernel
theorem dL_inClass_13 : decode cL_inClass 13 = .ok (.astore 4, 2) := by decide +kernel
theorem dL_inClass_15 : decode cL_inClass 15 = .ok (.iconst 1, 1) := by decide +kernel
theorem dL_inClass_16 : decode cL_inClass 16 = .ok (.ireturn, 1) := by decide +kernel
theorem dL_inClass_17 : decode cL_inClass 17 = .ok (.iconst 0, 1) := by decide +kernel
theorem dL_inClass_18 : decode cL_inClass 18 = .ok (.ireturn, 1) := by decide +kernel
theorem dL_matches_0 : decode cL_matches 0 = .ok (.aload_n 2, 1) := by decide +kernel
theorem dL_matches_1 : decode cL_matches 1 = .ok (.iconst 0, 1) := by decide +kernel
theorem dL_matches_2 : decode cL_matches 2 = .ok (.aload_n 0, 1) := by decide +kernel
theorem dL_matches_3 : decode cL_matches 3 = .ok (.iload_n 1, 1) := by decide +kernel
theorem dL_matches_4 : decode cL_matches 4 = .ok (.invokevirtual 103, 3) := by decide +kernel
theorem dL_matches_7 : decode cL_matches 7 = .ok (.i2l, 1) := by decide +kernel
theorem dL_matches_8 : decode cL_matches 8 = .ok (.lastore, 1) := by decide +kernel
theorem dL_matches_9 : decode cL_matches 9 = .ok (.goto 9, 3) := by decide +kernel
theorem dL_matches_12 : decode cL_matches 12 = .ok (.astore_n 3, 1) := by decide +kernel
theorem dL_matches_13 : decode cL_matches 13 = .ok (.iconst 1, 1) := by decide +kernel
theorem dL_matches_14 : decode cL_matches 14 = .ok (.ireturn, 1) := by decide +kernel
theorem dL_matches_15 : decode cL_matches 15 = .ok (.astore_n 3, 1) := by decide +kernel
theorem dL_matches_16 : decode cL_matches 16 = .ok (.iconst 2, 1) := by decide +kernel
theorem dL_matches_17 : decode cL_matches 17 = .ok (.ireturn, 1) := by decide +kernel
theorem dL_matches_18 : decode cL_matches 18 = .ok (.iconst 0, 1) := by decide +kernel
theorem dL_matches_19 : decode cL_matches 19 = .ok (.ireturn, 1) := by decide +kernel
theorem dL_commonBytes_0 : decode cL_commonBytes 0 = .ok (.aload_n 3, 1) := by decide +kernel
theorem dL_commonBytes_1 : decode cL_commonBytes 1 = .ok (.iconst 0, 1) := by decide +kernel
theorem dL_commonBytes_2 : decode cL_commonBytes 2 = .ok (.aload_n 0, 1) := by decide +kernel
theorem dL_commonBytes_3 : decode cL_commonBytes 3 = .ok (.iload_n 1, 1) := by decide +kernel
theorem dL_commonBytes_4 : decode cL_commonBytes 4 = .ok (.iload_n 2, 1) := by decide +kernel
theorem dL_commonBytes_5 : decode cL_commonBytes 5 = .ok (.invokevirtual 106, 3) := by decide +kernel
theorem dL_commonBytes_8 : decode cL_commonBytes 8 = .ok (.i2l, 1) := by decide +kernel
theorem dL_commonBytes_9 : decode cL_commonBytes 9 = .ok (.lastore, 1) := by decide +kernel
theorem dL_commonBytes_10 : decode cL_commonBytes 10 = .ok (.goto 7, 3) := by decide +kernel
theorem dL_commonBytes_13 : decode cL_commonBytes 13 = .ok (.astore 4, 2) := by decide +kernel
theorem dL_commonBytes_15 : decode cL_commonBytes 15 = .ok (.iconst 1, 1) := by decide +kernel
theorem dL_commonBytes_16 : decode cL_commonBytes 16 = .ok (.ireturn, 1) := by decide +kernel
theorem dL_commonBytes_17 : decode cL_commonBytes 17 = .ok (.iconst 0, 1) := by decide +kernel
theorem dL_commonBytes_18 : decode cL_commonBytes 18 = .ok (.ireturn, 1) := by decide +kernel
theorem dL_file_0 : decode cL_file 0 = .ok (.aload 4, 2) := by decide +kernel
theorem dL_file_2 : decode cL_file 2 = .ok (.iconst 0, 1) := by decide +kernel
theorem dL_file_3 : decode cL_file 3 = .ok (.aload_n 0, 1) := by decide +kernel
theorem dL_file_4 : decode cL_file 4 = .ok (.iload_n 1, 1) := by decide +kernel
theorem dL_file_5 : decode cL_file 5 = .ok (.iload_n 2, 1) := by decide +kernel
theorem dL_file_6 : decode cL_file 6 = .ok (.iload_n 3, 1) := by decide +kernel
theorem dL_file_7 : decode cL_file 7 = .ok (.invokevirtual 109, 3) := by decide +kernel
theorem dL_file_10 : decode cL_file 10 = .ok (.i2l, 1) := by decide +kernel
theorem dL_file_11 : decode cL_file 11 = .ok (.lastore, 1) := by decide +kernel
theorem dL_file_12 : decode cL_file 12 = .ok (.goto 11, 3) := by decide +kernel
theorem dL_file_15 : decode cL_file 15 = .ok (.astore 5, 2) := by decide +kernel
theorem dL_file_17 : decode cL_file 17 = .ok (.iconst 1, 1) := by decide +kernel
theorem dL_file_18 : decode cL_file 18 = .ok (.ireturn, 1) := by decide +kernel
theorem dL_file_19 : decode cL_file 19 = .ok (.astore 5, 2) := by decide +kernel
theorem dL_file_21 : decode cL_file 21 = .ok (.iconst 2, 1) := by decide +kernel
theorem dL_file_22 : decode cL_file 22 = .ok (.ireturn, 1) := by decide +kernel
theorem dL_file_23 : decode cL_file 23 = .ok (.iconst 0, 1) := by decide +kernel
theorem dL_file_24 : decode cL_file 24 = .ok (.ireturn, 1) := by decide +kernel
theorem dL_delete_0 : decode cL_delete 0 = .ok (.aload_n 3, 1) := by decide +kernel
theorem dL_delete_1 : decode cL_delete 1 = .ok (.iconst 0, 1) := by decide +kernel
theorem dL_delete_2 : decode cL_delete 2 = .ok (.aload_n 0, 1) := by decide +kernel
theorem dL_delete_3 : decode cL_delete 3 = .ok (.iload_n 1, 1) := by decide +kernel
theorem dL_delete_4 : decode cL_delete 4 = .ok (.iload_n 2, 1) := by decide +kernel
theorem dL_delete_5 : decode cL_delete 5 = .ok (.invokevirtual 112, 3) := by decide +kernel
theorem dL_delete_8 : decode cL_delete 8 = .ok (.i2l, 1) := by decide +kernel
theorem dL_delete_9 : decode cL_delete 9 = .ok (.lastore, 1) := by decide +kernel
theorem dL_delete_10 : decode cL_delete 10 = .ok (.goto 11, 3) := by decide +kernel
theorem dL_delete_13 : decode cL_delete 13 = .ok (.astore 4, 2) := by decide +kernel
theorem dL_delete_15 : decode cL_delete 15 = .ok (.iconst 1, 1) := by decide +kernel
theorem dL_delete_16 : decode cL_delete 16 = .ok (.ireturn, 1) := by decide +kernel
theorem dL_delete_17 : decode cL_delete 17 = .ok (.astore 4, 2) := by decide +kernel
theorem dL_delete_19 : decode cL_delete 19 = .ok (.iconst 2, 1) := by decide +kernel
theorem dL_delete_20 : decode cL_delete 20 = .ok (.ireturn, 1) := by decide +kernel
theorem dL_delete_21 : decode cL_delete 21 = .ok (.iconst 0, 1) := by decide +kernel
theorem dL_delete_22 : decode cL_delete 22 = .ok (.ireturn, 1) := by decide +kernel
theorem dL_recover_0 : decode cL_recover 0 = .ok (.aload_n 3, 1) := by decide +kernel
theorem dL_recover_1 : decode cL_recover 1 = .ok (.iconst 0, 1) := by decide +kernel
theorem dL_recover_2 : decode cL_recover 2 = .ok (.aload_n 0, 1) := by decide +kernel
theorem dL_recover_3 : decode cL_recover 3 = .ok (.iload_n 1, 1) := by decide +kernel
theorem dL_recover_4 : decode cL_recover 4 = .ok (.iload_n 2, 1) := by decide +kernel
theorem dL_recover_5 : decode cL_recover 5 = .ok (.invokevirtual 115, 3) := by decide +kernel
theorem dL_recover_8 : decode cL_recover 8 = .ok (.i2l, 1) := by decide +kernel
theorem dL_recover_9 : decode cL_recover 9 = .ok (.lastore, 1) := by decide +kernel
theorem dL_recover_10 : decode cL_recover 10 = .ok (.goto 11, 3) := by decide +kernel
theorem dL_recover_13 : decode cL_recover 13 = .ok (.astore 4, 2) := by decide +kernel
theorem dL_recover_15 : decode cL_recover 15 = .ok (.iconst 1, 1) := by decide +kernel
theorem dL_recover_16 : decode cL_recover 16 = .ok (.ireturn, 1) := by decide +kernel
theorem dL_recover_17 : decode cL_recover 17 = .ok (.astore 4, 2) := by decide +kernel
theorem dL_recover_19 : decode cL_recover 19 = .ok (.iconst 2, 1) := by decide +kernel
theorem dL_recover_20 : decode cL_recover 20 = .ok (.ireturn, 1) := by decide +kernel
theorem dL_recover_21 : decode cL_recover 21 = .ok (.iconst 0, 1) := by decide +kernel
theorem dL_recover_22 : decode cL_recover 22 = .ok (.ireturn, 1) := by decide +kernel
theorem dL_isActive_0 : decode cL_isActive 0 = .ok (.aload_n 2, 1) := by decide +kernel
theorem dL_isActive_1 : decode cL_isActive 1 = .ok (.iconst 0, 1) := by decide +kernel
theorem dL_isActive_2 : decode cL_isActive 2 = .ok (.aload_n 0, 1) := by decide +kernel
theorem dL_isActive_3 : decode cL_isActive 3 = .ok (.iload_n 1, 1) := by decide +kernel
theorem dL_isActive_4 : decode cL_isActive 4 = .ok (.invokevirtual 118, 3) := by decide +kernel
theorem dL_isActive_7 : decode cL_isActive 7 = .ok (.ifCond .eq 7, 3) := by decide +kernel
theorem dL_isActive_10 : decode cL_isActive 10 = .ok (.lconst 1, 1) := by decide +kernel
theorem dL_isActive_11 : decode cL_isActive 11 = .ok (.goto 4, 3) := by decide +kernel
theorem dL_isActive_14 : decode cL_isActive 14 = .ok (.lconst 0, 1) := by decide +kernel
theorem dL_isActive_15 : decode cL_isActive 15 = .ok (.lastore, 1) := by decide +kernel
theorem dL_isActive_16 : decode cL_isActive 16 = .ok (.goto 6, 3) := by decide +kernel
theorem dL_isActive_19 : decode cL_isActive 19 = .ok (.astore_n 3, 1) := by decide +kernel
theorem dL_isActive_20 : decode cL_isActive 20 = .ok (.iconst 1, 1) := by decide +kernel
theorem dL_isActive_21 : decode cL_isActive 21 = .ok (.ireturn, 1) := by decide +kernel
theorem dL_isActive_22 : decode cL_isActive 22 = .ok (.iconst 0, 1) := by decide +kernel
theorem dL_isActive_23 : decode cL_isActive 23 = .ok (.ireturn, 1) := by decide +kernel
theorem dL_setHold_0 : decode cL_setHold 0 = .ok (.aload_n 3, 1) := by decide +kernel
theorem dL_setHold_1 : decode cL_setHold 1 = .ok (.iconst 0, 1) := by decide +kernel
theorem dL_setHold_2 : decode cL_setHold 2 = .ok (.aload_n 0, 1) := by decide +kernel
theorem dL_setHold_3 : decode cL_setHold 3 = .ok (.iload_n 1, 1) := by decide +kernel
theorem dL_setHold_4 : decode cL_setHold 4 = .ok (.iload_n 2, 1) := by decide +kernel
theorem dL_setHold_5 : decode cL_setHold 5 = .ok (.invokevirtual 122, 3) := by decide +kernel
theorem dL_setHold_8 : decode cL_setHold 8 = .ok (.i2l, 1) := by decide +kernel
theorem dL_setHold_9 : decode cL_setHold 9 = .ok (.lastore, 1) := by decide +kernel
theorem dL_setHold_10 : decode cL_setHold 10 = .ok (.goto 7, 3) := by decide +kernel
theorem dL_setHold_13 : decode cL_setHold 13 = .ok (.astore 4, 2) := by decide +kernel
theorem dL_setHold_15 : decode cL_setHold 15 = .ok (.iconst 1, 1) := by decide +kernel
theorem dL_setHold_16 : decode cL_setHold 16 = .ok (.ireturn, 1) := by decide +kernel
theorem dL_setHold_17 : decode cL_setHold 17 = .ok (.iconst 0, 1) := by decide +kernel
theorem dL_setHold_18 : decode cL_setHold 18 = .ok (.ireturn, 1) := by decide +kernel
theorem dL_heldOnlyBy_0 : decode cL_heldOnlyBy 0 = .ok (.aload_n 2, 1) := by decide +kernel
theorem dL_heldOnlyBy_1 : decode cL_heldOnlyBy 1 = .ok (.iconst 0, 1) := by decide +kernel
theorem dL_heldOnlyBy_2 : decode cL_heldOnlyBy 2 = .ok (.aload_n 0, 1) := by decide +kernel
theorem dL_heldOnlyBy_3 : decode cL_heldOnlyBy 3 = .ok (.iload_n 1, 1) := by decide +kernel
theorem dL_heldOnlyBy_4 : decode cL_heldOnlyBy 4 = .ok (.invokevirtual 126, 3) := by decide +kernel
theorem dL_heldOnlyBy_7 : decode cL_heldOnlyBy 7 = .ok (.i2l, 1) := by decide +kernel
theorem dL_heldOnlyBy_8 : decode cL_heldOnlyBy 8 = .ok (.lastore, 1) := by decide +kernel
theorem dL_heldOnlyBy_9 : decode cL_heldOnlyBy 9 = .ok (.goto 6, 3) := by decide +kernel
theorem dL_heldOnlyBy_12 : decode cL_heldOnlyBy 12 = .ok (.astore_n 3, 1) := by decide +kernel
theorem dL_heldOnlyBy_13 : decode cL_heldOnlyBy 13 = .ok (.iconst 1, 1) := by decide +kernel
theorem dL_heldOnlyBy_14 : decode cL_heldOnlyBy 14 = .ok (.ireturn, 1) := by decide +kernel
theorem dL_heldOnlyBy_15 : decode cL_heldOnlyBy 15 = .ok (.iconst 0, 1) := by decide +kernel
theorem dL_heldOnlyBy_16 : decode cL_heldOnlyBy 16 = .ok (.ireturn, 1) := by decide +kernel
theorem dL_setQuota_0 : decode cL_setQuota 0 = .ok (.aload_n 3, 1) := by decide +kernel
theorem dL_setQuota_1 : decode cL_setQuota 1 = .ok (.iconst 0, 1) := by decide +kernel
theorem dL_setQuota_2 : decode cL_setQuota 2 = .ok (.aload_n 0, 1) := by decide +kernel
theorem dL_setQuota_3 : decode cL_setQuota 3 = .ok (.iload_n 1, 1) := by decide +kernel
theorem dL_setQuota_4 : decode cL_setQuota 4 = .ok (.iload_n 2, 1) := by decide +kernel
theorem dL_setQuota_5 : decode cL_setQuota 5 = .ok (.invokevirtual 129, 3) := by decide +kernel
theorem dL_setQuota_8 : decode cL_setQuota 8 = .ok (.i2l, 1) := by decide +kernel
theorem dL_setQuota_9 : decode cL_setQuota 9 = .ok (.lastore, 1) := by decide +kernel
theorem dL_setQuota_10 : decode cL_setQuota 10 = .ok (.goto 11, 3) := by decide +kernel
theorem dL_setQuota_13 : decode cL_setQuota 13 = .ok (.astore 4, 2) := by decide +kernel
theorem dL_setQuota_15 : decode cL_setQuota 15 = .ok (.iconst 1, 1) := by decide +kernel
theorem dL_setQuota_16 : decode cL_setQuota 16 = .ok (.ireturn, 1) := by decide +kernel
theorem dL_setQuota_17 : decode cL_setQuota 17 = .ok (.astore 4, 2) := by decide +kernel
theorem dL_setQuota_19 : decode cL_setQuota 19 = .ok (.iconst 2, 1) := by decide +kernel
theorem dL_setQuota_20 : decode cL_setQuota 20 = .ok (.ireturn, 1) := by decide +kernel
theorem dL_setQuota_21 : decode cL_setQuota 21 = .ok (.iconst 0, 1) := by decide +kernel
theorem dL_setQuota_22 : decode cL_setQuota 22 = .ok (.ireturn, 1) := by decide +kernel
theorem dL_advance_0 : decode cL_advance 0 = .ok (.aload_n 2, 1) := by decide +kernel
theorem dL_advance_1 : decode cL_advance 1 = .ok (.iconst 0, 1) := by decide +kernel
theorem dL_advance_2 : decode cL_advance 2 = .ok (.aload_n 0, 1) := by decide +kernel
theorem dL_advance_3 : decode cL_advance 3 = .ok (.iload_n 1, 1) := by decide +kernel
theorem dL_advance_4 : decode cL_advance 4 = .ok (.invokevirtual 132, 3) := by decide +kernel
theorem dL_advance_7 : decode cL_advance 7 = .ok (.i2l, 1) := by decide +kernel
theorem dL_advance_8 : decode cL_advance 8 = .ok (.lastore, 1) := by decide +kernel
theorem dL_advance_9 : decode cL_advance 9 = .ok (.goto 9, 3) := by decide +kernel
theorem dL_advance_12 : decode cL_advance 12 = .ok (.astore_n 3, 1) := by decide +kernel
theorem dL_advance_13 : decode cL_advance 13 = .ok (.iconst 1, 1) := by decide +kernel
theorem dL_advance_14 : decode cL_advance 14 = .ok (.ireturn, 1) := by decide +kernel
theorem dL_advance_15 : decode cL_advance 15 = .ok (.astore_n 3, 1) := by decide +kernel
theorem dL_advance_16 : decode cL_advance 16 = .ok (.iconst 2, 1) := by decide +kernel
theorem dL_advance_17 : decode cL_advance 17 = .ok (.ireturn, 1) := by decide +kernel
theorem dL_advance_18 : decode cL_advance 18 = .ok (.iconst 0, 1) := by decide +kernel
theorem dL_advance_19 : decode cL_advance 19 = .ok (.ireturn, 1) := by decide +kernel
theorem dL_removedOn_0 : decode cL_removedOn 0 = .ok (.aload_n 2, 1) := by decide +kernel
theorem dL_removedOn_1 : decode cL_removedOn 1 = .ok (.iconst 0, 1) := by decide +kernel
theorem dL_removedOn_2 : decode cL_removedOn 2 = .ok (.aload_n 0, 1) := by decide +kernel
theorem dL_removedOn_3 : decode cL_removedOn 3 = .ok (.iload_n 1, 1) := by decide +kernel
theorem dL_removedOn_4 : decode cL_removedOn 4 = .ok (.invokevirtual 135, 3) := by decide +kernel
theorem dL_removedOn_7 : decode cL_removedOn 7 = .ok (.i2l, 1) := by decide +kernel
theorem dL_removedOn_8 : decode cL_removedOn 8 = .ok (.lastore, 1) := by decide +kernel
theorem dL_removedOn_9 : decode cL_removedOn 9 = .ok (.goto 6, 3) := by decide +kernel
theorem dL_removedOn_12 : decode cL_removedOn 12 = .ok (.astore_n 3, 1) := by decide +kernel
theorem dL_removedOn_13 : decode cL_removedOn 13 = .ok (.iconst 1, 1) := by decide +kernel
theorem dL_removedOn_14 : decode cL_removedOn 14 = .ok (.ireturn, 1) := by decide +kernel
theorem dL_removedOn_15 : decode cL_removedOn 15 = .ok (.iconst 0, 1) := by decide +kernel
theorem dL_removedOn_16 : decode cL_removedOn 16 = .ok (.ireturn, 1) := by decide +kernel
theorem dL_bytesAfter_0 : decode cL_bytesAfter 0 = .ok (.aload_n 2, 1) := by decide +kernel
theorem dL_bytesAfter_1 : decode cL_bytesAfter 1 = .ok (.iconst 0, 1) := by decide +kernel
theorem dL_bytesAfter_2 : decode cL_bytesAfter 2 = .ok (.aload_n 0, 1) := by decide +kernel
theorem dL_bytesAfter_3 : decode cL_bytesAfter 3 = .ok (.iload_n 1, 1) := by decide +kernel
theorem dL_bytesAfter_4 : decode cL_bytesAfter 4 = .ok (.invokevirtual 138, 3) := by decide +kernel
theorem dL_bytesAfter_7 : decode cL_bytesAfter 7 = .ok (.i2l, 1) := by decide +kernel
theorem dL_bytesAfter_8 : decode cL_bytesAfter 8 = .ok (.lastore, 1) := by decide +kernel
theorem dL_bytesAfter_9 : decode cL_bytesAfter 9 = .ok (.goto 6, 3) := by decide +kernel
theorem dL_bytesAfter_12 : decode cL_bytesAfter 12 = .ok (.astore_n 3, 1) := by decide +kernel
theorem dL_bytesAfter_13 : decode cL_bytesAfter 13 = .ok (.iconst 1, 1) := by decide +kernel
theorem dL_bytesAfter_14 : decode cL_bytesAfter 14 = .ok (.ireturn, 1) := by decide +kernel
theorem dL_bytesAfter_15 : decode cL_bytesAfter 15 = .ok (.iconst 0, 1) := by decide +kernel
theorem dL_bytesAfter_16 : decode cL_bytesAfter 16 = .ok (.ireturn, 1) := by decide +kernel
theorem dL_goneAfter_0 : decode cL_goneAfter 0 = .ok (.aload_n 3, 1) := by decide +kernel
theorem dL_goneAfter_1 : decode cL_goneAfter 1 = .ok (.iconst 0, 1) := by decide +kernel
theorem dL_goneAfter_2 : decode cL_goneAfter 2 = .ok (.aload_n 0, 1) := by decide +kernel
theorem dL_goneAfter_3 : decode cL_goneAfter 3 = .ok (.iload_n 1, 1) := by decide +kernel
theorem dL_goneAfter_4 : decode cL_goneAfter 4 = .ok (.iload_n 2, 1) := by decide +kernel
theorem dL_goneAfter_5 : decode cL_goneAfter 5 = .ok (.invokevirtual 141, 3) := by decide +kernel
theorem dL_goneAfter_8 : decode cL_goneAfter 8 = .ok (.i2l, 1) := by decide +kernel
theorem dL_goneAfter_9 : decode cL_goneAfter 9 = .ok (.lastore, 1) := by decide +kernel
theorem dL_goneAfter_10 : decode cL_goneAfter 10 = .ok (.goto 11, 3) := by decide +kernel
theorem dL_goneAfter_13 : decode cL_goneAfter 13 = .ok (.astore 4, 2) := by decide +kernel
theorem dL_goneAfter_15 : decode cL_goneAfter 15 = .ok (.iconst 1, 1) := by decide +kernel
theorem dL_goneAfter_16 : decode cL_goneAfter 16 = .ok (.ireturn, 1) := by decide +kernel
theorem dL_goneAfter_17 : decode cL_goneAfter 17 = .ok (.astore 4, 2) := by decide +kernel
theorem dL_goneAfter_19 : decode cL_goneAfter 19 = .ok (.iconst 2, 1) := by decide +kernel
theorem dL_goneAfter_20 : decode cL_goneAfter 20 = .ok (.ireturn, 1) := by decide +kernel
theorem dL_goneAfter_21 : decode cL_goneAfter 21 = .ok (.iconst 0, 1) := by decide +kernel
theorem dL_goneAfter_22 : decode cL_goneAfter 22 = .ok (.ireturn, 1) := by decide +kernel
theorem dL_event_0 : decode cL_event 0 = .ok (.aload_n 3, 1) := by decide +kernel
theorem dL_event_1 : decode cL_event 1 = .ok (.iconst 0, 1) := by decide +kernel
theorem dL_event_2 : decode cL_event 2 = .ok (.aload_n 0, 1) := by decide +kernel
theorem dL_event_3 : decode cL_event 3 = .ok (.iload_n 1, 1) := by decide +kernel
theorem dL_event_4 : decode cL_event 4 = .ok (.iload_n 2, 1) := by decide +kernel
theorem dL_event_5 : decode cL_event 5 = .ok (.invokevirtual 144, 3) := by decide +kernel
theorem dL_event_8 : decode cL_event 8 = .ok (.i2l, 1) := by decide +kernel
theorem dL_event_9 : decode cL_event 9 = .ok (.lastore, 1) := by decide +kernel
theorem dL_event_10 : decode cL_event 10 = .ok (.goto 11, 3) := by decide +kernel
theorem dL_event_13 : decode cL_event 13 = .ok (.astore 4, 2) := by decide +kernel
theorem dL_event_15 : decode cL_event 15 = .ok (.iconst 1, 1) := by decide +kernel
theorem dL_event_16 : decode cL_event 16 = .ok (.ireturn, 1) := by decide +kernel
theorem dL_event_17 : decode cL_event 17 = .ok (.astore 4, 2) := by decide +kernel
theorem dL_event_19 : decode cL_event 19 = .ok (.iconst 2, 1) := by decide +kernel
theorem dL_event_20 : decode cL_event 20 = .ok (.ireturn, 1) := by decide +kernel
theorem dL_event_21 : decode cL_event 21 = .ok (.iconst 0, 1) := by decide +kernel
theorem dL_event_22 : decode cL_event 22 = .ok (.ireturn, 1) := by decide +kernel
theorem dL_eventsOf_0 : decode cL_eventsOf 0 = .ok (.aload_n 2, 1) := by decide +kernel
theorem dL_eventsOf_1 : decode cL_eventsOf 1 = .ok (.iconst 0, 1) := by decide +kernel
theorem dL_eventsOf_2 : decode cL_eventsOf 2 = .ok (.aload_n 0, 1) := by decide +kernel
theorem dL_eventsOf_3 : decode cL_eventsOf 3 = .ok (.iload_n 1, 1) := by decide +kernel
theorem dL_eventsOf_4 : decode cL_eventsOf 4 = .ok (.invokevirtual 147, 3) := by decide +kernel
theorem dL_eventsOf_7 : decode cL_eventsOf 7 = .ok (.i2l, 1) := by decide +kernel
theorem dL_eventsOf_8 : decode cL_eventsOf 8 = .ok (.lastore, 1) := by decide +kernel
theorem dL_eventsOf_9 : decode cL_eventsOf 9 = .ok (.goto 6, 3) := by decide +kernel
theorem dL_eventsOf_12 : decode cL_eventsOf 12 = .ok (.astore_n 3, 1) := by decide +kernel
theorem dL_eventsOf_13 : decode cL_eventsOf 13 = .ok (.iconst 1, 1) := by decide +kernel
theorem dL_eventsOf_14 : decode cL_eventsOf 14 = .ok (.ireturn, 1) := by decide +kernel
theorem dL_eventsOf_15 : decode cL_eventsOf 15 = .ok (.iconst 0, 1) := by decide +kernel
theorem dL_eventsOf_16 : decode cL_eventsOf 16 = .ok (.ireturn, 1) := by decide +kernel
theorem dL_undo_0 : decode cL_undo 0 = .ok (.aload_n 1, 1) := by decide +kernel
theorem dL_undo_1 : decode cL_undo 1 = .ok (.iconst 0, 1) := by decide +kernel
theorem dL_undo_2 : decode cL_undo 2 = .ok (.aload_n 0, 1) := by decide +kernel
theorem dL_undo_3 : decode cL_undo 3 = .ok (.invokevirtual 150, 3) := by decide +kernel
theorem dL_undo_6 : decode cL_undo 6 = .ok (.i2l, 1) := by decide +kernel
theorem dL_undo_7 : decode cL_undo 7 = .ok (.lastore, 1) := by decide +kernel
theorem dL_undo_8 : decode cL_undo 8 = .ok (.goto 6, 3) := by decide +kernel
theorem dL_undo_11 : decode cL_undo 11 = .ok (.astore_n 2, 1) := by decide +kernel
theorem dL_undo_12 : decode cL_undo 12 = .ok (.iconst 1, 1) := by decide +kernel
theorem dL_undo_13 : decode cL_undo 13 = .ok (.ireturn, 1) := by decide +kernel
theorem dL_undo_14 : decode cL_undo 14 = .ok (.iconst 0, 1) := by decide +kernel
theorem dL_undo_15 : decode cL_undo 15 = .ok (.ireturn, 1) := by decide +kernel
theorem dL_writeMailbox_0 : decode cL_writeMailbox 0 = .ok (.aload_n 2, 1) := by decide +kernel
theorem dL_writeMailbox_1 : decode cL_writeMailbox 1 = .ok (.iconst 0, 1) := by decide +kernel
theorem dL_writeMailbox_2 : decode cL_writeMailbox 2 = .ok (.aload_n 0, 1) := by decide +kernel
theorem dL_writeMailbox_3 : decode cL_writeMailbox 3 = .ok (.iload_n 1, 1) := by decide +kernel
theorem dL_writeMailbox_4 : decode cL_writeMailbox 4 = .ok (.invokevirtual 154, 3) := by decide +kernel
theorem dL_writeMailbox_7 : decode cL_writeMailbox 7 = .ok (.i2l, 1) := by decide +kernel
theorem dL_writeMailbox_8 : decode cL_writeMailbox 8 = .ok (.lastore, 1) := by decide +kernel
theorem dL_writeMailbox_9 : decode cL_writeMailbox 9 = .ok (.goto 6, 3) := by decide +kernel
theorem dL_writeMailbox_12 : decode cL_writeMailbox 12 = .ok (.astore_n 3, 1) := by decide +kernel
theorem dL_writeMailbox_13 : decode cL_writeMailbox 13 = .ok (.iconst 1, 1) := by decide +kernel
theorem dL_writeMailbox_14 : decode cL_writeMailbox 14 = .ok (.ireturn, 1) := by decide +kernel
theorem dL_writeMailbox_15 : decode cL_writeMailbox 15 = .ok (.iconst 0, 1) := by decide +kernel
theorem dL_writeMailbox_16 : decode cL_writeMailbox 16 = .ok (.ireturn, 1) := by decide +kernel
theorem dL_outputByte_0 : decode cL_outputByte 0 = .ok (.aload_n 2, 1) := by decide +kernel
theorem dL_outputByte_1 : decode cL_outputByte 1 = .ok (.iconst 0, 1) := by decide +kernel
theorem dL_outputByte_2 : decode cL_outputByte 2 = .ok (.aload_n 0, 1) := by decide +kernel
theorem dL_outputByte_3 : decode cL_outputByte 3 = .ok (.iload_n 1, 1) := by decide +kernel
theorem dL_outputByte_4 : decode cL_outputByte 4 = .ok (.invokevirtual 157, 3) := by decide +kernel
theorem dL_outputByte_7 : decode cL_outputByte 7 = .ok (.i2l, 1) := by decide +kernel
theorem dL_outputByte_8 : decode cL_outputByte 8 = .ok (.lastore, 1) := by decide +kernel
theorem dL_outputByte_9 : decode cL_outputByte 9 = .ok (.goto 6, 3) := by decide +kernel
theorem dL_outputByte_12 : decode cL_outputByte 12 = .ok (.astore_n 3, 1) := by decide +kernel
theorem dL_outputByte_13 : decode cL_outputByte 13 = .ok (.iconst 1, 1) := by decide +kernel
theorem dL_outputByte_14 : decode cL_outputByte 14 = .ok (.ireturn, 1) := by decide +kernel
theorem dL_outputByte_15 : decode cL_outputByte 15 = .ok (.iconst 0, 1) := by decide +kernel
theorem dL_outputByte_16 : decode cL_outputByte 16 = .ok (.ireturn, 1) := by decide +kernel
theorem dL_law_0 : decode cL_law 0 = .ok (.new 8, 3) := by decide +kernel
theorem dL_law_3 : decode cL_law 3 = .ok (.dup, 1) := by decide +kernel
theorem dL_law_4 : decode cL_law 4 = .ok (.invokespecial 160, 3) := by decide +kernel
theorem dL_law_7 : decode cL_law 7 = .ok (.astore_n 1, 1) := by decide +kernel
theorem dL_law_8 : decode cL_law 8 = .ok (.new 161, 3) := by decide +kernel
theorem dL_law_11 : decode cL_law 11 = .ok (.dup, 1) := by decide +kernel
theorem dL_law_12 : decode cL_law 12 = .ok (.invokespecial 163, 3) := by decide +kernel
theorem dL_law_15 : decode cL_law 15 = .ok (.astore_n 2, 1) := by decide +kernel
theorem dL_law_16 : decode cL_law 16 = .ok (.iconst 1, 1) := by decide +kernel
theorem dL_law_17 : decode cL_law 17 = .ok (.newarray .long, 2) := by decide +kernel
theorem dL_law_19 : decode cL_law 19 = .ok (.astore_n 3, 1) := by decide +kernel
theorem dL_law_20 : decode cL_law 20 = .ok (.iconst 1, 1) := by decide +kernel
theorem dL_law_21 : decode cL_law 21 = .ok (.newarray .double, 2) := by decide +kernel
theorem dL_law_23 : decode cL_law 23 = .ok (.astore 4, 2) := by decide +kernel
theorem dL_law_25 : decode cL_law 25 = .ok (.iconst 0, 1) := by decide +kernel
theorem dL_law_26 : decode cL_law 26 = .ok (.istore 5, 2) := by decide +kernel
theorem dL_law_28 : decode cL_law 28 = .ok (.iload 5, 2) := by decide +kernel
theorem dL_law_30 : decode cL_law 30 = .ok (.aload_n 0, 1) := by decide +kernel
theorem dL_law_31 : decode cL_law 31 = .ok (.arraylength, 1) := by decide +kernel
theorem dL_law_32 : decode cL_law 32 = .ok (.bipush 6, 2) := by decide +kernel
theorem dL_law_34 : decode cL_law 34 = .ok (.isub, 1) := by decide +kernel
theorem dL_law_35 : decode cL_law 35 = .ok (.if_icmp .gt 3268, 3) := by decide +kernel
theorem dL_law_38 : decode cL_law 38 = .ok (.aload_n 0, 1) := by decide +kernel
theorem dL_law_39 : decode cL_law 39 = .ok (.iload 5, 2) := by decide +kernel
theorem dL_law_41 : decode cL_law 41 = .ok (.iaload, 1) := by decide +kernel
theorem dL_law_42 : decode cL_law 42 = .ok (.bipush 63, 2) := by decide +kernel
theorem dL_law_44 : decode cL_law 44 = .ok (.iand, 1) := by decide +kernel
theorem dL_law_45 : decode cL_law 45 = .ok (.tableswitch 3252 0 58 #[251, 355, 391, 404, 417, 430, 486, 542, 598, 666, 722, 735, 815, 828, 841, 909, 977, 1033, 1089, 1157, 1225, 1293, 1361, 1436, 1504, 1517, 1573, 1641, 1709, 1764, 1777, 1790, 1803, 1816, 1872, 1928, 2005, 2073, 2129, 2197, 2277, 2345, 2413, 2476, 2560, 2616, 2684, 2740, 2753, 2809, 2822, 2878, 2946, 2959, 3027, 3083, 3127, 3140, 3196], 251) := by decide +kernel
theorem dL_law_296 : decode cL_law 296 = .ok (.aload_n 1, 1) := by decide +kernel
theorem dL_law_297 : decode cL_law 297 = .ok (.aload_n 0, 1) := by decide +kernel
theorem dL_law_298 : decode cL_law 298 = .ok (.iload 5, 2) := by decide +kernel
theorem dL_law_300 : decode cL_law 300 = .ok (.iconst 1, 1) := by decide +kernel
theorem dL_law_301 : decode cL_law 301 = .ok (.iadd, 1) := by decide +kernel
theorem dL_law_302 : decode cL_law 302 = .ok (.iaload, 1) := by decide +kernel
theorem dL_law_303 : decode cL_law 303 = .ok (.aload_n 0, 1) := by decide +kernel
theorem dL_law_304 : decode cL_law 304 = .ok (.iload 5, 2) := by decide +kernel
theorem dL_law_306 : decode cL_law 306 = .ok (.iconst 2, 1) := by decide +kernel
theorem dL_law_307 : decode cL_law 307 = .ok (.iadd, 1) := by decide +kernel
theorem dL_law_308 : decode cL_law 308 = .ok (.iaload, 1) := by decide +kernel
theorem dL_law_309 : decode cL_law 309 = .ok (.aload_n 0, 1) := by decide +kernel
theorem dL_law_310 : decode cL_law 310 = .ok (.iload 5, 2) := by decide +kernel
theorem dL_law_312 : decode cL_law 312 = .ok (.iconst 3, 1) := by decide +kernel
theorem dL_law_313 : decode cL_law 313 = .ok (.iadd, 1) := by decide +kernel
theorem dL_law_314 : decode cL_law 314 = .ok (.iaload, 1) := by decide +kernel
theorem dL_law_315 : decode cL_law 315 = .ok (.aload_n 0, 1) := by decide +kernel
theorem dL_law_316 : decode cL_law 316 = .ok (.iload 5, 2) := by decide +kernel
theorem dL_law_318 : decode cL_law 318 = .ok (.iconst 4, 1) := by decide +kernel
theorem dL_law_319 : decode cL_law 319 = .ok (.iadd, 1) := by decide +kernel
theorem dL_law_320 : decode cL_law 320 = .ok (.iaload, 1) := by decide +kernel
theorem dL_law_321 : decode cL_law 321 = .ok (.aload_n 0, 1) := by decide +kernel
theorem dL_law_322 : decode cL_law 322 = .ok (.iload 5, 2) := by decide +kernel
theorem dL_law_324 : decode cL_law 324 = .ok (.iconst 5, 1) := by decide +kernel
theorem dL_law_325 : decode cL_law 325 = .ok (.iadd, 1) := by decide +kernel
theorem dL_law_326 : decode cL_law 326 = .ok (.iaload, 1) := by decide +kernel
theorem dL_law_327 : decode cL_law 327 = .ok (.aload_n 3, 1) := by decide +kernel
theorem dL_law_328 : decode cL_law 328 = .ok (.invokestatic 164, 3) := by decide +kernel
theorem dL_law_331 : decode cL_law 331 = .ok (.istore 6, 2) := by decide +kernel
theorem dL_law_333 : decode cL_law 333 = .ok (.aload_n 2, 1) := by decide +kernel
theorem dL_law_334 : decode cL_law 334 = .ok (.aload_n 0, 1) := by decide +kernel
theorem dL_law_335 : decode cL_law 335 = .ok (.iload 5, 2) := by decide +kernel
theorem dL_law_337 : decode cL_law 337 = .ok (.iconst 1, 1) := by decide +kernel
theorem dL_law_338 : decode cL_law 338 = .ok (.iadd, 1) := by decide +kernel
theorem dL_law_339 : decode cL_law 339 = .ok (.iaload, 1) := by decide +kernel
theorem dL_law_340 : decode cL_law 340 = .ok (.aload_n 0, 1) := by decide +kernel
theorem dL_law_341 : decode cL_law 341 = .ok (.iload 5, 2) := by decide +kernel
theorem dL_law_343 : decode cL_law 343 = .ok (.iconst 2, 1) := by decide +kernel
theorem dL_law_344 : decode cL_law 344 = .ok (.iadd, 1) := by decide +kernel
theorem dL_law_345 : decode cL_law 345 = .ok (.iaload, 1) := by decide +kernel
theorem dL_law_346 : decode cL_law 346 = .ok (.aload_n 0, 1) := by decide +kernel
theorem dL_law_347 : decode cL_law 347 = .ok (.iload 5, 2) := by decide +kernel
theorem dL_law_349 : decode cL_law 349 = .ok (.iconst 3, 1) := by decide +kernel
theorem dL_law_350 : decode cL_law 350 = .ok (.iadd, 1) := by decide +kernel
theorem dL_law_351 : decode cL_law 351 = .ok (.iaload, 1) := by decide +kernel
theorem dL_law_352 : decode cL_law 352 = .ok (.aload_n 0, 1) := by decide +kernel
theorem dL_law_353 : decode cL_law 353 = .ok (.iload 5, 2) := by decide +kernel
theorem dL_law_355 : decode cL_law 355 = .ok (.iconst 4, 1) := by decide +kernel
theorem dL_law_356 : decode cL_law 356 = .ok (.iadd, 1) := by decide +kernel
theorem dL_law_357 : decode cL_law 357 = .ok (.iaload, 1) := by decide +kernel
theorem dL_law_358 : decode cL_law 358 = .ok (.aload_n 0, 1) := by decide +kernel
theorem dL_law_359 : decode cL_law 359 = .ok (.iload 5, 2) := by decide +kernel
theorem dL_law_361 : decode cL_law 361 = .ok (.iconst 5, 1) := by decide +kernel
theorem dL_law_362 : decode cL_law 362 = .ok (.iadd, 1) := by decide +kernel
theorem dL_law_363 : decode cL_law 363 = .ok (.iaload, 1) := by decide +kernel
theorem dL_law_364 : decode cL_law 364 = .ok (.invokevirtual 169, 3) := by decide +kernel
theorem dL_law_367 : decode cL_law 367 = .ok (.istore 7, 2) := by decide +kernel
theorem dL_law_369 : decode cL_law 369 = .ok (.aload_n 2, 1) := by decide +kernel
theorem dL_law_370 : decode cL_law 370 = .ok (.invokevirtual 170, 3) := by decide +kernel
theorem dL_law_373 : decode cL_law 373 = .ok (.iload 6, 2) := by decide +kernel
theorem dL_law_375 : decode cL_law 375 = .ok (.if_icmp .eq 5, 3) := by decide +kernel
theorem dL_law_378 : decode cL_law 378 = .ok (.iconst 0, 1) := by decide +kernel
theorem dL_law_379 : decode cL_law 379 = .ok (.ireturn, 1) := by decide +kernel
theorem dL_law_380 : decode cL_law 380 = .ok (.iload 6, 2) := by decide +kernel
theorem dL_law_382 : decode cL_law 382 = .ok (.ifCond .ne 15, 3) := by decide +kernel
theorem dL_law_385 : decode cL_law 385 = .ok (.aload_n 3, 1) := by decide +kernel
theorem dL_law_386 : decode cL_law 386 = .ok (.iconst 0, 1) := by decide +kernel
theorem dL_law_387 : decode cL_law 387 = .ok (.laload, 1) := by decide +kernel
theorem dL_law_388 : decode cL_law 388 = .ok (.iload 7, 2) := by decide +kernel
theorem dL_law_390 : decode cL_law 390 = .ok (.i2l, 1) := by decide +kernel
theorem dL_law_391 : decode cL_law 391 = .ok (.lcmp, 1) := by decide +kernel
theorem dL_law_392 : decode cL_law 392 = .ok (.ifCond .eq 5, 3) := by decide +kernel
theorem dL_law_395 : decode cL_law 395 = .ok (.iconst 0, 1) := by decide +kernel
theorem dL_law_396 : decode cL_law 396 = .ok (.ireturn, 1) := by decide +kernel
theorem dL_law_397 : decode cL_law 397 = .ok (.goto 2900, 3) := by decide +kernel
theorem dL_law_400 : decode cL_law 400 = .ok (.aload_n 1, 1) := by decide +kernel
theorem dL_law_401 : decode cL_law 401 = .ok (.aload_n 0, 1) := by decide +kernel
theorem dL_law_402 : decode cL_law 402 = .ok (.iload 5, 2) := by decide +kernel
theorem dL_law_404 : decode cL_law 404 = .ok (.iconst 1, 1) := by decide +kernel
theorem dL_law_405 : decode cL_law 405 = .ok (.iadd, 1) := by decide +kernel
theorem dL_law_406 : decode cL_law 406 = .ok (.iaload, 1) := by decide +kernel
theorem dL_law_407 : decode cL_law 407 = .ok (.invokestatic 173, 3) := by decide +kernel
theorem dL_law_410 : decode cL_law 410 = .ok (.istore 6, 2) := by decide +kernel
theorem dL_law_412 : decode cL_law 412 = .ok (.aload_n 2, 1) := by decide +kernel
theorem dL_law_413 : decode cL_law 413 = .ok (.aload_n 0, 1) := by decide +kernel
theorem dL_law_414 : decode cL_law 414 = .ok (.iload 5, 2) := by decide +kernel
theorem dL_law_416 : decode cL_law 416 = .ok (.iconst 1, 1) := by decide +kernel
theorem dL_law_417 : decode cL_law 417 = .ok (.iadd, 1) := by decide +kernel
theorem dL_law_418 : decode cL_law 418 = .ok (.iaload, 1) := by decide +kernel
theorem dL_law_419 : decode cL_law 419 = .ok (.invokevirtual 176, 3) := by decide +kernel
theorem dL_law_422 : decode cL_law 422 = .ok (.aload_n 2, 1) := by decide +kernel
theorem dL_law_423 : decode cL_law 423 = .ok (.invokevirtual 170, 3) := by decide +kernel
theorem dL_law_426 : decode cL_law 426 = .ok (.iload 6, 2) := by decide +kernel
theorem dL_law_428 : decode cL_law 428 = .ok (.if_icmp .eq 5, 3) := by decide +kernel
theorem dL_law_431 : decode cL_law 431 = .ok (.iconst 0, 1) := by decide +kernel
theorem dL_law_432 : decode cL_law 432 = .ok (.ireturn, 1) := by decide +kernel
theorem dL_law_433 : decode cL_law 433 = .ok (.goto 2864, 3) := by decide +kernel
theorem dL_law_436 : decode cL_law 436 = .ok (.aload_n 1, 1) := by decide +kernel
theorem dL_law_437 : decode cL_law 437 = .ok (.invokevirtual 177, 3) := by decide +kernel
theorem dL_law_440 : decode cL_law 440 = .ok (.aload_n 2, 1) := by decide +kernel
theorem dL_law_441 : decode cL_law 441 = .ok (.invokevirtual 180, 3) := by decide +kernel
theorem dL_law_444 : decode cL_law 444 = .ok (.if_icmp .eq 2853, 3) := by decide +kernel
theorem dL_law_447 : decode cL_law 447 = .ok (.iconst 0, 1) := by decide +kernel
theorem dL_law_448 : decode cL_law 448 = .ok (.ireturn, 1) := by decide +kernel
theorem dL_law_449 : decode cL_law 449 = .ok (.aload_n 1, 1) := by decide +kernel
theorem dL_law_450 : decode cL_law 450 = .ok (.invokevirtual 181, 3) := by decide +kernel
theorem dL_law_453 : decode cL_law 453 = .ok (.aload_n 2, 1) := by decide +kernel
theorem dL_law_454 : decode cL_law 454 = .ok (.invokevirtual 184, 3) := by decide +kernel
theorem dL_law_457 : decode cL_law 457 = .ok (.if_icmp .eq 2840, 3) := by decide +kernel
theorem dL_law_460 : decode cL_law 460 = .ok (.iconst 0, 1) := by decide +kernel
theorem dL_law_461 : decode cL_law 461 = .ok (.ireturn, 1) := by decide +kernel
theorem dL_law_462 : decode cL_law 462 = .ok (.aload_n 1, 1) := by decide +kernel
theorem dL_law_463 : decode cL_law 463 = .ok (.invokevirtual 185, 3) := by decide +kernel
theorem dL_law_466 : decode cL_law 466 = .ok (.aload_n 2, 1) := by decide +kernel
theorem dL_law_467 : decode cL_law 467 = .ok (.invokevirtual 188, 3) := by decide +kernel
theorem dL_law_470 : decode cL_law 470 = .ok (.if_icmp .eq 2827, 3) := by decide +kernel
theorem dL_law_473 : decode cL_law 473 = .ok (.iconst 0, 1) := by decide +kernel
theorem dL_law_474 : decode cL_law 474 = .ok (.ireturn, 1) := by decide +kernel
theorem dL_law_475 : decode cL_law 475 = .ok (.aload_n 1, 1) := by decide +kernel
theorem dL_law_476 : decode cL_law 476 = .ok (.aload_n 0, 1) := by decide +kernel
theorem dL_law_477 : decode cL_law 477 = .ok (.iload 5, 2) := by decide +kernel
theorem dL_law_479 : decode cL_law 479 = .ok (.iconst 1, 1) := by decide +kernel
theorem dL_law_480 : decode cL_law 480 = .ok (.iadd, 1) := by decide +kernel
theorem dL_law_481 : decode cL_law 481 = .ok (.iaload, 1) := by decide +kernel
theorem dL_law_482 : decode cL_law 482 = .ok (.aload_n 3, 1) := by decide +kernel
theorem dL_law_483 : decode cL_law 483 = .ok (.invokestatic 189, 3) := by decide +kernel
theorem dL_law_486 : decode cL_law 486 = .ok (.istore 6, 2) := by decide +kernel
theorem dL_law_488 : decode cL_law 488 = .ok (.aload_n 2, 1) := by decide +kernel
theorem dL_law_489 : decode cL_law 489 = .ok (.aload_n 0, 1) := by decide +kernel
theorem dL_law_490 : decode cL_law 490 = .ok (.iload 5, 2) := by decide +kernel
theorem dL_law_492 : decode cL_law 492 = .ok (.iconst 1, 1) := by decide +kernel
theorem dL_law_493 : decode cL_law 493 = .ok (.iadd, 1) := by decide +kernel
theorem dL_law_494 : decode cL_law 494 = .ok (.iaload, 1) := by decide +kernel
theorem dL_law_495 : decode cL_law 495 = .ok (.invokevirtual 192, 3) := by decide +kernel
theorem dL_law_498 : decode cL_law 498 = .ok (.istore 7, 2) := by decide +kernel
theorem dL_law_500 : decode cL_law 500 = .ok (.aload_n 2, 1) := by decide +kernel
theorem dL_law_501 : decode cL_law 501 = .ok (.invokevirtual 170, 3) := by decide +kernel
theorem dL_law_504 : decode cL_law 504 = .ok (.iload 6, 2) := by decide +kernel
theorem dL_law_506 : decode cL_law 506 = .ok (.if_icmp .eq 5, 3) := by decide +kernel
theorem dL_law_509 : decode cL_law 509 = .ok (.iconst 0, 1) := by decide +kernel
theorem dL_law_510 : decode cL_law 510 = .ok (.ireturn, 1) := by decide +kernel
theorem dL_law_511 : decode cL_law 511 = .ok (.iload 6, 2) := by decide +kernel
theorem dL_law_513 : decode cL_law 513 = .ok (.ifCond .ne 15, 3) := by decide +kernel
theorem dL_law_516 : decode cL_law 516 = .ok (.aload_n 3, 1) := by decide +kernel
theorem dL_law_517 : decode cL_law 517 = .ok (.iconst 0, 1) := by decide +kernel
theorem dL_law_518 : decode cL_law 518 = .ok (.laload, 1) := by decide +kernel
theorem dL_law_519 : decode cL_law 519 = .ok (.iload 7, 2) := by decide +kernel
theorem dL_law_521 : decode cL_law 521 = .ok (.i2l, 1) := by decide +kernel
theorem dL_law_522 : decode cL_law 522 = .ok (.lcmp, 1) := by decide +kernel
theorem dL_law_523 : decode cL_law 523 = .ok (.ifCond .eq 5, 3) := by decide +kernel
theorem dL_law_526 : decode cL_law 526 = .ok (.iconst 0, 1) := by decide +kernel
theorem dL_law_527 : decode cL_law 527 = .ok (.ireturn, 1) := by decide +kernel
theorem dL_law_528 : decode cL_law 528 = .ok (.goto 2769, 3) := by decide +kernel
theorem dL_law_531 : decode cL_law 531 = .ok (.aload_n 1, 1) := by decide +kernel
theorem dL_law_532 : decode cL_law 532 = .ok (.aload_n 0, 1) := by decide +kernel
theorem dL_law_533 : decode cL_law 533 = .ok (.iload 5, 2) := by decide +kernel
theorem dL_law_535 : decode cL_law 535 = .ok (.iconst 1, 1) := by decide +kernel
theorem dL_law_536 : decode cL_law 536 = .ok (.iadd, 1) := by decide +kernel
theorem dL_law_537 : decode cL_law 537 = .ok (.iaload, 1) := by decide +kernel
theorem dL_law_538 : decode cL_law 538 = .ok (.aload_n 3, 1) := by decide +kernel
theorem dL_law_539 : decode cL_law 539 = .ok (.invokestatic 193, 3) := by decide +kernel
theorem dL_law_542 : decode cL_law 542 = .ok (.istore 6, 2) := by decide +kernel
theorem dL_law_544 : decode cL_law 544 = .ok (.aload_n 2, 1) := by decide +kernel
theorem dL_law_545 : decode cL_law 545 = .ok (.aload_n 0, 1) := by decide +kernel
theorem dL_law_546 : decode cL_law 546 = .ok (.iload 5, 2) := by decide +kernel
theorem dL_law_548 : decode cL_law 548 = .ok (.iconst 1, 1) := by decide +kernel
theorem dL_law_549 : decode cL_law 549 = .ok (.iadd, 1) := by decide +kernel
theorem dL_law_550 : decode cL_law 550 = .ok (.iaload, 1) := by decide +kernel
theorem dL_law_551 : decode cL_law 551 = .ok (.invokevirtual 195, 3) := by decide +kernel
theorem dL_law_554 : decode cL_law 554 = .ok (.istore 7, 2) := by decide +kernel
theorem dL_law_556 : decode cL_law 556 = .ok (.aload_n 2, 1) := by decide +kernel
theorem dL_law_557 : decode cL_law 557 = .ok (.invokevirtual 170, 3) := by decide +kernel
theorem dL_law_560 : decode cL_law 560 = .ok (.iload 6, 2) := by decide +kernel
theorem dL_law_562 : decode cL_law 562 = .ok (.if_icmp .eq 5, 3) := by decide +kernel
theorem dL_law_565 : decode cL_law 565 = .ok (.iconst 0, 1) := by decide +kernel
theorem dL_law_566 : decode cL_law 566 = .ok (.ireturn, 1) := by decide +kernel
theorem dL_law_567 : decode cL_law 567 = .ok (.iload 6, 2) := by decide +kernel
theorem dL_law_569 : decode cL_law 569 = .ok (.ifCond .ne 15, 3) := by decide +kernel
theorem dL_law_572 : decode cL_law 572 = .ok (.aload_n 3, 1) := by decide +kernel
theorem dL_law_573 : decode cL_law 573 = .ok (.iconst 0, 1) := by decide +kernel
theorem dL_law_574 : decode cL_law 574 = .ok (.laload, 1) := by decide +kernel
theorem dL_law_575 : decode cL_law 575 = .ok (.iload 7, 2) := by decide +kernel
theorem dL_law_577 : decode cL_law 577 = .ok (.i2l, 1) := by decide +kernel
theorem dL_law_578 : decode cL_law 578 = .ok (.lcmp, 1) := by decide +kernel
theorem dL_law_579 : decode cL_law 579 = .ok (.ifCond .eq 5, 3) := by decide +kernel
theorem dL_law_582 : decode cL_law 582 = .ok (.iconst 0, 1) := by decide +kernel
theorem dL_law_583 : decode cL_law 583 = .ok (.ireturn, 1) := by decide +kernel
theorem dL_law_584 : decode cL_law 584 = .ok (.goto 2713, 3) := by decide +kernel
theorem dL_law_587 : decode cL_law 587 = .ok (.aload_n 1, 1) := by decide +kernel
theorem dL_law_588 : decode cL_law 588 = .ok (.aload_n 0, 1) := by decide +kernel
theorem dL_law_589 : decode cL_law 589 = .ok (.iload 5, 2) := by decide +kernel
theorem dL_law_591 : decode cL_law 591 = .ok (.iconst 1, 1) := by decide +kernel
theorem dL_law_592 : decode cL_law 592 = .ok (.iadd, 1) := by decide +kernel
theorem dL_law_593 : decode cL_law 593 = .ok (.iaload, 1) := by decide +kernel
theorem dL_law_594 : decode cL_law 594 = .ok (.aload_n 3, 1) := by decide +kernel
theorem dL_law_595 : decode cL_law 595 = .ok (.invokestatic 196, 3) := by decide +kernel
theorem dL_law_598 : decode cL_law 598 = .ok (.istore 6, 2) := by decide +kernel
theorem dL_law_600 : decode cL_law 600 = .ok (.aload_n 2, 1) := by decide +kernel
theorem dL_law_601 : decode cL_law 601 = .ok (.aload_n 0, 1) := by decide +kernel
theorem dL_law_602 : decode cL_law 602 = .ok (.iload 5, 2) := by decide +kernel
theorem dL_law_604 : decode cL_law 604 = .ok (.iconst 1, 1) := by decide +kernel
theorem dL_law_605 : decode cL_law 605 = .ok (.iadd, 1) := by decide +kernel
theorem dL_law_606 : decode cL_law 606 = .ok (.iaload, 1) := by decide +kernel
theorem dL_law_607 : decode cL_law 607 = .ok (.invokevirtual 198, 3) := by decide +kernel
theorem dL_law_610 : decode cL_law 610 = .ok (.istore 7, 2) := by decide +kernel
theorem dL_law_612 : decode cL_law 612 = .ok (.aload_n 2, 1) := by decide +kernel
theorem dL_law_613 : decode cL_law 613 = .ok (.invokevirtual 170, 3) := by decide +kernel
theorem dL_law_616 : decode cL_law 616 = .ok (.iload 6, 2) := by decide +kernel
theorem dL_law_618 : decode cL_law 618 = .ok (.if_icmp .eq 5, 3) := by decide +kernel
theorem dL_law_621 : decode cL_law 621 = .ok (.iconst 0, 1) := by decide +kernel
theorem dL_law_622 : decode cL_law 622 = .ok (.ireturn, 1) := by decide +kernel
theorem dL_law_623 : decode cL_law 623 = .ok (.iload 6, 2) := by decide +kernel
theorem dL_law_625 : decode cL_law 625 = .ok (.ifCond .ne 15, 3) := by decide +kernel
theorem dL_law_628 : decode cL_law 628 = .ok (.aload_n 3, 1) := by decide +kernel
theorem dL_law_629 : decode cL_law 629 = .ok (.iconst 0, 1) := by decide +kernel
theorem dL_law_630 : decode cL_law 630 = .ok (.laload, 1) := by decide +kernel
theorem dL_law_631 : decode cL_law 631 = .ok (.iload 7, 2) := by decide +kernel
theorem dL_law_633 : decode cL_law 633 = .ok (.i2l, 1) := by decide +kernel
theorem dL_law_634 : decode cL_law 634 = .ok (.lcmp, 1) := by decide +kernel
theorem dL_law_635 : decode cL_law 635 = .ok (.ifCond .eq 5, 3) := by decide +kernel
theorem dL_law_638 : decode cL_law 638 = .ok (.iconst 0, 1) := by decide +kernel
theorem dL_law_639 : decode cL_law 639 = .ok (.ireturn, 1) := by decide +kernel
theorem dL_law_640 : decode cL_law 640 = .ok (.goto 2657, 3) := by decide +kernel
theorem dL_law_643 : decode cL_law 643 = .ok (.aload_n 1, 1) := by decide +kernel
theorem dL_law_644 : decode cL_law 644 = .ok (.aload_n 0, 1) := by decide +kernel
theorem dL_law_645 : decode cL_law 645 = .ok (.iload 5, 2) := by decide +kernel
theorem dL_law_647 : decode cL_law 647 = .ok (.iconst 1, 1) := by decide +kernel
theorem dL_law_648 : decode cL_law 648 = .ok (.iadd, 1) := by decide +kernel
theorem dL_law_649 : decode cL_law 649 = .ok (.iaload, 1) := by decide +kernel
theorem dL_law_650 : decode cL_law 650 = .ok (.aload_n 0, 1) := by decide +kernel
theorem dL_law_651 : decode cL_law 651 = .ok (.iload 5, 2) := by decide +kernel
theorem dL_law_653 : decode cL_law 653 = .ok (.iconst 2, 1) := by decide +kernel
theorem dL_law_654 : decode cL_law 654 = .ok (.iadd, 1) := by decide +kernel
theorem dL_law_655 : decode cL_law 655 = .ok (.iaload, 1) := by decide +kernel
theorem dL_law_656 : decode cL_law 656 = .ok (.aload_n 3, 1) := by decide +kernel
theorem dL_law_657 : decode cL_law 657 = .ok (.invokestatic 199, 3) := by decide +kernel
theorem dL_law_660 : decode cL_law 660 = .ok (.istore 6, 2) := by decide +kernel
theorem dL_law_662 : decode cL_law 662 = .ok (.aload_n 2, 1) := by decide +kernel
theorem dL_law_663 : decode cL_law 663 = .ok (.aload_n 0, 1) := by decide +kernel
theorem dL_law_664 : decode cL_law 664 = .ok (.iload 5, 2) := by decide +kernel
theorem dL_law_666 : decode cL_law 666 = .ok (.iconst 1, 1) := by decide +kernel
theorem dL_law_667 : decode cL_law 667 = .ok (.iadd, 1) := by decide +kernel
theorem dL_law_668 : decode cL_law 668 = .ok (.iaload, 1) := by decide +kernel
theorem dL_law_669 : decode cL_law 669 = .ok (.aload_n 0, 1) := by decide +kernel
theorem dL_law_670 : decode cL_law 670 = .ok (.iload 5, 2) := by decide +kernel
theorem dL_law_672 : decode cL_law 672 = .ok (.iconst 2, 1) := by decide +kernel
theorem dL_law_673 : decode cL_law 673 = .ok (.iadd, 1) := by decide +kernel
theorem dL_law_674 : decode cL_law 674 = .ok (.iaload, 1) := by decide +kernel
theorem dL_law_675 : decode cL_law 675 = .ok (.invokevirtual 202, 3) := by decide +kernel
theorem dL_law_678 : decode cL_law 678 = .ok (.istore 7, 2) := by decide +kernel
theorem dL_law_680 : decode cL_law 680 = .ok (.aload_n 2, 1) := by decide +kernel
theorem dL_law_681 : decode cL_law 681 = .ok (.invokevirtual 170, 3) := by decide +kernel
theorem dL_law_684 : decode cL_law 684 = .ok (.iload 6, 2) := by decide +kernel
theorem dL_law_686 : decode cL_law 686 = .ok (.if_icmp .eq 5, 3) := by decide +kernel
theorem dL_law_689 : decode cL_law 689 = .ok (.iconst 0, 1) := by decide +kernel
theorem dL_law_690 : decode cL_law 690 = .ok (.ireturn, 1) := by decide +kernel
theorem dL_law_691 : decode cL_law 691 = .ok (.iload 6, 2) := by decide +kernel
theorem dL_law_693 : decode cL_law 693 = .ok (.ifCond .ne 15, 3) := by decide +kernel
theorem dL_law_696 : decode cL_law 696 = .ok (.aload_n 3, 1) := by decide +kernel
theorem dL_law_697 : decode cL_law 697 = .ok (.iconst 0, 1) := by decide +kernel
theorem dL_law_698 : decode cL_law 698 = .ok (.laload, 1) := by decide +kernel
theorem dL_law_699 : decode cL_law 699 = .ok (.iload 7, 2) := by decide +kernel
theorem dL_law_701 : decode cL_law 701 = .ok (.i2l, 1) := by decide +kernel
theorem dL_law_702 : decode cL_law 702 = .ok (.lcmp, 1) := by decide +kernel
theorem dL_law_703 : decode cL_law 703 = .ok (.ifCond .eq 5, 3) := by decide +kernel
theorem dL_law_706 : decode cL_law 706 = .ok (.iconst 0, 1) := by decide +kernel
theorem dL_law_707 : decode cL_law 707 = .ok (.ireturn, 1) := by decide +kernel
theorem dL_law_708 : decode cL_law 708 = .ok (.goto 2589, 3) := by decide +kernel
theorem dL_law_711 : decode cL_law 711 = .ok (.aload_n 1, 1) := by decide +kernel
theorem dL_law_712 : decode cL_law 712 = .ok (.aload_n 0, 1) := by decide +kernel
theorem dL_law_713 : decode cL_law 713 = .ok (.iload 5, 2) := by decide +kernel
theorem dL_law_715 : decode cL_law 715 = .ok (.iconst 1, 1) := by decide +kernel
theorem dL_law_716 : decode cL_law 716 = .ok (.iadd, 1) := by decide +kernel
theorem dL_law_717 : decode cL_law 717 = .ok (.iaload, 1) := by decide +kernel
theorem dL_law_718 : decode cL_law 718 = .ok (.aload_n 3, 1) := by decide +kernel
theorem dL_law_719 : decode cL_law 719 = .ok (.invokestatic 203, 3) := by decide +kernel
theorem dL_law_722 : decode cL_law 722 = .ok (.istore 6, 2) := by decide +kernel
theorem dL_law_724 : decode cL_law 724 = .ok (.aload_n 2, 1) := by decide +kernel
theorem dL_law_725 : decode cL_law 725 = .ok (.aload_n 0, 1) := by decide +kernel
theorem dL_law_726 : decode cL_law 726 = .ok (.iload 5, 2) := by decide +kernel
theorem dL_law_728 : decode cL_law 728 = .ok (.iconst 1, 1) := by decide +kernel
theorem dL_law_729 : decode cL_law 729 = .ok (.iadd, 1) := by decide +kernel
theorem dL_law_730 : decode cL_law 730 = .ok (.iaload, 1) := by decide +kernel
theorem dL_law_731 : decode cL_law 731 = .ok (.invokevirtual 205, 3) := by decide +kernel
theorem dL_law_734 : decode cL_law 734 = .ok (.istore 7, 2) := by decide +kernel
theorem dL_law_736 : decode cL_law 736 = .ok (.aload_n 2, 1) := by decide +kernel
theorem dL_law_737 : decode cL_law 737 = .ok (.invokevirtual 170, 3) := by decide +kernel
theorem dL_law_740 : decode cL_law 740 = .ok (.iload 6, 2) := by decide +kernel
theorem dL_law_742 : decode cL_law 742 = .ok (.if_icmp .eq 5, 3) := by decide +kernel
theorem dL_law_745 : decode cL_law 745 = .ok (.iconst 0, 1) := by decide +kernel
theorem dL_law_746 : decode cL_law 746 = .ok (.ireturn, 1) := by decide +kernel
theorem dL_law_747 : decode cL_law 747 = .ok (.iload 6, 2) := by decide +kernel
theorem dL_law_749 : decode cL_law 749 = .ok (.ifCond .ne 15, 3) := by decide +kernel
theorem dL_law_752 : decode cL_law 752 = .ok (.aload_n 3, 1) := by decide +kernel
theorem dL_law_753 : decode cL_law 753 = .ok (.iconst 0, 1) := by decide +kernel
theorem dL_law_754 : decode cL_law 754 = .ok (.laload, 1) := by decide +kernel
theorem dL_law_755 : decode cL_law 755 = .ok (.iload 7, 2) := by decide +kernel
theorem dL_law_757 : decode cL_law 757 = .ok (.i2l, 1) := by decide +kernel
theorem dL_law_758 : decode cL_law 758 = .ok (.lcmp, 1) := by decide +kernel
theorem dL_law_759 : decode cL_law 759 = .ok (.ifCond .eq 5, 3) := by decide +kernel
theorem dL_law_762 : decode cL_law 762 = .ok (.iconst 0, 1) := by decide +kernel
theorem dL_law_763 : decode cL_law 763 = .ok (.ireturn, 1) := by decide +kernel
theorem dL_law_764 : decode cL_law 764 = .ok (.goto 2533, 3) := by decide +kernel
theorem dL_law_767 : decode cL_law 767 = .ok (.aload_n 1, 1) := by decide +kernel
theorem dL_law_768 : decode cL_law 768 = .ok (.invokevirtual 206, 3) := by decide +kernel
theorem dL_law_771 : decode cL_law 771 = .ok (.aload_n 2, 1) := by decide +kernel
theorem dL_law_772 : decode cL_law 772 = .ok (.invokevirtual 209, 3) := by decide +kernel
theorem dL_law_775 : decode cL_law 775 = .ok (.if_icmp .eq 2522, 3) := by decide +kernel
theorem dL_law_778 : decode cL_law 778 = .ok (.iconst 0, 1) := by decide +kernel
theorem dL_law_779 : decode cL_law 779 = .ok (.ireturn, 1) := by decide +kernel
theorem dL_law_780 : decode cL_law 780 = .ok (.aload_n 1, 1) := by decide +kernel
theorem dL_law_781 : decode cL_law 781 = .ok (.aload_n 0, 1) := by decide +kernel
theorem dL_law_782 : decode cL_law 782 = .ok (.iload 5, 2) := by decide +kernel
theorem dL_law_784 : decode cL_law 784 = .ok (.iconst 1, 1) := by decide +kernel
theorem dL_law_785 : decode cL_law 785 = .ok (.iadd, 1) := by decide +kernel
theorem dL_law_786 : decode cL_law 786 = .ok (.iaload, 1) := by decide +kernel
theorem dL_law_787 : decode cL_law 787 = .ok (.aload_n 0, 1) := by decide +kernel
theorem dL_law_788 : decode cL_law 788 = .ok (.iload 5, 2) := by decide +kernel
theorem dL_law_790 : decode cL_law 790 = .ok (.iconst 2, 1) := by decide +kernel
theorem dL_law_791 : decode cL_law 791 = .ok (.iadd, 1) := by decide +kernel
theorem dL_law_792 : decode cL_law 792 = .ok (.iaload, 1) := by decide +kernel
theorem dL_law_793 : decode cL_law 793 = .ok (.aload_n 0, 1) := by decide +kernel
theorem dL_law_794 : decode cL_law 794 = .ok (.iload 5, 2) := by decide +kernel
theorem dL_law_796 : decode cL_law 796 = .ok (.iconst 3, 1) := by decide +kernel
theorem dL_law_797 : decode cL_law 797 = .ok (.iadd, 1) := by decide +kernel
theorem dL_law_798 : decode cL_law 798 = .ok (.iaload, 1) := by decide +kernel
theorem dL_law_799 : decode cL_law 799 = .ok (.aload_n 3, 1) := by decide +kernel
theorem dL_law_800 : decode cL_law 800 = .ok (.invokestatic 210, 3) := by decide +kernel
theorem dL_law_803 : decode cL_law 803 = .ok (.istore 6, 2) := by decide +kernel
theorem dL_law_805 : decode cL_law 805 = .ok (.aload_n 2, 1) := by decide +kernel
theorem dL_law_806 : decode cL_law 806 = .ok (.aload_n 0, 1) := by decide +kernel
theorem dL_law_807 : decode cL_law 807 = .ok (.iload 5, 2) := by decide +kernel
theorem dL_law_809 : decode cL_law 809 = .ok (.iconst 1, 1) := by decide +kernel
theorem dL_law_810 : decode cL_law 810 = .ok (.iadd, 1) := by decide +kernel
theorem dL_law_811 : decode cL_law 811 = .ok (.iaload, 1) := by decide +kernel
theorem dL_law_812 : decode cL_law 812 = .ok (.aload_n 0, 1) := by decide +kernel
theorem dL_law_813 : decode cL_law 813 = .ok (.iload 5, 2) := by decide +kernel
theorem dL_law_815 : decode cL_law 815 = .ok (.iconst 2, 1) := by decide +kernel
theorem dL_law_816 : decode cL_law 816 = .ok (.iadd, 1) := by decide +kernel
theorem dL_law_817 : decode cL_law 817 = .ok (.iaload, 1) := by decide +kernel
theorem dL_law_818 : decode cL_law 818 = .ok (.aload_n 0, 1) := by decide +kernel
theorem dL_law_819 : decode cL_law 819 = .ok (.iload 5, 2) := by decide +kernel
theorem dL_law_821 : decode cL_law 821 = .ok (.iconst 3, 1) := by decide +kernel
theorem dL_law_822 : decode cL_law 822 = .ok (.iadd, 1) := by decide +kernel
theorem dL_law_823 : decode cL_law 823 = .ok (.iaload, 1) := by decide +kernel
theorem dL_law_824 : decode cL_law 824 = .ok (.invokevirtual 213, 3) := by decide +kernel
theorem dL_law_827 : decode cL_law 827 = .ok (.istore 7, 2) := by decide +kernel
theorem dL_law_829 : decode cL_law 829 = .ok (.aload_n 2, 1) := by decide +kernel
theorem dL_law_830 : decode cL_law 830 = .ok (.invokevirtual 170, 3) := by decide +kernel
theorem dL_law_833 : decode cL_law 833 = .ok (.iload 6, 2) := by decide +kernel
theorem dL_law_835 : decode cL_law 835 = .ok (.if_icmp .eq 5, 3) := by decide +kernel
theorem dL_law_838 : decode cL_law 838 = .ok (.iconst 0, 1) := by decide +kernel
theorem dL_law_839 : decode cL_law 839 = .ok (.ireturn, 1) := by decide +kernel
theorem dL_law_840 : decode cL_law 840 = .ok (.iload 6, 2) := by decide +kernel
theorem dL_law_842 : decode cL_law 842 = .ok (.ifCond .ne 15, 3) := by decide +kernel
theorem dL_law_845 : decode cL_law 845 = .ok (.aload_n 3, 1) := by decide +kernel
theorem dL_law_846 : decode cL_law 846 = .ok (.iconst 0, 1) := by decide +kernel
theorem dL_law_847 : decode cL_law 847 = .ok (.laload, 1) := by decide +kernel
theorem dL_law_848 : decode cL_law 848 = .ok (.iload 7, 2) := by decide +kernel
theorem dL_law_850 : decode cL_law 850 = .ok (.i2l, 1) := by decide +kernel
theorem dL_law_851 : decode cL_law 851 = .ok (.lcmp, 1) := by decide +kernel
theorem dL_law_852 : decode cL_law 852 = .ok (.ifCond .eq 5, 3) := by decide +kernel
theorem dL_law_855 : decode cL_law 855 = .ok (.iconst 0, 1) := by decide +kernel
theorem dL_law_856 : decode cL_law 856 = .ok (.ireturn, 1) := by decide +kernel
theorem dL_law_857 : decode cL_law 857 = .ok (.goto 2440, 3) := by decide +kernel
theorem dL_law_860 : decode cL_law 860 = .ok (.aload_n 1, 1) := by decide +kernel
theorem dL_law_861 : decode cL_law 861 = .ok (.invokevirtual 214, 3) := by decide +kernel
theorem dL_law_864 : decode cL_law 864 = .ok (.aload_n 2, 1) := by decide +kernel
theorem dL_law_865 : decode cL_law 865 = .ok (.invokevirtual 217, 3) := by decide +kernel
theorem dL_law_868 : decode cL_law 868 = .ok (.if_icmp .eq 2429, 3) := by decide +kernel
theorem dL_law_871 : decode cL_law 871 = .ok (.iconst 0, 1) := by decide +kernel
theorem dL_law_872 : decode cL_law 872 = .ok (.ireturn, 1) := by decide +kernel
theorem dL_law_873 : decode cL_law 873 = .ok (.aload_n 1, 1) := by decide +kernel
theorem dL_law_874 : decode cL_law 874 = .ok (.invokevirtual 218, 3) := by decide +kernel
theorem dL_law_877 : decode cL_law 877 = .ok (.aload_n 2, 1) := by decide +kernel
theorem dL_law_878 : decode cL_law 878 = .ok (.invokevirtual 221, 3) := by decide +kernel
theorem dL_law_881 : decode cL_law 881 = .ok (.if_icmp .eq 2416, 3) := by decide +kernel
theorem dL_law_884 : decode cL_law 884 = .ok (.iconst 0, 1) := by decide +kernel
theorem dL_law_885 : decode cL_law 885 = .ok (.ireturn, 1) := by decide +kernel
theorem dL_law_886 : decode cL_law 886 = .ok (.aload_n 1, 1) := by decide +kernel
theorem dL_law_887 : decode cL_law 887 = .ok (.aload_n 0, 1) := by decide +kernel
theorem dL_law_888 : decode cL_law 888 = .ok (.iload 5, 2) := by decide +kernel
theorem dL_law_890 : decode cL_law 890 = .ok (.iconst 1, 1) := by decide +kernel
theorem dL_law_891 : decode cL_law 891 = .ok (.iadd, 1) := by decide +kernel
theorem dL_law_892 : decode cL_law 892 = .ok (.iaload, 1) := by decide +kernel
theorem dL_law_893 : decode cL_law 893 = .ok (.aload_n 0, 1) := by decide +kernel
theorem dL_law_894 : decode cL_law 894 = .ok (.iload 5, 2) := by decide +kernel
theorem dL_law_896 : decode cL_law 896 = .ok (.iconst 2, 1) := by decide +kernel
theorem dL_law_897 : decode cL_law 897 = .ok (.iadd, 1) := by decide +kernel
theorem dL_law_898 : decode cL_law 898 = .ok (.iaload, 1) := by decide +kernel
theorem dL_law_899 : decode cL_law 899 = .ok (.aload_n 3, 1) := by decide +kernel
theorem dL_law_900 : decode cL_law 900 = .ok (.invokestatic 222, 3) := by decide +kernel
theorem dL_law_903 : decode cL_law 903 = .ok (.istore 6, 2) := by decide +kernel
theorem dL_law_905 : decode cL_law 905 = .ok (.aload_n 2, 1) := by decide +kernel
theorem dL_law_906 : decode cL_law 906 = .ok (.aload_n 0, 1) := by decide +kernel
theorem dL_law_907 : decode cL_law 907 = .ok (.iload 5, 2) := by decide +kernel
theorem dL_law_909 : decode cL_law 909 = .ok (.iconst 1, 1) := by decide +kernel
theorem dL_law_910 : decode cL_law 910 = .ok (.iadd, 1) := by decide +kernel
theorem dL_law_911 : decode cL_law 911 = .ok (.iaload, 1) := by decide +kernel
theorem dL_law_912 : decode cL_law 912 = .ok (.aload_n 0, 1) := by decide +kernel
theorem dL_law_913 : decode cL_law 913 = .ok (.iload 5, 2) := by decide +kernel
theorem dL_law_915 : decode cL_law 915 = .ok (.iconst 2, 1) := by decide +kernel
theorem dL_law_916 : decode cL_law 916 = .ok (.iadd, 1) := by decide +kernel
theorem dL_law_917 : decode cL_law 917 = .ok (.iaload, 1) := by decide +kernel
theorem dL_law_918 : decode cL_law 918 = .ok (.invokevirtual 224, 3) := by decide +kernel
theorem dL_law_921 : decode cL_law 921 = .ok (.istore 7, 2) := by decide +kernel
theorem dL_law_923 : decode cL_law 923 = .ok (.aload_n 2, 1) := by decide +kernel
theorem dL_law_924 : decode cL_law 924 = .ok (.invokevirtual 170, 3) := by decide +kernel
theorem dL_law_927 : decode cL_law 927 = .ok (.iload 6, 2) := by decide +kernel
theorem dL_law_929 : decode cL_law 929 = .ok (.if_icmp .eq 5, 3) := by decide +kernel
theorem dL_law_932 : decode cL_law 932 = .ok (.iconst 0, 1) := by decide +kernel
theorem dL_law_933 : decode cL_law 933 = .ok (.ireturn, 1) := by decide +kernel
theorem dL_law_934 : decode cL_law 934 = .ok (.iload 6, 2) := by decide +kernel
theorem dL_law_936 : decode cL_law 936 = .ok (.ifCond .ne 15, 3) := by decide +kernel
theorem dL_law_939 : decode cL_law 939 = .ok (.aload_n 3, 1) := by decide +kernel
theorem dL_law_940 : decode cL_law 940 = .ok (.iconst 0, 1) := by decide +kernel
theorem dL_law_941 : decode cL_law 941 = .ok (.laload, 1) := by decide +kernel
theorem dL_law_942 : decode cL_law 942 = .ok (.iload 7, 2) := by decide +kernel
theorem dL_law_944 : decode cL_law 944 = .ok (.i2l, 1) := by decide +kernel
theorem dL_law_945 : decode cL_law 945 = .ok (.lcmp, 1) := by decide +kernel
theorem dL_law_946 : decode cL_law 946 = .ok (.ifCond .eq 5, 3) := by decide +kernel
theorem dL_law_949 : decode cL_law 949 = .ok (.iconst 0, 1) := by decide +kernel
theorem dL_law_950 : decode cL_law 950 = .ok (.ireturn, 1) := by decide +kernel
theorem dL_law_951 : decode cL_law 951 = .ok (.goto 2346, 3) := by decide +kernel
theorem dL_law_954 : decode cL_law 954 = .ok (.aload_n 1, 1) := by decide +kernel
theorem dL_law_955 : decode cL_law 955 = .ok (.aload_n 0, 1) := by decide +kernel
theorem dL_law_956 : decode cL_law 956 = .ok (.iload 5, 2) := by decide +kernel
theorem dL_law_958 : decode cL_law 958 = .ok (.iconst 1, 1) := by decide +kernel
theorem dL_law_959 : decode cL_law 959 = .ok (.iadd, 1) := by decide +kernel
theorem dL_law_960 : decode cL_law 960 = .ok (.iaload, 1) := by decide +kernel
theorem dL_law_961 : decode cL_law 961 = .ok (.aload_n 0, 1) := by decide +kernel
theorem dL_law_962 : decode cL_law 962 = .ok (.iload 5, 2) := by decide +kernel
theorem dL_law_964 : decode cL_law 964 = .ok (.iconst 2, 1) := by decide +kernel
theorem dL_law_965 : decode cL_law 965 = .ok (.iadd, 1) := by decide +kernel
theorem dL_law_966 : decode cL_law 966 = .ok (.iaload, 1) := by decide +kernel
theorem dL_law_967 : decode cL_law 967 = .ok (.aload_n 3, 1) := by decide +kernel
theorem dL_law_968 : decode cL_law 968 = .ok (.invokestatic 225, 3) := by decide +kernel
theorem dL_law_971 : decode cL_law 971 = .ok (.istore 6, 2) := by decide +kernel
theorem dL_law_973 : decode cL_law 973 = .ok (.aload_n 2, 1) := by decide +kernel
theorem dL_law_974 : decode cL_law 974 = .ok (.aload_n 0, 1) := by decide +kernel
theorem dL_law_975 : decode cL_law 975 = .ok (.iload 5, 2) := by decide +kernel
theorem dL_law_977 : decode cL_law 977 = .ok (.iconst 1, 1) := by decide +kernel
theorem dL_law_978 : decode cL_law 978 = .ok (.iadd, 1) := by decide +kernel
theorem dL_law_979 : decode cL_law 979 = .ok (.iaload, 1) := by decide +kernel
theorem dL_law_980 : decode cL_law 980 = .ok (.aload_n 0, 1) := by decide +kernel
theorem dL_law_981 : decode cL_law 981 = .ok (.iload 5, 2) := by decide +kernel
theorem dL_law_983 : decode cL_law 983 = .ok (.iconst 2, 1) := by decide +kernel
theorem dL_law_984 : decode cL_law 984 = .ok (.iadd, 1) := by decide +kernel
theorem dL_law_985 : decode cL_law 985 = .ok (.iaload, 1) := by decide +kernel
theorem dL_law_986 : decode cL_law 986 = .ok (.invokevirtual 227, 3) := by decide +kernel
theorem dL_law_989 : decode cL_law 989 = .ok (.istore 7, 2) := by decide +kernel
theorem dL_law_991 : decode cL_law 991 = .ok (.aload_n 2, 1) := by decide +kernel
theorem dL_law_992 : decode cL_law 992 = .ok (.invokevirtual 170, 3) := by decide +kernel
theorem dL_law_995 : decode cL_law 995 = .ok (.iload 6, 2) := by decide +kernel
theorem dL_law_997 : decode cL_law 997 = .ok (.if_icmp .eq 5, 3) := by decide +kernel
theorem dL_law_1000 : decode cL_law 1000 = .ok (.iconst 0, 1) := by decide +kernel
theorem dL_law_1001 : decode cL_law 1001 = .ok (.ireturn, 1) := by decide +kernel
theorem dL_law_1002 : decode cL_law 1002 = .ok (.iload 6, 2) := by decide +kernel
theorem dL_law_1004 : decode cL_law 1004 = .ok (.ifCond .ne 15, 3) := by decide +kernel
theorem dL_law_1007 : decode cL_law 1007 = .ok (.aload_n 3, 1) := by decide +kernel
theorem dL_law_1008 : decode cL_law 1008 = .ok (.iconst 0, 1) := by decide +kernel
theorem dL_law_1009 : decode cL_law 1009 = .ok (.laload, 1) := by decide +kernel
theorem dL_law_1010 : decode cL_law 1010 = .ok (.iload 7, 2) := by decide +kernel
theorem dL_law_1012 : decode cL_law 1012 = .ok (.i2l, 1) := by decide +kernel
theorem dL_law_1013 : decode cL_law 1013 = .ok (.lcmp, 1) := by decide +kernel
theorem dL_law_1014 : decode cL_law 1014 = .ok (.ifCond .eq 5, 3) := by decide +kernel
theorem dL_law_1017 : decode cL_law 1017 = .ok (.iconst 0, 1) := by decide +kernel
theorem dL_law_1018 : decode cL_law 1018 = .ok (.ireturn, 1) := by decide +kernel
theorem dL_law_1019 : decode cL_law 1019 = .ok (.goto 2278, 3) := by decide +kernel
theorem dL_law_1022 : decode cL_law 1022 = .ok (.aload_n 1, 1) := by decide +kernel
theorem dL_law_1023 : decode cL_law 1023 = .ok (.aload_n 0, 1) := by decide +kernel
theorem dL_law_1024 : decode cL_law 1024 = .ok (.iload 5, 2) := by decide +kernel
theorem dL_law_1026 : decode cL_law 1026 = .ok (.iconst 1, 1) := by decide +kernel
theorem dL_law_1027 : decode cL_law 1027 = .ok (.iadd, 1) := by decide +kernel
theorem dL_law_1028 : decode cL_law 1028 = .ok (.iaload, 1) := by decide +kernel
theorem dL_law_1029 : decode cL_law 1029 = .ok (.aload_n 3, 1) := by decide +kernel
theorem dL_law_1030 : decode cL_law 1030 = .ok (.invokestatic 228, 3) := by decide +kernel
theorem dL_law_1033 : decode cL_law 1033 = .ok (.istore 6, 2) := by decide +kernel
theorem dL_law_1035 : decode cL_law 1035 = .ok (.aload_n 2, 1) := by decide +kernel
theorem dL_law_1036 : decode cL_law 1036 = .ok (.aload_n 0, 1) := by decide +kernel
theorem dL_law_1037 : decode cL_law 1037 = .ok (.iload 5, 2) := by decide +kernel
theorem dL_law_1039 : decode cL_law 1039 = .ok (.iconst 1, 1) := by decide +kernel
theorem dL_law_1040 : decode cL_law 1040 = .ok (.iadd, 1) := by decide +kernel
theorem dL_law_1041 : decode cL_law 1041 = .ok (.iaload, 1) := by decide +kernel
theorem dL_law_1042 : decode cL_law 1042 = .ok (.invokevirtual 230, 3) := by decide +kernel
theorem dL_law_1045 : decode cL_law 1045 = .ok (.istore 7, 2) := by decide +kernel
theorem dL_law_1047 : decode cL_law 1047 = .ok (.aload_n 2, 1) := by decide +kernel
theorem dL_law_1048 : decode cL_law 1048 = .ok (.invokevirtual 170, 3) := by decide +kernel
theorem dL_law_1051 : decode cL_law 1051 = .ok (.iload 6, 2) := by decide +kernel
theorem dL_law_1053 : decode cL_law 1053 = .ok (.if_icmp .eq 5, 3) := by decide +kernel
theorem dL_law_1056 : decode cL_law 1056 = .ok (.iconst 0, 1) := by decide +kernel
theorem dL_law_1057 : decode cL_law 1057 = .ok (.ireturn, 1) := by decide +kernel
theorem dL_law_1058 : decode cL_law 1058 = .ok (.iload 6, 2) := by decide +kernel
theorem dL_law_1060 : decode cL_law 1060 = .ok (.ifCond .ne 15, 3) := by decide +kernel
theorem dL_law_1063 : decode cL_law 1063 = .ok (.aload_n 3, 1) := by decide +kernel
theorem dL_law_1064 : decode cL_law 1064 = .ok (.iconst 0, 1) := by decide +kernel
theorem dL_law_1065 : decode cL_law 1065 = .ok (.laload, 1) := by decide +kernel
theorem dL_law_1066 : decode cL_law 1066 = .ok (.iload 7, 2) := by decide +kernel
theorem dL_law_1068 : decode cL_law 1068 = .ok (.i2l, 1) := by decide +kernel
theorem dL_law_1069 : decode cL_law 1069 = .ok (.lcmp, 1) := by decide +kernel
theorem dL_law_1070 : decode cL_law 1070 = .ok (.ifCond .eq 5, 3) := by decide +kernel
theorem dL_law_1073 : decode cL_law 1073 = .ok (.iconst 0, 1) := by decide +kernel
theorem dL_law_1074 : decode cL_law 1074 = .ok (.ireturn, 1) := by decide +kernel
theorem dL_law_1075 : decode cL_law 1075 = .ok (.goto 2222, 3) := by decide +kernel
theorem dL_law_1078 : decode cL_law 1078 = .ok (.aload_n 1, 1) := by decide +kernel
theorem dL_law_1079 : decode cL_law 1079 = .ok (.aload_n 0, 1) := by decide +kernel
theorem dL_law_1080 : decode cL_law 1080 = .ok (.iload 5, 2) := by decide +kernel
theorem dL_law_1082 : decode cL_law 1082 = .ok (.iconst 1, 1) := by decide +kernel
theorem dL_law_1083 : decode cL_law 1083 = .ok (.iadd, 1) := by decide +kernel
theorem dL_law_1084 : decode cL_law 1084 = .ok (.iaload, 1) := by decide +kernel
theorem dL_law_1085 : decode cL_law 1085 = .ok (.aload_n 3, 1) := by decide +kernel
theorem dL_law_1086 : decode cL_law 1086 = .ok (.invokestatic 231, 3) := by decide +kernel
theorem dL_law_1089 : decode cL_law 1089 = .ok (.istore 6, 2) := by decide +kernel
theorem dL_law_1091 : decode cL_law 1091 = .ok (.aload_n 2, 1) := by decide +kernel
theorem dL_law_1092 : decode cL_law 1092 = .ok (.aload_n 0, 1) := by decide +kernel
theorem dL_law_1093 : decode cL_law 1093 = .ok (.iload 5, 2) := by decide +kernel
theorem dL_law_1095 : decode cL_law 1095 = .ok (.iconst 1, 1) := by decide +kernel
theorem dL_law_1096 : decode cL_law 1096 = .ok (.iadd, 1) := by decide +kernel
theorem dL_law_1097 : decode cL_law 1097 = .ok (.iaload, 1) := by decide +kernel
theorem dL_law_1098 : decode cL_law 1098 = .ok (.invokevirtual 233, 3) := by decide +kernel
theorem dL_law_1101 : decode cL_law 1101 = .ok (.istore 7, 2) := by decide +kernel
theorem dL_law_1103 : decode cL_law 1103 = .ok (.aload_n 2, 1) := by decide +kernel
theorem dL_law_1104 : decode cL_law 1104 = .ok (.invokevirtual 170, 3) := by decide +kernel
theorem dL_law_1107 : decode cL_law 1107 = .ok (.iload 6, 2) := by decide +kernel
theorem dL_law_1109 : decode cL_law 1109 = .ok (.if_icmp .eq 5, 3) := by decide +kernel
theorem dL_law_1112 : decode cL_law 1112 = .ok (.iconst 0, 1) := by decide +kernel
theorem dL_law_1113 : decode cL_law 1113 = .ok (.ireturn, 1) := by decide +kernel
theorem dL_law_1114 : decode cL_law 1114 = .ok (.iload 6, 2) := by decide +kernel
theorem dL_law_1116 : decode cL_law 1116 = .ok (.ifCond .ne 15, 3) := by decide +kernel
theorem dL_law_1119 : decode cL_law 1119 = .ok (.aload_n 3, 1) := by decide +kernel
theorem dL_law_1120 : decode cL_law 1120 = .ok (.iconst 0, 1) := by decide +kernel
theorem dL_law_1121 : decode cL_law 1121 = .ok (.laload, 1) := by decide +kernel
theorem dL_law_1122 : decode cL_law 1122 = .ok (.iload 7, 2) := by decide +kernel
theorem dL_law_1124 : decode cL_law 1124 = .ok (.i2l, 1) := by decide +kernel
theorem dL_law_1125 : decode cL_law 1125 = .ok (.lcmp, 1) := by decide +kernel
theorem dL_law_1126 : decode cL_law 1126 = .ok (.ifCond .eq 5, 3) := by decide +kernel
theorem dL_law_1129 : decode cL_law 1129 = .ok (.iconst 0, 1) := by decide +kernel
theorem dL_law_1130 : decode cL_law 1130 = .ok (.ireturn, 1) := by decide +kernel
theorem dL_law_1131 : decode cL_law 1131 = .ok (.goto 2166, 3) := by decide +kernel
theorem dL_law_1134 : decode cL_law 1134 = .ok (.aload_n 1, 1) := by decide +kernel
theorem dL_law_1135 : decode cL_law 1135 = .ok (.aload_n 0, 1) := by decide +kernel
theorem dL_law_1136 : decode cL_law 1136 = .ok (.iload 5, 2) := by decide +kernel
theorem dL_law_1138 : decode cL_law 1138 = .ok (.iconst 1, 1) := by decide +kernel
theorem dL_law_1139 : decode cL_law 1139 = .ok (.iadd, 1) := by decide +kernel
theorem dL_law_1140 : decode cL_law 1140 = .ok (.iaload, 1) := by decide +kernel
theorem dL_law_1141 : decode cL_law 1141 = .ok (.aload_n 0, 1) := by decide +kernel
theorem dL_law_1142 : decode cL_law 1142 = .ok (.iload 5, 2) := by decide +kernel
theorem dL_law_1144 : decode cL_law 1144 = .ok (.iconst 2, 1) := by decide +kernel
theorem dL_law_1145 : decode cL_law 1145 = .ok (.iadd, 1) := by decide +kernel
theorem dL_law_1146 : decode cL_law 1146 = .ok (.iaload, 1) := by decide +kernel
theorem dL_law_1147 : decode cL_law 1147 = .ok (.aload_n 3, 1) := by decide +kernel
theorem dL_law_1148 : decode cL_law 1148 = .ok (.invokestatic 234, 3) := by decide +kernel
theorem dL_law_1151 : decode cL_law 1151 = .ok (.istore 6, 2) := by decide +kernel
theorem dL_law_1153 : decode cL_law 1153 = .ok (.aload_n 2, 1) := by decide +kernel
theorem dL_law_1154 : decode cL_law 1154 = .ok (.aload_n 0, 1) := by decide +kernel
theorem dL_law_1155 : decode cL_law 1155 = .ok (.iload 5, 2) := by decide +kernel
theorem dL_law_1157 : decode cL_law 1157 = .ok (.iconst 1, 1) := by decide +kernel
theorem dL_law_1158 : decode cL_law 1158 = .ok (.iadd, 1) := by decide +kernel
theorem dL_law_1159 : decode cL_law 1159 = .ok (.iaload, 1) := by decide +kernel
theorem dL_law_1160 : decode cL_law 1160 = .ok (.aload_n 0, 1) := by decide +kernel
theorem dL_law_1161 : decode cL_law 1161 = .ok (.iload 5, 2) := by decide +kernel
theorem dL_law_1163 : decode cL_law 1163 = .ok (.iconst 2, 1) := by decide +kernel
theorem dL_law_1164 : decode cL_law 1164 = .ok (.iadd, 1) := by decide +kernel
theorem dL_law_1165 : decode cL_law 1165 = .ok (.iaload, 1) := by decide +kernel
theorem dL_law_1166 : decode cL_law 1166 = .ok (.invokevirtual 236, 3) := by decide +kernel
theorem dL_law_1169 : decode cL_law 1169 = .ok (.istore 7, 2) := by decide +kernel
theorem dL_law_1171 : decode cL_law 1171 = .ok (.aload_n 2, 1) := by decide +kernel
theorem dL_law_1172 : decode cL_law 1172 = .ok (.invokevirtual 170, 3) := by decide +kernel
theorem dL_law_1175 : decode cL_law 1175 = .ok (.iload 6, 2) := by decide +kernel
theorem dL_law_1177 : decode cL_law 1177 = .ok (.if_icmp .eq 5, 3) := by decide +kernel
theorem dL_law_1180 : decode cL_law 1180 = .ok (.iconst 0, 1) := by decide +kernel
theorem dL_law_1181 : decode cL_law 1181 = .ok (.ireturn, 1) := by decide +kernel
theorem dL_law_1182 : decode cL_law 1182 = .ok (.iload 6, 2) := by decide +kernel
theorem dL_law_1184 : decode cL_law 1184 = .ok (.ifCond .ne 15, 3) := by decide +kernel
theorem dL_law_1187 : decode cL_law 1187 = .ok (.aload_n 3, 1) := by decide +kernel
theorem dL_law_1188 : decode cL_law 1188 = .ok (.iconst 0, 1) := by decide +kernel
theorem dL_law_1189 : decode cL_law 1189 = .ok (.laload, 1) := by decide +kernel
theorem dL_law_1190 : decode cL_law 1190 = .ok (.iload 7, 2) := by decide +kernel
theorem dL_law_1192 : decode cL_law 1192 = .ok (.i2l, 1) := by decide +kernel
theorem dL_law_1193 : decode cL_law 1193 = .ok (.lcmp, 1) := by decide +kernel
theorem dL_law_1194 : decode cL_law 1194 = .ok (.ifCond .eq 5, 3) := by decide +kernel
theorem dL_law_1197 : decode cL_law 1197 = .ok (.iconst 0, 1) := by decide +kernel
theorem dL_law_1198 : decode cL_law 1198 = .ok (.ireturn, 1) := by decide +kernel
theorem dL_law_1199 : decode cL_law 1199 = .ok (.goto 2098, 3) := by decide +kernel
theorem dL_law_1202 : decode cL_law 1202 = .ok (.aload_n 1, 1) := by decide +kernel
theorem dL_law_1203 : decode cL_law 1203 = .ok (.aload_n 0, 1) := by decide +kernel
theorem dL_law_1204 : decode cL_law 1204 = .ok (.iload 5, 2) := by decide +kernel
theorem dL_law_1206 : decode cL_law 1206 = .ok (.iconst 1, 1) := by decide +kernel
theorem dL_law_1207 : decode cL_law 1207 = .ok (.iadd, 1) := by decide +kernel
theorem dL_law_1208 : decode cL_law 1208 = .ok (.iaload, 1) := by decide +kernel
theorem dL_law_1209 : decode cL_law 1209 = .ok (.aload_n 0, 1) := by decide +kernel
theorem dL_law_1210 : decode cL_law 1210 = .ok (.iload 5, 2) := by decide +kernel
theorem dL_law_1212 : decode cL_law 1212 = .ok (.iconst 2, 1) := by decide +kernel
theorem dL_law_1213 : decode cL_law 1213 = .ok (.iadd, 1) := by decide +kernel
theorem dL_law_1214 : decode cL_law 1214 = .ok (.iaload, 1) := by decide +kernel
theorem dL_law_1215 : decode cL_law 1215 = .ok (.aload_n 3, 1) := by decide +kernel
theorem dL_law_1216 : decode cL_law 1216 = .ok (.invokestatic 237, 3) := by decide +kernel
theorem dL_law_1219 : decode cL_law 1219 = .ok (.istore 6, 2) := by decide +kernel
theorem dL_law_1221 : decode cL_law 1221 = .ok (.aload_n 2, 1) := by decide +kernel
theorem dL_law_1222 : decode cL_law 1222 = .ok (.aload_n 0, 1) := by decide +kernel
theorem dL_law_1223 : decode cL_law 1223 = .ok (.iload 5, 2) := by decide +kernel
theorem dL_law_1225 : decode cL_law 1225 = .ok (.iconst 1, 1) := by decide +kernel
theorem dL_law_1226 : decode cL_law 1226 = .ok (.iadd, 1) := by decide +kernel
theorem dL_law_1227 : decode cL_law 1227 = .ok (.iaload, 1) := by decide +kernel
theorem dL_law_1228 : decode cL_law 1228 = .ok (.aload_n 0, 1) := by decide +kernel
theorem dL_law_1229 : decode cL_law 1229 = .ok (.iload 5, 2) := by decide +kernel
theorem dL_law_1231 : decode cL_law 1231 = .ok (.iconst 2, 1) := by decide +kernel
theorem dL_law_1232 : decode cL_law 1232 = .ok (.iadd, 1) := by decide +kernel
theorem dL_law_1233 : decode cL_law 1233 = .ok (.iaload, 1) := by decide +kernel
theorem dL_law_1234 : decode cL_law 1234 = .ok (.invokevirtual 239, 3) := by decide +kernel
theorem dL_law_1237 : decode cL_law 1237 = .ok (.istore 7, 2) := by decide +kernel
theorem dL_law_1239 : decode cL_law 1239 = .ok (.aload_n 2, 1) := by decide +kernel
theorem dL_law_1240 : decode cL_law 1240 = .ok (.invokevirtual 170, 3) := by decide +kernel
theorem dL_law_1243 : decode cL_law 1243 = .ok (.iload 6, 2) := by decide +kernel
theorem dL_law_1245 : decode cL_law 1245 = .ok (.if_icmp .eq 5, 3) := by decide +kernel
theorem dL_law_1248 : decode cL_law 1248 = .ok (.iconst 0, 1) := by decide +kernel
theorem dL_law_1249 : decode cL_law 1249 = .ok (.ireturn, 1) := by decide +kernel
theorem dL_law_1250 : decode cL_law 1250 = .ok (.iload 6, 2) := by decide +kernel
theorem dL_law_1252 : decode cL_law 1252 = .ok (.ifCond .ne 15, 3) := by decide +kernel
theorem dL_law_1255 : decode cL_law 1255 = .ok (.aload_n 3, 1) := by decide +kernel
theorem dL_law_1256 : decode cL_law 1256 = .ok (.iconst 0, 1) := by decide +kernel
theorem dL_law_1257 : decode cL_law 1257 = .ok (.laload, 1) := by decide +kernel
theorem dL_law_1258 : decode cL_law 1258 = .ok (.iload 7, 2) := by decide +kernel
theorem dL_law_1260 : decode cL_law 1260 = .ok (.i2l, 1) := by decide +kernel
theorem dL_law_1261 : decode cL_law 1261 = .ok (.lcmp, 1) := by decide +kernel
theorem dL_law_1262 : decode cL_law 1262 = .ok (.ifCond .eq 5, 3) := by decide +kernel
theorem dL_law_1265 : decode cL_law 1265 = .ok (.iconst 0, 1) := by decide +kernel
theorem dL_law_1266 : decode cL_law 1266 = .ok (.ireturn, 1) := by decide +kernel
theorem dL_law_1267 : decode cL_law 1267 = .ok (.goto 2030, 3) := by decide +kernel
theorem dL_law_1270 : decode cL_law 1270 = .ok (.aload_n 1, 1) := by decide +kernel
theorem dL_law_1271 : decode cL_law 1271 = .ok (.aload_n 0, 1) := by decide +kernel
theorem dL_law_1272 : decode cL_law 1272 = .ok (.iload 5, 2) := by decide +kernel
theorem dL_law_1274 : decode cL_law 1274 = .ok (.iconst 1, 1) := by decide +kernel
theorem dL_law_1275 : decode cL_law 1275 = .ok (.iadd, 1) := by decide +kernel
theorem dL_law_1276 : decode cL_law 1276 = .ok (.iaload, 1) := by decide +kernel
theorem dL_law_1277 : decode cL_law 1277 = .ok (.aload_n 0, 1) := by decide +kernel
theorem dL_law_1278 : decode cL_law 1278 = .ok (.iload 5, 2) := by decide +kernel
theorem dL_law_1280 : decode cL_law 1280 = .ok (.iconst 2, 1) := by decide +kernel
theorem dL_law_1281 : decode cL_law 1281 = .ok (.iadd, 1) := by decide +kernel
theorem dL_law_1282 : decode cL_law 1282 = .ok (.iaload, 1) := by decide +kernel
theorem dL_law_1283 : decode cL_law 1283 = .ok (.aload_n 3, 1) := by decide +kernel
theorem dL_law_1284 : decode cL_law 1284 = .ok (.invokestatic 240, 3) := by decide +kernel
theorem dL_law_1287 : decode cL_law 1287 = .ok (.istore 6, 2) := by decide +kernel
theorem dL_law_1289 : decode cL_law 1289 = .ok (.aload_n 2, 1) := by decide +kernel
theorem dL_law_1290 : decode cL_law 1290 = .ok (.aload_n 0, 1) := by decide +kernel
theorem dL_law_1291 : decode cL_law 1291 = .ok (.iload 5, 2) := by decide +kernel
theorem dL_law_1293 : decode cL_law 1293 = .ok (.iconst 1, 1) := by decide +kernel
theorem dL_law_1294 : decode cL_law 1294 = .ok (.iadd, 1) := by decide +kernel
theorem dL_law_1295 : decode cL_law 1295 = .ok (.iaload, 1) := by decide +kernel
theorem dL_law_1296 : decode cL_law 1296 = .ok (.aload_n 0, 1) := by decide +kernel
theorem dL_law_1297 : decode cL_law 1297 = .ok (.iload 5, 2) := by decide +kernel
theorem dL_law_1299 : decode cL_law 1299 = .ok (.iconst 2, 1) := by decide +kernel
theorem dL_law_1300 : decode cL_law 1300 = .ok (.iadd, 1) := by decide +kernel
theorem dL_law_1301 : decode cL_law 1301 = .ok (.iaload, 1) := by decide +kernel
theorem dL_law_1302 : decode cL_law 1302 = .ok (.invokevirtual 242, 3) := by decide +kernel
theorem dL_law_1305 : decode cL_law 1305 = .ok (.istore 7, 2) := by decide +kernel
theorem dL_law_1307 : decode cL_law 1307 = .ok (.aload_n 2, 1) := by decide +kernel
theorem dL_law_1308 : decode cL_law 1308 = .ok (.invokevirtual 170, 3) := by decide +kernel
theorem dL_law_1311 : decode cL_law 1311 = .ok (.iload 6, 2) := by decide +kernel
theorem dL_law_1313 : decode cL_law 1313 = .ok (.if_icmp .eq 5, 3) := by decide +kernel
theorem dL_law_1316 : decode cL_law 1316 = .ok (.iconst 0, 1) := by decide +kernel
theorem dL_law_1317 : decode cL_law 1317 = .ok (.ireturn, 1) := by decide +kernel
theorem dL_law_1318 : decode cL_law 1318 = .ok (.iload 6, 2) := by decide +kernel
theorem dL_law_1320 : decode cL_law 1320 = .ok (.ifCond .ne 15, 3) := by decide +kernel
theorem dL_law_1323 : decode cL_law 1323 = .ok (.aload_n 3, 1) := by decide +kernel
theorem dL_law_1324 : decode cL_law 1324 = .ok (.iconst 0, 1) := by decide +kernel
theorem dL_law_1325 : decode cL_law 1325 = .ok (.laload, 1) := by decide +kernel
theorem dL_law_1326 : decode cL_law 1326 = .ok (.iload 7, 2) := by decide +kernel
theorem dL_law_1328 : decode cL_law 1328 = .ok (.i2l, 1) := by decide +kernel
theorem dL_law_1329 : decode cL_law 1329 = .ok (.lcmp, 1) := by decide +kernel
theorem dL_law_1330 : decode cL_law 1330 = .ok (.ifCond .eq 5, 3) := by decide +kernel
theorem dL_law_1333 : decode cL_law 1333 = .ok (.iconst 0, 1) := by decide +kernel
theorem dL_law_1334 : decode cL_law 1334 = .ok (.ireturn, 1) := by decide +kernel
theorem dL_law_1335 : decode cL_law 1335 = .ok (.goto 1962, 3) := by decide +kernel
theorem dL_law_1338 : decode cL_law 1338 = .ok (.aload_n 1, 1) := by decide +kernel
theorem dL_law_1339 : decode cL_law 1339 = .ok (.aload_n 0, 1) := by decide +kernel
theorem dL_law_1340 : decode cL_law 1340 = .ok (.iload 5, 2) := by decide +kernel
theorem dL_law_1342 : decode cL_law 1342 = .ok (.iconst 1, 1) := by decide +kernel
theorem dL_law_1343 : decode cL_law 1343 = .ok (.iadd, 1) := by decide +kernel
theorem dL_law_1344 : decode cL_law 1344 = .ok (.iaload, 1) := by decide +kernel
theorem dL_law_1345 : decode cL_law 1345 = .ok (.aload_n 0, 1) := by decide +kernel
theorem dL_law_1346 : decode cL_law 1346 = .ok (.iload 5, 2) := by decide +kernel
theorem dL_law_1348 : decode cL_law 1348 = .ok (.iconst 2, 1) := by decide +kernel
theorem dL_law_1349 : decode cL_law 1349 = .ok (.iadd, 1) := by decide +kernel
theorem dL_law_1350 : decode cL_law 1350 = .ok (.iaload, 1) := by decide +kernel
theorem dL_law_1351 : decode cL_law 1351 = .ok (.aload_n 3, 1) := by decide +kernel
theorem dL_law_1352 : decode cL_law 1352 = .ok (.invokestatic 243, 3) := by decide +kernel
theorem dL_law_1355 : decode cL_law 1355 = .ok (.istore 6, 2) := by decide +kernel
theorem dL_law_1357 : decode cL_law 1357 = .ok (.aload_n 2, 1) := by decide +kernel
theorem dL_law_1358 : decode cL_law 1358 = .ok (.aload_n 0, 1) := by decide +kernel
theorem dL_law_1359 : decode cL_law 1359 = .ok (.iload 5, 2) := by decide +kernel
theorem dL_law_1361 : decode cL_law 1361 = .ok (.iconst 1, 1) := by decide +kernel
theorem dL_law_1362 : decode cL_law 1362 = .ok (.iadd, 1) := by decide +kernel
theorem dL_law_1363 : decode cL_law 1363 = .ok (.iaload, 1) := by decide +kernel
theorem dL_law_1364 : decode cL_law 1364 = .ok (.aload_n 0, 1) := by decide +kernel
theorem dL_law_1365 : decode cL_law 1365 = .ok (.iload 5, 2) := by decide +kernel
theorem dL_law_1367 : decode cL_law 1367 = .ok (.iconst 2, 1) := by decide +kernel
theorem dL_law_1368 : decode cL_law 1368 = .ok (.iadd, 1) := by decide +kernel
theorem dL_law_1369 : decode cL_law 1369 = .ok (.iaload, 1) := by decide +kernel
theorem dL_law_1370 : decode cL_law 1370 = .ok (.invokevirtual 245, 3) := by decide +kernel
theorem dL_law_1373 : decode cL_law 1373 = .ok (.istore 7, 2) := by decide +kernel
theorem dL_law_1375 : decode cL_law 1375 = .ok (.aload_n 2, 1) := by decide +kernel
theorem dL_law_1376 : decode cL_law 1376 = .ok (.invokevirtual 170, 3) := by decide +kernel
theorem dL_law_1379 : decode cL_law 1379 = .ok (.iload 6, 2) := by decide +kernel
theorem dL_law_1381 : decode cL_law 1381 = .ok (.if_icmp .eq 5, 3) := by decide +kernel
theorem dL_law_1384 : decode cL_law 1384 = .ok (.iconst 0, 1) := by decide +kernel
theorem dL_law_1385 : decode cL_law 1385 = .ok (.ireturn, 1) := by decide +kernel
theorem dL_law_1386 : decode cL_law 1386 = .ok (.iload 6, 2) := by decide +kernel
theorem dL_law_1388 : decode cL_law 1388 = .ok (.ifCond .ne 15, 3) := by decide +kernel
theorem dL_law_1391 : decode cL_law 1391 = .ok (.aload_n 3, 1) := by decide +kernel
theorem dL_law_1392 : decode cL_law 1392 = .ok (.iconst 0, 1) := by decide +kernel
theorem dL_law_1393 : decode cL_law 1393 = .ok (.laload, 1) := by decide +kernel
theorem dL_law_1394 : decode cL_law 1394 = .ok (.iload 7, 2) := by decide +kernel
theorem dL_law_1396 : decode cL_law 1396 = .ok (.i2l, 1) := by decide +kernel
theorem dL_law_1397 : decode cL_law 1397 = .ok (.lcmp, 1) := by decide +kernel
theorem dL_law_1398 : decode cL_law 1398 = .ok (.ifCond .eq 5, 3) := by decide +kernel
theorem dL_law_1401 : decode cL_law 1401 = .ok (.iconst 0, 1) := by decide +kernel
theorem dL_law_1402 : decode cL_law 1402 = .ok (.ireturn, 1) := by decide +kernel
theorem dL_law_1403 : decode cL_law 1403 = .ok (.goto 1894, 3) := by decide +kernel
theorem dL_law_1406 : decode cL_law 1406 = .ok (.aload_n 1, 1) := by decide +kernel
theorem dL_law_1407 : decode cL_law 1407 = .ok (.aload_n 0, 1) := by decide +kernel
theorem dL_law_1408 : decode cL_law 1408 = .ok (.iload 5, 2) := by decide +kernel
theorem dL_law_1410 : decode cL_law 1410 = .ok (.iconst 1, 1) := by decide +kernel
theorem dL_law_1411 : decode cL_law 1411 = .ok (.iadd, 1) := by decide +kernel
theorem dL_law_1412 : decode cL_law 1412 = .ok (.iaload, 1) := by decide +kernel
theorem dL_law_1413 : decode cL_law 1413 = .ok (.aload_n 0, 1) := by decide +kernel
theorem dL_law_1414 : decode cL_law 1414 = .ok (.iload 5, 2) := by decide +kernel
theorem dL_law_1416 : decode cL_law 1416 = .ok (.iconst 2, 1) := by decide +kernel
theorem dL_law_1417 : decode cL_law 1417 = .ok (.iadd, 1) := by decide +kernel
theorem dL_law_1418 : decode cL_law 1418 = .ok (.iaload, 1) := by decide +kernel
theorem dL_law_1419 : decode cL_law 1419 = .ok (.aload_n 3, 1) := by decide +kernel
theorem dL_law_1420 : decode cL_law 1420 = .ok (.invokestatic 246, 3) := by decide +kernel
theorem dL_law_1423 : decode cL_law 1423 = .ok (.istore 6, 2) := by decide +kernel
theorem dL_law_1425 : decode cL_law 1425 = .ok (.aload_n 2, 1) := by decide +kernel
theorem dL_law_1426 : decode cL_law 1426 = .ok (.aload_n 0, 1) := by decide +kernel
theorem dL_law_1427 : decode cL_law 1427 = .ok (.iload 5, 2) := by decide +kernel
theorem dL_law_1429 : decode cL_law 1429 = .ok (.iconst 1, 1) := by decide +kernel
theorem dL_law_1430 : decode cL_law 1430 = .ok (.iadd, 1) := by decide +kernel
theorem dL_law_1431 : decode cL_law 1431 = .ok (.iaload, 1) := by decide +kernel
theorem dL_law_1432 : decode cL_law 1432 = .ok (.aload_n 0, 1) := by decide +kernel
theorem dL_law_1433 : decode cL_law 1433 = .ok (.iload 5, 2) := by decide +kernel
theorem dL_law_1435 : decode cL_law 1435 = .ok (.iconst 2, 1) := by decide +kernel
theorem dL_law_1436 : decode cL_law 1436 = .ok (.iadd, 1) := by decide +kernel
theorem dL_law_1437 : decode cL_law 1437 = .ok (.iaload, 1) := by decide +kernel
theorem dL_law_1438 : decode cL_law 1438 = .ok (.invokevirtual 248, 3) := by decide +kernel
theorem dL_law_1441 : decode cL_law 1441 = .ok (.istore 7, 2) := by decide +kernel
theorem dL_law_1443 : decode cL_law 1443 = .ok (.aload_n 2, 1) := by decide +kernel
theorem dL_law_1444 : decode cL_law 1444 = .ok (.invokevirtual 170, 3) := by decide +kernel
theorem dL_law_1447 : decode cL_law 1447 = .ok (.iload 6, 2) := by decide +kernel
theorem dL_law_1449 : decode cL_law 1449 = .ok (.if_icmp .eq 5, 3) := by decide +kernel
theorem dL_law_1452 : decode cL_law 1452 = .ok (.iconst 0, 1) := by decide +kernel
theorem dL_law_1453 : decode cL_law 1453 = .ok (.ireturn, 1) := by decide +kernel
theorem dL_law_1454 : decode cL_law 1454 = .ok (.iload 6, 2) := by decide +kernel
theorem dL_law_1456 : decode cL_law 1456 = .ok (.ifCond .ne 22, 3) := by decide +kernel
theorem dL_law_1459 : decode cL_law 1459 = .ok (.aload_n 3, 1) := by decide +kernel
theorem dL_law_1460 : decode cL_law 1460 = .ok (.iconst 0, 1) := by decide +kernel
theorem dL_law_1461 : decode cL_law 1461 = .ok (.laload, 1) := by decide +kernel
theorem dL_law_1462 : decode cL_law 1462 = .ok (.iload 7, 2) := by decide +kernel
theorem dL_law_1464 : decode cL_law 1464 = .ok (.ifCond .eq 7, 3) := by decide +kernel
theorem dL_law_1467 : decode cL_law 1467 = .ok (.lconst 1, 1) := by decide +kernel
theorem dL_law_1468 : decode cL_law 1468 = .ok (.goto 4, 3) := by decide +kernel
theorem dL_law_1471 : decode cL_law 1471 = .ok (.lconst 0, 1) := by decide +kernel
theorem dL_law_1472 : decode cL_law 1472 = .ok (.lcmp, 1) := by decide +kernel
theorem dL_law_1473 : decode cL_law 1473 = .ok (.ifCond .eq 5, 3) := by decide +kernel
theorem dL_law_1476 : decode cL_law 1476 = .ok (.iconst 0, 1) := by decide +kernel
theorem dL_law_1477 : decode cL_law 1477 = .ok (.ireturn, 1) := by decide +kernel
theorem dL_law_1478 : decode cL_law 1478 = .ok (.goto 1819, 3) := by decide +kernel
theorem dL_law_1481 : decode cL_law 1481 = .ok (.aload_n 1, 1) := by decide +kernel
theorem dL_law_1482 : decode cL_law 1482 = .ok (.aload_n 0, 1) := by decide +kernel
theorem dL_law_1483 : decode cL_law 1483 = .ok (.iload 5, 2) := by decide +kernel
theorem dL_law_1485 : decode cL_law 1485 = .ok (.iconst 1, 1) := by decide +kernel
theorem dL_law_1486 : decode cL_law 1486 = .ok (.iadd, 1) := by decide +kernel
theorem dL_law_1487 : decode cL_law 1487 = .ok (.iaload, 1) := by decide +kernel
theorem dL_law_1488 : decode cL_law 1488 = .ok (.aload_n 0, 1) := by decide +kernel
theorem dL_law_1489 : decode cL_law 1489 = .ok (.iload 5, 2) := by decide +kernel
theorem dL_law_1491 : decode cL_law 1491 = .ok (.iconst 2, 1) := by decide +kernel
theorem dL_law_1492 : decode cL_law 1492 = .ok (.iadd, 1) := by decide +kernel
theorem dL_law_1493 : decode cL_law 1493 = .ok (.iaload, 1) := by decide +kernel
theorem dL_law_1494 : decode cL_law 1494 = .ok (.aload_n 3, 1) := by decide +kernel
theorem dL_law_1495 : decode cL_law 1495 = .ok (.invokestatic 249, 3) := by decide +kernel
theorem dL_law_1498 : decode cL_law 1498 = .ok (.istore 6, 2) := by decide +kernel
theorem dL_law_1500 : decode cL_law 1500 = .ok (.aload_n 2, 1) := by decide +kernel
theorem dL_law_1501 : decode cL_law 1501 = .ok (.aload_n 0, 1) := by decide +kernel
theorem dL_law_1502 : decode cL_law 1502 = .ok (.iload 5, 2) := by decide +kernel
theorem dL_law_1504 : decode cL_law 1504 = .ok (.iconst 1, 1) := by decide +kernel
theorem dL_law_1505 : decode cL_law 1505 = .ok (.iadd, 1) := by decide +kernel
theorem dL_law_1506 : decode cL_law 1506 = .ok (.iaload, 1) := by decide +kernel
theorem dL_law_1507 : decode cL_law 1507 = .ok (.aload_n 0, 1) := by decide +kernel
theorem dL_law_1508 : decode cL_law 1508 = .ok (.iload 5, 2) := by decide +kernel
theorem dL_law_1510 : decode cL_law 1510 = .ok (.iconst 2, 1) := by decide +kernel
theorem dL_law_1511 : decode cL_law 1511 = .ok (.iadd, 1) := by decide +kernel
theorem dL_law_1512 : decode cL_law 1512 = .ok (.iaload, 1) := by decide +kernel
theorem dL_law_1513 : decode cL_law 1513 = .ok (.invokevirtual 251, 3) := by decide +kernel
theorem dL_law_1516 : decode cL_law 1516 = .ok (.istore 7, 2) := by decide +kernel
theorem dL_law_1518 : decode cL_law 1518 = .ok (.aload_n 2, 1) := by decide +kernel
theorem dL_law_1519 : decode cL_law 1519 = .ok (.invokevirtual 170, 3) := by decide +kernel
theorem dL_law_1522 : decode cL_law 1522 = .ok (.iload 6, 2) := by decide +kernel
theorem dL_law_1524 : decode cL_law 1524 = .ok (.if_icmp .eq 5, 3) := by decide +kernel
theorem dL_law_1527 : decode cL_law 1527 = .ok (.iconst 0, 1) := by decide +kernel
theorem dL_law_1528 : decode cL_law 1528 = .ok (.ireturn, 1) := by decide +kernel
theorem dL_law_1529 : decode cL_law 1529 = .ok (.iload 6, 2) := by decide +kernel
theorem dL_law_1531 : decode cL_law 1531 = .ok (.ifCond .ne 15, 3) := by decide +kernel
theorem dL_law_1534 : decode cL_law 1534 = .ok (.aload_n 3, 1) := by decide +kernel
theorem dL_law_1535 : decode cL_law 1535 = .ok (.iconst 0, 1) := by decide +kernel
theorem dL_law_1536 : decode cL_law 1536 = .ok (.laload, 1) := by decide +kernel
theorem dL_law_1537 : decode cL_law 1537 = .ok (.iload 7, 2) := by decide +kernel
theorem dL_law_1539 : decode cL_law 1539 = .ok (.i2l, 1) := by decide +kernel
theorem dL_law_1540 : decode cL_law 1540 = .ok (.lcmp, 1) := by decide +kernel
theorem dL_law_1541 : decode cL_law 1541 = .ok (.ifCond .eq 5, 3) := by decide +kernel
theorem dL_law_1544 : decode cL_law 1544 = .ok (.iconst 0, 1) := by decide +kernel
theorem dL_law_1545 : decode cL_law 1545 = .ok (.ireturn, 1) := by decide +kernel
theorem dL_law_1546 : decode cL_law 1546 = .ok (.goto 1751, 3) := by decide +kernel
theorem dL_law_1549 : decode cL_law 1549 = .ok (.aload_n 1, 1) := by decide +kernel
theorem dL_law_1550 : decode cL_law 1550 = .ok (.invokevirtual 252, 3) := by decide +kernel
theorem dL_law_1553 : decode cL_law 1553 = .ok (.aload_n 2, 1) := by decide +kernel
theorem dL_law_1554 : decode cL_law 1554 = .ok (.invokevirtual 255, 3) := by decide +kernel
theorem dL_law_1557 : decode cL_law 1557 = .ok (.if_icmp .eq 1740, 3) := by decide +kernel
theorem dL_law_1560 : decode cL_law 1560 = .ok (.iconst 0, 1) := by decide +kernel
theorem dL_law_1561 : decode cL_law 1561 = .ok (.ireturn, 1) := by decide +kernel
theorem dL_law_1562 : decode cL_law 1562 = .ok (.aload_n 1, 1) := by decide +kernel
theorem dL_law_1563 : decode cL_law 1563 = .ok (.aload_n 0, 1) := by decide +kernel
theorem dL_law_1564 : decode cL_law 1564 = .ok (.iload 5, 2) := by decide +kernel
theorem dL_law_1566 : decode cL_law 1566 = .ok (.iconst 1, 1) := by decide +kernel
theorem dL_law_1567 : decode cL_law 1567 = .ok (.iadd, 1) := by decide +kernel
theorem dL_law_1568 : decode cL_law 1568 = .ok (.iaload, 1) := by decide +kernel
theorem dL_law_1569 : decode cL_law 1569 = .ok (.aload_n 3, 1) := by decide +kernel
theorem dL_law_1570 : decode cL_law 1570 = .ok (.invokestatic 256, 3) := by decide +kernel
theorem dL_law_1573 : decode cL_law 1573 = .ok (.istore 6, 2) := by decide +kernel
theorem dL_law_1575 : decode cL_law 1575 = .ok (.aload_n 2, 1) := by decide +kernel
theorem dL_law_1576 : decode cL_law 1576 = .ok (.aload_n 0, 1) := by decide +kernel
theorem dL_law_1577 : decode cL_law 1577 = .ok (.iload 5, 2) := by decide +kernel
theorem dL_law_1579 : decode cL_law 1579 = .ok (.iconst 1, 1) := by decide +kernel
theorem dL_law_1580 : decode cL_law 1580 = .ok (.iadd, 1) := by decide +kernel
theorem dL_law_1581 : decode cL_law 1581 = .ok (.iaload, 1) := by decide +kernel
theorem dL_law_1582 : decode cL_law 1582 = .ok (.invokevirtual 258, 3) := by decide +kernel
theorem dL_law_1585 : decode cL_law 1585 = .ok (.istore 7, 2) := by decide +kernel
theorem dL_law_1587 : decode cL_law 1587 = .ok (.aload_n 2, 1) := by decide +kernel
theorem dL_law_1588 : decode cL_law 1588 = .ok (.invokevirtual 170, 3) := by decide +kernel
theorem dL_law_1591 : decode cL_law 1591 = .ok (.iload 6, 2) := by decide +kernel
theorem dL_law_1593 : decode cL_law 1593 = .ok (.if_icmp .eq 5, 3) := by decide +kernel
theorem dL_law_1596 : decode cL_law 1596 = .ok (.iconst 0, 1) := by decide +kernel
theorem dL_law_1597 : decode cL_law 1597 = .ok (.ireturn, 1) := by decide +kernel
theorem dL_law_1598 : decode cL_law 1598 = .ok (.iload 6, 2) := by decide +kernel
theorem dL_law_1600 : decode cL_law 1600 = .ok (.ifCond .ne 15, 3) := by decide +kernel
theorem dL_law_1603 : decode cL_law 1603 = .ok (.aload_n 3, 1) := by decide +kernel
theorem dL_law_1604 : decode cL_law 1604 = .ok (.iconst 0, 1) := by decide +kernel
theorem dL_law_1605 : decode cL_law 1605 = .ok (.laload, 1) := by decide +kernel
theorem dL_law_1606 : decode cL_law 1606 = .ok (.iload 7, 2) := by decide +kernel
theorem dL_law_1608 : decode cL_law 1608 = .ok (.i2l, 1) := by decide +kernel
theorem dL_law_1609 : decode cL_law 1609 = .ok (.lcmp, 1) := by decide +kernel
theorem dL_law_1610 : decode cL_law 1610 = .ok (.ifCond .eq 5, 3) := by decide +kernel
theorem dL_law_1613 : decode cL_law 1613 = .ok (.iconst 0, 1) := by decide +kernel
theorem dL_law_1614 : decode cL_law 1614 = .ok (.ireturn, 1) := by decide +kernel
theorem dL_law_1615 : decode cL_law 1615 = .ok (.goto 1682, 3) := by decide +kernel
theorem dL_law_1618 : decode cL_law 1618 = .ok (.aload_n 1, 1) := by decide +kernel
theorem dL_law_1619 : decode cL_law 1619 = .ok (.aload_n 0, 1) := by decide +kernel
theorem dL_law_1620 : decode cL_law 1620 = .ok (.iload 5, 2) := by decide +kernel
theorem dL_law_1622 : decode cL_law 1622 = .ok (.iconst 1, 1) := by decide +kernel
theorem dL_law_1623 : decode cL_law 1623 = .ok (.iadd, 1) := by decide +kernel
theorem dL_law_1624 : decode cL_law 1624 = .ok (.iaload, 1) := by decide +kernel
theorem dL_law_1625 : decode cL_law 1625 = .ok (.aload_n 0, 1) := by decide +kernel
theorem dL_law_1626 : decode cL_law 1626 = .ok (.iload 5, 2) := by decide +kernel
theorem dL_law_1628 : decode cL_law 1628 = .ok (.iconst 2, 1) := by decide +kernel
theorem dL_law_1629 : decode cL_law 1629 = .ok (.iadd, 1) := by decide +kernel
theorem dL_law_1630 : decode cL_law 1630 = .ok (.iaload, 1) := by decide +kernel
theorem dL_law_1631 : decode cL_law 1631 = .ok (.aload_n 3, 1) := by decide +kernel
theorem dL_law_1632 : decode cL_law 1632 = .ok (.invokestatic 259, 3) := by decide +kernel
theorem dL_law_1635 : decode cL_law 1635 = .ok (.istore 6, 2) := by decide +kernel
theorem dL_law_1637 : decode cL_law 1637 = .ok (.aload_n 2, 1) := by decide +kernel
theorem dL_law_1638 : decode cL_law 1638 = .ok (.aload_n 0, 1) := by decide +kernel
theorem dL_law_1639 : decode cL_law 1639 = .ok (.iload 5, 2) := by decide +kernel
theorem dL_law_1641 : decode cL_law 1641 = .ok (.iconst 1, 1) := by decide +kernel
theorem dL_law_1642 : decode cL_law 1642 = .ok (.iadd, 1) := by decide +kernel
theorem dL_law_1643 : decode cL_law 1643 = .ok (.iaload, 1) := by decide +kernel
theorem dL_law_1644 : decode cL_law 1644 = .ok (.aload_n 0, 1) := by decide +kernel
theorem dL_law_1645 : decode cL_law 1645 = .ok (.iload 5, 2) := by decide +kernel
theorem dL_law_1647 : decode cL_law 1647 = .ok (.iconst 2, 1) := by decide +kernel
theorem dL_law_1648 : decode cL_law 1648 = .ok (.iadd, 1) := by decide +kernel
theorem dL_law_1649 : decode cL_law 1649 = .ok (.iaload, 1) := by decide +kernel
theorem dL_law_1650 : decode cL_law 1650 = .ok (.invokevirtual 261, 3) := by decide +kernel
theorem dL_law_1653 : decode cL_law 1653 = .ok (.istore 7, 2) := by decide +kernel
theorem dL_law_1655 : decode cL_law 1655 = .ok (.aload_n 2, 1) := by decide +kernel
theorem dL_law_1656 : decode cL_law 1656 = .ok (.invokevirtual 170, 3) := by decide +kernel
theorem dL_law_1659 : decode cL_law 1659 = .ok (.iload 6, 2) := by decide +kernel
theorem dL_law_1661 : decode cL_law 1661 = .ok (.if_icmp .eq 5, 3) := by decide +kernel
theorem dL_law_1664 : decode cL_law 1664 = .ok (.iconst 0, 1) := by decide +kernel
theorem dL_law_1665 : decode cL_law 1665 = .ok (.ireturn, 1) := by decide +kernel
theorem dL_law_1666 : decode cL_law 1666 = .ok (.iload 6, 2) := by decide +kernel
theorem dL_law_1668 : decode cL_law 1668 = .ok (.ifCond .ne 15, 3) := by decide +kernel
theorem dL_law_1671 : decode cL_law 1671 = .ok (.aload_n 3, 1) := by decide +kernel
theorem dL_law_1672 : decode cL_law 1672 = .ok (.iconst 0, 1) := by decide +kernel
theorem dL_law_1673 : decode cL_law 1673 = .ok (.laload, 1) := by decide +kernel
theorem dL_law_1674 : decode cL_law 1674 = .ok (.iload 7, 2) := by decide +kernel
theorem dL_law_1676 : decode cL_law 1676 = .ok (.i2l, 1) := by decide +kernel
theorem dL_law_1677 : decode cL_law 1677 = .ok (.lcmp, 1) := by decide +kernel
theorem dL_law_1678 : decode cL_law 1678 = .ok (.ifCond .eq 5, 3) := by decide +kernel
theorem dL_law_1681 : decode cL_law 1681 = .ok (.iconst 0, 1) := by decide +kernel
theorem dL_law_1682 : decode cL_law 1682 = .ok (.ireturn, 1) := by decide +kernel
theorem dL_law_1683 : decode cL_law 1683 = .ok (.goto 1614, 3) := by decide +kernel
theorem dL_law_1686 : decode cL_law 1686 = .ok (.aload_n 1, 1) := by decide +kernel
theorem dL_law_1687 : decode cL_law 1687 = .ok (.aload_n 0, 1) := by decide +kernel
theorem dL_law_1688 : decode cL_law 1688 = .ok (.iload 5, 2) := by decide +kernel
theorem dL_law_1690 : decode cL_law 1690 = .ok (.iconst 1, 1) := by decide +kernel
theorem dL_law_1691 : decode cL_law 1691 = .ok (.iadd, 1) := by decide +kernel
theorem dL_law_1692 : decode cL_law 1692 = .ok (.iaload, 1) := by decide +kernel
theorem dL_law_1693 : decode cL_law 1693 = .ok (.aload_n 0, 1) := by decide +kernel
theorem dL_law_1694 : decode cL_law 1694 = .ok (.iload 5, 2) := by decide +kernel
theorem dL_law_1696 : decode cL_law 1696 = .ok (.iconst 2, 1) := by decide +kernel
theorem dL_law_1697 : decode cL_law 1697 = .ok (.iadd, 1) := by decide +kernel
theorem dL_law_1698 : decode cL_law 1698 = .ok (.iaload, 1) := by decide +kernel
theorem dL_law_1699 : decode cL_law 1699 = .ok (.aload_n 3, 1) := by decide +kernel
theorem dL_law_1700 : decode cL_law 1700 = .ok (.invokestatic 262, 3) := by decide +kernel
theorem dL_law_1703 : decode cL_law 1703 = .ok (.istore 6, 2) := by decide +kernel
theorem dL_law_1705 : decode cL_law 1705 = .ok (.aload_n 2, 1) := by decide +kernel
theorem dL_law_1706 : decode cL_law 1706 = .ok (.aload_n 0, 1) := by decide +kernel
theorem dL_law_1707 : decode cL_law 1707 = .ok (.iload 5, 2) := by decide +kernel
theorem dL_law_1709 : decode cL_law 1709 = .ok (.iconst 1, 1) := by decide +kernel
theorem dL_law_1710 : decode cL_law 1710 = .ok (.iadd, 1) := by decide +kernel
theorem dL_law_1711 : decode cL_law 1711 = .ok (.iaload, 1) := by decide +kernel
theorem dL_law_1712 : decode cL_law 1712 = .ok (.aload_n 0, 1) := by decide +kernel
theorem dL_law_1713 : decode cL_law 1713 = .ok (.iload 5, 2) := by decide +kernel
theorem dL_law_1715 : decode cL_law 1715 = .ok (.iconst 2, 1) := by decide +kernel
theorem dL_law_1716 : decode cL_law 1716 = .ok (.iadd, 1) := by decide +kernel
theorem dL_law_1717 : decode cL_law 1717 = .ok (.iaload, 1) := by decide +kernel
theorem dL_law_1718 : decode cL_law 1718 = .ok (.invokevirtual 264, 3) := by decide +kernel
theorem dL_law_1721 : decode cL_law 1721 = .ok (.istore 7, 2) := by decide +kernel
theorem dL_law_1723 : decode cL_law 1723 = .ok (.aload_n 2, 1) := by decide +kernel
theorem dL_law_1724 : decode cL_law 1724 = .ok (.invokevirtual 170, 3) := by decide +kernel
theorem dL_law_1727 : decode cL_law 1727 = .ok (.iload 6, 2) := by decide +kernel
theorem dL_law_1729 : decode cL_law 1729 = .ok (.if_icmp .eq 5, 3) := by decide +kernel
theorem dL_law_1732 : decode cL_law 1732 = .ok (.iconst 0, 1) := by decide +kernel
theorem dL_law_1733 : decode cL_law 1733 = .ok (.ireturn, 1) := by decide +kernel
theorem dL_law_1734 : decode cL_law 1734 = .ok (.iload 6, 2) := by decide +kernel
theorem dL_law_1736 : decode cL_law 1736 = .ok (.ifCond .ne 15, 3) := by decide +kernel
theorem dL_law_1739 : decode cL_law 1739 = .ok (.aload_n 3, 1) := by decide +kernel
theorem dL_law_1740 : decode cL_law 1740 = .ok (.iconst 0, 1) := by decide +kernel
theorem dL_law_1741 : decode cL_law 1741 = .ok (.laload, 1) := by decide +kernel
theorem dL_law_1742 : decode cL_law 1742 = .ok (.iload 7, 2) := by decide +kernel
theorem dL_law_1744 : decode cL_law 1744 = .ok (.i2l, 1) := by decide +kernel
theorem dL_law_1745 : decode cL_law 1745 = .ok (.lcmp, 1) := by decide +kernel
theorem dL_law_1746 : decode cL_law 1746 = .ok (.ifCond .eq 5, 3) := by decide +kernel
theorem dL_law_1749 : decode cL_law 1749 = .ok (.iconst 0, 1) := by decide +kernel
theorem dL_law_1750 : decode cL_law 1750 = .ok (.ireturn, 1) := by decide +kernel
theorem dL_law_1751 : decode cL_law 1751 = .ok (.goto 1546, 3) := by decide +kernel
theorem dL_law_1754 : decode cL_law 1754 = .ok (.aload_n 1, 1) := by decide +kernel
theorem dL_law_1755 : decode cL_law 1755 = .ok (.aload_n 0, 1) := by decide +kernel
theorem dL_law_1756 : decode cL_law 1756 = .ok (.iload 5, 2) := by decide +kernel
theorem dL_law_1758 : decode cL_law 1758 = .ok (.iconst 1, 1) := by decide +kernel
theorem dL_law_1759 : decode cL_law 1759 = .ok (.iadd, 1) := by decide +kernel
theorem dL_law_1760 : decode cL_law 1760 = .ok (.iaload, 1) := by decide +kernel
theorem dL_law_1761 : decode cL_law 1761 = .ok (.aload_n 3, 1) := by decide +kernel
theorem dL_law_1762 : decode cL_law 1762 = .ok (.invokestatic 265, 3) := by decide +kernel
theorem dL_law_1765 : decode cL_law 1765 = .ok (.istore 6, 2) := by decide +kernel
theorem dL_law_1767 : decode cL_law 1767 = .ok (.aload_n 2, 1) := by decide +kernel
theorem dL_law_1768 : decode cL_law 1768 = .ok (.aload_n 0, 1) := by decide +kernel
theorem dL_law_1769 : decode cL_law 1769 = .ok (.iload 5, 2) := by decide +kernel
theorem dL_law_1771 : decode cL_law 1771 = .ok (.iconst 1, 1) := by decide +kernel
theorem dL_law_1772 : decode cL_law 1772 = .ok (.iadd, 1) := by decide +kernel
theorem dL_law_1773 : decode cL_law 1773 = .ok (.iaload, 1) := by decide +kernel
theorem dL_law_1774 : decode cL_law 1774 = .ok (.invokevirtual 267, 3) := by decide +kernel
theorem dL_law_1777 : decode cL_law 1777 = .ok (.lstore 7, 2) := by decide +kernel
theorem dL_law_1779 : decode cL_law 1779 = .ok (.aload_n 2, 1) := by decide +kernel
theorem dL_law_1780 : decode cL_law 1780 = .ok (.invokevirtual 170, 3) := by decide +kernel
theorem dL_law_1783 : decode cL_law 1783 = .ok (.iload 6, 2) := by decide +kernel
theorem dL_law_1785 : decode cL_law 1785 = .ok (.if_icmp .eq 5, 3) := by decide +kernel
theorem dL_law_1788 : decode cL_law 1788 = .ok (.iconst 0, 1) := by decide +kernel
theorem dL_law_1789 : decode cL_law 1789 = .ok (.ireturn, 1) := by decide +kernel
theorem dL_law_1790 : decode cL_law 1790 = .ok (.iload 6, 2) := by decide +kernel
theorem dL_law_1792 : decode cL_law 1792 = .ok (.ifCond .ne 14, 3) := by decide +kernel
theorem dL_law_1795 : decode cL_law 1795 = .ok (.aload_n 3, 1) := by decide +kernel
theorem dL_law_1796 : decode cL_law 1796 = .ok (.iconst 0, 1) := by decide +kernel
theorem dL_law_1797 : decode cL_law 1797 = .ok (.laload, 1) := by decide +kernel
theorem dL_law_1798 : decode cL_law 1798 = .ok (.lload 7, 2) := by decide +kernel
theorem dL_law_1800 : decode cL_law 1800 = .ok (.lcmp, 1) := by decide +kernel
theorem dL_law_1801 : decode cL_law 1801 = .ok (.ifCond .eq 5, 3) := by decide +kernel
theorem dL_law_1804 : decode cL_law 1804 = .ok (.iconst 0, 1) := by decide +kernel
theorem dL_law_1805 : decode cL_law 1805 = .ok (.ireturn, 1) := by decide +kernel
theorem dL_law_1806 : decode cL_law 1806 = .ok (.goto 1491, 3) := by decide +kernel
theorem dL_law_1809 : decode cL_law 1809 = .ok (.aload_n 1, 1) := by decide +kernel
theorem dL_law_1810 : decode cL_law 1810 = .ok (.invokevirtual 268, 3) := by decide +kernel
theorem dL_law_1813 : decode cL_law 1813 = .ok (.aload_n 2, 1) := by decide +kernel
theorem dL_law_1814 : decode cL_law 1814 = .ok (.invokevirtual 271, 3) := by decide +kernel
theorem dL_law_1817 : decode cL_law 1817 = .ok (.if_icmp .eq 1480, 3) := by decide +kernel
theorem dL_law_1820 : decode cL_law 1820 = .ok (.iconst 0, 1) := by decide +kernel
theorem dL_law_1821 : decode cL_law 1821 = .ok (.ireturn, 1) := by decide +kernel
theorem dL_law_1822 : decode cL_law 1822 = .ok (.aload_n 1, 1) := by decide +kernel
theorem dL_law_1823 : decode cL_law 1823 = .ok (.invokevirtual 272, 3) := by decide +kernel
theorem dL_law_1826 : decode cL_law 1826 = .ok (.aload_n 2, 1) := by decide +kernel
theorem dL_law_1827 : decode cL_law 1827 = .ok (.invokevirtual 275, 3) := by decide +kernel
theorem dL_law_1830 : decode cL_law 1830 = .ok (.if_icmp .eq 1467, 3) := by decide +kernel
theorem dL_law_1833 : decode cL_law 1833 = .ok (.iconst 0, 1) := by decide +kernel
theorem dL_law_1834 : decode cL_law 1834 = .ok (.ireturn, 1) := by decide +kernel
theorem dL_law_1835 : decode cL_law 1835 = .ok (.aload_n 1, 1) := by decide +kernel
theorem dL_law_1836 : decode cL_law 1836 = .ok (.invokevirtual 276, 3) := by decide +kernel
theorem dL_law_1839 : decode cL_law 1839 = .ok (.aload_n 2, 1) := by decide +kernel
theorem dL_law_1840 : decode cL_law 1840 = .ok (.invokevirtual 279, 3) := by decide +kernel
theorem dL_law_1843 : decode cL_law 1843 = .ok (.if_icmp .eq 1454, 3) := by decide +kernel
theorem dL_law_1846 : decode cL_law 1846 = .ok (.iconst 0, 1) := by decide +kernel
theorem dL_law_1847 : decode cL_law 1847 = .ok (.ireturn, 1) := by decide +kernel
theorem dL_law_1848 : decode cL_law 1848 = .ok (.aload_n 1, 1) := by decide +kernel
theorem dL_law_1849 : decode cL_law 1849 = .ok (.invokevirtual 280, 3) := by decide +kernel
theorem dL_law_1852 : decode cL_law 1852 = .ok (.aload_n 2, 1) := by decide +kernel
theorem dL_law_1853 : decode cL_law 1853 = .ok (.invokevirtual 283, 3) := by decide +kernel
theorem dL_law_1856 : decode cL_law 1856 = .ok (.if_icmp .eq 1441, 3) := by decide +kernel
theorem dL_law_1859 : decode cL_law 1859 = .ok (.iconst 0, 1) := by decide +kernel
theorem dL_law_1860 : decode cL_law 1860 = .ok (.ireturn, 1) := by decide +kernel
theorem dL_law_1861 : decode cL_law 1861 = .ok (.aload_n 1, 1) := by decide +kernel
theorem dL_law_1862 : decode cL_law 1862 = .ok (.aload_n 0, 1) := by decide +kernel
theorem dL_law_1863 : decode cL_law 1863 = .ok (.iload 5, 2) := by decide +kernel
theorem dL_law_1865 : decode cL_law 1865 = .ok (.iconst 1, 1) := by decide +kernel
theorem dL_law_1866 : decode cL_law 1866 = .ok (.iadd, 1) := by decide +kernel
theorem dL_law_1867 : decode cL_law 1867 = .ok (.iaload, 1) := by decide +kernel
theorem dL_law_1868 : decode cL_law 1868 = .ok (.aload_n 3, 1) := by decide +kernel
theorem dL_law_1869 : decode cL_law 1869 = .ok (.invokestatic 284, 3) := by decide +kernel
theorem dL_law_1872 : decode cL_law 1872 = .ok (.istore 6, 2) := by decide +kernel
theorem dL_law_1874 : decode cL_law 1874 = .ok (.aload_n 2, 1) := by decide +kernel
theorem dL_law_1875 : decode cL_law 1875 = .ok (.aload_n 0, 1) := by decide +kernel
theorem dL_law_1876 : decode cL_law 1876 = .ok (.iload 5, 2) := by decide +kernel
theorem dL_law_1878 : decode cL_law 1878 = .ok (.iconst 1, 1) := by decide +kernel
theorem dL_law_1879 : decode cL_law 1879 = .ok (.iadd, 1) := by decide +kernel
theorem dL_law_1880 : decode cL_law 1880 = .ok (.iaload, 1) := by decide +kernel
theorem dL_law_1881 : decode cL_law 1881 = .ok (.invokevirtual 286, 3) := by decide +kernel
theorem dL_law_1884 : decode cL_law 1884 = .ok (.istore 7, 2) := by decide +kernel
theorem dL_law_1886 : decode cL_law 1886 = .ok (.aload_n 2, 1) := by decide +kernel
theorem dL_law_1887 : decode cL_law 1887 = .ok (.invokevirtual 170, 3) := by decide +kernel
theorem dL_law_1890 : decode cL_law 1890 = .ok (.iload 6, 2) := by decide +kernel
theorem dL_law_1892 : decode cL_law 1892 = .ok (.if_icmp .eq 5, 3) := by decide +kernel
theorem dL_law_1895 : decode cL_law 1895 = .ok (.iconst 0, 1) := by decide +kernel
theorem dL_law_1896 : decode cL_law 1896 = .ok (.ireturn, 1) := by decide +kernel
theorem dL_law_1897 : decode cL_law 1897 = .ok (.iload 6, 2) := by decide +kernel
theorem dL_law_1899 : decode cL_law 1899 = .ok (.ifCond .ne 15, 3) := by decide +kernel
theorem dL_law_1902 : decode cL_law 1902 = .ok (.aload_n 3, 1) := by decide +kernel
theorem dL_law_1903 : decode cL_law 1903 = .ok (.iconst 0, 1) := by decide +kernel
theorem dL_law_1904 : decode cL_law 1904 = .ok (.laload, 1) := by decide +kernel
theorem dL_law_1905 : decode cL_law 1905 = .ok (.iload 7, 2) := by decide +kernel
theorem dL_law_1907 : decode cL_law 1907 = .ok (.i2l, 1) := by decide +kernel
theorem dL_law_1908 : decode cL_law 1908 = .ok (.lcmp, 1) := by decide +kernel
theorem dL_law_1909 : decode cL_law 1909 = .ok (.ifCond .eq 5, 3) := by decide +kernel
theorem dL_law_1912 : decode cL_law 1912 = .ok (.iconst 0, 1) := by decide +kernel
theorem dL_law_1913 : decode cL_law 1913 = .ok (.ireturn, 1) := by decide +kernel
theorem dL_law_1914 : decode cL_law 1914 = .ok (.goto 1383, 3) := by decide +kernel
theorem dL_law_1917 : decode cL_law 1917 = .ok (.aload_n 1, 1) := by decide +kernel
theorem dL_law_1918 : decode cL_law 1918 = .ok (.aload_n 0, 1) := by decide +kernel
theorem dL_law_1919 : decode cL_law 1919 = .ok (.iload 5, 2) := by decide +kernel
theorem dL_law_1921 : decode cL_law 1921 = .ok (.iconst 1, 1) := by decide +kernel
theorem dL_law_1922 : decode cL_law 1922 = .ok (.iadd, 1) := by decide +kernel
theorem dL_law_1923 : decode cL_law 1923 = .ok (.iaload, 1) := by decide +kernel
theorem dL_law_1924 : decode cL_law 1924 = .ok (.aload_n 3, 1) := by decide +kernel
theorem dL_law_1925 : decode cL_law 1925 = .ok (.invokestatic 287, 3) := by decide +kernel
theorem dL_law_1928 : decode cL_law 1928 = .ok (.istore 6, 2) := by decide +kernel
theorem dL_law_1930 : decode cL_law 1930 = .ok (.aload_n 2, 1) := by decide +kernel
theorem dL_law_1931 : decode cL_law 1931 = .ok (.aload_n 0, 1) := by decide +kernel
theorem dL_law_1932 : decode cL_law 1932 = .ok (.iload 5, 2) := by decide +kernel
theorem dL_law_1934 : decode cL_law 1934 = .ok (.iconst 1, 1) := by decide +kernel
theorem dL_law_1935 : decode cL_law 1935 = .ok (.iadd, 1) := by decide +kernel
theorem dL_law_1936 : decode cL_law 1936 = .ok (.iaload, 1) := by decide +kernel
theorem dL_law_1937 : decode cL_law 1937 = .ok (.invokevirtual 289, 3) := by decide +kernel
theorem dL_law_1940 : decode cL_law 1940 = .ok (.istore 7, 2) := by decide +kernel
theorem dL_law_1942 : decode cL_law 1942 = .ok (.aload_n 2, 1) := by decide +kernel
theorem dL_law_1943 : decode cL_law 1943 = .ok (.invokevirtual 170, 3) := by decide +kernel
theorem dL_law_1946 : decode cL_law 1946 = .ok (.iload 6, 2) := by decide +kernel
theorem dL_law_1948 : decode cL_law 1948 = .ok (.if_icmp .eq 5, 3) := by decide +kernel
theorem dL_law_1951 : decode cL_law 1951 = .ok (.iconst 0, 1) := by decide +kernel
theorem dL_law_1952 : decode cL_law 1952 = .ok (.ireturn, 1) := by decide +kernel
theorem dL_law_1953 : decode cL_law 1953 = .ok (.iload 6, 2) := by decide +kernel
theorem dL_law_1955 : decode cL_law 1955 = .ok (.ifCond .ne 15, 3) := by decide +kernel
theorem dL_law_1958 : decode cL_law 1958 = .ok (.aload_n 3, 1) := by decide +kernel
theorem dL_law_1959 : decode cL_law 1959 = .ok (.iconst 0, 1) := by decide +kernel
theorem dL_law_1960 : decode cL_law 1960 = .ok (.laload, 1) := by decide +kernel
theorem dL_law_1961 : decode cL_law 1961 = .ok (.iload 7, 2) := by decide +kernel
theorem dL_law_1963 : decode cL_law 1963 = .ok (.i2l, 1) := by decide +kernel
theorem dL_law_1964 : decode cL_law 1964 = .ok (.lcmp, 1) := by decide +kernel
theorem dL_law_1965 : decode cL_law 1965 = .ok (.ifCond .eq 5, 3) := by decide +kernel
theorem dL_law_1968 : decode cL_law 1968 = .ok (.iconst 0, 1) := by decide +kernel
theorem dL_law_1969 : decode cL_law 1969 = .ok (.ireturn, 1) := by decide +kernel
theorem dL_law_1970 : decode cL_law 1970 = .ok (.goto 1327, 3) := by decide +kernel
theorem dL_law_1973 : decode cL_law 1973 = .ok (.aload_n 1, 1) := by decide +kernel
theorem dL_law_1974 : decode cL_law 1974 = .ok (.aload_n 0, 1) := by decide +kernel
theorem dL_law_1975 : decode cL_law 1975 = .ok (.iload 5, 2) := by decide +kernel
theorem dL_law_1977 : decode cL_law 1977 = .ok (.iconst 1, 1) := by decide +kernel
theorem dL_law_1978 : decode cL_law 1978 = .ok (.iadd, 1) := by decide +kernel
theorem dL_law_1979 : decode cL_law 1979 = .ok (.iaload, 1) := by decide +kernel
theorem dL_law_1980 : decode cL_law 1980 = .ok (.aload 4, 2) := by decide +kernel
theorem dL_law_1982 : decode cL_law 1982 = .ok (.invokestatic 290, 3) := by decide +kernel
theorem dL_law_1985 : decode cL_law 1985 = .ok (.istore 6, 2) := by decide +kernel
theorem dL_law_1987 : decode cL_law 1987 = .ok (.aload_n 2, 1) := by decide +kernel
theorem dL_law_1988 : decode cL_law 1988 = .ok (.aload_n 0, 1) := by decide +kernel
theorem dL_law_1989 : decode cL_law 1989 = .ok (.iload 5, 2) := by decide +kernel
theorem dL_law_1991 : decode cL_law 1991 = .ok (.iconst 1, 1) := by decide +kernel
theorem dL_law_1992 : decode cL_law 1992 = .ok (.iadd, 1) := by decide +kernel
theorem dL_law_1993 : decode cL_law 1993 = .ok (.iaload, 1) := by decide +kernel
theorem dL_law_1994 : decode cL_law 1994 = .ok (.invokevirtual 293, 3) := by decide +kernel
theorem dL_law_1997 : decode cL_law 1997 = .ok (.dstore 7, 2) := by decide +kernel
theorem dL_law_1999 : decode cL_law 1999 = .ok (.aload_n 2, 1) := by decide +kernel
theorem dL_law_2000 : decode cL_law 2000 = .ok (.invokevirtual 170, 3) := by decide +kernel
theorem dL_law_2003 : decode cL_law 2003 = .ok (.iload 6, 2) := by decide +kernel
theorem dL_law_2005 : decode cL_law 2005 = .ok (.if_icmp .eq 5, 3) := by decide +kernel
theorem dL_law_2008 : decode cL_law 2008 = .ok (.iconst 0, 1) := by decide +kernel
theorem dL_law_2009 : decode cL_law 2009 = .ok (.ireturn, 1) := by decide +kernel
theorem dL_law_2010 : decode cL_law 2010 = .ok (.iload 6, 2) := by decide +kernel
theorem dL_law_2012 : decode cL_law 2012 = .ok (.ifCond .ne 35, 3) := by decide +kernel
theorem dL_law_2015 : decode cL_law 2015 = .ok (.aload 4, 2) := by decide +kernel
theorem dL_law_2017 : decode cL_law 2017 = .ok (.iconst 0, 1) := by decide +kernel
theorem dL_law_2018 : decode cL_law 2018 = .ok (.daload, 1) := by decide +kernel
theorem dL_law_2019 : decode cL_law 2019 = .ok (.dload 7, 2) := by decide +kernel
theorem dL_law_2021 : decode cL_law 2021 = .ok (.dcmp .l, 1) := by decide +kernel
theorem dL_law_2022 : decode cL_law 2022 = .ok (.ifCond .eq 25, 3) := by decide +kernel
theorem dL_law_2025 : decode cL_law 2025 = .ok (.aload 4, 2) := by decide +kernel
theorem dL_law_2027 : decode cL_law 2027 = .ok (.iconst 0, 1) := by decide +kernel
theorem dL_law_2028 : decode cL_law 2028 = .ok (.daload, 1) := by decide +kernel
theorem dL_law_2029 : decode cL_law 2029 = .ok (.aload 4, 2) := by decide +kernel
theorem dL_law_2031 : decode cL_law 2031 = .ok (.iconst 0, 1) := by decide +kernel
theorem dL_law_2032 : decode cL_law 2032 = .ok (.daload, 1) := by decide +kernel
theorem dL_law_2033 : decode cL_law 2033 = .ok (.dcmp .l, 1) := by decide +kernel
theorem dL_law_2034 : decode cL_law 2034 = .ok (.ifCond .eq 11, 3) := by decide +kernel
theorem dL_law_2037 : decode cL_law 2037 = .ok (.dload 7, 2) := by decide +kernel
theorem dL_law_2039 : decode cL_law 2039 = .ok (.dload 7, 2) := by decide +kernel
theorem dL_law_2041 : decode cL_law 2041 = .ok (.dcmp .l, 1) := by decide +kernel
theorem dL_law_2042 : decode cL_law 2042 = .ok (.ifCond .ne 5, 3) := by decide +kernel
theorem dL_law_2045 : decode cL_law 2045 = .ok (.iconst 0, 1) := by decide +kernel
theorem dL_law_2046 : decode cL_law 2046 = .ok (.ireturn, 1) := by decide +kernel
theorem dL_law_2047 : decode cL_law 2047 = .ok (.goto 1250, 3) := by decide +kernel
theorem dL_law_2050 : decode cL_law 2050 = .ok (.aload_n 1, 1) := by decide +kernel
theorem dL_law_2051 : decode cL_law 2051 = .ok (.aload_n 0, 1) := by decide +kernel
theorem dL_law_2052 : decode cL_law 2052 = .ok (.iload 5, 2) := by decide +kernel
theorem dL_law_2054 : decode cL_law 2054 = .ok (.iconst 1, 1) := by decide +kernel
theorem dL_law_2055 : decode cL_law 2055 = .ok (.iadd, 1) := by decide +kernel
theorem dL_law_2056 : decode cL_law 2056 = .ok (.iaload, 1) := by decide +kernel
theorem dL_law_2057 : decode cL_law 2057 = .ok (.aload_n 0, 1) := by decide +kernel
theorem dL_law_2058 : decode cL_law 2058 = .ok (.iload 5, 2) := by decide +kernel
theorem dL_law_2060 : decode cL_law 2060 = .ok (.iconst 2, 1) := by decide +kernel
theorem dL_law_2061 : decode cL_law 2061 = .ok (.iadd, 1) := by decide +kernel
theorem dL_law_2062 : decode cL_law 2062 = .ok (.iaload, 1) := by decide +kernel
theorem dL_law_2063 : decode cL_law 2063 = .ok (.aload_n 3, 1) := by decide +kernel
theorem dL_law_2064 : decode cL_law 2064 = .ok (.invokestatic 294, 3) := by decide +kernel
theorem dL_law_2067 : decode cL_law 2067 = .ok (.istore 6, 2) := by decide +kernel
theorem dL_law_2069 : decode cL_law 2069 = .ok (.aload_n 2, 1) := by decide +kernel
theorem dL_law_2070 : decode cL_law 2070 = .ok (.aload_n 0, 1) := by decide +kernel
theorem dL_law_2071 : decode cL_law 2071 = .ok (.iload 5, 2) := by decide +kernel
theorem dL_law_2073 : decode cL_law 2073 = .ok (.iconst 1, 1) := by decide +kernel
theorem dL_law_2074 : decode cL_law 2074 = .ok (.iadd, 1) := by decide +kernel
theorem dL_law_2075 : decode cL_law 2075 = .ok (.iaload, 1) := by decide +kernel
theorem dL_law_2076 : decode cL_law 2076 = .ok (.aload_n 0, 1) := by decide +kernel
theorem dL_law_2077 : decode cL_law 2077 = .ok (.iload 5, 2) := by decide +kernel
theorem dL_law_2079 : decode cL_law 2079 = .ok (.iconst 2, 1) := by decide +kernel
theorem dL_law_2080 : decode cL_law 2080 = .ok (.iadd, 1) := by decide +kernel
theorem dL_law_2081 : decode cL_law 2081 = .ok (.iaload, 1) := by decide +kernel
theorem dL_law_2082 : decode cL_law 2082 = .ok (.invokevirtual 296, 3) := by decide +kernel
theorem dL_law_2085 : decode cL_law 2085 = .ok (.istore 7, 2) := by decide +kernel
theorem dL_law_2087 : decode cL_law 2087 = .ok (.aload_n 2, 1) := by decide +kernel
theorem dL_law_2088 : decode cL_law 2088 = .ok (.invokevirtual 170, 3) := by decide +kernel
theorem dL_law_2091 : decode cL_law 2091 = .ok (.iload 6, 2) := by decide +kernel
theorem dL_law_2093 : decode cL_law 2093 = .ok (.if_icmp .eq 5, 3) := by decide +kernel
theorem dL_law_2096 : decode cL_law 2096 = .ok (.iconst 0, 1) := by decide +kernel
theorem dL_law_2097 : decode cL_law 2097 = .ok (.ireturn, 1) := by decide +kernel
theorem dL_law_2098 : decode cL_law 2098 = .ok (.iload 6, 2) := by decide +kernel
theorem dL_law_2100 : decode cL_law 2100 = .ok (.ifCond .ne 15, 3) := by decide +kernel
theorem dL_law_2103 : decode cL_law 2103 = .ok (.aload_n 3, 1) := by decide +kernel
theorem dL_law_2104 : decode cL_law 2104 = .ok (.iconst 0, 1) := by decide +kernel
theorem dL_law_2105 : decode cL_law 2105 = .ok (.laload, 1) := by decide +kernel
theorem dL_law_2106 : decode cL_law 2106 = .ok (.iload 7, 2) := by decide +kernel
theorem dL_law_2108 : decode cL_law 2108 = .ok (.i2l, 1) := by decide +kernel
theorem dL_law_2109 : decode cL_law 2109 = .ok (.lcmp, 1) := by decide +kernel
theorem dL_law_2110 : decode cL_law 2110 = .ok (.ifCond .eq 5, 3) := by decide +kernel
theorem dL_law_2113 : decode cL_law 2113 = .ok (.iconst 0, 1) := by decide +kernel
theorem dL_law_2114 : decode cL_law 2114 = .ok (.ireturn, 1) := by decide +kernel
theorem dL_law_2115 : decode cL_law 2115 = .ok (.goto 1182, 3) := by decide +kernel
theorem dL_law_2118 : decode cL_law 2118 = .ok (.aload_n 1, 1) := by decide +kernel
theorem dL_law_2119 : decode cL_law 2119 = .ok (.aload_n 0, 1) := by decide +kernel
theorem dL_law_2120 : decode cL_law 2120 = .ok (.iload 5, 2) := by decide +kernel
theorem dL_law_2122 : decode cL_law 2122 = .ok (.iconst 1, 1) := by decide +kernel
theorem dL_law_2123 : decode cL_law 2123 = .ok (.iadd, 1) := by decide +kernel
theorem dL_law_2124 : decode cL_law 2124 = .ok (.iaload, 1) := by decide +kernel
theorem dL_law_2125 : decode cL_law 2125 = .ok (.aload_n 3, 1) := by decide +kernel
theorem dL_law_2126 : decode cL_law 2126 = .ok (.invokestatic 297, 3) := by decide +kernel
theorem dL_law_2129 : decode cL_law 2129 = .ok (.istore 6, 2) := by decide +kernel
theorem dL_law_2131 : decode cL_law 2131 = .ok (.aload_n 2, 1) := by decide +kernel
theorem dL_law_2132 : decode cL_law 2132 = .ok (.aload_n 0, 1) := by decide +kernel
theorem dL_law_2133 : decode cL_law 2133 = .ok (.iload 5, 2) := by decide +kernel
theorem dL_law_2135 : decode cL_law 2135 = .ok (.iconst 1, 1) := by decide +kernel
theorem dL_law_2136 : decode cL_law 2136 = .ok (.iadd, 1) := by decide +kernel
theorem dL_law_2137 : decode cL_law 2137 = .ok (.iaload, 1) := by decide +kernel
theorem dL_law_2138 : decode cL_law 2138 = .ok (.invokevirtual 299, 3) := by decide +kernel
theorem dL_law_2141 : decode cL_law 2141 = .ok (.istore 7, 2) := by decide +kernel
theorem dL_law_2143 : decode cL_law 2143 = .ok (.aload_n 2, 1) := by decide +kernel
theorem dL_law_2144 : decode cL_law 2144 = .ok (.invokevirtual 170, 3) := by decide +kernel
theorem dL_law_2147 : decode cL_law 2147 = .ok (.iload 6, 2) := by decide +kernel
theorem dL_law_2149 : decode cL_law 2149 = .ok (.if_icmp .eq 5, 3) := by decide +kernel
theorem dL_law_2152 : decode cL_law 2152 = .ok (.iconst 0, 1) := by decide +kernel
theorem dL_law_2153 : decode cL_law 2153 = .ok (.ireturn, 1) := by decide +kernel
theorem dL_law_2154 : decode cL_law 2154 = .ok (.iload 6, 2) := by decide +kernel
theorem dL_law_2156 : decode cL_law 2156 = .ok (.ifCond .ne 15, 3) := by decide +kernel
theorem dL_law_2159 : decode cL_law 2159 = .ok (.aload_n 3, 1) := by decide +kernel
theorem dL_law_2160 : decode cL_law 2160 = .ok (.iconst 0, 1) := by decide +kernel
theorem dL_law_2161 : decode cL_law 2161 = .ok (.laload, 1) := by decide +kernel
theorem dL_law_2162 : decode cL_law 2162 = .ok (.iload 7, 2) := by decide +kernel
theorem dL_law_2164 : decode cL_law 2164 = .ok (.i2l, 1) := by decide +kernel
theorem dL_law_2165 : decode cL_law 2165 = .ok (.lcmp, 1) := by decide +kernel
theorem dL_law_2166 : decode cL_law 2166 = .ok (.ifCond .eq 5, 3) := by decide +kernel
theorem dL_law_2169 : decode cL_law 2169 = .ok (.iconst 0, 1) := by decide +kernel
theorem dL_law_2170 : decode cL_law 2170 = .ok (.ireturn, 1) := by decide +kernel
theorem dL_law_2171 : decode cL_law 2171 = .ok (.goto 1126, 3) := by decide +kernel
theorem dL_law_2174 : decode cL_law 2174 = .ok (.aload_n 1, 1) := by decide +kernel
theorem dL_law_2175 : decode cL_law 2175 = .ok (.aload_n 0, 1) := by decide +kernel
theorem dL_law_2176 : decode cL_law 2176 = .ok (.iload 5, 2) := by decide +kernel
theorem dL_law_2178 : decode cL_law 2178 = .ok (.iconst 1, 1) := by decide +kernel
theorem dL_law_2179 : decode cL_law 2179 = .ok (.iadd, 1) := by decide +kernel
theorem dL_law_2180 : decode cL_law 2180 = .ok (.iaload, 1) := by decide +kernel
theorem dL_law_2181 : decode cL_law 2181 = .ok (.aload_n 0, 1) := by decide +kernel
theorem dL_law_2182 : decode cL_law 2182 = .ok (.iload 5, 2) := by decide +kernel
theorem dL_law_2184 : decode cL_law 2184 = .ok (.iconst 2, 1) := by decide +kernel
theorem dL_law_2185 : decode cL_law 2185 = .ok (.iadd, 1) := by decide +kernel
theorem dL_law_2186 : decode cL_law 2186 = .ok (.iaload, 1) := by decide +kernel
theorem dL_law_2187 : decode cL_law 2187 = .ok (.aload_n 3, 1) := by decide +kernel
theorem dL_law_2188 : decode cL_law 2188 = .ok (.invokestatic 300, 3) := by decide +kernel
theorem dL_law_2191 : decode cL_law 2191 = .ok (.istore 6, 2) := by decide +kernel
theorem dL_law_2193 : decode cL_law 2193 = .ok (.aload_n 2, 1) := by decide +kernel
theorem dL_law_2194 : decode cL_law 2194 = .ok (.aload_n 0, 1) := by decide +kernel
theorem dL_law_2195 : decode cL_law 2195 = .ok (.iload 5, 2) := by decide +kernel
theorem dL_law_2197 : decode cL_law 2197 = .ok (.iconst 1, 1) := by decide +kernel
theorem dL_law_2198 : decode cL_law 2198 = .ok (.iadd, 1) := by decide +kernel
theorem dL_law_2199 : decode cL_law 2199 = .ok (.iaload, 1) := by decide +kernel
theorem dL_law_2200 : decode cL_law 2200 = .ok (.aload_n 0, 1) := by decide +kernel
theorem dL_law_2201 : decode cL_law 2201 = .ok (.iload 5, 2) := by decide +kernel
theorem dL_law_2203 : decode cL_law 2203 = .ok (.iconst 2, 1) := by decide +kernel
theorem dL_law_2204 : decode cL_law 2204 = .ok (.iadd, 1) := by decide +kernel
theorem dL_law_2205 : decode cL_law 2205 = .ok (.iaload, 1) := by decide +kernel
theorem dL_law_2206 : decode cL_law 2206 = .ok (.invokevirtual 302, 3) := by decide +kernel
theorem dL_law_2209 : decode cL_law 2209 = .ok (.istore 7, 2) := by decide +kernel
theorem dL_law_2211 : decode cL_law 2211 = .ok (.aload_n 2, 1) := by decide +kernel
theorem dL_law_2212 : decode cL_law 2212 = .ok (.invokevirtual 170, 3) := by decide +kernel
theorem dL_law_2215 : decode cL_law 2215 = .ok (.iload 6, 2) := by decide +kernel
theorem dL_law_2217 : decode cL_law 2217 = .ok (.if_icmp .eq 5, 3) := by decide +kernel
theorem dL_law_2220 : decode cL_law 2220 = .ok (.iconst 0, 1) := by decide +kernel
theorem dL_law_2221 : decode cL_law 2221 = .ok (.ireturn, 1) := by decide +kernel
theorem dL_law_2222 : decode cL_law 2222 = .ok (.iload 6, 2) := by decide +kernel
theorem dL_law_2224 : decode cL_law 2224 = .ok (.ifCond .ne 15, 3) := by decide +kernel
theorem dL_law_2227 : decode cL_law 2227 = .ok (.aload_n 3, 1) := by decide +kernel
theorem dL_law_2228 : decode cL_law 2228 = .ok (.iconst 0, 1) := by decide +kernel
theorem dL_law_2229 : decode cL_law 2229 = .ok (.laload, 1) := by decide +kernel
theorem dL_law_2230 : decode cL_law 2230 = .ok (.iload 7, 2) := by decide +kernel
theorem dL_law_2232 : decode cL_law 2232 = .ok (.i2l, 1) := by decide +kernel
theorem dL_law_2233 : decode cL_law 2233 = .ok (.lcmp, 1) := by decide +kernel
theorem dL_law_2234 : decode cL_law 2234 = .ok (.ifCond .eq 5, 3) := by decide +kernel
theorem dL_law_2237 : decode cL_law 2237 = .ok (.iconst 0, 1) := by decide +kernel
theorem dL_law_2238 : decode cL_law 2238 = .ok (.ireturn, 1) := by decide +kernel
theorem dL_law_2239 : decode cL_law 2239 = .ok (.goto 1058, 3) := by decide +kernel
theorem dL_law_2242 : decode cL_law 2242 = .ok (.aload_n 1, 1) := by decide +kernel
theorem dL_law_2243 : decode cL_law 2243 = .ok (.aload_n 0, 1) := by decide +kernel
theorem dL_law_2244 : decode cL_law 2244 = .ok (.iload 5, 2) := by decide +kernel
theorem dL_law_2246 : decode cL_law 2246 = .ok (.iconst 1, 1) := by decide +kernel
theorem dL_law_2247 : decode cL_law 2247 = .ok (.iadd, 1) := by decide +kernel
theorem dL_law_2248 : decode cL_law 2248 = .ok (.iaload, 1) := by decide +kernel
theorem dL_law_2249 : decode cL_law 2249 = .ok (.aload_n 0, 1) := by decide +kernel
theorem dL_law_2250 : decode cL_law 2250 = .ok (.iload 5, 2) := by decide +kernel
theorem dL_law_2252 : decode cL_law 2252 = .ok (.iconst 2, 1) := by decide +kernel
theorem dL_law_2253 : decode cL_law 2253 = .ok (.iadd, 1) := by decide +kernel
theorem dL_law_2254 : decode cL_law 2254 = .ok (.iaload, 1) := by decide +kernel
theorem dL_law_2255 : decode cL_law 2255 = .ok (.aload_n 0, 1) := by decide +kernel
theorem dL_law_2256 : decode cL_law 2256 = .ok (.iload 5, 2) := by decide +kernel
theorem dL_law_2258 : decode cL_law 2258 = .ok (.iconst 3, 1) := by decide +kernel
theorem dL_law_2259 : decode cL_law 2259 = .ok (.iadd, 1) := by decide +kernel
theorem dL_law_2260 : decode cL_law 2260 = .ok (.iaload, 1) := by decide +kernel
theorem dL_law_2261 : decode cL_law 2261 = .ok (.aload_n 3, 1) := by decide +kernel
theorem dL_law_2262 : decode cL_law 2262 = .ok (.invokestatic 303, 3) := by decide +kernel
theorem dL_law_2265 : decode cL_law 2265 = .ok (.istore 6, 2) := by decide +kernel
theorem dL_law_2267 : decode cL_law 2267 = .ok (.aload_n 2, 1) := by decide +kernel
theorem dL_law_2268 : decode cL_law 2268 = .ok (.aload_n 0, 1) := by decide +kernel
theorem dL_law_2269 : decode cL_law 2269 = .ok (.iload 5, 2) := by decide +kernel
theorem dL_law_2271 : decode cL_law 2271 = .ok (.iconst 1, 1) := by decide +kernel
theorem dL_law_2272 : decode cL_law 2272 = .ok (.iadd, 1) := by decide +kernel
theorem dL_law_2273 : decode cL_law 2273 = .ok (.iaload, 1) := by decide +kernel
theorem dL_law_2274 : decode cL_law 2274 = .ok (.aload_n 0, 1) := by decide +kernel
theorem dL_law_2275 : decode cL_law 2275 = .ok (.iload 5, 2) := by decide +kernel
theorem dL_law_2277 : decode cL_law 2277 = .ok (.iconst 2, 1) := by decide +kernel
theorem dL_law_2278 : decode cL_law 2278 = .ok (.iadd, 1) := by decide +kernel
theorem dL_law_2279 : decode cL_law 2279 = .ok (.iaload, 1) := by decide +kernel
theorem dL_law_2280 : decode cL_law 2280 = .ok (.aload_n 0, 1) := by decide +kernel
theorem dL_law_2281 : decode cL_law 2281 = .ok (.iload 5, 2) := by decide +kernel
theorem dL_law_2283 : decode cL_law 2283 = .ok (.iconst 3, 1) := by decide +kernel
theorem dL_law_2284 : decode cL_law 2284 = .ok (.iadd, 1) := by decide +kernel
theorem dL_law_2285 : decode cL_law 2285 = .ok (.iaload, 1) := by decide +kernel
theorem dL_law_2286 : decode cL_law 2286 = .ok (.invokevirtual 305, 3) := by decide +kernel
theorem dL_law_2289 : decode cL_law 2289 = .ok (.istore 7, 2) := by decide +kernel
theorem dL_law_2291 : decode cL_law 2291 = .ok (.aload_n 2, 1) := by decide +kernel
theorem dL_law_2292 : decode cL_law 2292 = .ok (.invokevirtual 170, 3) := by decide +kernel
theorem dL_law_2295 : decode cL_law 2295 = .ok (.iload 6, 2) := by decide +kernel
theorem dL_law_2297 : decode cL_law 2297 = .ok (.if_icmp .eq 5, 3) := by decide +kernel
theorem dL_law_2300 : decode cL_law 2300 = .ok (.iconst 0, 1) := by decide +kernel
theorem dL_law_2301 : decode cL_law 2301 = .ok (.ireturn, 1) := by decide +kernel
theorem dL_law_2302 : decode cL_law 2302 = .ok (.iload 6, 2) := by decide +kernel
theorem dL_law_2304 : decode cL_law 2304 = .ok (.ifCond .ne 15, 3) := by decide +kernel
theorem dL_law_2307 : decode cL_law 2307 = .ok (.aload_n 3, 1) := by decide +kernel
theorem dL_law_2308 : decode cL_law 2308 = .ok (.iconst 0, 1) := by decide +kernel
theorem dL_law_2309 : decode cL_law 2309 = .ok (.laload, 1) := by decide +kernel
theorem dL_law_2310 : decode cL_law 2310 = .ok (.iload 7, 2) := by decide +kernel
theorem dL_law_2312 : decode cL_law 2312 = .ok (.i2l, 1) := by decide +kernel
theorem dL_law_2313 : decode cL_law 2313 = .ok (.lcmp, 1) := by decide +kernel
theorem dL_law_2314 : decode cL_law 2314 = .ok (.ifCond .eq 5, 3) := by decide +kernel
theorem dL_law_2317 : decode cL_law 2317 = .ok (.iconst 0, 1) := by decide +kernel
theorem dL_law_2318 : decode cL_law 2318 = .ok (.ireturn, 1) := by decide +kernel
theorem dL_law_2319 : decode cL_law 2319 = .ok (.goto 978, 3) := by decide +kernel
theorem dL_law_2322 : decode cL_law 2322 = .ok (.aload_n 1, 1) := by decide +kernel
theorem dL_law_2323 : decode cL_law 2323 = .ok (.aload_n 0, 1) := by decide +kernel
theorem dL_law_2324 : decode cL_law 2324 = .ok (.iload 5, 2) := by decide +kernel
theorem dL_law_2326 : decode cL_law 2326 = .ok (.iconst 1, 1) := by decide +kernel
theorem dL_law_2327 : decode cL_law 2327 = .ok (.iadd, 1) := by decide +kernel
theorem dL_law_2328 : decode cL_law 2328 = .ok (.iaload, 1) := by decide +kernel
theorem dL_law_2329 : decode cL_law 2329 = .ok (.aload_n 0, 1) := by decide +kernel
theorem dL_law_2330 : decode cL_law 2330 = .ok (.iload 5, 2) := by decide +kernel
theorem dL_law_2332 : decode cL_law 2332 = .ok (.iconst 2, 1) := by decide +kernel
theorem dL_law_2333 : decode cL_law 2333 = .ok (.iadd, 1) := by decide +kernel
theorem dL_law_2334 : decode cL_law 2334 = .ok (.iaload, 1) := by decide +kernel
theorem dL_law_2335 : decode cL_law 2335 = .ok (.aload_n 3, 1) := by decide +kernel
theorem dL_law_2336 : decode cL_law 2336 = .ok (.invokestatic 306, 3) := by decide +kernel
theorem dL_law_2339 : decode cL_law 2339 = .ok (.istore 6, 2) := by decide +kernel
theorem dL_law_2341 : decode cL_law 2341 = .ok (.aload_n 2, 1) := by decide +kernel
theorem dL_law_2342 : decode cL_law 2342 = .ok (.aload_n 0, 1) := by decide +kernel
theorem dL_law_2343 : decode cL_law 2343 = .ok (.iload 5, 2) := by decide +kernel
theorem dL_law_2345 : decode cL_law 2345 = .ok (.iconst 1, 1) := by decide +kernel
theorem dL_law_2346 : decode cL_law 2346 = .ok (.iadd, 1) := by decide +kernel
theorem dL_law_2347 : decode cL_law 2347 = .ok (.iaload, 1) := by decide +kernel
theorem dL_law_2348 : decode cL_law 2348 = .ok (.aload_n 0, 1) := by decide +kernel
theorem dL_law_2349 : decode cL_law 2349 = .ok (.iload 5, 2) := by decide +kernel
theorem dL_law_2351 : decode cL_law 2351 = .ok (.iconst 2, 1) := by decide +kernel
theorem dL_law_2352 : decode cL_law 2352 = .ok (.iadd, 1) := by decide +kernel
theorem dL_law_2353 : decode cL_law 2353 = .ok (.iaload, 1) := by decide +kernel
theorem dL_law_2354 : decode cL_law 2354 = .ok (.invokevirtual 308, 3) := by decide +kernel
theorem dL_law_2357 : decode cL_law 2357 = .ok (.istore 7, 2) := by decide +kernel
theorem dL_law_2359 : decode cL_law 2359 = .ok (.aload_n 2, 1) := by decide +kernel
theorem dL_law_2360 : decode cL_law 2360 = .ok (.invokevirtual 170, 3) := by decide +kernel
theorem dL_law_2363 : decode cL_law 2363 = .ok (.iload 6, 2) := by decide +kernel
theorem dL_law_2365 : decode cL_law 2365 = .ok (.if_icmp .eq 5, 3) := by decide +kernel
theorem dL_law_2368 : decode cL_law 2368 = .ok (.iconst 0, 1) := by decide +kernel
theorem dL_law_2369 : decode cL_law 2369 = .ok (.ireturn, 1) := by decide +kernel
theorem dL_law_2370 : decode cL_law 2370 = .ok (.iload 6, 2) := by decide +kernel
theorem dL_law_2372 : decode cL_law 2372 = .ok (.ifCond .ne 15, 3) := by decide +kernel
theorem dL_law_2375 : decode cL_law 2375 = .ok (.aload_n 3, 1) := by decide +kernel
theorem dL_law_2376 : decode cL_law 2376 = .ok (.iconst 0, 1) := by decide +kernel
theorem dL_law_2377 : decode cL_law 2377 = .ok (.laload, 1) := by decide +kernel
theorem dL_law_2378 : decode cL_law 2378 = .ok (.iload 7, 2) := by decide +kernel
theorem dL_law_2380 : decode cL_law 2380 = .ok (.i2l, 1) := by decide +kernel
theorem dL_law_2381 : decode cL_law 2381 = .ok (.lcmp, 1) := by decide +kernel
theorem dL_law_2382 : decode cL_law 2382 = .ok (.ifCond .eq 5, 3) := by decide +kernel
theorem dL_law_2385 : decode cL_law 2385 = .ok (.iconst 0, 1) := by decide +kernel
theorem dL_law_2386 : decode cL_law 2386 = .ok (.ireturn, 1) := by decide +kernel
theorem dL_law_2387 : decode cL_law 2387 = .ok (.goto 910, 3) := by decide +kernel
theorem dL_law_2390 : decode cL_law 2390 = .ok (.aload_n 1, 1) := by decide +kernel
theorem dL_law_2391 : decode cL_law 2391 = .ok (.aload_n 0, 1) := by decide +kernel
theorem dL_law_2392 : decode cL_law 2392 = .ok (.iload 5, 2) := by decide +kernel
theorem dL_law_2394 : decode cL_law 2394 = .ok (.iconst 1, 1) := by decide +kernel
theorem dL_law_2395 : decode cL_law 2395 = .ok (.iadd, 1) := by decide +kernel
theorem dL_law_2396 : decode cL_law 2396 = .ok (.iaload, 1) := by decide +kernel
theorem dL_law_2397 : decode cL_law 2397 = .ok (.aload_n 0, 1) := by decide +kernel
theorem dL_law_2398 : decode cL_law 2398 = .ok (.iload 5, 2) := by decide +kernel
theorem dL_law_2400 : decode cL_law 2400 = .ok (.iconst 2, 1) := by decide +kernel
theorem dL_law_2401 : decode cL_law 2401 = .ok (.iadd, 1) := by decide +kernel
theorem dL_law_2402 : decode cL_law 2402 = .ok (.iaload, 1) := by decide +kernel
theorem dL_law_2403 : decode cL_law 2403 = .ok (.aload_n 3, 1) := by decide +kernel
theorem dL_law_2404 : decode cL_law 2404 = .ok (.invokestatic 309, 3) := by decide +kernel
theorem dL_law_2407 : decode cL_law 2407 = .ok (.istore 6, 2) := by decide +kernel
theorem dL_law_2409 : decode cL_law 2409 = .ok (.aload_n 2, 1) := by decide +kernel
theorem dL_law_2410 : decode cL_law 2410 = .ok (.aload_n 0, 1) := by decide +kernel
theorem dL_law_2411 : decode cL_law 2411 = .ok (.iload 5, 2) := by decide +kernel
theorem dL_law_2413 : decode cL_law 2413 = .ok (.iconst 1, 1) := by decide +kernel
theorem dL_law_2414 : decode cL_law 2414 = .ok (.iadd, 1) := by decide +kernel
theorem dL_law_2415 : decode cL_law 2415 = .ok (.iaload, 1) := by decide +kernel
theorem dL_law_2416 : decode cL_law 2416 = .ok (.aload_n 0, 1) := by decide +kernel
theorem dL_law_2417 : decode cL_law 2417 = .ok (.iload 5, 2) := by decide +kernel
theorem dL_law_2419 : decode cL_law 2419 = .ok (.iconst 2, 1) := by decide +kernel
theorem dL_law_2420 : decode cL_law 2420 = .ok (.iadd, 1) := by decide +kernel
theorem dL_law_2421 : decode cL_law 2421 = .ok (.iaload, 1) := by decide +kernel
theorem dL_law_2422 : decode cL_law 2422 = .ok (.invokevirtual 311, 3) := by decide +kernel
theorem dL_law_2425 : decode cL_law 2425 = .ok (.istore 7, 2) := by decide +kernel
theorem dL_law_2427 : decode cL_law 2427 = .ok (.aload_n 2, 1) := by decide +kernel
theorem dL_law_2428 : decode cL_law 2428 = .ok (.invokevirtual 170, 3) := by decide +kernel
theorem dL_law_2431 : decode cL_law 2431 = .ok (.iload 6, 2) := by decide +kernel
theorem dL_law_2433 : decode cL_law 2433 = .ok (.if_icmp .eq 5, 3) := by decide +kernel
theorem dL_law_2436 : decode cL_law 2436 = .ok (.iconst 0, 1) := by decide +kernel
theorem dL_law_2437 : decode cL_law 2437 = .ok (.ireturn, 1) := by decide +kernel
theorem dL_law_2438 : decode cL_law 2438 = .ok (.iload 6, 2) := by decide +kernel
theorem dL_law_2440 : decode cL_law 2440 = .ok (.ifCond .ne 15, 3) := by decide +kernel
theorem dL_law_2443 : decode cL_law 2443 = .ok (.aload_n 3, 1) := by decide +kernel
theorem dL_law_2444 : decode cL_law 2444 = .ok (.iconst 0, 1) := by decide +kernel
theorem dL_law_2445 : decode cL_law 2445 = .ok (.laload, 1) := by decide +kernel
theorem dL_law_2446 : decode cL_law 2446 = .ok (.iload 7, 2) := by decide +kernel
theorem dL_law_2448 : decode cL_law 2448 = .ok (.i2l, 1) := by decide +kernel
theorem dL_law_2449 : decode cL_law 2449 = .ok (.lcmp, 1) := by decide +kernel
theorem dL_law_2450 : decode cL_law 2450 = .ok (.ifCond .eq 5, 3) := by decide +kernel
theorem dL_law_2453 : decode cL_law 2453 = .ok (.iconst 0, 1) := by decide +kernel
theorem dL_law_2454 : decode cL_law 2454 = .ok (.ireturn, 1) := by decide +kernel
theorem dL_law_2455 : decode cL_law 2455 = .ok (.goto 842, 3) := by decide +kernel
theorem dL_law_2458 : decode cL_law 2458 = .ok (.aload_n 1, 1) := by decide +kernel
theorem dL_law_2459 : decode cL_law 2459 = .ok (.aload_n 0, 1) := by decide +kernel
theorem dL_law_2460 : decode cL_law 2460 = .ok (.iload 5, 2) := by decide +kernel
theorem dL_law_2462 : decode cL_law 2462 = .ok (.iconst 1, 1) := by decide +kernel
theorem dL_law_2463 : decode cL_law 2463 = .ok (.iadd, 1) := by decide +kernel
theorem dL_law_2464 : decode cL_law 2464 = .ok (.iaload, 1) := by decide +kernel
theorem dL_law_2465 : decode cL_law 2465 = .ok (.aload_n 3, 1) := by decide +kernel
theorem dL_law_2466 : decode cL_law 2466 = .ok (.invokestatic 312, 3) := by decide +kernel
theorem dL_law_2469 : decode cL_law 2469 = .ok (.istore 6, 2) := by decide +kernel
theorem dL_law_2471 : decode cL_law 2471 = .ok (.aload_n 2, 1) := by decide +kernel
theorem dL_law_2472 : decode cL_law 2472 = .ok (.aload_n 0, 1) := by decide +kernel
theorem dL_law_2473 : decode cL_law 2473 = .ok (.iload 5, 2) := by decide +kernel
theorem dL_law_2475 : decode cL_law 2475 = .ok (.iconst 1, 1) := by decide +kernel
theorem dL_law_2476 : decode cL_law 2476 = .ok (.iadd, 1) := by decide +kernel
theorem dL_law_2477 : decode cL_law 2477 = .ok (.iaload, 1) := by decide +kernel
theorem dL_law_2478 : decode cL_law 2478 = .ok (.invokevirtual 314, 3) := by decide +kernel
theorem dL_law_2481 : decode cL_law 2481 = .ok (.istore 7, 2) := by decide +kernel
theorem dL_law_2483 : decode cL_law 2483 = .ok (.aload_n 2, 1) := by decide +kernel
theorem dL_law_2484 : decode cL_law 2484 = .ok (.invokevirtual 170, 3) := by decide +kernel
theorem dL_law_2487 : decode cL_law 2487 = .ok (.iload 6, 2) := by decide +kernel
theorem dL_law_2489 : decode cL_law 2489 = .ok (.if_icmp .eq 5, 3) := by decide +kernel
theorem dL_law_2492 : decode cL_law 2492 = .ok (.iconst 0, 1) := by decide +kernel
theorem dL_law_2493 : decode cL_law 2493 = .ok (.ireturn, 1) := by decide +kernel
theorem dL_law_2494 : decode cL_law 2494 = .ok (.iload 6, 2) := by decide +kernel
theorem dL_law_2496 : decode cL_law 2496 = .ok (.ifCond .ne 22, 3) := by decide +kernel
theorem dL_law_2499 : decode cL_law 2499 = .ok (.aload_n 3, 1) := by decide +kernel
theorem dL_law_2500 : decode cL_law 2500 = .ok (.iconst 0, 1) := by decide +kernel
theorem dL_law_2501 : decode cL_law 2501 = .ok (.laload, 1) := by decide +kernel
theorem dL_law_2502 : decode cL_law 2502 = .ok (.iload 7, 2) := by decide +kernel
theorem dL_law_2504 : decode cL_law 2504 = .ok (.ifCond .eq 7, 3) := by decide +kernel
theorem dL_law_2507 : decode cL_law 2507 = .ok (.lconst 1, 1) := by decide +kernel
theorem dL_law_2508 : decode cL_law 2508 = .ok (.goto 4, 3) := by decide +kernel
theorem dL_law_2511 : decode cL_law 2511 = .ok (.lconst 0, 1) := by decide +kernel
theorem dL_law_2512 : decode cL_law 2512 = .ok (.lcmp, 1) := by decide +kernel
theorem dL_law_2513 : decode cL_law 2513 = .ok (.ifCond .eq 5, 3) := by decide +kernel
theorem dL_law_2516 : decode cL_law 2516 = .ok (.iconst 0, 1) := by decide +kernel
theorem dL_law_2517 : decode cL_law 2517 = .ok (.ireturn, 1) := by decide +kernel
theorem dL_law_2518 : decode cL_law 2518 = .ok (.goto 779, 3) := by decide +kernel
theorem dL_law_2521 : decode cL_law 2521 = .ok (.aload_n 1, 1) := by decide +kernel
theorem dL_law_2522 : decode cL_law 2522 = .ok (.aload_n 0, 1) := by decide +kernel
theorem dL_law_2523 : decode cL_law 2523 = .ok (.iload 5, 2) := by decide +kernel
theorem dL_law_2525 : decode cL_law 2525 = .ok (.iconst 1, 1) := by decide +kernel
theorem dL_law_2526 : decode cL_law 2526 = .ok (.iadd, 1) := by decide +kernel
theorem dL_law_2527 : decode cL_law 2527 = .ok (.iaload, 1) := by decide +kernel
theorem dL_law_2528 : decode cL_law 2528 = .ok (.aload_n 0, 1) := by decide +kernel
theorem dL_law_2529 : decode cL_law 2529 = .ok (.iload 5, 2) := by decide +kernel
theorem dL_law_2531 : decode cL_law 2531 = .ok (.iconst 2, 1) := by decide +kernel
theorem dL_law_2532 : decode cL_law 2532 = .ok (.iadd, 1) := by decide +kernel
theorem dL_law_2533 : decode cL_law 2533 = .ok (.iaload, 1) := by decide +kernel
theorem dL_law_2534 : decode cL_law 2534 = .ok (.ifCond .eq 7, 3) := by decide +kernel
theorem dL_law_2537 : decode cL_law 2537 = .ok (.iconst 1, 1) := by decide +kernel
theorem dL_law_2538 : decode cL_law 2538 = .ok (.goto 4, 3) := by decide +kernel
theorem dL_law_2541 : decode cL_law 2541 = .ok (.iconst 0, 1) := by decide +kernel
theorem dL_law_2542 : decode cL_law 2542 = .ok (.aload_n 3, 1) := by decide +kernel
theorem dL_law_2543 : decode cL_law 2543 = .ok (.invokestatic 315, 3) := by decide +kernel
theorem dL_law_2546 : decode cL_law 2546 = .ok (.istore 6, 2) := by decide +kernel
theorem dL_law_2548 : decode cL_law 2548 = .ok (.aload_n 2, 1) := by decide +kernel
theorem dL_law_2549 : decode cL_law 2549 = .ok (.aload_n 0, 1) := by decide +kernel
theorem dL_law_2550 : decode cL_law 2550 = .ok (.iload 5, 2) := by decide +kernel
theorem dL_law_2552 : decode cL_law 2552 = .ok (.iconst 1, 1) := by decide +kernel
theorem dL_law_2553 : decode cL_law 2553 = .ok (.iadd, 1) := by decide +kernel
theorem dL_law_2554 : decode cL_law 2554 = .ok (.iaload, 1) := by decide +kernel
theorem dL_law_2555 : decode cL_law 2555 = .ok (.aload_n 0, 1) := by decide +kernel
theorem dL_law_2556 : decode cL_law 2556 = .ok (.iload 5, 2) := by decide +kernel
theorem dL_law_2558 : decode cL_law 2558 = .ok (.iconst 2, 1) := by decide +kernel
theorem dL_law_2559 : decode cL_law 2559 = .ok (.iadd, 1) := by decide +kernel
theorem dL_law_2560 : decode cL_law 2560 = .ok (.iaload, 1) := by decide +kernel
theorem dL_law_2561 : decode cL_law 2561 = .ok (.ifCond .eq 7, 3) := by decide +kernel
theorem dL_law_2564 : decode cL_law 2564 = .ok (.iconst 1, 1) := by decide +kernel
theorem dL_law_2565 : decode cL_law 2565 = .ok (.goto 4, 3) := by decide +kernel
theorem dL_law_2568 : decode cL_law 2568 = .ok (.iconst 0, 1) := by decide +kernel
theorem dL_law_2569 : decode cL_law 2569 = .ok (.invokevirtual 318, 3) := by decide +kernel
theorem dL_law_2572 : decode cL_law 2572 = .ok (.istore 7, 2) := by decide +kernel
theorem dL_law_2574 : decode cL_law 2574 = .ok (.aload_n 2, 1) := by decide +kernel
theorem dL_law_2575 : decode cL_law 2575 = .ok (.invokevirtual 170, 3) := by decide +kernel
theorem dL_law_2578 : decode cL_law 2578 = .ok (.iload 6, 2) := by decide +kernel
theorem dL_law_2580 : decode cL_law 2580 = .ok (.if_icmp .eq 5, 3) := by decide +kernel
theorem dL_law_2583 : decode cL_law 2583 = .ok (.iconst 0, 1) := by decide +kernel
theorem dL_law_2584 : decode cL_law 2584 = .ok (.ireturn, 1) := by decide +kernel
theorem dL_law_2585 : decode cL_law 2585 = .ok (.iload 6, 2) := by decide +kernel
theorem dL_law_2587 : decode cL_law 2587 = .ok (.ifCond .ne 15, 3) := by decide +kernel
theorem dL_law_2590 : decode cL_law 2590 = .ok (.aload_n 3, 1) := by decide +kernel
theorem dL_law_2591 : decode cL_law 2591 = .ok (.iconst 0, 1) := by decide +kernel
theorem dL_law_2592 : decode cL_law 2592 = .ok (.laload, 1) := by decide +kernel
theorem dL_law_2593 : decode cL_law 2593 = .ok (.iload 7, 2) := by decide +kernel
theorem dL_law_2595 : decode cL_law 2595 = .ok (.i2l, 1) := by decide +kernel
theorem dL_law_2596 : decode cL_law 2596 = .ok (.lcmp, 1) := by decide +kernel
theorem dL_law_2597 : decode cL_law 2597 = .ok (.ifCond .eq 5, 3) := by decide +kernel
theorem dL_law_2600 : decode cL_law 2600 = .ok (.iconst 0, 1) := by decide +kernel
theorem dL_law_2601 : decode cL_law 2601 = .ok (.ireturn, 1) := by decide +kernel
theorem dL_law_2602 : decode cL_law 2602 = .ok (.goto 695, 3) := by decide +kernel
theorem dL_law_2605 : decode cL_law 2605 = .ok (.aload_n 1, 1) := by decide +kernel
theorem dL_law_2606 : decode cL_law 2606 = .ok (.aload_n 0, 1) := by decide +kernel
theorem dL_law_2607 : decode cL_law 2607 = .ok (.iload 5, 2) := by decide +kernel
theorem dL_law_2609 : decode cL_law 2609 = .ok (.iconst 1, 1) := by decide +kernel
theorem dL_law_2610 : decode cL_law 2610 = .ok (.iadd, 1) := by decide +kernel
theorem dL_law_2611 : decode cL_law 2611 = .ok (.iaload, 1) := by decide +kernel
theorem dL_law_2612 : decode cL_law 2612 = .ok (.aload_n 3, 1) := by decide +kernel
theorem dL_law_2613 : decode cL_law 2613 = .ok (.invokestatic 319, 3) := by decide +kernel
theorem dL_law_2616 : decode cL_law 2616 = .ok (.istore 6, 2) := by decide +kernel
theorem dL_law_2618 : decode cL_law 2618 = .ok (.aload_n 2, 1) := by decide +kernel
theorem dL_law_2619 : decode cL_law 2619 = .ok (.aload_n 0, 1) := by decide +kernel
theorem dL_law_2620 : decode cL_law 2620 = .ok (.iload 5, 2) := by decide +kernel
theorem dL_law_2622 : decode cL_law 2622 = .ok (.iconst 1, 1) := by decide +kernel
theorem dL_law_2623 : decode cL_law 2623 = .ok (.iadd, 1) := by decide +kernel
theorem dL_law_2624 : decode cL_law 2624 = .ok (.iaload, 1) := by decide +kernel
theorem dL_law_2625 : decode cL_law 2625 = .ok (.invokevirtual 321, 3) := by decide +kernel
theorem dL_law_2628 : decode cL_law 2628 = .ok (.istore 7, 2) := by decide +kernel
theorem dL_law_2630 : decode cL_law 2630 = .ok (.aload_n 2, 1) := by decide +kernel
theorem dL_law_2631 : decode cL_law 2631 = .ok (.invokevirtual 170, 3) := by decide +kernel
theorem dL_law_2634 : decode cL_law 2634 = .ok (.iload 6, 2) := by decide +kernel
theorem dL_law_2636 : decode cL_law 2636 = .ok (.if_icmp .eq 5, 3) := by decide +kernel
theorem dL_law_2639 : decode cL_law 2639 = .ok (.iconst 0, 1) := by decide +kernel
theorem dL_law_2640 : decode cL_law 2640 = .ok (.ireturn, 1) := by decide +kernel
theorem dL_law_2641 : decode cL_law 2641 = .ok (.iload 6, 2) := by decide +kernel
theorem dL_law_2643 : decode cL_law 2643 = .ok (.ifCond .ne 15, 3) := by decide +kernel
theorem dL_law_2646 : decode cL_law 2646 = .ok (.aload_n 3, 1) := by decide +kernel
theorem dL_law_2647 : decode cL_law 2647 = .ok (.iconst 0, 1) := by decide +kernel
theorem dL_law_2648 : decode cL_law 2648 = .ok (.laload, 1) := by decide +kernel
theorem dL_law_2649 : decode cL_law 2649 = .ok (.iload 7, 2) := by decide +kernel
theorem dL_law_2651 : decode cL_law 2651 = .ok (.i2l, 1) := by decide +kernel
theorem dL_law_2652 : decode cL_law 2652 = .ok (.lcmp, 1) := by decide +kernel
theorem dL_law_2653 : decode cL_law 2653 = .ok (.ifCond .eq 5, 3) := by decide +kernel
theorem dL_law_2656 : decode cL_law 2656 = .ok (.iconst 0, 1) := by decide +kernel
theorem dL_law_2657 : decode cL_law 2657 = .ok (.ireturn, 1) := by decide +kernel
theorem dL_law_2658 : decode cL_law 2658 = .ok (.goto 639, 3) := by decide +kernel
theorem dL_law_2661 : decode cL_law 2661 = .ok (.aload_n 1, 1) := by decide +kernel
theorem dL_law_2662 : decode cL_law 2662 = .ok (.aload_n 0, 1) := by decide +kernel
theorem dL_law_2663 : decode cL_law 2663 = .ok (.iload 5, 2) := by decide +kernel
theorem dL_law_2665 : decode cL_law 2665 = .ok (.iconst 1, 1) := by decide +kernel
theorem dL_law_2666 : decode cL_law 2666 = .ok (.iadd, 1) := by decide +kernel
theorem dL_law_2667 : decode cL_law 2667 = .ok (.iaload, 1) := by decide +kernel
theorem dL_law_2668 : decode cL_law 2668 = .ok (.aload_n 0, 1) := by decide +kernel
theorem dL_law_2669 : decode cL_law 2669 = .ok (.iload 5, 2) := by decide +kernel
theorem dL_law_2671 : decode cL_law 2671 = .ok (.iconst 2, 1) := by decide +kernel
theorem dL_law_2672 : decode cL_law 2672 = .ok (.iadd, 1) := by decide +kernel
theorem dL_law_2673 : decode cL_law 2673 = .ok (.iaload, 1) := by decide +kernel
theorem dL_law_2674 : decode cL_law 2674 = .ok (.aload_n 3, 1) := by decide +kernel
theorem dL_law_2675 : decode cL_law 2675 = .ok (.invokestatic 322, 3) := by decide +kernel
theorem dL_law_2678 : decode cL_law 2678 = .ok (.istore 6, 2) := by decide +kernel
theorem dL_law_2680 : decode cL_law 2680 = .ok (.aload_n 2, 1) := by decide +kernel
theorem dL_law_2681 : decode cL_law 2681 = .ok (.aload_n 0, 1) := by decide +kernel
theorem dL_law_2682 : decode cL_law 2682 = .ok (.iload 5, 2) := by decide +kernel
theorem dL_law_2684 : decode cL_law 2684 = .ok (.iconst 1, 1) := by decide +kernel
theorem dL_law_2685 : decode cL_law 2685 = .ok (.iadd, 1) := by decide +kernel
theorem dL_law_2686 : decode cL_law 2686 = .ok (.iaload, 1) := by decide +kernel
theorem dL_law_2687 : decode cL_law 2687 = .ok (.aload_n 0, 1) := by decide +kernel
theorem dL_law_2688 : decode cL_law 2688 = .ok (.iload 5, 2) := by decide +kernel
theorem dL_law_2690 : decode cL_law 2690 = .ok (.iconst 2, 1) := by decide +kernel
theorem dL_law_2691 : decode cL_law 2691 = .ok (.iadd, 1) := by decide +kernel
theorem dL_law_2692 : decode cL_law 2692 = .ok (.iaload, 1) := by decide +kernel
theorem dL_law_2693 : decode cL_law 2693 = .ok (.invokevirtual 324, 3) := by decide +kernel
theorem dL_law_2696 : decode cL_law 2696 = .ok (.istore 7, 2) := by decide +kernel
theorem dL_law_2698 : decode cL_law 2698 = .ok (.aload_n 2, 1) := by decide +kernel
theorem dL_law_2699 : decode cL_law 2699 = .ok (.invokevirtual 170, 3) := by decide +kernel
theorem dL_law_2702 : decode cL_law 2702 = .ok (.iload 6, 2) := by decide +kernel
theorem dL_law_2704 : decode cL_law 2704 = .ok (.if_icmp .eq 5, 3) := by decide +kernel
theorem dL_law_2707 : decode cL_law 2707 = .ok (.iconst 0, 1) := by decide +kernel
theorem dL_law_2708 : decode cL_law 2708 = .ok (.ireturn, 1) := by decide +kernel
theorem dL_law_2709 : decode cL_law 2709 = .ok (.iload 6, 2) := by decide +kernel
theorem dL_law_2711 : decode cL_law 2711 = .ok (.ifCond .ne 15, 3) := by decide +kernel
theorem dL_law_2714 : decode cL_law 2714 = .ok (.aload_n 3, 1) := by decide +kernel
theorem dL_law_2715 : decode cL_law 2715 = .ok (.iconst 0, 1) := by decide +kernel
theorem dL_law_2716 : decode cL_law 2716 = .ok (.laload, 1) := by decide +kernel
theorem dL_law_2717 : decode cL_law 2717 = .ok (.iload 7, 2) := by decide +kernel
theorem dL_law_2719 : decode cL_law 2719 = .ok (.i2l, 1) := by decide +kernel
theorem dL_law_2720 : decode cL_law 2720 = .ok (.lcmp, 1) := by decide +kernel
theorem dL_law_2721 : decode cL_law 2721 = .ok (.ifCond .eq 5, 3) := by decide +kernel
theorem dL_law_2724 : decode cL_law 2724 = .ok (.iconst 0, 1) := by decide +kernel
theorem dL_law_2725 : decode cL_law 2725 = .ok (.ireturn, 1) := by decide +kernel
theorem dL_law_2726 : decode cL_law 2726 = .ok (.goto 571, 3) := by decide +kernel
theorem dL_law_2729 : decode cL_law 2729 = .ok (.aload_n 1, 1) := by decide +kernel
theorem dL_law_2730 : decode cL_law 2730 = .ok (.aload_n 0, 1) := by decide +kernel
theorem dL_law_2731 : decode cL_law 2731 = .ok (.iload 5, 2) := by decide +kernel
theorem dL_law_2733 : decode cL_law 2733 = .ok (.iconst 1, 1) := by decide +kernel
theorem dL_law_2734 : decode cL_law 2734 = .ok (.iadd, 1) := by decide +kernel
theorem dL_law_2735 : decode cL_law 2735 = .ok (.iaload, 1) := by decide +kernel
theorem dL_law_2736 : decode cL_law 2736 = .ok (.aload_n 3, 1) := by decide +kernel
theorem dL_law_2737 : decode cL_law 2737 = .ok (.invokestatic 325, 3) := by decide +kernel
theorem dL_law_2740 : decode cL_law 2740 = .ok (.istore 6, 2) := by decide +kernel
theorem dL_law_2742 : decode cL_law 2742 = .ok (.aload_n 2, 1) := by decide +kernel
theorem dL_law_2743 : decode cL_law 2743 = .ok (.aload_n 0, 1) := by decide +kernel
theorem dL_law_2744 : decode cL_law 2744 = .ok (.iload 5, 2) := by decide +kernel
theorem dL_law_2746 : decode cL_law 2746 = .ok (.iconst 1, 1) := by decide +kernel
theorem dL_law_2747 : decode cL_law 2747 = .ok (.iadd, 1) := by decide +kernel
theorem dL_law_2748 : decode cL_law 2748 = .ok (.iaload, 1) := by decide +kernel
theorem dL_law_2749 : decode cL_law 2749 = .ok (.invokevirtual 327, 3) := by decide +kernel
theorem dL_law_2752 : decode cL_law 2752 = .ok (.istore 7, 2) := by decide +kernel
theorem dL_law_2754 : decode cL_law 2754 = .ok (.aload_n 2, 1) := by decide +kernel
theorem dL_law_2755 : decode cL_law 2755 = .ok (.invokevirtual 170, 3) := by decide +kernel
theorem dL_law_2758 : decode cL_law 2758 = .ok (.iload 6, 2) := by decide +kernel
theorem dL_law_2760 : decode cL_law 2760 = .ok (.if_icmp .eq 5, 3) := by decide +kernel
theorem dL_law_2763 : decode cL_law 2763 = .ok (.iconst 0, 1) := by decide +kernel
theorem dL_law_2764 : decode cL_law 2764 = .ok (.ireturn, 1) := by decide +kernel
theorem dL_law_2765 : decode cL_law 2765 = .ok (.iload 6, 2) := by decide +kernel
theorem dL_law_2767 : decode cL_law 2767 = .ok (.ifCond .ne 15, 3) := by decide +kernel
theorem dL_law_2770 : decode cL_law 2770 = .ok (.aload_n 3, 1) := by decide +kernel
theorem dL_law_2771 : decode cL_law 2771 = .ok (.iconst 0, 1) := by decide +kernel
theorem dL_law_2772 : decode cL_law 2772 = .ok (.laload, 1) := by decide +kernel
theorem dL_law_2773 : decode cL_law 2773 = .ok (.iload 7, 2) := by decide +kernel
theorem dL_law_2775 : decode cL_law 2775 = .ok (.i2l, 1) := by decide +kernel
theorem dL_law_2776 : decode cL_law 2776 = .ok (.lcmp, 1) := by decide +kernel
theorem dL_law_2777 : decode cL_law 2777 = .ok (.ifCond .eq 5, 3) := by decide +kernel
theorem dL_law_2780 : decode cL_law 2780 = .ok (.iconst 0, 1) := by decide +kernel
theorem dL_law_2781 : decode cL_law 2781 = .ok (.ireturn, 1) := by decide +kernel
theorem dL_law_2782 : decode cL_law 2782 = .ok (.goto 515, 3) := by decide +kernel
theorem dL_law_2785 : decode cL_law 2785 = .ok (.aload_n 1, 1) := by decide +kernel
theorem dL_law_2786 : decode cL_law 2786 = .ok (.invokevirtual 328, 3) := by decide +kernel
theorem dL_law_2789 : decode cL_law 2789 = .ok (.aload_n 2, 1) := by decide +kernel
theorem dL_law_2790 : decode cL_law 2790 = .ok (.invokevirtual 331, 3) := by decide +kernel
theorem dL_law_2793 : decode cL_law 2793 = .ok (.if_icmp .eq 504, 3) := by decide +kernel
theorem dL_law_2796 : decode cL_law 2796 = .ok (.iconst 0, 1) := by decide +kernel
theorem dL_law_2797 : decode cL_law 2797 = .ok (.ireturn, 1) := by decide +kernel
theorem dL_law_2798 : decode cL_law 2798 = .ok (.aload_n 1, 1) := by decide +kernel
theorem dL_law_2799 : decode cL_law 2799 = .ok (.aload_n 0, 1) := by decide +kernel
theorem dL_law_2800 : decode cL_law 2800 = .ok (.iload 5, 2) := by decide +kernel
theorem dL_law_2802 : decode cL_law 2802 = .ok (.iconst 1, 1) := by decide +kernel
theorem dL_law_2803 : decode cL_law 2803 = .ok (.iadd, 1) := by decide +kernel
theorem dL_law_2804 : decode cL_law 2804 = .ok (.iaload, 1) := by decide +kernel
theorem dL_law_2805 : decode cL_law 2805 = .ok (.aload_n 3, 1) := by decide +kernel
theorem dL_law_2806 : decode cL_law 2806 = .ok (.invokestatic 332, 3) := by decide +kernel
theorem dL_law_2809 : decode cL_law 2809 = .ok (.istore 6, 2) := by decide +kernel
theorem dL_law_2811 : decode cL_law 2811 = .ok (.aload_n 2, 1) := by decide +kernel
theorem dL_law_2812 : decode cL_law 2812 = .ok (.aload_n 0, 1) := by decide +kernel
theorem dL_law_2813 : decode cL_law 2813 = .ok (.iload 5, 2) := by decide +kernel
theorem dL_law_2815 : decode cL_law 2815 = .ok (.iconst 1, 1) := by decide +kernel
theorem dL_law_2816 : decode cL_law 2816 = .ok (.iadd, 1) := by decide +kernel
theorem dL_law_2817 : decode cL_law 2817 = .ok (.iaload, 1) := by decide +kernel
theorem dL_law_2818 : decode cL_law 2818 = .ok (.invokevirtual 334, 3) := by decide +kernel
theorem dL_law_2821 : decode cL_law 2821 = .ok (.istore 7, 2) := by decide +kernel
theorem dL_law_2823 : decode cL_law 2823 = .ok (.aload_n 2, 1) := by decide +kernel
theorem dL_law_2824 : decode cL_law 2824 = .ok (.invokevirtual 170, 3) := by decide +kernel
theorem dL_law_2827 : decode cL_law 2827 = .ok (.iload 6, 2) := by decide +kernel
theorem dL_law_2829 : decode cL_law 2829 = .ok (.if_icmp .eq 5, 3) := by decide +kernel
theorem dL_law_2832 : decode cL_law 2832 = .ok (.iconst 0, 1) := by decide +kernel
theorem dL_law_2833 : decode cL_law 2833 = .ok (.ireturn, 1) := by decide +kernel
theorem dL_law_2834 : decode cL_law 2834 = .ok (.iload 6, 2) := by decide +kernel
theorem dL_law_2836 : decode cL_law 2836 = .ok (.ifCond .ne 15, 3) := by decide +kernel
theorem dL_law_2839 : decode cL_law 2839 = .ok (.aload_n 3, 1) := by decide +kernel
theorem dL_law_2840 : decode cL_law 2840 = .ok (.iconst 0, 1) := by decide +kernel
theorem dL_law_2841 : decode cL_law 2841 = .ok (.laload, 1) := by decide +kernel
theorem dL_law_2842 : decode cL_law 2842 = .ok (.iload 7, 2) := by decide +kernel
theorem dL_law_2844 : decode cL_law 2844 = .ok (.i2l, 1) := by decide +kernel
theorem dL_law_2845 : decode cL_law 2845 = .ok (.lcmp, 1) := by decide +kernel
theorem dL_law_2846 : decode cL_law 2846 = .ok (.ifCond .eq 5, 3) := by decide +kernel
theorem dL_law_2849 : decode cL_law 2849 = .ok (.iconst 0, 1) := by decide +kernel
theorem dL_law_2850 : decode cL_law 2850 = .ok (.ireturn, 1) := by decide +kernel
theorem dL_law_2851 : decode cL_law 2851 = .ok (.goto 446, 3) := by decide +kernel
theorem dL_law_2854 : decode cL_law 2854 = .ok (.aload_n 1, 1) := by decide +kernel
theorem dL_law_2855 : decode cL_law 2855 = .ok (.invokevirtual 335, 3) := by decide +kernel
theorem dL_law_2858 : decode cL_law 2858 = .ok (.aload_n 2, 1) := by decide +kernel
theorem dL_law_2859 : decode cL_law 2859 = .ok (.invokevirtual 338, 3) := by decide +kernel
theorem dL_law_2862 : decode cL_law 2862 = .ok (.if_icmp .eq 435, 3) := by decide +kernel
theorem dL_law_2865 : decode cL_law 2865 = .ok (.iconst 0, 1) := by decide +kernel
theorem dL_law_2866 : decode cL_law 2866 = .ok (.ireturn, 1) := by decide +kernel
theorem dL_law_2867 : decode cL_law 2867 = .ok (.aload_n 1, 1) := by decide +kernel
theorem dL_law_2868 : decode cL_law 2868 = .ok (.aload_n 0, 1) := by decide +kernel
theorem dL_law_2869 : decode cL_law 2869 = .ok (.iload 5, 2) := by decide +kernel
theorem dL_law_2871 : decode cL_law 2871 = .ok (.iconst 1, 1) := by decide +kernel
theorem dL_law_2872 : decode cL_law 2872 = .ok (.iadd, 1) := by decide +kernel
theorem dL_law_2873 : decode cL_law 2873 = .ok (.iaload, 1) := by decide +kernel
theorem dL_law_2874 : decode cL_law 2874 = .ok (.aload_n 3, 1) := by decide +kernel
theorem dL_law_2875 : decode cL_law 2875 = .ok (.invokestatic 339, 3) := by decide +kernel
theorem dL_law_2878 : decode cL_law 2878 = .ok (.istore 6, 2) := by decide +kernel
theorem dL_law_2880 : decode cL_law 2880 = .ok (.aload_n 2, 1) := by decide +kernel
theorem dL_law_2881 : decode cL_law 2881 = .ok (.aload_n 0, 1) := by decide +kernel
theorem dL_law_2882 : decode cL_law 2882 = .ok (.iload 5, 2) := by decide +kernel
theorem dL_law_2884 : decode cL_law 2884 = .ok (.iconst 1, 1) := by decide +kernel
theorem dL_law_2885 : decode cL_law 2885 = .ok (.iadd, 1) := by decide +kernel
theorem dL_law_2886 : decode cL_law 2886 = .ok (.iaload, 1) := by decide +kernel
theorem dL_law_2887 : decode cL_law 2887 = .ok (.invokevirtual 341, 3) := by decide +kernel
theorem dL_law_2890 : decode cL_law 2890 = .ok (.istore 7, 2) := by decide +kernel
theorem dL_law_2892 : decode cL_law 2892 = .ok (.aload_n 2, 1) := by decide +kernel
theorem dL_law_2893 : decode cL_law 2893 = .ok (.invokevirtual 170, 3) := by decide +kernel
theorem dL_law_2896 : decode cL_law 2896 = .ok (.iload 6, 2) := by decide +kernel
theorem dL_law_2898 : decode cL_law 2898 = .ok (.if_icmp .eq 5, 3) := by decide +kernel
theorem dL_law_2901 : decode cL_law 2901 = .ok (.iconst 0, 1) := by decide +kernel
theorem dL_law_2902 : decode cL_law 2902 = .ok (.ireturn, 1) := by decide +kernel
theorem dL_law_2903 : decode cL_law 2903 = .ok (.iload 6, 2) := by decide +kernel
theorem dL_law_2905 : decode cL_law 2905 = .ok (.ifCond .ne 15, 3) := by decide +kernel
theorem dL_law_2908 : decode cL_law 2908 = .ok (.aload_n 3, 1) := by decide +kernel
theorem dL_law_2909 : decode cL_law 2909 = .ok (.iconst 0, 1) := by decide +kernel
theorem dL_law_2910 : decode cL_law 2910 = .ok (.laload, 1) := by decide +kernel
theorem dL_law_2911 : decode cL_law 2911 = .ok (.iload 7, 2) := by decide +kernel
theorem dL_law_2913 : decode cL_law 2913 = .ok (.i2l, 1) := by decide +kernel
theorem dL_law_2914 : decode cL_law 2914 = .ok (.lcmp, 1) := by decide +kernel
theorem dL_law_2915 : decode cL_law 2915 = .ok (.ifCond .eq 5, 3) := by decide +kernel
theorem dL_law_2918 : decode cL_law 2918 = .ok (.iconst 0, 1) := by decide +kernel
theorem dL_law_2919 : decode cL_law 2919 = .ok (.ireturn, 1) := by decide +kernel
theorem dL_law_2920 : decode cL_law 2920 = .ok (.goto 377, 3) := by decide +kernel
theorem dL_law_2923 : decode cL_law 2923 = .ok (.aload_n 1, 1) := by decide +kernel
theorem dL_law_2924 : decode cL_law 2924 = .ok (.aload_n 0, 1) := by decide +kernel
theorem dL_law_2925 : decode cL_law 2925 = .ok (.iload 5, 2) := by decide +kernel
theorem dL_law_2927 : decode cL_law 2927 = .ok (.iconst 1, 1) := by decide +kernel
theorem dL_law_2928 : decode cL_law 2928 = .ok (.iadd, 1) := by decide +kernel
theorem dL_law_2929 : decode cL_law 2929 = .ok (.iaload, 1) := by decide +kernel
theorem dL_law_2930 : decode cL_law 2930 = .ok (.aload_n 0, 1) := by decide +kernel
theorem dL_law_2931 : decode cL_law 2931 = .ok (.iload 5, 2) := by decide +kernel
theorem dL_law_2933 : decode cL_law 2933 = .ok (.iconst 2, 1) := by decide +kernel
theorem dL_law_2934 : decode cL_law 2934 = .ok (.iadd, 1) := by decide +kernel
theorem dL_law_2935 : decode cL_law 2935 = .ok (.iaload, 1) := by decide +kernel
theorem dL_law_2936 : decode cL_law 2936 = .ok (.aload_n 3, 1) := by decide +kernel
theorem dL_law_2937 : decode cL_law 2937 = .ok (.invokestatic 342, 3) := by decide +kernel
theorem dL_law_2940 : decode cL_law 2940 = .ok (.istore 6, 2) := by decide +kernel
theorem dL_law_2942 : decode cL_law 2942 = .ok (.aload_n 2, 1) := by decide +kernel
theorem dL_law_2943 : decode cL_law 2943 = .ok (.aload_n 0, 1) := by decide +kernel
theorem dL_law_2944 : decode cL_law 2944 = .ok (.iload 5, 2) := by decide +kernel
theorem dL_law_2946 : decode cL_law 2946 = .ok (.iconst 1, 1) := by decide +kernel
theorem dL_law_2947 : decode cL_law 2947 = .ok (.iadd, 1) := by decide +kernel
theorem dL_law_2948 : decode cL_law 2948 = .ok (.iaload, 1) := by decide +kernel
theorem dL_law_2949 : decode cL_law 2949 = .ok (.aload_n 0, 1) := by decide +kernel
theorem dL_law_2950 : decode cL_law 2950 = .ok (.iload 5, 2) := by decide +kernel
theorem dL_law_2952 : decode cL_law 2952 = .ok (.iconst 2, 1) := by decide +kernel
theorem dL_law_2953 : decode cL_law 2953 = .ok (.iadd, 1) := by decide +kernel
theorem dL_law_2954 : decode cL_law 2954 = .ok (.iaload, 1) := by decide +kernel
theorem dL_law_2955 : decode cL_law 2955 = .ok (.invokevirtual 344, 3) := by decide +kernel
theorem dL_law_2958 : decode cL_law 2958 = .ok (.istore 7, 2) := by decide +kernel
theorem dL_law_2960 : decode cL_law 2960 = .ok (.aload_n 2, 1) := by decide +kernel
theorem dL_law_2961 : decode cL_law 2961 = .ok (.invokevirtual 170, 3) := by decide +kernel
theorem dL_law_2964 : decode cL_law 2964 = .ok (.iload 6, 2) := by decide +kernel
theorem dL_law_2966 : decode cL_law 2966 = .ok (.if_icmp .eq 5, 3) := by decide +kernel
theorem dL_law_2969 : decode cL_law 2969 = .ok (.iconst 0, 1) := by decide +kernel
theorem dL_law_2970 : decode cL_law 2970 = .ok (.ireturn, 1) := by decide +kernel
theorem dL_law_2971 : decode cL_law 2971 = .ok (.iload 6, 2) := by decide +kernel
theorem dL_law_2973 : decode cL_law 2973 = .ok (.ifCond .ne 15, 3) := by decide +kernel
theorem dL_law_2976 : decode cL_law 2976 = .ok (.aload_n 3, 1) := by decide +kernel
theorem dL_law_2977 : decode cL_law 2977 = .ok (.iconst 0, 1) := by decide +kernel
theorem dL_law_2978 : decode cL_law 2978 = .ok (.laload, 1) := by decide +kernel
theorem dL_law_2979 : decode cL_law 2979 = .ok (.iload 7, 2) := by decide +kernel
theorem dL_law_2981 : decode cL_law 2981 = .ok (.i2l, 1) := by decide +kernel
theorem dL_law_2982 : decode cL_law 2982 = .ok (.lcmp, 1) := by decide +kernel
theorem dL_law_2983 : decode cL_law 2983 = .ok (.ifCond .eq 5, 3) := by decide +kernel
theorem dL_law_2986 : decode cL_law 2986 = .ok (.iconst 0, 1) := by decide +kernel
theorem dL_law_2987 : decode cL_law 2987 = .ok (.ireturn, 1) := by decide +kernel
theorem dL_law_2988 : decode cL_law 2988 = .ok (.goto 309, 3) := by decide +kernel
theorem dL_law_2991 : decode cL_law 2991 = .ok (.aload_n 1, 1) := by decide +kernel
theorem dL_law_2992 : decode cL_law 2992 = .ok (.invokevirtual 345, 3) := by decide +kernel
theorem dL_law_2995 : decode cL_law 2995 = .ok (.aload_n 2, 1) := by decide +kernel
theorem dL_law_2996 : decode cL_law 2996 = .ok (.invokevirtual 348, 3) := by decide +kernel
theorem dL_law_2999 : decode cL_law 2999 = .ok (.if_icmp .eq 298, 3) := by decide +kernel
theorem dL_law_3002 : decode cL_law 3002 = .ok (.iconst 0, 1) := by decide +kernel
theorem dL_law_3003 : decode cL_law 3003 = .ok (.ireturn, 1) := by decide +kernel
theorem dL_law_3004 : decode cL_law 3004 = .ok (.aload_n 1, 1) := by decide +kernel
theorem dL_law_3005 : decode cL_law 3005 = .ok (.aload_n 0, 1) := by decide +kernel
theorem dL_law_3006 : decode cL_law 3006 = .ok (.iload 5, 2) := by decide +kernel
theorem dL_law_3008 : decode cL_law 3008 = .ok (.iconst 1, 1) := by decide +kernel
theorem dL_law_3009 : decode cL_law 3009 = .ok (.iadd, 1) := by decide +kernel
theorem dL_law_3010 : decode cL_law 3010 = .ok (.iaload, 1) := by decide +kernel
theorem dL_law_3011 : decode cL_law 3011 = .ok (.aload_n 0, 1) := by decide +kernel
theorem dL_law_3012 : decode cL_law 3012 = .ok (.iload 5, 2) := by decide +kernel
theorem dL_law_3014 : decode cL_law 3014 = .ok (.iconst 2, 1) := by decide +kernel
theorem dL_law_3015 : decode cL_law 3015 = .ok (.iadd, 1) := by decide +kernel
theorem dL_law_3016 : decode cL_law 3016 = .ok (.iaload, 1) := by decide +kernel
theorem dL_law_3017 : decode cL_law 3017 = .ok (.aload_n 3, 1) := by decide +kernel
theorem dL_law_3018 : decode cL_law 3018 = .ok (.invokestatic 349, 3) := by decide +kernel
theorem dL_law_3021 : decode cL_law 3021 = .ok (.istore 6, 2) := by decide +kernel
theorem dL_law_3023 : decode cL_law 3023 = .ok (.aload_n 2, 1) := by decide +kernel
theorem dL_law_3024 : decode cL_law 3024 = .ok (.aload_n 0, 1) := by decide +kernel
theorem dL_law_3025 : decode cL_law 3025 = .ok (.iload 5, 2) := by decide +kernel
theorem dL_law_3027 : decode cL_law 3027 = .ok (.iconst 1, 1) := by decide +kernel
theorem dL_law_3028 : decode cL_law 3028 = .ok (.iadd, 1) := by decide +kernel
theorem dL_law_3029 : decode cL_law 3029 = .ok (.iaload, 1) := by decide +kernel
theorem dL_law_3030 : decode cL_law 3030 = .ok (.aload_n 0, 1) := by decide +kernel
theorem dL_law_3031 : decode cL_law 3031 = .ok (.iload 5, 2) := by decide +kernel
theorem dL_law_3033 : decode cL_law 3033 = .ok (.iconst 2, 1) := by decide +kernel
theorem dL_law_3034 : decode cL_law 3034 = .ok (.iadd, 1) := by decide +kernel
theorem dL_law_3035 : decode cL_law 3035 = .ok (.iaload, 1) := by decide +kernel
theorem dL_law_3036 : decode cL_law 3036 = .ok (.invokevirtual 351, 3) := by decide +kernel
theorem dL_law_3039 : decode cL_law 3039 = .ok (.istore 7, 2) := by decide +kernel
theorem dL_law_3041 : decode cL_law 3041 = .ok (.aload_n 2, 1) := by decide +kernel
theorem dL_law_3042 : decode cL_law 3042 = .ok (.invokevirtual 170, 3) := by decide +kernel
theorem dL_law_3045 : decode cL_law 3045 = .ok (.iload 6, 2) := by decide +kernel
theorem dL_law_3047 : decode cL_law 3047 = .ok (.if_icmp .eq 5, 3) := by decide +kernel
theorem dL_law_3050 : decode cL_law 3050 = .ok (.iconst 0, 1) := by decide +kernel
theorem dL_law_3051 : decode cL_law 3051 = .ok (.ireturn, 1) := by decide +kernel
theorem dL_law_3052 : decode cL_law 3052 = .ok (.iload 6, 2) := by decide +kernel
theorem dL_law_3054 : decode cL_law 3054 = .ok (.ifCond .ne 15, 3) := by decide +kernel
theorem dL_law_3057 : decode cL_law 3057 = .ok (.aload_n 3, 1) := by decide +kernel
theorem dL_law_3058 : decode cL_law 3058 = .ok (.iconst 0, 1) := by decide +kernel
theorem dL_law_3059 : decode cL_law 3059 = .ok (.laload, 1) := by decide +kernel
theorem dL_law_3060 : decode cL_law 3060 = .ok (.iload 7, 2) := by decide +kernel
theorem dL_law_3062 : decode cL_law 3062 = .ok (.i2l, 1) := by decide +kernel
theorem dL_law_3063 : decode cL_law 3063 = .ok (.lcmp, 1) := by decide +kernel
theorem dL_law_3064 : decode cL_law 3064 = .ok (.ifCond .eq 5, 3) := by decide +kernel
theorem dL_law_3067 : decode cL_law 3067 = .ok (.iconst 0, 1) := by decide +kernel
theorem dL_law_3068 : decode cL_law 3068 = .ok (.ireturn, 1) := by decide +kernel
theorem dL_law_3069 : decode cL_law 3069 = .ok (.goto 228, 3) := by decide +kernel
theorem dL_law_3072 : decode cL_law 3072 = .ok (.aload_n 1, 1) := by decide +kernel
theorem dL_law_3073 : decode cL_law 3073 = .ok (.aload_n 0, 1) := by decide +kernel
theorem dL_law_3074 : decode cL_law 3074 = .ok (.iload 5, 2) := by decide +kernel
theorem dL_law_3076 : decode cL_law 3076 = .ok (.iconst 1, 1) := by decide +kernel
theorem dL_law_3077 : decode cL_law 3077 = .ok (.iadd, 1) := by decide +kernel
theorem dL_law_3078 : decode cL_law 3078 = .ok (.iaload, 1) := by decide +kernel
theorem dL_law_3079 : decode cL_law 3079 = .ok (.aload_n 3, 1) := by decide +kernel
theorem dL_law_3080 : decode cL_law 3080 = .ok (.invokestatic 352, 3) := by decide +kernel
theorem dL_law_3083 : decode cL_law 3083 = .ok (.istore 6, 2) := by decide +kernel
theorem dL_law_3085 : decode cL_law 3085 = .ok (.aload_n 2, 1) := by decide +kernel
theorem dL_law_3086 : decode cL_law 3086 = .ok (.aload_n 0, 1) := by decide +kernel
theorem dL_law_3087 : decode cL_law 3087 = .ok (.iload 5, 2) := by decide +kernel
theorem dL_law_3089 : decode cL_law 3089 = .ok (.iconst 1, 1) := by decide +kernel
theorem dL_law_3090 : decode cL_law 3090 = .ok (.iadd, 1) := by decide +kernel
theorem dL_law_3091 : decode cL_law 3091 = .ok (.iaload, 1) := by decide +kernel
theorem dL_law_3092 : decode cL_law 3092 = .ok (.invokevirtual 354, 3) := by decide +kernel
theorem dL_law_3095 : decode cL_law 3095 = .ok (.istore 7, 2) := by decide +kernel
theorem dL_law_3097 : decode cL_law 3097 = .ok (.aload_n 2, 1) := by decide +kernel
theorem dL_law_3098 : decode cL_law 3098 = .ok (.invokevirtual 170, 3) := by decide +kernel
theorem dL_law_3101 : decode cL_law 3101 = .ok (.iload 6, 2) := by decide +kernel
theorem dL_law_3103 : decode cL_law 3103 = .ok (.if_icmp .eq 5, 3) := by decide +kernel
theorem dL_law_3106 : decode cL_law 3106 = .ok (.iconst 0, 1) := by decide +kernel
theorem dL_law_3107 : decode cL_law 3107 = .ok (.ireturn, 1) := by decide +kernel
theorem dL_law_3108 : decode cL_law 3108 = .ok (.iload 6, 2) := by decide +kernel
theorem dL_law_3110 : decode cL_law 3110 = .ok (.ifCond .ne 15, 3) := by decide +kernel
theorem dL_law_3113 : decode cL_law 3113 = .ok (.aload_n 3, 1) := by decide +kernel
theorem dL_law_3114 : decode cL_law 3114 = .ok (.iconst 0, 1) := by decide +kernel
theorem dL_law_3115 : decode cL_law 3115 = .ok (.laload, 1) := by decide +kernel
theorem dL_law_3116 : decode cL_law 3116 = .ok (.iload 7, 2) := by decide +kernel
theorem dL_law_3118 : decode cL_law 3118 = .ok (.i2l, 1) := by decide +kernel
theorem dL_law_3119 : decode cL_law 3119 = .ok (.lcmp, 1) := by decide +kernel
theorem dL_law_3120 : decode cL_law 3120 = .ok (.ifCond .eq 5, 3) := by decide +kernel
theorem dL_law_3123 : decode cL_law 3123 = .ok (.iconst 0, 1) := by decide +kernel
theorem dL_law_3124 : decode cL_law 3124 = .ok (.ireturn, 1) := by decide +kernel
theorem dL_law_3125 : decode cL_law 3125 = .ok (.goto 172, 3) := by decide +kernel
theorem dL_law_3128 : decode cL_law 3128 = .ok (.aload_n 1, 1) := by decide +kernel
theorem dL_law_3129 : decode cL_law 3129 = .ok (.aload_n 3, 1) := by decide +kernel
theorem dL_law_3130 : decode cL_law 3130 = .ok (.invokestatic 355, 3) := by decide +kernel
theorem dL_law_3133 : decode cL_law 3133 = .ok (.istore 6, 2) := by decide +kernel
theorem dL_law_3135 : decode cL_law 3135 = .ok (.aload_n 2, 1) := by decide +kernel
theorem dL_law_3136 : decode cL_law 3136 = .ok (.invokevirtual 358, 3) := by decide +kernel
theorem dL_law_3139 : decode cL_law 3139 = .ok (.istore 7, 2) := by decide +kernel
theorem dL_law_3141 : decode cL_law 3141 = .ok (.aload_n 2, 1) := by decide +kernel
theorem dL_law_3142 : decode cL_law 3142 = .ok (.invokevirtual 170, 3) := by decide +kernel
theorem dL_law_3145 : decode cL_law 3145 = .ok (.iload 6, 2) := by decide +kernel
theorem dL_law_3147 : decode cL_law 3147 = .ok (.if_icmp .eq 5, 3) := by decide +kernel
theorem dL_law_3150 : decode cL_law 3150 = .ok (.iconst 0, 1) := by decide +kernel
theorem dL_law_3151 : decode cL_law 3151 = .ok (.ireturn, 1) := by decide +kernel
theorem dL_law_3152 : decode cL_law 3152 = .ok (.iload 6, 2) := by decide +kernel
theorem dL_law_3154 : decode cL_law 3154 = .ok (.ifCond .ne 15, 3) := by decide +kernel
theorem dL_law_3157 : decode cL_law 3157 = .ok (.aload_n 3, 1) := by decide +kernel
theorem dL_law_3158 : decode cL_law 3158 = .ok (.iconst 0, 1) := by decide +kernel
theorem dL_law_3159 : decode cL_law 3159 = .ok (.laload, 1) := by decide +kernel
theorem dL_law_3160 : decode cL_law 3160 = .ok (.iload 7, 2) := by decide +kernel
theorem dL_law_3162 : decode cL_law 3162 = .ok (.i2l, 1) := by decide +kernel
theorem dL_law_3163 : decode cL_law 3163 = .ok (.lcmp, 1) := by decide +kernel
theorem dL_law_3164 : decode cL_law 3164 = .ok (.ifCond .eq 5, 3) := by decide +kernel
theorem dL_law_3167 : decode cL_law 3167 = .ok (.iconst 0, 1) := by decide +kernel
theorem dL_law_3168 : decode cL_law 3168 = .ok (.ireturn, 1) := by decide +kernel
theorem dL_law_3169 : decode cL_law 3169 = .ok (.goto 128, 3) := by decide +kernel
theorem dL_law_3172 : decode cL_law 3172 = .ok (.aload_n 1, 1) := by decide +kernel
theorem dL_law_3173 : decode cL_law 3173 = .ok (.invokevirtual 359, 3) := by decide +kernel
theorem dL_law_3176 : decode cL_law 3176 = .ok (.aload_n 2, 1) := by decide +kernel
theorem dL_law_3177 : decode cL_law 3177 = .ok (.invokevirtual 362, 3) := by decide +kernel
theorem dL_law_3180 : decode cL_law 3180 = .ok (.if_icmp .eq 117, 3) := by decide +kernel
theorem dL_law_3183 : decode cL_law 3183 = .ok (.iconst 0, 1) := by decide +kernel
theorem dL_law_3184 : decode cL_law 3184 = .ok (.ireturn, 1) := by decide +kernel
theorem dL_law_3185 : decode cL_law 3185 = .ok (.aload_n 1, 1) := by decide +kernel
theorem dL_law_3186 : decode cL_law 3186 = .ok (.aload_n 0, 1) := by decide +kernel
theorem dL_law_3187 : decode cL_law 3187 = .ok (.iload 5, 2) := by decide +kernel
theorem dL_law_3189 : decode cL_law 3189 = .ok (.iconst 1, 1) := by decide +kernel
theorem dL_law_3190 : decode cL_law 3190 = .ok (.iadd, 1) := by decide +kernel
theorem dL_law_3191 : decode cL_law 3191 = .ok (.iaload, 1) := by decide +kernel
theorem dL_law_3192 : decode cL_law 3192 = .ok (.aload_n 3, 1) := by decide +kernel
theorem dL_law_3193 : decode cL_law 3193 = .ok (.invokestatic 363, 3) := by decide +kernel
theorem dL_law_3196 : decode cL_law 3196 = .ok (.istore 6, 2) := by decide +kernel
theorem dL_law_3198 : decode cL_law 3198 = .ok (.aload_n 2, 1) := by decide +kernel
theorem dL_law_3199 : decode cL_law 3199 = .ok (.aload_n 0, 1) := by decide +kernel
theorem dL_law_3200 : decode cL_law 3200 = .ok (.iload 5, 2) := by decide +kernel
theorem dL_law_3202 : decode cL_law 3202 = .ok (.iconst 1, 1) := by decide +kernel
theorem dL_law_3203 : decode cL_law 3203 = .ok (.iadd, 1) := by decide +kernel
theorem dL_law_3204 : decode cL_law 3204 = .ok (.iaload, 1) := by decide +kernel
theorem dL_law_3205 : decode cL_law 3205 = .ok (.invokevirtual 365, 3) := by decide +kernel
theorem dL_law_3208 : decode cL_law 3208 = .ok (.istore 7, 2) := by decide +kernel
theorem dL_law_3210 : decode cL_law 3210 = .ok (.aload_n 2, 1) := by decide +kernel
theorem dL_law_3211 : decode cL_law 3211 = .ok (.invokevirtual 170, 3) := by decide +kernel
theorem dL_law_3214 : decode cL_law 3214 = .ok (.iload 6, 2) := by decide +kernel
theorem dL_law_3216 : decode cL_law 3216 = .ok (.if_icmp .eq 5, 3) := by decide +kernel
theorem dL_law_3219 : decode cL_law 3219 = .ok (.iconst 0, 1) := by decide +kernel
theorem dL_law_3220 : decode cL_law 3220 = .ok (.ireturn, 1) := by decide +kernel
theorem dL_law_3221 : decode cL_law 3221 = .ok (.iload 6, 2) := by decide +kernel
theorem dL_law_3223 : decode cL_law 3223 = .ok (.ifCond .ne 15, 3) := by decide +kernel
theorem dL_law_3226 : decode cL_law 3226 = .ok (.aload_n 3, 1) := by decide +kernel
theorem dL_law_3227 : decode cL_law 3227 = .ok (.iconst 0, 1) := by decide +kernel
theorem dL_law_3228 : decode cL_law 3228 = .ok (.laload, 1) := by decide +kernel
theorem dL_law_3229 : decode cL_law 3229 = .ok (.iload 7, 2) := by decide +kernel
theorem dL_law_3231 : decode cL_law 3231 = .ok (.i2l, 1) := by decide +kernel
theorem dL_law_3232 : decode cL_law 3232 = .ok (.lcmp, 1) := by decide +kernel
theorem dL_law_3233 : decode cL_law 3233 = .ok (.ifCond .eq 5, 3) := by decide +kernel
theorem dL_law_3236 : decode cL_law 3236 = .ok (.iconst 0, 1) := by decide +kernel
theorem dL_law_3237 : decode cL_law 3237 = .ok (.ireturn, 1) := by decide +kernel
theorem dL_law_3238 : decode cL_law 3238 = .ok (.goto 59, 3) := by decide +kernel
theorem dL_law_3241 : decode cL_law 3241 = .ok (.aload_n 1, 1) := by decide +kernel
theorem dL_law_3242 : decode cL_law 3242 = .ok (.aload_n 0, 1) := by decide +kernel
theorem dL_law_3243 : decode cL_law 3243 = .ok (.iload 5, 2) := by decide +kernel
theorem dL_law_3245 : decode cL_law 3245 = .ok (.iconst 1, 1) := by decide +kernel
theorem dL_law_3246 : decode cL_law 3246 = .ok (.iadd, 1) := by decide +kernel
theorem dL_law_3247 : decode cL_law 3247 = .ok (.iaload, 1) := by decide +kernel
theorem dL_law_3248 : decode cL_law 3248 = .ok (.aload_n 3, 1) := by decide +kernel
theorem dL_law_3249 : decode cL_law 3249 = .ok (.invokestatic 366, 3) := by decide +kernel
theorem dL_law_3252 : decode cL_law 3252 = .ok (.istore 6, 2) := by decide +kernel
theorem dL_law_3254 : decode cL_law 3254 = .ok (.aload_n 2, 1) := by decide +kernel
theorem dL_law_3255 : decode cL_law 3255 = .ok (.aload_n 0, 1) := by decide +kernel
theorem dL_law_3256 : decode cL_law 3256 = .ok (.iload 5, 2) := by decide +kernel
theorem dL_law_3258 : decode cL_law 3258 = .ok (.iconst 1, 1) := by decide +kernel
theorem dL_law_3259 : decode cL_law 3259 = .ok (.iadd, 1) := by decide +kernel
theorem dL_law_3260 : decode cL_law 3260 = .ok (.iaload, 1) := by decide +kernel
theorem dL_law_3261 : decode cL_law 3261 = .ok (.invokevirtual 368, 3) := by decide +kernel
theorem dL_law_3264 : decode cL_law 3264 = .ok (.istore 7, 2) := by decide +kernel
theorem dL_law_3266 : decode cL_law 3266 = .ok (.aload_n 2, 1) := by decide +kernel
theorem dL_law_3267 : decode cL_law 3267 = .ok (.invokevirtual 170, 3) := by decide +kernel
theorem dL_law_3270 : decode cL_law 3270 = .ok (.iload 6, 2) := by decide +kernel
theorem dL_law_3272 : decode cL_law 3272 = .ok (.if_icmp .eq 5, 3) := by decide +kernel
theorem dL_law_3275 : decode cL_law 3275 = .ok (.iconst 0, 1) := by decide +kernel
theorem dL_law_3276 : decode cL_law 3276 = .ok (.ireturn, 1) := by decide +kernel
theorem dL_law_3277 : decode cL_law 3277 = .ok (.iload 6, 2) := by decide +kernel
theorem dL_law_3279 : decode cL_law 3279 = .ok (.ifCond .ne 15, 3) := by decide +kernel
theorem dL_law_3282 : decode cL_law 3282 = .ok (.aload_n 3, 1) := by decide +kernel
theorem dL_law_3283 : decode cL_law 3283 = .ok (.iconst 0, 1) := by decide +kernel
theorem dL_law_3284 : decode cL_law 3284 = .ok (.laload, 1) := by decide +kernel
theorem dL_law_3285 : decode cL_law 3285 = .ok (.iload 7, 2) := by decide +kernel
theorem dL_law_3287 : decode cL_law 3287 = .ok (.i2l, 1) := by decide +kernel
theorem dL_law_3288 : decode cL_law 3288 = .ok (.lcmp, 1) := by decide +kernel
theorem dL_law_3289 : decode cL_law 3289 = .ok (.ifCond .eq 5, 3) := by decide +kernel
theorem dL_law_3292 : decode cL_law 3292 = .ok (.iconst 0, 1) := by decide +kernel
theorem dL_law_3293 : decode cL_law 3293 = .ok (.ireturn, 1) := by decide +kernel
theorem dL_law_3294 : decode cL_law 3294 = .ok (.goto 3, 3) := by decide +kernel
theorem dL_law_3297 : decode cL_law 3297 = .ok (.iinc 5 6, 3) := by decide +kernel
theorem dL_law_3300 : decode cL_law 3300 = .ok (.goto (-3272), 3) := by decide +kernel
theorem dL_law_3303 : decode cL_law 3303 = .ok (.iconst 1, 1) := by decide +kernel
theorem dL_law_3304 : decode cL_law 3304 = .ok (.ireturn, 1) := by decide +kernel
