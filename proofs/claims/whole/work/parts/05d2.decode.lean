theorem dX11_inClass_30 : decode cX11_inClass 30 = .ok (.iconst 0, 1) := by decide +kernel
theorem dX11_inClass_31 : decode cX11_inClass 31 = .ok (.istore_n 3, 1) := by decide +kernel
theorem dX11_inClass_32 : decode cX11_inClass 32 = .ok (.iconst 0, 1) := by decide +kernel
theorem dX11_inClass_33 : decode cX11_inClass 33 = .ok (.istore 4, 2) := by decide +kernel
theorem dX11_inClass_35 : decode cX11_inClass 35 = .ok (.iload 4, 2) := by decide +kernel
theorem dX11_inClass_37 : decode cX11_inClass 37 = .ok (.aload_n 0, 1) := by decide +kernel
theorem dX11_inClass_38 : decode cX11_inClass 38 = .ok (.getfield 17, 3) := by decide +kernel
theorem dX11_inClass_41 : decode cX11_inClass 41 = .ok (.bipush 7, 2) := by decide +kernel
theorem dX11_inClass_43 : decode cX11_inClass 43 = .ok (.iaload, 1) := by decide +kernel
theorem dX11_inClass_44 : decode cX11_inClass 44 = .ok (.if_icmp .ge 44, 3) := by decide +kernel
theorem dX11_inClass_47 : decode cX11_inClass 47 = .ok (.iload_n 3, 1) := by decide +kernel
theorem dX11_inClass_48 : decode cX11_inClass 48 = .ok (.aload_n 0, 1) := by decide +kernel
theorem dX11_inClass_49 : decode cX11_inClass 49 = .ok (.iload 4, 2) := by decide +kernel
theorem dX11_inClass_51 : decode cX11_inClass 51 = .ok (.iload_n 1, 1) := by decide +kernel
theorem dX11_inClass_52 : decode cX11_inClass 52 = .ok (.invokevirtual 348, 3) := by decide +kernel
theorem dX11_inClass_55 : decode cX11_inClass 55 = .ok (.ifCond .eq 24, 3) := by decide +kernel
theorem dX11_inClass_58 : decode cX11_inClass 58 = .ok (.aload_n 0, 1) := by decide +kernel
theorem dX11_inClass_59 : decode cX11_inClass 59 = .ok (.getfield 17, 3) := by decide +kernel
theorem dX11_inClass_62 : decode cX11_inClass 62 = .ok (.iload 4, 2) := by decide +kernel
theorem dX11_inClass_64 : decode cX11_inClass 64 = .ok (.iload_n 1, 1) := by decide +kernel
theorem dX11_inClass_65 : decode cX11_inClass 65 = .ok (.invokestatic 68, 3) := by decide +kernel
theorem dX11_inClass_68 : decode cX11_inClass 68 = .ok (.iconst 1, 1) := by decide +kernel
theorem dX11_inClass_69 : decode cX11_inClass 69 = .ok (.iadd, 1) := by decide +kernel
theorem dX11_inClass_70 : decode cX11_inClass 70 = .ok (.iaload, 1) := by decide +kernel
theorem dX11_inClass_71 : decode cX11_inClass 71 = .ok (.iload_n 2, 1) := by decide +kernel
theorem dX11_inClass_72 : decode cX11_inClass 72 = .ok (.if_icmp .ne 7, 3) := by decide +kernel
theorem dX11_inClass_75 : decode cX11_inClass 75 = .ok (.iconst 1, 1) := by decide +kernel
theorem dX11_inClass_76 : decode cX11_inClass 76 = .ok (.goto 4, 3) := by decide +kernel
theorem dX11_inClass_79 : decode cX11_inClass 79 = .ok (.iconst 0, 1) := by decide +kernel
theorem dX11_inClass_80 : decode cX11_inClass 80 = .ok (.iadd, 1) := by decide +kernel
theorem dX11_inClass_81 : decode cX11_inClass 81 = .ok (.istore_n 3, 1) := by decide +kernel
theorem dX11_inClass_82 : decode cX11_inClass 82 = .ok (.iinc 4 1, 3) := by decide +kernel
theorem dX11_inClass_85 : decode cX11_inClass 85 = .ok (.goto (-50), 3) := by decide +kernel
theorem dX11_inClass_88 : decode cX11_inClass 88 = .ok (.iload_n 3, 1) := by decide +kernel
theorem dX11_inClass_89 : decode cX11_inClass 89 = .ok (.ireturn, 1) := by decide +kernel
theorem dX11_matches_0 : decode cX11_matches 0 = .ok (.aload_n 0, 1) := by decide +kernel
theorem dX11_matches_1 : decode cX11_matches 1 = .ok (.aload_n 0, 1) := by decide +kernel
theorem dX11_matches_2 : decode cX11_matches 2 = .ok (.iload_n 1, 1) := by decide +kernel
theorem dX11_matches_3 : decode cX11_matches 3 = .ok (.invokevirtual 76, 3) := by decide +kernel
theorem dX11_matches_6 : decode cX11_matches 6 = .ok (.aload_n 0, 1) := by decide +kernel
theorem dX11_matches_7 : decode cX11_matches 7 = .ok (.invokevirtual 261, 3) := by decide +kernel
theorem dX11_matches_10 : decode cX11_matches 10 = .ok (.ifCond .eq 16, 3) := by decide +kernel
theorem dX11_matches_13 : decode cX11_matches 13 = .ok (.aload_n 0, 1) := by decide +kernel
theorem dX11_matches_14 : decode cX11_matches 14 = .ok (.getfield 91, 3) := by decide +kernel
theorem dX11_matches_17 : decode cX11_matches 17 = .ok (.bipush 10, 2) := by decide +kernel
theorem dX11_matches_19 : decode cX11_matches 19 = .ok (.if_icmp .gt 7, 3) := by decide +kernel
theorem dX11_matches_22 : decode cX11_matches 22 = .ok (.iconst 1, 1) := by decide +kernel
theorem dX11_matches_23 : decode cX11_matches 23 = .ok (.goto 4, 3) := by decide +kernel
theorem dX11_matches_26 : decode cX11_matches 26 = .ok (.iconst 0, 1) := by decide +kernel
theorem dX11_matches_27 : decode cX11_matches 27 = .ok (.invokevirtual 267, 3) := by decide +kernel
theorem dX11_matches_30 : decode cX11_matches 30 = .ok (.ifCond .ne 5, 3) := by decide +kernel
theorem dX11_matches_33 : decode cX11_matches 33 = .ok (.iconst 0, 1) := by decide +kernel
theorem dX11_matches_34 : decode cX11_matches 34 = .ok (.ireturn, 1) := by decide +kernel
theorem dX11_matches_35 : decode cX11_matches 35 = .ok (.aload_n 0, 1) := by decide +kernel
theorem dX11_matches_36 : decode cX11_matches 36 = .ok (.aload_n 0, 1) := by decide +kernel
theorem dX11_matches_37 : decode cX11_matches 37 = .ok (.getfield 91, 3) := by decide +kernel
theorem dX11_matches_40 : decode cX11_matches 40 = .ok (.putfield 284, 3) := by decide +kernel
theorem dX11_matches_43 : decode cX11_matches 43 = .ok (.iconst 0, 1) := by decide +kernel
theorem dX11_matches_44 : decode cX11_matches 44 = .ok (.istore_n 2, 1) := by decide +kernel
theorem dX11_matches_45 : decode cX11_matches 45 = .ok (.iload_n 2, 1) := by decide +kernel
theorem dX11_matches_46 : decode cX11_matches 46 = .ok (.aload_n 0, 1) := by decide +kernel
theorem dX11_matches_47 : decode cX11_matches 47 = .ok (.getfield 284, 3) := by decide +kernel
theorem dX11_matches_50 : decode cX11_matches 50 = .ok (.if_icmp .ge 21, 3) := by decide +kernel
theorem dX11_matches_53 : decode cX11_matches 53 = .ok (.aload_n 0, 1) := by decide +kernel
theorem dX11_matches_54 : decode cX11_matches 54 = .ok (.getfield 38, 3) := by decide +kernel
theorem dX11_matches_57 : decode cX11_matches 57 = .ok (.iload_n 2, 1) := by decide +kernel
theorem dX11_matches_58 : decode cX11_matches 58 = .ok (.aload_n 0, 1) := by decide +kernel
theorem dX11_matches_59 : decode cX11_matches 59 = .ok (.getfield 32, 3) := by decide +kernel
theorem dX11_matches_62 : decode cX11_matches 62 = .ok (.iload_n 2, 1) := by decide +kernel
theorem dX11_matches_63 : decode cX11_matches 63 = .ok (.baload, 1) := by decide +kernel
theorem dX11_matches_64 : decode cX11_matches 64 = .ok (.iastore, 1) := by decide +kernel
theorem dX11_matches_65 : decode cX11_matches 65 = .ok (.iinc 2 1, 3) := by decide +kernel
theorem dX11_matches_68 : decode cX11_matches 68 = .ok (.goto (-23), 3) := by decide +kernel
theorem dX11_matches_71 : decode cX11_matches 71 = .ok (.aload_n 0, 1) := by decide +kernel
theorem dX11_matches_72 : decode cX11_matches 72 = .ok (.iconst 0, 1) := by decide +kernel
theorem dX11_matches_73 : decode cX11_matches 73 = .ok (.putfield 91, 3) := by decide +kernel
theorem dX11_matches_76 : decode cX11_matches 76 = .ok (.iconst 0, 1) := by decide +kernel
theorem dX11_matches_77 : decode cX11_matches 77 = .ok (.istore_n 2, 1) := by decide +kernel
theorem dX11_matches_78 : decode cX11_matches 78 = .ok (.iconst 0, 1) := by decide +kernel
theorem dX11_matches_79 : decode cX11_matches 79 = .ok (.istore_n 3, 1) := by decide +kernel
theorem dX11_matches_80 : decode cX11_matches 80 = .ok (.iload_n 3, 1) := by decide +kernel
theorem dX11_matches_81 : decode cX11_matches 81 = .ok (.aload_n 0, 1) := by decide +kernel
theorem dX11_matches_82 : decode cX11_matches 82 = .ok (.getfield 17, 3) := by decide +kernel
theorem dX11_matches_85 : decode cX11_matches 85 = .ok (.bipush 7, 2) := by decide +kernel
theorem dX11_matches_87 : decode cX11_matches 87 = .ok (.iaload, 1) := by decide +kernel
theorem dX11_matches_88 : decode cX11_matches 88 = .ok (.if_icmp .ge 34, 3) := by decide +kernel
theorem dX11_matches_91 : decode cX11_matches 91 = .ok (.iload_n 2, 1) := by decide +kernel
theorem dX11_matches_92 : decode cX11_matches 92 = .ok (.aload_n 0, 1) := by decide +kernel
theorem dX11_matches_93 : decode cX11_matches 93 = .ok (.iload_n 3, 1) := by decide +kernel
theorem dX11_matches_94 : decode cX11_matches 94 = .ok (.iload_n 1, 1) := by decide +kernel
theorem dX11_matches_95 : decode cX11_matches 95 = .ok (.invokevirtual 348, 3) := by decide +kernel
theorem dX11_matches_98 : decode cX11_matches 98 = .ok (.ifCond .eq 15, 3) := by decide +kernel
theorem dX11_matches_101 : decode cX11_matches 101 = .ok (.aload_n 0, 1) := by decide +kernel
theorem dX11_matches_102 : decode cX11_matches 102 = .ok (.iload_n 3, 1) := by decide +kernel
theorem dX11_matches_103 : decode cX11_matches 103 = .ok (.invokevirtual 296, 3) := by decide +kernel
theorem dX11_matches_106 : decode cX11_matches 106 = .ok (.ifCond .eq 7, 3) := by decide +kernel
theorem dX11_matches_109 : decode cX11_matches 109 = .ok (.iconst 1, 1) := by decide +kernel
theorem dX11_matches_110 : decode cX11_matches 110 = .ok (.goto 4, 3) := by decide +kernel
theorem dX11_matches_113 : decode cX11_matches 113 = .ok (.iconst 0, 1) := by decide +kernel
theorem dX11_matches_114 : decode cX11_matches 114 = .ok (.iadd, 1) := by decide +kernel
theorem dX11_matches_115 : decode cX11_matches 115 = .ok (.istore_n 2, 1) := by decide +kernel
theorem dX11_matches_116 : decode cX11_matches 116 = .ok (.iinc 3 1, 3) := by decide +kernel
theorem dX11_matches_119 : decode cX11_matches 119 = .ok (.goto (-39), 3) := by decide +kernel
theorem dX11_matches_122 : decode cX11_matches 122 = .ok (.iload_n 2, 1) := by decide +kernel
theorem dX11_matches_123 : decode cX11_matches 123 = .ok (.ireturn, 1) := by decide +kernel
theorem dX11_commonBytes_0 : decode cX11_commonBytes 0 = .ok (.aload_n 0, 1) := by decide +kernel
theorem dX11_commonBytes_1 : decode cX11_commonBytes 1 = .ok (.aload_n 0, 1) := by decide +kernel
theorem dX11_commonBytes_2 : decode cX11_commonBytes 2 = .ok (.iload_n 1, 1) := by decide +kernel
theorem dX11_commonBytes_3 : decode cX11_commonBytes 3 = .ok (.invokevirtual 76, 3) := by decide +kernel
theorem dX11_commonBytes_6 : decode cX11_commonBytes 6 = .ok (.ifCond .eq 15, 3) := by decide +kernel
theorem dX11_commonBytes_9 : decode cX11_commonBytes 9 = .ok (.aload_n 0, 1) := by decide +kernel
theorem dX11_commonBytes_10 : decode cX11_commonBytes 10 = .ok (.iload_n 2, 1) := by decide +kernel
theorem dX11_commonBytes_11 : decode cX11_commonBytes 11 = .ok (.invokevirtual 76, 3) := by decide +kernel
theorem dX11_commonBytes_14 : decode cX11_commonBytes 14 = .ok (.ifCond .eq 7, 3) := by decide +kernel
theorem dX11_commonBytes_17 : decode cX11_commonBytes 17 = .ok (.iconst 1, 1) := by decide +kernel
theorem dX11_commonBytes_18 : decode cX11_commonBytes 18 = .ok (.goto 4, 3) := by decide +kernel
theorem dX11_commonBytes_21 : decode cX11_commonBytes 21 = .ok (.iconst 0, 1) := by decide +kernel
theorem dX11_commonBytes_22 : decode cX11_commonBytes 22 = .ok (.invokevirtual 94, 3) := by decide +kernel
theorem dX11_commonBytes_25 : decode cX11_commonBytes 25 = .ok (.ifCond .ne 5, 3) := by decide +kernel
theorem dX11_commonBytes_28 : decode cX11_commonBytes 28 = .ok (.iconst 0, 1) := by decide +kernel
theorem dX11_commonBytes_29 : decode cX11_commonBytes 29 = .ok (.ireturn, 1) := by decide +kernel
theorem dX11_commonBytes_30 : decode cX11_commonBytes 30 = .ok (.iconst 0, 1) := by decide +kernel
theorem dX11_commonBytes_31 : decode cX11_commonBytes 31 = .ok (.istore_n 3, 1) := by decide +kernel
theorem dX11_commonBytes_32 : decode cX11_commonBytes 32 = .ok (.iconst 0, 1) := by decide +kernel
theorem dX11_commonBytes_33 : decode cX11_commonBytes 33 = .ok (.istore 4, 2) := by decide +kernel
theorem dX11_commonBytes_35 : decode cX11_commonBytes 35 = .ok (.iload 4, 2) := by decide +kernel
theorem dX11_commonBytes_37 : decode cX11_commonBytes 37 = .ok (.aload_n 0, 1) := by decide +kernel
theorem dX11_commonBytes_38 : decode cX11_commonBytes 38 = .ok (.getfield 17, 3) := by decide +kernel
theorem dX11_commonBytes_41 : decode cX11_commonBytes 41 = .ok (.bipush 8, 2) := by decide +kernel
theorem dX11_commonBytes_43 : decode cX11_commonBytes 43 = .ok (.iaload, 1) := by decide +kernel
theorem dX11_commonBytes_44 : decode cX11_commonBytes 44 = .ok (.if_icmp .ge 43, 3) := by decide +kernel
theorem dX11_commonBytes_47 : decode cX11_commonBytes 47 = .ok (.iload_n 3, 1) := by decide +kernel
theorem dX11_commonBytes_48 : decode cX11_commonBytes 48 = .ok (.aload_n 0, 1) := by decide +kernel
theorem dX11_commonBytes_49 : decode cX11_commonBytes 49 = .ok (.iload_n 1, 1) := by decide +kernel
theorem dX11_commonBytes_50 : decode cX11_commonBytes 50 = .ok (.iload 4, 2) := by decide +kernel
theorem dX11_commonBytes_52 : decode cX11_commonBytes 52 = .ok (.invokevirtual 410, 3) := by decide +kernel
theorem dX11_commonBytes_55 : decode cX11_commonBytes 55 = .ok (.ifCond .eq 23, 3) := by decide +kernel
theorem dX11_commonBytes_58 : decode cX11_commonBytes 58 = .ok (.aload_n 0, 1) := by decide +kernel
theorem dX11_commonBytes_59 : decode cX11_commonBytes 59 = .ok (.iload_n 2, 1) := by decide +kernel
theorem dX11_commonBytes_60 : decode cX11_commonBytes 60 = .ok (.iload 4, 2) := by decide +kernel
theorem dX11_commonBytes_62 : decode cX11_commonBytes 62 = .ok (.invokevirtual 410, 3) := by decide +kernel
theorem dX11_commonBytes_65 : decode cX11_commonBytes 65 = .ok (.ifCond .eq 13, 3) := by decide +kernel
theorem dX11_commonBytes_68 : decode cX11_commonBytes 68 = .ok (.aload_n 0, 1) := by decide +kernel
theorem dX11_commonBytes_69 : decode cX11_commonBytes 69 = .ok (.iload 4, 2) := by decide +kernel
theorem dX11_commonBytes_71 : decode cX11_commonBytes 71 = .ok (.iconst 0, 1) := by decide +kernel
theorem dX11_commonBytes_72 : decode cX11_commonBytes 72 = .ok (.invokevirtual 84, 3) := by decide +kernel
theorem dX11_commonBytes_75 : decode cX11_commonBytes 75 = .ok (.goto 4, 3) := by decide +kernel
theorem dX11_commonBytes_78 : decode cX11_commonBytes 78 = .ok (.iconst 0, 1) := by decide +kernel
theorem dX11_commonBytes_79 : decode cX11_commonBytes 79 = .ok (.iadd, 1) := by decide +kernel
theorem dX11_commonBytes_80 : decode cX11_commonBytes 80 = .ok (.istore_n 3, 1) := by decide +kernel
theorem dX11_commonBytes_81 : decode cX11_commonBytes 81 = .ok (.iinc 4 1, 3) := by decide +kernel
theorem dX11_commonBytes_84 : decode cX11_commonBytes 84 = .ok (.goto (-49), 3) := by decide +kernel
theorem dX11_commonBytes_87 : decode cX11_commonBytes 87 = .ok (.iload_n 3, 1) := by decide +kernel
theorem dX11_commonBytes_88 : decode cX11_commonBytes 88 = .ok (.ireturn, 1) := by decide +kernel
theorem dX11_enter_0 : decode cX11_enter 0 = .ok (.aload_n 0, 1) := by decide +kernel
theorem dX11_enter_1 : decode cX11_enter 1 = .ok (.getfield 17, 3) := by decide +kernel
theorem dX11_enter_4 : decode cX11_enter 4 = .ok (.iload_n 1, 1) := by decide +kernel
theorem dX11_enter_5 : decode cX11_enter 5 = .ok (.iload_n 2, 1) := by decide +kernel
theorem dX11_enter_6 : decode cX11_enter 6 = .ok (.invokestatic 68, 3) := by decide +kernel
theorem dX11_enter_9 : decode cX11_enter 9 = .ok (.iconst 1, 1) := by decide +kernel
theorem dX11_enter_10 : decode cX11_enter 10 = .ok (.iadd, 1) := by decide +kernel
theorem dX11_enter_11 : decode cX11_enter 11 = .ok (.iload_n 3, 1) := by decide +kernel
theorem dX11_enter_12 : decode cX11_enter 12 = .ok (.iastore, 1) := by decide +kernel
theorem dX11_enter_13 : decode cX11_enter 13 = .ok (.aload_n 0, 1) := by decide +kernel
theorem dX11_enter_14 : decode cX11_enter 14 = .ok (.getfield 17, 3) := by decide +kernel
theorem dX11_enter_17 : decode cX11_enter 17 = .ok (.iload_n 1, 1) := by decide +kernel
theorem dX11_enter_18 : decode cX11_enter 18 = .ok (.iload_n 2, 1) := by decide +kernel
theorem dX11_enter_19 : decode cX11_enter 19 = .ok (.invokestatic 68, 3) := by decide +kernel
theorem dX11_enter_22 : decode cX11_enter 22 = .ok (.iconst 2, 1) := by decide +kernel
theorem dX11_enter_23 : decode cX11_enter 23 = .ok (.iadd, 1) := by decide +kernel
theorem dX11_enter_24 : decode cX11_enter 24 = .ok (.aload_n 0, 1) := by decide +kernel
theorem dX11_enter_25 : decode cX11_enter 25 = .ok (.getfield 17, 3) := by decide +kernel
theorem dX11_enter_28 : decode cX11_enter 28 = .ok (.iconst 2, 1) := by decide +kernel
theorem dX11_enter_29 : decode cX11_enter 29 = .ok (.iaload, 1) := by decide +kernel
theorem dX11_enter_30 : decode cX11_enter 30 = .ok (.iastore, 1) := by decide +kernel
theorem dX11_enter_31 : decode cX11_enter 31 = .ok (.return_, 1) := by decide +kernel
theorem dX11_file_0 : decode cX11_file 0 = .ok (.aload_n 0, 1) := by decide +kernel
theorem dX11_file_1 : decode cX11_file 1 = .ok (.aload_n 0, 1) := by decide +kernel
theorem dX11_file_2 : decode cX11_file 2 = .ok (.iload_n 3, 1) := by decide +kernel
theorem dX11_file_3 : decode cX11_file 3 = .ok (.invokevirtual 264, 3) := by decide +kernel
theorem dX11_file_6 : decode cX11_file 6 = .ok (.ifCond .eq 16, 3) := by decide +kernel
theorem dX11_file_9 : decode cX11_file 9 = .ok (.aload_n 0, 1) := by decide +kernel
theorem dX11_file_10 : decode cX11_file 10 = .ok (.iload_n 1, 1) := by decide +kernel
theorem dX11_file_11 : decode cX11_file 11 = .ok (.iload_n 2, 1) := by decide +kernel
theorem dX11_file_12 : decode cX11_file 12 = .ok (.invokevirtual 390, 3) := by decide +kernel
theorem dX11_file_15 : decode cX11_file 15 = .ok (.ifCond .eq 7, 3) := by decide +kernel
theorem dX11_file_18 : decode cX11_file 18 = .ok (.iconst 1, 1) := by decide +kernel
theorem dX11_file_19 : decode cX11_file 19 = .ok (.goto 4, 3) := by decide +kernel
theorem dX11_file_22 : decode cX11_file 22 = .ok (.iconst 0, 1) := by decide +kernel
theorem dX11_file_23 : decode cX11_file 23 = .ok (.aload_n 0, 1) := by decide +kernel
theorem dX11_file_24 : decode cX11_file 24 = .ok (.iload_n 1, 1) := by decide +kernel
theorem dX11_file_25 : decode cX11_file 25 = .ok (.iload_n 2, 1) := by decide +kernel
theorem dX11_file_26 : decode cX11_file 26 = .ok (.invokevirtual 390, 3) := by decide +kernel
theorem dX11_file_29 : decode cX11_file 29 = .ok (.ifCond .eq 12, 3) := by decide +kernel
theorem dX11_file_32 : decode cX11_file 32 = .ok (.aload_n 0, 1) := by decide +kernel
theorem dX11_file_33 : decode cX11_file 33 = .ok (.iload_n 1, 1) := by decide +kernel
theorem dX11_file_34 : decode cX11_file 34 = .ok (.iload_n 2, 1) := by decide +kernel
theorem dX11_file_35 : decode cX11_file 35 = .ok (.invokevirtual 348, 3) := by decide +kernel
theorem dX11_file_38 : decode cX11_file 38 = .ok (.ifCond .eq 7, 3) := by decide +kernel
theorem dX11_file_41 : decode cX11_file 41 = .ok (.iconst 1, 1) := by decide +kernel
theorem dX11_file_42 : decode cX11_file 42 = .ok (.goto 4, 3) := by decide +kernel
theorem dX11_file_45 : decode cX11_file 45 = .ok (.iconst 0, 1) := by decide +kernel
theorem dX11_file_46 : decode cX11_file 46 = .ok (.invokevirtual 267, 3) := by decide +kernel
theorem dX11_file_49 : decode cX11_file 49 = .ok (.ifCond .ne 5, 3) := by decide +kernel
theorem dX11_file_52 : decode cX11_file 52 = .ok (.iconst 0, 1) := by decide +kernel
theorem dX11_file_53 : decode cX11_file 53 = .ok (.ireturn, 1) := by decide +kernel
theorem dX11_file_54 : decode cX11_file 54 = .ok (.aload_n 0, 1) := by decide +kernel
theorem dX11_file_55 : decode cX11_file 55 = .ok (.getfield 17, 3) := by decide +kernel
theorem dX11_file_58 : decode cX11_file 58 = .ok (.iload_n 1, 1) := by decide +kernel
theorem dX11_file_59 : decode cX11_file 59 = .ok (.iload_n 2, 1) := by decide +kernel
theorem dX11_file_60 : decode cX11_file 60 = .ok (.invokestatic 68, 3) := by decide +kernel
theorem dX11_file_63 : decode cX11_file 63 = .ok (.iconst 1, 1) := by decide +kernel
theorem dX11_file_64 : decode cX11_file 64 = .ok (.iadd, 1) := by decide +kernel
theorem dX11_file_65 : decode cX11_file 65 = .ok (.iaload, 1) := by decide +kernel
theorem dX11_file_66 : decode cX11_file 66 = .ok (.istore 4, 2) := by decide +kernel
theorem dX11_file_68 : decode cX11_file 68 = .ok (.iload 4, 2) := by decide +kernel
theorem dX11_file_70 : decode cX11_file 70 = .ok (.iload_n 3, 1) := by decide +kernel
theorem dX11_file_71 : decode cX11_file 71 = .ok (.if_icmp .ne 27, 3) := by decide +kernel
theorem dX11_file_74 : decode cX11_file 74 = .ok (.aload_n 0, 1) := by decide +kernel
theorem dX11_file_75 : decode cX11_file 75 = .ok (.getfield 17, 3) := by decide +kernel
theorem dX11_file_78 : decode cX11_file 78 = .ok (.iload_n 1, 1) := by decide +kernel
theorem dX11_file_79 : decode cX11_file 79 = .ok (.iload_n 2, 1) := by decide +kernel
theorem dX11_file_80 : decode cX11_file 80 = .ok (.invokestatic 68, 3) := by decide +kernel
theorem dX11_file_83 : decode cX11_file 83 = .ok (.iconst 2, 1) := by decide +kernel
theorem dX11_file_84 : decode cX11_file 84 = .ok (.iadd, 1) := by decide +kernel
theorem dX11_file_85 : decode cX11_file 85 = .ok (.iaload, 1) := by decide +kernel
theorem dX11_file_86 : decode cX11_file 86 = .ok (.aload_n 0, 1) := by decide +kernel
theorem dX11_file_87 : decode cX11_file 87 = .ok (.getfield 17, 3) := by decide +kernel
theorem dX11_file_90 : decode cX11_file 90 = .ok (.iconst 2, 1) := by decide +kernel
theorem dX11_file_91 : decode cX11_file 91 = .ok (.iaload, 1) := by decide +kernel
theorem dX11_file_92 : decode cX11_file 92 = .ok (.if_icmp .ne 6, 3) := by decide +kernel
theorem dX11_file_95 : decode cX11_file 95 = .ok (.iload 4, 2) := by decide +kernel
theorem dX11_file_97 : decode cX11_file 97 = .ok (.ireturn, 1) := by decide +kernel
theorem dX11_file_98 : decode cX11_file 98 = .ok (.aload_n 0, 1) := by decide +kernel
theorem dX11_file_99 : decode cX11_file 99 = .ok (.invokevirtual 256, 3) := by decide +kernel
theorem dX11_file_102 : decode cX11_file 102 = .ok (.aload_n 0, 1) := by decide +kernel
theorem dX11_file_103 : decode cX11_file 103 = .ok (.iload_n 1, 1) := by decide +kernel
theorem dX11_file_104 : decode cX11_file 104 = .ok (.iload_n 2, 1) := by decide +kernel
theorem dX11_file_105 : decode cX11_file 105 = .ok (.iload_n 3, 1) := by decide +kernel
theorem dX11_file_106 : decode cX11_file 106 = .ok (.invokevirtual 413, 3) := by decide +kernel
theorem dX11_file_109 : decode cX11_file 109 = .ok (.iload 4, 2) := by decide +kernel
theorem dX11_file_111 : decode cX11_file 111 = .ok (.ireturn, 1) := by decide +kernel
theorem dX11_delete_0 : decode cX11_delete 0 = .ok (.aload_n 0, 1) := by decide +kernel
theorem dX11_delete_1 : decode cX11_delete 1 = .ok (.aload_n 0, 1) := by decide +kernel
theorem dX11_delete_2 : decode cX11_delete 2 = .ok (.iload_n 1, 1) := by decide +kernel
theorem dX11_delete_3 : decode cX11_delete 3 = .ok (.iload_n 2, 1) := by decide +kernel
theorem dX11_delete_4 : decode cX11_delete 4 = .ok (.invokevirtual 390, 3) := by decide +kernel
theorem dX11_delete_7 : decode cX11_delete 7 = .ok (.aload_n 0, 1) := by decide +kernel
theorem dX11_delete_8 : decode cX11_delete 8 = .ok (.iload_n 1, 1) := by decide +kernel
theorem dX11_delete_9 : decode cX11_delete 9 = .ok (.iload_n 2, 1) := by decide +kernel
theorem dX11_delete_10 : decode cX11_delete 10 = .ok (.invokevirtual 390, 3) := by decide +kernel
theorem dX11_delete_13 : decode cX11_delete 13 = .ok (.ifCond .eq 12, 3) := by decide +kernel
theorem dX11_delete_16 : decode cX11_delete 16 = .ok (.aload_n 0, 1) := by decide +kernel
theorem dX11_delete_17 : decode cX11_delete 17 = .ok (.iload_n 1, 1) := by decide +kernel
theorem dX11_delete_18 : decode cX11_delete 18 = .ok (.iload_n 2, 1) := by decide +kernel
theorem dX11_delete_19 : decode cX11_delete 19 = .ok (.invokevirtual 348, 3) := by decide +kernel
theorem dX11_delete_22 : decode cX11_delete 22 = .ok (.ifCond .eq 7, 3) := by decide +kernel
theorem dX11_delete_25 : decode cX11_delete 25 = .ok (.iconst 1, 1) := by decide +kernel
theorem dX11_delete_26 : decode cX11_delete 26 = .ok (.goto 4, 3) := by decide +kernel
theorem dX11_delete_29 : decode cX11_delete 29 = .ok (.iconst 0, 1) := by decide +kernel
theorem dX11_delete_30 : decode cX11_delete 30 = .ok (.invokevirtual 267, 3) := by decide +kernel
theorem dX11_delete_33 : decode cX11_delete 33 = .ok (.ifCond .ne 5, 3) := by decide +kernel
theorem dX11_delete_36 : decode cX11_delete 36 = .ok (.iconst 0, 1) := by decide +kernel
theorem dX11_delete_37 : decode cX11_delete 37 = .ok (.ireturn, 1) := by decide +kernel
theorem dX11_delete_38 : decode cX11_delete 38 = .ok (.aload_n 0, 1) := by decide +kernel
theorem dX11_delete_39 : decode cX11_delete 39 = .ok (.invokevirtual 256, 3) := by decide +kernel
theorem dX11_delete_42 : decode cX11_delete 42 = .ok (.aload_n 0, 1) := by decide +kernel
theorem dX11_delete_43 : decode cX11_delete 43 = .ok (.iload_n 1, 1) := by decide +kernel
theorem dX11_delete_44 : decode cX11_delete 44 = .ok (.iload_n 2, 1) := by decide +kernel
theorem dX11_delete_45 : decode cX11_delete 45 = .ok (.iconst 1, 1) := by decide +kernel
theorem dX11_delete_46 : decode cX11_delete 46 = .ok (.invokevirtual 416, 3) := by decide +kernel
theorem dX11_delete_49 : decode cX11_delete 49 = .ok (.ireturn, 1) := by decide +kernel
theorem dX11_recover_0 : decode cX11_recover 0 = .ok (.aload_n 0, 1) := by decide +kernel
theorem dX11_recover_1 : decode cX11_recover 1 = .ok (.aload_n 0, 1) := by decide +kernel
theorem dX11_recover_2 : decode cX11_recover 2 = .ok (.iload_n 1, 1) := by decide +kernel
theorem dX11_recover_3 : decode cX11_recover 3 = .ok (.iload_n 2, 1) := by decide +kernel
theorem dX11_recover_4 : decode cX11_recover 4 = .ok (.invokevirtual 390, 3) := by decide +kernel
theorem dX11_recover_7 : decode cX11_recover 7 = .ok (.aload_n 0, 1) := by decide +kernel
theorem dX11_recover_8 : decode cX11_recover 8 = .ok (.iload_n 1, 1) := by decide +kernel
theorem dX11_recover_9 : decode cX11_recover 9 = .ok (.iload_n 2, 1) := by decide +kernel
theorem dX11_recover_10 : decode cX11_recover 10 = .ok (.invokevirtual 390, 3) := by decide +kernel
theorem dX11_recover_13 : decode cX11_recover 13 = .ok (.ifCond .eq 12, 3) := by decide +kernel
theorem dX11_recover_16 : decode cX11_recover 16 = .ok (.aload_n 0, 1) := by decide +kernel
theorem dX11_recover_17 : decode cX11_recover 17 = .ok (.iload_n 1, 1) := by decide +kernel
theorem dX11_recover_18 : decode cX11_recover 18 = .ok (.iload_n 2, 1) := by decide +kernel
theorem dX11_recover_19 : decode cX11_recover 19 = .ok (.invokevirtual 387, 3) := by decide +kernel
theorem dX11_recover_22 : decode cX11_recover 22 = .ok (.ifCond .eq 7, 3) := by decide +kernel
theorem dX11_recover_25 : decode cX11_recover 25 = .ok (.iconst 1, 1) := by decide +kernel
theorem dX11_recover_26 : decode cX11_recover 26 = .ok (.goto 4, 3) := by decide +kernel
theorem dX11_recover_29 : decode cX11_recover 29 = .ok (.iconst 0, 1) := by decide +kernel
theorem dX11_recover_30 : decode cX11_recover 30 = .ok (.invokevirtual 267, 3) := by decide +kernel
theorem dX11_recover_33 : decode cX11_recover 33 = .ok (.ifCond .ne 5, 3) := by decide +kernel
theorem dX11_recover_36 : decode cX11_recover 36 = .ok (.iconst 0, 1) := by decide +kernel
theorem dX11_recover_37 : decode cX11_recover 37 = .ok (.ireturn, 1) := by decide +kernel
theorem dX11_recover_38 : decode cX11_recover 38 = .ok (.aload_n 0, 1) := by decide +kernel
theorem dX11_recover_39 : decode cX11_recover 39 = .ok (.invokevirtual 256, 3) := by decide +kernel
theorem dX11_recover_42 : decode cX11_recover 42 = .ok (.aload_n 0, 1) := by decide +kernel
theorem dX11_recover_43 : decode cX11_recover 43 = .ok (.iload_n 1, 1) := by decide +kernel
theorem dX11_recover_44 : decode cX11_recover 44 = .ok (.iload_n 2, 1) := by decide +kernel
theorem dX11_recover_45 : decode cX11_recover 45 = .ok (.invokevirtual 79, 3) := by decide +kernel
theorem dX11_recover_48 : decode cX11_recover 48 = .ok (.istore_n 3, 1) := by decide +kernel
theorem dX11_recover_49 : decode cX11_recover 49 = .ok (.aload_n 0, 1) := by decide +kernel
theorem dX11_recover_50 : decode cX11_recover 50 = .ok (.getfield 17, 3) := by decide +kernel
theorem dX11_recover_53 : decode cX11_recover 53 = .ok (.iload_n 1, 1) := by decide +kernel
theorem dX11_recover_54 : decode cX11_recover 54 = .ok (.iload_n 2, 1) := by decide +kernel
theorem dX11_recover_55 : decode cX11_recover 55 = .ok (.invokestatic 68, 3) := by decide +kernel
theorem dX11_recover_58 : decode cX11_recover 58 = .ok (.iconst 0, 1) := by decide +kernel
theorem dX11_recover_59 : decode cX11_recover 59 = .ok (.iadd, 1) := by decide +kernel
theorem dX11_recover_60 : decode cX11_recover 60 = .ok (.iconst 0, 1) := by decide +kernel
theorem dX11_recover_61 : decode cX11_recover 61 = .ok (.iastore, 1) := by decide +kernel
theorem dX11_recover_62 : decode cX11_recover 62 = .ok (.aload_n 0, 1) := by decide +kernel
theorem dX11_recover_63 : decode cX11_recover 63 = .ok (.getfield 17, 3) := by decide +kernel
theorem dX11_recover_66 : decode cX11_recover 66 = .ok (.iload_n 1, 1) := by decide +kernel
theorem dX11_recover_67 : decode cX11_recover 67 = .ok (.iload_n 2, 1) := by decide +kernel
theorem dX11_recover_68 : decode cX11_recover 68 = .ok (.invokestatic 68, 3) := by decide +kernel
theorem dX11_recover_71 : decode cX11_recover 71 = .ok (.iconst 2, 1) := by decide +kernel
theorem dX11_recover_72 : decode cX11_recover 72 = .ok (.iadd, 1) := by decide +kernel
theorem dX11_recover_73 : decode cX11_recover 73 = .ok (.aload_n 0, 1) := by decide +kernel
theorem dX11_recover_74 : decode cX11_recover 74 = .ok (.getfield 17, 3) := by decide +kernel
theorem dX11_recover_77 : decode cX11_recover 77 = .ok (.iconst 2, 1) := by decide +kernel
theorem dX11_recover_78 : decode cX11_recover 78 = .ok (.iaload, 1) := by decide +kernel
theorem dX11_recover_79 : decode cX11_recover 79 = .ok (.iastore, 1) := by decide +kernel
theorem dX11_recover_80 : decode cX11_recover 80 = .ok (.iload_n 3, 1) := by decide +kernel
theorem dX11_recover_81 : decode cX11_recover 81 = .ok (.ireturn, 1) := by decide +kernel
theorem dX11_isActive_0 : decode cX11_isActive 0 = .ok (.aload_n 0, 1) := by decide +kernel
theorem dX11_isActive_1 : decode cX11_isActive 1 = .ok (.aload_n 0, 1) := by decide +kernel
theorem dX11_isActive_2 : decode cX11_isActive 2 = .ok (.iload_n 1, 1) := by decide +kernel
theorem dX11_isActive_3 : decode cX11_isActive 3 = .ok (.invokevirtual 419, 3) := by decide +kernel
theorem dX11_isActive_6 : decode cX11_isActive 6 = .ok (.invokevirtual 94, 3) := by decide +kernel
theorem dX11_isActive_9 : decode cX11_isActive 9 = .ok (.ifCond .eq 17, 3) := by decide +kernel
theorem dX11_isActive_12 : decode cX11_isActive 12 = .ok (.aload_n 0, 1) := by decide +kernel
theorem dX11_isActive_13 : decode cX11_isActive 13 = .ok (.iload_n 1, 1) := by decide +kernel
theorem dX11_isActive_14 : decode cX11_isActive 14 = .ok (.iconst 3, 1) := by decide +kernel
theorem dX11_isActive_15 : decode cX11_isActive 15 = .ok (.invokevirtual 293, 3) := by decide +kernel
theorem dX11_isActive_18 : decode cX11_isActive 18 = .ok (.iconst 1, 1) := by decide +kernel
theorem dX11_isActive_19 : decode cX11_isActive 19 = .ok (.if_icmp .ne 7, 3) := by decide +kernel
theorem dX11_isActive_22 : decode cX11_isActive 22 = .ok (.iconst 1, 1) := by decide +kernel
theorem dX11_isActive_23 : decode cX11_isActive 23 = .ok (.goto 4, 3) := by decide +kernel
theorem dX11_isActive_26 : decode cX11_isActive 26 = .ok (.iconst 0, 1) := by decide +kernel
theorem dX11_isActive_27 : decode cX11_isActive 27 = .ok (.ireturn, 1) := by decide +kernel
theorem dX11_release_0 : decode cX11_release 0 = .ok (.iconst 0, 1) := by decide +kernel
theorem dX11_release_1 : decode cX11_release 1 = .ok (.istore_n 2, 1) := by decide +kernel
theorem dX11_release_2 : decode cX11_release 2 = .ok (.iconst 0, 1) := by decide +kernel
theorem dX11_release_3 : decode cX11_release 3 = .ok (.istore_n 3, 1) := by decide +kernel
theorem dX11_release_4 : decode cX11_release 4 = .ok (.iload_n 3, 1) := by decide +kernel
theorem dX11_release_5 : decode cX11_release 5 = .ok (.aload_n 0, 1) := by decide +kernel
theorem dX11_release_6 : decode cX11_release 6 = .ok (.getfield 17, 3) := by decide +kernel
theorem dX11_release_9 : decode cX11_release 9 = .ok (.bipush 7, 2) := by decide +kernel
theorem dX11_release_11 : decode cX11_release 11 = .ok (.iaload, 1) := by decide +kernel
theorem dX11_release_12 : decode cX11_release 12 = .ok (.if_icmp .ge 57, 3) := by decide +kernel
theorem dX11_release_15 : decode cX11_release 15 = .ok (.aload_n 0, 1) := by decide +kernel
theorem dX11_release_16 : decode cX11_release 16 = .ok (.iload_n 3, 1) := by decide +kernel
theorem dX11_release_17 : decode cX11_release 17 = .ok (.iload_n 1, 1) := by decide +kernel
theorem dX11_release_18 : decode cX11_release 18 = .ok (.invokevirtual 387, 3) := by decide +kernel
theorem dX11_release_21 : decode cX11_release 21 = .ok (.ifCond .eq 42, 3) := by decide +kernel
theorem dX11_release_24 : decode cX11_release 24 = .ok (.aload_n 0, 1) := by decide +kernel
theorem dX11_release_25 : decode cX11_release 25 = .ok (.iload_n 3, 1) := by decide +kernel
theorem dX11_release_26 : decode cX11_release 26 = .ok (.iload_n 1, 1) := by decide +kernel
theorem dX11_release_27 : decode cX11_release 27 = .ok (.invokevirtual 319, 3) := by decide +kernel
theorem dX11_release_30 : decode cX11_release 30 = .ok (.ifCond .eq 6, 3) := by decide +kernel
theorem dX11_release_33 : decode cX11_release 33 = .ok (.goto 30, 3) := by decide +kernel
theorem dX11_release_36 : decode cX11_release 36 = .ok (.aload_n 0, 1) := by decide +kernel
theorem dX11_release_37 : decode cX11_release 37 = .ok (.getfield 17, 3) := by decide +kernel
theorem dX11_release_40 : decode cX11_release 40 = .ok (.iload_n 3, 1) := by decide +kernel
theorem dX11_release_41 : decode cX11_release 41 = .ok (.iload_n 1, 1) := by decide +kernel
theorem dX11_release_42 : decode cX11_release 42 = .ok (.invokestatic 68, 3) := by decide +kernel
theorem dX11_release_45 : decode cX11_release 45 = .ok (.iconst 0, 1) := by decide +kernel
theorem dX11_release_46 : decode cX11_release 46 = .ok (.iadd, 1) := by decide +kernel
theorem dX11_release_47 : decode cX11_release 47 = .ok (.iconst 3, 1) := by decide +kernel
theorem dX11_release_48 : decode cX11_release 48 = .ok (.iastore, 1) := by decide +kernel
theorem dX11_release_49 : decode cX11_release 49 = .ok (.aload_n 0, 1) := by decide +kernel
theorem dX11_release_50 : decode cX11_release 50 = .ok (.iconst 4, 1) := by decide +kernel
theorem dX11_release_51 : decode cX11_release 51 = .ok (.iload_n 3, 1) := by decide +kernel
theorem dX11_release_52 : decode cX11_release 52 = .ok (.invokevirtual 315, 3) := by decide +kernel
theorem dX11_release_55 : decode cX11_release 55 = .ok (.aload_n 0, 1) := by decide +kernel
theorem dX11_release_56 : decode cX11_release 56 = .ok (.iload_n 3, 1) := by decide +kernel
theorem dX11_release_57 : decode cX11_release 57 = .ok (.invokevirtual 322, 3) := by decide +kernel
theorem dX11_release_60 : decode cX11_release 60 = .ok (.iinc 2 1, 3) := by decide +kernel
theorem dX11_release_63 : decode cX11_release 63 = .ok (.iinc 3 1, 3) := by decide +kernel
theorem dX11_release_66 : decode cX11_release 66 = .ok (.goto (-62), 3) := by decide +kernel
theorem dX11_release_69 : decode cX11_release 69 = .ok (.iload_n 2, 1) := by decide +kernel
theorem dX11_release_70 : decode cX11_release 70 = .ok (.ireturn, 1) := by decide +kernel
theorem dX11_setHold_0 : decode cX11_setHold 0 = .ok (.aload_n 0, 1) := by decide +kernel
theorem dX11_setHold_1 : decode cX11_setHold 1 = .ok (.aload_n 0, 1) := by decide +kernel
theorem dX11_setHold_2 : decode cX11_setHold 2 = .ok (.iload_n 1, 1) := by decide +kernel
theorem dX11_setHold_3 : decode cX11_setHold 3 = .ok (.invokevirtual 419, 3) := by decide +kernel
theorem dX11_setHold_6 : decode cX11_setHold 6 = .ok (.invokevirtual 94, 3) := by decide +kernel
theorem dX11_setHold_9 : decode cX11_setHold 9 = .ok (.ifCond .eq 22, 3) := by decide +kernel
theorem dX11_setHold_12 : decode cX11_setHold 12 = .ok (.aload_n 0, 1) := by decide +kernel
theorem dX11_setHold_13 : decode cX11_setHold 13 = .ok (.iload_n 1, 1) := by decide +kernel
theorem dX11_setHold_14 : decode cX11_setHold 14 = .ok (.iconst 3, 1) := by decide +kernel
theorem dX11_setHold_15 : decode cX11_setHold 15 = .ok (.invokevirtual 293, 3) := by decide +kernel
theorem dX11_setHold_18 : decode cX11_setHold 18 = .ok (.iconst 1, 1) := by decide +kernel
theorem dX11_setHold_19 : decode cX11_setHold 19 = .ok (.if_icmp .ne 7, 3) := by decide +kernel
theorem dX11_setHold_22 : decode cX11_setHold 22 = .ok (.iconst 1, 1) := by decide +kernel
theorem dX11_setHold_23 : decode cX11_setHold 23 = .ok (.goto 4, 3) := by decide +kernel
theorem dX11_setHold_26 : decode cX11_setHold 26 = .ok (.iconst 0, 1) := by decide +kernel
theorem dX11_setHold_27 : decode cX11_setHold 27 = .ok (.iload_n 2, 1) := by decide +kernel
theorem dX11_setHold_28 : decode cX11_setHold 28 = .ok (.if_icmp .ne 5, 3) := by decide +kernel
theorem dX11_setHold_31 : decode cX11_setHold 31 = .ok (.iconst 0, 1) := by decide +kernel
theorem dX11_setHold_32 : decode cX11_setHold 32 = .ok (.ireturn, 1) := by decide +kernel
theorem dX11_setHold_33 : decode cX11_setHold 33 = .ok (.aload_n 0, 1) := by decide +kernel
theorem dX11_setHold_34 : decode cX11_setHold 34 = .ok (.invokevirtual 256, 3) := by decide +kernel
theorem dX11_setHold_37 : decode cX11_setHold 37 = .ok (.aload_n 0, 1) := by decide +kernel
theorem dX11_setHold_38 : decode cX11_setHold 38 = .ok (.getfield 17, 3) := by decide +kernel
theorem dX11_setHold_41 : decode cX11_setHold 41 = .ok (.sipush 205, 3) := by decide +kernel
theorem dX11_setHold_44 : decode cX11_setHold 44 = .ok (.bipush 21, 2) := by decide +kernel
theorem dX11_setHold_46 : decode cX11_setHold 46 = .ok (.iload_n 1, 1) := by decide +kernel
theorem dX11_setHold_47 : decode cX11_setHold 47 = .ok (.imul, 1) := by decide +kernel
theorem dX11_setHold_48 : decode cX11_setHold 48 = .ok (.iadd, 1) := by decide +kernel
theorem dX11_setHold_49 : decode cX11_setHold 49 = .ok (.iconst 3, 1) := by decide +kernel
theorem dX11_setHold_50 : decode cX11_setHold 50 = .ok (.iadd, 1) := by decide +kernel
theorem dX11_setHold_51 : decode cX11_setHold 51 = .ok (.iload_n 2, 1) := by decide +kernel
theorem dX11_setHold_52 : decode cX11_setHold 52 = .ok (.ifCond .eq 7, 3) := by decide +kernel
theorem dX11_setHold_55 : decode cX11_setHold 55 = .ok (.iconst 1, 1) := by decide +kernel
theorem dX11_setHold_56 : decode cX11_setHold 56 = .ok (.goto 4, 3) := by decide +kernel
theorem dX11_setHold_59 : decode cX11_setHold 59 = .ok (.iconst 0, 1) := by decide +kernel
theorem dX11_setHold_60 : decode cX11_setHold 60 = .ok (.iastore, 1) := by decide +kernel
theorem dX11_setHold_61 : decode cX11_setHold 61 = .ok (.iload_n 2, 1) := by decide +kernel
theorem dX11_setHold_62 : decode cX11_setHold 62 = .ok (.ifCond .eq 7, 3) := by decide +kernel
theorem dX11_setHold_65 : decode cX11_setHold 65 = .ok (.iconst 0, 1) := by decide +kernel
theorem dX11_setHold_66 : decode cX11_setHold 66 = .ok (.goto 13, 3) := by decide +kernel
theorem dX11_setHold_69 : decode cX11_setHold 69 = .ok (.aload_n 0, 1) := by decide +kernel
theorem dX11_setHold_70 : decode cX11_setHold 70 = .ok (.aload_n 0, 1) := by decide +kernel
theorem dX11_setHold_71 : decode cX11_setHold 71 = .ok (.iload_n 1, 1) := by decide +kernel
theorem dX11_setHold_72 : decode cX11_setHold 72 = .ok (.iconst 0, 1) := by decide +kernel
theorem dX11_setHold_73 : decode cX11_setHold 73 = .ok (.invokevirtual 293, 3) := by decide +kernel
theorem dX11_setHold_76 : decode cX11_setHold 76 = .ok (.invokevirtual 422, 3) := by decide +kernel
theorem dX11_setHold_79 : decode cX11_setHold 79 = .ok (.ireturn, 1) := by decide +kernel
theorem dX11_heldOnlyBy_0 : decode cX11_heldOnlyBy 0 = .ok (.aload_n 0, 1) := by decide +kernel
theorem dX11_heldOnlyBy_1 : decode cX11_heldOnlyBy 1 = .ok (.aload_n 0, 1) := by decide +kernel
theorem dX11_heldOnlyBy_2 : decode cX11_heldOnlyBy 2 = .ok (.iload_n 1, 1) := by decide +kernel
theorem dX11_heldOnlyBy_3 : decode cX11_heldOnlyBy 3 = .ok (.invokevirtual 419, 3) := by decide +kernel
theorem dX11_heldOnlyBy_6 : decode cX11_heldOnlyBy 6 = .ok (.invokevirtual 94, 3) := by decide +kernel
theorem dX11_heldOnlyBy_9 : decode cX11_heldOnlyBy 9 = .ok (.ifCond .ne 5, 3) := by decide +kernel
theorem dX11_heldOnlyBy_12 : decode cX11_heldOnlyBy 12 = .ok (.iconst 0, 1) := by decide +kernel
theorem dX11_heldOnlyBy_13 : decode cX11_heldOnlyBy 13 = .ok (.ireturn, 1) := by decide +kernel
theorem dX11_heldOnlyBy_14 : decode cX11_heldOnlyBy 14 = .ok (.aload_n 0, 1) := by decide +kernel
theorem dX11_heldOnlyBy_15 : decode cX11_heldOnlyBy 15 = .ok (.iload_n 1, 1) := by decide +kernel
theorem dX11_heldOnlyBy_16 : decode cX11_heldOnlyBy 16 = .ok (.iconst 0, 1) := by decide +kernel
theorem dX11_heldOnlyBy_17 : decode cX11_heldOnlyBy 17 = .ok (.invokevirtual 293, 3) := by decide +kernel
theorem dX11_heldOnlyBy_20 : decode cX11_heldOnlyBy 20 = .ok (.istore_n 2, 1) := by decide +kernel
theorem dX11_heldOnlyBy_21 : decode cX11_heldOnlyBy 21 = .ok (.iconst 0, 1) := by decide +kernel
theorem dX11_heldOnlyBy_22 : decode cX11_heldOnlyBy 22 = .ok (.istore_n 3, 1) := by decide +kernel
theorem dX11_heldOnlyBy_23 : decode cX11_heldOnlyBy 23 = .ok (.iconst 0, 1) := by decide +kernel
theorem dX11_heldOnlyBy_24 : decode cX11_heldOnlyBy 24 = .ok (.istore 4, 2) := by decide +kernel
theorem dX11_heldOnlyBy_26 : decode cX11_heldOnlyBy 26 = .ok (.iload 4, 2) := by decide +kernel
theorem dX11_heldOnlyBy_28 : decode cX11_heldOnlyBy 28 = .ok (.aload_n 0, 1) := by decide +kernel
theorem dX11_heldOnlyBy_29 : decode cX11_heldOnlyBy 29 = .ok (.getfield 17, 3) := by decide +kernel
theorem dX11_heldOnlyBy_32 : decode cX11_heldOnlyBy 32 = .ok (.bipush 7, 2) := by decide +kernel
theorem dX11_heldOnlyBy_34 : decode cX11_heldOnlyBy 34 = .ok (.iaload, 1) := by decide +kernel
theorem dX11_heldOnlyBy_35 : decode cX11_heldOnlyBy 35 = .ok (.if_icmp .ge 40, 3) := by decide +kernel
theorem dX11_heldOnlyBy_38 : decode cX11_heldOnlyBy 38 = .ok (.iload_n 3, 1) := by decide +kernel
theorem dX11_heldOnlyBy_39 : decode cX11_heldOnlyBy 39 = .ok (.aload_n 0, 1) := by decide +kernel
theorem dX11_heldOnlyBy_40 : decode cX11_heldOnlyBy 40 = .ok (.iload 4, 2) := by decide +kernel
theorem dX11_heldOnlyBy_42 : decode cX11_heldOnlyBy 42 = .ok (.iload_n 2, 1) := by decide +kernel
theorem dX11_heldOnlyBy_43 : decode cX11_heldOnlyBy 43 = .ok (.invokevirtual 387, 3) := by decide +kernel
theorem dX11_heldOnlyBy_46 : decode cX11_heldOnlyBy 46 = .ok (.ifCond .eq 20, 3) := by decide +kernel
theorem dX11_heldOnlyBy_49 : decode cX11_heldOnlyBy 49 = .ok (.aload_n 0, 1) := by decide +kernel
theorem dX11_heldOnlyBy_50 : decode cX11_heldOnlyBy 50 = .ok (.iload 4, 2) := by decide +kernel
theorem dX11_heldOnlyBy_52 : decode cX11_heldOnlyBy 52 = .ok (.iload_n 2, 1) := by decide +kernel
theorem dX11_heldOnlyBy_53 : decode cX11_heldOnlyBy 53 = .ok (.invokevirtual 319, 3) := by decide +kernel
theorem dX11_heldOnlyBy_56 : decode cX11_heldOnlyBy 56 = .ok (.iconst 1, 1) := by decide +kernel
theorem dX11_heldOnlyBy_57 : decode cX11_heldOnlyBy 57 = .ok (.iload_n 1, 1) := by decide +kernel
theorem dX11_heldOnlyBy_58 : decode cX11_heldOnlyBy 58 = .ok (.ishl, 1) := by decide +kernel
theorem dX11_heldOnlyBy_59 : decode cX11_heldOnlyBy 59 = .ok (.if_icmp .ne 7, 3) := by decide +kernel
theorem dX11_heldOnlyBy_62 : decode cX11_heldOnlyBy 62 = .ok (.iconst 1, 1) := by decide +kernel
theorem dX11_heldOnlyBy_63 : decode cX11_heldOnlyBy 63 = .ok (.goto 4, 3) := by decide +kernel
theorem dX11_heldOnlyBy_66 : decode cX11_heldOnlyBy 66 = .ok (.iconst 0, 1) := by decide +kernel
theorem dX11_heldOnlyBy_67 : decode cX11_heldOnlyBy 67 = .ok (.iadd, 1) := by decide +kernel
theorem dX11_heldOnlyBy_68 : decode cX11_heldOnlyBy 68 = .ok (.istore_n 3, 1) := by decide +kernel
theorem dX11_heldOnlyBy_69 : decode cX11_heldOnlyBy 69 = .ok (.iinc 4 1, 3) := by decide +kernel
theorem dX11_heldOnlyBy_72 : decode cX11_heldOnlyBy 72 = .ok (.goto (-46), 3) := by decide +kernel
theorem dX11_heldOnlyBy_75 : decode cX11_heldOnlyBy 75 = .ok (.iload_n 3, 1) := by decide +kernel
theorem dX11_heldOnlyBy_76 : decode cX11_heldOnlyBy 76 = .ok (.ireturn, 1) := by decide +kernel
theorem dX11_setQuota_0 : decode cX11_setQuota 0 = .ok (.aload_n 0, 1) := by decide +kernel
theorem dX11_setQuota_1 : decode cX11_setQuota 1 = .ok (.aload_n 0, 1) := by decide +kernel
theorem dX11_setQuota_2 : decode cX11_setQuota 2 = .ok (.iload_n 1, 1) := by decide +kernel
theorem dX11_setQuota_3 : decode cX11_setQuota 3 = .ok (.invokevirtual 76, 3) := by decide +kernel
theorem dX11_setQuota_6 : decode cX11_setQuota 6 = .ok (.iload_n 2, 1) := by decide +kernel
theorem dX11_setQuota_7 : decode cX11_setQuota 7 = .ok (.i2l, 1) := by decide +kernel
theorem dX11_setQuota_8 : decode cX11_setQuota 8 = .ok (.lconst 1, 1) := by decide +kernel
theorem dX11_setQuota_9 : decode cX11_setQuota 9 = .ok (.ldc2_w 425, 3) := by decide +kernel
theorem dX11_setQuota_12 : decode cX11_setQuota 12 = .ok (.invokestatic 64, 3) := by decide +kernel
theorem dX11_setQuota_15 : decode cX11_setQuota 15 = .ok (.invokevirtual 267, 3) := by decide +kernel
theorem dX11_setQuota_18 : decode cX11_setQuota 18 = .ok (.ifCond .ne 5, 3) := by decide +kernel
theorem dX11_setQuota_21 : decode cX11_setQuota 21 = .ok (.iconst 0, 1) := by decide +kernel
theorem dX11_setQuota_22 : decode cX11_setQuota 22 = .ok (.ireturn, 1) := by decide +kernel
theorem dX11_setQuota_23 : decode cX11_setQuota 23 = .ok (.aload_n 0, 1) := by decide +kernel
theorem dX11_setQuota_24 : decode cX11_setQuota 24 = .ok (.getfield 17, 3) := by decide +kernel
theorem dX11_setQuota_27 : decode cX11_setQuota 27 = .ok (.bipush 83, 2) := by decide +kernel
theorem dX11_setQuota_29 : decode cX11_setQuota 29 = .ok (.bipush 8, 2) := by decide +kernel
theorem dX11_setQuota_31 : decode cX11_setQuota 31 = .ok (.iload_n 1, 1) := by decide +kernel
theorem dX11_setQuota_32 : decode cX11_setQuota 32 = .ok (.imul, 1) := by decide +kernel
theorem dX11_setQuota_33 : decode cX11_setQuota 33 = .ok (.iadd, 1) := by decide +kernel
theorem dX11_setQuota_34 : decode cX11_setQuota 34 = .ok (.iconst 1, 1) := by decide +kernel
theorem dX11_setQuota_35 : decode cX11_setQuota 35 = .ok (.iadd, 1) := by decide +kernel
theorem dX11_setQuota_36 : decode cX11_setQuota 36 = .ok (.iaload, 1) := by decide +kernel
theorem dX11_setQuota_37 : decode cX11_setQuota 37 = .ok (.istore_n 3, 1) := by decide +kernel
theorem dX11_setQuota_38 : decode cX11_setQuota 38 = .ok (.iload_n 3, 1) := by decide +kernel
theorem dX11_setQuota_39 : decode cX11_setQuota 39 = .ok (.iload_n 2, 1) := by decide +kernel
theorem dX11_setQuota_40 : decode cX11_setQuota 40 = .ok (.if_icmp .ne 5, 3) := by decide +kernel
theorem dX11_setQuota_43 : decode cX11_setQuota 43 = .ok (.iload_n 3, 1) := by decide +kernel
theorem dX11_setQuota_44 : decode cX11_setQuota 44 = .ok (.ireturn, 1) := by decide +kernel
theorem dX11_setQuota_45 : decode cX11_setQuota 45 = .ok (.aload_n 0, 1) := by decide +kernel
theorem dX11_setQuota_46 : decode cX11_setQuota 46 = .ok (.invokevirtual 256, 3) := by decide +kernel
theorem dX11_setQuota_49 : decode cX11_setQuota 49 = .ok (.aload_n 0, 1) := by decide +kernel
theorem dX11_setQuota_50 : decode cX11_setQuota 50 = .ok (.getfield 17, 3) := by decide +kernel
theorem dX11_setQuota_53 : decode cX11_setQuota 53 = .ok (.bipush 83, 2) := by decide +kernel
theorem dX11_setQuota_55 : decode cX11_setQuota 55 = .ok (.bipush 8, 2) := by decide +kernel
theorem dX11_setQuota_57 : decode cX11_setQuota 57 = .ok (.iload_n 1, 1) := by decide +kernel
theorem dX11_setQuota_58 : decode cX11_setQuota 58 = .ok (.imul, 1) := by decide +kernel
theorem dX11_setQuota_59 : decode cX11_setQuota 59 = .ok (.iadd, 1) := by decide +kernel
theorem dX11_setQuota_60 : decode cX11_setQuota 60 = .ok (.iconst 1, 1) := by decide +kernel
theorem dX11_setQuota_61 : decode cX11_setQuota 61 = .ok (.iadd, 1) := by decide +kernel
theorem dX11_setQuota_62 : decode cX11_setQuota 62 = .ok (.iload_n 2, 1) := by decide +kernel
theorem dX11_setQuota_63 : decode cX11_setQuota 63 = .ok (.iastore, 1) := by decide +kernel
theorem dX11_setQuota_64 : decode cX11_setQuota 64 = .ok (.iload_n 3, 1) := by decide +kernel
theorem dX11_setQuota_65 : decode cX11_setQuota 65 = .ok (.ireturn, 1) := by decide +kernel
theorem dX11_countLives_0 : decode cX11_countLives 0 = .ok (.iconst 0, 1) := by decide +kernel
theorem dX11_countLives_1 : decode cX11_countLives 1 = .ok (.istore_n 1, 1) := by decide +kernel
theorem dX11_countLives_2 : decode cX11_countLives 2 = .ok (.iload_n 1, 1) := by decide +kernel
theorem dX11_countLives_3 : decode cX11_countLives 3 = .ok (.bipush 80, 2) := by decide +kernel
theorem dX11_countLives_5 : decode cX11_countLives 5 = .ok (.if_icmp .ge 23, 3) := by decide +kernel
theorem dX11_countLives_8 : decode cX11_countLives 8 = .ok (.aload_n 0, 1) := by decide +kernel
theorem dX11_countLives_9 : decode cX11_countLives 9 = .ok (.getfield 44, 3) := by decide +kernel
theorem dX11_countLives_12 : decode cX11_countLives 12 = .ok (.iload_n 1, 1) := by decide +kernel
theorem dX11_countLives_13 : decode cX11_countLives 13 = .ok (.iconst 0, 1) := by decide +kernel
theorem dX11_countLives_14 : decode cX11_countLives 14 = .ok (.iastore, 1) := by decide +kernel
theorem dX11_countLives_15 : decode cX11_countLives 15 = .ok (.aload_n 0, 1) := by decide +kernel
theorem dX11_countLives_16 : decode cX11_countLives 16 = .ok (.getfield 47, 3) := by decide +kernel
theorem dX11_countLives_19 : decode cX11_countLives 19 = .ok (.iload_n 1, 1) := by decide +kernel
theorem dX11_countLives_20 : decode cX11_countLives 20 = .ok (.iconst 0, 1) := by decide +kernel
theorem dX11_countLives_21 : decode cX11_countLives 21 = .ok (.iastore, 1) := by decide +kernel
theorem dX11_countLives_22 : decode cX11_countLives 22 = .ok (.iinc 1 1, 3) := by decide +kernel
theorem dX11_countLives_25 : decode cX11_countLives 25 = .ok (.goto (-23), 3) := by decide +kernel
theorem dX11_countLives_28 : decode cX11_countLives 28 = .ok (.iconst 0, 1) := by decide +kernel
theorem dX11_countLives_29 : decode cX11_countLives 29 = .ok (.istore_n 1, 1) := by decide +kernel
theorem dX11_countLives_30 : decode cX11_countLives 30 = .ok (.iload_n 1, 1) := by decide +kernel
theorem dX11_countLives_31 : decode cX11_countLives 31 = .ok (.aload_n 0, 1) := by decide +kernel
theorem dX11_countLives_32 : decode cX11_countLives 32 = .ok (.getfield 17, 3) := by decide +kernel
theorem dX11_countLives_35 : decode cX11_countLives 35 = .ok (.bipush 7, 2) := by decide +kernel
theorem dX11_countLives_37 : decode cX11_countLives 37 = .ok (.iaload, 1) := by decide +kernel
theorem dX11_countLives_38 : decode cX11_countLives 38 = .ok (.if_icmp .ge 67, 3) := by decide +kernel
theorem dX11_countLives_41 : decode cX11_countLives 41 = .ok (.iload_n 1, 1) := by decide +kernel
theorem dX11_countLives_42 : decode cX11_countLives 42 = .ok (.iconst 0, 1) := by decide +kernel
theorem dX11_countLives_43 : decode cX11_countLives 43 = .ok (.invokestatic 68, 3) := by decide +kernel
theorem dX11_countLives_46 : decode cX11_countLives 46 = .ok (.istore_n 2, 1) := by decide +kernel
theorem dX11_countLives_47 : decode cX11_countLives 47 = .ok (.iconst 0, 1) := by decide +kernel
theorem dX11_countLives_48 : decode cX11_countLives 48 = .ok (.istore_n 3, 1) := by decide +kernel
theorem dX11_countLives_49 : decode cX11_countLives 49 = .ok (.iload_n 3, 1) := by decide +kernel
theorem dX11_countLives_50 : decode cX11_countLives 50 = .ok (.aload_n 0, 1) := by decide +kernel
theorem dX11_countLives_51 : decode cX11_countLives 51 = .ok (.getfield 17, 3) := by decide +kernel
theorem dX11_countLives_54 : decode cX11_countLives 54 = .ok (.iconst 4, 1) := by decide +kernel
theorem dX11_countLives_55 : decode cX11_countLives 55 = .ok (.iaload, 1) := by decide +kernel
theorem dX11_countLives_56 : decode cX11_countLives 56 = .ok (.if_icmp .ge 43, 3) := by decide +kernel
theorem dX11_countLives_59 : decode cX11_countLives 59 = .ok (.aload_n 0, 1) := by decide +kernel
theorem dX11_countLives_60 : decode cX11_countLives 60 = .ok (.getfield 17, 3) := by decide +kernel
theorem dX11_countLives_63 : decode cX11_countLives 63 = .ok (.iload_n 2, 1) := by decide +kernel
theorem dX11_countLives_64 : decode cX11_countLives 64 = .ok (.iaload, 1) := by decide +kernel
theorem dX11_countLives_65 : decode cX11_countLives 65 = .ok (.ifCond .ne 25, 3) := by decide +kernel
theorem dX11_countLives_68 : decode cX11_countLives 68 = .ok (.aload_n 0, 1) := by decide +kernel
theorem dX11_countLives_69 : decode cX11_countLives 69 = .ok (.getfield 44, 3) := by decide +kernel
theorem dX11_countLives_72 : decode cX11_countLives 72 = .ok (.bipush 8, 2) := by decide +kernel
theorem dX11_countLives_74 : decode cX11_countLives 74 = .ok (.iload_n 3, 1) := by decide +kernel
theorem dX11_countLives_75 : decode cX11_countLives 75 = .ok (.imul, 1) := by decide +kernel
theorem dX11_countLives_76 : decode cX11_countLives 76 = .ok (.aload_n 0, 1) := by decide +kernel
theorem dX11_countLives_77 : decode cX11_countLives 77 = .ok (.getfield 17, 3) := by decide +kernel
theorem dX11_countLives_80 : decode cX11_countLives 80 = .ok (.iload_n 2, 1) := by decide +kernel
theorem dX11_countLives_81 : decode cX11_countLives 81 = .ok (.iconst 1, 1) := by decide +kernel
theorem dX11_countLives_82 : decode cX11_countLives 82 = .ok (.iadd, 1) := by decide +kernel
theorem dX11_countLives_83 : decode cX11_countLives 83 = .ok (.iaload, 1) := by decide +kernel
theorem dX11_countLives_84 : decode cX11_countLives 84 = .ok (.iadd, 1) := by decide +kernel
theorem dX11_countLives_85 : decode cX11_countLives 85 = .ok (.dup2, 1) := by decide +kernel
theorem dX11_countLives_86 : decode cX11_countLives 86 = .ok (.iaload, 1) := by decide +kernel
theorem dX11_countLives_87 : decode cX11_countLives 87 = .ok (.iconst 1, 1) := by decide +kernel
theorem dX11_countLives_88 : decode cX11_countLives 88 = .ok (.iadd, 1) := by decide +kernel
theorem dX11_countLives_89 : decode cX11_countLives 89 = .ok (.iastore, 1) := by decide +kernel
theorem dX11_countLives_90 : decode cX11_countLives 90 = .ok (.iinc 2 3, 3) := by decide +kernel
theorem dX11_countLives_93 : decode cX11_countLives 93 = .ok (.iinc 3 1, 3) := by decide +kernel
theorem dX11_countLives_96 : decode cX11_countLives 96 = .ok (.goto (-47), 3) := by decide +kernel
theorem dX11_countLives_99 : decode cX11_countLives 99 = .ok (.iinc 1 1, 3) := by decide +kernel
theorem dX11_countLives_102 : decode cX11_countLives 102 = .ok (.goto (-72), 3) := by decide +kernel
theorem dX11_countLives_105 : decode cX11_countLives 105 = .ok (.return_, 1) := by decide +kernel
theorem dX11_isDue_0 : decode cX11_isDue 0 = .ok (.aload_n 0, 1) := by decide +kernel
theorem dX11_isDue_1 : decode cX11_isDue 1 = .ok (.getfield 17, 3) := by decide +kernel
theorem dX11_isDue_4 : decode cX11_isDue 4 = .ok (.iload_n 1, 1) := by decide +kernel
theorem dX11_isDue_5 : decode cX11_isDue 5 = .ok (.iconst 1, 1) := by decide +kernel
theorem dX11_isDue_6 : decode cX11_isDue 6 = .ok (.iadd, 1) := by decide +kernel
theorem dX11_isDue_7 : decode cX11_isDue 7 = .ok (.iaload, 1) := by decide +kernel
theorem dX11_isDue_8 : decode cX11_isDue 8 = .ok (.istore_n 3, 1) := by decide +kernel
theorem dX11_isDue_9 : decode cX11_isDue 9 = .ok (.aload_n 0, 1) := by decide +kernel
theorem dX11_isDue_10 : decode cX11_isDue 10 = .ok (.getfield 17, 3) := by decide +kernel
theorem dX11_isDue_13 : decode cX11_isDue 13 = .ok (.bipush 11, 2) := by decide +kernel
theorem dX11_isDue_15 : decode cX11_isDue 15 = .ok (.bipush 9, 2) := by decide +kernel
theorem dX11_isDue_17 : decode cX11_isDue 17 = .ok (.iload_n 3, 1) := by decide +kernel
theorem dX11_isDue_18 : decode cX11_isDue 18 = .ok (.imul, 1) := by decide +kernel
theorem dX11_isDue_19 : decode cX11_isDue 19 = .ok (.iadd, 1) := by decide +kernel
theorem dX11_isDue_20 : decode cX11_isDue 20 = .ok (.iconst 0, 1) := by decide +kernel
theorem dX11_isDue_21 : decode cX11_isDue 21 = .ok (.iadd, 1) := by decide +kernel
theorem dX11_isDue_22 : decode cX11_isDue 22 = .ok (.iaload, 1) := by decide +kernel
theorem dX11_isDue_23 : decode cX11_isDue 23 = .ok (.istore 4, 2) := by decide +kernel
theorem dX11_isDue_25 : decode cX11_isDue 25 = .ok (.iload 4, 2) := by decide +kernel
theorem dX11_isDue_27 : decode cX11_isDue 27 = .ok (.iconst (-1), 1) := by decide +kernel
theorem dX11_isDue_28 : decode cX11_isDue 28 = .ok (.if_icmp .eq 23, 3) := by decide +kernel
theorem dX11_isDue_31 : decode cX11_isDue 31 = .ok (.aload_n 0, 1) := by decide +kernel
theorem dX11_isDue_32 : decode cX11_isDue 32 = .ok (.getfield 17, 3) := by decide +kernel
theorem dX11_isDue_35 : decode cX11_isDue 35 = .ok (.iconst 2, 1) := by decide +kernel
theorem dX11_isDue_36 : decode cX11_isDue 36 = .ok (.iaload, 1) := by decide +kernel
theorem dX11_isDue_37 : decode cX11_isDue 37 = .ok (.aload_n 0, 1) := by decide +kernel
theorem dX11_isDue_38 : decode cX11_isDue 38 = .ok (.getfield 17, 3) := by decide +kernel
theorem dX11_isDue_41 : decode cX11_isDue 41 = .ok (.iload_n 1, 1) := by decide +kernel
theorem dX11_isDue_42 : decode cX11_isDue 42 = .ok (.iconst 2, 1) := by decide +kernel
theorem dX11_isDue_43 : decode cX11_isDue 43 = .ok (.iadd, 1) := by decide +kernel
theorem dX11_isDue_44 : decode cX11_isDue 44 = .ok (.iaload, 1) := by decide +kernel
theorem dX11_isDue_45 : decode cX11_isDue 45 = .ok (.isub, 1) := by decide +kernel
theorem dX11_isDue_46 : decode cX11_isDue 46 = .ok (.iload 4, 2) := by decide +kernel
theorem dX11_isDue_48 : decode cX11_isDue 48 = .ok (.if_icmp .ge 5, 3) := by decide +kernel
theorem dX11_isDue_51 : decode cX11_isDue 51 = .ok (.iconst 0, 1) := by decide +kernel
theorem dX11_isDue_52 : decode cX11_isDue 52 = .ok (.ireturn, 1) := by decide +kernel
theorem dX11_isDue_53 : decode cX11_isDue 53 = .ok (.bipush 8, 2) := by decide +kernel
theorem dX11_isDue_55 : decode cX11_isDue 55 = .ok (.iload_n 2, 1) := by decide +kernel
theorem dX11_isDue_56 : decode cX11_isDue 56 = .ok (.imul, 1) := by decide +kernel
theorem dX11_isDue_57 : decode cX11_isDue 57 = .ok (.iload_n 3, 1) := by decide +kernel
theorem dX11_isDue_58 : decode cX11_isDue 58 = .ok (.iadd, 1) := by decide +kernel
theorem dX11_isDue_59 : decode cX11_isDue 59 = .ok (.istore 5, 2) := by decide +kernel
theorem dX11_isDue_61 : decode cX11_isDue 61 = .ok (.aload_n 0, 1) := by decide +kernel
theorem dX11_isDue_62 : decode cX11_isDue 62 = .ok (.getfield 44, 3) := by decide +kernel
theorem dX11_isDue_65 : decode cX11_isDue 65 = .ok (.iload 5, 2) := by decide +kernel
theorem dX11_isDue_67 : decode cX11_isDue 67 = .ok (.iaload, 1) := by decide +kernel
theorem dX11_isDue_68 : decode cX11_isDue 68 = .ok (.aload_n 0, 1) := by decide +kernel
theorem dX11_isDue_69 : decode cX11_isDue 69 = .ok (.getfield 47, 3) := by decide +kernel
theorem dX11_isDue_72 : decode cX11_isDue 72 = .ok (.iload 5, 2) := by decide +kernel
theorem dX11_isDue_74 : decode cX11_isDue 74 = .ok (.iaload, 1) := by decide +kernel
theorem dX11_isDue_75 : decode cX11_isDue 75 = .ok (.isub, 1) := by decide +kernel
theorem dX11_isDue_76 : decode cX11_isDue 76 = .ok (.iconst 1, 1) := by decide +kernel
theorem dX11_isDue_77 : decode cX11_isDue 77 = .ok (.isub, 1) := by decide +kernel
theorem dX11_isDue_78 : decode cX11_isDue 78 = .ok (.aload_n 0, 1) := by decide +kernel
theorem dX11_isDue_79 : decode cX11_isDue 79 = .ok (.getfield 17, 3) := by decide +kernel
theorem dX11_isDue_82 : decode cX11_isDue 82 = .ok (.bipush 11, 2) := by decide +kernel
theorem dX11_isDue_84 : decode cX11_isDue 84 = .ok (.bipush 9, 2) := by decide +kernel
theorem dX11_isDue_86 : decode cX11_isDue 86 = .ok (.iload_n 3, 1) := by decide +kernel
theorem dX11_isDue_87 : decode cX11_isDue 87 = .ok (.imul, 1) := by decide +kernel
theorem dX11_isDue_88 : decode cX11_isDue 88 = .ok (.iadd, 1) := by decide +kernel
theorem dX11_isDue_89 : decode cX11_isDue 89 = .ok (.iconst 1, 1) := by decide +kernel
theorem dX11_isDue_90 : decode cX11_isDue 90 = .ok (.iadd, 1) := by decide +kernel
theorem dX11_isDue_91 : decode cX11_isDue 91 = .ok (.iaload, 1) := by decide +kernel
theorem dX11_isDue_92 : decode cX11_isDue 92 = .ok (.if_icmp .lt 7, 3) := by decide +kernel
theorem dX11_isDue_95 : decode cX11_isDue 95 = .ok (.iconst 1, 1) := by decide +kernel
theorem dX11_isDue_96 : decode cX11_isDue 96 = .ok (.goto 4, 3) := by decide +kernel
theorem dX11_isDue_99 : decode cX11_isDue 99 = .ok (.iconst 0, 1) := by decide +kernel
theorem dX11_isDue_100 : decode cX11_isDue 100 = .ok (.ireturn, 1) := by decide +kernel
theorem dX11_leave_0 : decode cX11_leave 0 = .ok (.aload_n 0, 1) := by decide +kernel
theorem dX11_leave_1 : decode cX11_leave 1 = .ok (.getfield 44, 3) := by decide +kernel
theorem dX11_leave_4 : decode cX11_leave 4 = .ok (.bipush 8, 2) := by decide +kernel
theorem dX11_leave_6 : decode cX11_leave 6 = .ok (.iload_n 2, 1) := by decide +kernel
theorem dX11_leave_7 : decode cX11_leave 7 = .ok (.imul, 1) := by decide +kernel
theorem dX11_leave_8 : decode cX11_leave 8 = .ok (.aload_n 0, 1) := by decide +kernel
theorem dX11_leave_9 : decode cX11_leave 9 = .ok (.getfield 17, 3) := by decide +kernel
theorem dX11_leave_12 : decode cX11_leave 12 = .ok (.iload_n 1, 1) := by decide +kernel
theorem dX11_leave_13 : decode cX11_leave 13 = .ok (.iload_n 2, 1) := by decide +kernel
theorem dX11_leave_14 : decode cX11_leave 14 = .ok (.invokestatic 68, 3) := by decide +kernel
theorem dX11_leave_17 : decode cX11_leave 17 = .ok (.iconst 1, 1) := by decide +kernel
theorem dX11_leave_18 : decode cX11_leave 18 = .ok (.iadd, 1) := by decide +kernel
theorem dX11_leave_19 : decode cX11_leave 19 = .ok (.iaload, 1) := by decide +kernel
theorem dX11_leave_20 : decode cX11_leave 20 = .ok (.iadd, 1) := by decide +kernel
theorem dX11_leave_21 : decode cX11_leave 21 = .ok (.dup2, 1) := by decide +kernel
theorem dX11_leave_22 : decode cX11_leave 22 = .ok (.iaload, 1) := by decide +kernel
theorem dX11_leave_23 : decode cX11_leave 23 = .ok (.iconst 1, 1) := by decide +kernel
theorem dX11_leave_24 : decode cX11_leave 24 = .ok (.isub, 1) := by decide +kernel
theorem dX11_leave_25 : decode cX11_leave 25 = .ok (.iastore, 1) := by decide +kernel
theorem dX11_leave_26 : decode cX11_leave 26 = .ok (.iload_n 3, 1) := by decide +kernel
theorem dX11_leave_27 : decode cX11_leave 27 = .ok (.iconst (-1), 1) := by decide +kernel
theorem dX11_leave_28 : decode cX11_leave 28 = .ok (.if_icmp .ne 14, 3) := by decide +kernel
theorem dX11_leave_31 : decode cX11_leave 31 = .ok (.aload_n 0, 1) := by decide +kernel
theorem dX11_leave_32 : decode cX11_leave 32 = .ok (.iload_n 1, 1) := by decide +kernel
theorem dX11_leave_33 : decode cX11_leave 33 = .ok (.iload_n 2, 1) := by decide +kernel
theorem dX11_leave_34 : decode cX11_leave 34 = .ok (.iconst 2, 1) := by decide +kernel
theorem dX11_leave_35 : decode cX11_leave 35 = .ok (.invokevirtual 416, 3) := by decide +kernel
theorem dX11_leave_38 : decode cX11_leave 38 = .ok (.pop, 1) := by decide +kernel
theorem dX11_leave_39 : decode cX11_leave 39 = .ok (.goto 31, 3) := by decide +kernel
theorem dX11_leave_42 : decode cX11_leave 42 = .ok (.aload_n 0, 1) := by decide +kernel
theorem dX11_leave_43 : decode cX11_leave 43 = .ok (.iload_n 1, 1) := by decide +kernel
theorem dX11_leave_44 : decode cX11_leave 44 = .ok (.iload_n 2, 1) := by decide +kernel
theorem dX11_leave_45 : decode cX11_leave 45 = .ok (.iload_n 3, 1) := by decide +kernel
theorem dX11_leave_46 : decode cX11_leave 46 = .ok (.invokevirtual 413, 3) := by decide +kernel
theorem dX11_leave_49 : decode cX11_leave 49 = .ok (.aload_n 0, 1) := by decide +kernel
theorem dX11_leave_50 : decode cX11_leave 50 = .ok (.getfield 44, 3) := by decide +kernel
theorem dX11_leave_53 : decode cX11_leave 53 = .ok (.bipush 8, 2) := by decide +kernel
theorem dX11_leave_55 : decode cX11_leave 55 = .ok (.iload_n 2, 1) := by decide +kernel
theorem dX11_leave_56 : decode cX11_leave 56 = .ok (.imul, 1) := by decide +kernel
theorem dX11_leave_57 : decode cX11_leave 57 = .ok (.iload_n 3, 1) := by decide +kernel
theorem dX11_leave_58 : decode cX11_leave 58 = .ok (.iadd, 1) := by decide +kernel
theorem dX11_leave_59 : decode cX11_leave 59 = .ok (.dup2, 1) := by decide +kernel
theorem dX11_leave_60 : decode cX11_leave 60 = .ok (.iaload, 1) := by decide +kernel
theorem dX11_leave_61 : decode cX11_leave 61 = .ok (.iconst 1, 1) := by decide +kernel
theorem dX11_leave_62 : decode cX11_leave 62 = .ok (.iadd, 1) := by decide +kernel
theorem dX11_leave_63 : decode cX11_leave 63 = .ok (.iastore, 1) := by decide +kernel
theorem dX11_leave_64 : decode cX11_leave 64 = .ok (.aload_n 0, 1) := by decide +kernel
theorem dX11_leave_65 : decode cX11_leave 65 = .ok (.iconst 3, 1) := by decide +kernel
theorem dX11_leave_66 : decode cX11_leave 66 = .ok (.iload_n 1, 1) := by decide +kernel
theorem dX11_leave_67 : decode cX11_leave 67 = .ok (.invokevirtual 315, 3) := by decide +kernel
theorem dX11_leave_70 : decode cX11_leave 70 = .ok (.return_, 1) := by decide +kernel
theorem dX11_leaveAll_0 : decode cX11_leaveAll 0 = .ok (.iconst 0, 1) := by decide +kernel
theorem dX11_leaveAll_1 : decode cX11_leaveAll 1 = .ok (.istore_n 1, 1) := by decide +kernel
theorem dX11_leaveAll_2 : decode cX11_leaveAll 2 = .ok (.aload_n 0, 1) := by decide +kernel
theorem dX11_leaveAll_3 : decode cX11_leaveAll 3 = .ok (.invokevirtual 427, 3) := by decide +kernel
theorem dX11_leaveAll_6 : decode cX11_leaveAll 6 = .ok (.iconst 0, 1) := by decide +kernel
theorem dX11_leaveAll_7 : decode cX11_leaveAll 7 = .ok (.istore_n 2, 1) := by decide +kernel
theorem dX11_leaveAll_8 : decode cX11_leaveAll 8 = .ok (.iload_n 2, 1) := by decide +kernel
theorem dX11_leaveAll_9 : decode cX11_leaveAll 9 = .ok (.aload_n 0, 1) := by decide +kernel
theorem dX11_leaveAll_10 : decode cX11_leaveAll 10 = .ok (.getfield 17, 3) := by decide +kernel
theorem dX11_leaveAll_13 : decode cX11_leaveAll 13 = .ok (.bipush 7, 2) := by decide +kernel
theorem dX11_leaveAll_15 : decode cX11_leaveAll 15 = .ok (.iaload, 1) := by decide +kernel
theorem dX11_leaveAll_16 : decode cX11_leaveAll 16 = .ok (.if_icmp .ge 111, 3) := by decide +kernel
theorem dX11_leaveAll_19 : decode cX11_leaveAll 19 = .ok (.iload_n 2, 1) := by decide +kernel
theorem dX11_leaveAll_20 : decode cX11_leaveAll 20 = .ok (.iconst 0, 1) := by decide +kernel
theorem dX11_leaveAll_21 : decode cX11_leaveAll 21 = .ok (.invokestatic 68, 3) := by decide +kernel
theorem dX11_leaveAll_24 : decode cX11_leaveAll 24 = .ok (.istore_n 3, 1) := by decide +kernel
theorem dX11_leaveAll_25 : decode cX11_leaveAll 25 = .ok (.iconst 0, 1) := by decide +kernel
theorem dX11_leaveAll_26 : decode cX11_leaveAll 26 = .ok (.istore 4, 2) := by decide +kernel
theorem dX11_leaveAll_28 : decode cX11_leaveAll 28 = .ok (.iload 4, 2) := by decide +kernel
theorem dX11_leaveAll_30 : decode cX11_leaveAll 30 = .ok (.aload_n 0, 1) := by decide +kernel
theorem dX11_leaveAll_31 : decode cX11_leaveAll 31 = .ok (.getfield 17, 3) := by decide +kernel
theorem dX11_leaveAll_34 : decode cX11_leaveAll 34 = .ok (.iconst 4, 1) := by decide +kernel
theorem dX11_leaveAll_35 : decode cX11_leaveAll 35 = .ok (.iaload, 1) := by decide +kernel
theorem dX11_leaveAll_36 : decode cX11_leaveAll 36 = .ok (.if_icmp .ge 85, 3) := by decide +kernel
theorem dX11_leaveAll_39 : decode cX11_leaveAll 39 = .ok (.aload_n 0, 1) := by decide +kernel
theorem dX11_leaveAll_40 : decode cX11_leaveAll 40 = .ok (.getfield 17, 3) := by decide +kernel
theorem dX11_leaveAll_43 : decode cX11_leaveAll 43 = .ok (.iload_n 3, 1) := by decide +kernel
theorem dX11_leaveAll_44 : decode cX11_leaveAll 44 = .ok (.iaload, 1) := by decide +kernel
theorem dX11_leaveAll_45 : decode cX11_leaveAll 45 = .ok (.ifCond .ne 35, 3) := by decide +kernel
theorem dX11_leaveAll_48 : decode cX11_leaveAll 48 = .ok (.aload_n 0, 1) := by decide +kernel
theorem dX11_leaveAll_49 : decode cX11_leaveAll 49 = .ok (.iload_n 3, 1) := by decide +kernel
theorem dX11_leaveAll_50 : decode cX11_leaveAll 50 = .ok (.iload 4, 2) := by decide +kernel
theorem dX11_leaveAll_52 : decode cX11_leaveAll 52 = .ok (.invokevirtual 430, 3) := by decide +kernel
theorem dX11_leaveAll_55 : decode cX11_leaveAll 55 = .ok (.ifCond .eq 25, 3) := by decide +kernel
theorem dX11_leaveAll_58 : decode cX11_leaveAll 58 = .ok (.aload_n 0, 1) := by decide +kernel
theorem dX11_leaveAll_59 : decode cX11_leaveAll 59 = .ok (.iload_n 2, 1) := by decide +kernel
theorem dX11_leaveAll_60 : decode cX11_leaveAll 60 = .ok (.iload 4, 2) := by decide +kernel
theorem dX11_leaveAll_62 : decode cX11_leaveAll 62 = .ok (.aload_n 0, 1) := by decide +kernel
theorem dX11_leaveAll_63 : decode cX11_leaveAll 63 = .ok (.aload_n 0, 1) := by decide +kernel
theorem dX11_leaveAll_64 : decode cX11_leaveAll 64 = .ok (.getfield 17, 3) := by decide +kernel
theorem dX11_leaveAll_67 : decode cX11_leaveAll 67 = .ok (.iload_n 3, 1) := by decide +kernel
theorem dX11_leaveAll_68 : decode cX11_leaveAll 68 = .ok (.iconst 1, 1) := by decide +kernel
theorem dX11_leaveAll_69 : decode cX11_leaveAll 69 = .ok (.iadd, 1) := by decide +kernel
theorem dX11_leaveAll_70 : decode cX11_leaveAll 70 = .ok (.iaload, 1) := by decide +kernel
theorem dX11_leaveAll_71 : decode cX11_leaveAll 71 = .ok (.iconst 2, 1) := by decide +kernel
theorem dX11_leaveAll_72 : decode cX11_leaveAll 72 = .ok (.invokevirtual 271, 3) := by decide +kernel
theorem dX11_leaveAll_75 : decode cX11_leaveAll 75 = .ok (.invokevirtual 433, 3) := by decide +kernel
theorem dX11_leaveAll_78 : decode cX11_leaveAll 78 = .ok (.iconst 1, 1) := by decide +kernel
theorem dX11_leaveAll_79 : decode cX11_leaveAll 79 = .ok (.istore_n 1, 1) := by decide +kernel
theorem dX11_leaveAll_80 : decode cX11_leaveAll 80 = .ok (.aload_n 0, 1) := by decide +kernel
theorem dX11_leaveAll_81 : decode cX11_leaveAll 81 = .ok (.getfield 17, 3) := by decide +kernel
theorem dX11_leaveAll_84 : decode cX11_leaveAll 84 = .ok (.iload_n 3, 1) := by decide +kernel
theorem dX11_leaveAll_85 : decode cX11_leaveAll 85 = .ok (.iaload, 1) := by decide +kernel
theorem dX11_leaveAll_86 : decode cX11_leaveAll 86 = .ok (.ifCond .ne 26, 3) := by decide +kernel
theorem dX11_leaveAll_89 : decode cX11_leaveAll 89 = .ok (.aload_n 0, 1) := by decide +kernel
theorem dX11_leaveAll_90 : decode cX11_leaveAll 90 = .ok (.getfield 47, 3) := by decide +kernel
theorem dX11_leaveAll_93 : decode cX11_leaveAll 93 = .ok (.bipush 8, 2) := by decide +kernel
theorem dX11_leaveAll_95 : decode cX11_leaveAll 95 = .ok (.iload 4, 2) := by decide +kernel
theorem dX11_leaveAll_97 : decode cX11_leaveAll 97 = .ok (.imul, 1) := by decide +kernel
theorem dX11_leaveAll_98 : decode cX11_leaveAll 98 = .ok (.aload_n 0, 1) := by decide +kernel
theorem dX11_leaveAll_99 : decode cX11_leaveAll 99 = .ok (.getfield 17, 3) := by decide +kernel
theorem dX11_leaveAll_102 : decode cX11_leaveAll 102 = .ok (.iload_n 3, 1) := by decide +kernel
theorem dX11_leaveAll_103 : decode cX11_leaveAll 103 = .ok (.iconst 1, 1) := by decide +kernel
theorem dX11_leaveAll_104 : decode cX11_leaveAll 104 = .ok (.iadd, 1) := by decide +kernel
theorem dX11_leaveAll_105 : decode cX11_leaveAll 105 = .ok (.iaload, 1) := by decide +kernel
theorem dX11_leaveAll_106 : decode cX11_leaveAll 106 = .ok (.iadd, 1) := by decide +kernel
theorem dX11_leaveAll_107 : decode cX11_leaveAll 107 = .ok (.dup2, 1) := by decide +kernel
theorem dX11_leaveAll_108 : decode cX11_leaveAll 108 = .ok (.iaload, 1) := by decide +kernel
theorem dX11_leaveAll_109 : decode cX11_leaveAll 109 = .ok (.iconst 1, 1) := by decide +kernel
theorem dX11_leaveAll_110 : decode cX11_leaveAll 110 = .ok (.iadd, 1) := by decide +kernel
theorem dX11_leaveAll_111 : decode cX11_leaveAll 111 = .ok (.iastore, 1) := by decide +kernel
theorem dX11_leaveAll_112 : decode cX11_leaveAll 112 = .ok (.iinc 3 3, 3) := by decide +kernel
theorem dX11_leaveAll_115 : decode cX11_leaveAll 115 = .ok (.iinc 4 1, 3) := by decide +kernel
theorem dX11_leaveAll_118 : decode cX11_leaveAll 118 = .ok (.goto (-90), 3) := by decide +kernel
theorem dX11_leaveAll_121 : decode cX11_leaveAll 121 = .ok (.iinc 2 1, 3) := by decide +kernel
theorem dX11_leaveAll_124 : decode cX11_leaveAll 124 = .ok (.goto (-116), 3) := by decide +kernel
theorem dX11_leaveAll_127 : decode cX11_leaveAll 127 = .ok (.iload_n 1, 1) := by decide +kernel
theorem dX11_leaveAll_128 : decode cX11_leaveAll 128 = .ok (.ireturn, 1) := by decide +kernel
theorem dX11_layAging_0 : decode cX11_layAging 0 = .ok (.aload_n 0, 1) := by decide +kernel
theorem dX11_layAging_1 : decode cX11_layAging 1 = .ok (.ldc_w 438, 3) := by decide +kernel
theorem dX11_layAging_4 : decode cX11_layAging 4 = .ok (.putfield 439, 3) := by decide +kernel
theorem dX11_layAging_7 : decode cX11_layAging 7 = .ok (.iconst 0, 1) := by decide +kernel
theorem dX11_layAging_8 : decode cX11_layAging 8 = .ok (.istore_n 1, 1) := by decide +kernel
theorem dX11_layAging_9 : decode cX11_layAging 9 = .ok (.iload_n 1, 1) := by decide +kernel
theorem dX11_layAging_10 : decode cX11_layAging 10 = .ok (.aload_n 0, 1) := by decide +kernel
theorem dX11_layAging_11 : decode cX11_layAging 11 = .ok (.getfield 17, 3) := by decide +kernel
theorem dX11_layAging_14 : decode cX11_layAging 14 = .ok (.bipush 7, 2) := by decide +kernel
theorem dX11_layAging_16 : decode cX11_layAging 16 = .ok (.iaload, 1) := by decide +kernel
theorem dX11_layAging_17 : decode cX11_layAging 17 = .ok (.if_icmp .ge 117, 3) := by decide +kernel
theorem dX11_layAging_20 : decode cX11_layAging 20 = .ok (.iload_n 1, 1) := by decide +kernel
theorem dX11_layAging_21 : decode cX11_layAging 21 = .ok (.iconst 0, 1) := by decide +kernel
theorem dX11_layAging_22 : decode cX11_layAging 22 = .ok (.invokestatic 68, 3) := by decide +kernel
theorem dX11_layAging_25 : decode cX11_layAging 25 = .ok (.istore_n 2, 1) := by decide +kernel
theorem dX11_layAging_26 : decode cX11_layAging 26 = .ok (.iconst 0, 1) := by decide +kernel
theorem dX11_layAging_27 : decode cX11_layAging 27 = .ok (.istore_n 3, 1) := by decide +kernel
theorem dX11_layAging_28 : decode cX11_layAging 28 = .ok (.iload_n 3, 1) := by decide +kernel
theorem dX11_layAging_29 : decode cX11_layAging 29 = .ok (.aload_n 0, 1) := by decide +kernel
theorem dX11_layAging_30 : decode cX11_layAging 30 = .ok (.getfield 17, 3) := by decide +kernel
theorem dX11_layAging_33 : decode cX11_layAging 33 = .ok (.iconst 4, 1) := by decide +kernel
theorem dX11_layAging_34 : decode cX11_layAging 34 = .ok (.iaload, 1) := by decide +kernel
theorem dX11_layAging_35 : decode cX11_layAging 35 = .ok (.if_icmp .ge 93, 3) := by decide +kernel
theorem dX11_layAging_38 : decode cX11_layAging 38 = .ok (.aload_n 0, 1) := by decide +kernel
theorem dX11_layAging_39 : decode cX11_layAging 39 = .ok (.getfield 17, 3) := by decide +kernel
theorem dX11_layAging_42 : decode cX11_layAging 42 = .ok (.iload_n 2, 1) := by decide +kernel
theorem dX11_layAging_43 : decode cX11_layAging 43 = .ok (.iaload, 1) := by decide +kernel
theorem dX11_layAging_44 : decode cX11_layAging 44 = .ok (.ifCond .ne 27, 3) := by decide +kernel
theorem dX11_layAging_47 : decode cX11_layAging 47 = .ok (.aload_n 0, 1) := by decide +kernel
theorem dX11_layAging_48 : decode cX11_layAging 48 = .ok (.getfield 17, 3) := by decide +kernel
theorem dX11_layAging_51 : decode cX11_layAging 51 = .ok (.bipush 11, 2) := by decide +kernel
theorem dX11_layAging_53 : decode cX11_layAging 53 = .ok (.bipush 9, 2) := by decide +kernel
theorem dX11_layAging_55 : decode cX11_layAging 55 = .ok (.aload_n 0, 1) := by decide +kernel
theorem dX11_layAging_56 : decode cX11_layAging 56 = .ok (.getfield 17, 3) := by decide +kernel
theorem dX11_layAging_59 : decode cX11_layAging 59 = .ok (.iload_n 2, 1) := by decide +kernel
theorem dX11_layAging_60 : decode cX11_layAging 60 = .ok (.iconst 1, 1) := by decide +kernel
theorem dX11_layAging_61 : decode cX11_layAging 61 = .ok (.iadd, 1) := by decide +kernel
theorem dX11_layAging_62 : decode cX11_layAging 62 = .ok (.iaload, 1) := by decide +kernel
theorem dX11_layAging_63 : decode cX11_layAging 63 = .ok (.imul, 1) := by decide +kernel
theorem dX11_layAging_64 : decode cX11_layAging 64 = .ok (.iadd, 1) := by decide +kernel
theorem dX11_layAging_65 : decode cX11_layAging 65 = .ok (.iconst 0, 1) := by decide +kernel
theorem dX11_layAging_66 : decode cX11_layAging 66 = .ok (.iadd, 1) := by decide +kernel
theorem dX11_layAging_67 : decode cX11_layAging 67 = .ok (.iaload, 1) := by decide +kernel
theorem dX11_layAging_68 : decode cX11_layAging 68 = .ok (.goto 4, 3) := by decide +kernel
theorem dX11_layAging_71 : decode cX11_layAging 71 = .ok (.iconst (-1), 1) := by decide +kernel
theorem dX11_layAging_72 : decode cX11_layAging 72 = .ok (.istore 4, 2) := by decide +kernel
theorem dX11_layAging_74 : decode cX11_layAging 74 = .ok (.aload_n 0, 1) := by decide +kernel
theorem dX11_layAging_75 : decode cX11_layAging 75 = .ok (.getfield 17, 3) := by decide +kernel
theorem dX11_layAging_78 : decode cX11_layAging 78 = .ok (.iload_n 2, 1) := by decide +kernel
theorem dX11_layAging_79 : decode cX11_layAging 79 = .ok (.iconst 2, 1) := by decide +kernel
theorem dX11_layAging_80 : decode cX11_layAging 80 = .ok (.iadd, 1) := by decide +kernel
theorem dX11_layAging_81 : decode cX11_layAging 81 = .ok (.iaload, 1) := by decide +kernel
theorem dX11_layAging_82 : decode cX11_layAging 82 = .ok (.iload 4, 2) := by decide +kernel
theorem dX11_layAging_84 : decode cX11_layAging 84 = .ok (.iadd, 1) := by decide +kernel
theorem dX11_layAging_85 : decode cX11_layAging 85 = .ok (.istore 5, 2) := by decide +kernel
theorem dX11_layAging_87 : decode cX11_layAging 87 = .ok (.iload 4, 2) := by decide +kernel
theorem dX11_layAging_89 : decode cX11_layAging 89 = .ok (.iconst (-1), 1) := by decide +kernel
theorem dX11_layAging_90 : decode cX11_layAging 90 = .ok (.if_icmp .eq 29, 3) := by decide +kernel
theorem dX11_layAging_93 : decode cX11_layAging 93 = .ok (.iload 5, 2) := by decide +kernel
theorem dX11_layAging_95 : decode cX11_layAging 95 = .ok (.aload_n 0, 1) := by decide +kernel
theorem dX11_layAging_96 : decode cX11_layAging 96 = .ok (.getfield 17, 3) := by decide +kernel
theorem dX11_layAging_99 : decode cX11_layAging 99 = .ok (.iconst 2, 1) := by decide +kernel
theorem dX11_layAging_100 : decode cX11_layAging 100 = .ok (.iaload, 1) := by decide +kernel
theorem dX11_layAging_101 : decode cX11_layAging 101 = .ok (.if_icmp .le 18, 3) := by decide +kernel
theorem dX11_layAging_104 : decode cX11_layAging 104 = .ok (.iload 5, 2) := by decide +kernel
theorem dX11_layAging_106 : decode cX11_layAging 106 = .ok (.aload_n 0, 1) := by decide +kernel
theorem dX11_layAging_107 : decode cX11_layAging 107 = .ok (.getfield 439, 3) := by decide +kernel
theorem dX11_layAging_110 : decode cX11_layAging 110 = .ok (.if_icmp .ge 9, 3) := by decide +kernel
theorem dX11_layAging_113 : decode cX11_layAging 113 = .ok (.aload_n 0, 1) := by decide +kernel
theorem dX11_layAging_114 : decode cX11_layAging 114 = .ok (.iload 5, 2) := by decide +kernel
theorem dX11_layAging_116 : decode cX11_layAging 116 = .ok (.putfield 439, 3) := by decide +kernel
theorem dX11_layAging_119 : decode cX11_layAging 119 = .ok (.iinc 2 3, 3) := by decide +kernel
theorem dX11_layAging_122 : decode cX11_layAging 122 = .ok (.iinc 3 1, 3) := by decide +kernel
theorem dX11_layAging_125 : decode cX11_layAging 125 = .ok (.goto (-97), 3) := by decide +kernel
theorem dX11_layAging_128 : decode cX11_layAging 128 = .ok (.iinc 1 1, 3) := by decide +kernel
theorem dX11_layAging_131 : decode cX11_layAging 131 = .ok (.goto (-122), 3) := by decide +kernel
theorem dX11_layAging_134 : decode cX11_layAging 134 = .ok (.return_, 1) := by decide +kernel
theorem dX11_leaveInThought_0 : decode cX11_leaveInThought 0 = .ok (.aload_n 0, 1) := by decide +kernel
theorem dX11_leaveInThought_1 : decode cX11_leaveInThought 1 = .ok (.getfield 442, 3) := by decide +kernel
theorem dX11_leaveInThought_4 : decode cX11_leaveInThought 4 = .ok (.ifCond .eq 17, 3) := by decide +kernel
theorem dX11_leaveInThought_7 : decode cX11_leaveInThought 7 = .ok (.aload_n 0, 1) := by decide +kernel
theorem dX11_leaveInThought_8 : decode cX11_leaveInThought 8 = .ok (.getfield 17, 3) := by decide +kernel
theorem dX11_leaveInThought_11 : decode cX11_leaveInThought 11 = .ok (.iconst 2, 1) := by decide +kernel
theorem dX11_leaveInThought_12 : decode cX11_leaveInThought 12 = .ok (.iaload, 1) := by decide +kernel
theorem dX11_leaveInThought_13 : decode cX11_leaveInThought 13 = .ok (.aload_n 0, 1) := by decide +kernel
theorem dX11_leaveInThought_14 : decode cX11_leaveInThought 14 = .ok (.getfield 439, 3) := by decide +kernel
theorem dX11_leaveInThought_17 : decode cX11_leaveInThought 17 = .ok (.if_icmp .ge 4, 3) := by decide +kernel
theorem dX11_leaveInThought_20 : decode cX11_leaveInThought 20 = .ok (.return_, 1) := by decide +kernel
theorem dX11_leaveInThought_21 : decode cX11_leaveInThought 21 = .ok (.aload_n 0, 1) := by decide +kernel
theorem dX11_leaveInThought_22 : decode cX11_leaveInThought 22 = .ok (.aload_n 0, 1) := by decide +kernel
theorem dX11_leaveInThought_23 : decode cX11_leaveInThought 23 = .ok (.invokevirtual 445, 3) := by decide +kernel
theorem dX11_leaveInThought_26 : decode cX11_leaveInThought 26 = .ok (.ifCond .ne 7, 3) := by decide +kernel
theorem dX11_leaveInThought_29 : decode cX11_leaveInThought 29 = .ok (.iconst 1, 1) := by decide +kernel
theorem dX11_leaveInThought_30 : decode cX11_leaveInThought 30 = .ok (.goto 4, 3) := by decide +kernel
theorem dX11_leaveInThought_33 : decode cX11_leaveInThought 33 = .ok (.iconst 0, 1) := by decide +kernel
theorem dX11_leaveInThought_34 : decode cX11_leaveInThought 34 = .ok (.putfield 442, 3) := by decide +kernel
theorem dX11_leaveInThought_37 : decode cX11_leaveInThought 37 = .ok (.aload_n 0, 1) := by decide +kernel
theorem dX11_leaveInThought_38 : decode cX11_leaveInThought 38 = .ok (.invokevirtual 448, 3) := by decide +kernel
theorem dX11_leaveInThought_41 : decode cX11_leaveInThought 41 = .ok (.return_, 1) := by decide +kernel
theorem dX11_round_0 : decode cX11_round 0 = .ok (.iconst 0, 1) := by decide +kernel
theorem dX11_round_1 : decode cX11_round 1 = .ok (.istore_n 1, 1) := by decide +kernel
theorem dX11_round_2 : decode cX11_round 2 = .ok (.iconst 0, 1) := by decide +kernel
theorem dX11_round_3 : decode cX11_round 3 = .ok (.istore_n 2, 1) := by decide +kernel
theorem dX11_round_4 : decode cX11_round 4 = .ok (.iload_n 2, 1) := by decide +kernel
theorem dX11_round_5 : decode cX11_round 5 = .ok (.aload_n 0, 1) := by decide +kernel
theorem dX11_round_6 : decode cX11_round 6 = .ok (.getfield 17, 3) := by decide +kernel
theorem dX11_round_9 : decode cX11_round 9 = .ok (.bipush 8, 2) := by decide +kernel
theorem dX11_round_11 : decode cX11_round 11 = .ok (.iaload, 1) := by decide +kernel
theorem dX11_round_12 : decode cX11_round 12 = .ok (.if_icmp .ge 75, 3) := by decide +kernel
theorem dX11_round_15 : decode cX11_round 15 = .ok (.aload_n 0, 1) := by decide +kernel
theorem dX11_round_16 : decode cX11_round 16 = .ok (.iload_n 2, 1) := by decide +kernel
theorem dX11_round_17 : decode cX11_round 17 = .ok (.invokevirtual 336, 3) := by decide +kernel
theorem dX11_round_20 : decode cX11_round 20 = .ok (.ifCond .eq 61, 3) := by decide +kernel
theorem dX11_round_23 : decode cX11_round 23 = .ok (.aload_n 0, 1) := by decide +kernel
theorem dX11_round_24 : decode cX11_round 24 = .ok (.iload_n 2, 1) := by decide +kernel
theorem dX11_round_25 : decode cX11_round 25 = .ok (.invokevirtual 309, 3) := by decide +kernel
theorem dX11_round_28 : decode cX11_round 28 = .ok (.ifCond .eq 53, 3) := by decide +kernel
theorem dX11_round_31 : decode cX11_round 31 = .ok (.aload_n 0, 1) := by decide +kernel
theorem dX11_round_32 : decode cX11_round 32 = .ok (.getfield 17, 3) := by decide +kernel
theorem dX11_round_35 : decode cX11_round 35 = .ok (.iconst 2, 1) := by decide +kernel
theorem dX11_round_36 : decode cX11_round 36 = .ok (.iaload, 1) := by decide +kernel
theorem dX11_round_37 : decode cX11_round 37 = .ok (.aload_n 0, 1) := by decide +kernel
theorem dX11_round_38 : decode cX11_round 38 = .ok (.iload_n 2, 1) := by decide +kernel
theorem dX11_round_39 : decode cX11_round 39 = .ok (.iconst 2, 1) := by decide +kernel
theorem dX11_round_40 : decode cX11_round 40 = .ok (.invokevirtual 84, 3) := by decide +kernel
theorem dX11_round_43 : decode cX11_round 43 = .ok (.isub, 1) := by decide +kernel
theorem dX11_round_44 : decode cX11_round 44 = .ok (.aload_n 0, 1) := by decide +kernel
theorem dX11_round_45 : decode cX11_round 45 = .ok (.getfield 17, 3) := by decide +kernel
theorem dX11_round_48 : decode cX11_round 48 = .ok (.iconst 0, 1) := by decide +kernel
theorem dX11_round_49 : decode cX11_round 49 = .ok (.iaload, 1) := by decide +kernel
theorem dX11_round_50 : decode cX11_round 50 = .ok (.if_icmp .ge 6, 3) := by decide +kernel
theorem dX11_round_53 : decode cX11_round 53 = .ok (.goto 28, 3) := by decide +kernel
theorem dX11_round_56 : decode cX11_round 56 = .ok (.aload_n 0, 1) := by decide +kernel
theorem dX11_round_57 : decode cX11_round 57 = .ok (.getfield 17, 3) := by decide +kernel
theorem dX11_round_60 : decode cX11_round 60 = .ok (.sipush 4771, 3) := by decide +kernel
theorem dX11_round_63 : decode cX11_round 63 = .ok (.iconst 3, 1) := by decide +kernel
theorem dX11_round_64 : decode cX11_round 64 = .ok (.iload_n 2, 1) := by decide +kernel
theorem dX11_round_65 : decode cX11_round 65 = .ok (.imul, 1) := by decide +kernel
theorem dX11_round_66 : decode cX11_round 66 = .ok (.iadd, 1) := by decide +kernel
theorem dX11_round_67 : decode cX11_round 67 = .ok (.iconst 1, 1) := by decide +kernel
theorem dX11_round_68 : decode cX11_round 68 = .ok (.iadd, 1) := by decide +kernel
theorem dX11_round_69 : decode cX11_round 69 = .ok (.iconst 0, 1) := by decide +kernel
theorem dX11_round_70 : decode cX11_round 70 = .ok (.iastore, 1) := by decide +kernel
theorem dX11_round_71 : decode cX11_round 71 = .ok (.aload_n 0, 1) := by decide +kernel
theorem dX11_round_72 : decode cX11_round 72 = .ok (.bipush 8, 2) := by decide +kernel
theorem dX11_round_74 : decode cX11_round 74 = .ok (.iload_n 2, 1) := by decide +kernel
theorem dX11_round_75 : decode cX11_round 75 = .ok (.invokevirtual 315, 3) := by decide +kernel
theorem dX11_round_78 : decode cX11_round 78 = .ok (.iinc 1 1, 3) := by decide +kernel
theorem dX11_round_81 : decode cX11_round 81 = .ok (.iinc 2 1, 3) := by decide +kernel
theorem dX11_round_84 : decode cX11_round 84 = .ok (.goto (-80), 3) := by decide +kernel
theorem dX11_round_87 : decode cX11_round 87 = .ok (.aload_n 0, 1) := by decide +kernel
theorem dX11_round_88 : decode cX11_round 88 = .ok (.bipush 9, 2) := by decide +kernel
theorem dX11_round_90 : decode cX11_round 90 = .ok (.iload_n 1, 1) := by decide +kernel
theorem dX11_round_91 : decode cX11_round 91 = .ok (.invokevirtual 315, 3) := by decide +kernel
theorem dX11_round_94 : decode cX11_round 94 = .ok (.iload_n 1, 1) := by decide +kernel
theorem dX11_round_95 : decode cX11_round 95 = .ok (.ireturn, 1) := by decide +kernel
theorem dX11_passDay_0 : decode cX11_passDay 0 = .ok (.aload_n 0, 1) := by decide +kernel
theorem dX11_passDay_1 : decode cX11_passDay 1 = .ok (.getfield 17, 3) := by decide +kernel
theorem dX11_passDay_4 : decode cX11_passDay 4 = .ok (.iconst 2, 1) := by decide +kernel
theorem dX11_passDay_5 : decode cX11_passDay 5 = .ok (.dup2, 1) := by decide +kernel
theorem dX11_passDay_6 : decode cX11_passDay 6 = .ok (.iaload, 1) := by decide +kernel
theorem dX11_passDay_7 : decode cX11_passDay 7 = .ok (.iconst 1, 1) := by decide +kernel
theorem dX11_passDay_8 : decode cX11_passDay 8 = .ok (.iadd, 1) := by decide +kernel
theorem dX11_passDay_9 : decode cX11_passDay 9 = .ok (.iastore, 1) := by decide +kernel
theorem dX11_passDay_10 : decode cX11_passDay 10 = .ok (.aload_n 0, 1) := by decide +kernel
theorem dX11_passDay_11 : decode cX11_passDay 11 = .ok (.getfield 87, 3) := by decide +kernel
theorem dX11_passDay_14 : decode cX11_passDay 14 = .ok (.ifCond .ne 14, 3) := by decide +kernel
theorem dX11_passDay_17 : decode cX11_passDay 17 = .ok (.aload_n 0, 1) := by decide +kernel
theorem dX11_passDay_18 : decode cX11_passDay 18 = .ok (.invokevirtual 445, 3) := by decide +kernel
theorem dX11_passDay_21 : decode cX11_passDay 21 = .ok (.ifCond .eq 7, 3) := by decide +kernel
theorem dX11_passDay_24 : decode cX11_passDay 24 = .ok (.iconst 1, 1) := by decide +kernel
theorem dX11_passDay_25 : decode cX11_passDay 25 = .ok (.goto 4, 3) := by decide +kernel
theorem dX11_passDay_28 : decode cX11_passDay 28 = .ok (.iconst 0, 1) := by decide +kernel
theorem dX11_passDay_29 : decode cX11_passDay 29 = .ok (.istore_n 1, 1) := by decide +kernel
theorem dX11_passDay_30 : decode cX11_passDay 30 = .ok (.aload_n 0, 1) := by decide +kernel
theorem dX11_passDay_31 : decode cX11_passDay 31 = .ok (.getfield 87, 3) := by decide +kernel
theorem dX11_passDay_34 : decode cX11_passDay 34 = .ok (.ifCond .eq 7, 3) := by decide +kernel
theorem dX11_passDay_37 : decode cX11_passDay 37 = .ok (.aload_n 0, 1) := by decide +kernel
theorem dX11_passDay_38 : decode cX11_passDay 38 = .ok (.invokevirtual 451, 3) := by decide +kernel
theorem dX11_passDay_41 : decode cX11_passDay 41 = .ok (.aload_n 0, 1) := by decide +kernel
theorem dX11_passDay_42 : decode cX11_passDay 42 = .ok (.getfield 17, 3) := by decide +kernel
theorem dX11_passDay_45 : decode cX11_passDay 45 = .ok (.iconst 2, 1) := by decide +kernel
theorem dX11_passDay_46 : decode cX11_passDay 46 = .ok (.iaload, 1) := by decide +kernel
theorem dX11_passDay_47 : decode cX11_passDay 47 = .ok (.aload_n 0, 1) := by decide +kernel
theorem dX11_passDay_48 : decode cX11_passDay 48 = .ok (.getfield 17, 3) := by decide +kernel
theorem dX11_passDay_51 : decode cX11_passDay 51 = .ok (.iconst 1, 1) := by decide +kernel
theorem dX11_passDay_52 : decode cX11_passDay 52 = .ok (.iaload, 1) := by decide +kernel
theorem dX11_passDay_53 : decode cX11_passDay 53 = .ok (.irem, 1) := by decide +kernel
theorem dX11_passDay_54 : decode cX11_passDay 54 = .ok (.ifCond .ne 10, 3) := by decide +kernel
theorem dX11_passDay_57 : decode cX11_passDay 57 = .ok (.aload_n 0, 1) := by decide +kernel
theorem dX11_passDay_58 : decode cX11_passDay 58 = .ok (.invokevirtual 454, 3) := by decide +kernel
theorem dX11_passDay_61 : decode cX11_passDay 61 = .ok (.goto 4, 3) := by decide +kernel
theorem dX11_passDay_64 : decode cX11_passDay 64 = .ok (.iconst 0, 1) := by decide +kernel
theorem dX11_passDay_65 : decode cX11_passDay 65 = .ok (.istore_n 2, 1) := by decide +kernel
theorem dX11_passDay_66 : decode cX11_passDay 66 = .ok (.aload_n 0, 1) := by decide +kernel
theorem dX11_passDay_67 : decode cX11_passDay 67 = .ok (.bipush 10, 2) := by decide +kernel
theorem dX11_passDay_69 : decode cX11_passDay 69 = .ok (.aload_n 0, 1) := by decide +kernel
theorem dX11_passDay_70 : decode cX11_passDay 70 = .ok (.getfield 17, 3) := by decide +kernel
theorem dX11_passDay_73 : decode cX11_passDay 73 = .ok (.iconst 2, 1) := by decide +kernel
theorem dX11_passDay_74 : decode cX11_passDay 74 = .ok (.iaload, 1) := by decide +kernel
theorem dX11_passDay_75 : decode cX11_passDay 75 = .ok (.invokevirtual 315, 3) := by decide +kernel
theorem dX11_passDay_78 : decode cX11_passDay 78 = .ok (.iload_n 2, 1) := by decide +kernel
theorem dX11_passDay_79 : decode cX11_passDay 79 = .ok (.ireturn, 1) := by decide +kernel
theorem dX11_advance_0 : decode cX11_advance 0 = .ok (.aload_n 0, 1) := by decide +kernel
theorem dX11_advance_1 : decode cX11_advance 1 = .ok (.iload_n 1, 1) := by decide +kernel
theorem dX11_advance_2 : decode cX11_advance 2 = .ok (.i2l, 1) := by decide +kernel
theorem dX11_advance_3 : decode cX11_advance 3 = .ok (.lconst 1, 1) := by decide +kernel
theorem dX11_advance_4 : decode cX11_advance 4 = .ok (.ldc2_w 456, 3) := by decide +kernel
theorem dX11_advance_7 : decode cX11_advance 7 = .ok (.invokestatic 64, 3) := by decide +kernel
theorem dX11_advance_10 : decode cX11_advance 10 = .ok (.aload_n 0, 1) := by decide +kernel
theorem dX11_advance_11 : decode cX11_advance 11 = .ok (.getfield 17, 3) := by decide +kernel
theorem dX11_advance_14 : decode cX11_advance 14 = .ok (.iconst 2, 1) := by decide +kernel
theorem dX11_advance_15 : decode cX11_advance 15 = .ok (.iaload, 1) := by decide +kernel
theorem dX11_advance_16 : decode cX11_advance 16 = .ok (.i2l, 1) := by decide +kernel
theorem dX11_advance_17 : decode cX11_advance 17 = .ok (.iload_n 1, 1) := by decide +kernel
theorem dX11_advance_18 : decode cX11_advance 18 = .ok (.i2l, 1) := by decide +kernel
theorem dX11_advance_19 : decode cX11_advance 19 = .ok (.ladd, 1) := by decide +kernel
theorem dX11_advance_20 : decode cX11_advance 20 = .ok (.ldc2_w 458, 3) := by decide +kernel
theorem dX11_advance_23 : decode cX11_advance 23 = .ok (.lcmp, 1) := by decide +kernel
theorem dX11_advance_24 : decode cX11_advance 24 = .ok (.ifCond .gt 7, 3) := by decide +kernel
theorem dX11_advance_27 : decode cX11_advance 27 = .ok (.iconst 1, 1) := by decide +kernel
theorem dX11_advance_28 : decode cX11_advance 28 = .ok (.goto 4, 3) := by decide +kernel
theorem dX11_advance_31 : decode cX11_advance 31 = .ok (.iconst 0, 1) := by decide +kernel
theorem dX11_advance_32 : decode cX11_advance 32 = .ok (.invokevirtual 267, 3) := by decide +kernel
theorem dX11_advance_35 : decode cX11_advance 35 = .ok (.ifCond .ne 5, 3) := by decide +kernel
theorem dX11_advance_38 : decode cX11_advance 38 = .ok (.iconst 0, 1) := by decide +kernel
theorem dX11_advance_39 : decode cX11_advance 39 = .ok (.ireturn, 1) := by decide +kernel
theorem dX11_advance_40 : decode cX11_advance 40 = .ok (.aload_n 0, 1) := by decide +kernel
theorem dX11_advance_41 : decode cX11_advance 41 = .ok (.invokevirtual 256, 3) := by decide +kernel
theorem dX11_advance_44 : decode cX11_advance 44 = .ok (.iconst 0, 1) := by decide +kernel
theorem dX11_advance_45 : decode cX11_advance 45 = .ok (.istore_n 2, 1) := by decide +kernel
theorem dX11_advance_46 : decode cX11_advance 46 = .ok (.iconst 0, 1) := by decide +kernel
theorem dX11_advance_47 : decode cX11_advance 47 = .ok (.istore_n 3, 1) := by decide +kernel
theorem dX11_advance_48 : decode cX11_advance 48 = .ok (.iload_n 3, 1) := by decide +kernel
theorem dX11_advance_49 : decode cX11_advance 49 = .ok (.iload_n 1, 1) := by decide +kernel
theorem dX11_advance_50 : decode cX11_advance 50 = .ok (.if_icmp .ge 16, 3) := by decide +kernel
theorem dX11_advance_53 : decode cX11_advance 53 = .ok (.iload_n 2, 1) := by decide +kernel
theorem dX11_advance_54 : decode cX11_advance 54 = .ok (.aload_n 0, 1) := by decide +kernel
theorem dX11_advance_55 : decode cX11_advance 55 = .ok (.invokevirtual 460, 3) := by decide +kernel
theorem dX11_advance_58 : decode cX11_advance 58 = .ok (.iadd, 1) := by decide +kernel
theorem dX11_advance_59 : decode cX11_advance 59 = .ok (.istore_n 2, 1) := by decide +kernel
theorem dX11_advance_60 : decode cX11_advance 60 = .ok (.iinc 3 1, 3) := by decide +kernel
theorem dX11_advance_63 : decode cX11_advance 63 = .ok (.goto (-15), 3) := by decide +kernel
theorem dX11_advance_66 : decode cX11_advance 66 = .ok (.iload_n 2, 1) := by decide +kernel
theorem dX11_advance_67 : decode cX11_advance 67 = .ok (.ireturn, 1) := by decide +kernel
theorem dX11_nextRound_0 : decode cX11_nextRound 0 = .ok (.aload_n 0, 1) := by decide +kernel
theorem dX11_nextRound_1 : decode cX11_nextRound 1 = .ok (.iconst 0, 1) := by decide +kernel
theorem dX11_nextRound_2 : decode cX11_nextRound 2 = .ok (.putfield 3, 3) := by decide +kernel
theorem dX11_nextRound_5 : decode cX11_nextRound 5 = .ok (.aload_n 0, 1) := by decide +kernel
theorem dX11_nextRound_6 : decode cX11_nextRound 6 = .ok (.getfield 17, 3) := by decide +kernel
theorem dX11_nextRound_9 : decode cX11_nextRound 9 = .ok (.iconst 2, 1) := by decide +kernel
theorem dX11_nextRound_10 : decode cX11_nextRound 10 = .ok (.iaload, 1) := by decide +kernel
theorem dX11_nextRound_11 : decode cX11_nextRound 11 = .ok (.aload_n 0, 1) := by decide +kernel
theorem dX11_nextRound_12 : decode cX11_nextRound 12 = .ok (.getfield 17, 3) := by decide +kernel
theorem dX11_nextRound_15 : decode cX11_nextRound 15 = .ok (.iconst 1, 1) := by decide +kernel
theorem dX11_nextRound_16 : decode cX11_nextRound 16 = .ok (.iaload, 1) := by decide +kernel
theorem dX11_nextRound_17 : decode cX11_nextRound 17 = .ok (.idiv, 1) := by decide +kernel
theorem dX11_nextRound_18 : decode cX11_nextRound 18 = .ok (.iconst 1, 1) := by decide +kernel
theorem dX11_nextRound_19 : decode cX11_nextRound 19 = .ok (.iadd, 1) := by decide +kernel
theorem dX11_nextRound_20 : decode cX11_nextRound 20 = .ok (.aload_n 0, 1) := by decide +kernel
theorem dX11_nextRound_21 : decode cX11_nextRound 21 = .ok (.getfield 17, 3) := by decide +kernel
theorem dX11_nextRound_24 : decode cX11_nextRound 24 = .ok (.iconst 1, 1) := by decide +kernel
theorem dX11_nextRound_25 : decode cX11_nextRound 25 = .ok (.iaload, 1) := by decide +kernel
theorem dX11_nextRound_26 : decode cX11_nextRound 26 = .ok (.imul, 1) := by decide +kernel
theorem dX11_nextRound_27 : decode cX11_nextRound 27 = .ok (.ireturn, 1) := by decide +kernel
theorem dX11_beginThought_0 : decode cX11_beginThought 0 = .ok (.iconst 0, 1) := by decide +kernel
theorem dX11_beginThought_1 : decode cX11_beginThought 1 = .ok (.istore_n 1, 1) := by decide +kernel
theorem dX11_beginThought_2 : decode cX11_beginThought 2 = .ok (.iload_n 1, 1) := by decide +kernel
theorem dX11_beginThought_3 : decode cX11_beginThought 3 = .ok (.sipush 6391, 3) := by decide +kernel
theorem dX11_beginThought_6 : decode cX11_beginThought 6 = .ok (.if_icmp .ge 21, 3) := by decide +kernel
theorem dX11_beginThought_9 : decode cX11_beginThought 9 = .ok (.aload_n 0, 1) := by decide +kernel
theorem dX11_beginThought_10 : decode cX11_beginThought 10 = .ok (.getfield 50, 3) := by decide +kernel
theorem dX11_beginThought_13 : decode cX11_beginThought 13 = .ok (.iload_n 1, 1) := by decide +kernel
theorem dX11_beginThought_14 : decode cX11_beginThought 14 = .ok (.aload_n 0, 1) := by decide +kernel
theorem dX11_beginThought_15 : decode cX11_beginThought 15 = .ok (.getfield 17, 3) := by decide +kernel
theorem dX11_beginThought_18 : decode cX11_beginThought 18 = .ok (.iload_n 1, 1) := by decide +kernel
theorem dX11_beginThought_19 : decode cX11_beginThought 19 = .ok (.iaload, 1) := by decide +kernel
theorem dX11_beginThought_20 : decode cX11_beginThought 20 = .ok (.iastore, 1) := by decide +kernel
theorem dX11_beginThought_21 : decode cX11_beginThought 21 = .ok (.iinc 1 1, 3) := by decide +kernel
theorem dX11_beginThought_24 : decode cX11_beginThought 24 = .ok (.goto (-22), 3) := by decide +kernel
theorem dX11_beginThought_27 : decode cX11_beginThought 27 = .ok (.aload_n 0, 1) := by decide +kernel
theorem dX11_beginThought_28 : decode cX11_beginThought 28 = .ok (.iconst 1, 1) := by decide +kernel
theorem dX11_beginThought_29 : decode cX11_beginThought 29 = .ok (.putfield 87, 3) := by decide +kernel
theorem dX11_beginThought_32 : decode cX11_beginThought 32 = .ok (.aload_n 0, 1) := by decide +kernel
theorem dX11_beginThought_33 : decode cX11_beginThought 33 = .ok (.iconst 0, 1) := by decide +kernel
theorem dX11_beginThought_34 : decode cX11_beginThought 34 = .ok (.putfield 442, 3) := by decide +kernel
theorem dX11_beginThought_37 : decode cX11_beginThought 37 = .ok (.return_, 1) := by decide +kernel
theorem dX11_endThought_0 : decode cX11_endThought 0 = .ok (.iconst 0, 1) := by decide +kernel
theorem dX11_endThought_1 : decode cX11_endThought 1 = .ok (.istore_n 1, 1) := by decide +kernel
theorem dX11_endThought_2 : decode cX11_endThought 2 = .ok (.iload_n 1, 1) := by decide +kernel
theorem dX11_endThought_3 : decode cX11_endThought 3 = .ok (.sipush 6391, 3) := by decide +kernel
theorem dX11_endThought_6 : decode cX11_endThought 6 = .ok (.if_icmp .ge 21, 3) := by decide +kernel
theorem dX11_endThought_9 : decode cX11_endThought 9 = .ok (.aload_n 0, 1) := by decide +kernel
theorem dX11_endThought_10 : decode cX11_endThought 10 = .ok (.getfield 17, 3) := by decide +kernel
theorem dX11_endThought_13 : decode cX11_endThought 13 = .ok (.iload_n 1, 1) := by decide +kernel
theorem dX11_endThought_14 : decode cX11_endThought 14 = .ok (.aload_n 0, 1) := by decide +kernel
theorem dX11_endThought_15 : decode cX11_endThought 15 = .ok (.getfield 50, 3) := by decide +kernel
theorem dX11_endThought_18 : decode cX11_endThought 18 = .ok (.iload_n 1, 1) := by decide +kernel
theorem dX11_endThought_19 : decode cX11_endThought 19 = .ok (.iaload, 1) := by decide +kernel
theorem dX11_endThought_20 : decode cX11_endThought 20 = .ok (.iastore, 1) := by decide +kernel
theorem dX11_endThought_21 : decode cX11_endThought 21 = .ok (.iinc 1 1, 3) := by decide +kernel
theorem dX11_endThought_24 : decode cX11_endThought 24 = .ok (.goto (-22), 3) := by decide +kernel
theorem dX11_endThought_27 : decode cX11_endThought 27 = .ok (.aload_n 0, 1) := by decide +kernel
theorem dX11_endThought_28 : decode cX11_endThought 28 = .ok (.iconst 0, 1) := by decide +kernel
theorem dX11_endThought_29 : decode cX11_endThought 29 = .ok (.putfield 87, 3) := by decide +kernel
theorem dX11_endThought_32 : decode cX11_endThought 32 = .ok (.return_, 1) := by decide +kernel
theorem dX11_removedOn_0 : decode cX11_removedOn 0 = .ok (.aload_n 0, 1) := by decide +kernel
theorem dX11_removedOn_1 : decode cX11_removedOn 1 = .ok (.aload_n 0, 1) := by decide +kernel
theorem dX11_removedOn_2 : decode cX11_removedOn 2 = .ok (.iload_n 1, 1) := by decide +kernel
theorem dX11_removedOn_3 : decode cX11_removedOn 3 = .ok (.invokevirtual 336, 3) := by decide +kernel
theorem dX11_removedOn_6 : decode cX11_removedOn 6 = .ok (.invokevirtual 94, 3) := by decide +kernel
theorem dX11_removedOn_9 : decode cX11_removedOn 9 = .ok (.ifCond .ne 5, 3) := by decide +kernel
theorem dX11_removedOn_12 : decode cX11_removedOn 12 = .ok (.iconst 0, 1) := by decide +kernel
theorem dX11_removedOn_13 : decode cX11_removedOn 13 = .ok (.ireturn, 1) := by decide +kernel
theorem dX11_removedOn_14 : decode cX11_removedOn 14 = .ok (.aload_n 0, 1) := by decide +kernel
theorem dX11_removedOn_15 : decode cX11_removedOn 15 = .ok (.invokevirtual 463, 3) := by decide +kernel
theorem dX11_removedOn_18 : decode cX11_removedOn 18 = .ok (.iconst 0, 1) := by decide +kernel
theorem dX11_removedOn_19 : decode cX11_removedOn 19 = .ok (.istore_n 2, 1) := by decide +kernel
theorem dX11_removedOn_20 : decode cX11_removedOn 20 = .ok (.iload_n 2, 1) := by decide +kernel
theorem dX11_removedOn_21 : decode cX11_removedOn 21 = .ok (.sipush 2000, 3) := by decide +kernel
theorem dX11_removedOn_24 : decode cX11_removedOn 24 = .ok (.if_icmp .ge 22, 3) := by decide +kernel
theorem dX11_removedOn_27 : decode cX11_removedOn 27 = .ok (.aload_n 0, 1) := by decide +kernel
theorem dX11_removedOn_28 : decode cX11_removedOn 28 = .ok (.iload_n 1, 1) := by decide +kernel
theorem dX11_removedOn_29 : decode cX11_removedOn 29 = .ok (.invokevirtual 336, 3) := by decide +kernel
theorem dX11_removedOn_32 : decode cX11_removedOn 32 = .ok (.ifCond .eq 14, 3) := by decide +kernel
theorem dX11_removedOn_35 : decode cX11_removedOn 35 = .ok (.aload_n 0, 1) := by decide +kernel
theorem dX11_removedOn_36 : decode cX11_removedOn 36 = .ok (.invokevirtual 460, 3) := by decide +kernel
theorem dX11_removedOn_39 : decode cX11_removedOn 39 = .ok (.pop, 1) := by decide +kernel
theorem dX11_removedOn_40 : decode cX11_removedOn 40 = .ok (.iinc 2 1, 3) := by decide +kernel
theorem dX11_removedOn_43 : decode cX11_removedOn 43 = .ok (.goto (-23), 3) := by decide +kernel
theorem dX11_removedOn_46 : decode cX11_removedOn 46 = .ok (.aload_n 0, 1) := by decide +kernel
theorem dX11_removedOn_47 : decode cX11_removedOn 47 = .ok (.iload_n 1, 1) := by decide +kernel
theorem dX11_removedOn_48 : decode cX11_removedOn 48 = .ok (.invokevirtual 336, 3) := by decide +kernel
theorem dX11_removedOn_51 : decode cX11_removedOn 51 = .ok (.ifCond .eq 7, 3) := by decide +kernel
theorem dX11_removedOn_54 : decode cX11_removedOn 54 = .ok (.iconst (-1), 1) := by decide +kernel
theorem dX11_removedOn_55 : decode cX11_removedOn 55 = .ok (.goto 9, 3) := by decide +kernel
theorem dX11_removedOn_58 : decode cX11_removedOn 58 = .ok (.aload_n 0, 1) := by decide +kernel
theorem dX11_removedOn_59 : decode cX11_removedOn 59 = .ok (.getfield 17, 3) := by decide +kernel
theorem dX11_removedOn_62 : decode cX11_removedOn 62 = .ok (.iconst 2, 1) := by decide +kernel
theorem dX11_removedOn_63 : decode cX11_removedOn 63 = .ok (.iaload, 1) := by decide +kernel
theorem dX11_removedOn_64 : decode cX11_removedOn 64 = .ok (.istore_n 2, 1) := by decide +kernel
theorem dX11_removedOn_65 : decode cX11_removedOn 65 = .ok (.aload_n 0, 1) := by decide +kernel
theorem dX11_removedOn_66 : decode cX11_removedOn 66 = .ok (.invokevirtual 466, 3) := by decide +kernel
theorem dX11_removedOn_69 : decode cX11_removedOn 69 = .ok (.iload_n 2, 1) := by decide +kernel
theorem dX11_removedOn_70 : decode cX11_removedOn 70 = .ok (.ireturn, 1) := by decide +kernel
theorem dX11_emptyOn_0 : decode cX11_emptyOn 0 = .ok (.aload_n 0, 1) := by decide +kernel
theorem dX11_emptyOn_1 : decode cX11_emptyOn 1 = .ok (.iconst 0, 1) := by decide +kernel
theorem dX11_emptyOn_2 : decode cX11_emptyOn 2 = .ok (.putfield 3, 3) := by decide +kernel
theorem dX11_emptyOn_5 : decode cX11_emptyOn 5 = .ok (.aload_n 0, 1) := by decide +kernel
theorem dX11_emptyOn_6 : decode cX11_emptyOn 6 = .ok (.invokevirtual 463, 3) := by decide +kernel
theorem dX11_emptyOn_9 : decode cX11_emptyOn 9 = .ok (.iconst 0, 1) := by decide +kernel
theorem dX11_emptyOn_10 : decode cX11_emptyOn 10 = .ok (.istore_n 1, 1) := by decide +kernel
theorem dX11_emptyOn_11 : decode cX11_emptyOn 11 = .ok (.iload_n 1, 1) := by decide +kernel
theorem dX11_emptyOn_12 : decode cX11_emptyOn 12 = .ok (.sipush 2000, 3) := by decide +kernel
theorem dX11_emptyOn_15 : decode cX11_emptyOn 15 = .ok (.if_icmp .ge 21, 3) := by decide +kernel
theorem dX11_emptyOn_18 : decode cX11_emptyOn 18 = .ok (.aload_n 0, 1) := by decide +kernel
theorem dX11_emptyOn_19 : decode cX11_emptyOn 19 = .ok (.invokevirtual 339, 3) := by decide +kernel
theorem dX11_emptyOn_22 : decode cX11_emptyOn 22 = .ok (.ifCond .le 14, 3) := by decide +kernel
theorem dX11_emptyOn_25 : decode cX11_emptyOn 25 = .ok (.aload_n 0, 1) := by decide +kernel
theorem dX11_emptyOn_26 : decode cX11_emptyOn 26 = .ok (.invokevirtual 460, 3) := by decide +kernel
theorem dX11_emptyOn_29 : decode cX11_emptyOn 29 = .ok (.pop, 1) := by decide +kernel
theorem dX11_emptyOn_30 : decode cX11_emptyOn 30 = .ok (.iinc 1 1, 3) := by decide +kernel
theorem dX11_emptyOn_33 : decode cX11_emptyOn 33 = .ok (.goto (-22), 3) := by decide +kernel
theorem dX11_emptyOn_36 : decode cX11_emptyOn 36 = .ok (.aload_n 0, 1) := by decide +kernel
theorem dX11_emptyOn_37 : decode cX11_emptyOn 37 = .ok (.invokevirtual 339, 3) := by decide +kernel
theorem dX11_emptyOn_40 : decode cX11_emptyOn 40 = .ok (.ifCond .le 7, 3) := by decide +kernel
theorem dX11_emptyOn_43 : decode cX11_emptyOn 43 = .ok (.iconst (-1), 1) := by decide +kernel
theorem dX11_emptyOn_44 : decode cX11_emptyOn 44 = .ok (.goto 9, 3) := by decide +kernel
theorem dX11_emptyOn_47 : decode cX11_emptyOn 47 = .ok (.aload_n 0, 1) := by decide +kernel
theorem dX11_emptyOn_48 : decode cX11_emptyOn 48 = .ok (.getfield 17, 3) := by decide +kernel
theorem dX11_emptyOn_51 : decode cX11_emptyOn 51 = .ok (.iconst 2, 1) := by decide +kernel
theorem dX11_emptyOn_52 : decode cX11_emptyOn 52 = .ok (.iaload, 1) := by decide +kernel
theorem dX11_emptyOn_53 : decode cX11_emptyOn 53 = .ok (.istore_n 1, 1) := by decide +kernel
theorem dX11_emptyOn_54 : decode cX11_emptyOn 54 = .ok (.aload_n 0, 1) := by decide +kernel
theorem dX11_emptyOn_55 : decode cX11_emptyOn 55 = .ok (.invokevirtual 466, 3) := by decide +kernel
theorem dX11_emptyOn_58 : decode cX11_emptyOn 58 = .ok (.iload_n 1, 1) := by decide +kernel
theorem dX11_emptyOn_59 : decode cX11_emptyOn 59 = .ok (.ireturn, 1) := by decide +kernel
theorem dX11_areDays_0 : decode cX11_areDays 0 = .ok (.iload_n 0, 1) := by decide +kernel
theorem dX11_areDays_1 : decode cX11_areDays 1 = .ok (.i2l, 1) := by decide +kernel
theorem dX11_areDays_2 : decode cX11_areDays 2 = .ok (.lconst 0, 1) := by decide +kernel
theorem dX11_areDays_3 : decode cX11_areDays 3 = .ok (.ldc2_w 469, 3) := by decide +kernel
theorem dX11_areDays_6 : decode cX11_areDays 6 = .ok (.invokestatic 64, 3) := by decide +kernel
theorem dX11_areDays_9 : decode cX11_areDays 9 = .ok (.ireturn, 1) := by decide +kernel
theorem dX11_bytesAfter_0 : decode cX11_bytesAfter 0 = .ok (.aload_n 0, 1) := by decide +kernel
theorem dX11_bytesAfter_1 : decode cX11_bytesAfter 1 = .ok (.iload_n 1, 1) := by decide +kernel
theorem dX11_bytesAfter_2 : decode cX11_bytesAfter 2 = .ok (.invokestatic 471, 3) := by decide +kernel
theorem dX11_bytesAfter_5 : decode cX11_bytesAfter 5 = .ok (.invokevirtual 94, 3) := by decide +kernel
theorem dX11_bytesAfter_8 : decode cX11_bytesAfter 8 = .ok (.ifCond .ne 5, 3) := by decide +kernel
theorem dX11_bytesAfter_11 : decode cX11_bytesAfter 11 = .ok (.iconst 0, 1) := by decide +kernel
theorem dX11_bytesAfter_12 : decode cX11_bytesAfter 12 = .ok (.ireturn, 1) := by decide +kernel
theorem dX11_bytesAfter_13 : decode cX11_bytesAfter 13 = .ok (.aload_n 0, 1) := by decide +kernel
theorem dX11_bytesAfter_14 : decode cX11_bytesAfter 14 = .ok (.invokevirtual 463, 3) := by decide +kernel
theorem dX11_bytesAfter_17 : decode cX11_bytesAfter 17 = .ok (.iconst 0, 1) := by decide +kernel
theorem dX11_bytesAfter_18 : decode cX11_bytesAfter 18 = .ok (.istore_n 2, 1) := by decide +kernel
theorem dX11_bytesAfter_19 : decode cX11_bytesAfter 19 = .ok (.iload_n 2, 1) := by decide +kernel
theorem dX11_bytesAfter_20 : decode cX11_bytesAfter 20 = .ok (.iload_n 1, 1) := by decide +kernel
theorem dX11_bytesAfter_21 : decode cX11_bytesAfter 21 = .ok (.if_icmp .ge 14, 3) := by decide +kernel
theorem dX11_bytesAfter_24 : decode cX11_bytesAfter 24 = .ok (.aload_n 0, 1) := by decide +kernel
theorem dX11_bytesAfter_25 : decode cX11_bytesAfter 25 = .ok (.invokevirtual 460, 3) := by decide +kernel
theorem dX11_bytesAfter_28 : decode cX11_bytesAfter 28 = .ok (.pop, 1) := by decide +kernel
theorem dX11_bytesAfter_29 : decode cX11_bytesAfter 29 = .ok (.iinc 2 1, 3) := by decide +kernel
theorem dX11_bytesAfter_32 : decode cX11_bytesAfter 32 = .ok (.goto (-13), 3) := by decide +kernel
theorem dX11_bytesAfter_35 : decode cX11_bytesAfter 35 = .ok (.aload_n 0, 1) := by decide +kernel
theorem dX11_bytesAfter_36 : decode cX11_bytesAfter 36 = .ok (.invokevirtual 339, 3) := by decide +kernel
theorem dX11_bytesAfter_39 : decode cX11_bytesAfter 39 = .ok (.istore_n 2, 1) := by decide +kernel
theorem dX11_bytesAfter_40 : decode cX11_bytesAfter 40 = .ok (.aload_n 0, 1) := by decide +kernel
theorem dX11_bytesAfter_41 : decode cX11_bytesAfter 41 = .ok (.invokevirtual 466, 3) := by decide +kernel
theorem dX11_bytesAfter_44 : decode cX11_bytesAfter 44 = .ok (.iload_n 2, 1) := by decide +kernel
theorem dX11_bytesAfter_45 : decode cX11_bytesAfter 45 = .ok (.ireturn, 1) := by decide +kernel
theorem dX11_livesOf_0 : decode cX11_livesOf 0 = .ok (.iconst 0, 1) := by decide +kernel
theorem dX11_livesOf_1 : decode cX11_livesOf 1 = .ok (.istore_n 2, 1) := by decide +kernel
theorem dX11_livesOf_2 : decode cX11_livesOf 2 = .ok (.iconst 0, 1) := by decide +kernel
theorem dX11_livesOf_3 : decode cX11_livesOf 3 = .ok (.istore_n 3, 1) := by decide +kernel
theorem dX11_livesOf_4 : decode cX11_livesOf 4 = .ok (.iload_n 3, 1) := by decide +kernel
theorem dX11_livesOf_5 : decode cX11_livesOf 5 = .ok (.aload_n 0, 1) := by decide +kernel
theorem dX11_livesOf_6 : decode cX11_livesOf 6 = .ok (.getfield 17, 3) := by decide +kernel
theorem dX11_livesOf_9 : decode cX11_livesOf 9 = .ok (.bipush 7, 2) := by decide +kernel
theorem dX11_livesOf_11 : decode cX11_livesOf 11 = .ok (.iaload, 1) := by decide +kernel
theorem dX11_livesOf_12 : decode cX11_livesOf 12 = .ok (.if_icmp .ge 26, 3) := by decide +kernel
theorem dX11_livesOf_15 : decode cX11_livesOf 15 = .ok (.iload_n 2, 1) := by decide +kernel
theorem dX11_livesOf_16 : decode cX11_livesOf 16 = .ok (.aload_n 0, 1) := by decide +kernel
theorem dX11_livesOf_17 : decode cX11_livesOf 17 = .ok (.iload_n 3, 1) := by decide +kernel
theorem dX11_livesOf_18 : decode cX11_livesOf 18 = .ok (.iload_n 1, 1) := by decide +kernel
theorem dX11_livesOf_19 : decode cX11_livesOf 19 = .ok (.invokevirtual 348, 3) := by decide +kernel
theorem dX11_livesOf_22 : decode cX11_livesOf 22 = .ok (.ifCond .eq 7, 3) := by decide +kernel
theorem dX11_livesOf_25 : decode cX11_livesOf 25 = .ok (.iconst 1, 1) := by decide +kernel
theorem dX11_livesOf_26 : decode cX11_livesOf 26 = .ok (.goto 4, 3) := by decide +kernel
theorem dX11_livesOf_29 : decode cX11_livesOf 29 = .ok (.iconst 0, 1) := by decide +kernel
theorem dX11_livesOf_30 : decode cX11_livesOf 30 = .ok (.iadd, 1) := by decide +kernel
theorem dX11_livesOf_31 : decode cX11_livesOf 31 = .ok (.istore_n 2, 1) := by decide +kernel
theorem dX11_livesOf_32 : decode cX11_livesOf 32 = .ok (.iinc 3 1, 3) := by decide +kernel
theorem dX11_livesOf_35 : decode cX11_livesOf 35 = .ok (.goto (-31), 3) := by decide +kernel
theorem dX11_livesOf_38 : decode cX11_livesOf 38 = .ok (.iload_n 2, 1) := by decide +kernel
theorem dX11_livesOf_39 : decode cX11_livesOf 39 = .ok (.ireturn, 1) := by decide +kernel
theorem dX11_goneAfter_0 : decode cX11_goneAfter 0 = .ok (.aload_n 0, 1) := by decide +kernel
theorem dX11_goneAfter_1 : decode cX11_goneAfter 1 = .ok (.aload_n 0, 1) := by decide +kernel
theorem dX11_goneAfter_2 : decode cX11_goneAfter 2 = .ok (.iload_n 1, 1) := by decide +kernel
theorem dX11_goneAfter_3 : decode cX11_goneAfter 3 = .ok (.invokevirtual 76, 3) := by decide +kernel
theorem dX11_goneAfter_6 : decode cX11_goneAfter 6 = .ok (.iload_n 2, 1) := by decide +kernel
theorem dX11_goneAfter_7 : decode cX11_goneAfter 7 = .ok (.invokestatic 471, 3) := by decide +kernel
theorem dX11_goneAfter_10 : decode cX11_goneAfter 10 = .ok (.invokevirtual 267, 3) := by decide +kernel
theorem dX11_goneAfter_13 : decode cX11_goneAfter 13 = .ok (.ifCond .ne 5, 3) := by decide +kernel
theorem dX11_goneAfter_16 : decode cX11_goneAfter 16 = .ok (.iconst 0, 1) := by decide +kernel
theorem dX11_goneAfter_17 : decode cX11_goneAfter 17 = .ok (.ireturn, 1) := by decide +kernel
theorem dX11_goneAfter_18 : decode cX11_goneAfter 18 = .ok (.aload_n 0, 1) := by decide +kernel
theorem dX11_goneAfter_19 : decode cX11_goneAfter 19 = .ok (.iload_n 1, 1) := by decide +kernel
theorem dX11_goneAfter_20 : decode cX11_goneAfter 20 = .ok (.invokevirtual 474, 3) := by decide +kernel
theorem dX11_goneAfter_23 : decode cX11_goneAfter 23 = .ok (.istore_n 3, 1) := by decide +kernel
theorem dX11_goneAfter_24 : decode cX11_goneAfter 24 = .ok (.aload_n 0, 1) := by decide +kernel
theorem dX11_goneAfter_25 : decode cX11_goneAfter 25 = .ok (.invokevirtual 463, 3) := by decide +kernel
theorem dX11_goneAfter_28 : decode cX11_goneAfter 28 = .ok (.iconst 0, 1) := by decide +kernel
theorem dX11_goneAfter_29 : decode cX11_goneAfter 29 = .ok (.istore 4, 2) := by decide +kernel
theorem dX11_goneAfter_31 : decode cX11_goneAfter 31 = .ok (.iload 4, 2) := by decide +kernel
theorem dX11_goneAfter_33 : decode cX11_goneAfter 33 = .ok (.iload_n 2, 1) := by decide +kernel
theorem dX11_goneAfter_34 : decode cX11_goneAfter 34 = .ok (.if_icmp .ge 14, 3) := by decide +kernel
theorem dX11_goneAfter_37 : decode cX11_goneAfter 37 = .ok (.aload_n 0, 1) := by decide +kernel
theorem dX11_goneAfter_38 : decode cX11_goneAfter 38 = .ok (.invokevirtual 460, 3) := by decide +kernel
theorem dX11_goneAfter_41 : decode cX11_goneAfter 41 = .ok (.pop, 1) := by decide +kernel
theorem dX11_goneAfter_42 : decode cX11_goneAfter 42 = .ok (.iinc 4 1, 3) := by decide +kernel
theorem dX11_goneAfter_45 : decode cX11_goneAfter 45 = .ok (.goto (-14), 3) := by decide +kernel
theorem dX11_goneAfter_48 : decode cX11_goneAfter 48 = .ok (.aload_n 0, 1) := by decide +kernel
theorem dX11_goneAfter_49 : decode cX11_goneAfter 49 = .ok (.iload_n 1, 1) := by decide +kernel
theorem dX11_goneAfter_50 : decode cX11_goneAfter 50 = .ok (.invokevirtual 474, 3) := by decide +kernel
theorem dX11_goneAfter_53 : decode cX11_goneAfter 53 = .ok (.istore 4, 2) := by decide +kernel
theorem dX11_goneAfter_55 : decode cX11_goneAfter 55 = .ok (.aload_n 0, 1) := by decide +kernel
theorem dX11_goneAfter_56 : decode cX11_goneAfter 56 = .ok (.invokevirtual 466, 3) := by decide +kernel
theorem dX11_goneAfter_59 : decode cX11_goneAfter 59 = .ok (.iload_n 3, 1) := by decide +kernel
theorem dX11_goneAfter_60 : decode cX11_goneAfter 60 = .ok (.iload 4, 2) := by decide +kernel
theorem dX11_goneAfter_62 : decode cX11_goneAfter 62 = .ok (.isub, 1) := by decide +kernel
theorem dX11_goneAfter_63 : decode cX11_goneAfter 63 = .ok (.ireturn, 1) := by decide +kernel
theorem dX11_eventCount_0 : decode cX11_eventCount 0 = .ok (.aload_n 0, 1) := by decide +kernel
theorem dX11_eventCount_1 : decode cX11_eventCount 1 = .ok (.iconst 0, 1) := by decide +kernel
theorem dX11_eventCount_2 : decode cX11_eventCount 2 = .ok (.putfield 3, 3) := by decide +kernel
theorem dX11_eventCount_5 : decode cX11_eventCount 5 = .ok (.aload_n 0, 1) := by decide +kernel
theorem dX11_eventCount_6 : decode cX11_eventCount 6 = .ok (.getfield 17, 3) := by decide +kernel
theorem dX11_eventCount_9 : decode cX11_eventCount 9 = .ok (.bipush 9, 2) := by decide +kernel
theorem dX11_eventCount_11 : decode cX11_eventCount 11 = .ok (.iaload, 1) := by decide +kernel
theorem dX11_eventCount_12 : decode cX11_eventCount 12 = .ok (.ireturn, 1) := by decide +kernel
theorem dX11_event_0 : decode cX11_event 0 = .ok (.aload_n 0, 1) := by decide +kernel
theorem dX11_event_1 : decode cX11_event 1 = .ok (.iload_n 1, 1) := by decide +kernel
theorem dX11_event_2 : decode cX11_event 2 = .ok (.i2l, 1) := by decide +kernel
theorem dX11_event_3 : decode cX11_event 3 = .ok (.lconst 0, 1) := by decide +kernel
theorem dX11_event_4 : decode cX11_event 4 = .ok (.aload_n 0, 1) := by decide +kernel
theorem dX11_event_5 : decode cX11_event 5 = .ok (.getfield 17, 3) := by decide +kernel
theorem dX11_event_8 : decode cX11_event 8 = .ok (.bipush 9, 2) := by decide +kernel
theorem dX11_event_10 : decode cX11_event 10 = .ok (.iaload, 1) := by decide +kernel
theorem dX11_event_11 : decode cX11_event 11 = .ok (.iconst 1, 1) := by decide +kernel
theorem dX11_event_12 : decode cX11_event 12 = .ok (.isub, 1) := by decide +kernel
theorem dX11_event_13 : decode cX11_event 13 = .ok (.i2l, 1) := by decide +kernel
theorem dX11_event_14 : decode cX11_event 14 = .ok (.invokestatic 64, 3) := by decide +kernel
theorem dX11_event_17 : decode cX11_event 17 = .ok (.iload_n 2, 1) := by decide +kernel
theorem dX11_event_18 : decode cX11_event 18 = .ok (.i2l, 1) := by decide +kernel
theorem dX11_event_19 : decode cX11_event 19 = .ok (.lconst 0, 1) := by decide +kernel
theorem dX11_event_20 : decode cX11_event 20 = .ok (.ldc2_w 82, 3) := by decide +kernel
theorem dX11_event_23 : decode cX11_event 23 = .ok (.invokestatic 64, 3) := by decide +kernel
theorem dX11_event_26 : decode cX11_event 26 = .ok (.invokevirtual 267, 3) := by decide +kernel
theorem dX11_event_29 : decode cX11_event 29 = .ok (.ifCond .eq 20, 3) := by decide +kernel
theorem dX11_event_32 : decode cX11_event 32 = .ok (.aload_n 0, 1) := by decide +kernel
theorem dX11_event_33 : decode cX11_event 33 = .ok (.getfield 17, 3) := by decide +kernel
theorem dX11_event_36 : decode cX11_event 36 = .ok (.sipush 6211, 3) := by decide +kernel
theorem dX11_event_39 : decode cX11_event 39 = .ok (.iconst 3, 1) := by decide +kernel
theorem dX11_event_40 : decode cX11_event 40 = .ok (.iload_n 1, 1) := by decide +kernel
theorem dX11_event_41 : decode cX11_event 41 = .ok (.imul, 1) := by decide +kernel
theorem dX11_event_42 : decode cX11_event 42 = .ok (.iadd, 1) := by decide +kernel
theorem dX11_event_43 : decode cX11_event 43 = .ok (.iload_n 2, 1) := by decide +kernel
theorem dX11_event_44 : decode cX11_event 44 = .ok (.iadd, 1) := by decide +kernel
theorem dX11_event_45 : decode cX11_event 45 = .ok (.iaload, 1) := by decide +kernel
theorem dX11_event_46 : decode cX11_event 46 = .ok (.goto 4, 3) := by decide +kernel
theorem dX11_event_49 : decode cX11_event 49 = .ok (.iconst 0, 1) := by decide +kernel
theorem dX11_event_50 : decode cX11_event 50 = .ok (.ireturn, 1) := by decide +kernel
theorem dX11_eventsOf_0 : decode cX11_eventsOf 0 = .ok (.aload_n 0, 1) := by decide +kernel
theorem dX11_eventsOf_1 : decode cX11_eventsOf 1 = .ok (.iload_n 1, 1) := by decide +kernel
theorem dX11_eventsOf_2 : decode cX11_eventsOf 2 = .ok (.i2l, 1) := by decide +kernel
theorem dX11_eventsOf_3 : decode cX11_eventsOf 3 = .ok (.lconst 1, 1) := by decide +kernel
theorem dX11_eventsOf_4 : decode cX11_eventsOf 4 = .ok (.ldc2_w 477, 3) := by decide +kernel
theorem dX11_eventsOf_7 : decode cX11_eventsOf 7 = .ok (.invokestatic 64, 3) := by decide +kernel
theorem dX11_eventsOf_10 : decode cX11_eventsOf 10 = .ok (.invokevirtual 94, 3) := by decide +kernel
theorem dX11_eventsOf_13 : decode cX11_eventsOf 13 = .ok (.ifCond .ne 5, 3) := by decide +kernel
theorem dX11_eventsOf_16 : decode cX11_eventsOf 16 = .ok (.iconst 0, 1) := by decide +kernel
theorem dX11_eventsOf_17 : decode cX11_eventsOf 17 = .ok (.ireturn, 1) := by decide +kernel
theorem dX11_eventsOf_18 : decode cX11_eventsOf 18 = .ok (.iconst 0, 1) := by decide +kernel
theorem dX11_eventsOf_19 : decode cX11_eventsOf 19 = .ok (.istore_n 2, 1) := by decide +kernel
theorem dX11_eventsOf_20 : decode cX11_eventsOf 20 = .ok (.iconst 0, 1) := by decide +kernel
theorem dX11_eventsOf_21 : decode cX11_eventsOf 21 = .ok (.istore_n 3, 1) := by decide +kernel
theorem dX11_eventsOf_22 : decode cX11_eventsOf 22 = .ok (.iload_n 3, 1) := by decide +kernel
theorem dX11_eventsOf_23 : decode cX11_eventsOf 23 = .ok (.aload_n 0, 1) := by decide +kernel
theorem dX11_eventsOf_24 : decode cX11_eventsOf 24 = .ok (.getfield 17, 3) := by decide +kernel
theorem dX11_eventsOf_27 : decode cX11_eventsOf 27 = .ok (.bipush 9, 2) := by decide +kernel
theorem dX11_eventsOf_29 : decode cX11_eventsOf 29 = .ok (.iaload, 1) := by decide +kernel
theorem dX11_eventsOf_30 : decode cX11_eventsOf 30 = .ok (.if_icmp .ge 35, 3) := by decide +kernel
theorem dX11_eventsOf_33 : decode cX11_eventsOf 33 = .ok (.iload_n 2, 1) := by decide +kernel
theorem dX11_eventsOf_34 : decode cX11_eventsOf 34 = .ok (.aload_n 0, 1) := by decide +kernel
theorem dX11_eventsOf_35 : decode cX11_eventsOf 35 = .ok (.getfield 17, 3) := by decide +kernel
theorem dX11_eventsOf_38 : decode cX11_eventsOf 38 = .ok (.sipush 6211, 3) := by decide +kernel
theorem dX11_eventsOf_41 : decode cX11_eventsOf 41 = .ok (.iconst 3, 1) := by decide +kernel
theorem dX11_eventsOf_42 : decode cX11_eventsOf 42 = .ok (.iload_n 3, 1) := by decide +kernel
theorem dX11_eventsOf_43 : decode cX11_eventsOf 43 = .ok (.imul, 1) := by decide +kernel
theorem dX11_eventsOf_44 : decode cX11_eventsOf 44 = .ok (.iadd, 1) := by decide +kernel
theorem dX11_eventsOf_45 : decode cX11_eventsOf 45 = .ok (.iconst 1, 1) := by decide +kernel
theorem dX11_eventsOf_46 : decode cX11_eventsOf 46 = .ok (.iadd, 1) := by decide +kernel
theorem dX11_eventsOf_47 : decode cX11_eventsOf 47 = .ok (.iaload, 1) := by decide +kernel
theorem dX11_eventsOf_48 : decode cX11_eventsOf 48 = .ok (.iload_n 1, 1) := by decide +kernel
theorem dX11_eventsOf_49 : decode cX11_eventsOf 49 = .ok (.if_icmp .ne 7, 3) := by decide +kernel
theorem dX11_eventsOf_52 : decode cX11_eventsOf 52 = .ok (.iconst 1, 1) := by decide +kernel
theorem dX11_eventsOf_53 : decode cX11_eventsOf 53 = .ok (.goto 4, 3) := by decide +kernel
theorem dX11_eventsOf_56 : decode cX11_eventsOf 56 = .ok (.iconst 0, 1) := by decide +kernel
theorem dX11_eventsOf_57 : decode cX11_eventsOf 57 = .ok (.iadd, 1) := by decide +kernel
theorem dX11_eventsOf_58 : decode cX11_eventsOf 58 = .ok (.istore_n 2, 1) := by decide +kernel
theorem dX11_eventsOf_59 : decode cX11_eventsOf 59 = .ok (.iinc 3 1, 3) := by decide +kernel
theorem dX11_eventsOf_62 : decode cX11_eventsOf 62 = .ok (.goto (-40), 3) := by decide +kernel
theorem dX11_eventsOf_65 : decode cX11_eventsOf 65 = .ok (.iload_n 2, 1) := by decide +kernel
theorem dX11_eventsOf_66 : decode cX11_eventsOf 66 = .ok (.ireturn, 1) := by decide +kernel
theorem dX11_remember_0 : decode cX11_remember 0 = .ok (.aload_n 0, 1) := by decide +kernel
theorem dX11_remember_1 : decode cX11_remember 1 = .ok (.getfield 479, 3) := by decide +kernel
theorem dX11_remember_4 : decode cX11_remember 4 = .ok (.bipush 6, 2) := by decide +kernel
theorem dX11_remember_6 : decode cX11_remember 6 = .ok (.if_icmp .ne 26, 3) := by decide +kernel
theorem dX11_remember_9 : decode cX11_remember 9 = .ok (.aload_n 0, 1) := by decide +kernel
theorem dX11_remember_10 : decode cX11_remember 10 = .ok (.aload_n 0, 1) := by decide +kernel
theorem dX11_remember_11 : decode cX11_remember 11 = .ok (.getfield 482, 3) := by decide +kernel
theorem dX11_remember_14 : decode cX11_remember 14 = .ok (.iconst 1, 1) := by decide +kernel
theorem dX11_remember_15 : decode cX11_remember 15 = .ok (.iadd, 1) := by decide +kernel
theorem dX11_remember_16 : decode cX11_remember 16 = .ok (.bipush 6, 2) := by decide +kernel
theorem dX11_remember_18 : decode cX11_remember 18 = .ok (.irem, 1) := by decide +kernel
theorem dX11_remember_19 : decode cX11_remember 19 = .ok (.putfield 482, 3) := by decide +kernel
theorem dX11_remember_22 : decode cX11_remember 22 = .ok (.aload_n 0, 1) := by decide +kernel
theorem dX11_remember_23 : decode cX11_remember 23 = .ok (.dup, 1) := by decide +kernel
theorem dX11_remember_24 : decode cX11_remember 24 = .ok (.getfield 479, 3) := by decide +kernel
theorem dX11_remember_27 : decode cX11_remember 27 = .ok (.iconst 1, 1) := by decide +kernel
theorem dX11_remember_28 : decode cX11_remember 28 = .ok (.isub, 1) := by decide +kernel
theorem dX11_remember_29 : decode cX11_remember 29 = .ok (.putfield 479, 3) := by decide +kernel
theorem dX11_remember_32 : decode cX11_remember 32 = .ok (.aload_n 0, 1) := by decide +kernel
theorem dX11_remember_33 : decode cX11_remember 33 = .ok (.getfield 482, 3) := by decide +kernel
theorem dX11_remember_36 : decode cX11_remember 36 = .ok (.aload_n 0, 1) := by decide +kernel
theorem dX11_remember_37 : decode cX11_remember 37 = .ok (.getfield 479, 3) := by decide +kernel
theorem dX11_remember_40 : decode cX11_remember 40 = .ok (.iadd, 1) := by decide +kernel
theorem dX11_remember_41 : decode cX11_remember 41 = .ok (.bipush 6, 2) := by decide +kernel
theorem dX11_remember_43 : decode cX11_remember 43 = .ok (.irem, 1) := by decide +kernel
theorem dX11_remember_44 : decode cX11_remember 44 = .ok (.istore_n 1, 1) := by decide +kernel
theorem dX11_remember_45 : decode cX11_remember 45 = .ok (.iconst 0, 1) := by decide +kernel
theorem dX11_remember_46 : decode cX11_remember 46 = .ok (.istore_n 2, 1) := by decide +kernel
theorem dX11_remember_47 : decode cX11_remember 47 = .ok (.iload_n 2, 1) := by decide +kernel
theorem dX11_remember_48 : decode cX11_remember 48 = .ok (.sipush 6391, 3) := by decide +kernel
theorem dX11_remember_51 : decode cX11_remember 51 = .ok (.if_icmp .ge 27, 3) := by decide +kernel
theorem dX11_remember_54 : decode cX11_remember 54 = .ok (.aload_n 0, 1) := by decide +kernel
theorem dX11_remember_55 : decode cX11_remember 55 = .ok (.getfield 54, 3) := by decide +kernel
theorem dX11_remember_58 : decode cX11_remember 58 = .ok (.sipush 6391, 3) := by decide +kernel
theorem dX11_remember_61 : decode cX11_remember 61 = .ok (.iload_n 1, 1) := by decide +kernel
theorem dX11_remember_62 : decode cX11_remember 62 = .ok (.imul, 1) := by decide +kernel
theorem dX11_remember_63 : decode cX11_remember 63 = .ok (.iload_n 2, 1) := by decide +kernel
theorem dX11_remember_64 : decode cX11_remember 64 = .ok (.iadd, 1) := by decide +kernel
theorem dX11_remember_65 : decode cX11_remember 65 = .ok (.aload_n 0, 1) := by decide +kernel
theorem dX11_remember_66 : decode cX11_remember 66 = .ok (.getfield 17, 3) := by decide +kernel
theorem dX11_remember_69 : decode cX11_remember 69 = .ok (.iload_n 2, 1) := by decide +kernel
theorem dX11_remember_70 : decode cX11_remember 70 = .ok (.iaload, 1) := by decide +kernel
theorem dX11_remember_71 : decode cX11_remember 71 = .ok (.iastore, 1) := by decide +kernel
theorem dX11_remember_72 : decode cX11_remember 72 = .ok (.iinc 2 1, 3) := by decide +kernel
theorem dX11_remember_75 : decode cX11_remember 75 = .ok (.goto (-28), 3) := by decide +kernel
theorem dX11_remember_78 : decode cX11_remember 78 = .ok (.iconst 0, 1) := by decide +kernel
theorem dX11_remember_79 : decode cX11_remember 79 = .ok (.istore_n 2, 1) := by decide +kernel
theorem dX11_remember_80 : decode cX11_remember 80 = .ok (.iload_n 2, 1) := by decide +kernel
theorem dX11_remember_81 : decode cX11_remember 81 = .ok (.sipush 200, 3) := by decide +kernel
theorem dX11_remember_84 : decode cX11_remember 84 = .ok (.aload_n 0, 1) := by decide +kernel
theorem dX11_remember_85 : decode cX11_remember 85 = .ok (.getfield 17, 3) := by decide +kernel
theorem dX11_remember_88 : decode cX11_remember 88 = .ok (.bipush 8, 2) := by decide +kernel
theorem dX11_remember_90 : decode cX11_remember 90 = .ok (.iaload, 1) := by decide +kernel
theorem dX11_remember_91 : decode cX11_remember 91 = .ok (.imul, 1) := by decide +kernel
theorem dX11_remember_92 : decode cX11_remember 92 = .ok (.if_icmp .ge 26, 3) := by decide +kernel
theorem dX11_remember_95 : decode cX11_remember 95 = .ok (.aload_n 0, 1) := by decide +kernel
theorem dX11_remember_96 : decode cX11_remember 96 = .ok (.getfield 58, 3) := by decide +kernel
theorem dX11_remember_99 : decode cX11_remember 99 = .ok (.ldc 24, 2) := by decide +kernel
theorem dX11_remember_101 : decode cX11_remember 101 = .ok (.iload_n 1, 1) := by decide +kernel
theorem dX11_remember_102 : decode cX11_remember 102 = .ok (.imul, 1) := by decide +kernel
theorem dX11_remember_103 : decode cX11_remember 103 = .ok (.iload_n 2, 1) := by decide +kernel
theorem dX11_remember_104 : decode cX11_remember 104 = .ok (.iadd, 1) := by decide +kernel
theorem dX11_remember_105 : decode cX11_remember 105 = .ok (.aload_n 0, 1) := by decide +kernel
theorem dX11_remember_106 : decode cX11_remember 106 = .ok (.getfield 25, 3) := by decide +kernel
theorem dX11_remember_109 : decode cX11_remember 109 = .ok (.iload_n 2, 1) := by decide +kernel
theorem dX11_remember_110 : decode cX11_remember 110 = .ok (.baload, 1) := by decide +kernel
theorem dX11_remember_111 : decode cX11_remember 111 = .ok (.bastore, 1) := by decide +kernel
theorem dX11_remember_112 : decode cX11_remember 112 = .ok (.iinc 2 1, 3) := by decide +kernel
theorem dX11_remember_115 : decode cX11_remember 115 = .ok (.goto (-35), 3) := by decide +kernel
theorem dX11_remember_118 : decode cX11_remember 118 = .ok (.aload_n 0, 1) := by decide +kernel
theorem dX11_remember_119 : decode cX11_remember 119 = .ok (.dup, 1) := by decide +kernel
theorem dX11_remember_120 : decode cX11_remember 120 = .ok (.getfield 479, 3) := by decide +kernel
theorem dX11_remember_123 : decode cX11_remember 123 = .ok (.iconst 1, 1) := by decide +kernel
theorem dX11_remember_124 : decode cX11_remember 124 = .ok (.iadd, 1) := by decide +kernel
theorem dX11_remember_125 : decode cX11_remember 125 = .ok (.putfield 479, 3) := by decide +kernel
theorem dX11_remember_128 : decode cX11_remember 128 = .ok (.return_, 1) := by decide +kernel
theorem dX11_undo_0 : decode cX11_undo 0 = .ok (.aload_n 0, 1) := by decide +kernel
theorem dX11_undo_1 : decode cX11_undo 1 = .ok (.aload_n 0, 1) := by decide +kernel
theorem dX11_undo_2 : decode cX11_undo 2 = .ok (.getfield 479, 3) := by decide +kernel
theorem dX11_undo_5 : decode cX11_undo 5 = .ok (.ifCond .le 7, 3) := by decide +kernel
theorem dX11_undo_8 : decode cX11_undo 8 = .ok (.iconst 1, 1) := by decide +kernel
theorem dX11_undo_9 : decode cX11_undo 9 = .ok (.goto 4, 3) := by decide +kernel
theorem dX11_undo_12 : decode cX11_undo 12 = .ok (.iconst 0, 1) := by decide +kernel
theorem dX11_undo_13 : decode cX11_undo 13 = .ok (.invokevirtual 94, 3) := by decide +kernel
theorem dX11_undo_16 : decode cX11_undo 16 = .ok (.ifCond .ne 5, 3) := by decide +kernel
theorem dX11_undo_19 : decode cX11_undo 19 = .ok (.iconst 0, 1) := by decide +kernel
theorem dX11_undo_20 : decode cX11_undo 20 = .ok (.ireturn, 1) := by decide +kernel
theorem dX11_undo_21 : decode cX11_undo 21 = .ok (.aload_n 0, 1) := by decide +kernel
theorem dX11_undo_22 : decode cX11_undo 22 = .ok (.dup, 1) := by decide +kernel
theorem dX11_undo_23 : decode cX11_undo 23 = .ok (.getfield 479, 3) := by decide +kernel
theorem dX11_undo_26 : decode cX11_undo 26 = .ok (.iconst 1, 1) := by decide +kernel
theorem dX11_undo_27 : decode cX11_undo 27 = .ok (.isub, 1) := by decide +kernel
theorem dX11_undo_28 : decode cX11_undo 28 = .ok (.putfield 479, 3) := by decide +kernel
theorem dX11_undo_31 : decode cX11_undo 31 = .ok (.aload_n 0, 1) := by decide +kernel
theorem dX11_undo_32 : decode cX11_undo 32 = .ok (.getfield 482, 3) := by decide +kernel
theorem dX11_undo_35 : decode cX11_undo 35 = .ok (.aload_n 0, 1) := by decide +kernel
theorem dX11_undo_36 : decode cX11_undo 36 = .ok (.getfield 479, 3) := by decide +kernel
theorem dX11_undo_39 : decode cX11_undo 39 = .ok (.iadd, 1) := by decide +kernel
theorem dX11_undo_40 : decode cX11_undo 40 = .ok (.bipush 6, 2) := by decide +kernel
theorem dX11_undo_42 : decode cX11_undo 42 = .ok (.irem, 1) := by decide +kernel
theorem dX11_undo_43 : decode cX11_undo 43 = .ok (.istore_n 1, 1) := by decide +kernel
theorem dX11_undo_44 : decode cX11_undo 44 = .ok (.iconst 0, 1) := by decide +kernel
theorem dX11_undo_45 : decode cX11_undo 45 = .ok (.istore_n 2, 1) := by decide +kernel
theorem dX11_undo_46 : decode cX11_undo 46 = .ok (.iload_n 2, 1) := by decide +kernel
theorem dX11_undo_47 : decode cX11_undo 47 = .ok (.sipush 6391, 3) := by decide +kernel
theorem dX11_undo_50 : decode cX11_undo 50 = .ok (.if_icmp .ge 27, 3) := by decide +kernel
theorem dX11_undo_53 : decode cX11_undo 53 = .ok (.aload_n 0, 1) := by decide +kernel
theorem dX11_undo_54 : decode cX11_undo 54 = .ok (.getfield 17, 3) := by decide +kernel
theorem dX11_undo_57 : decode cX11_undo 57 = .ok (.iload_n 2, 1) := by decide +kernel
theorem dX11_undo_58 : decode cX11_undo 58 = .ok (.aload_n 0, 1) := by decide +kernel
theorem dX11_undo_59 : decode cX11_undo 59 = .ok (.getfield 54, 3) := by decide +kernel
theorem dX11_undo_62 : decode cX11_undo 62 = .ok (.sipush 6391, 3) := by decide +kernel
theorem dX11_undo_65 : decode cX11_undo 65 = .ok (.iload_n 1, 1) := by decide +kernel
theorem dX11_undo_66 : decode cX11_undo 66 = .ok (.imul, 1) := by decide +kernel
theorem dX11_undo_67 : decode cX11_undo 67 = .ok (.iload_n 2, 1) := by decide +kernel
theorem dX11_undo_68 : decode cX11_undo 68 = .ok (.iadd, 1) := by decide +kernel
theorem dX11_undo_69 : decode cX11_undo 69 = .ok (.iaload, 1) := by decide +kernel
theorem dX11_undo_70 : decode cX11_undo 70 = .ok (.iastore, 1) := by decide +kernel
theorem dX11_undo_71 : decode cX11_undo 71 = .ok (.iinc 2 1, 3) := by decide +kernel
theorem dX11_undo_74 : decode cX11_undo 74 = .ok (.goto (-28), 3) := by decide +kernel
theorem dX11_undo_77 : decode cX11_undo 77 = .ok (.iconst 0, 1) := by decide +kernel
theorem dX11_undo_78 : decode cX11_undo 78 = .ok (.istore_n 2, 1) := by decide +kernel
theorem dX11_undo_79 : decode cX11_undo 79 = .ok (.iload_n 2, 1) := by decide +kernel
theorem dX11_undo_80 : decode cX11_undo 80 = .ok (.sipush 200, 3) := by decide +kernel
theorem dX11_undo_83 : decode cX11_undo 83 = .ok (.aload_n 0, 1) := by decide +kernel
theorem dX11_undo_84 : decode cX11_undo 84 = .ok (.getfield 17, 3) := by decide +kernel
theorem dX11_undo_87 : decode cX11_undo 87 = .ok (.bipush 8, 2) := by decide +kernel
theorem dX11_undo_89 : decode cX11_undo 89 = .ok (.iaload, 1) := by decide +kernel
theorem dX11_undo_90 : decode cX11_undo 90 = .ok (.imul, 1) := by decide +kernel
theorem dX11_undo_91 : decode cX11_undo 91 = .ok (.if_icmp .ge 26, 3) := by decide +kernel
theorem dX11_undo_94 : decode cX11_undo 94 = .ok (.aload_n 0, 1) := by decide +kernel
theorem dX11_undo_95 : decode cX11_undo 95 = .ok (.getfield 25, 3) := by decide +kernel
theorem dX11_undo_98 : decode cX11_undo 98 = .ok (.iload_n 2, 1) := by decide +kernel
theorem dX11_undo_99 : decode cX11_undo 99 = .ok (.aload_n 0, 1) := by decide +kernel
theorem dX11_undo_100 : decode cX11_undo 100 = .ok (.getfield 58, 3) := by decide +kernel
theorem dX11_undo_103 : decode cX11_undo 103 = .ok (.ldc 24, 2) := by decide +kernel
theorem dX11_undo_105 : decode cX11_undo 105 = .ok (.iload_n 1, 1) := by decide +kernel
theorem dX11_undo_106 : decode cX11_undo 106 = .ok (.imul, 1) := by decide +kernel
theorem dX11_undo_107 : decode cX11_undo 107 = .ok (.iload_n 2, 1) := by decide +kernel
theorem dX11_undo_108 : decode cX11_undo 108 = .ok (.iadd, 1) := by decide +kernel
theorem dX11_undo_109 : decode cX11_undo 109 = .ok (.baload, 1) := by decide +kernel
theorem dX11_undo_110 : decode cX11_undo 110 = .ok (.bastore, 1) := by decide +kernel
theorem dX11_undo_111 : decode cX11_undo 111 = .ok (.iinc 2 1, 3) := by decide +kernel
theorem dX11_undo_114 : decode cX11_undo 114 = .ok (.goto (-35), 3) := by decide +kernel
theorem dX11_undo_117 : decode cX11_undo 117 = .ok (.aload_n 0, 1) := by decide +kernel
theorem dX11_undo_118 : decode cX11_undo 118 = .ok (.getfield 479, 3) := by decide +kernel
theorem dX11_undo_121 : decode cX11_undo 121 = .ok (.ireturn, 1) := by decide +kernel
theorem dX11_undoCount_0 : decode cX11_undoCount 0 = .ok (.aload_n 0, 1) := by decide +kernel
theorem dX11_undoCount_1 : decode cX11_undoCount 1 = .ok (.iconst 0, 1) := by decide +kernel
theorem dX11_undoCount_2 : decode cX11_undoCount 2 = .ok (.putfield 3, 3) := by decide +kernel
theorem dX11_undoCount_5 : decode cX11_undoCount 5 = .ok (.aload_n 0, 1) := by decide +kernel
theorem dX11_undoCount_6 : decode cX11_undoCount 6 = .ok (.getfield 479, 3) := by decide +kernel
theorem dX11_undoCount_9 : decode cX11_undoCount 9 = .ok (.ireturn, 1) := by decide +kernel
theorem dX11_write_0 : decode cX11_write 0 = .ok (.aload_n 0, 1) := by decide +kernel
theorem dX11_write_1 : decode cX11_write 1 = .ok (.getfield 61, 3) := by decide +kernel
theorem dX11_write_4 : decode cX11_write 4 = .ok (.aload_n 0, 1) := by decide +kernel
theorem dX11_write_5 : decode cX11_write 5 = .ok (.getfield 485, 3) := by decide +kernel
theorem dX11_write_8 : decode cX11_write 8 = .ok (.iload_n 1, 1) := by decide +kernel
theorem dX11_write_9 : decode cX11_write 9 = .ok (.i2b, 1) := by decide +kernel
theorem dX11_write_10 : decode cX11_write 10 = .ok (.bastore, 1) := by decide +kernel
theorem dX11_write_11 : decode cX11_write 11 = .ok (.aload_n 0, 1) := by decide +kernel
theorem dX11_write_12 : decode cX11_write 12 = .ok (.dup, 1) := by decide +kernel
theorem dX11_write_13 : decode cX11_write 13 = .ok (.getfield 485, 3) := by decide +kernel
theorem dX11_write_16 : decode cX11_write 16 = .ok (.iconst 1, 1) := by decide +kernel
theorem dX11_write_17 : decode cX11_write 17 = .ok (.iadd, 1) := by decide +kernel
theorem dX11_write_18 : decode cX11_write 18 = .ok (.putfield 485, 3) := by decide +kernel
theorem dX11_write_21 : decode cX11_write 21 = .ok (.return_, 1) := by decide +kernel
theorem dX11_writeNumber_0 : decode cX11_writeNumber 0 = .ok (.iconst 1, 1) := by decide +kernel
theorem dX11_writeNumber_1 : decode cX11_writeNumber 1 = .ok (.istore_n 2, 1) := by decide +kernel
theorem dX11_writeNumber_2 : decode cX11_writeNumber 2 = .ok (.iload_n 1, 1) := by decide +kernel
theorem dX11_writeNumber_3 : decode cX11_writeNumber 3 = .ok (.iload_n 2, 1) := by decide +kernel
theorem dX11_writeNumber_4 : decode cX11_writeNumber 4 = .ok (.idiv, 1) := by decide +kernel
theorem dX11_writeNumber_5 : decode cX11_writeNumber 5 = .ok (.bipush 10, 2) := by decide +kernel
theorem dX11_writeNumber_7 : decode cX11_writeNumber 7 = .ok (.if_icmp .lt 11, 3) := by decide +kernel
theorem dX11_writeNumber_10 : decode cX11_writeNumber 10 = .ok (.iload_n 2, 1) := by decide +kernel
theorem dX11_writeNumber_11 : decode cX11_writeNumber 11 = .ok (.bipush 10, 2) := by decide +kernel
theorem dX11_writeNumber_13 : decode cX11_writeNumber 13 = .ok (.imul, 1) := by decide +kernel
theorem dX11_writeNumber_14 : decode cX11_writeNumber 14 = .ok (.istore_n 2, 1) := by decide +kernel
theorem dX11_writeNumber_15 : decode cX11_writeNumber 15 = .ok (.goto (-13), 3) := by decide +kernel
theorem dX11_writeNumber_18 : decode cX11_writeNumber 18 = .ok (.iload_n 2, 1) := by decide +kernel
theorem dX11_writeNumber_19 : decode cX11_writeNumber 19 = .ok (.istore_n 3, 1) := by decide +kernel
theorem dX11_writeNumber_20 : decode cX11_writeNumber 20 = .ok (.iload_n 3, 1) := by decide +kernel
theorem dX11_writeNumber_21 : decode cX11_writeNumber 21 = .ok (.ifCond .le 24, 3) := by decide +kernel
theorem dX11_writeNumber_24 : decode cX11_writeNumber 24 = .ok (.aload_n 0, 1) := by decide +kernel
theorem dX11_writeNumber_25 : decode cX11_writeNumber 25 = .ok (.bipush 48, 2) := by decide +kernel
theorem dX11_writeNumber_27 : decode cX11_writeNumber 27 = .ok (.iload_n 1, 1) := by decide +kernel
theorem dX11_writeNumber_28 : decode cX11_writeNumber 28 = .ok (.iload_n 3, 1) := by decide +kernel
theorem dX11_writeNumber_29 : decode cX11_writeNumber 29 = .ok (.idiv, 1) := by decide +kernel
theorem dX11_writeNumber_30 : decode cX11_writeNumber 30 = .ok (.bipush 10, 2) := by decide +kernel
theorem dX11_writeNumber_32 : decode cX11_writeNumber 32 = .ok (.irem, 1) := by decide +kernel
theorem dX11_writeNumber_33 : decode cX11_writeNumber 33 = .ok (.iadd, 1) := by decide +kernel
theorem dX11_writeNumber_34 : decode cX11_writeNumber 34 = .ok (.invokevirtual 488, 3) := by decide +kernel
theorem dX11_writeNumber_37 : decode cX11_writeNumber 37 = .ok (.iload_n 3, 1) := by decide +kernel
theorem dX11_writeNumber_38 : decode cX11_writeNumber 38 = .ok (.bipush 10, 2) := by decide +kernel
theorem dX11_writeNumber_40 : decode cX11_writeNumber 40 = .ok (.idiv, 1) := by decide +kernel
theorem dX11_writeNumber_41 : decode cX11_writeNumber 41 = .ok (.istore_n 3, 1) := by decide +kernel
theorem dX11_writeNumber_42 : decode cX11_writeNumber 42 = .ok (.goto (-22), 3) := by decide +kernel
theorem dX11_writeNumber_45 : decode cX11_writeNumber 45 = .ok (.return_, 1) := by decide +kernel
theorem dX11_writeClass_0 : decode cX11_writeClass 0 = .ok (.iconst 0, 1) := by decide +kernel
theorem dX11_writeClass_1 : decode cX11_writeClass 1 = .ok (.istore_n 2, 1) := by decide +kernel
theorem dX11_writeClass_2 : decode cX11_writeClass 2 = .ok (.iload_n 2, 1) := by decide +kernel
theorem dX11_writeClass_3 : decode cX11_writeClass 3 = .ok (.bipush 6, 2) := by decide +kernel
theorem dX11_writeClass_5 : decode cX11_writeClass 5 = .ok (.if_icmp .ge 32, 3) := by decide +kernel
theorem dX11_writeClass_8 : decode cX11_writeClass 8 = .ok (.aload_n 0, 1) := by decide +kernel
theorem dX11_writeClass_9 : decode cX11_writeClass 9 = .ok (.iload_n 1, 1) := by decide +kernel
theorem dX11_writeClass_10 : decode cX11_writeClass 10 = .ok (.iconst 3, 1) := by decide +kernel
theorem dX11_writeClass_11 : decode cX11_writeClass 11 = .ok (.iload_n 2, 1) := by decide +kernel
theorem dX11_writeClass_12 : decode cX11_writeClass 12 = .ok (.iadd, 1) := by decide +kernel
theorem dX11_writeClass_13 : decode cX11_writeClass 13 = .ok (.invokevirtual 271, 3) := by decide +kernel
theorem dX11_writeClass_16 : decode cX11_writeClass 16 = .ok (.ifCond .eq 21, 3) := by decide +kernel
theorem dX11_writeClass_19 : decode cX11_writeClass 19 = .ok (.aload_n 0, 1) := by decide +kernel
theorem dX11_writeClass_20 : decode cX11_writeClass 20 = .ok (.aload_n 0, 1) := by decide +kernel
theorem dX11_writeClass_21 : decode cX11_writeClass 21 = .ok (.iload_n 1, 1) := by decide +kernel
theorem dX11_writeClass_22 : decode cX11_writeClass 22 = .ok (.iconst 3, 1) := by decide +kernel
theorem dX11_writeClass_23 : decode cX11_writeClass 23 = .ok (.iload_n 2, 1) := by decide +kernel
theorem dX11_writeClass_24 : decode cX11_writeClass 24 = .ok (.iadd, 1) := by decide +kernel
theorem dX11_writeClass_25 : decode cX11_writeClass 25 = .ok (.invokevirtual 271, 3) := by decide +kernel
theorem dX11_writeClass_28 : decode cX11_writeClass 28 = .ok (.invokevirtual 488, 3) := by decide +kernel
theorem dX11_writeClass_31 : decode cX11_writeClass 31 = .ok (.iinc 2 1, 3) := by decide +kernel
theorem dX11_writeClass_34 : decode cX11_writeClass 34 = .ok (.goto (-32), 3) := by decide +kernel
theorem dX11_writeClass_37 : decode cX11_writeClass 37 = .ok (.return_, 1) := by decide +kernel
theorem dX11_writeMailbox_0 : decode cX11_writeMailbox 0 = .ok (.aload_n 0, 1) := by decide +kernel
theorem dX11_writeMailbox_1 : decode cX11_writeMailbox 1 = .ok (.aload_n 0, 1) := by decide +kernel
theorem dX11_writeMailbox_2 : decode cX11_writeMailbox 2 = .ok (.iload_n 1, 1) := by decide +kernel
theorem dX11_writeMailbox_3 : decode cX11_writeMailbox 3 = .ok (.invokevirtual 76, 3) := by decide +kernel
theorem dX11_writeMailbox_6 : decode cX11_writeMailbox 6 = .ok (.invokevirtual 94, 3) := by decide +kernel
theorem dX11_writeMailbox_9 : decode cX11_writeMailbox 9 = .ok (.ifCond .ne 5, 3) := by decide +kernel
theorem dX11_writeMailbox_12 : decode cX11_writeMailbox 12 = .ok (.iconst 0, 1) := by decide +kernel
theorem dX11_writeMailbox_13 : decode cX11_writeMailbox 13 = .ok (.ireturn, 1) := by decide +kernel
theorem dX11_writeMailbox_14 : decode cX11_writeMailbox 14 = .ok (.aload_n 0, 1) := by decide +kernel
theorem dX11_writeMailbox_15 : decode cX11_writeMailbox 15 = .ok (.iconst 0, 1) := by decide +kernel
theorem dX11_writeMailbox_16 : decode cX11_writeMailbox 16 = .ok (.putfield 485, 3) := by decide +kernel
theorem dX11_writeMailbox_19 : decode cX11_writeMailbox 19 = .ok (.iconst 0, 1) := by decide +kernel
theorem dX11_writeMailbox_20 : decode cX11_writeMailbox 20 = .ok (.istore_n 2, 1) := by decide +kernel
theorem dX11_writeMailbox_21 : decode cX11_writeMailbox 21 = .ok (.iload_n 2, 1) := by decide +kernel
theorem dX11_writeMailbox_22 : decode cX11_writeMailbox 22 = .ok (.aload_n 0, 1) := by decide +kernel
theorem dX11_writeMailbox_23 : decode cX11_writeMailbox 23 = .ok (.getfield 17, 3) := by decide +kernel
theorem dX11_writeMailbox_26 : decode cX11_writeMailbox 26 = .ok (.bipush 7, 2) := by decide +kernel
theorem dX11_writeMailbox_28 : decode cX11_writeMailbox 28 = .ok (.iaload, 1) := by decide +kernel
theorem dX11_writeMailbox_29 : decode cX11_writeMailbox 29 = .ok (.if_icmp .ge 76, 3) := by decide +kernel
theorem dX11_writeMailbox_32 : decode cX11_writeMailbox 32 = .ok (.aload_n 0, 1) := by decide +kernel
theorem dX11_writeMailbox_33 : decode cX11_writeMailbox 33 = .ok (.iload_n 2, 1) := by decide +kernel
theorem dX11_writeMailbox_34 : decode cX11_writeMailbox 34 = .ok (.iload_n 1, 1) := by decide +kernel
theorem dX11_writeMailbox_35 : decode cX11_writeMailbox 35 = .ok (.invokevirtual 348, 3) := by decide +kernel
theorem dX11_writeMailbox_38 : decode cX11_writeMailbox 38 = .ok (.ifCond .ne 6, 3) := by decide +kernel
theorem dX11_writeMailbox_41 : decode cX11_writeMailbox 41 = .ok (.goto 58, 3) := by decide +kernel
theorem dX11_writeMailbox_44 : decode cX11_writeMailbox 44 = .ok (.aload_n 0, 1) := by decide +kernel
theorem dX11_writeMailbox_45 : decode cX11_writeMailbox 45 = .ok (.iload_n 2, 1) := by decide +kernel
theorem dX11_writeMailbox_46 : decode cX11_writeMailbox 46 = .ok (.invokevirtual 491, 3) := by decide +kernel
theorem dX11_writeMailbox_49 : decode cX11_writeMailbox 49 = .ok (.aload_n 0, 1) := by decide +kernel
theorem dX11_writeMailbox_50 : decode cX11_writeMailbox 50 = .ok (.bipush 58, 2) := by decide +kernel
theorem dX11_writeMailbox_52 : decode cX11_writeMailbox 52 = .ok (.invokevirtual 488, 3) := by decide +kernel
theorem dX11_writeMailbox_55 : decode cX11_writeMailbox 55 = .ok (.aload_n 0, 1) := by decide +kernel
theorem dX11_writeMailbox_56 : decode cX11_writeMailbox 56 = .ok (.aload_n 0, 1) := by decide +kernel
theorem dX11_writeMailbox_57 : decode cX11_writeMailbox 57 = .ok (.getfield 17, 3) := by decide +kernel
theorem dX11_writeMailbox_60 : decode cX11_writeMailbox 60 = .ok (.iload_n 2, 1) := by decide +kernel
theorem dX11_writeMailbox_61 : decode cX11_writeMailbox 61 = .ok (.iload_n 1, 1) := by decide +kernel
theorem dX11_writeMailbox_62 : decode cX11_writeMailbox 62 = .ok (.invokestatic 68, 3) := by decide +kernel
theorem dX11_writeMailbox_65 : decode cX11_writeMailbox 65 = .ok (.iconst 1, 1) := by decide +kernel
theorem dX11_writeMailbox_66 : decode cX11_writeMailbox 66 = .ok (.iadd, 1) := by decide +kernel
theorem dX11_writeMailbox_67 : decode cX11_writeMailbox 67 = .ok (.iaload, 1) := by decide +kernel
theorem dX11_writeMailbox_68 : decode cX11_writeMailbox 68 = .ok (.invokevirtual 494, 3) := by decide +kernel
theorem dX11_writeMailbox_71 : decode cX11_writeMailbox 71 = .ok (.aload_n 0, 1) := by decide +kernel
theorem dX11_writeMailbox_72 : decode cX11_writeMailbox 72 = .ok (.bipush 47, 2) := by decide +kernel
theorem dX11_writeMailbox_74 : decode cX11_writeMailbox 74 = .ok (.invokevirtual 488, 3) := by decide +kernel
theorem dX11_writeMailbox_77 : decode cX11_writeMailbox 77 = .ok (.aload_n 0, 1) := by decide +kernel
theorem dX11_writeMailbox_78 : decode cX11_writeMailbox 78 = .ok (.aload_n 0, 1) := by decide +kernel
theorem dX11_writeMailbox_79 : decode cX11_writeMailbox 79 = .ok (.getfield 17, 3) := by decide +kernel
theorem dX11_writeMailbox_82 : decode cX11_writeMailbox 82 = .ok (.iload_n 2, 1) := by decide +kernel
theorem dX11_writeMailbox_83 : decode cX11_writeMailbox 83 = .ok (.iload_n 1, 1) := by decide +kernel
theorem dX11_writeMailbox_84 : decode cX11_writeMailbox 84 = .ok (.invokestatic 68, 3) := by decide +kernel
theorem dX11_writeMailbox_87 : decode cX11_writeMailbox 87 = .ok (.iconst 2, 1) := by decide +kernel
theorem dX11_writeMailbox_88 : decode cX11_writeMailbox 88 = .ok (.iadd, 1) := by decide +kernel
theorem dX11_writeMailbox_89 : decode cX11_writeMailbox 89 = .ok (.iaload, 1) := by decide +kernel
theorem dX11_writeMailbox_90 : decode cX11_writeMailbox 90 = .ok (.invokevirtual 491, 3) := by decide +kernel
theorem dX11_writeMailbox_93 : decode cX11_writeMailbox 93 = .ok (.aload_n 0, 1) := by decide +kernel
theorem dX11_writeMailbox_94 : decode cX11_writeMailbox 94 = .ok (.bipush 10, 2) := by decide +kernel
theorem dX11_writeMailbox_96 : decode cX11_writeMailbox 96 = .ok (.invokevirtual 488, 3) := by decide +kernel
theorem dX11_writeMailbox_99 : decode cX11_writeMailbox 99 = .ok (.iinc 2 1, 3) := by decide +kernel
theorem dX11_writeMailbox_102 : decode cX11_writeMailbox 102 = .ok (.goto (-81), 3) := by decide +kernel
theorem dX11_writeMailbox_105 : decode cX11_writeMailbox 105 = .ok (.aload_n 0, 1) := by decide +kernel
theorem dX11_writeMailbox_106 : decode cX11_writeMailbox 106 = .ok (.getfield 485, 3) := by decide +kernel
theorem dX11_writeMailbox_109 : decode cX11_writeMailbox 109 = .ok (.ireturn, 1) := by decide +kernel
theorem dX11_outputByte_0 : decode cX11_outputByte 0 = .ok (.aload_n 0, 1) := by decide +kernel
theorem dX11_outputByte_1 : decode cX11_outputByte 1 = .ok (.iload_n 1, 1) := by decide +kernel
theorem dX11_outputByte_2 : decode cX11_outputByte 2 = .ok (.i2l, 1) := by decide +kernel
theorem dX11_outputByte_3 : decode cX11_outputByte 3 = .ok (.lconst 0, 1) := by decide +kernel
theorem dX11_outputByte_4 : decode cX11_outputByte 4 = .ok (.aload_n 0, 1) := by decide +kernel
theorem dX11_outputByte_5 : decode cX11_outputByte 5 = .ok (.getfield 485, 3) := by decide +kernel
theorem dX11_outputByte_8 : decode cX11_outputByte 8 = .ok (.iconst 1, 1) := by decide +kernel
theorem dX11_outputByte_9 : decode cX11_outputByte 9 = .ok (.isub, 1) := by decide +kernel
theorem dX11_outputByte_10 : decode cX11_outputByte 10 = .ok (.i2l, 1) := by decide +kernel
theorem dX11_outputByte_11 : decode cX11_outputByte 11 = .ok (.invokestatic 64, 3) := by decide +kernel
theorem dX11_outputByte_14 : decode cX11_outputByte 14 = .ok (.invokevirtual 94, 3) := by decide +kernel
theorem dX11_outputByte_17 : decode cX11_outputByte 17 = .ok (.ifCond .eq 12, 3) := by decide +kernel
theorem dX11_outputByte_20 : decode cX11_outputByte 20 = .ok (.aload_n 0, 1) := by decide +kernel
theorem dX11_outputByte_21 : decode cX11_outputByte 21 = .ok (.getfield 61, 3) := by decide +kernel
theorem dX11_outputByte_24 : decode cX11_outputByte 24 = .ok (.iload_n 1, 1) := by decide +kernel
theorem dX11_outputByte_25 : decode cX11_outputByte 25 = .ok (.baload, 1) := by decide +kernel
theorem dX11_outputByte_26 : decode cX11_outputByte 26 = .ok (.goto 4, 3) := by decide +kernel
theorem dX11_outputByte_29 : decode cX11_outputByte 29 = .ok (.iconst 0, 1) := by decide +kernel
theorem dX11_outputByte_30 : decode cX11_outputByte 30 = .ok (.ireturn, 1) := by decide +kernel
theorem dJ6_bitCount_0f7a4_0 : decode cJ6_bitCount_0f7a4 0 = .ok (.iload_n 0, 1) := by decide +kernel
theorem dJ6_bitCount_0f7a4_1 : decode cJ6_bitCount_0f7a4 1 = .ok (.iload_n 0, 1) := by decide +kernel
theorem dJ6_bitCount_0f7a4_2 : decode cJ6_bitCount_0f7a4 2 = .ok (.iconst 1, 1) := by decide +kernel
theorem dJ6_bitCount_0f7a4_3 : decode cJ6_bitCount_0f7a4 3 = .ok (.iushr, 1) := by decide +kernel
theorem dJ6_bitCount_0f7a4_4 : decode cJ6_bitCount_0f7a4 4 = .ok (.ldc_w 265, 3) := by decide +kernel
theorem dJ6_bitCount_0f7a4_7 : decode cJ6_bitCount_0f7a4 7 = .ok (.iand, 1) := by decide +kernel
theorem dJ6_bitCount_0f7a4_8 : decode cJ6_bitCount_0f7a4 8 = .ok (.isub, 1) := by decide +kernel
theorem dJ6_bitCount_0f7a4_9 : decode cJ6_bitCount_0f7a4 9 = .ok (.istore_n 0, 1) := by decide +kernel
theorem dJ6_bitCount_0f7a4_10 : decode cJ6_bitCount_0f7a4 10 = .ok (.iload_n 0, 1) := by decide +kernel
theorem dJ6_bitCount_0f7a4_11 : decode cJ6_bitCount_0f7a4 11 = .ok (.ldc_w 266, 3) := by decide +kernel
theorem dJ6_bitCount_0f7a4_14 : decode cJ6_bitCount_0f7a4 14 = .ok (.iand, 1) := by decide +kernel
theorem dJ6_bitCount_0f7a4_15 : decode cJ6_bitCount_0f7a4 15 = .ok (.iload_n 0, 1) := by decide +kernel
theorem dJ6_bitCount_0f7a4_16 : decode cJ6_bitCount_0f7a4 16 = .ok (.iconst 2, 1) := by decide +kernel
theorem dJ6_bitCount_0f7a4_17 : decode cJ6_bitCount_0f7a4 17 = .ok (.iushr, 1) := by decide +kernel
theorem dJ6_bitCount_0f7a4_18 : decode cJ6_bitCount_0f7a4 18 = .ok (.ldc_w 266, 3) := by decide +kernel
theorem dJ6_bitCount_0f7a4_21 : decode cJ6_bitCount_0f7a4 21 = .ok (.iand, 1) := by decide +kernel
theorem dJ6_bitCount_0f7a4_22 : decode cJ6_bitCount_0f7a4 22 = .ok (.iadd, 1) := by decide +kernel
theorem dJ6_bitCount_0f7a4_23 : decode cJ6_bitCount_0f7a4 23 = .ok (.istore_n 0, 1) := by decide +kernel
theorem dJ6_bitCount_0f7a4_24 : decode cJ6_bitCount_0f7a4 24 = .ok (.iload_n 0, 1) := by decide +kernel
theorem dJ6_bitCount_0f7a4_25 : decode cJ6_bitCount_0f7a4 25 = .ok (.iload_n 0, 1) := by decide +kernel
theorem dJ6_bitCount_0f7a4_26 : decode cJ6_bitCount_0f7a4 26 = .ok (.iconst 4, 1) := by decide +kernel
theorem dJ6_bitCount_0f7a4_27 : decode cJ6_bitCount_0f7a4 27 = .ok (.iushr, 1) := by decide +kernel
theorem dJ6_bitCount_0f7a4_28 : decode cJ6_bitCount_0f7a4 28 = .ok (.iadd, 1) := by decide +kernel
theorem dJ6_bitCount_0f7a4_29 : decode cJ6_bitCount_0f7a4 29 = .ok (.ldc_w 267, 3) := by decide +kernel
theorem dJ6_bitCount_0f7a4_32 : decode cJ6_bitCount_0f7a4 32 = .ok (.iand, 1) := by decide +kernel
theorem dJ6_bitCount_0f7a4_33 : decode cJ6_bitCount_0f7a4 33 = .ok (.istore_n 0, 1) := by decide +kernel
theorem dJ6_bitCount_0f7a4_34 : decode cJ6_bitCount_0f7a4 34 = .ok (.iload_n 0, 1) := by decide +kernel
theorem dJ6_bitCount_0f7a4_35 : decode cJ6_bitCount_0f7a4 35 = .ok (.iload_n 0, 1) := by decide +kernel
theorem dJ6_bitCount_0f7a4_36 : decode cJ6_bitCount_0f7a4 36 = .ok (.bipush 8, 2) := by decide +kernel
theorem dJ6_bitCount_0f7a4_38 : decode cJ6_bitCount_0f7a4 38 = .ok (.iushr, 1) := by decide +kernel
theorem dJ6_bitCount_0f7a4_39 : decode cJ6_bitCount_0f7a4 39 = .ok (.iadd, 1) := by decide +kernel
theorem dJ6_bitCount_0f7a4_40 : decode cJ6_bitCount_0f7a4 40 = .ok (.istore_n 0, 1) := by decide +kernel
theorem dJ6_bitCount_0f7a4_41 : decode cJ6_bitCount_0f7a4 41 = .ok (.iload_n 0, 1) := by decide +kernel
theorem dJ6_bitCount_0f7a4_42 : decode cJ6_bitCount_0f7a4 42 = .ok (.iload_n 0, 1) := by decide +kernel
theorem dJ6_bitCount_0f7a4_43 : decode cJ6_bitCount_0f7a4 43 = .ok (.bipush 16, 2) := by decide +kernel
theorem dJ6_bitCount_0f7a4_45 : decode cJ6_bitCount_0f7a4 45 = .ok (.iushr, 1) := by decide +kernel
theorem dJ6_bitCount_0f7a4_46 : decode cJ6_bitCount_0f7a4 46 = .ok (.iadd, 1) := by decide +kernel
theorem dJ6_bitCount_0f7a4_47 : decode cJ6_bitCount_0f7a4 47 = .ok (.istore_n 0, 1) := by decide +kernel
theorem dJ6_bitCount_0f7a4_48 : decode cJ6_bitCount_0f7a4 48 = .ok (.iload_n 0, 1) := by decide +kernel
theorem dJ6_bitCount_0f7a4_49 : decode cJ6_bitCount_0f7a4 49 = .ok (.bipush 63, 2) := by decide +kernel
theorem dJ6_bitCount_0f7a4_51 : decode cJ6_bitCount_0f7a4 51 = .ok (.iand, 1) := by decide +kernel
theorem dJ6_bitCount_0f7a4_52 : decode cJ6_bitCount_0f7a4 52 = .ok (.ireturn, 1) := by decide +kernel
theorem dJ9_max_7cf53_0 : decode cJ9_max_7cf53 0 = .ok (.iload_n 0, 1) := by decide +kernel
theorem dJ9_max_7cf53_1 : decode cJ9_max_7cf53 1 = .ok (.iload_n 1, 1) := by decide +kernel
theorem dJ9_max_7cf53_2 : decode cJ9_max_7cf53 2 = .ok (.if_icmp .lt 7, 3) := by decide +kernel
theorem dJ9_max_7cf53_5 : decode cJ9_max_7cf53 5 = .ok (.iload_n 0, 1) := by decide +kernel
theorem dJ9_max_7cf53_6 : decode cJ9_max_7cf53 6 = .ok (.goto 4, 3) := by decide +kernel
theorem dJ9_max_7cf53_9 : decode cJ9_max_7cf53 9 = .ok (.iload_n 1, 1) := by decide +kernel
theorem dJ9_max_7cf53_10 : decode cJ9_max_7cf53 10 = .ok (.ireturn, 1) := by decide +kernel
theorem dJ9_min_7cf53_0 : decode cJ9_min_7cf53 0 = .ok (.iload_n 0, 1) := by decide +kernel
theorem dJ9_min_7cf53_1 : decode cJ9_min_7cf53 1 = .ok (.iload_n 1, 1) := by decide +kernel
theorem dJ9_min_7cf53_2 : decode cJ9_min_7cf53 2 = .ok (.if_icmp .gt 7, 3) := by decide +kernel
theorem dJ9_min_7cf53_5 : decode cJ9_min_7cf53 5 = .ok (.iload_n 0, 1) := by decide +kernel
theorem dJ9_min_7cf53_6 : decode cJ9_min_7cf53 6 = .ok (.goto 4, 3) := by decide +kernel
theorem dJ9_min_7cf53_9 : decode cJ9_min_7cf53 9 = .ok (.iload_n 1, 1) := by decide +kernel
theorem dJ9_min_7cf53_10 : decode cJ9_min_7cf53 10 = .ok (.ireturn, 1) := by decide +kernel
theorem dJ0_length_8abf5_0 : decode cJ0_length_8abf5 0 = .ok (.aload_n 0, 1) := by decide +kernel
theorem dJ0_length_8abf5_1 : decode cJ0_length_8abf5 1 = .ok (.getfield 9, 3) := by decide +kernel
theorem dJ0_length_8abf5_4 : decode cJ0_length_8abf5 4 = .ok (.arraylength, 1) := by decide +kernel
theorem dJ0_length_8abf5_5 : decode cJ0_length_8abf5 5 = .ok (.aload_n 0, 1) := by decide +kernel
theorem dJ0_length_8abf5_6 : decode cJ0_length_8abf5 6 = .ok (.invokevirtual 335, 3) := by decide +kernel
theorem dJ0_length_8abf5_9 : decode cJ0_length_8abf5 9 = .ok (.ishr, 1) := by decide +kernel
theorem dJ0_length_8abf5_10 : decode cJ0_length_8abf5 10 = .ok (.ireturn, 1) := by decide +kernel
theorem dJ0_charAt_5068e_0 : decode cJ0_charAt_5068e 0 = .ok (.aload_n 0, 1) := by decide +kernel
theorem dJ0_charAt_5068e_1 : decode cJ0_charAt_5068e 1 = .ok (.invokevirtual 492, 3) := by decide +kernel
theorem dJ0_charAt_5068e_4 : decode cJ0_charAt_5068e 4 = .ok (.ifCond .eq 12, 3) := by decide +kernel
theorem dJ0_charAt_5068e_7 : decode cJ0_charAt_5068e 7 = .ok (.aload_n 0, 1) := by decide +kernel
theorem dJ0_charAt_5068e_8 : decode cJ0_charAt_5068e 8 = .ok (.getfield 9, 3) := by decide +kernel
theorem dJ0_charAt_5068e_11 : decode cJ0_charAt_5068e 11 = .ok (.iload_n 1, 1) := by decide +kernel
theorem dJ0_charAt_5068e_12 : decode cJ0_charAt_5068e 12 = .ok (.invokestatic 495, 3) := by decide +kernel
theorem dJ0_charAt_5068e_15 : decode cJ0_charAt_5068e 15 = .ok (.ireturn, 1) := by decide +kernel
theorem dJ0_charAt_5068e_16 : decode cJ0_charAt_5068e 16 = .ok (.aload_n 0, 1) := by decide +kernel
theorem dJ0_charAt_5068e_17 : decode cJ0_charAt_5068e 17 = .ok (.getfield 9, 3) := by decide +kernel
theorem dJ0_charAt_5068e_20 : decode cJ0_charAt_5068e 20 = .ok (.iload_n 1, 1) := by decide +kernel
theorem dJ0_charAt_5068e_21 : decode cJ0_charAt_5068e 21 = .ok (.invokestatic 498, 3) := by decide +kernel
theorem dJ0_charAt_5068e_24 : decode cJ0_charAt_5068e 24 = .ok (.ireturn, 1) := by decide +kernel
theorem dJ0_coder_7d493_0 : decode cJ0_coder_7d493 0 = .ok (.getstatic 38, 3) := by decide +kernel
theorem dJ0_coder_7d493_3 : decode cJ0_coder_7d493 3 = .ok (.ifCond .eq 10, 3) := by decide +kernel
theorem dJ0_coder_7d493_6 : decode cJ0_coder_7d493 6 = .ok (.aload_n 0, 1) := by decide +kernel
theorem dJ0_coder_7d493_7 : decode cJ0_coder_7d493 7 = .ok (.getfield 15, 3) := by decide +kernel
theorem dJ0_coder_7d493_10 : decode cJ0_coder_7d493 10 = .ok (.goto 4, 3) := by decide +kernel
theorem dJ0_coder_7d493_13 : decode cJ0_coder_7d493 13 = .ok (.iconst 1, 1) := by decide +kernel
theorem dJ0_coder_7d493_14 : decode cJ0_coder_7d493 14 = .ok (.ireturn, 1) := by decide +kernel
theorem dJ0_isLatin1_aae02_0 : decode cJ0_isLatin1_aae02 0 = .ok (.getstatic 38, 3) := by decide +kernel
theorem dJ0_isLatin1_aae02_3 : decode cJ0_isLatin1_aae02 3 = .ok (.ifCond .eq 14, 3) := by decide +kernel
theorem dJ0_isLatin1_aae02_6 : decode cJ0_isLatin1_aae02 6 = .ok (.aload_n 0, 1) := by decide +kernel
theorem dJ0_isLatin1_aae02_7 : decode cJ0_isLatin1_aae02 7 = .ok (.getfield 15, 3) := by decide +kernel
theorem dJ0_isLatin1_aae02_10 : decode cJ0_isLatin1_aae02 10 = .ok (.ifCond .ne 7, 3) := by decide +kernel
theorem dJ0_isLatin1_aae02_13 : decode cJ0_isLatin1_aae02 13 = .ok (.iconst 1, 1) := by decide +kernel
theorem dJ0_isLatin1_aae02_14 : decode cJ0_isLatin1_aae02 14 = .ok (.goto 4, 3) := by decide +kernel
theorem dJ0_isLatin1_aae02_17 : decode cJ0_isLatin1_aae02 17 = .ok (.iconst 0, 1) := by decide +kernel
theorem dJ0_isLatin1_aae02_18 : decode cJ0_isLatin1_aae02 18 = .ok (.ireturn, 1) := by decide +kernel
theorem dJ0_checkIndex_df160_0 : decode cJ0_checkIndex_df160 0 = .ok (.iload_n 0, 1) := by decide +kernel
theorem dJ0_checkIndex_df160_1 : decode cJ0_checkIndex_df160 1 = .ok (.iload_n 1, 1) := by decide +kernel
theorem dJ0_checkIndex_df160_2 : decode cJ0_checkIndex_df160 2 = .ok (.getstatic 1053, 3) := by decide +kernel
theorem dJ0_checkIndex_df160_5 : decode cJ0_checkIndex_df160 5 = .ok (.invokestatic 1059, 3) := by decide +kernel
theorem dJ0_checkIndex_df160_8 : decode cJ0_checkIndex_df160 8 = .ok (.pop, 1) := by decide +kernel
theorem dJ0_checkIndex_df160_9 : decode cJ0_checkIndex_df160 9 = .ok (.return_, 1) := by decide +kernel
theorem dJ1_charAt_3b067_0 : decode cJ1_charAt_3b067 0 = .ok (.iload_n 1, 1) := by decide +kernel
theorem dJ1_charAt_3b067_1 : decode cJ1_charAt_3b067 1 = .ok (.aload_n 0, 1) := by decide +kernel
theorem dJ1_charAt_3b067_2 : decode cJ1_charAt_3b067 2 = .ok (.arraylength, 1) := by decide +kernel
theorem dJ1_charAt_3b067_3 : decode cJ1_charAt_3b067 3 = .ok (.invokestatic 9, 3) := by decide +kernel
theorem dJ1_charAt_3b067_6 : decode cJ1_charAt_3b067 6 = .ok (.aload_n 0, 1) := by decide +kernel
theorem dJ1_charAt_3b067_7 : decode cJ1_charAt_3b067 7 = .ok (.iload_n 1, 1) := by decide +kernel
theorem dJ1_charAt_3b067_8 : decode cJ1_charAt_3b067 8 = .ok (.baload, 1) := by decide +kernel
theorem dJ1_charAt_3b067_9 : decode cJ1_charAt_3b067 9 = .ok (.sipush 255, 3) := by decide +kernel
theorem dJ1_charAt_3b067_12 : decode cJ1_charAt_3b067 12 = .ok (.iand, 1) := by decide +kernel
theorem dJ1_charAt_3b067_13 : decode cJ1_charAt_3b067 13 = .ok (.i2c, 1) := by decide +kernel
theorem dJ1_charAt_3b067_14 : decode cJ1_charAt_3b067 14 = .ok (.ireturn, 1) := by decide +kernel
theorem dJ2_getChar_3b067_0 : decode cJ2_getChar_3b067 0 = .ok (.getstatic 44, 3) := by decide +kernel
theorem dJ2_getChar_3b067_3 : decode cJ2_getChar_3b067 3 = .ok (.ifCond .ne 25, 3) := by decide +kernel
theorem dJ2_getChar_3b067_6 : decode cJ2_getChar_3b067 6 = .ok (.iload_n 1, 1) := by decide +kernel
theorem dJ2_getChar_3b067_7 : decode cJ2_getChar_3b067 7 = .ok (.ifCond .lt 11, 3) := by decide +kernel
theorem dJ2_getChar_3b067_10 : decode cJ2_getChar_3b067 10 = .ok (.iload_n 1, 1) := by decide +kernel
theorem dJ2_getChar_3b067_11 : decode cJ2_getChar_3b067 11 = .ok (.aload_n 0, 1) := by decide +kernel
theorem dJ2_getChar_3b067_12 : decode cJ2_getChar_3b067 12 = .ok (.invokestatic 48, 3) := by decide +kernel
theorem dJ2_getChar_3b067_15 : decode cJ2_getChar_3b067 15 = .ok (.if_icmp .lt 13, 3) := by decide +kernel
theorem dJ2_getChar_3b067_18 : decode cJ2_getChar_3b067 18 = .ok (.new 52, 3) := by decide +kernel
theorem dJ2_getChar_3b067_21 : decode cJ2_getChar_3b067 21 = .ok (.dup, 1) := by decide +kernel
theorem dJ2_getChar_3b067_22 : decode cJ2_getChar_3b067 22 = .ok (.ldc 54, 2) := by decide +kernel
theorem dJ2_getChar_3b067_24 : decode cJ2_getChar_3b067 24 = .ok (.invokespecial 56, 3) := by decide +kernel
theorem dJ2_getChar_3b067_27 : decode cJ2_getChar_3b067 27 = .ok (.athrow, 1) := by decide +kernel
theorem dJ2_getChar_3b067_28 : decode cJ2_getChar_3b067 28 = .ok (.iload_n 1, 1) := by decide +kernel
theorem dJ2_getChar_3b067_29 : decode cJ2_getChar_3b067 29 = .ok (.iconst 1, 1) := by decide +kernel
theorem dJ2_getChar_3b067_30 : decode cJ2_getChar_3b067 30 = .ok (.ishl, 1) := by decide +kernel
theorem dJ2_getChar_3b067_31 : decode cJ2_getChar_3b067 31 = .ok (.istore_n 1, 1) := by decide +kernel
theorem dJ2_getChar_3b067_32 : decode cJ2_getChar_3b067 32 = .ok (.aload_n 0, 1) := by decide +kernel
theorem dJ2_getChar_3b067_33 : decode cJ2_getChar_3b067 33 = .ok (.iload_n 1, 1) := by decide +kernel
theorem dJ2_getChar_3b067_34 : decode cJ2_getChar_3b067 34 = .ok (.iinc 1 1, 3) := by decide +kernel
theorem dJ2_getChar_3b067_37 : decode cJ2_getChar_3b067 37 = .ok (.baload, 1) := by decide +kernel
theorem dJ2_getChar_3b067_38 : decode cJ2_getChar_3b067 38 = .ok (.sipush 255, 3) := by decide +kernel
theorem dJ2_getChar_3b067_41 : decode cJ2_getChar_3b067 41 = .ok (.iand, 1) := by decide +kernel
theorem dJ2_getChar_3b067_42 : decode cJ2_getChar_3b067 42 = .ok (.getstatic 59, 3) := by decide +kernel
theorem dJ2_getChar_3b067_45 : decode cJ2_getChar_3b067 45 = .ok (.ishl, 1) := by decide +kernel
theorem dJ2_getChar_3b067_46 : decode cJ2_getChar_3b067 46 = .ok (.aload_n 0, 1) := by decide +kernel
theorem dJ2_getChar_3b067_47 : decode cJ2_getChar_3b067 47 = .ok (.iload_n 1, 1) := by decide +kernel
theorem dJ2_getChar_3b067_48 : decode cJ2_getChar_3b067 48 = .ok (.baload, 1) := by decide +kernel
theorem dJ2_getChar_3b067_49 : decode cJ2_getChar_3b067 49 = .ok (.sipush 255, 3) := by decide +kernel
theorem dJ2_getChar_3b067_52 : decode cJ2_getChar_3b067 52 = .ok (.iand, 1) := by decide +kernel
theorem dJ2_getChar_3b067_53 : decode cJ2_getChar_3b067 53 = .ok (.getstatic 63, 3) := by decide +kernel
theorem dJ2_getChar_3b067_56 : decode cJ2_getChar_3b067 56 = .ok (.ishl, 1) := by decide +kernel
theorem dJ2_getChar_3b067_57 : decode cJ2_getChar_3b067 57 = .ok (.ior, 1) := by decide +kernel
theorem dJ2_getChar_3b067_58 : decode cJ2_getChar_3b067 58 = .ok (.i2c, 1) := by decide +kernel
theorem dJ2_getChar_3b067_59 : decode cJ2_getChar_3b067 59 = .ok (.ireturn, 1) := by decide +kernel
theorem dJ2_length_9d52b_0 : decode cJ2_length_9d52b 0 = .ok (.aload_n 0, 1) := by decide +kernel
theorem dJ2_length_9d52b_1 : decode cJ2_length_9d52b 1 = .ok (.arraylength, 1) := by decide +kernel
theorem dJ2_length_9d52b_2 : decode cJ2_length_9d52b 2 = .ok (.iconst 1, 1) := by decide +kernel
theorem dJ2_length_9d52b_3 : decode cJ2_length_9d52b 3 = .ok (.ishr, 1) := by decide +kernel
theorem dJ2_length_9d52b_4 : decode cJ2_length_9d52b 4 = .ok (.ireturn, 1) := by decide +kernel
theorem dJ2_charAt_3b067_0 : decode cJ2_charAt_3b067 0 = .ok (.iload_n 1, 1) := by decide +kernel
theorem dJ2_charAt_3b067_1 : decode cJ2_charAt_3b067 1 = .ok (.aload_n 0, 1) := by decide +kernel
theorem dJ2_charAt_3b067_2 : decode cJ2_charAt_3b067 2 = .ok (.invokestatic 67, 3) := by decide +kernel
theorem dJ2_charAt_3b067_5 : decode cJ2_charAt_3b067 5 = .ok (.aload_n 0, 1) := by decide +kernel
theorem dJ2_charAt_3b067_6 : decode cJ2_charAt_3b067 6 = .ok (.iload_n 1, 1) := by decide +kernel
theorem dJ2_charAt_3b067_7 : decode cJ2_charAt_3b067 7 = .ok (.invokestatic 71, 3) := by decide +kernel
theorem dJ2_charAt_3b067_10 : decode cJ2_charAt_3b067 10 = .ok (.ireturn, 1) := by decide +kernel
theorem dJ2_checkIndex_2214a_0 : decode cJ2_checkIndex_2214a 0 = .ok (.iload_n 0, 1) := by decide +kernel
theorem dJ2_checkIndex_2214a_1 : decode cJ2_checkIndex_2214a 1 = .ok (.aload_n 1, 1) := by decide +kernel
theorem dJ2_checkIndex_2214a_2 : decode cJ2_checkIndex_2214a 2 = .ok (.invokestatic 48, 3) := by decide +kernel
theorem dJ2_checkIndex_2214a_5 : decode cJ2_checkIndex_2214a 5 = .ok (.invokestatic 414, 3) := by decide +kernel
theorem dJ2_checkIndex_2214a_8 : decode cJ2_checkIndex_2214a 8 = .ok (.return_, 1) := by decide +kernel
theorem dJ7_fill_53178_0 : decode cJ7_fill_53178 0 = .ok (.iconst 0, 1) := by decide +kernel
theorem dJ7_fill_53178_1 : decode cJ7_fill_53178 1 = .ok (.istore_n 2, 1) := by decide +kernel
theorem dJ7_fill_53178_2 : decode cJ7_fill_53178 2 = .ok (.aload_n 0, 1) := by decide +kernel
theorem dJ7_fill_53178_3 : decode cJ7_fill_53178 3 = .ok (.arraylength, 1) := by decide +kernel
theorem dJ7_fill_53178_4 : decode cJ7_fill_53178 4 = .ok (.istore_n 3, 1) := by decide +kernel
theorem dJ7_fill_53178_5 : decode cJ7_fill_53178 5 = .ok (.iload_n 2, 1) := by decide +kernel
theorem dJ7_fill_53178_6 : decode cJ7_fill_53178 6 = .ok (.iload_n 3, 1) := by decide +kernel
theorem dJ7_fill_53178_7 : decode cJ7_fill_53178 7 = .ok (.if_icmp .ge 13, 3) := by decide +kernel
theorem dJ7_fill_53178_10 : decode cJ7_fill_53178 10 = .ok (.aload_n 0, 1) := by decide +kernel
theorem dJ7_fill_53178_11 : decode cJ7_fill_53178 11 = .ok (.iload_n 2, 1) := by decide +kernel
theorem dJ7_fill_53178_12 : decode cJ7_fill_53178 12 = .ok (.iload_n 1, 1) := by decide +kernel
theorem dJ7_fill_53178_13 : decode cJ7_fill_53178 13 = .ok (.iastore, 1) := by decide +kernel
theorem dJ7_fill_53178_14 : decode cJ7_fill_53178 14 = .ok (.iinc 2 1, 3) := by decide +kernel
theorem dJ7_fill_53178_17 : decode cJ7_fill_53178 17 = .ok (.goto (-12), 3) := by decide +kernel
theorem dJ7_fill_53178_20 : decode cJ7_fill_53178 20 = .ok (.return_, 1) := by decide +kernel
theorem dJ3_checkIndex_8e157_0 : decode cJ3_checkIndex_8e157 0 = .ok (.iload_n 0, 1) := by decide +kernel
theorem dJ3_checkIndex_8e157_1 : decode cJ3_checkIndex_8e157 1 = .ok (.ifCond .lt 8, 3) := by decide +kernel
theorem dJ3_checkIndex_8e157_4 : decode cJ3_checkIndex_8e157 4 = .ok (.iload_n 0, 1) := by decide +kernel
theorem dJ3_checkIndex_8e157_5 : decode cJ3_checkIndex_8e157 5 = .ok (.iload_n 1, 1) := by decide +kernel
theorem dJ3_checkIndex_8e157_6 : decode cJ3_checkIndex_8e157 6 = .ok (.if_icmp .lt 10, 3) := by decide +kernel
theorem dJ3_checkIndex_8e157_9 : decode cJ3_checkIndex_8e157 9 = .ok (.aload_n 2, 1) := by decide +kernel
theorem dJ3_checkIndex_8e157_10 : decode cJ3_checkIndex_8e157 10 = .ok (.iload_n 0, 1) := by decide +kernel
theorem dJ3_checkIndex_8e157_11 : decode cJ3_checkIndex_8e157 11 = .ok (.iload_n 1, 1) := by decide +kernel
theorem dJ3_checkIndex_8e157_12 : decode cJ3_checkIndex_8e157 12 = .ok (.invokestatic 95, 3) := by decide +kernel
theorem dJ3_checkIndex_8e157_15 : decode cJ3_checkIndex_8e157 15 = .ok (.athrow, 1) := by decide +kernel
theorem dJ3_checkIndex_8e157_16 : decode cJ3_checkIndex_8e157 16 = .ok (.iload_n 0, 1) := by decide +kernel
theorem dJ3_checkIndex_8e157_17 : decode cJ3_checkIndex_8e157 17 = .ok (.ireturn, 1) := by decide +kernel
