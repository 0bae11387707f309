theorem inlX0 : ∀ w ∈ wsX00, w ∈ wsL_law := fun _ h => List.mem_append_left _ (List.mem_append_left _ (List.mem_append_left _ (List.mem_append_left _ (List.mem_append_left _ (List.mem_append_left _ (List.mem_append_left _ (List.mem_append_left _ (List.mem_append_left _ (List.mem_append_left _ (List.mem_append_left _ (List.mem_append_left _ (List.mem_append_right _ h))))))))))))
theorem inX0 : ∀ w ∈ wsX00, w ∈ lw_tbl := fun w h => wsL_law_in w (inlX0 w h)
theorem inlX1 : ∀ w ∈ wsX10, w ∈ wsL_law := fun _ h => List.mem_append_left _ (List.mem_append_left _ (List.mem_append_left _ (List.mem_append_left _ (List.mem_append_left _ (List.mem_append_left _ (List.mem_append_left _ (List.mem_append_left _ (List.mem_append_left _ (List.mem_append_left _ (List.mem_append_left _ (List.mem_append_right _ h)))))))))))
theorem inX1 : ∀ w ∈ wsX10, w ∈ lw_tbl := fun w h => wsL_law_in w (inlX1 w h)
theorem inlX2 : ∀ w ∈ wsX20, w ∈ wsL_law := fun _ h => List.mem_append_left _ (List.mem_append_left _ (List.mem_append_left _ (List.mem_append_left _ (List.mem_append_left _ (List.mem_append_left _ (List.mem_append_left _ (List.mem_append_right _ h)))))))
theorem inX2 : ∀ w ∈ wsX20, w ∈ lw_tbl := fun w h => wsL_law_in w (inlX2 w h)
theorem inX3 : ∀ w ∈ wsX30, w ∈ lw_tbl := by decide +kernel
theorem inlX4 : ∀ w ∈ wsX40, w ∈ wsL_law := fun _ h => List.mem_append_left _ (List.mem_append_left _ (List.mem_append_left _ (List.mem_append_left _ (List.mem_append_left _ (List.mem_append_left _ (List.mem_append_right _ h))))))
theorem inX4 : ∀ w ∈ wsX40, w ∈ lw_tbl := fun w h => wsL_law_in w (inlX4 w h)
theorem inlX5 : ∀ w ∈ wsX50, w ∈ wsL_law := fun _ h => List.mem_append_left _ (List.mem_append_left _ (List.mem_append_left _ (List.mem_append_left _ (List.mem_append_left _ (List.mem_append_left _ (List.mem_append_left _ (List.mem_append_left _ (List.mem_append_left _ (List.mem_append_right _ h)))))))))
theorem inX5 : ∀ w ∈ wsX50, w ∈ lw_tbl := fun w h => wsL_law_in w (inlX5 w h)
theorem inlX6 : ∀ w ∈ wsX60, w ∈ wsL_law := fun _ h => List.mem_append_left _ (List.mem_append_left _ (List.mem_append_left _ (List.mem_append_left _ (List.mem_append_left _ (List.mem_append_right _ h)))))
theorem inX6 : ∀ w ∈ wsX60, w ∈ lw_tbl := fun w h => wsL_law_in w (inlX6 w h)
theorem inlX7 : ∀ w ∈ wsX70, w ∈ wsL_law := fun _ h => List.mem_append_left _ (List.mem_append_left _ (List.mem_append_left _ (List.mem_append_left _ (List.mem_append_left _ (List.mem_append_left _ (List.mem_append_left _ (List.mem_append_left _ (List.mem_append_left _ (List.mem_append_left _ (List.mem_append_left _ (List.mem_append_left _ (List.mem_append_left _ (List.mem_append_right _ h)))))))))))))
theorem inX7 : ∀ w ∈ wsX70, w ∈ lw_tbl := fun w h => wsL_law_in w (inlX7 w h)
theorem inlX8 : ∀ w ∈ wsX80, w ∈ wsL_law := fun _ h => List.mem_append_left _ (List.mem_append_left _ (List.mem_append_left _ (List.mem_append_left _ (List.mem_append_left _ (List.mem_append_left _ (List.mem_append_left _ (List.mem_append_left _ (List.mem_append_left _ (List.mem_append_left _ (List.mem_append_right _ h))))))))))
theorem inX8 : ∀ w ∈ wsX80, w ∈ lw_tbl := fun w h => wsL_law_in w (inlX8 w h)
theorem inlX9 : ∀ w ∈ wsX90, w ∈ wsL_law := fun _ h => List.mem_append_left _ (List.mem_append_left _ (List.mem_append_left _ (List.mem_append_left _ (List.mem_append_left _ (List.mem_append_left _ (List.mem_append_left _ (List.mem_append_left _ (List.mem_append_right _ h))))))))
theorem inX9 : ∀ w ∈ wsX90, w ∈ lw_tbl := fun w h => wsL_law_in w (inlX9 w h)
theorem inlX10 : ∀ w ∈ wsX100, w ∈ wsL_law := fun _ h => List.mem_append_left _ (List.mem_append_left _ (List.mem_append_left _ (List.mem_append_left _ (List.mem_append_left _ (List.mem_append_left _ (List.mem_append_left _ (List.mem_append_left _ (List.mem_append_left _ (List.mem_append_left _ (List.mem_append_left _ (List.mem_append_left _ (List.mem_append_left _ (List.mem_append_left _ (List.mem_append_left _ (List.mem_append_right _ h)))))))))))))))
theorem inX10 : ∀ w ∈ wsX100, w ∈ lw_tbl := fun w h => wsL_law_in w (inlX10 w h)
theorem inlX11 : ∀ w ∈ wsX110, w ∈ wsL_law := fun _ h => List.mem_append_left _ (List.mem_append_left _ (List.mem_append_left _ (List.mem_append_left _ (List.mem_append_left _ (List.mem_append_left _ (List.mem_append_left _ (List.mem_append_left _ (List.mem_append_left _ (List.mem_append_left _ (List.mem_append_left _ (List.mem_append_left _ (List.mem_append_left _ (List.mem_append_left _ (List.mem_append_right _ h))))))))))))))
theorem inX11 : ∀ w ∈ wsX110, w ∈ lw_tbl := fun w h => wsL_law_in w (inlX11 w h)
theorem inJx145de : ∀ w ∈ wsJx145de0, w ∈ lw_tbl := by decide +kernel
theorem inJx9f9b0 : ∀ w ∈ wsJx9f9b00, w ∈ lw_tbl := by decide +kernel
theorem inJxb160c : ∀ w ∈ wsJxb160c0, w ∈ lw_tbl := by decide +kernel
theorem inJx29ce0 : ∀ w ∈ wsJx29ce00, w ∈ lw_tbl := by decide +kernel
theorem inJ6 : ∀ w ∈ wsJ60, w ∈ lw_tbl := by decide +kernel
theorem inJ9 : ∀ w ∈ wsJ90, w ∈ lw_tbl := by decide +kernel
theorem inJ0 : ∀ w ∈ wsJ00, w ∈ lw_tbl := by decide +kernel
theorem inJ1 : ∀ w ∈ wsJ10, w ∈ lw_tbl := by decide +kernel
theorem inJ2 : ∀ w ∈ wsJ20, w ∈ lw_tbl := by decide +kernel
theorem inJ10 : ∀ w ∈ wsJ100, w ∈ lw_tbl := by decide +kernel
theorem inJxfd54e : ∀ w ∈ wsJxfd54e0, w ∈ lw_tbl := by decide +kernel
theorem inJx3cf43 : ∀ w ∈ wsJx3cf430, w ∈ lw_tbl := by decide +kernel
theorem inJ7 : ∀ w ∈ wsJ70, w ∈ lw_tbl := by decide +kernel
theorem inJ3 : ∀ w ∈ wsJ30, w ∈ lw_tbl := by decide +kernel
theorem dX0_init_0 : decode cX0_init 0 = .ok (.aload_n 0, 1) := by decide +kernel
theorem dX0_init_1 : decode cX0_init 1 = .ok (.invokespecial 3, 3) := by decide +kernel
theorem dX0_init_4 : decode cX0_init 4 = .ok (.aload_n 0, 1) := by decide +kernel
theorem dX0_init_5 : decode cX0_init 5 = .ok (.iconst 0, 1) := by decide +kernel
theorem dX0_init_6 : decode cX0_init 6 = .ok (.iload_n 1, 1) := by decide +kernel
theorem dX0_init_7 : decode cX0_init 7 = .ok (.invokestatic 9, 3) := by decide +kernel
theorem dX0_init_10 : decode cX0_init 10 = .ok (.newarray .byte, 2) := by decide +kernel
theorem dX0_init_12 : decode cX0_init 12 = .ok (.putfield 15, 3) := by decide +kernel
theorem dX0_init_15 : decode cX0_init 15 = .ok (.return_, 1) := by decide +kernel
theorem dX0_byteAt_0 : decode cX0_byteAt 0 = .ok (.iload_n 1, 1) := by decide +kernel
theorem dX0_byteAt_1 : decode cX0_byteAt 1 = .ok (.ifCond .lt 33, 3) := by decide +kernel
theorem dX0_byteAt_4 : decode cX0_byteAt 4 = .ok (.iload_n 1, 1) := by decide +kernel
theorem dX0_byteAt_5 : decode cX0_byteAt 5 = .ok (.aload_n 0, 1) := by decide +kernel
theorem dX0_byteAt_6 : decode cX0_byteAt 6 = .ok (.getfield 21, 3) := by decide +kernel
theorem dX0_byteAt_9 : decode cX0_byteAt 9 = .ok (.if_icmp .ge 25, 3) := by decide +kernel
theorem dX0_byteAt_12 : decode cX0_byteAt 12 = .ok (.iload_n 1, 1) := by decide +kernel
theorem dX0_byteAt_13 : decode cX0_byteAt 13 = .ok (.aload_n 0, 1) := by decide +kernel
theorem dX0_byteAt_14 : decode cX0_byteAt 14 = .ok (.getfield 15, 3) := by decide +kernel
theorem dX0_byteAt_17 : decode cX0_byteAt 17 = .ok (.arraylength, 1) := by decide +kernel
theorem dX0_byteAt_18 : decode cX0_byteAt 18 = .ok (.if_icmp .ge 16, 3) := by decide +kernel
theorem dX0_byteAt_21 : decode cX0_byteAt 21 = .ok (.aload_n 0, 1) := by decide +kernel
theorem dX0_byteAt_22 : decode cX0_byteAt 22 = .ok (.getfield 15, 3) := by decide +kernel
theorem dX0_byteAt_25 : decode cX0_byteAt 25 = .ok (.iload_n 1, 1) := by decide +kernel
theorem dX0_byteAt_26 : decode cX0_byteAt 26 = .ok (.baload, 1) := by decide +kernel
theorem dX0_byteAt_27 : decode cX0_byteAt 27 = .ok (.sipush 255, 3) := by decide +kernel
theorem dX0_byteAt_30 : decode cX0_byteAt 30 = .ok (.iand, 1) := by decide +kernel
theorem dX0_byteAt_31 : decode cX0_byteAt 31 = .ok (.goto 4, 3) := by decide +kernel
theorem dX0_byteAt_34 : decode cX0_byteAt 34 = .ok (.iconst (-1), 1) := by decide +kernel
theorem dX0_byteAt_35 : decode cX0_byteAt 35 = .ok (.ireturn, 1) := by decide +kernel
theorem dX0_add_0 : decode cX0_add 0 = .ok (.aload_n 0, 1) := by decide +kernel
theorem dX0_add_1 : decode cX0_add 1 = .ok (.getfield 21, 3) := by decide +kernel
theorem dX0_add_4 : decode cX0_add 4 = .ok (.ifCond .lt 36, 3) := by decide +kernel
theorem dX0_add_7 : decode cX0_add 7 = .ok (.aload_n 0, 1) := by decide +kernel
theorem dX0_add_8 : decode cX0_add 8 = .ok (.getfield 21, 3) := by decide +kernel
theorem dX0_add_11 : decode cX0_add 11 = .ok (.aload_n 0, 1) := by decide +kernel
theorem dX0_add_12 : decode cX0_add 12 = .ok (.getfield 15, 3) := by decide +kernel
theorem dX0_add_15 : decode cX0_add 15 = .ok (.arraylength, 1) := by decide +kernel
theorem dX0_add_16 : decode cX0_add 16 = .ok (.if_icmp .ge 24, 3) := by decide +kernel
theorem dX0_add_19 : decode cX0_add 19 = .ok (.aload_n 0, 1) := by decide +kernel
theorem dX0_add_20 : decode cX0_add 20 = .ok (.getfield 15, 3) := by decide +kernel
theorem dX0_add_23 : decode cX0_add 23 = .ok (.aload_n 0, 1) := by decide +kernel
theorem dX0_add_24 : decode cX0_add 24 = .ok (.getfield 21, 3) := by decide +kernel
theorem dX0_add_27 : decode cX0_add 27 = .ok (.iload_n 1, 1) := by decide +kernel
theorem dX0_add_28 : decode cX0_add 28 = .ok (.i2b, 1) := by decide +kernel
theorem dX0_add_29 : decode cX0_add 29 = .ok (.bastore, 1) := by decide +kernel
theorem dX0_add_30 : decode cX0_add 30 = .ok (.aload_n 0, 1) := by decide +kernel
theorem dX0_add_31 : decode cX0_add 31 = .ok (.dup, 1) := by decide +kernel
theorem dX0_add_32 : decode cX0_add 32 = .ok (.getfield 21, 3) := by decide +kernel
theorem dX0_add_35 : decode cX0_add 35 = .ok (.iconst 1, 1) := by decide +kernel
theorem dX0_add_36 : decode cX0_add 36 = .ok (.iadd, 1) := by decide +kernel
theorem dX0_add_37 : decode cX0_add 37 = .ok (.putfield 21, 3) := by decide +kernel
theorem dX0_add_40 : decode cX0_add 40 = .ok (.return_, 1) := by decide +kernel
set_option maxRecDepth 20000 in
theorem ggX0_addFour_X0_add : GoodIn wsX0_addFour wsX0_add := goodIn_r _ [5, 6, 7, 8, 9] (by decide +kernel) (by decide +kernel)
set_option maxRecDepth 20000 in
theorem gX0_addFour_X0_add : GoodIn wsX0_addFour (wsV RX0 25 RX0 yX0_add wsX0_add) := goodIn_app (goodIn_of _ (by decide +kernel)) ggX0_addFour_X0_add
theorem dX0_addFour_0 : decode cX0_addFour 0 = .ok (.aload_n 0, 1) := by decide +kernel
theorem dX0_addFour_1 : decode cX0_addFour 1 = .ok (.iload_n 1, 1) := by decide +kernel
theorem dX0_addFour_2 : decode cX0_addFour 2 = .ok (.bipush 24, 2) := by decide +kernel
theorem dX0_addFour_4 : decode cX0_addFour 4 = .ok (.iushr, 1) := by decide +kernel
theorem dX0_addFour_5 : decode cX0_addFour 5 = .ok (.invokevirtual 25, 3) := by decide +kernel
theorem dX0_addFour_8 : decode cX0_addFour 8 = .ok (.aload_n 0, 1) := by decide +kernel
theorem dX0_addFour_9 : decode cX0_addFour 9 = .ok (.iload_n 1, 1) := by decide +kernel
theorem dX0_addFour_10 : decode cX0_addFour 10 = .ok (.bipush 16, 2) := by decide +kernel
theorem dX0_addFour_12 : decode cX0_addFour 12 = .ok (.iushr, 1) := by decide +kernel
theorem dX0_addFour_13 : decode cX0_addFour 13 = .ok (.invokevirtual 25, 3) := by decide +kernel
theorem dX0_addFour_16 : decode cX0_addFour 16 = .ok (.aload_n 0, 1) := by decide +kernel
theorem dX0_addFour_17 : decode cX0_addFour 17 = .ok (.iload_n 1, 1) := by decide +kernel
theorem dX0_addFour_18 : decode cX0_addFour 18 = .ok (.bipush 8, 2) := by decide +kernel
theorem dX0_addFour_20 : decode cX0_addFour 20 = .ok (.iushr, 1) := by decide +kernel
theorem dX0_addFour_21 : decode cX0_addFour 21 = .ok (.invokevirtual 25, 3) := by decide +kernel
theorem dX0_addFour_24 : decode cX0_addFour 24 = .ok (.aload_n 0, 1) := by decide +kernel
theorem dX0_addFour_25 : decode cX0_addFour 25 = .ok (.iload_n 1, 1) := by decide +kernel
theorem dX0_addFour_26 : decode cX0_addFour 26 = .ok (.invokevirtual 25, 3) := by decide +kernel
theorem dX0_addFour_29 : decode cX0_addFour 29 = .ok (.return_, 1) := by decide +kernel
set_option maxRecDepth 20000 in
theorem ggX0_addNumber_X0_add : GoodIn wsX0_addNumber wsX0_add := goodIn_r _ [5, 6, 7, 8, 9] (by decide +kernel) (by decide +kernel)
set_option maxRecDepth 20000 in
theorem gX0_addNumber_X0_add : GoodIn wsX0_addNumber (wsV RX0 25 RX0 yX0_add wsX0_add) := goodIn_app (goodIn_of _ (by decide +kernel)) ggX0_addNumber_X0_add
theorem dX0_addNumber_0 : decode cX0_addNumber 0 = .ok (.iconst 0, 1) := by decide +kernel
theorem dX0_addNumber_1 : decode cX0_addNumber 1 = .ok (.istore_n 2, 1) := by decide +kernel
theorem dX0_addNumber_2 : decode cX0_addNumber 2 = .ok (.sipush 10000, 3) := by decide +kernel
theorem dX0_addNumber_5 : decode cX0_addNumber 5 = .ok (.istore_n 3, 1) := by decide +kernel
theorem dX0_addNumber_6 : decode cX0_addNumber 6 = .ok (.iload_n 3, 1) := by decide +kernel
theorem dX0_addNumber_7 : decode cX0_addNumber 7 = .ok (.iconst 1, 1) := by decide +kernel
theorem dX0_addNumber_8 : decode cX0_addNumber 8 = .ok (.if_icmp .lt 52, 3) := by decide +kernel
theorem dX0_addNumber_11 : decode cX0_addNumber 11 = .ok (.iload_n 1, 1) := by decide +kernel
theorem dX0_addNumber_12 : decode cX0_addNumber 12 = .ok (.iload_n 3, 1) := by decide +kernel
theorem dX0_addNumber_13 : decode cX0_addNumber 13 = .ok (.idiv, 1) := by decide +kernel
theorem dX0_addNumber_14 : decode cX0_addNumber 14 = .ok (.bipush 10, 2) := by decide +kernel
theorem dX0_addNumber_16 : decode cX0_addNumber 16 = .ok (.irem, 1) := by decide +kernel
theorem dX0_addNumber_17 : decode cX0_addNumber 17 = .ok (.istore 4, 2) := by decide +kernel
theorem dX0_addNumber_19 : decode cX0_addNumber 19 = .ok (.iload_n 2, 1) := by decide +kernel
theorem dX0_addNumber_20 : decode cX0_addNumber 20 = .ok (.ifCond .ne 13, 3) := by decide +kernel
theorem dX0_addNumber_23 : decode cX0_addNumber 23 = .ok (.iload 4, 2) := by decide +kernel
theorem dX0_addNumber_25 : decode cX0_addNumber 25 = .ok (.ifCond .ne 8, 3) := by decide +kernel
theorem dX0_addNumber_28 : decode cX0_addNumber 28 = .ok (.iload_n 3, 1) := by decide +kernel
theorem dX0_addNumber_29 : decode cX0_addNumber 29 = .ok (.iconst 1, 1) := by decide +kernel
theorem dX0_addNumber_30 : decode cX0_addNumber 30 = .ok (.if_icmp .ne 7, 3) := by decide +kernel
theorem dX0_addNumber_33 : decode cX0_addNumber 33 = .ok (.iconst 1, 1) := by decide +kernel
theorem dX0_addNumber_34 : decode cX0_addNumber 34 = .ok (.goto 4, 3) := by decide +kernel
theorem dX0_addNumber_37 : decode cX0_addNumber 37 = .ok (.iconst 0, 1) := by decide +kernel
theorem dX0_addNumber_38 : decode cX0_addNumber 38 = .ok (.istore_n 2, 1) := by decide +kernel
theorem dX0_addNumber_39 : decode cX0_addNumber 39 = .ok (.iload_n 2, 1) := by decide +kernel
theorem dX0_addNumber_40 : decode cX0_addNumber 40 = .ok (.ifCond .eq 12, 3) := by decide +kernel
theorem dX0_addNumber_43 : decode cX0_addNumber 43 = .ok (.aload_n 0, 1) := by decide +kernel
theorem dX0_addNumber_44 : decode cX0_addNumber 44 = .ok (.bipush 48, 2) := by decide +kernel
theorem dX0_addNumber_46 : decode cX0_addNumber 46 = .ok (.iload 4, 2) := by decide +kernel
theorem dX0_addNumber_48 : decode cX0_addNumber 48 = .ok (.iadd, 1) := by decide +kernel
theorem dX0_addNumber_49 : decode cX0_addNumber 49 = .ok (.invokevirtual 25, 3) := by decide +kernel
theorem dX0_addNumber_52 : decode cX0_addNumber 52 = .ok (.iload_n 3, 1) := by decide +kernel
theorem dX0_addNumber_53 : decode cX0_addNumber 53 = .ok (.bipush 10, 2) := by decide +kernel
theorem dX0_addNumber_55 : decode cX0_addNumber 55 = .ok (.idiv, 1) := by decide +kernel
theorem dX0_addNumber_56 : decode cX0_addNumber 56 = .ok (.istore_n 3, 1) := by decide +kernel
theorem dX0_addNumber_57 : decode cX0_addNumber 57 = .ok (.goto (-51), 3) := by decide +kernel
theorem dX0_addNumber_60 : decode cX0_addNumber 60 = .ok (.return_, 1) := by decide +kernel
set_option maxRecDepth 20000 in
theorem ggX0_addWord_X0_add : GoodIn wsX0_addWord wsX0_add := goodIn_r _ [7, 8, 9, 10, 11] (by decide +kernel) (by decide +kernel)
set_option maxRecDepth 20000 in
theorem gX0_addWord_X0_add : GoodIn wsX0_addWord (wsV RX0 25 RX0 yX0_add wsX0_add) := goodIn_app (goodIn_of _ (by decide +kernel)) ggX0_addWord_X0_add
theorem dX0_addWord_0 : decode cX0_addWord 0 = .ok (.ldc2_w 29, 3) := by decide +kernel
theorem dX0_addWord_3 : decode cX0_addWord 3 = .ok (.lstore_n 3, 1) := by decide +kernel
theorem dX0_addWord_4 : decode cX0_addWord 4 = .ok (.lload_n 3, 1) := by decide +kernel
theorem dX0_addWord_5 : decode cX0_addWord 5 = .ok (.lconst 1, 1) := by decide +kernel
theorem dX0_addWord_6 : decode cX0_addWord 6 = .ok (.lcmp, 1) := by decide +kernel
theorem dX0_addWord_7 : decode cX0_addWord 7 = .ok (.ifCond .lt 38, 3) := by decide +kernel
theorem dX0_addWord_10 : decode cX0_addWord 10 = .ok (.lload_n 1, 1) := by decide +kernel
theorem dX0_addWord_11 : decode cX0_addWord 11 = .ok (.lload_n 3, 1) := by decide +kernel
theorem dX0_addWord_12 : decode cX0_addWord 12 = .ok (.ldiv, 1) := by decide +kernel
theorem dX0_addWord_13 : decode cX0_addWord 13 = .ok (.ldc2_w 31, 3) := by decide +kernel
theorem dX0_addWord_16 : decode cX0_addWord 16 = .ok (.lrem, 1) := by decide +kernel
theorem dX0_addWord_17 : decode cX0_addWord 17 = .ok (.l2i, 1) := by decide +kernel
theorem dX0_addWord_18 : decode cX0_addWord 18 = .ok (.istore 5, 2) := by decide +kernel
theorem dX0_addWord_20 : decode cX0_addWord 20 = .ok (.iload 5, 2) := by decide +kernel
theorem dX0_addWord_22 : decode cX0_addWord 22 = .ok (.ifCond .le 14, 3) := by decide +kernel
theorem dX0_addWord_25 : decode cX0_addWord 25 = .ok (.aload_n 0, 1) := by decide +kernel
theorem dX0_addWord_26 : decode cX0_addWord 26 = .ok (.bipush 97, 2) := by decide +kernel
theorem dX0_addWord_28 : decode cX0_addWord 28 = .ok (.iload 5, 2) := by decide +kernel
theorem dX0_addWord_30 : decode cX0_addWord 30 = .ok (.iadd, 1) := by decide +kernel
theorem dX0_addWord_31 : decode cX0_addWord 31 = .ok (.iconst 1, 1) := by decide +kernel
theorem dX0_addWord_32 : decode cX0_addWord 32 = .ok (.isub, 1) := by decide +kernel
theorem dX0_addWord_33 : decode cX0_addWord 33 = .ok (.invokevirtual 25, 3) := by decide +kernel
theorem dX0_addWord_36 : decode cX0_addWord 36 = .ok (.lload_n 3, 1) := by decide +kernel
theorem dX0_addWord_37 : decode cX0_addWord 37 = .ok (.ldc2_w 31, 3) := by decide +kernel
theorem dX0_addWord_40 : decode cX0_addWord 40 = .ok (.ldiv, 1) := by decide +kernel
theorem dX0_addWord_41 : decode cX0_addWord 41 = .ok (.lstore_n 3, 1) := by decide +kernel
theorem dX0_addWord_42 : decode cX0_addWord 42 = .ok (.goto (-38), 3) := by decide +kernel
theorem dX0_addWord_45 : decode cX0_addWord 45 = .ok (.return_, 1) := by decide +kernel
set_option maxRecDepth 20000 in
theorem ggX0_addRange_X0_byteAt : GoodIn wsX0_addRange wsX0_byteAt := goodIn_r _ [5, 6, 7, 12, 13] (by decide +kernel) (by decide +kernel)
set_option maxRecDepth 20000 in
theorem gX0_addRange_X0_byteAt : GoodIn wsX0_addRange (wsV RX0 33 RX0 yX0_byteAt wsX0_byteAt) := goodIn_app (goodIn_of _ (by decide +kernel)) ggX0_addRange_X0_byteAt
set_option maxRecDepth 20000 in
theorem ggX0_addRange_X0_add : GoodIn wsX0_addRange wsX0_add := goodIn_r _ [11, 6, 7, 12, 13] (by decide +kernel) (by decide +kernel)
set_option maxRecDepth 20000 in
theorem gX0_addRange_X0_add : GoodIn wsX0_addRange (wsV RX0 25 RX0 yX0_add wsX0_add) := goodIn_app (goodIn_of _ (by decide +kernel)) ggX0_addRange_X0_add
theorem dX0_addRange_0 : decode cX0_addRange 0 = .ok (.iload_n 2, 1) := by decide +kernel
theorem dX0_addRange_1 : decode cX0_addRange 1 = .ok (.istore 4, 2) := by decide +kernel
theorem dX0_addRange_3 : decode cX0_addRange 3 = .ok (.iload 4, 2) := by decide +kernel
theorem dX0_addRange_5 : decode cX0_addRange 5 = .ok (.iload_n 3, 1) := by decide +kernel
theorem dX0_addRange_6 : decode cX0_addRange 6 = .ok (.if_icmp .ge 19, 3) := by decide +kernel
theorem dX0_addRange_9 : decode cX0_addRange 9 = .ok (.aload_n 0, 1) := by decide +kernel
theorem dX0_addRange_10 : decode cX0_addRange 10 = .ok (.aload_n 1, 1) := by decide +kernel
theorem dX0_addRange_11 : decode cX0_addRange 11 = .ok (.iload 4, 2) := by decide +kernel
theorem dX0_addRange_13 : decode cX0_addRange 13 = .ok (.invokevirtual 33, 3) := by decide +kernel
theorem dX0_addRange_16 : decode cX0_addRange 16 = .ok (.invokevirtual 25, 3) := by decide +kernel
theorem dX0_addRange_19 : decode cX0_addRange 19 = .ok (.iinc 4 1, 3) := by decide +kernel
theorem dX0_addRange_22 : decode cX0_addRange 22 = .ok (.goto (-19), 3) := by decide +kernel
theorem dX0_addRange_25 : decode cX0_addRange 25 = .ok (.return_, 1) := by decide +kernel
theorem dX0_cutTo_0 : decode cX0_cutTo 0 = .ok (.iload_n 1, 1) := by decide +kernel
theorem dX0_cutTo_1 : decode cX0_cutTo 1 = .ok (.ifCond .lt 16, 3) := by decide +kernel
theorem dX0_cutTo_4 : decode cX0_cutTo 4 = .ok (.iload_n 1, 1) := by decide +kernel
theorem dX0_cutTo_5 : decode cX0_cutTo 5 = .ok (.aload_n 0, 1) := by decide +kernel
theorem dX0_cutTo_6 : decode cX0_cutTo 6 = .ok (.getfield 21, 3) := by decide +kernel
theorem dX0_cutTo_9 : decode cX0_cutTo 9 = .ok (.if_icmp .ge 8, 3) := by decide +kernel
theorem dX0_cutTo_12 : decode cX0_cutTo 12 = .ok (.aload_n 0, 1) := by decide +kernel
theorem dX0_cutTo_13 : decode cX0_cutTo 13 = .ok (.iload_n 1, 1) := by decide +kernel
theorem dX0_cutTo_14 : decode cX0_cutTo 14 = .ok (.putfield 21, 3) := by decide +kernel
theorem dX0_cutTo_17 : decode cX0_cutTo 17 = .ok (.return_, 1) := by decide +kernel
set_option maxRecDepth 20000 in
theorem ggX0_isRange_X0_byteAt : GoodIn wsX0_isRange wsX0_byteAt := goodIn_r _ [6, 1, 7, 8, 9] (by decide +kernel) (by decide +kernel)
set_option maxRecDepth 20000 in
theorem gX0_isRange_X0_byteAt : GoodIn wsX0_isRange (wsV RX0 33 RX0 yX0_byteAt wsX0_byteAt) := goodIn_app (goodIn_of _ (by decide +kernel)) ggX0_isRange_X0_byteAt
theorem dX0_isRange_0 : decode cX0_isRange 0 = .ok (.iload_n 3, 1) := by decide +kernel
theorem dX0_isRange_1 : decode cX0_isRange 1 = .ok (.iload_n 2, 1) := by decide +kernel
theorem dX0_isRange_2 : decode cX0_isRange 2 = .ok (.isub, 1) := by decide +kernel
theorem dX0_isRange_3 : decode cX0_isRange 3 = .ok (.aload_n 0, 1) := by decide +kernel
theorem dX0_isRange_4 : decode cX0_isRange 4 = .ok (.getfield 21, 3) := by decide +kernel
theorem dX0_isRange_7 : decode cX0_isRange 7 = .ok (.if_icmp .eq 5, 3) := by decide +kernel
theorem dX0_isRange_10 : decode cX0_isRange 10 = .ok (.iconst 0, 1) := by decide +kernel
theorem dX0_isRange_11 : decode cX0_isRange 11 = .ok (.ireturn, 1) := by decide +kernel
theorem dX0_isRange_12 : decode cX0_isRange 12 = .ok (.iconst 0, 1) := by decide +kernel
theorem dX0_isRange_13 : decode cX0_isRange 13 = .ok (.istore 4, 2) := by decide +kernel
theorem dX0_isRange_15 : decode cX0_isRange 15 = .ok (.iload 4, 2) := by decide +kernel
theorem dX0_isRange_17 : decode cX0_isRange 17 = .ok (.aload_n 0, 1) := by decide +kernel
theorem dX0_isRange_18 : decode cX0_isRange 18 = .ok (.getfield 21, 3) := by decide +kernel
theorem dX0_isRange_21 : decode cX0_isRange 21 = .ok (.if_icmp .ge 28, 3) := by decide +kernel
theorem dX0_isRange_24 : decode cX0_isRange 24 = .ok (.aload_n 0, 1) := by decide +kernel
theorem dX0_isRange_25 : decode cX0_isRange 25 = .ok (.iload 4, 2) := by decide +kernel
theorem dX0_isRange_27 : decode cX0_isRange 27 = .ok (.invokevirtual 33, 3) := by decide +kernel
theorem dX0_isRange_30 : decode cX0_isRange 30 = .ok (.aload_n 1, 1) := by decide +kernel
theorem dX0_isRange_31 : decode cX0_isRange 31 = .ok (.iload_n 2, 1) := by decide +kernel
theorem dX0_isRange_32 : decode cX0_isRange 32 = .ok (.iload 4, 2) := by decide +kernel
theorem dX0_isRange_34 : decode cX0_isRange 34 = .ok (.iadd, 1) := by decide +kernel
theorem dX0_isRange_35 : decode cX0_isRange 35 = .ok (.invokevirtual 33, 3) := by decide +kernel
theorem dX0_isRange_38 : decode cX0_isRange 38 = .ok (.if_icmp .eq 5, 3) := by decide +kernel
theorem dX0_isRange_41 : decode cX0_isRange 41 = .ok (.iconst 0, 1) := by decide +kernel
theorem dX0_isRange_42 : decode cX0_isRange 42 = .ok (.ireturn, 1) := by decide +kernel
theorem dX0_isRange_43 : decode cX0_isRange 43 = .ok (.iinc 4 1, 3) := by decide +kernel
theorem dX0_isRange_46 : decode cX0_isRange 46 = .ok (.goto (-31), 3) := by decide +kernel
theorem dX0_isRange_49 : decode cX0_isRange 49 = .ok (.iconst 1, 1) := by decide +kernel
theorem dX0_isRange_50 : decode cX0_isRange 50 = .ok (.ireturn, 1) := by decide +kernel
set_option maxRecDepth 20000 in
theorem ggX0_wholeWord_X0_byteAt : GoodIn wsX0_wholeWord wsX0_byteAt := goodIn_r _ [7, 1, 8, 17, 18] (by decide +kernel) (by decide +kernel)
set_option maxRecDepth 20000 in
theorem gX0_wholeWord_X0_byteAt : GoodIn wsX0_wholeWord (wsV RX0 33 RX0 yX0_byteAt wsX0_byteAt) := goodIn_app (goodIn_of _ (by decide +kernel)) ggX0_wholeWord_X0_byteAt
set_option maxRecDepth 20000 in
theorem ggX0_wholeWord_X10_isLetter : GoodIn wsX0_wholeWord wsX10_isLetter := goodIn_r _ [11] (by decide +kernel) (by decide +kernel)
set_option maxRecDepth 20000 in
theorem gX0_wholeWord_X10_isLetter_n37 : GoodIn wsX0_wholeWord (wsX10_isLetter) := ggX0_wholeWord_X10_isLetter
set_option maxRecDepth 20000 in
theorem ggX0_wholeWord_X10_withLetter : GoodIn wsX0_wholeWord wsX10_withLetter := goodIn_r _ [13, 14, 15, 16] (by decide +kernel) (by decide +kernel)
set_option maxRecDepth 20000 in
theorem gX0_wholeWord_X10_withLetter_n41 : GoodIn wsX0_wholeWord (wsX10_withLetter) := ggX0_wholeWord_X10_withLetter
theorem dX0_wholeWord_0 : decode cX0_wholeWord 0 = .ok (.lconst 0, 1) := by decide +kernel
theorem dX0_wholeWord_1 : decode cX0_wholeWord 1 = .ok (.lstore_n 1, 1) := by decide +kernel
theorem dX0_wholeWord_2 : decode cX0_wholeWord 2 = .ok (.iconst 0, 1) := by decide +kernel
theorem dX0_wholeWord_3 : decode cX0_wholeWord 3 = .ok (.istore_n 3, 1) := by decide +kernel
theorem dX0_wholeWord_4 : decode cX0_wholeWord 4 = .ok (.iload_n 3, 1) := by decide +kernel
theorem dX0_wholeWord_5 : decode cX0_wholeWord 5 = .ok (.aload_n 0, 1) := by decide +kernel
theorem dX0_wholeWord_6 : decode cX0_wholeWord 6 = .ok (.getfield 21, 3) := by decide +kernel
theorem dX0_wholeWord_9 : decode cX0_wholeWord 9 = .ok (.if_icmp .ge 33, 3) := by decide +kernel
theorem dX0_wholeWord_12 : decode cX0_wholeWord 12 = .ok (.aload_n 0, 1) := by decide +kernel
theorem dX0_wholeWord_13 : decode cX0_wholeWord 13 = .ok (.iload_n 3, 1) := by decide +kernel
theorem dX0_wholeWord_14 : decode cX0_wholeWord 14 = .ok (.invokevirtual 33, 3) := by decide +kernel
theorem dX0_wholeWord_17 : decode cX0_wholeWord 17 = .ok (.istore 4, 2) := by decide +kernel
theorem dX0_wholeWord_19 : decode cX0_wholeWord 19 = .ok (.iload 4, 2) := by decide +kernel
theorem dX0_wholeWord_21 : decode cX0_wholeWord 21 = .ok (.invokestatic 37, 3) := by decide +kernel
theorem dX0_wholeWord_24 : decode cX0_wholeWord 24 = .ok (.ifCond .ne 5, 3) := by decide +kernel
theorem dX0_wholeWord_27 : decode cX0_wholeWord 27 = .ok (.lconst 0, 1) := by decide +kernel
theorem dX0_wholeWord_28 : decode cX0_wholeWord 28 = .ok (.lreturn, 1) := by decide +kernel
theorem dX0_wholeWord_29 : decode cX0_wholeWord 29 = .ok (.lload_n 1, 1) := by decide +kernel
theorem dX0_wholeWord_30 : decode cX0_wholeWord 30 = .ok (.iload 4, 2) := by decide +kernel
theorem dX0_wholeWord_32 : decode cX0_wholeWord 32 = .ok (.invokestatic 41, 3) := by decide +kernel
theorem dX0_wholeWord_35 : decode cX0_wholeWord 35 = .ok (.lstore_n 1, 1) := by decide +kernel
theorem dX0_wholeWord_36 : decode cX0_wholeWord 36 = .ok (.iinc 3 1, 3) := by decide +kernel
theorem dX0_wholeWord_39 : decode cX0_wholeWord 39 = .ok (.goto (-35), 3) := by decide +kernel
theorem dX0_wholeWord_42 : decode cX0_wholeWord 42 = .ok (.lload_n 1, 1) := by decide +kernel
theorem dX0_wholeWord_43 : decode cX0_wholeWord 43 = .ok (.ldc2_w 45, 3) := by decide +kernel
theorem dX0_wholeWord_46 : decode cX0_wholeWord 46 = .ok (.lcmp, 1) := by decide +kernel
theorem dX0_wholeWord_47 : decode cX0_wholeWord 47 = .ok (.ifCond .ne 7, 3) := by decide +kernel
theorem dX0_wholeWord_50 : decode cX0_wholeWord 50 = .ok (.lconst 0, 1) := by decide +kernel
theorem dX0_wholeWord_51 : decode cX0_wholeWord 51 = .ok (.goto 4, 3) := by decide +kernel
theorem dX0_wholeWord_54 : decode cX0_wholeWord 54 = .ok (.lload_n 1, 1) := by decide +kernel
theorem dX0_wholeWord_55 : decode cX0_wholeWord 55 = .ok (.lreturn, 1) := by decide +kernel
set_option maxRecDepth 20000 in
theorem ggX0_hasWord_X0_byteAt : GoodIn wsX0_hasWord wsX0_byteAt := goodIn_r _ [6, 1, 7, 16, 17] (by decide +kernel) (by decide +kernel)
set_option maxRecDepth 20000 in
theorem gX0_hasWord_X0_byteAt : GoodIn wsX0_hasWord (wsV RX0 33 RX0 yX0_byteAt wsX0_byteAt) := goodIn_app (goodIn_of _ (by decide +kernel)) ggX0_hasWord_X0_byteAt
set_option maxRecDepth 20000 in
theorem ggX0_hasWord_X10_isLetter : GoodIn wsX0_hasWord wsX10_isLetter := goodIn_r _ [10] (by decide +kernel) (by decide +kernel)
set_option maxRecDepth 20000 in
theorem gX0_hasWord_X10_isLetter_n37 : GoodIn wsX0_hasWord (wsX10_isLetter) := ggX0_hasWord_X10_isLetter
set_option maxRecDepth 20000 in
theorem ggX0_hasWord_X10_withLetter : GoodIn wsX0_hasWord wsX10_withLetter := goodIn_r _ [12, 13, 14, 15] (by decide +kernel) (by decide +kernel)
set_option maxRecDepth 20000 in
theorem gX0_hasWord_X10_withLetter_n41 : GoodIn wsX0_hasWord (wsX10_withLetter) := ggX0_hasWord_X10_withLetter
theorem dX0_hasWord_0 : decode cX0_hasWord 0 = .ok (.lconst 0, 1) := by decide +kernel
theorem dX0_hasWord_1 : decode cX0_hasWord 1 = .ok (.lstore_n 3, 1) := by decide +kernel
theorem dX0_hasWord_2 : decode cX0_hasWord 2 = .ok (.iconst 0, 1) := by decide +kernel
theorem dX0_hasWord_3 : decode cX0_hasWord 3 = .ok (.istore 5, 2) := by decide +kernel
theorem dX0_hasWord_5 : decode cX0_hasWord 5 = .ok (.iload 5, 2) := by decide +kernel
theorem dX0_hasWord_7 : decode cX0_hasWord 7 = .ok (.aload_n 0, 1) := by decide +kernel
theorem dX0_hasWord_8 : decode cX0_hasWord 8 = .ok (.getfield 21, 3) := by decide +kernel
theorem dX0_hasWord_11 : decode cX0_hasWord 11 = .ok (.if_icmp .ge 45, 3) := by decide +kernel
theorem dX0_hasWord_14 : decode cX0_hasWord 14 = .ok (.aload_n 0, 1) := by decide +kernel
theorem dX0_hasWord_15 : decode cX0_hasWord 15 = .ok (.iload 5, 2) := by decide +kernel
theorem dX0_hasWord_17 : decode cX0_hasWord 17 = .ok (.invokevirtual 33, 3) := by decide +kernel
theorem dX0_hasWord_20 : decode cX0_hasWord 20 = .ok (.istore 6, 2) := by decide +kernel
theorem dX0_hasWord_22 : decode cX0_hasWord 22 = .ok (.iload 6, 2) := by decide +kernel
theorem dX0_hasWord_24 : decode cX0_hasWord 24 = .ok (.invokestatic 37, 3) := by decide +kernel
theorem dX0_hasWord_27 : decode cX0_hasWord 27 = .ok (.ifCond .eq 13, 3) := by decide +kernel
theorem dX0_hasWord_30 : decode cX0_hasWord 30 = .ok (.lload_n 3, 1) := by decide +kernel
theorem dX0_hasWord_31 : decode cX0_hasWord 31 = .ok (.iload 6, 2) := by decide +kernel
theorem dX0_hasWord_33 : decode cX0_hasWord 33 = .ok (.invokestatic 41, 3) := by decide +kernel
theorem dX0_hasWord_36 : decode cX0_hasWord 36 = .ok (.lstore_n 3, 1) := by decide +kernel
theorem dX0_hasWord_37 : decode cX0_hasWord 37 = .ok (.goto 13, 3) := by decide +kernel
theorem dX0_hasWord_40 : decode cX0_hasWord 40 = .ok (.lload_n 3, 1) := by decide +kernel
theorem dX0_hasWord_41 : decode cX0_hasWord 41 = .ok (.lload_n 1, 1) := by decide +kernel
theorem dX0_hasWord_42 : decode cX0_hasWord 42 = .ok (.lcmp, 1) := by decide +kernel
theorem dX0_hasWord_43 : decode cX0_hasWord 43 = .ok (.ifCond .ne 5, 3) := by decide +kernel
theorem dX0_hasWord_46 : decode cX0_hasWord 46 = .ok (.iconst 1, 1) := by decide +kernel
theorem dX0_hasWord_47 : decode cX0_hasWord 47 = .ok (.ireturn, 1) := by decide +kernel
theorem dX0_hasWord_48 : decode cX0_hasWord 48 = .ok (.lconst 0, 1) := by decide +kernel
theorem dX0_hasWord_49 : decode cX0_hasWord 49 = .ok (.lstore_n 3, 1) := by decide +kernel
theorem dX0_hasWord_50 : decode cX0_hasWord 50 = .ok (.iinc 5 1, 3) := by decide +kernel
theorem dX0_hasWord_53 : decode cX0_hasWord 53 = .ok (.goto (-48), 3) := by decide +kernel
theorem dX0_hasWord_56 : decode cX0_hasWord 56 = .ok (.lload_n 3, 1) := by decide +kernel
theorem dX0_hasWord_57 : decode cX0_hasWord 57 = .ok (.lload_n 1, 1) := by decide +kernel
theorem dX0_hasWord_58 : decode cX0_hasWord 58 = .ok (.lcmp, 1) := by decide +kernel
theorem dX0_hasWord_59 : decode cX0_hasWord 59 = .ok (.ifCond .ne 7, 3) := by decide +kernel
theorem dX0_hasWord_62 : decode cX0_hasWord 62 = .ok (.iconst 1, 1) := by decide +kernel
theorem dX0_hasWord_63 : decode cX0_hasWord 63 = .ok (.goto 4, 3) := by decide +kernel
theorem dX0_hasWord_66 : decode cX0_hasWord 66 = .ok (.iconst 0, 1) := by decide +kernel
theorem dX0_hasWord_67 : decode cX0_hasWord 67 = .ok (.ireturn, 1) := by decide +kernel
set_option maxRecDepth 20000 in
theorem ggX0_hash_X0_byteAt : GoodIn wsX0_hash wsX0_byteAt := goodIn_r _ [8, 2, 9, 10, 11] (by decide +kernel) (by decide +kernel)
set_option maxRecDepth 20000 in
theorem gX0_hash_X0_byteAt : GoodIn wsX0_hash (wsV RX0 33 RX0 yX0_byteAt wsX0_byteAt) := goodIn_app (goodIn_of _ (by decide +kernel)) ggX0_hash_X0_byteAt
theorem dX0_hash_0 : decode cX0_hash 0 = .ok (.ldc2_w 47, 3) := by decide +kernel
theorem dX0_hash_3 : decode cX0_hash 3 = .ok (.lstore_n 1, 1) := by decide +kernel
theorem dX0_hash_4 : decode cX0_hash 4 = .ok (.iconst 0, 1) := by decide +kernel
theorem dX0_hash_5 : decode cX0_hash 5 = .ok (.istore_n 3, 1) := by decide +kernel
theorem dX0_hash_6 : decode cX0_hash 6 = .ok (.iload_n 3, 1) := by decide +kernel
theorem dX0_hash_7 : decode cX0_hash 7 = .ok (.aload_n 0, 1) := by decide +kernel
theorem dX0_hash_8 : decode cX0_hash 8 = .ok (.getfield 21, 3) := by decide +kernel
theorem dX0_hash_11 : decode cX0_hash 11 = .ok (.if_icmp .ge 22, 3) := by decide +kernel
theorem dX0_hash_14 : decode cX0_hash 14 = .ok (.lload_n 1, 1) := by decide +kernel
theorem dX0_hash_15 : decode cX0_hash 15 = .ok (.aload_n 0, 1) := by decide +kernel
theorem dX0_hash_16 : decode cX0_hash 16 = .ok (.iload_n 3, 1) := by decide +kernel
theorem dX0_hash_17 : decode cX0_hash 17 = .ok (.invokevirtual 33, 3) := by decide +kernel
theorem dX0_hash_20 : decode cX0_hash 20 = .ok (.i2l, 1) := by decide +kernel
theorem dX0_hash_21 : decode cX0_hash 21 = .ok (.lxor, 1) := by decide +kernel
theorem dX0_hash_22 : decode cX0_hash 22 = .ok (.ldc2_w 49, 3) := by decide +kernel
theorem dX0_hash_25 : decode cX0_hash 25 = .ok (.lmul, 1) := by decide +kernel
theorem dX0_hash_26 : decode cX0_hash 26 = .ok (.lstore_n 1, 1) := by decide +kernel
theorem dX0_hash_27 : decode cX0_hash 27 = .ok (.iinc 3 1, 3) := by decide +kernel
theorem dX0_hash_30 : decode cX0_hash 30 = .ok (.goto (-24), 3) := by decide +kernel
theorem dX0_hash_33 : decode cX0_hash 33 = .ok (.lload_n 1, 1) := by decide +kernel
theorem dX0_hash_34 : decode cX0_hash 34 = .ok (.lreturn, 1) := by decide +kernel
theorem dX1_init_0 : decode cX1_init 0 = .ok (.aload_n 0, 1) := by decide +kernel
theorem dX1_init_1 : decode cX1_init 1 = .ok (.invokespecial 3, 3) := by decide +kernel
theorem dX1_init_4 : decode cX1_init 4 = .ok (.aload_n 0, 1) := by decide +kernel
theorem dX1_init_5 : decode cX1_init 5 = .ok (.aload_n 1, 1) := by decide +kernel
theorem dX1_init_6 : decode cX1_init 6 = .ok (.putfield 9, 3) := by decide +kernel
theorem dX1_init_9 : decode cX1_init 9 = .ok (.aload_n 0, 1) := by decide +kernel
theorem dX1_init_10 : decode cX1_init 10 = .ok (.iconst 4, 1) := by decide +kernel
theorem dX1_init_11 : decode cX1_init 11 = .ok (.newarray .int, 2) := by decide +kernel
theorem dX1_init_13 : decode cX1_init 13 = .ok (.putfield 15, 3) := by decide +kernel
theorem dX1_init_16 : decode cX1_init 16 = .ok (.aload_n 0, 1) := by decide +kernel
theorem dX1_init_17 : decode cX1_init 17 = .ok (.iconst 4, 1) := by decide +kernel
theorem dX1_init_18 : decode cX1_init 18 = .ok (.newarray .int, 2) := by decide +kernel
theorem dX1_init_20 : decode cX1_init 20 = .ok (.putfield 19, 3) := by decide +kernel
theorem dX1_init_23 : decode cX1_init 23 = .ok (.return_, 1) := by decide +kernel
set_option maxRecDepth 20000 in
theorem ggX1_cut_X0_byteAt : GoodIn wsX1_cut wsX0_byteAt := goodIn_r _ [9, 10, 11, 19, 20] (by decide +kernel) (by decide +kernel)
set_option maxRecDepth 20000 in
theorem gX1_cut_X0_byteAt : GoodIn wsX1_cut (wsV RX1 31 RX0 yX0_byteAt wsX0_byteAt) := goodIn_app (goodIn_of _ (by decide +kernel)) ggX1_cut_X0_byteAt
set_option maxRecDepth 20000 in
theorem ggX1_cut_X10_put : GoodIn wsX1_cut wsX10_put := goodIn_r _ [14] (by decide +kernel) (by decide +kernel)
set_option maxRecDepth 20000 in
theorem gX1_cut_X10_put_n35 : GoodIn wsX1_cut (wsX10_put) := ggX1_cut_X10_put
theorem dX1_cut_0 : decode cX1_cut 0 = .ok (.aload_n 0, 1) := by decide +kernel
theorem dX1_cut_1 : decode cX1_cut 1 = .ok (.iconst 0, 1) := by decide +kernel
theorem dX1_cut_2 : decode cX1_cut 2 = .ok (.putfield 22, 3) := by decide +kernel
theorem dX1_cut_5 : decode cX1_cut 5 = .ok (.iconst 0, 1) := by decide +kernel
theorem dX1_cut_6 : decode cX1_cut 6 = .ok (.istore_n 1, 1) := by decide +kernel
theorem dX1_cut_7 : decode cX1_cut 7 = .ok (.iconst 0, 1) := by decide +kernel
theorem dX1_cut_8 : decode cX1_cut 8 = .ok (.istore_n 2, 1) := by decide +kernel
theorem dX1_cut_9 : decode cX1_cut 9 = .ok (.iload_n 2, 1) := by decide +kernel
theorem dX1_cut_10 : decode cX1_cut 10 = .ok (.aload_n 0, 1) := by decide +kernel
theorem dX1_cut_11 : decode cX1_cut 11 = .ok (.getfield 9, 3) := by decide +kernel
theorem dX1_cut_14 : decode cX1_cut 14 = .ok (.getfield 26, 3) := by decide +kernel
theorem dX1_cut_17 : decode cX1_cut 17 = .ok (.if_icmp .gt 97, 3) := by decide +kernel
theorem dX1_cut_20 : decode cX1_cut 20 = .ok (.iload_n 2, 1) := by decide +kernel
theorem dX1_cut_21 : decode cX1_cut 21 = .ok (.aload_n 0, 1) := by decide +kernel
theorem dX1_cut_22 : decode cX1_cut 22 = .ok (.getfield 9, 3) := by decide +kernel
theorem dX1_cut_25 : decode cX1_cut 25 = .ok (.getfield 26, 3) := by decide +kernel
theorem dX1_cut_28 : decode cX1_cut 28 = .ok (.if_icmp .eq 16, 3) := by decide +kernel
theorem dX1_cut_31 : decode cX1_cut 31 = .ok (.aload_n 0, 1) := by decide +kernel
theorem dX1_cut_32 : decode cX1_cut 32 = .ok (.getfield 9, 3) := by decide +kernel
theorem dX1_cut_35 : decode cX1_cut 35 = .ok (.iload_n 2, 1) := by decide +kernel
theorem dX1_cut_36 : decode cX1_cut 36 = .ok (.invokevirtual 31, 3) := by decide +kernel
theorem dX1_cut_39 : decode cX1_cut 39 = .ok (.bipush 124, 2) := by decide +kernel
theorem dX1_cut_41 : decode cX1_cut 41 = .ok (.if_icmp .ne 67, 3) := by decide +kernel
theorem dX1_cut_44 : decode cX1_cut 44 = .ok (.aload_n 0, 1) := by decide +kernel
theorem dX1_cut_45 : decode cX1_cut 45 = .ok (.getfield 22, 3) := by decide +kernel
theorem dX1_cut_48 : decode cX1_cut 48 = .ok (.iconst 4, 1) := by decide +kernel
theorem dX1_cut_49 : decode cX1_cut 49 = .ok (.if_icmp .ge 19, 3) := by decide +kernel
theorem dX1_cut_52 : decode cX1_cut 52 = .ok (.iload_n 2, 1) := by decide +kernel
theorem dX1_cut_53 : decode cX1_cut 53 = .ok (.iload_n 1, 1) := by decide +kernel
theorem dX1_cut_54 : decode cX1_cut 54 = .ok (.isub, 1) := by decide +kernel
theorem dX1_cut_55 : decode cX1_cut 55 = .ok (.iconst 1, 1) := by decide +kernel
theorem dX1_cut_56 : decode cX1_cut 56 = .ok (.if_icmp .lt 12, 3) := by decide +kernel
theorem dX1_cut_59 : decode cX1_cut 59 = .ok (.iload_n 2, 1) := by decide +kernel
theorem dX1_cut_60 : decode cX1_cut 60 = .ok (.iload_n 1, 1) := by decide +kernel
theorem dX1_cut_61 : decode cX1_cut 61 = .ok (.isub, 1) := by decide +kernel
theorem dX1_cut_62 : decode cX1_cut 62 = .ok (.sipush 200, 3) := by decide +kernel
theorem dX1_cut_65 : decode cX1_cut 65 = .ok (.if_icmp .le 5, 3) := by decide +kernel
theorem dX1_cut_68 : decode cX1_cut 68 = .ok (.iconst 0, 1) := by decide +kernel
theorem dX1_cut_69 : decode cX1_cut 69 = .ok (.ireturn, 1) := by decide +kernel
theorem dX1_cut_70 : decode cX1_cut 70 = .ok (.aload_n 0, 1) := by decide +kernel
theorem dX1_cut_71 : decode cX1_cut 71 = .ok (.getfield 15, 3) := by decide +kernel
theorem dX1_cut_74 : decode cX1_cut 74 = .ok (.aload_n 0, 1) := by decide +kernel
theorem dX1_cut_75 : decode cX1_cut 75 = .ok (.getfield 22, 3) := by decide +kernel
theorem dX1_cut_78 : decode cX1_cut 78 = .ok (.iload_n 1, 1) := by decide +kernel
theorem dX1_cut_79 : decode cX1_cut 79 = .ok (.invokestatic 35, 3) := by decide +kernel
theorem dX1_cut_82 : decode cX1_cut 82 = .ok (.aload_n 0, 1) := by decide +kernel
theorem dX1_cut_83 : decode cX1_cut 83 = .ok (.getfield 19, 3) := by decide +kernel
theorem dX1_cut_86 : decode cX1_cut 86 = .ok (.aload_n 0, 1) := by decide +kernel
theorem dX1_cut_87 : decode cX1_cut 87 = .ok (.getfield 22, 3) := by decide +kernel
theorem dX1_cut_90 : decode cX1_cut 90 = .ok (.iload_n 2, 1) := by decide +kernel
theorem dX1_cut_91 : decode cX1_cut 91 = .ok (.invokestatic 35, 3) := by decide +kernel
theorem dX1_cut_94 : decode cX1_cut 94 = .ok (.aload_n 0, 1) := by decide +kernel
theorem dX1_cut_95 : decode cX1_cut 95 = .ok (.dup, 1) := by decide +kernel
theorem dX1_cut_96 : decode cX1_cut 96 = .ok (.getfield 22, 3) := by decide +kernel
theorem dX1_cut_99 : decode cX1_cut 99 = .ok (.iconst 1, 1) := by decide +kernel
theorem dX1_cut_100 : decode cX1_cut 100 = .ok (.iadd, 1) := by decide +kernel
theorem dX1_cut_101 : decode cX1_cut 101 = .ok (.putfield 22, 3) := by decide +kernel
theorem dX1_cut_104 : decode cX1_cut 104 = .ok (.iload_n 2, 1) := by decide +kernel
theorem dX1_cut_105 : decode cX1_cut 105 = .ok (.iconst 1, 1) := by decide +kernel
theorem dX1_cut_106 : decode cX1_cut 106 = .ok (.iadd, 1) := by decide +kernel
theorem dX1_cut_107 : decode cX1_cut 107 = .ok (.istore_n 1, 1) := by decide +kernel
theorem dX1_cut_108 : decode cX1_cut 108 = .ok (.iinc 2 1, 3) := by decide +kernel
theorem dX1_cut_111 : decode cX1_cut 111 = .ok (.goto (-102), 3) := by decide +kernel
theorem dX1_cut_114 : decode cX1_cut 114 = .ok (.iconst 1, 1) := by decide +kernel
theorem dX1_cut_115 : decode cX1_cut 115 = .ok (.ireturn, 1) := by decide +kernel
set_option maxRecDepth 20000 in
theorem ggX1_sizeAt_X10_at : GoodIn wsX1_sizeAt wsX10_at := goodIn_r _ [5] (by decide +kernel) (by decide +kernel)
set_option maxRecDepth 20000 in
theorem gX1_sizeAt_X10_at_n39 : GoodIn wsX1_sizeAt (wsX10_at) := ggX1_sizeAt_X10_at
theorem dX1_sizeAt_0 : decode cX1_sizeAt 0 = .ok (.aload_n 0, 1) := by decide +kernel
theorem dX1_sizeAt_1 : decode cX1_sizeAt 1 = .ok (.getfield 19, 3) := by decide +kernel
theorem dX1_sizeAt_4 : decode cX1_sizeAt 4 = .ok (.iload_n 1, 1) := by decide +kernel
theorem dX1_sizeAt_5 : decode cX1_sizeAt 5 = .ok (.invokestatic 39, 3) := by decide +kernel
theorem dX1_sizeAt_8 : decode cX1_sizeAt 8 = .ok (.aload_n 0, 1) := by decide +kernel
theorem dX1_sizeAt_9 : decode cX1_sizeAt 9 = .ok (.getfield 15, 3) := by decide +kernel
theorem dX1_sizeAt_12 : decode cX1_sizeAt 12 = .ok (.iload_n 1, 1) := by decide +kernel
theorem dX1_sizeAt_13 : decode cX1_sizeAt 13 = .ok (.invokestatic 39, 3) := by decide +kernel
theorem dX1_sizeAt_16 : decode cX1_sizeAt 16 = .ok (.isub, 1) := by decide +kernel
theorem dX1_sizeAt_17 : decode cX1_sizeAt 17 = .ok (.ireturn, 1) := by decide +kernel
set_option maxRecDepth 20000 in
theorem ggX1_sizeOfAll_X1_sizeAt : GoodIn wsX1_sizeOfAll wsX1_sizeAt := goodIn_r _ [6, 7, 8, 9, 10, 11, 12, 13, 14, 15] (by decide +kernel) (by decide +kernel)
set_option maxRecDepth 20000 in
theorem gX1_sizeOfAll_X1_sizeAt : GoodIn wsX1_sizeOfAll (wsV RX1 43 RX1 yX1_sizeAt wsX1_sizeAt) := goodIn_app (goodIn_of _ (by decide +kernel)) ggX1_sizeOfAll_X1_sizeAt
theorem dX1_sizeOfAll_0 : decode cX1_sizeOfAll 0 = .ok (.iconst 0, 1) := by decide +kernel
theorem dX1_sizeOfAll_1 : decode cX1_sizeOfAll 1 = .ok (.istore_n 1, 1) := by decide +kernel
theorem dX1_sizeOfAll_2 : decode cX1_sizeOfAll 2 = .ok (.iconst 0, 1) := by decide +kernel
theorem dX1_sizeOfAll_3 : decode cX1_sizeOfAll 3 = .ok (.istore_n 2, 1) := by decide +kernel
theorem dX1_sizeOfAll_4 : decode cX1_sizeOfAll 4 = .ok (.iload_n 2, 1) := by decide +kernel
theorem dX1_sizeOfAll_5 : decode cX1_sizeOfAll 5 = .ok (.aload_n 0, 1) := by decide +kernel
theorem dX1_sizeOfAll_6 : decode cX1_sizeOfAll 6 = .ok (.getfield 22, 3) := by decide +kernel
theorem dX1_sizeOfAll_9 : decode cX1_sizeOfAll 9 = .ok (.if_icmp .ge 17, 3) := by decide +kernel
theorem dX1_sizeOfAll_12 : decode cX1_sizeOfAll 12 = .ok (.iload_n 1, 1) := by decide +kernel
theorem dX1_sizeOfAll_13 : decode cX1_sizeOfAll 13 = .ok (.aload_n 0, 1) := by decide +kernel
theorem dX1_sizeOfAll_14 : decode cX1_sizeOfAll 14 = .ok (.iload_n 2, 1) := by decide +kernel
theorem dX1_sizeOfAll_15 : decode cX1_sizeOfAll 15 = .ok (.invokevirtual 43, 3) := by decide +kernel
theorem dX1_sizeOfAll_18 : decode cX1_sizeOfAll 18 = .ok (.iadd, 1) := by decide +kernel
theorem dX1_sizeOfAll_19 : decode cX1_sizeOfAll 19 = .ok (.istore_n 1, 1) := by decide +kernel
theorem dX1_sizeOfAll_20 : decode cX1_sizeOfAll 20 = .ok (.iinc 2 1, 3) := by decide +kernel
theorem dX1_sizeOfAll_23 : decode cX1_sizeOfAll 23 = .ok (.goto (-19), 3) := by decide +kernel
theorem dX1_sizeOfAll_26 : decode cX1_sizeOfAll 26 = .ok (.iload_n 1, 1) := by decide +kernel
theorem dX1_sizeOfAll_27 : decode cX1_sizeOfAll 27 = .ok (.ireturn, 1) := by decide +kernel
set_option maxRecDepth 20000 in
theorem ggX1_isEqualTo_X10_at : GoodIn wsX1_isEqualTo wsX10_at := goodIn_r _ [6] (by decide +kernel) (by decide +kernel)
set_option maxRecDepth 20000 in
theorem gX1_isEqualTo_X10_at_n39 : GoodIn wsX1_isEqualTo (wsX10_at) := ggX1_isEqualTo_X10_at
set_option maxRecDepth 20000 in
theorem ggX1_isEqualTo_X0_isRange : GoodIn wsX1_isEqualTo wsX0_isRange := goodIn_r _ [11, 12, 13, 14, 15, 10, 16, 17, 22, 23] (by decide +kernel) (by decide +kernel)
set_option maxRecDepth 20000 in
theorem gX1_isEqualTo_X0_isRange : GoodIn wsX1_isEqualTo (wsV RX1 46 RX0 yX0_isRange wsX0_isRange) := goodIn_app (goodIn_of _ (by decide +kernel)) ggX1_isEqualTo_X0_isRange
theorem dX1_isEqualTo_0 : decode cX1_isEqualTo 0 = .ok (.aload_n 1, 1) := by decide +kernel
theorem dX1_isEqualTo_1 : decode cX1_isEqualTo 1 = .ok (.aload_n 0, 1) := by decide +kernel
theorem dX1_isEqualTo_2 : decode cX1_isEqualTo 2 = .ok (.getfield 9, 3) := by decide +kernel
theorem dX1_isEqualTo_5 : decode cX1_isEqualTo 5 = .ok (.aload_n 0, 1) := by decide +kernel
theorem dX1_isEqualTo_6 : decode cX1_isEqualTo 6 = .ok (.getfield 15, 3) := by decide +kernel
theorem dX1_isEqualTo_9 : decode cX1_isEqualTo 9 = .ok (.iload_n 2, 1) := by decide +kernel
theorem dX1_isEqualTo_10 : decode cX1_isEqualTo 10 = .ok (.invokestatic 39, 3) := by decide +kernel
theorem dX1_isEqualTo_13 : decode cX1_isEqualTo 13 = .ok (.aload_n 0, 1) := by decide +kernel
theorem dX1_isEqualTo_14 : decode cX1_isEqualTo 14 = .ok (.getfield 19, 3) := by decide +kernel
theorem dX1_isEqualTo_17 : decode cX1_isEqualTo 17 = .ok (.iload_n 2, 1) := by decide +kernel
theorem dX1_isEqualTo_18 : decode cX1_isEqualTo 18 = .ok (.invokestatic 39, 3) := by decide +kernel
theorem dX1_isEqualTo_21 : decode cX1_isEqualTo 21 = .ok (.invokevirtual 46, 3) := by decide +kernel
theorem dX1_isEqualTo_24 : decode cX1_isEqualTo 24 = .ok (.ireturn, 1) := by decide +kernel
set_option maxRecDepth 20000 in
theorem ggX1_isFirstOfItsKind_X1_areEqual : GoodIn wsX1_isFirstOfItsKind wsX1_areEqual := goodIn_r _ [5, 6, 7, 8, 9, 10, 4, 11, 12, 13, 14, 15, 16, 17, 18, 19, 20, 21, 22, 23, 24, 25, 26, 27, 28] (by decide +kernel) (by decide +kernel)
set_option maxRecDepth 20000 in
theorem gX1_isFirstOfItsKind_X1_areEqual : GoodIn wsX1_isFirstOfItsKind (wsV RX1 50 RX1 yX1_areEqual wsX1_areEqual) := goodIn_app (goodIn_of _ (by decide +kernel)) ggX1_isFirstOfItsKind_X1_areEqual
theorem dX1_isFirstOfItsKind_0 : decode cX1_isFirstOfItsKind 0 = .ok (.iconst 0, 1) := by decide +kernel
theorem dX1_isFirstOfItsKind_1 : decode cX1_isFirstOfItsKind 1 = .ok (.istore_n 2, 1) := by decide +kernel
theorem dX1_isFirstOfItsKind_2 : decode cX1_isFirstOfItsKind 2 = .ok (.iload_n 2, 1) := by decide +kernel
theorem dX1_isFirstOfItsKind_3 : decode cX1_isFirstOfItsKind 3 = .ok (.iload_n 1, 1) := by decide +kernel
theorem dX1_isFirstOfItsKind_4 : decode cX1_isFirstOfItsKind 4 = .ok (.if_icmp .ge 20, 3) := by decide +kernel
theorem dX1_isFirstOfItsKind_7 : decode cX1_isFirstOfItsKind 7 = .ok (.aload_n 0, 1) := by decide +kernel
theorem dX1_isFirstOfItsKind_8 : decode cX1_isFirstOfItsKind 8 = .ok (.iload_n 2, 1) := by decide +kernel
theorem dX1_isFirstOfItsKind_9 : decode cX1_isFirstOfItsKind 9 = .ok (.iload_n 1, 1) := by decide +kernel
theorem dX1_isFirstOfItsKind_10 : decode cX1_isFirstOfItsKind 10 = .ok (.invokevirtual 50, 3) := by decide +kernel
theorem dX1_isFirstOfItsKind_13 : decode cX1_isFirstOfItsKind 13 = .ok (.ifCond .eq 5, 3) := by decide +kernel
theorem dX1_isFirstOfItsKind_16 : decode cX1_isFirstOfItsKind 16 = .ok (.iconst 0, 1) := by decide +kernel
theorem dX1_isFirstOfItsKind_17 : decode cX1_isFirstOfItsKind 17 = .ok (.ireturn, 1) := by decide +kernel
theorem dX1_isFirstOfItsKind_18 : decode cX1_isFirstOfItsKind 18 = .ok (.iinc 2 1, 3) := by decide +kernel
theorem dX1_isFirstOfItsKind_21 : decode cX1_isFirstOfItsKind 21 = .ok (.goto (-19), 3) := by decide +kernel
theorem dX1_isFirstOfItsKind_24 : decode cX1_isFirstOfItsKind 24 = .ok (.iconst 1, 1) := by decide +kernel
theorem dX1_isFirstOfItsKind_25 : decode cX1_isFirstOfItsKind 25 = .ok (.ireturn, 1) := by decide +kernel
set_option maxRecDepth 20000 in
theorem ggX1_areEqual_X1_sizeAt : GoodIn wsX1_areEqual wsX1_sizeAt := goodIn_r _ [7, 8, 2, 9, 10, 11, 19, 20, 21, 22] (by decide +kernel) (by decide +kernel)
set_option maxRecDepth 20000 in
theorem gX1_areEqual_X1_sizeAt : GoodIn wsX1_areEqual (wsV RX1 43 RX1 yX1_sizeAt wsX1_sizeAt) := goodIn_app (goodIn_of _ (by decide +kernel)) ggX1_areEqual_X1_sizeAt
set_option maxRecDepth 20000 in
theorem ggX1_areEqual_X10_at : GoodIn wsX1_areEqual wsX10_at := goodIn_r _ [11] (by decide +kernel) (by decide +kernel)
set_option maxRecDepth 20000 in
theorem gX1_areEqual_X10_at_n39 : GoodIn wsX1_areEqual (wsX10_at) := ggX1_areEqual_X10_at
set_option maxRecDepth 20000 in
theorem ggX1_areEqual_X0_byteAt : GoodIn wsX1_areEqual wsX0_byteAt := goodIn_r _ [16, 17, 18, 23, 24] (by decide +kernel) (by decide +kernel)
set_option maxRecDepth 20000 in
theorem gX1_areEqual_X0_byteAt : GoodIn wsX1_areEqual (wsV RX1 31 RX0 yX0_byteAt wsX0_byteAt) := goodIn_app (goodIn_of _ (by decide +kernel)) ggX1_areEqual_X0_byteAt
theorem dX1_areEqual_0 : decode cX1_areEqual 0 = .ok (.aload_n 0, 1) := by decide +kernel
theorem dX1_areEqual_1 : decode cX1_areEqual 1 = .ok (.iload_n 1, 1) := by decide +kernel
theorem dX1_areEqual_2 : decode cX1_areEqual 2 = .ok (.invokevirtual 43, 3) := by decide +kernel
theorem dX1_areEqual_5 : decode cX1_areEqual 5 = .ok (.aload_n 0, 1) := by decide +kernel
theorem dX1_areEqual_6 : decode cX1_areEqual 6 = .ok (.iload_n 2, 1) := by decide +kernel
theorem dX1_areEqual_7 : decode cX1_areEqual 7 = .ok (.invokevirtual 43, 3) := by decide +kernel
theorem dX1_areEqual_10 : decode cX1_areEqual 10 = .ok (.if_icmp .eq 5, 3) := by decide +kernel
theorem dX1_areEqual_13 : decode cX1_areEqual 13 = .ok (.iconst 0, 1) := by decide +kernel
theorem dX1_areEqual_14 : decode cX1_areEqual 14 = .ok (.ireturn, 1) := by decide +kernel
theorem dX1_areEqual_15 : decode cX1_areEqual 15 = .ok (.iconst 0, 1) := by decide +kernel
theorem dX1_areEqual_16 : decode cX1_areEqual 16 = .ok (.istore_n 3, 1) := by decide +kernel
theorem dX1_areEqual_17 : decode cX1_areEqual 17 = .ok (.iload_n 3, 1) := by decide +kernel
theorem dX1_areEqual_18 : decode cX1_areEqual 18 = .ok (.aload_n 0, 1) := by decide +kernel
theorem dX1_areEqual_19 : decode cX1_areEqual 19 = .ok (.iload_n 1, 1) := by decide +kernel
theorem dX1_areEqual_20 : decode cX1_areEqual 20 = .ok (.invokevirtual 43, 3) := by decide +kernel
theorem dX1_areEqual_23 : decode cX1_areEqual 23 = .ok (.if_icmp .ge 48, 3) := by decide +kernel
theorem dX1_areEqual_26 : decode cX1_areEqual 26 = .ok (.aload_n 0, 1) := by decide +kernel
theorem dX1_areEqual_27 : decode cX1_areEqual 27 = .ok (.getfield 9, 3) := by decide +kernel
theorem dX1_areEqual_30 : decode cX1_areEqual 30 = .ok (.aload_n 0, 1) := by decide +kernel
theorem dX1_areEqual_31 : decode cX1_areEqual 31 = .ok (.getfield 15, 3) := by decide +kernel
theorem dX1_areEqual_34 : decode cX1_areEqual 34 = .ok (.iload_n 1, 1) := by decide +kernel
theorem dX1_areEqual_35 : decode cX1_areEqual 35 = .ok (.invokestatic 39, 3) := by decide +kernel
theorem dX1_areEqual_38 : decode cX1_areEqual 38 = .ok (.iload_n 3, 1) := by decide +kernel
theorem dX1_areEqual_39 : decode cX1_areEqual 39 = .ok (.iadd, 1) := by decide +kernel
theorem dX1_areEqual_40 : decode cX1_areEqual 40 = .ok (.invokevirtual 31, 3) := by decide +kernel
theorem dX1_areEqual_43 : decode cX1_areEqual 43 = .ok (.aload_n 0, 1) := by decide +kernel
theorem dX1_areEqual_44 : decode cX1_areEqual 44 = .ok (.getfield 9, 3) := by decide +kernel
theorem dX1_areEqual_47 : decode cX1_areEqual 47 = .ok (.aload_n 0, 1) := by decide +kernel
theorem dX1_areEqual_48 : decode cX1_areEqual 48 = .ok (.getfield 15, 3) := by decide +kernel
theorem dX1_areEqual_51 : decode cX1_areEqual 51 = .ok (.iload_n 2, 1) := by decide +kernel
theorem dX1_areEqual_52 : decode cX1_areEqual 52 = .ok (.invokestatic 39, 3) := by decide +kernel
theorem dX1_areEqual_55 : decode cX1_areEqual 55 = .ok (.iload_n 3, 1) := by decide +kernel
theorem dX1_areEqual_56 : decode cX1_areEqual 56 = .ok (.iadd, 1) := by decide +kernel
theorem dX1_areEqual_57 : decode cX1_areEqual 57 = .ok (.invokevirtual 31, 3) := by decide +kernel
theorem dX1_areEqual_60 : decode cX1_areEqual 60 = .ok (.if_icmp .eq 5, 3) := by decide +kernel
theorem dX1_areEqual_63 : decode cX1_areEqual 63 = .ok (.iconst 0, 1) := by decide +kernel
theorem dX1_areEqual_64 : decode cX1_areEqual 64 = .ok (.ireturn, 1) := by decide +kernel
theorem dX1_areEqual_65 : decode cX1_areEqual 65 = .ok (.iinc 3 1, 3) := by decide +kernel
theorem dX1_areEqual_68 : decode cX1_areEqual 68 = .ok (.goto (-51), 3) := by decide +kernel
theorem dX1_areEqual_71 : decode cX1_areEqual 71 = .ok (.iconst 1, 1) := by decide +kernel
theorem dX1_areEqual_72 : decode cX1_areEqual 72 = .ok (.ireturn, 1) := by decide +kernel
set_option maxRecDepth 20000 in
theorem ggX1_copyOfPlace_X1_sizeAt : GoodIn wsX1_copyOfPlace wsX1_sizeAt := goodIn_r _ [11, 6, 5, 12, 13, 14, 42, 43, 44, 45] (by decide +kernel) (by decide +kernel)
set_option maxRecDepth 20000 in
theorem gX1_copyOfPlace_X1_sizeAt : GoodIn wsX1_copyOfPlace (wsV RX1 43 RX1 yX1_sizeAt wsX1_sizeAt) := goodIn_app (goodIn_of _ (by decide +kernel)) ggX1_copyOfPlace_X1_sizeAt
set_option maxRecDepth 20000 in
theorem ggX1_copyOfPlace_X0_init : GoodIn wsX1_copyOfPlace wsX0_init := goodIn_r _ [17, 18, 19, 20, 21, 22, 23, 24, 25, 26, 40, 41] (by decide +kernel) (by decide +kernel)
set_option maxRecDepth 20000 in
theorem gX1_copyOfPlace_X0_init : GoodIn wsX1_copyOfPlace (wsX0_init) := ggX1_copyOfPlace_X0_init
set_option maxRecDepth 20000 in
theorem ggX1_copyOfPlace_X10_at : GoodIn wsX1_copyOfPlace wsX10_at := goodIn_r _ [14] (by decide +kernel) (by decide +kernel)
set_option maxRecDepth 20000 in
theorem gX1_copyOfPlace_X10_at_n39 : GoodIn wsX1_copyOfPlace (wsX10_at) := ggX1_copyOfPlace_X10_at
set_option maxRecDepth 20000 in
theorem ggX1_copyOfPlace_X0_addRange : GoodIn wsX1_copyOfPlace wsX0_addRange := goodIn_r _ [30, 31, 32, 33, 3, 34, 35, 26, 36, 37, 38, 39, 40, 41] (by decide +kernel) (by decide +kernel)
set_option maxRecDepth 20000 in
theorem gX1_copyOfPlace_X0_addRange : GoodIn wsX1_copyOfPlace (wsV RX1 57 RX0 yX0_addRange wsX0_addRange) := goodIn_app (goodIn_of _ (by decide +kernel)) ggX1_copyOfPlace_X0_addRange
theorem dX1_copyOfPlace_0 : decode cX1_copyOfPlace 0 = .ok (.new 27, 3) := by decide +kernel
theorem dX1_copyOfPlace_3 : decode cX1_copyOfPlace 3 = .ok (.dup, 1) := by decide +kernel
theorem dX1_copyOfPlace_4 : decode cX1_copyOfPlace 4 = .ok (.aload_n 0, 1) := by decide +kernel
theorem dX1_copyOfPlace_5 : decode cX1_copyOfPlace 5 = .ok (.iload_n 1, 1) := by decide +kernel
theorem dX1_copyOfPlace_6 : decode cX1_copyOfPlace 6 = .ok (.invokevirtual 43, 3) := by decide +kernel
theorem dX1_copyOfPlace_9 : decode cX1_copyOfPlace 9 = .ok (.invokespecial 54, 3) := by decide +kernel
theorem dX1_copyOfPlace_12 : decode cX1_copyOfPlace 12 = .ok (.astore_n 2, 1) := by decide +kernel
theorem dX1_copyOfPlace_13 : decode cX1_copyOfPlace 13 = .ok (.aload_n 2, 1) := by decide +kernel
theorem dX1_copyOfPlace_14 : decode cX1_copyOfPlace 14 = .ok (.aload_n 0, 1) := by decide +kernel
theorem dX1_copyOfPlace_15 : decode cX1_copyOfPlace 15 = .ok (.getfield 9, 3) := by decide +kernel
theorem dX1_copyOfPlace_18 : decode cX1_copyOfPlace 18 = .ok (.aload_n 0, 1) := by decide +kernel
theorem dX1_copyOfPlace_19 : decode cX1_copyOfPlace 19 = .ok (.getfield 15, 3) := by decide +kernel
theorem dX1_copyOfPlace_22 : decode cX1_copyOfPlace 22 = .ok (.iload_n 1, 1) := by decide +kernel
theorem dX1_copyOfPlace_23 : decode cX1_copyOfPlace 23 = .ok (.invokestatic 39, 3) := by decide +kernel
theorem dX1_copyOfPlace_26 : decode cX1_copyOfPlace 26 = .ok (.aload_n 0, 1) := by decide +kernel
theorem dX1_copyOfPlace_27 : decode cX1_copyOfPlace 27 = .ok (.getfield 19, 3) := by decide +kernel
theorem dX1_copyOfPlace_30 : decode cX1_copyOfPlace 30 = .ok (.iload_n 1, 1) := by decide +kernel
theorem dX1_copyOfPlace_31 : decode cX1_copyOfPlace 31 = .ok (.invokestatic 39, 3) := by decide +kernel
theorem dX1_copyOfPlace_34 : decode cX1_copyOfPlace 34 = .ok (.invokevirtual 57, 3) := by decide +kernel
theorem dX1_copyOfPlace_37 : decode cX1_copyOfPlace 37 = .ok (.aload_n 2, 1) := by decide +kernel
theorem dX1_copyOfPlace_38 : decode cX1_copyOfPlace 38 = .ok (.areturn, 1) := by decide +kernel
theorem dX2_init_0 : decode cX2_init 0 = .ok (.aload_n 0, 1) := by decide +kernel
theorem dX2_init_1 : decode cX2_init 1 = .ok (.invokespecial 3, 3) := by decide +kernel
theorem dX2_init_4 : decode cX2_init 4 = .ok (.aload_n 0, 1) := by decide +kernel
theorem dX2_init_5 : decode cX2_init 5 = .ok (.bipush 60, 2) := by decide +kernel
theorem dX2_init_7 : decode cX2_init 7 = .ok (.newarray .int, 2) := by decide +kernel
theorem dX2_init_9 : decode cX2_init 9 = .ok (.putfield 9, 3) := by decide +kernel
theorem dX2_init_12 : decode cX2_init 12 = .ok (.aload_n 0, 1) := by decide +kernel
theorem dX2_init_13 : decode cX2_init 13 = .ok (.bipush 60, 2) := by decide +kernel
theorem dX2_init_15 : decode cX2_init 15 = .ok (.newarray .int, 2) := by decide +kernel
theorem dX2_init_17 : decode cX2_init 17 = .ok (.putfield 15, 3) := by decide +kernel
theorem dX2_init_20 : decode cX2_init 20 = .ok (.aload_n 0, 1) := by decide +kernel
theorem dX2_init_21 : decode cX2_init 21 = .ok (.bipush 60, 2) := by decide +kernel
theorem dX2_init_23 : decode cX2_init 23 = .ok (.newarray .int, 2) := by decide +kernel
theorem dX2_init_25 : decode cX2_init 25 = .ok (.putfield 18, 3) := by decide +kernel
theorem dX2_init_28 : decode cX2_init 28 = .ok (.return_, 1) := by decide +kernel
theorem dX2_clear_0 : decode cX2_clear 0 = .ok (.aload_n 0, 1) := by decide +kernel
theorem dX2_clear_1 : decode cX2_clear 1 = .ok (.iconst 0, 1) := by decide +kernel
theorem dX2_clear_2 : decode cX2_clear 2 = .ok (.putfield 21, 3) := by decide +kernel
theorem dX2_clear_5 : decode cX2_clear 5 = .ok (.aload_n 0, 1) := by decide +kernel
theorem dX2_clear_6 : decode cX2_clear 6 = .ok (.iconst 0, 1) := by decide +kernel
theorem dX2_clear_7 : decode cX2_clear 7 = .ok (.putfield 25, 3) := by decide +kernel
theorem dX2_clear_10 : decode cX2_clear 10 = .ok (.return_, 1) := by decide +kernel
set_option maxRecDepth 20000 in
theorem ggX2_copyFrom_X10_copyRow : GoodIn wsX2_copyFrom wsX10_copyRow := goodIn_r _ [8, 9, 10, 11, 12, 13, 14, 15, 16] (by decide +kernel) (by decide +kernel)
set_option maxRecDepth 20000 in
theorem gX2_copyFrom_X10_copyRow_n28 : GoodIn wsX2_copyFrom (wsX10_copyRow) := ggX2_copyFrom_X10_copyRow
theorem dX2_copyFrom_0 : decode cX2_copyFrom 0 = .ok (.aload_n 1, 1) := by decide +kernel
theorem dX2_copyFrom_1 : decode cX2_copyFrom 1 = .ok (.getfield 9, 3) := by decide +kernel
theorem dX2_copyFrom_4 : decode cX2_copyFrom 4 = .ok (.aload_n 0, 1) := by decide +kernel
theorem dX2_copyFrom_5 : decode cX2_copyFrom 5 = .ok (.getfield 9, 3) := by decide +kernel
theorem dX2_copyFrom_8 : decode cX2_copyFrom 8 = .ok (.invokestatic 28, 3) := by decide +kernel
theorem dX2_copyFrom_11 : decode cX2_copyFrom 11 = .ok (.aload_n 1, 1) := by decide +kernel
theorem dX2_copyFrom_12 : decode cX2_copyFrom 12 = .ok (.getfield 15, 3) := by decide +kernel
theorem dX2_copyFrom_15 : decode cX2_copyFrom 15 = .ok (.aload_n 0, 1) := by decide +kernel
theorem dX2_copyFrom_16 : decode cX2_copyFrom 16 = .ok (.getfield 15, 3) := by decide +kernel
theorem dX2_copyFrom_19 : decode cX2_copyFrom 19 = .ok (.invokestatic 28, 3) := by decide +kernel
theorem dX2_copyFrom_22 : decode cX2_copyFrom 22 = .ok (.aload_n 1, 1) := by decide +kernel
theorem dX2_copyFrom_23 : decode cX2_copyFrom 23 = .ok (.getfield 18, 3) := by decide +kernel
theorem dX2_copyFrom_26 : decode cX2_copyFrom 26 = .ok (.aload_n 0, 1) := by decide +kernel
theorem dX2_copyFrom_27 : decode cX2_copyFrom 27 = .ok (.getfield 18, 3) := by decide +kernel
theorem dX2_copyFrom_30 : decode cX2_copyFrom 30 = .ok (.invokestatic 28, 3) := by decide +kernel
theorem dX2_copyFrom_33 : decode cX2_copyFrom 33 = .ok (.aload_n 0, 1) := by decide +kernel
theorem dX2_copyFrom_34 : decode cX2_copyFrom 34 = .ok (.aload_n 1, 1) := by decide +kernel
theorem dX2_copyFrom_35 : decode cX2_copyFrom 35 = .ok (.getfield 21, 3) := by decide +kernel
theorem dX2_copyFrom_38 : decode cX2_copyFrom 38 = .ok (.putfield 21, 3) := by decide +kernel
theorem dX2_copyFrom_41 : decode cX2_copyFrom 41 = .ok (.aload_n 0, 1) := by decide +kernel
theorem dX2_copyFrom_42 : decode cX2_copyFrom 42 = .ok (.aload_n 1, 1) := by decide +kernel
theorem dX2_copyFrom_43 : decode cX2_copyFrom 43 = .ok (.getfield 25, 3) := by decide +kernel
theorem dX2_copyFrom_46 : decode cX2_copyFrom 46 = .ok (.putfield 25, 3) := by decide +kernel
theorem dX2_copyFrom_49 : decode cX2_copyFrom 49 = .ok (.return_, 1) := by decide +kernel
set_option maxRecDepth 20000 in
theorem ggX2_note_X10_put : GoodIn wsX2_note wsX10_put := goodIn_r _ [8] (by decide +kernel) (by decide +kernel)
set_option maxRecDepth 20000 in
theorem gX2_note_X10_put_n32 : GoodIn wsX2_note (wsX10_put) := ggX2_note_X10_put
theorem dX2_note_0 : decode cX2_note 0 = .ok (.aload_n 0, 1) := by decide +kernel
theorem dX2_note_1 : decode cX2_note 1 = .ok (.getfield 21, 3) := by decide +kernel
theorem dX2_note_4 : decode cX2_note 4 = .ok (.aload_n 0, 1) := by decide +kernel
theorem dX2_note_5 : decode cX2_note 5 = .ok (.getfield 25, 3) := by decide +kernel
theorem dX2_note_8 : decode cX2_note 8 = .ok (.iadd, 1) := by decide +kernel
theorem dX2_note_9 : decode cX2_note 9 = .ok (.bipush 60, 2) := by decide +kernel
theorem dX2_note_11 : decode cX2_note 11 = .ok (.irem, 1) := by decide +kernel
theorem dX2_note_12 : decode cX2_note 12 = .ok (.istore 4, 2) := by decide +kernel
theorem dX2_note_14 : decode cX2_note 14 = .ok (.aload_n 0, 1) := by decide +kernel
theorem dX2_note_15 : decode cX2_note 15 = .ok (.getfield 9, 3) := by decide +kernel
theorem dX2_note_18 : decode cX2_note 18 = .ok (.iload 4, 2) := by decide +kernel
theorem dX2_note_20 : decode cX2_note 20 = .ok (.iload_n 1, 1) := by decide +kernel
theorem dX2_note_21 : decode cX2_note 21 = .ok (.invokestatic 32, 3) := by decide +kernel
theorem dX2_note_24 : decode cX2_note 24 = .ok (.aload_n 0, 1) := by decide +kernel
theorem dX2_note_25 : decode cX2_note 25 = .ok (.getfield 15, 3) := by decide +kernel
theorem dX2_note_28 : decode cX2_note 28 = .ok (.iload 4, 2) := by decide +kernel
theorem dX2_note_30 : decode cX2_note 30 = .ok (.iload_n 2, 1) := by decide +kernel
theorem dX2_note_31 : decode cX2_note 31 = .ok (.invokestatic 32, 3) := by decide +kernel
theorem dX2_note_34 : decode cX2_note 34 = .ok (.aload_n 0, 1) := by decide +kernel
theorem dX2_note_35 : decode cX2_note 35 = .ok (.getfield 18, 3) := by decide +kernel
theorem dX2_note_38 : decode cX2_note 38 = .ok (.iload 4, 2) := by decide +kernel
theorem dX2_note_40 : decode cX2_note 40 = .ok (.iload_n 3, 1) := by decide +kernel
theorem dX2_note_41 : decode cX2_note 41 = .ok (.invokestatic 32, 3) := by decide +kernel
theorem dX2_note_44 : decode cX2_note 44 = .ok (.aload_n 0, 1) := by decide +kernel
theorem dX2_note_45 : decode cX2_note 45 = .ok (.getfield 25, 3) := by decide +kernel
theorem dX2_note_48 : decode cX2_note 48 = .ok (.bipush 60, 2) := by decide +kernel
theorem dX2_note_50 : decode cX2_note 50 = .ok (.if_icmp .ge 16, 3) := by decide +kernel
theorem dX2_note_53 : decode cX2_note 53 = .ok (.aload_n 0, 1) := by decide +kernel
theorem dX2_note_54 : decode cX2_note 54 = .ok (.dup, 1) := by decide +kernel
theorem dX2_note_55 : decode cX2_note 55 = .ok (.getfield 25, 3) := by decide +kernel
theorem dX2_note_58 : decode cX2_note 58 = .ok (.iconst 1, 1) := by decide +kernel
theorem dX2_note_59 : decode cX2_note 59 = .ok (.iadd, 1) := by decide +kernel
theorem dX2_note_60 : decode cX2_note 60 = .ok (.putfield 25, 3) := by decide +kernel
theorem dX2_note_63 : decode cX2_note 63 = .ok (.goto 16, 3) := by decide +kernel
theorem dX2_note_66 : decode cX2_note 66 = .ok (.aload_n 0, 1) := by decide +kernel
theorem dX2_note_67 : decode cX2_note 67 = .ok (.aload_n 0, 1) := by decide +kernel
theorem dX2_note_68 : decode cX2_note 68 = .ok (.getfield 21, 3) := by decide +kernel
theorem dX2_note_71 : decode cX2_note 71 = .ok (.iconst 1, 1) := by decide +kernel
theorem dX2_note_72 : decode cX2_note 72 = .ok (.iadd, 1) := by decide +kernel
theorem dX2_note_73 : decode cX2_note 73 = .ok (.bipush 60, 2) := by decide +kernel
theorem dX2_note_75 : decode cX2_note 75 = .ok (.irem, 1) := by decide +kernel
theorem dX2_note_76 : decode cX2_note 76 = .ok (.putfield 21, 3) := by decide +kernel
theorem dX2_note_79 : decode cX2_note 79 = .ok (.return_, 1) := by decide +kernel
set_option maxRecDepth 20000 in
theorem ggX2_valueAt_X10_at : GoodIn wsX2_valueAt wsX10_at := goodIn_r _ [7] (by decide +kernel) (by decide +kernel)
set_option maxRecDepth 20000 in
theorem gX2_valueAt_X10_at_n36 : GoodIn wsX2_valueAt (wsX10_at) := ggX2_valueAt_X10_at
theorem dX2_valueAt_0 : decode cX2_valueAt 0 = .ok (.aload_n 0, 1) := by decide +kernel
theorem dX2_valueAt_1 : decode cX2_valueAt 1 = .ok (.getfield 21, 3) := by decide +kernel
theorem dX2_valueAt_4 : decode cX2_valueAt 4 = .ok (.iload_n 1, 1) := by decide +kernel
theorem dX2_valueAt_5 : decode cX2_valueAt 5 = .ok (.iadd, 1) := by decide +kernel
theorem dX2_valueAt_6 : decode cX2_valueAt 6 = .ok (.bipush 60, 2) := by decide +kernel
theorem dX2_valueAt_8 : decode cX2_valueAt 8 = .ok (.irem, 1) := by decide +kernel
theorem dX2_valueAt_9 : decode cX2_valueAt 9 = .ok (.istore_n 3, 1) := by decide +kernel
theorem dX2_valueAt_10 : decode cX2_valueAt 10 = .ok (.iload_n 2, 1) := by decide +kernel
theorem dX2_valueAt_11 : decode cX2_valueAt 11 = .ok (.ifCond .ne 12, 3) := by decide +kernel
theorem dX2_valueAt_14 : decode cX2_valueAt 14 = .ok (.aload_n 0, 1) := by decide +kernel
theorem dX2_valueAt_15 : decode cX2_valueAt 15 = .ok (.getfield 9, 3) := by decide +kernel
theorem dX2_valueAt_18 : decode cX2_valueAt 18 = .ok (.iload_n 3, 1) := by decide +kernel
theorem dX2_valueAt_19 : decode cX2_valueAt 19 = .ok (.invokestatic 36, 3) := by decide +kernel
theorem dX2_valueAt_22 : decode cX2_valueAt 22 = .ok (.ireturn, 1) := by decide +kernel
theorem dX2_valueAt_23 : decode cX2_valueAt 23 = .ok (.iload_n 2, 1) := by decide +kernel
theorem dX2_valueAt_24 : decode cX2_valueAt 24 = .ok (.iconst 1, 1) := by decide +kernel
theorem dX2_valueAt_25 : decode cX2_valueAt 25 = .ok (.if_icmp .ne 14, 3) := by decide +kernel
theorem dX2_valueAt_28 : decode cX2_valueAt 28 = .ok (.aload_n 0, 1) := by decide +kernel
theorem dX2_valueAt_29 : decode cX2_valueAt 29 = .ok (.getfield 15, 3) := by decide +kernel
theorem dX2_valueAt_32 : decode cX2_valueAt 32 = .ok (.iload_n 3, 1) := by decide +kernel
theorem dX2_valueAt_33 : decode cX2_valueAt 33 = .ok (.invokestatic 36, 3) := by decide +kernel
theorem dX2_valueAt_36 : decode cX2_valueAt 36 = .ok (.goto 11, 3) := by decide +kernel
theorem dX2_valueAt_39 : decode cX2_valueAt 39 = .ok (.aload_n 0, 1) := by decide +kernel
theorem dX2_valueAt_40 : decode cX2_valueAt 40 = .ok (.getfield 18, 3) := by decide +kernel
theorem dX2_valueAt_43 : decode cX2_valueAt 43 = .ok (.iload_n 3, 1) := by decide +kernel
theorem dX2_valueAt_44 : decode cX2_valueAt 44 = .ok (.invokestatic 36, 3) := by decide +kernel
theorem dX2_valueAt_47 : decode cX2_valueAt 47 = .ok (.ireturn, 1) := by decide +kernel
theorem dX4_init_0 : decode cX4_init 0 = .ok (.aload_n 0, 1) := by decide +kernel
theorem dX4_init_1 : decode cX4_init 1 = .ok (.invokespecial 3, 3) := by decide +kernel
theorem dX4_init_4 : decode cX4_init 4 = .ok (.aload_n 0, 1) := by decide +kernel
theorem dX4_init_5 : decode cX4_init 5 = .ok (.iload_n 1, 1) := by decide +kernel
theorem dX4_init_6 : decode cX4_init 6 = .ok (.putfield 9, 3) := by decide +kernel
theorem dX4_init_9 : decode cX4_init 9 = .ok (.aload_n 0, 1) := by decide +kernel
theorem dX4_init_10 : decode cX4_init 10 = .ok (.iload_n 2, 1) := by decide +kernel
theorem dX4_init_11 : decode cX4_init 11 = .ok (.putfield 15, 3) := by decide +kernel
theorem dX4_init_14 : decode cX4_init 14 = .ok (.aload_n 0, 1) := by decide +kernel
theorem dX4_init_15 : decode cX4_init 15 = .ok (.iload_n 3, 1) := by decide +kernel
theorem dX4_init_16 : decode cX4_init 16 = .ok (.putfield 18, 3) := by decide +kernel
theorem dX4_init_19 : decode cX4_init 19 = .ok (.aload_n 0, 1) := by decide +kernel
theorem dX4_init_20 : decode cX4_init 20 = .ok (.iconst 0, 1) := by decide +kernel
theorem dX4_init_21 : decode cX4_init 21 = .ok (.iload 4, 2) := by decide +kernel
theorem dX4_init_23 : decode cX4_init 23 = .ok (.invokestatic 21, 3) := by decide +kernel
theorem dX4_init_26 : decode cX4_init 26 = .ok (.newarray .int, 2) := by decide +kernel
theorem dX4_init_28 : decode cX4_init 28 = .ok (.putfield 27, 3) := by decide +kernel
theorem dX4_init_31 : decode cX4_init 31 = .ok (.return_, 1) := by decide +kernel
theorem dX4_partAbove_0 : decode cX4_partAbove 0 = .ok (.iconst (-1), 1) := by decide +kernel
theorem dX4_partAbove_1 : decode cX4_partAbove 1 = .ok (.istore_n 2, 1) := by decide +kernel
theorem dX4_partAbove_2 : decode cX4_partAbove 2 = .ok (.aload_n 0, 1) := by decide +kernel
theorem dX4_partAbove_3 : decode cX4_partAbove 3 = .ok (.getfield 27, 3) := by decide +kernel
theorem dX4_partAbove_6 : decode cX4_partAbove 6 = .ok (.astore_n 3, 1) := by decide +kernel
theorem dX4_partAbove_7 : decode cX4_partAbove 7 = .ok (.aload_n 3, 1) := by decide +kernel
theorem dX4_partAbove_8 : decode cX4_partAbove 8 = .ok (.arraylength, 1) := by decide +kernel
theorem dX4_partAbove_9 : decode cX4_partAbove 9 = .ok (.istore 4, 2) := by decide +kernel
theorem dX4_partAbove_11 : decode cX4_partAbove 11 = .ok (.iconst 0, 1) := by decide +kernel
theorem dX4_partAbove_12 : decode cX4_partAbove 12 = .ok (.istore 5, 2) := by decide +kernel
theorem dX4_partAbove_14 : decode cX4_partAbove 14 = .ok (.iload 5, 2) := by decide +kernel
theorem dX4_partAbove_16 : decode cX4_partAbove 16 = .ok (.iload 4, 2) := by decide +kernel
theorem dX4_partAbove_18 : decode cX4_partAbove 18 = .ok (.if_icmp .ge 35, 3) := by decide +kernel
theorem dX4_partAbove_21 : decode cX4_partAbove 21 = .ok (.aload_n 3, 1) := by decide +kernel
theorem dX4_partAbove_22 : decode cX4_partAbove 22 = .ok (.iload 5, 2) := by decide +kernel
theorem dX4_partAbove_24 : decode cX4_partAbove 24 = .ok (.iaload, 1) := by decide +kernel
theorem dX4_partAbove_25 : decode cX4_partAbove 25 = .ok (.istore 6, 2) := by decide +kernel
theorem dX4_partAbove_27 : decode cX4_partAbove 27 = .ok (.iload 6, 2) := by decide +kernel
theorem dX4_partAbove_29 : decode cX4_partAbove 29 = .ok (.iload_n 1, 1) := by decide +kernel
theorem dX4_partAbove_30 : decode cX4_partAbove 30 = .ok (.if_icmp .le 17, 3) := by decide +kernel
theorem dX4_partAbove_33 : decode cX4_partAbove 33 = .ok (.iload_n 2, 1) := by decide +kernel
theorem dX4_partAbove_34 : decode cX4_partAbove 34 = .ok (.iconst (-1), 1) := by decide +kernel
theorem dX4_partAbove_35 : decode cX4_partAbove 35 = .ok (.if_icmp .eq 9, 3) := by decide +kernel
theorem dX4_partAbove_38 : decode cX4_partAbove 38 = .ok (.iload 6, 2) := by decide +kernel
theorem dX4_partAbove_40 : decode cX4_partAbove 40 = .ok (.iload_n 2, 1) := by decide +kernel
theorem dX4_partAbove_41 : decode cX4_partAbove 41 = .ok (.if_icmp .ge 6, 3) := by decide +kernel
theorem dX4_partAbove_44 : decode cX4_partAbove 44 = .ok (.iload 6, 2) := by decide +kernel
theorem dX4_partAbove_46 : decode cX4_partAbove 46 = .ok (.istore_n 2, 1) := by decide +kernel
theorem dX4_partAbove_47 : decode cX4_partAbove 47 = .ok (.iinc 5 1, 3) := by decide +kernel
theorem dX4_partAbove_50 : decode cX4_partAbove 50 = .ok (.goto (-36), 3) := by decide +kernel
theorem dX4_partAbove_53 : decode cX4_partAbove 53 = .ok (.iload_n 2, 1) := by decide +kernel
theorem dX4_partAbove_54 : decode cX4_partAbove 54 = .ok (.ireturn, 1) := by decide +kernel
theorem dX5_init_0 : decode cX5_init 0 = .ok (.aload_n 0, 1) := by decide +kernel
theorem dX5_init_1 : decode cX5_init 1 = .ok (.invokespecial 3, 3) := by decide +kernel
theorem dX5_init_4 : decode cX5_init 4 = .ok (.aload_n 0, 1) := by decide +kernel
theorem dX5_init_5 : decode cX5_init 5 = .ok (.iconst 0, 1) := by decide +kernel
theorem dX5_init_6 : decode cX5_init 6 = .ok (.iload_n 1, 1) := by decide +kernel
theorem dX5_init_7 : decode cX5_init 7 = .ok (.invokestatic 9, 3) := by decide +kernel
theorem dX5_init_10 : decode cX5_init 10 = .ok (.newarray .long, 2) := by decide +kernel
theorem dX5_init_12 : decode cX5_init 12 = .ok (.putfield 15, 3) := by decide +kernel
theorem dX5_init_15 : decode cX5_init 15 = .ok (.return_, 1) := by decide +kernel
theorem dX5_isFull_0 : decode cX5_isFull 0 = .ok (.aload_n 0, 1) := by decide +kernel
theorem dX5_isFull_1 : decode cX5_isFull 1 = .ok (.getfield 21, 3) := by decide +kernel
theorem dX5_isFull_4 : decode cX5_isFull 4 = .ok (.aload_n 0, 1) := by decide +kernel
theorem dX5_isFull_5 : decode cX5_isFull 5 = .ok (.getfield 15, 3) := by decide +kernel
theorem dX5_isFull_8 : decode cX5_isFull 8 = .ok (.arraylength, 1) := by decide +kernel
theorem dX5_isFull_9 : decode cX5_isFull 9 = .ok (.if_icmp .lt 7, 3) := by decide +kernel
theorem dX5_isFull_12 : decode cX5_isFull 12 = .ok (.iconst 1, 1) := by decide +kernel
theorem dX5_isFull_13 : decode cX5_isFull 13 = .ok (.goto 4, 3) := by decide +kernel
theorem dX5_isFull_16 : decode cX5_isFull 16 = .ok (.iconst 0, 1) := by decide +kernel
theorem dX5_isFull_17 : decode cX5_isFull 17 = .ok (.ireturn, 1) := by decide +kernel
theorem dX5_has_0 : decode cX5_has 0 = .ok (.iload_n 1, 1) := by decide +kernel
theorem dX5_has_1 : decode cX5_has 1 = .ok (.ifCond .lt 15, 3) := by decide +kernel
theorem dX5_has_4 : decode cX5_has 4 = .ok (.iload_n 1, 1) := by decide +kernel
theorem dX5_has_5 : decode cX5_has 5 = .ok (.aload_n 0, 1) := by decide +kernel
theorem dX5_has_6 : decode cX5_has 6 = .ok (.getfield 21, 3) := by decide +kernel
theorem dX5_has_9 : decode cX5_has 9 = .ok (.if_icmp .ge 7, 3) := by decide +kernel
theorem dX5_has_12 : decode cX5_has 12 = .ok (.iconst 1, 1) := by decide +kernel
theorem dX5_has_13 : decode cX5_has 13 = .ok (.goto 4, 3) := by decide +kernel
theorem dX5_has_16 : decode cX5_has 16 = .ok (.iconst 0, 1) := by decide +kernel
theorem dX5_has_17 : decode cX5_has 17 = .ok (.ireturn, 1) := by decide +kernel
theorem dX5_numberOf_0 : decode cX5_numberOf 0 = .ok (.iconst 0, 1) := by decide +kernel
theorem dX5_numberOf_1 : decode cX5_numberOf 1 = .ok (.istore_n 3, 1) := by decide +kernel
theorem dX5_numberOf_2 : decode cX5_numberOf 2 = .ok (.iload_n 3, 1) := by decide +kernel
theorem dX5_numberOf_3 : decode cX5_numberOf 3 = .ok (.aload_n 0, 1) := by decide +kernel
theorem dX5_numberOf_4 : decode cX5_numberOf 4 = .ok (.getfield 21, 3) := by decide +kernel
theorem dX5_numberOf_7 : decode cX5_numberOf 7 = .ok (.if_icmp .ge 31, 3) := by decide +kernel
theorem dX5_numberOf_10 : decode cX5_numberOf 10 = .ok (.iload_n 3, 1) := by decide +kernel
theorem dX5_numberOf_11 : decode cX5_numberOf 11 = .ok (.aload_n 0, 1) := by decide +kernel
theorem dX5_numberOf_12 : decode cX5_numberOf 12 = .ok (.getfield 15, 3) := by decide +kernel
theorem dX5_numberOf_15 : decode cX5_numberOf 15 = .ok (.arraylength, 1) := by decide +kernel
theorem dX5_numberOf_16 : decode cX5_numberOf 16 = .ok (.if_icmp .ge 22, 3) := by decide +kernel
theorem dX5_numberOf_19 : decode cX5_numberOf 19 = .ok (.aload_n 0, 1) := by decide +kernel
theorem dX5_numberOf_20 : decode cX5_numberOf 20 = .ok (.getfield 15, 3) := by decide +kernel
theorem dX5_numberOf_23 : decode cX5_numberOf 23 = .ok (.iload_n 3, 1) := by decide +kernel
theorem dX5_numberOf_24 : decode cX5_numberOf 24 = .ok (.laload, 1) := by decide +kernel
theorem dX5_numberOf_25 : decode cX5_numberOf 25 = .ok (.lload_n 1, 1) := by decide +kernel
theorem dX5_numberOf_26 : decode cX5_numberOf 26 = .ok (.lcmp, 1) := by decide +kernel
theorem dX5_numberOf_27 : decode cX5_numberOf 27 = .ok (.ifCond .ne 5, 3) := by decide +kernel
theorem dX5_numberOf_30 : decode cX5_numberOf 30 = .ok (.iload_n 3, 1) := by decide +kernel
theorem dX5_numberOf_31 : decode cX5_numberOf 31 = .ok (.ireturn, 1) := by decide +kernel
theorem dX5_numberOf_32 : decode cX5_numberOf 32 = .ok (.iinc 3 1, 3) := by decide +kernel
theorem dX5_numberOf_35 : decode cX5_numberOf 35 = .ok (.goto (-33), 3) := by decide +kernel
theorem dX5_numberOf_38 : decode cX5_numberOf 38 = .ok (.iconst (-1), 1) := by decide +kernel
theorem dX5_numberOf_39 : decode cX5_numberOf 39 = .ok (.ireturn, 1) := by decide +kernel
set_option maxRecDepth 20000 in
theorem ggX5_nameAt_X5_has : GoodIn wsX5_nameAt wsX5_has := goodIn_r _ [6, 7, 8, 9] (by decide +kernel) (by decide +kernel)
set_option maxRecDepth 20000 in
theorem gX5_nameAt_X5_has : GoodIn wsX5_nameAt (wsV RX5 25 RX5 yX5_has wsX5_has) := goodIn_app (goodIn_of _ (by decide +kernel)) ggX5_nameAt_X5_has
theorem dX5_nameAt_0 : decode cX5_nameAt 0 = .ok (.aload_n 0, 1) := by decide +kernel
theorem dX5_nameAt_1 : decode cX5_nameAt 1 = .ok (.iload_n 1, 1) := by decide +kernel
theorem dX5_nameAt_2 : decode cX5_nameAt 2 = .ok (.invokevirtual 25, 3) := by decide +kernel
theorem dX5_nameAt_5 : decode cX5_nameAt 5 = .ok (.ifCond .eq 21, 3) := by decide +kernel
theorem dX5_nameAt_8 : decode cX5_nameAt 8 = .ok (.iload_n 1, 1) := by decide +kernel
theorem dX5_nameAt_9 : decode cX5_nameAt 9 = .ok (.aload_n 0, 1) := by decide +kernel
theorem dX5_nameAt_10 : decode cX5_nameAt 10 = .ok (.getfield 15, 3) := by decide +kernel
theorem dX5_nameAt_13 : decode cX5_nameAt 13 = .ok (.arraylength, 1) := by decide +kernel
theorem dX5_nameAt_14 : decode cX5_nameAt 14 = .ok (.if_icmp .ge 12, 3) := by decide +kernel
theorem dX5_nameAt_17 : decode cX5_nameAt 17 = .ok (.aload_n 0, 1) := by decide +kernel
theorem dX5_nameAt_18 : decode cX5_nameAt 18 = .ok (.getfield 15, 3) := by decide +kernel
theorem dX5_nameAt_21 : decode cX5_nameAt 21 = .ok (.iload_n 1, 1) := by decide +kernel
theorem dX5_nameAt_22 : decode cX5_nameAt 22 = .ok (.laload, 1) := by decide +kernel
theorem dX5_nameAt_23 : decode cX5_nameAt 23 = .ok (.goto 4, 3) := by decide +kernel
theorem dX5_nameAt_26 : decode cX5_nameAt 26 = .ok (.lconst 0, 1) := by decide +kernel
theorem dX5_nameAt_27 : decode cX5_nameAt 27 = .ok (.lreturn, 1) := by decide +kernel
theorem dX5_add_0 : decode cX5_add 0 = .ok (.aload_n 0, 1) := by decide +kernel
theorem dX5_add_1 : decode cX5_add 1 = .ok (.getfield 21, 3) := by decide +kernel
theorem dX5_add_4 : decode cX5_add 4 = .ok (.istore_n 3, 1) := by decide +kernel
theorem dX5_add_5 : decode cX5_add 5 = .ok (.iload_n 3, 1) := by decide +kernel
theorem dX5_add_6 : decode cX5_add 6 = .ok (.ifCond .lt 29, 3) := by decide +kernel
theorem dX5_add_9 : decode cX5_add 9 = .ok (.iload_n 3, 1) := by decide +kernel
theorem dX5_add_10 : decode cX5_add 10 = .ok (.aload_n 0, 1) := by decide +kernel
theorem dX5_add_11 : decode cX5_add 11 = .ok (.getfield 15, 3) := by decide +kernel
theorem dX5_add_14 : decode cX5_add 14 = .ok (.arraylength, 1) := by decide +kernel
theorem dX5_add_15 : decode cX5_add 15 = .ok (.if_icmp .ge 20, 3) := by decide +kernel
theorem dX5_add_18 : decode cX5_add 18 = .ok (.aload_n 0, 1) := by decide +kernel
theorem dX5_add_19 : decode cX5_add 19 = .ok (.getfield 15, 3) := by decide +kernel
theorem dX5_add_22 : decode cX5_add 22 = .ok (.iload_n 3, 1) := by decide +kernel
theorem dX5_add_23 : decode cX5_add 23 = .ok (.lload_n 1, 1) := by decide +kernel
theorem dX5_add_24 : decode cX5_add 24 = .ok (.lastore, 1) := by decide +kernel
theorem dX5_add_25 : decode cX5_add 25 = .ok (.aload_n 0, 1) := by decide +kernel
theorem dX5_add_26 : decode cX5_add 26 = .ok (.dup, 1) := by decide +kernel
theorem dX5_add_27 : decode cX5_add 27 = .ok (.getfield 21, 3) := by decide +kernel
theorem dX5_add_30 : decode cX5_add 30 = .ok (.iconst 1, 1) := by decide +kernel
theorem dX5_add_31 : decode cX5_add 31 = .ok (.iadd, 1) := by decide +kernel
theorem dX5_add_32 : decode cX5_add 32 = .ok (.putfield 21, 3) := by decide +kernel
theorem dX5_add_35 : decode cX5_add 35 = .ok (.iload_n 3, 1) := by decide +kernel
theorem dX5_add_36 : decode cX5_add 36 = .ok (.ireturn, 1) := by decide +kernel
set_option maxRecDepth 20000 in
theorem ggX6_init_X7_init : GoodIn wsX6_init wsX7_init := goodIn_r _ [12, 13, 2, 3, 14, 15, 16, 17, 18, 19, 20, 21, 22, 23, 24, 25, 26, 27, 28, 29, 30, 31, 32, 33, 34, 35, 36, 37, 38, 39, 40, 41, 42, 53, 54, 55, 56, 57, 58, 59, 60, 61, 62, 63, 64, 65, 66, 67, 68, 69, 70] (by decide +kernel) (by decide +kernel)
set_option maxRecDepth 20000 in
theorem gX6_init_X7_init : GoodIn wsX6_init (wsX7_init) := ggX6_init_X7_init
theorem dX6_init_0 : decode cX6_init 0 = .ok (.aload_n 0, 1) := by decide +kernel
theorem dX6_init_1 : decode cX6_init 1 = .ok (.invokespecial 3, 3) := by decide +kernel
theorem dX6_init_4 : decode cX6_init 4 = .ok (.aload_n 0, 1) := by decide +kernel
theorem dX6_init_5 : decode cX6_init 5 = .ok (.aload_n 1, 1) := by decide +kernel
theorem dX6_init_6 : decode cX6_init 6 = .ok (.putfield 9, 3) := by decide +kernel
theorem dX6_init_9 : decode cX6_init 9 = .ok (.aload_n 0, 1) := by decide +kernel
theorem dX6_init_10 : decode cX6_init 10 = .ok (.new 15, 3) := by decide +kernel
theorem dX6_init_13 : decode cX6_init 13 = .ok (.dup, 1) := by decide +kernel
theorem dX6_init_14 : decode cX6_init 14 = .ok (.invokespecial 17, 3) := by decide +kernel
theorem dX6_init_17 : decode cX6_init 17 = .ok (.putfield 18, 3) := by decide +kernel
theorem dX6_init_20 : decode cX6_init 20 = .ok (.aload_n 0, 1) := by decide +kernel
theorem dX6_init_21 : decode cX6_init 21 = .ok (.iconst (-1), 1) := by decide +kernel
theorem dX6_init_22 : decode cX6_init 22 = .ok (.putfield 22, 3) := by decide +kernel
theorem dX6_init_25 : decode cX6_init 25 = .ok (.return_, 1) := by decide +kernel
set_option maxRecDepth 20000 in
theorem ggX6_parse_X6_nextToken : GoodIn wsX6_parse wsX6_nextToken := goodIn_r _ [12, 13, 1, 14, 3, 15, 16, 2, 17, 18, 19, 20, 21, 22, 23, 24, 25, 11, 26, 27, 28, 29, 30, 31, 32, 33, 34, 35, 36, 37, 38, 39, 40, 41, 42, 43, 44, 45, 46, 47, 48, 49, 178, 179, 180, 181, 182, 183, 184, 185, 186, 187, 188, 189] (by decide +kernel) (by decide +kernel)
set_option maxRecDepth 20000 in
theorem gX6_parse_X6_nextToken : GoodIn wsX6_parse (wsV RX6 26 RX6 yX6_nextToken wsX6_nextToken) := goodIn_app (goodIn_of _ (by decide +kernel)) ggX6_parse_X6_nextToken
set_option maxRecDepth 20000 in
theorem ggX6_parse_X6_spoolStatement : GoodIn wsX6_parse wsX6_spoolStatement := goodIn_r _ [53, 54, 55, 56, 57, 58, 59, 60, 11, 61, 3, 62, 63, 64, 65, 66, 14, 67, 8, 9, 10, 12, 13, 1, 15, 16, 2, 17, 18, 19, 20, 21, 22, 23, 24, 25, 26, 27, 28, 29, 30, 31, 32, 33, 34, 35, 36, 37, 38, 39, 40, 41, 42, 43, 44, 45, 46, 47, 48, 49, 68, 69, 70, 71, 72, 73, 74, 75, 76, 77, 78, 79, 178, 179, 180, 181, 182, 183, 184, 185, 186, 187, 190, 191, 192, 193, 194, 195, 196, 197, 198, 199, 200, 201, 202, 203, 204, 205, 188, 189] (by decide +kernel) (by decide +kernel)
set_option maxRecDepth 20000 in
theorem gX6_parse_X6_spoolStatement : GoodIn wsX6_parse (wsV RX6 29 RX6 yX6_spoolStatement wsX6_spoolStatement) := goodIn_app (goodIn_of _ (by decide +kernel)) ggX6_parse_X6_spoolStatement
set_option maxRecDepth 20000 in
theorem ggX6_parse_X6_classStatement : GoodIn wsX6_parse wsX6_classStatement := goodIn_r _ [83, 56, 84, 3, 85, 86, 87, 88, 89, 90, 91, 92, 93, 94, 62, 63, 64, 11, 65, 66, 14, 67, 8, 9, 10, 12, 13, 1, 15, 16, 2, 17, 18, 19, 20, 21, 22, 23, 24, 25, 26, 27, 28, 29, 30, 31, 32, 33, 34, 35, 36, 37, 38, 39, 40, 41, 42, 43, 44, 45, 46, 47, 48, 49, 95, 96, 97, 98, 99, 100, 101, 102, 103, 104, 105, 106, 107, 58, 59, 60, 61, 68, 69, 70, 71, 108, 109, 110, 111, 72, 73, 74, 75, 76, 77, 78, 79, 112, 113, 114, 115, 116, 117, 118, 119, 120, 121, 122, 123, 124, 125, 126, 178, 179, 180, 181, 182, 183, 184, 185, 186, 187, 190, 191, 192, 193, 194, 195, 196, 197, 198, 199, 200, 201, 202, 203, 204, 205, 206, 207, 188, 189] (by decide +kernel) (by decide +kernel)
set_option maxRecDepth 20000 in
theorem gX6_parse_X6_classStatement : GoodIn wsX6_parse (wsV RX6 50 RX6 yX6_classStatement wsX6_classStatement) := goodIn_app (goodIn_of _ (by decide +kernel)) ggX6_parse_X6_classStatement
set_option maxRecDepth 20000 in
theorem ggX6_parse_X6_userStatement : GoodIn wsX6_parse wsX6_userStatement := goodIn_r _ [130, 56, 4, 131, 132, 88, 89, 90, 91, 92, 93, 94, 62, 63, 64, 11, 65, 66, 14, 67, 8, 9, 10, 12, 13, 1, 3, 15, 16, 2, 17, 18, 19, 20, 21, 22, 23, 24, 25, 26, 27, 28, 29, 30, 31, 32, 33, 34, 35, 36, 37, 38, 39, 40, 41, 42, 43, 44, 45, 46, 47, 48, 49, 95, 96, 97, 98, 99, 100, 101, 102, 103, 104, 105, 106, 107, 58, 59, 60, 61, 108, 109, 110, 111, 68, 69, 70, 71, 72, 73, 74, 75, 76, 77, 78, 79, 133, 134, 135, 115, 136, 137, 138, 139, 121, 122, 123, 124, 125, 126, 178, 179, 180, 181, 182, 183, 184, 185, 186, 187, 190, 191, 192, 193, 194, 195, 196, 197, 198, 199, 200, 201, 202, 203, 204, 205, 206, 207, 188, 189] (by decide +kernel) (by decide +kernel)
set_option maxRecDepth 20000 in
theorem gX6_parse_X6_userStatement : GoodIn wsX6_parse (wsV RX6 56 RX6 yX6_userStatement wsX6_userStatement) := goodIn_app (goodIn_of _ (by decide +kernel)) ggX6_parse_X6_userStatement
set_option maxRecDepth 20000 in
theorem ggX6_parse_X6_groupStatement : GoodIn wsX6_parse wsX6_groupStatement := goodIn_r _ [143, 56, 1, 88, 89, 90, 91, 92, 93, 94, 62, 63, 64, 11, 65, 66, 14, 67, 8, 9, 10, 12, 13, 3, 15, 16, 2, 17, 18, 19, 20, 21, 22, 23, 24, 25, 26, 27, 28, 29, 30, 31, 32, 33, 34, 35, 36, 37, 38, 39, 40, 41, 42, 43, 44, 45, 46, 47, 48, 49, 95, 96, 97, 98, 99, 100, 101, 102, 103, 104, 105, 106, 107, 144, 145, 146, 147, 148, 149, 76, 77, 78, 79, 72, 73, 74, 75, 150, 151, 152, 115, 153, 154, 155, 121, 122, 123, 124, 125, 126, 178, 179, 180, 181, 182, 183, 184, 185, 186, 187, 190, 191, 192, 193, 194, 195, 196, 197, 198, 199, 200, 201, 202, 203, 204, 205, 206, 207, 188, 189] (by decide +kernel) (by decide +kernel)
set_option maxRecDepth 20000 in
theorem gX6_parse_X6_groupStatement : GoodIn wsX6_parse (wsV RX6 62 RX6 yX6_groupStatement wsX6_groupStatement) := goodIn_app (goodIn_of _ (by decide +kernel)) ggX6_parse_X6_groupStatement
set_option maxRecDepth 20000 in
theorem ggX6_parse_X6_holdStatement : GoodIn wsX6_parse wsX6_holdStatement := goodIn_r _ [159, 56, 5, 160, 3, 161, 162, 163, 88, 89, 90, 91, 92, 93, 94, 62, 63, 64, 11, 65, 66, 14, 67, 8, 9, 10, 12, 13, 1, 15, 16, 2, 17, 18, 19, 20, 21, 22, 23, 24, 25, 26, 27, 28, 29, 30, 31, 32, 33, 34, 35, 36, 37, 38, 39, 40, 41, 42, 43, 44, 45, 46, 47, 48, 49, 95, 96, 97, 98, 99, 100, 101, 102, 103, 104, 105, 106, 107, 58, 59, 60, 61, 108, 109, 110, 111, 68, 69, 70, 71, 164, 165, 166, 167, 168, 72, 73, 74, 75, 76, 77, 78, 79, 169, 170, 171, 115, 172, 173, 174, 175, 176, 177, 121, 122, 123, 124, 125, 126, 178, 179, 180, 181, 182, 183, 184, 185, 186, 187, 190, 191, 192, 193, 194, 195, 196, 197, 198, 199, 200, 201, 202, 203, 204, 205, 206, 207, 188, 189] (by decide +kernel) (by decide +kernel)
set_option maxRecDepth 20000 in
theorem gX6_parse_X6_holdStatement : GoodIn wsX6_parse (wsV RX6 68 RX6 yX6_holdStatement wsX6_holdStatement) := goodIn_app (goodIn_of _ (by decide +kernel)) ggX6_parse_X6_holdStatement
set_option maxRecDepth 20000 in
theorem ggX6_parse_X6_fail : GoodIn wsX6_parse wsX6_fail := goodIn_r _ [65, 66, 14, 67, 178, 179, 180, 181, 182, 183, 184, 185, 186, 187] (by decide +kernel) (by decide +kernel)
set_option maxRecDepth 20000 in
theorem gX6_parse_X6_fail : GoodIn wsX6_parse (wsV RX6 71 RX6 yX6_fail wsX6_fail) := goodIn_app (goodIn_of _ (by decide +kernel)) ggX6_parse_X6_fail
theorem dX6_parse_0 : decode cX6_parse 0 = .ok (.aload_n 0, 1) := by decide +kernel
theorem dX6_parse_1 : decode cX6_parse 1 = .ok (.invokevirtual 26, 3) := by decide +kernel
theorem dX6_parse_4 : decode cX6_parse 4 = .ok (.aload_n 0, 1) := by decide +kernel
theorem dX6_parse_5 : decode cX6_parse 5 = .ok (.invokevirtual 29, 3) := by decide +kernel
theorem dX6_parse_8 : decode cX6_parse 8 = .ok (.istore_n 1, 1) := by decide +kernel
theorem dX6_parse_9 : decode cX6_parse 9 = .ok (.iconst 0, 1) := by decide +kernel
theorem dX6_parse_10 : decode cX6_parse 10 = .ok (.istore_n 2, 1) := by decide +kernel
theorem dX6_parse_11 : decode cX6_parse 11 = .ok (.iload_n 2, 1) := by decide +kernel
theorem dX6_parse_12 : decode cX6_parse 12 = .ok (.aload_n 0, 1) := by decide +kernel
theorem dX6_parse_13 : decode cX6_parse 13 = .ok (.getfield 9, 3) := by decide +kernel
theorem dX6_parse_16 : decode cX6_parse 16 = .ok (.getfield 33, 3) := by decide +kernel
theorem dX6_parse_19 : decode cX6_parse 19 = .ok (.if_icmp .ge 98, 3) := by decide +kernel
theorem dX6_parse_22 : decode cX6_parse 22 = .ok (.iload_n 1, 1) := by decide +kernel
theorem dX6_parse_23 : decode cX6_parse 23 = .ok (.ifCond .eq 94, 3) := by decide +kernel
theorem dX6_parse_26 : decode cX6_parse 26 = .ok (.aload_n 0, 1) := by decide +kernel
theorem dX6_parse_27 : decode cX6_parse 27 = .ok (.getfield 38, 3) := by decide +kernel
theorem dX6_parse_30 : decode cX6_parse 30 = .ok (.ifCond .eq 87, 3) := by decide +kernel
theorem dX6_parse_33 : decode cX6_parse 33 = .ok (.aload_n 0, 1) := by decide +kernel
theorem dX6_parse_34 : decode cX6_parse 34 = .ok (.getfield 41, 3) := by decide +kernel
theorem dX6_parse_37 : decode cX6_parse 37 = .ok (.getstatic 45, 3) := by decide +kernel
theorem dX6_parse_40 : decode cX6_parse 40 = .ok (.if_acmp .ne 11, 3) := by decide +kernel
theorem dX6_parse_43 : decode cX6_parse 43 = .ok (.aload_n 0, 1) := by decide +kernel
theorem dX6_parse_44 : decode cX6_parse 44 = .ok (.invokevirtual 50, 3) := by decide +kernel
theorem dX6_parse_47 : decode cX6_parse 47 = .ok (.istore_n 1, 1) := by decide +kernel
theorem dX6_parse_48 : decode cX6_parse 48 = .ok (.goto 63, 3) := by decide +kernel
theorem dX6_parse_51 : decode cX6_parse 51 = .ok (.aload_n 0, 1) := by decide +kernel
theorem dX6_parse_52 : decode cX6_parse 52 = .ok (.getfield 41, 3) := by decide +kernel
theorem dX6_parse_55 : decode cX6_parse 55 = .ok (.getstatic 53, 3) := by decide +kernel
theorem dX6_parse_58 : decode cX6_parse 58 = .ok (.if_acmp .ne 11, 3) := by decide +kernel
theorem dX6_parse_61 : decode cX6_parse 61 = .ok (.aload_n 0, 1) := by decide +kernel
theorem dX6_parse_62 : decode cX6_parse 62 = .ok (.invokevirtual 56, 3) := by decide +kernel
theorem dX6_parse_65 : decode cX6_parse 65 = .ok (.istore_n 1, 1) := by decide +kernel
theorem dX6_parse_66 : decode cX6_parse 66 = .ok (.goto 45, 3) := by decide +kernel
theorem dX6_parse_69 : decode cX6_parse 69 = .ok (.aload_n 0, 1) := by decide +kernel
theorem dX6_parse_70 : decode cX6_parse 70 = .ok (.getfield 41, 3) := by decide +kernel
theorem dX6_parse_73 : decode cX6_parse 73 = .ok (.getstatic 59, 3) := by decide +kernel
theorem dX6_parse_76 : decode cX6_parse 76 = .ok (.if_acmp .ne 11, 3) := by decide +kernel
theorem dX6_parse_79 : decode cX6_parse 79 = .ok (.aload_n 0, 1) := by decide +kernel
theorem dX6_parse_80 : decode cX6_parse 80 = .ok (.invokevirtual 62, 3) := by decide +kernel
theorem dX6_parse_83 : decode cX6_parse 83 = .ok (.istore_n 1, 1) := by decide +kernel
theorem dX6_parse_84 : decode cX6_parse 84 = .ok (.goto 27, 3) := by decide +kernel
theorem dX6_parse_87 : decode cX6_parse 87 = .ok (.aload_n 0, 1) := by decide +kernel
theorem dX6_parse_88 : decode cX6_parse 88 = .ok (.getfield 41, 3) := by decide +kernel
theorem dX6_parse_91 : decode cX6_parse 91 = .ok (.getstatic 65, 3) := by decide +kernel
theorem dX6_parse_94 : decode cX6_parse 94 = .ok (.if_acmp .ne 11, 3) := by decide +kernel
theorem dX6_parse_97 : decode cX6_parse 97 = .ok (.aload_n 0, 1) := by decide +kernel
theorem dX6_parse_98 : decode cX6_parse 98 = .ok (.invokevirtual 68, 3) := by decide +kernel
theorem dX6_parse_101 : decode cX6_parse 101 = .ok (.istore_n 1, 1) := by decide +kernel
theorem dX6_parse_102 : decode cX6_parse 102 = .ok (.goto 9, 3) := by decide +kernel
theorem dX6_parse_105 : decode cX6_parse 105 = .ok (.aload_n 0, 1) := by decide +kernel
theorem dX6_parse_106 : decode cX6_parse 106 = .ok (.iconst 1, 1) := by decide +kernel
theorem dX6_parse_107 : decode cX6_parse 107 = .ok (.invokevirtual 71, 3) := by decide +kernel
theorem dX6_parse_110 : decode cX6_parse 110 = .ok (.istore_n 1, 1) := by decide +kernel
theorem dX6_parse_111 : decode cX6_parse 111 = .ok (.iinc 2 1, 3) := by decide +kernel
theorem dX6_parse_114 : decode cX6_parse 114 = .ok (.goto (-103), 3) := by decide +kernel
theorem dX6_parse_117 : decode cX6_parse 117 = .ok (.iload_n 1, 1) := by decide +kernel
theorem dX6_parse_118 : decode cX6_parse 118 = .ok (.ireturn, 1) := by decide +kernel
set_option maxRecDepth 20000 in
theorem ggX6_spoolStatement_X6_take : GoodIn wsX6_spoolStatement wsX6_take := goodIn_r _ [9, 10, 11, 12, 13, 8, 14, 15, 16, 17, 18, 19, 20, 21, 22, 23, 24, 25, 26, 27, 28, 29, 30, 31, 32, 33, 34, 35, 36, 37, 38, 39, 40, 41, 42, 43, 44, 45, 46, 47, 48, 49, 50, 51, 52, 53, 54, 55, 56, 57, 58, 59, 72, 73, 74, 75, 76, 77, 78, 79, 80, 81, 98, 99] (by decide +kernel) (by decide +kernel)
set_option maxRecDepth 20000 in
theorem gX6_spoolStatement_X6_take : GoodIn wsX6_spoolStatement (wsV RX6 78 RX6 yX6_take wsX6_take) := goodIn_app (goodIn_of _ (by decide +kernel)) ggX6_spoolStatement_X6_take
set_option maxRecDepth 20000 in
theorem ggX6_spoolStatement_X6_takeNumber : GoodIn wsX6_spoolStatement wsX6_takeNumber := goodIn_r _ [63, 26, 25, 11, 12, 13, 8, 14, 15, 16, 17, 18, 19, 20, 21, 22, 23, 10, 24, 27, 28, 29, 30, 31, 32, 33, 34, 35, 36, 37, 38, 39, 40, 41, 42, 43, 44, 45, 46, 47, 48, 49, 50, 51, 52, 53, 54, 55, 56, 57, 58, 59, 72, 73, 74, 75, 76, 77, 78, 79, 80, 81, 98, 99] (by decide +kernel) (by decide +kernel)
set_option maxRecDepth 20000 in
theorem gX6_spoolStatement_X6_takeNumber : GoodIn wsX6_spoolStatement (wsV RX6 85 RX6 yX6_takeNumber wsX6_takeNumber) := goodIn_app (goodIn_of _ (by decide +kernel)) ggX6_spoolStatement_X6_takeNumber
set_option maxRecDepth 20000 in
theorem ggX6_spoolStatement_X6_takeSymbol : GoodIn wsX6_spoolStatement wsX6_takeSymbol := goodIn_r _ [67, 68, 69, 70, 8, 71, 26, 25, 11, 12, 13, 14, 15, 16, 17, 18, 19, 20, 21, 22, 23, 10, 24, 27, 28, 29, 30, 31, 32, 33, 34, 35, 36, 37, 38, 39, 40, 41, 42, 43, 44, 45, 46, 47, 48, 49, 50, 51, 52, 53, 54, 55, 56, 57, 58, 59, 72, 73, 74, 75, 76, 77, 78, 79, 80, 81, 98, 99] (by decide +kernel) (by decide +kernel)
set_option maxRecDepth 20000 in
theorem gX6_spoolStatement_X6_takeSymbol : GoodIn wsX6_spoolStatement (wsV RX6 98 RX6 yX6_takeSymbol wsX6_takeSymbol) := goodIn_app (goodIn_of _ (by decide +kernel)) ggX6_spoolStatement_X6_takeSymbol
theorem dX6_spoolStatement_0 : decode cX6_spoolStatement 0 = .ok (.aload_n 0, 1) := by decide +kernel
theorem dX6_spoolStatement_1 : decode cX6_spoolStatement 1 = .ok (.getstatic 75, 3) := by decide +kernel
theorem dX6_spoolStatement_4 : decode cX6_spoolStatement 4 = .ok (.invokevirtual 78, 3) := by decide +kernel
theorem dX6_spoolStatement_7 : decode cX6_spoolStatement 7 = .ok (.ifCond .eq 13, 3) := by decide +kernel
theorem dX6_spoolStatement_10 : decode cX6_spoolStatement 10 = .ok (.aload_n 0, 1) := by decide +kernel
theorem dX6_spoolStatement_11 : decode cX6_spoolStatement 11 = .ok (.getstatic 82, 3) := by decide +kernel
theorem dX6_spoolStatement_14 : decode cX6_spoolStatement 14 = .ok (.invokevirtual 78, 3) := by decide +kernel
theorem dX6_spoolStatement_17 : decode cX6_spoolStatement 17 = .ok (.ifCond .ne 5, 3) := by decide +kernel
theorem dX6_spoolStatement_20 : decode cX6_spoolStatement 20 = .ok (.iconst 0, 1) := by decide +kernel
theorem dX6_spoolStatement_21 : decode cX6_spoolStatement 21 = .ok (.ireturn, 1) := by decide +kernel
theorem dX6_spoolStatement_22 : decode cX6_spoolStatement 22 = .ok (.aload_n 0, 1) := by decide +kernel
theorem dX6_spoolStatement_23 : decode cX6_spoolStatement 23 = .ok (.getfield 18, 3) := by decide +kernel
theorem dX6_spoolStatement_26 : decode cX6_spoolStatement 26 = .ok (.aload_n 0, 1) := by decide +kernel
theorem dX6_spoolStatement_27 : decode cX6_spoolStatement 27 = .ok (.iconst 0, 1) := by decide +kernel
theorem dX6_spoolStatement_28 : decode cX6_spoolStatement 28 = .ok (.bipush 30, 2) := by decide +kernel
theorem dX6_spoolStatement_30 : decode cX6_spoolStatement 30 = .ok (.invokevirtual 85, 3) := by decide +kernel
theorem dX6_spoolStatement_33 : decode cX6_spoolStatement 33 = .ok (.putfield 89, 3) := by decide +kernel
theorem dX6_spoolStatement_36 : decode cX6_spoolStatement 36 = .ok (.aload_n 0, 1) := by decide +kernel
theorem dX6_spoolStatement_37 : decode cX6_spoolStatement 37 = .ok (.getfield 18, 3) := by decide +kernel
theorem dX6_spoolStatement_40 : decode cX6_spoolStatement 40 = .ok (.getfield 89, 3) := by decide +kernel
theorem dX6_spoolStatement_43 : decode cX6_spoolStatement 43 = .ok (.iconst (-1), 1) := by decide +kernel
theorem dX6_spoolStatement_44 : decode cX6_spoolStatement 44 = .ok (.if_icmp .eq 13, 3) := by decide +kernel
theorem dX6_spoolStatement_47 : decode cX6_spoolStatement 47 = .ok (.aload_n 0, 1) := by decide +kernel
theorem dX6_spoolStatement_48 : decode cX6_spoolStatement 48 = .ok (.getstatic 92, 3) := by decide +kernel
theorem dX6_spoolStatement_51 : decode cX6_spoolStatement 51 = .ok (.invokevirtual 78, 3) := by decide +kernel
theorem dX6_spoolStatement_54 : decode cX6_spoolStatement 54 = .ok (.ifCond .ne 5, 3) := by decide +kernel
theorem dX6_spoolStatement_57 : decode cX6_spoolStatement 57 = .ok (.iconst 0, 1) := by decide +kernel
theorem dX6_spoolStatement_58 : decode cX6_spoolStatement 58 = .ok (.ireturn, 1) := by decide +kernel
theorem dX6_spoolStatement_59 : decode cX6_spoolStatement 59 = .ok (.aload_n 0, 1) := by decide +kernel
theorem dX6_spoolStatement_60 : decode cX6_spoolStatement 60 = .ok (.getfield 18, 3) := by decide +kernel
theorem dX6_spoolStatement_63 : decode cX6_spoolStatement 63 = .ok (.aload_n 0, 1) := by decide +kernel
theorem dX6_spoolStatement_64 : decode cX6_spoolStatement 64 = .ok (.iconst 1, 1) := by decide +kernel
theorem dX6_spoolStatement_65 : decode cX6_spoolStatement 65 = .ok (.bipush 30, 2) := by decide +kernel
theorem dX6_spoolStatement_67 : decode cX6_spoolStatement 67 = .ok (.invokevirtual 85, 3) := by decide +kernel
theorem dX6_spoolStatement_70 : decode cX6_spoolStatement 70 = .ok (.putfield 95, 3) := by decide +kernel
theorem dX6_spoolStatement_73 : decode cX6_spoolStatement 73 = .ok (.aload_n 0, 1) := by decide +kernel
theorem dX6_spoolStatement_74 : decode cX6_spoolStatement 74 = .ok (.getfield 18, 3) := by decide +kernel
theorem dX6_spoolStatement_77 : decode cX6_spoolStatement 77 = .ok (.getfield 95, 3) := by decide +kernel
theorem dX6_spoolStatement_80 : decode cX6_spoolStatement 80 = .ok (.iconst (-1), 1) := by decide +kernel
theorem dX6_spoolStatement_81 : decode cX6_spoolStatement 81 = .ok (.if_icmp .eq 16, 3) := by decide +kernel
theorem dX6_spoolStatement_84 : decode cX6_spoolStatement 84 = .ok (.aload_n 0, 1) := by decide +kernel
theorem dX6_spoolStatement_85 : decode cX6_spoolStatement 85 = .ok (.bipush 59, 2) := by decide +kernel
theorem dX6_spoolStatement_87 : decode cX6_spoolStatement 87 = .ok (.invokevirtual 98, 3) := by decide +kernel
theorem dX6_spoolStatement_90 : decode cX6_spoolStatement 90 = .ok (.ifCond .eq 7, 3) := by decide +kernel
theorem dX6_spoolStatement_93 : decode cX6_spoolStatement 93 = .ok (.iconst 1, 1) := by decide +kernel
theorem dX6_spoolStatement_94 : decode cX6_spoolStatement 94 = .ok (.goto 4, 3) := by decide +kernel
theorem dX6_spoolStatement_97 : decode cX6_spoolStatement 97 = .ok (.iconst 0, 1) := by decide +kernel
theorem dX6_spoolStatement_98 : decode cX6_spoolStatement 98 = .ok (.ireturn, 1) := by decide +kernel
set_option maxRecDepth 20000 in
theorem ggX6_classStatement_X5_isFull : GoodIn wsX6_classStatement wsX5_isFull := goodIn_r _ [11, 12, 13, 138, 139] (by decide +kernel) (by decide +kernel)
set_option maxRecDepth 20000 in
theorem gX6_classStatement_X5_isFull : GoodIn wsX6_classStatement (wsV RX6 105 RX5 yX5_isFull wsX5_isFull) := goodIn_app (goodIn_of _ (by decide +kernel)) ggX6_classStatement_X5_isFull
set_option maxRecDepth 20000 in
theorem ggX6_classStatement_X6_fail : GoodIn wsX6_classStatement wsX6_fail := goodIn_r _ [18, 19, 20, 21, 112, 113, 114, 115, 116, 117, 118, 119, 120, 121] (by decide +kernel) (by decide +kernel)
set_option maxRecDepth 20000 in
theorem gX6_classStatement_X6_fail : GoodIn wsX6_classStatement (wsV RX6 71 RX6 yX6_fail wsX6_fail) := goodIn_app (goodIn_of _ (by decide +kernel)) ggX6_classStatement_X6_fail
set_option maxRecDepth 20000 in
theorem ggX6_classStatement_X6_nextToken : GoodIn wsX6_classStatement wsX6_nextToken := goodIn_r _ [25, 26, 27, 20, 3, 28, 29, 30, 31, 32, 33, 34, 35, 36, 37, 38, 39, 17, 40, 41, 42, 43, 44, 45, 46, 47, 48, 49, 50, 51, 52, 53, 54, 55, 56, 57, 58, 59, 60, 61, 62, 63, 112, 113, 114, 115, 116, 117, 118, 119, 120, 121, 140, 141] (by decide +kernel) (by decide +kernel)
set_option maxRecDepth 20000 in
theorem gX6_classStatement_X6_nextToken : GoodIn wsX6_classStatement (wsV RX6 26 RX6 yX6_nextToken wsX6_nextToken) := goodIn_app (goodIn_of _ (by decide +kernel)) ggX6_classStatement_X6_nextToken
set_option maxRecDepth 20000 in
theorem ggX6_classStatement_X6_takeNewName : GoodIn wsX6_classStatement wsX6_takeNewName := goodIn_r _ [67, 28, 68, 69, 70, 17, 71, 30, 3, 72, 14, 15, 16, 18, 19, 20, 21, 73, 74, 75, 10, 76, 12, 13, 22, 23, 24, 25, 26, 27, 29, 31, 32, 33, 34, 35, 36, 37, 38, 39, 40, 41, 42, 43, 44, 45, 46, 47, 48, 49, 50, 51, 52, 53, 54, 55, 56, 57, 58, 59, 60, 61, 62, 63, 112, 113, 114, 115, 116, 117, 118, 119, 120, 121, 138, 139, 140, 141] (by decide +kernel) (by decide +kernel)
set_option maxRecDepth 20000 in
theorem gX6_classStatement_X6_takeNewName : GoodIn wsX6_classStatement (wsV RX6 110 RX6 yX6_takeNewName wsX6_takeNewName) := goodIn_app (goodIn_of _ (by decide +kernel)) ggX6_classStatement_X6_takeNewName
set_option maxRecDepth 20000 in
theorem ggX6_classStatement_X6_take : GoodIn wsX6_classStatement wsX6_take := goodIn_r _ [80, 3, 14, 15, 16, 17, 18, 19, 20, 21, 22, 23, 24, 25, 26, 27, 28, 29, 30, 31, 32, 33, 34, 35, 36, 37, 38, 39, 40, 41, 42, 43, 44, 45, 46, 47, 48, 49, 50, 51, 52, 53, 54, 55, 56, 57, 58, 59, 60, 61, 62, 63, 112, 113, 114, 115, 116, 117, 118, 119, 120, 121, 140, 141] (by decide +kernel) (by decide +kernel)
set_option maxRecDepth 20000 in
theorem gX6_classStatement_X6_take : GoodIn wsX6_classStatement (wsV RX6 78 RX6 yX6_take wsX6_take) := goodIn_app (goodIn_of _ (by decide +kernel)) ggX6_classStatement_X6_take
set_option maxRecDepth 20000 in
theorem ggX6_classStatement_X6_takeNumber : GoodIn wsX6_classStatement wsX6_takeNumber := goodIn_r _ [84, 30, 29, 14, 15, 16, 17, 18, 19, 20, 21, 22, 23, 24, 25, 26, 27, 3, 28, 31, 32, 33, 34, 35, 36, 37, 38, 39, 40, 41, 42, 43, 44, 45, 46, 47, 48, 49, 50, 51, 52, 53, 54, 55, 56, 57, 58, 59, 60, 61, 62, 63, 112, 113, 114, 115, 116, 117, 118, 119, 120, 121, 140, 141] (by decide +kernel) (by decide +kernel)
set_option maxRecDepth 20000 in
theorem gX6_classStatement_X6_takeNumber : GoodIn wsX6_classStatement (wsV RX6 85 RX6 yX6_takeNumber wsX6_takeNumber) := goodIn_app (goodIn_of _ (by decide +kernel)) ggX6_classStatement_X6_takeNumber
set_option maxRecDepth 20000 in
theorem ggX6_classStatement_X6_takeKnown : GoodIn wsX6_classStatement wsX6_takeKnown := goodIn_r _ [88, 28, 68, 69, 70, 17, 71, 30, 3, 72, 73, 74, 75, 10, 76, 12, 13, 14, 15, 16, 18, 19, 20, 21, 22, 23, 24, 25, 26, 27, 29, 31, 32, 33, 34, 35, 36, 37, 38, 39, 40, 41, 42, 43, 44, 45, 46, 47, 48, 49, 50, 51, 52, 53, 54, 55, 56, 57, 58, 59, 60, 61, 62, 63, 112, 113, 114, 115, 116, 117, 118, 119, 120, 121, 138, 139, 140, 141] (by decide +kernel) (by decide +kernel)
set_option maxRecDepth 20000 in
theorem gX6_classStatement_X6_takeKnown : GoodIn wsX6_classStatement (wsV RX6 126 RX6 yX6_takeKnown wsX6_takeKnown) := goodIn_app (goodIn_of _ (by decide +kernel)) ggX6_classStatement_X6_takeKnown
set_option maxRecDepth 20000 in
theorem ggX6_classStatement_X6_takeSymbol : GoodIn wsX6_classStatement wsX6_takeSymbol := goodIn_r _ [92, 93, 94, 95, 17, 96, 30, 29, 14, 15, 16, 18, 19, 20, 21, 22, 23, 24, 25, 26, 27, 3, 28, 31, 32, 33, 34, 35, 36, 37, 38, 39, 40, 41, 42, 43, 44, 45, 46, 47, 48, 49, 50, 51, 52, 53, 54, 55, 56, 57, 58, 59, 60, 61, 62, 63, 112, 113, 114, 115, 116, 117, 118, 119, 120, 121, 140, 141] (by decide +kernel) (by decide +kernel)
set_option maxRecDepth 20000 in
theorem gX6_classStatement_X6_takeSymbol : GoodIn wsX6_classStatement (wsV RX6 98 RX6 yX6_takeSymbol wsX6_takeSymbol) := goodIn_app (goodIn_of _ (by decide +kernel)) ggX6_classStatement_X6_takeSymbol
set_option maxRecDepth 20000 in
theorem ggX6_classStatement_X7_addClass : GoodIn wsX6_classStatement wsX7_addClass := goodIn_r _ [101, 102, 103, 104, 105, 106, 107, 108, 10, 109, 12, 13, 110, 42, 111, 122, 123, 124, 125, 126, 127, 128, 129, 130, 131, 132, 133, 134, 135, 136, 137, 138, 139] (by decide +kernel) (by decide +kernel)
set_option maxRecDepth 20000 in
theorem gX6_classStatement_X7_addClass : GoodIn wsX6_classStatement (wsV RX6 130 RX7 yX7_addClass wsX7_addClass) := goodIn_app (goodIn_of _ (by decide +kernel)) ggX6_classStatement_X7_addClass
theorem dX6_classStatement_0 : decode cX6_classStatement 0 = .ok (.aload_n 0, 1) := by decide +kernel
theorem dX6_classStatement_1 : decode cX6_classStatement 1 = .ok (.getfield 18, 3) := by decide +kernel
theorem dX6_classStatement_4 : decode cX6_classStatement 4 = .ok (.getfield 101, 3) := by decide +kernel
theorem dX6_classStatement_7 : decode cX6_classStatement 7 = .ok (.invokevirtual 105, 3) := by decide +kernel
theorem dX6_classStatement_10 : decode cX6_classStatement 10 = .ok (.ifCond .eq 9, 3) := by decide +kernel
theorem dX6_classStatement_13 : decode cX6_classStatement 13 = .ok (.aload_n 0, 1) := by decide +kernel
theorem dX6_classStatement_14 : decode cX6_classStatement 14 = .ok (.iconst 4, 1) := by decide +kernel
theorem dX6_classStatement_15 : decode cX6_classStatement 15 = .ok (.invokevirtual 71, 3) := by decide +kernel
theorem dX6_classStatement_18 : decode cX6_classStatement 18 = .ok (.ireturn, 1) := by decide +kernel
theorem dX6_classStatement_19 : decode cX6_classStatement 19 = .ok (.aload_n 0, 1) := by decide +kernel
theorem dX6_classStatement_20 : decode cX6_classStatement 20 = .ok (.invokevirtual 26, 3) := by decide +kernel
theorem dX6_classStatement_23 : decode cX6_classStatement 23 = .ok (.aload_n 0, 1) := by decide +kernel
theorem dX6_classStatement_24 : decode cX6_classStatement 24 = .ok (.aload_n 0, 1) := by decide +kernel
theorem dX6_classStatement_25 : decode cX6_classStatement 25 = .ok (.getfield 18, 3) := by decide +kernel
theorem dX6_classStatement_28 : decode cX6_classStatement 28 = .ok (.getfield 101, 3) := by decide +kernel
theorem dX6_classStatement_31 : decode cX6_classStatement 31 = .ok (.aload_n 0, 1) := by decide +kernel
theorem dX6_classStatement_32 : decode cX6_classStatement 32 = .ok (.getfield 18, 3) := by decide +kernel
theorem dX6_classStatement_35 : decode cX6_classStatement 35 = .ok (.getfield 101, 3) := by decide +kernel
theorem dX6_classStatement_38 : decode cX6_classStatement 38 = .ok (.invokevirtual 110, 3) := by decide +kernel
theorem dX6_classStatement_41 : decode cX6_classStatement 41 = .ok (.lstore_n 1, 1) := by decide +kernel
theorem dX6_classStatement_42 : decode cX6_classStatement 42 = .ok (.lload_n 1, 1) := by decide +kernel
theorem dX6_classStatement_43 : decode cX6_classStatement 43 = .ok (.lconst 0, 1) := by decide +kernel
theorem dX6_classStatement_44 : decode cX6_classStatement 44 = .ok (.lcmp, 1) := by decide +kernel
theorem dX6_classStatement_45 : decode cX6_classStatement 45 = .ok (.ifCond .eq 13, 3) := by decide +kernel
theorem dX6_classStatement_48 : decode cX6_classStatement 48 = .ok (.aload_n 0, 1) := by decide +kernel
theorem dX6_classStatement_49 : decode cX6_classStatement 49 = .ok (.getstatic 114, 3) := by decide +kernel
theorem dX6_classStatement_52 : decode cX6_classStatement 52 = .ok (.invokevirtual 78, 3) := by decide +kernel
theorem dX6_classStatement_55 : decode cX6_classStatement 55 = .ok (.ifCond .ne 5, 3) := by decide +kernel
theorem dX6_classStatement_58 : decode cX6_classStatement 58 = .ok (.iconst 0, 1) := by decide +kernel
theorem dX6_classStatement_59 : decode cX6_classStatement 59 = .ok (.ireturn, 1) := by decide +kernel
theorem dX6_classStatement_60 : decode cX6_classStatement 60 = .ok (.iconst (-1), 1) := by decide +kernel
theorem dX6_classStatement_61 : decode cX6_classStatement 61 = .ok (.istore_n 3, 1) := by decide +kernel
theorem dX6_classStatement_62 : decode cX6_classStatement 62 = .ok (.aload_n 0, 1) := by decide +kernel
theorem dX6_classStatement_63 : decode cX6_classStatement 63 = .ok (.getfield 41, 3) := by decide +kernel
theorem dX6_classStatement_66 : decode cX6_classStatement 66 = .ok (.getstatic 117, 3) := by decide +kernel
theorem dX6_classStatement_69 : decode cX6_classStatement 69 = .ok (.if_acmp .ne 10, 3) := by decide +kernel
theorem dX6_classStatement_72 : decode cX6_classStatement 72 = .ok (.aload_n 0, 1) := by decide +kernel
theorem dX6_classStatement_73 : decode cX6_classStatement 73 = .ok (.invokevirtual 26, 3) := by decide +kernel
theorem dX6_classStatement_76 : decode cX6_classStatement 76 = .ok (.goto 19, 3) := by decide +kernel
theorem dX6_classStatement_79 : decode cX6_classStatement 79 = .ok (.aload_n 0, 1) := by decide +kernel
theorem dX6_classStatement_80 : decode cX6_classStatement 80 = .ok (.iconst 1, 1) := by decide +kernel
theorem dX6_classStatement_81 : decode cX6_classStatement 81 = .ok (.sipush 999, 3) := by decide +kernel
theorem dX6_classStatement_84 : decode cX6_classStatement 84 = .ok (.invokevirtual 85, 3) := by decide +kernel
theorem dX6_classStatement_87 : decode cX6_classStatement 87 = .ok (.istore_n 3, 1) := by decide +kernel
theorem dX6_classStatement_88 : decode cX6_classStatement 88 = .ok (.iload_n 3, 1) := by decide +kernel
theorem dX6_classStatement_89 : decode cX6_classStatement 89 = .ok (.iconst (-1), 1) := by decide +kernel
theorem dX6_classStatement_90 : decode cX6_classStatement 90 = .ok (.if_icmp .ne 5, 3) := by decide +kernel
theorem dX6_classStatement_93 : decode cX6_classStatement 93 = .ok (.iconst 0, 1) := by decide +kernel
theorem dX6_classStatement_94 : decode cX6_classStatement 94 = .ok (.ireturn, 1) := by decide +kernel
theorem dX6_classStatement_95 : decode cX6_classStatement 95 = .ok (.iconst 0, 1) := by decide +kernel
theorem dX6_classStatement_96 : decode cX6_classStatement 96 = .ok (.istore 4, 2) := by decide +kernel
theorem dX6_classStatement_98 : decode cX6_classStatement 98 = .ok (.aload_n 0, 1) := by decide +kernel
theorem dX6_classStatement_99 : decode cX6_classStatement 99 = .ok (.getfield 41, 3) := by decide +kernel
theorem dX6_classStatement_102 : decode cX6_classStatement 102 = .ok (.getstatic 120, 3) := by decide +kernel
theorem dX6_classStatement_105 : decode cX6_classStatement 105 = .ok (.if_acmp .ne 24, 3) := by decide +kernel
theorem dX6_classStatement_108 : decode cX6_classStatement 108 = .ok (.aload_n 0, 1) := by decide +kernel
theorem dX6_classStatement_109 : decode cX6_classStatement 109 = .ok (.invokevirtual 26, 3) := by decide +kernel
theorem dX6_classStatement_112 : decode cX6_classStatement 112 = .ok (.aload_n 0, 1) := by decide +kernel
theorem dX6_classStatement_113 : decode cX6_classStatement 113 = .ok (.iconst 1, 1) := by decide +kernel
theorem dX6_classStatement_114 : decode cX6_classStatement 114 = .ok (.bipush 99, 2) := by decide +kernel
theorem dX6_classStatement_116 : decode cX6_classStatement 116 = .ok (.invokevirtual 85, 3) := by decide +kernel
theorem dX6_classStatement_119 : decode cX6_classStatement 119 = .ok (.istore 4, 2) := by decide +kernel
theorem dX6_classStatement_121 : decode cX6_classStatement 121 = .ok (.iload 4, 2) := by decide +kernel
theorem dX6_classStatement_123 : decode cX6_classStatement 123 = .ok (.iconst (-1), 1) := by decide +kernel
theorem dX6_classStatement_124 : decode cX6_classStatement 124 = .ok (.if_icmp .ne 5, 3) := by decide +kernel
theorem dX6_classStatement_127 : decode cX6_classStatement 127 = .ok (.iconst 0, 1) := by decide +kernel
theorem dX6_classStatement_128 : decode cX6_classStatement 128 = .ok (.ireturn, 1) := by decide +kernel
theorem dX6_classStatement_129 : decode cX6_classStatement 129 = .ok (.iconst (-1), 1) := by decide +kernel
theorem dX6_classStatement_130 : decode cX6_classStatement 130 = .ok (.istore 5, 2) := by decide +kernel
theorem dX6_classStatement_132 : decode cX6_classStatement 132 = .ok (.aload_n 0, 1) := by decide +kernel
theorem dX6_classStatement_133 : decode cX6_classStatement 133 = .ok (.getfield 41, 3) := by decide +kernel
theorem dX6_classStatement_136 : decode cX6_classStatement 136 = .ok (.getstatic 123, 3) := by decide +kernel
theorem dX6_classStatement_139 : decode cX6_classStatement 139 = .ok (.if_acmp .ne 28, 3) := by decide +kernel
theorem dX6_classStatement_142 : decode cX6_classStatement 142 = .ok (.aload_n 0, 1) := by decide +kernel
theorem dX6_classStatement_143 : decode cX6_classStatement 143 = .ok (.invokevirtual 26, 3) := by decide +kernel
theorem dX6_classStatement_146 : decode cX6_classStatement 146 = .ok (.aload_n 0, 1) := by decide +kernel
theorem dX6_classStatement_147 : decode cX6_classStatement 147 = .ok (.aload_n 0, 1) := by decide +kernel
theorem dX6_classStatement_148 : decode cX6_classStatement 148 = .ok (.getfield 18, 3) := by decide +kernel
theorem dX6_classStatement_151 : decode cX6_classStatement 151 = .ok (.getfield 101, 3) := by decide +kernel
theorem dX6_classStatement_154 : decode cX6_classStatement 154 = .ok (.invokevirtual 126, 3) := by decide +kernel
theorem dX6_classStatement_157 : decode cX6_classStatement 157 = .ok (.istore 5, 2) := by decide +kernel
theorem dX6_classStatement_159 : decode cX6_classStatement 159 = .ok (.iload 5, 2) := by decide +kernel
theorem dX6_classStatement_161 : decode cX6_classStatement 161 = .ok (.iconst (-1), 1) := by decide +kernel
theorem dX6_classStatement_162 : decode cX6_classStatement 162 = .ok (.if_icmp .ne 5, 3) := by decide +kernel
theorem dX6_classStatement_165 : decode cX6_classStatement 165 = .ok (.iconst 0, 1) := by decide +kernel
theorem dX6_classStatement_166 : decode cX6_classStatement 166 = .ok (.ireturn, 1) := by decide +kernel
theorem dX6_classStatement_167 : decode cX6_classStatement 167 = .ok (.aload_n 0, 1) := by decide +kernel
theorem dX6_classStatement_168 : decode cX6_classStatement 168 = .ok (.bipush 59, 2) := by decide +kernel
theorem dX6_classStatement_170 : decode cX6_classStatement 170 = .ok (.invokevirtual 98, 3) := by decide +kernel
theorem dX6_classStatement_173 : decode cX6_classStatement 173 = .ok (.ifCond .ne 5, 3) := by decide +kernel
theorem dX6_classStatement_176 : decode cX6_classStatement 176 = .ok (.iconst 0, 1) := by decide +kernel
theorem dX6_classStatement_177 : decode cX6_classStatement 177 = .ok (.ireturn, 1) := by decide +kernel
theorem dX6_classStatement_178 : decode cX6_classStatement 178 = .ok (.aload_n 0, 1) := by decide +kernel
theorem dX6_classStatement_179 : decode cX6_classStatement 179 = .ok (.getfield 18, 3) := by decide +kernel
theorem dX6_classStatement_182 : decode cX6_classStatement 182 = .ok (.lload_n 1, 1) := by decide +kernel
theorem dX6_classStatement_183 : decode cX6_classStatement 183 = .ok (.iload_n 3, 1) := by decide +kernel
theorem dX6_classStatement_184 : decode cX6_classStatement 184 = .ok (.iload 4, 2) := by decide +kernel
theorem dX6_classStatement_186 : decode cX6_classStatement 186 = .ok (.iload 5, 2) := by decide +kernel
theorem dX6_classStatement_188 : decode cX6_classStatement 188 = .ok (.invokevirtual 130, 3) := by decide +kernel
theorem dX6_classStatement_191 : decode cX6_classStatement 191 = .ok (.iconst 1, 1) := by decide +kernel
theorem dX6_classStatement_192 : decode cX6_classStatement 192 = .ok (.ireturn, 1) := by decide +kernel
set_option maxRecDepth 20000 in
theorem ggX6_userStatement_X5_isFull : GoodIn wsX6_userStatement wsX5_isFull := goodIn_r _ [9, 10, 11, 136, 137] (by decide +kernel) (by decide +kernel)
set_option maxRecDepth 20000 in
theorem gX6_userStatement_X5_isFull : GoodIn wsX6_userStatement (wsV RX6 105 RX5 yX5_isFull wsX5_isFull) := goodIn_app (goodIn_of _ (by decide +kernel)) ggX6_userStatement_X5_isFull
set_option maxRecDepth 20000 in
theorem ggX6_userStatement_X6_fail : GoodIn wsX6_userStatement wsX6_fail := goodIn_r _ [16, 17, 18, 19, 110, 111, 112, 113, 114, 115, 116, 117, 118, 119] (by decide +kernel) (by decide +kernel)
set_option maxRecDepth 20000 in
theorem gX6_userStatement_X6_fail : GoodIn wsX6_userStatement (wsV RX6 71 RX6 yX6_fail wsX6_fail) := goodIn_app (goodIn_of _ (by decide +kernel)) ggX6_userStatement_X6_fail
set_option maxRecDepth 20000 in
theorem ggX6_userStatement_X6_nextToken : GoodIn wsX6_userStatement wsX6_nextToken := goodIn_r _ [23, 24, 25, 18, 26, 27, 28, 29, 30, 31, 32, 33, 34, 35, 36, 37, 38, 15, 39, 40, 41, 42, 43, 44, 45, 46, 47, 48, 49, 50, 51, 52, 53, 54, 55, 56, 57, 58, 59, 60, 61, 62, 110, 111, 112, 113, 114, 115, 116, 117, 118, 119, 138, 139] (by decide +kernel) (by decide +kernel)
set_option maxRecDepth 20000 in
theorem gX6_userStatement_X6_nextToken : GoodIn wsX6_userStatement (wsV RX6 26 RX6 yX6_nextToken wsX6_nextToken) := goodIn_app (goodIn_of _ (by decide +kernel)) ggX6_userStatement_X6_nextToken
set_option maxRecDepth 20000 in
theorem ggX6_userStatement_X6_takeNewName : GoodIn wsX6_userStatement wsX6_takeNewName := goodIn_r _ [66, 27, 67, 68, 69, 15, 70, 29, 26, 71, 12, 13, 14, 16, 17, 18, 19, 72, 73, 74, 8, 75, 10, 11, 20, 21, 22, 23, 24, 25, 28, 30, 31, 32, 33, 34, 35, 36, 37, 38, 39, 40, 41, 42, 43, 44, 45, 46, 47, 48, 49, 50, 51, 52, 53, 54, 55, 56, 57, 58, 59, 60, 61, 62, 110, 111, 112, 113, 114, 115, 116, 117, 118, 119, 136, 137, 138, 139] (by decide +kernel) (by decide +kernel)
set_option maxRecDepth 20000 in
theorem gX6_userStatement_X6_takeNewName : GoodIn wsX6_userStatement (wsV RX6 110 RX6 yX6_takeNewName wsX6_takeNewName) := goodIn_app (goodIn_of _ (by decide +kernel)) ggX6_userStatement_X6_takeNewName
set_option maxRecDepth 20000 in
theorem ggX6_userStatement_X6_take : GoodIn wsX6_userStatement wsX6_take := goodIn_r _ [79, 26, 12, 13, 14, 15, 16, 17, 18, 19, 20, 21, 22, 23, 24, 25, 27, 28, 29, 30, 31, 32, 33, 34, 35, 36, 37, 38, 39, 40, 41, 42, 43, 44, 45, 46, 47, 48, 49, 50, 51, 52, 53, 54, 55, 56, 57, 58, 59, 60, 61, 62, 110, 111, 112, 113, 114, 115, 116, 117, 118, 119, 138, 139] (by decide +kernel) (by decide +kernel)
set_option maxRecDepth 20000 in
theorem gX6_userStatement_X6_take : GoodIn wsX6_userStatement (wsV RX6 78 RX6 yX6_take wsX6_take) := goodIn_app (goodIn_of _ (by decide +kernel)) ggX6_userStatement_X6_take
set_option maxRecDepth 20000 in
theorem ggX6_userStatement_X6_takeKnown : GoodIn wsX6_userStatement wsX6_takeKnown := goodIn_r _ [83, 27, 67, 68, 69, 15, 70, 29, 26, 71, 72, 73, 74, 8, 75, 10, 11, 12, 13, 14, 16, 17, 18, 19, 20, 21, 22, 23, 24, 25, 28, 30, 31, 32, 33, 34, 35, 36, 37, 38, 39, 40, 41, 42, 43, 44, 45, 46, 47, 48, 49, 50, 51, 52, 53, 54, 55, 56, 57, 58, 59, 60, 61, 62, 110, 111, 112, 113, 114, 115, 116, 117, 118, 119, 136, 137, 138, 139] (by decide +kernel) (by decide +kernel)
set_option maxRecDepth 20000 in
theorem gX6_userStatement_X6_takeKnown : GoodIn wsX6_userStatement (wsV RX6 126 RX6 yX6_takeKnown wsX6_takeKnown) := goodIn_app (goodIn_of _ (by decide +kernel)) ggX6_userStatement_X6_takeKnown
set_option maxRecDepth 20000 in
theorem ggX6_userStatement_X6_takeNumber : GoodIn wsX6_userStatement wsX6_takeNumber := goodIn_r _ [87, 29, 28, 12, 13, 14, 15, 16, 17, 18, 19, 20, 21, 22, 23, 24, 25, 26, 27, 30, 31, 32, 33, 34, 35, 36, 37, 38, 39, 40, 41, 42, 43, 44, 45, 46, 47, 48, 49, 50, 51, 52, 53, 54, 55, 56, 57, 58, 59, 60, 61, 62, 110, 111, 112, 113, 114, 115, 116, 117, 118, 119, 138, 139] (by decide +kernel) (by decide +kernel)
set_option maxRecDepth 20000 in
theorem gX6_userStatement_X6_takeNumber : GoodIn wsX6_userStatement (wsV RX6 85 RX6 yX6_takeNumber wsX6_takeNumber) := goodIn_app (goodIn_of _ (by decide +kernel)) ggX6_userStatement_X6_takeNumber
set_option maxRecDepth 20000 in
theorem ggX6_userStatement_X6_takeSymbol : GoodIn wsX6_userStatement wsX6_takeSymbol := goodIn_r _ [91, 92, 93, 94, 15, 95, 29, 28, 12, 13, 14, 16, 17, 18, 19, 20, 21, 22, 23, 24, 25, 26, 27, 30, 31, 32, 33, 34, 35, 36, 37, 38, 39, 40, 41, 42, 43, 44, 45, 46, 47, 48, 49, 50, 51, 52, 53, 54, 55, 56, 57, 58, 59, 60, 61, 62, 110, 111, 112, 113, 114, 115, 116, 117, 118, 119, 138, 139] (by decide +kernel) (by decide +kernel)
set_option maxRecDepth 20000 in
theorem gX6_userStatement_X6_takeSymbol : GoodIn wsX6_userStatement (wsV RX6 98 RX6 yX6_takeSymbol wsX6_takeSymbol) := goodIn_app (goodIn_of _ (by decide +kernel)) ggX6_userStatement_X6_takeSymbol
set_option maxRecDepth 20000 in
theorem ggX6_userStatement_X7_addUser : GoodIn wsX6_userStatement wsX7_addUser := goodIn_r _ [100, 101, 102, 103, 104, 105, 106, 8, 107, 10, 11, 108, 41, 109, 120, 121, 122, 123, 124, 125, 126, 127, 128, 129, 130, 131, 132, 133, 134, 135, 136, 137] (by decide +kernel) (by decide +kernel)
set_option maxRecDepth 20000 in
theorem gX6_userStatement_X7_addUser : GoodIn wsX6_userStatement (wsV RX6 145 RX7 yX7_addUser wsX7_addUser) := goodIn_app (goodIn_of _ (by decide +kernel)) ggX6_userStatement_X7_addUser
theorem dX6_userStatement_0 : decode cX6_userStatement 0 = .ok (.aload_n 0, 1) := by decide +kernel
theorem dX6_userStatement_1 : decode cX6_userStatement 1 = .ok (.getfield 18, 3) := by decide +kernel
theorem dX6_userStatement_4 : decode cX6_userStatement 4 = .ok (.getfield 134, 3) := by decide +kernel
theorem dX6_userStatement_7 : decode cX6_userStatement 7 = .ok (.invokevirtual 105, 3) := by decide +kernel
theorem dX6_userStatement_10 : decode cX6_userStatement 10 = .ok (.ifCond .ne 16, 3) := by decide +kernel
theorem dX6_userStatement_13 : decode cX6_userStatement 13 = .ok (.aload_n 0, 1) := by decide +kernel
theorem dX6_userStatement_14 : decode cX6_userStatement 14 = .ok (.getfield 18, 3) := by decide +kernel
theorem dX6_userStatement_17 : decode cX6_userStatement 17 = .ok (.getfield 101, 3) := by decide +kernel
theorem dX6_userStatement_20 : decode cX6_userStatement 20 = .ok (.getfield 137, 3) := by decide +kernel
theorem dX6_userStatement_23 : decode cX6_userStatement 23 = .ok (.ifCond .ne 9, 3) := by decide +kernel
theorem dX6_userStatement_26 : decode cX6_userStatement 26 = .ok (.aload_n 0, 1) := by decide +kernel
theorem dX6_userStatement_27 : decode cX6_userStatement 27 = .ok (.iconst 4, 1) := by decide +kernel
theorem dX6_userStatement_28 : decode cX6_userStatement 28 = .ok (.invokevirtual 71, 3) := by decide +kernel
theorem dX6_userStatement_31 : decode cX6_userStatement 31 = .ok (.ireturn, 1) := by decide +kernel
theorem dX6_userStatement_32 : decode cX6_userStatement 32 = .ok (.aload_n 0, 1) := by decide +kernel
theorem dX6_userStatement_33 : decode cX6_userStatement 33 = .ok (.invokevirtual 26, 3) := by decide +kernel
theorem dX6_userStatement_36 : decode cX6_userStatement 36 = .ok (.aload_n 0, 1) := by decide +kernel
theorem dX6_userStatement_37 : decode cX6_userStatement 37 = .ok (.aload_n 0, 1) := by decide +kernel
theorem dX6_userStatement_38 : decode cX6_userStatement 38 = .ok (.getfield 18, 3) := by decide +kernel
theorem dX6_userStatement_41 : decode cX6_userStatement 41 = .ok (.getfield 134, 3) := by decide +kernel
theorem dX6_userStatement_44 : decode cX6_userStatement 44 = .ok (.aload_n 0, 1) := by decide +kernel
theorem dX6_userStatement_45 : decode cX6_userStatement 45 = .ok (.getfield 18, 3) := by decide +kernel
theorem dX6_userStatement_48 : decode cX6_userStatement 48 = .ok (.getfield 138, 3) := by decide +kernel
theorem dX6_userStatement_51 : decode cX6_userStatement 51 = .ok (.invokevirtual 110, 3) := by decide +kernel
theorem dX6_userStatement_54 : decode cX6_userStatement 54 = .ok (.lstore_n 1, 1) := by decide +kernel
theorem dX6_userStatement_55 : decode cX6_userStatement 55 = .ok (.lload_n 1, 1) := by decide +kernel
theorem dX6_userStatement_56 : decode cX6_userStatement 56 = .ok (.lconst 0, 1) := by decide +kernel
theorem dX6_userStatement_57 : decode cX6_userStatement 57 = .ok (.lcmp, 1) := by decide +kernel
theorem dX6_userStatement_58 : decode cX6_userStatement 58 = .ok (.ifCond .eq 13, 3) := by decide +kernel
theorem dX6_userStatement_61 : decode cX6_userStatement 61 = .ok (.aload_n 0, 1) := by decide +kernel
theorem dX6_userStatement_62 : decode cX6_userStatement 62 = .ok (.getstatic 45, 3) := by decide +kernel
theorem dX6_userStatement_65 : decode cX6_userStatement 65 = .ok (.invokevirtual 78, 3) := by decide +kernel
theorem dX6_userStatement_68 : decode cX6_userStatement 68 = .ok (.ifCond .ne 5, 3) := by decide +kernel
theorem dX6_userStatement_71 : decode cX6_userStatement 71 = .ok (.iconst 0, 1) := by decide +kernel
theorem dX6_userStatement_72 : decode cX6_userStatement 72 = .ok (.ireturn, 1) := by decide +kernel
theorem dX6_userStatement_73 : decode cX6_userStatement 73 = .ok (.aload_n 0, 1) := by decide +kernel
theorem dX6_userStatement_74 : decode cX6_userStatement 74 = .ok (.aload_n 0, 1) := by decide +kernel
theorem dX6_userStatement_75 : decode cX6_userStatement 75 = .ok (.getfield 18, 3) := by decide +kernel
theorem dX6_userStatement_78 : decode cX6_userStatement 78 = .ok (.getfield 101, 3) := by decide +kernel
theorem dX6_userStatement_81 : decode cX6_userStatement 81 = .ok (.invokevirtual 126, 3) := by decide +kernel
theorem dX6_userStatement_84 : decode cX6_userStatement 84 = .ok (.istore_n 3, 1) := by decide +kernel
theorem dX6_userStatement_85 : decode cX6_userStatement 85 = .ok (.iload_n 3, 1) := by decide +kernel
theorem dX6_userStatement_86 : decode cX6_userStatement 86 = .ok (.iconst (-1), 1) := by decide +kernel
theorem dX6_userStatement_87 : decode cX6_userStatement 87 = .ok (.if_icmp .eq 13, 3) := by decide +kernel
theorem dX6_userStatement_90 : decode cX6_userStatement 90 = .ok (.aload_n 0, 1) := by decide +kernel
theorem dX6_userStatement_91 : decode cX6_userStatement 91 = .ok (.getstatic 141, 3) := by decide +kernel
theorem dX6_userStatement_94 : decode cX6_userStatement 94 = .ok (.invokevirtual 78, 3) := by decide +kernel
theorem dX6_userStatement_97 : decode cX6_userStatement 97 = .ok (.ifCond .ne 5, 3) := by decide +kernel
theorem dX6_userStatement_100 : decode cX6_userStatement 100 = .ok (.iconst 0, 1) := by decide +kernel
theorem dX6_userStatement_101 : decode cX6_userStatement 101 = .ok (.ireturn, 1) := by decide +kernel
theorem dX6_userStatement_102 : decode cX6_userStatement 102 = .ok (.aload_n 0, 1) := by decide +kernel
theorem dX6_userStatement_103 : decode cX6_userStatement 103 = .ok (.iconst 1, 1) := by decide +kernel
theorem dX6_userStatement_104 : decode cX6_userStatement 104 = .ok (.ldc 144, 2) := by decide +kernel
theorem dX6_userStatement_106 : decode cX6_userStatement 106 = .ok (.invokevirtual 85, 3) := by decide +kernel
theorem dX6_userStatement_109 : decode cX6_userStatement 109 = .ok (.istore 4, 2) := by decide +kernel
theorem dX6_userStatement_111 : decode cX6_userStatement 111 = .ok (.iload 4, 2) := by decide +kernel
theorem dX6_userStatement_113 : decode cX6_userStatement 113 = .ok (.iconst (-1), 1) := by decide +kernel
theorem dX6_userStatement_114 : decode cX6_userStatement 114 = .ok (.if_icmp .eq 12, 3) := by decide +kernel
theorem dX6_userStatement_117 : decode cX6_userStatement 117 = .ok (.aload_n 0, 1) := by decide +kernel
theorem dX6_userStatement_118 : decode cX6_userStatement 118 = .ok (.bipush 59, 2) := by decide +kernel
theorem dX6_userStatement_120 : decode cX6_userStatement 120 = .ok (.invokevirtual 98, 3) := by decide +kernel
theorem dX6_userStatement_123 : decode cX6_userStatement 123 = .ok (.ifCond .ne 5, 3) := by decide +kernel
theorem dX6_userStatement_126 : decode cX6_userStatement 126 = .ok (.iconst 0, 1) := by decide +kernel
theorem dX6_userStatement_127 : decode cX6_userStatement 127 = .ok (.ireturn, 1) := by decide +kernel
theorem dX6_userStatement_128 : decode cX6_userStatement 128 = .ok (.aload_n 0, 1) := by decide +kernel
theorem dX6_userStatement_129 : decode cX6_userStatement 129 = .ok (.getfield 18, 3) := by decide +kernel
theorem dX6_userStatement_132 : decode cX6_userStatement 132 = .ok (.lload_n 1, 1) := by decide +kernel
theorem dX6_userStatement_133 : decode cX6_userStatement 133 = .ok (.iload_n 3, 1) := by decide +kernel
theorem dX6_userStatement_134 : decode cX6_userStatement 134 = .ok (.iload 4, 2) := by decide +kernel
theorem dX6_userStatement_136 : decode cX6_userStatement 136 = .ok (.invokevirtual 145, 3) := by decide +kernel
theorem dX6_userStatement_139 : decode cX6_userStatement 139 = .ok (.iconst 1, 1) := by decide +kernel
theorem dX6_userStatement_140 : decode cX6_userStatement 140 = .ok (.ireturn, 1) := by decide +kernel
set_option maxRecDepth 20000 in
theorem ggX6_groupStatement_X5_isFull : GoodIn wsX6_groupStatement wsX5_isFull := goodIn_r _ [7, 8, 9, 126, 127] (by decide +kernel) (by decide +kernel)
set_option maxRecDepth 20000 in
theorem gX6_groupStatement_X5_isFull : GoodIn wsX6_groupStatement (wsV RX6 105 RX5 yX5_isFull wsX5_isFull) := goodIn_app (goodIn_of _ (by decide +kernel)) ggX6_groupStatement_X5_isFull
set_option maxRecDepth 20000 in
theorem ggX6_groupStatement_X6_fail : GoodIn wsX6_groupStatement wsX6_fail := goodIn_r _ [14, 15, 16, 17, 100, 101, 102, 103, 104, 105, 106, 107, 108, 109] (by decide +kernel) (by decide +kernel)
set_option maxRecDepth 20000 in
theorem gX6_groupStatement_X6_fail : GoodIn wsX6_groupStatement (wsV RX6 71 RX6 yX6_fail wsX6_fail) := goodIn_app (goodIn_of _ (by decide +kernel)) ggX6_groupStatement_X6_fail
set_option maxRecDepth 20000 in
theorem ggX6_groupStatement_X6_nextToken : GoodIn wsX6_groupStatement wsX6_nextToken := goodIn_r _ [21, 22, 2, 16, 23, 24, 25, 26, 27, 28, 29, 30, 31, 32, 33, 34, 35, 13, 36, 37, 38, 39, 40, 41, 42, 43, 44, 45, 46, 47, 48, 49, 50, 51, 52, 53, 54, 55, 56, 57, 58, 59, 100, 101, 102, 103, 104, 105, 106, 107, 108, 109, 128, 129] (by decide +kernel) (by decide +kernel)
set_option maxRecDepth 20000 in
theorem gX6_groupStatement_X6_nextToken : GoodIn wsX6_groupStatement (wsV RX6 26 RX6 yX6_nextToken wsX6_nextToken) := goodIn_app (goodIn_of _ (by decide +kernel)) ggX6_groupStatement_X6_nextToken
set_option maxRecDepth 20000 in
theorem ggX6_groupStatement_X6_takeNewName : GoodIn wsX6_groupStatement wsX6_takeNewName := goodIn_r _ [63, 24, 64, 65, 66, 13, 67, 26, 23, 68, 10, 11, 12, 14, 15, 16, 17, 69, 70, 71, 6, 72, 8, 9, 18, 19, 20, 21, 22, 2, 25, 27, 28, 29, 30, 31, 32, 33, 34, 35, 36, 37, 38, 39, 40, 41, 42, 43, 44, 45, 46, 47, 48, 49, 50, 51, 52, 53, 54, 55, 56, 57, 58, 59, 100, 101, 102, 103, 104, 105, 106, 107, 108, 109, 126, 127, 128, 129] (by decide +kernel) (by decide +kernel)
set_option maxRecDepth 20000 in
theorem gX6_groupStatement_X6_takeNewName : GoodIn wsX6_groupStatement (wsV RX6 110 RX6 yX6_takeNewName wsX6_takeNewName) := goodIn_app (goodIn_of _ (by decide +kernel)) ggX6_groupStatement_X6_takeNewName
set_option maxRecDepth 20000 in
theorem ggX6_groupStatement_X6_takeMember : GoodIn wsX6_groupStatement wsX6_takeMember := goodIn_r _ [76, 1, 24, 64, 65, 66, 13, 67, 26, 23, 68, 69, 70, 71, 6, 72, 8, 9, 10, 11, 12, 14, 15, 16, 17, 18, 19, 20, 21, 22, 2, 25, 27, 28, 29, 30, 31, 32, 33, 34, 35, 36, 37, 38, 39, 40, 41, 42, 43, 44, 45, 46, 47, 48, 49, 50, 51, 52, 53, 54, 55, 56, 57, 58, 59, 77, 78, 100, 101, 102, 103, 104, 105, 106, 107, 108, 109, 110, 111, 112, 113, 114, 115, 116, 117, 118, 119, 120, 121, 122, 123, 124, 125, 126, 127, 128, 129] (by decide +kernel) (by decide +kernel)
set_option maxRecDepth 20000 in
theorem gX6_groupStatement_X6_takeMember : GoodIn wsX6_groupStatement (wsV RX6 149 RX6 yX6_takeMember wsX6_takeMember) := goodIn_app (goodIn_of _ (by decide +kernel)) ggX6_groupStatement_X6_takeMember
set_option maxRecDepth 20000 in
theorem ggX6_groupStatement_X6_isSymbol : GoodIn wsX6_groupStatement wsX6_isSymbol := goodIn_r _ [82, 26, 25, 100, 101, 102, 103, 104, 105, 106, 107, 108, 109] (by decide +kernel) (by decide +kernel)
set_option maxRecDepth 20000 in
theorem gX6_groupStatement_X6_isSymbol : GoodIn wsX6_groupStatement (wsV RX6 153 RX6 yX6_isSymbol wsX6_isSymbol) := goodIn_app (goodIn_of _ (by decide +kernel)) ggX6_groupStatement_X6_isSymbol
set_option maxRecDepth 20000 in
theorem ggX6_groupStatement_X6_takeSymbol : GoodIn wsX6_groupStatement wsX6_takeSymbol := goodIn_r _ [86, 79, 80, 81, 13, 82, 26, 25, 10, 11, 12, 14, 15, 16, 17, 18, 19, 20, 21, 22, 2, 23, 24, 27, 28, 29, 30, 31, 32, 33, 34, 35, 36, 37, 38, 39, 40, 41, 42, 43, 44, 45, 46, 47, 48, 49, 50, 51, 52, 53, 54, 55, 56, 57, 58, 59, 100, 101, 102, 103, 104, 105, 106, 107, 108, 109, 128, 129] (by decide +kernel) (by decide +kernel)
set_option maxRecDepth 20000 in
theorem gX6_groupStatement_X6_takeSymbol : GoodIn wsX6_groupStatement (wsV RX6 98 RX6 yX6_takeSymbol wsX6_takeSymbol) := goodIn_app (goodIn_of _ (by decide +kernel)) ggX6_groupStatement_X6_takeSymbol
set_option maxRecDepth 20000 in
theorem ggX6_groupStatement_X7_addGroup : GoodIn wsX6_groupStatement wsX7_addGroup := goodIn_r _ [91, 92, 93, 94, 95, 96, 6, 97, 8, 9, 98, 38, 99, 110, 111, 112, 113, 114, 115, 116, 117, 118, 119, 120, 121, 122, 123, 124, 125, 126, 127] (by decide +kernel) (by decide +kernel)
set_option maxRecDepth 20000 in
theorem gX6_groupStatement_X7_addGroup : GoodIn wsX6_groupStatement (wsV RX6 156 RX7 yX7_addGroup wsX7_addGroup) := goodIn_app (goodIn_of _ (by decide +kernel)) ggX6_groupStatement_X7_addGroup
theorem dX6_groupStatement_0 : decode cX6_groupStatement 0 = .ok (.aload_n 0, 1) := by decide +kernel
theorem dX6_groupStatement_1 : decode cX6_groupStatement 1 = .ok (.getfield 18, 3) := by decide +kernel
theorem dX6_groupStatement_4 : decode cX6_groupStatement 4 = .ok (.getfield 138, 3) := by decide +kernel
theorem dX6_groupStatement_7 : decode cX6_groupStatement 7 = .ok (.invokevirtual 105, 3) := by decide +kernel
theorem dX6_groupStatement_10 : decode cX6_groupStatement 10 = .ok (.ifCond .ne 16, 3) := by decide +kernel
theorem dX6_groupStatement_13 : decode cX6_groupStatement 13 = .ok (.aload_n 0, 1) := by decide +kernel
theorem dX6_groupStatement_14 : decode cX6_groupStatement 14 = .ok (.getfield 18, 3) := by decide +kernel
theorem dX6_groupStatement_17 : decode cX6_groupStatement 17 = .ok (.getfield 134, 3) := by decide +kernel
theorem dX6_groupStatement_20 : decode cX6_groupStatement 20 = .ok (.getfield 137, 3) := by decide +kernel
theorem dX6_groupStatement_23 : decode cX6_groupStatement 23 = .ok (.ifCond .ne 9, 3) := by decide +kernel
theorem dX6_groupStatement_26 : decode cX6_groupStatement 26 = .ok (.aload_n 0, 1) := by decide +kernel
theorem dX6_groupStatement_27 : decode cX6_groupStatement 27 = .ok (.iconst 4, 1) := by decide +kernel
theorem dX6_groupStatement_28 : decode cX6_groupStatement 28 = .ok (.invokevirtual 71, 3) := by decide +kernel
theorem dX6_groupStatement_31 : decode cX6_groupStatement 31 = .ok (.ireturn, 1) := by decide +kernel
theorem dX6_groupStatement_32 : decode cX6_groupStatement 32 = .ok (.aload_n 0, 1) := by decide +kernel
theorem dX6_groupStatement_33 : decode cX6_groupStatement 33 = .ok (.invokevirtual 26, 3) := by decide +kernel
theorem dX6_groupStatement_36 : decode cX6_groupStatement 36 = .ok (.aload_n 0, 1) := by decide +kernel
theorem dX6_groupStatement_37 : decode cX6_groupStatement 37 = .ok (.aload_n 0, 1) := by decide +kernel
theorem dX6_groupStatement_38 : decode cX6_groupStatement 38 = .ok (.getfield 18, 3) := by decide +kernel
theorem dX6_groupStatement_41 : decode cX6_groupStatement 41 = .ok (.getfield 134, 3) := by decide +kernel
theorem dX6_groupStatement_44 : decode cX6_groupStatement 44 = .ok (.aload_n 0, 1) := by decide +kernel
theorem dX6_groupStatement_45 : decode cX6_groupStatement 45 = .ok (.getfield 18, 3) := by decide +kernel
theorem dX6_groupStatement_48 : decode cX6_groupStatement 48 = .ok (.getfield 138, 3) := by decide +kernel
theorem dX6_groupStatement_51 : decode cX6_groupStatement 51 = .ok (.invokevirtual 110, 3) := by decide +kernel
theorem dX6_groupStatement_54 : decode cX6_groupStatement 54 = .ok (.lstore_n 1, 1) := by decide +kernel
theorem dX6_groupStatement_55 : decode cX6_groupStatement 55 = .ok (.lload_n 1, 1) := by decide +kernel
theorem dX6_groupStatement_56 : decode cX6_groupStatement 56 = .ok (.lconst 0, 1) := by decide +kernel
theorem dX6_groupStatement_57 : decode cX6_groupStatement 57 = .ok (.lcmp, 1) := by decide +kernel
theorem dX6_groupStatement_58 : decode cX6_groupStatement 58 = .ok (.ifCond .ne 5, 3) := by decide +kernel
theorem dX6_groupStatement_61 : decode cX6_groupStatement 61 = .ok (.iconst 0, 1) := by decide +kernel
theorem dX6_groupStatement_62 : decode cX6_groupStatement 62 = .ok (.ireturn, 1) := by decide +kernel
theorem dX6_groupStatement_63 : decode cX6_groupStatement 63 = .ok (.aload_n 0, 1) := by decide +kernel
theorem dX6_groupStatement_64 : decode cX6_groupStatement 64 = .ok (.invokevirtual 149, 3) := by decide +kernel
theorem dX6_groupStatement_67 : decode cX6_groupStatement 67 = .ok (.istore_n 3, 1) := by decide +kernel
theorem dX6_groupStatement_68 : decode cX6_groupStatement 68 = .ok (.iload_n 3, 1) := by decide +kernel
theorem dX6_groupStatement_69 : decode cX6_groupStatement 69 = .ok (.ifCond .ne 5, 3) := by decide +kernel
theorem dX6_groupStatement_72 : decode cX6_groupStatement 72 = .ok (.iconst 0, 1) := by decide +kernel
theorem dX6_groupStatement_73 : decode cX6_groupStatement 73 = .ok (.ireturn, 1) := by decide +kernel
theorem dX6_groupStatement_74 : decode cX6_groupStatement 74 = .ok (.iconst 0, 1) := by decide +kernel
theorem dX6_groupStatement_75 : decode cX6_groupStatement 75 = .ok (.istore 4, 2) := by decide +kernel
theorem dX6_groupStatement_77 : decode cX6_groupStatement 77 = .ok (.iload 4, 2) := by decide +kernel
theorem dX6_groupStatement_79 : decode cX6_groupStatement 79 = .ok (.aload_n 0, 1) := by decide +kernel
theorem dX6_groupStatement_80 : decode cX6_groupStatement 80 = .ok (.getfield 9, 3) := by decide +kernel
theorem dX6_groupStatement_83 : decode cX6_groupStatement 83 = .ok (.getfield 33, 3) := by decide +kernel
theorem dX6_groupStatement_86 : decode cX6_groupStatement 86 = .ok (.if_icmp .ge 40, 3) := by decide +kernel
theorem dX6_groupStatement_89 : decode cX6_groupStatement 89 = .ok (.aload_n 0, 1) := by decide +kernel
theorem dX6_groupStatement_90 : decode cX6_groupStatement 90 = .ok (.bipush 44, 2) := by decide +kernel
theorem dX6_groupStatement_92 : decode cX6_groupStatement 92 = .ok (.invokevirtual 153, 3) := by decide +kernel
theorem dX6_groupStatement_95 : decode cX6_groupStatement 95 = .ok (.ifCond .eq 31, 3) := by decide +kernel
theorem dX6_groupStatement_98 : decode cX6_groupStatement 98 = .ok (.aload_n 0, 1) := by decide +kernel
theorem dX6_groupStatement_99 : decode cX6_groupStatement 99 = .ok (.invokevirtual 26, 3) := by decide +kernel
theorem dX6_groupStatement_102 : decode cX6_groupStatement 102 = .ok (.aload_n 0, 1) := by decide +kernel
theorem dX6_groupStatement_103 : decode cX6_groupStatement 103 = .ok (.invokevirtual 149, 3) := by decide +kernel
theorem dX6_groupStatement_106 : decode cX6_groupStatement 106 = .ok (.istore 5, 2) := by decide +kernel
theorem dX6_groupStatement_108 : decode cX6_groupStatement 108 = .ok (.iload 5, 2) := by decide +kernel
theorem dX6_groupStatement_110 : decode cX6_groupStatement 110 = .ok (.ifCond .ne 5, 3) := by decide +kernel
theorem dX6_groupStatement_113 : decode cX6_groupStatement 113 = .ok (.iconst 0, 1) := by decide +kernel
theorem dX6_groupStatement_114 : decode cX6_groupStatement 114 = .ok (.ireturn, 1) := by decide +kernel
theorem dX6_groupStatement_115 : decode cX6_groupStatement 115 = .ok (.iload_n 3, 1) := by decide +kernel
theorem dX6_groupStatement_116 : decode cX6_groupStatement 116 = .ok (.iload 5, 2) := by decide +kernel
theorem dX6_groupStatement_118 : decode cX6_groupStatement 118 = .ok (.ior, 1) := by decide +kernel
theorem dX6_groupStatement_119 : decode cX6_groupStatement 119 = .ok (.istore_n 3, 1) := by decide +kernel
theorem dX6_groupStatement_120 : decode cX6_groupStatement 120 = .ok (.iinc 4 1, 3) := by decide +kernel
theorem dX6_groupStatement_123 : decode cX6_groupStatement 123 = .ok (.goto (-46), 3) := by decide +kernel
theorem dX6_groupStatement_126 : decode cX6_groupStatement 126 = .ok (.aload_n 0, 1) := by decide +kernel
theorem dX6_groupStatement_127 : decode cX6_groupStatement 127 = .ok (.bipush 59, 2) := by decide +kernel
theorem dX6_groupStatement_129 : decode cX6_groupStatement 129 = .ok (.invokevirtual 98, 3) := by decide +kernel
theorem dX6_groupStatement_132 : decode cX6_groupStatement 132 = .ok (.ifCond .ne 5, 3) := by decide +kernel
theorem dX6_groupStatement_135 : decode cX6_groupStatement 135 = .ok (.iconst 0, 1) := by decide +kernel
theorem dX6_groupStatement_136 : decode cX6_groupStatement 136 = .ok (.ireturn, 1) := by decide +kernel
theorem dX6_groupStatement_137 : decode cX6_groupStatement 137 = .ok (.aload_n 0, 1) := by decide +kernel
theorem dX6_groupStatement_138 : decode cX6_groupStatement 138 = .ok (.getfield 18, 3) := by decide +kernel
theorem dX6_groupStatement_141 : decode cX6_groupStatement 141 = .ok (.lload_n 1, 1) := by decide +kernel
theorem dX6_groupStatement_142 : decode cX6_groupStatement 142 = .ok (.iload_n 3, 1) := by decide +kernel
theorem dX6_groupStatement_143 : decode cX6_groupStatement 143 = .ok (.invokevirtual 156, 3) := by decide +kernel
theorem dX6_groupStatement_146 : decode cX6_groupStatement 146 = .ok (.iconst 1, 1) := by decide +kernel
theorem dX6_groupStatement_147 : decode cX6_groupStatement 147 = .ok (.ireturn, 1) := by decide +kernel
set_option maxRecDepth 20000 in
theorem ggX6_holdStatement_X5_isFull : GoodIn wsX6_holdStatement wsX5_isFull := goodIn_r _ [12, 13, 14, 145, 146] (by decide +kernel) (by decide +kernel)
set_option maxRecDepth 20000 in
theorem gX6_holdStatement_X5_isFull : GoodIn wsX6_holdStatement (wsV RX6 105 RX5 yX5_isFull wsX5_isFull) := goodIn_app (goodIn_of _ (by decide +kernel)) ggX6_holdStatement_X5_isFull
set_option maxRecDepth 20000 in
theorem ggX6_holdStatement_X6_fail : GoodIn wsX6_holdStatement wsX6_fail := goodIn_r _ [19, 20, 21, 22, 119, 120, 121, 122, 123, 124, 125, 126, 127, 128] (by decide +kernel) (by decide +kernel)
set_option maxRecDepth 20000 in
theorem gX6_holdStatement_X6_fail : GoodIn wsX6_holdStatement (wsV RX6 71 RX6 yX6_fail wsX6_fail) := goodIn_app (goodIn_of _ (by decide +kernel)) ggX6_holdStatement_X6_fail
set_option maxRecDepth 20000 in
theorem ggX6_holdStatement_X6_nextToken : GoodIn wsX6_holdStatement wsX6_nextToken := goodIn_r _ [26, 27, 28, 21, 4, 29, 30, 31, 32, 33, 34, 35, 36, 37, 38, 39, 40, 18, 41, 42, 43, 44, 45, 46, 47, 48, 49, 50, 51, 52, 53, 54, 55, 56, 57, 58, 59, 60, 61, 62, 63, 64, 119, 120, 121, 122, 123, 124, 125, 126, 127, 128, 147, 148] (by decide +kernel) (by decide +kernel)
set_option maxRecDepth 20000 in
theorem gX6_holdStatement_X6_nextToken : GoodIn wsX6_holdStatement (wsV RX6 26 RX6 yX6_nextToken wsX6_nextToken) := goodIn_app (goodIn_of _ (by decide +kernel)) ggX6_holdStatement_X6_nextToken
set_option maxRecDepth 20000 in
theorem ggX6_holdStatement_X6_takeNewName : GoodIn wsX6_holdStatement wsX6_takeNewName := goodIn_r _ [68, 29, 69, 70, 71, 18, 72, 31, 4, 73, 15, 16, 17, 19, 20, 21, 22, 74, 75, 76, 11, 77, 13, 14, 23, 24, 25, 26, 27, 28, 30, 32, 33, 34, 35, 36, 37, 38, 39, 40, 41, 42, 43, 44, 45, 46, 47, 48, 49, 50, 51, 52, 53, 54, 55, 56, 57, 58, 59, 60, 61, 62, 63, 64, 119, 120, 121, 122, 123, 124, 125, 126, 127, 128, 145, 146, 147, 148] (by decide +kernel) (by decide +kernel)
set_option maxRecDepth 20000 in
theorem gX6_holdStatement_X6_takeNewName : GoodIn wsX6_holdStatement (wsV RX6 110 RX6 yX6_takeNewName wsX6_takeNewName) := goodIn_app (goodIn_of _ (by decide +kernel)) ggX6_holdStatement_X6_takeNewName
set_option maxRecDepth 20000 in
theorem ggX6_holdStatement_X6_take : GoodIn wsX6_holdStatement wsX6_take := goodIn_r _ [81, 4, 15, 16, 17, 18, 19, 20, 21, 22, 23, 24, 25, 26, 27, 28, 29, 30, 31, 32, 33, 34, 35, 36, 37, 38, 39, 40, 41, 42, 43, 44, 45, 46, 47, 48, 49, 50, 51, 52, 53, 54, 55, 56, 57, 58, 59, 60, 61, 62, 63, 64, 119, 120, 121, 122, 123, 124, 125, 126, 127, 128, 147, 148] (by decide +kernel) (by decide +kernel)
set_option maxRecDepth 20000 in
theorem gX6_holdStatement_X6_take : GoodIn wsX6_holdStatement (wsV RX6 78 RX6 yX6_take wsX6_take) := goodIn_app (goodIn_of _ (by decide +kernel)) ggX6_holdStatement_X6_take
set_option maxRecDepth 20000 in
theorem ggX6_holdStatement_X6_takeKnown : GoodIn wsX6_holdStatement wsX6_takeKnown := goodIn_r _ [85, 29, 69, 70, 71, 18, 72, 31, 4, 73, 74, 75, 76, 11, 77, 13, 14, 15, 16, 17, 19, 20, 21, 22, 23, 24, 25, 26, 27, 28, 30, 32, 33, 34, 35, 36, 37, 38, 39, 40, 41, 42, 43, 44, 45, 46, 47, 48, 49, 50, 51, 52, 53, 54, 55, 56, 57, 58, 59, 60, 61, 62, 63, 64, 119, 120, 121, 122, 123, 124, 125, 126, 127, 128, 145, 146, 147, 148] (by decide +kernel) (by decide +kernel)
set_option maxRecDepth 20000 in
theorem gX6_holdStatement_X6_takeKnown : GoodIn wsX6_holdStatement (wsV RX6 126 RX6 yX6_takeKnown wsX6_takeKnown) := goodIn_app (goodIn_of _ (by decide +kernel)) ggX6_holdStatement_X6_takeKnown
set_option maxRecDepth 20000 in
theorem ggX6_holdStatement_X6_takeNumber : GoodIn wsX6_holdStatement wsX6_takeNumber := goodIn_r _ [89, 31, 30, 15, 16, 17, 18, 19, 20, 21, 22, 23, 24, 25, 26, 27, 28, 4, 29, 32, 33, 34, 35, 36, 37, 38, 39, 40, 41, 42, 43, 44, 45, 46, 47, 48, 49, 50, 51, 52, 53, 54, 55, 56, 57, 58, 59, 60, 61, 62, 63, 64, 119, 120, 121, 122, 123, 124, 125, 126, 127, 128, 147, 148] (by decide +kernel) (by decide +kernel)
set_option maxRecDepth 20000 in
theorem gX6_holdStatement_X6_takeNumber : GoodIn wsX6_holdStatement (wsV RX6 85 RX6 yX6_takeNumber wsX6_takeNumber) := goodIn_app (goodIn_of _ (by decide +kernel)) ggX6_holdStatement_X6_takeNumber
set_option maxRecDepth 20000 in
theorem ggX6_holdStatement_X6_takeWord : GoodIn wsX6_holdStatement wsX6_takeWord := goodIn_r _ [93, 31, 29, 94, 15, 16, 17, 18, 19, 20, 21, 22, 23, 24, 25, 26, 27, 28, 4, 30, 32, 33, 34, 35, 36, 37, 38, 39, 40, 41, 42, 43, 44, 45, 46, 47, 48, 49, 50, 51, 52, 53, 54, 55, 56, 57, 58, 59, 60, 61, 62, 63, 64, 119, 120, 121, 122, 123, 124, 125, 126, 127, 128, 147, 148] (by decide +kernel) (by decide +kernel)
set_option maxRecDepth 20000 in
theorem gX6_holdStatement_X6_takeWord : GoodIn wsX6_holdStatement (wsV RX6 173 RX6 yX6_takeWord wsX6_takeWord) := goodIn_app (goodIn_of _ (by decide +kernel)) ggX6_holdStatement_X6_takeWord
set_option maxRecDepth 20000 in
theorem ggX6_holdStatement_X6_takeSymbol : GoodIn wsX6_holdStatement wsX6_takeSymbol := goodIn_r _ [98, 99, 100, 101, 18, 102, 31, 30, 15, 16, 17, 19, 20, 21, 22, 23, 24, 25, 26, 27, 28, 4, 29, 32, 33, 34, 35, 36, 37, 38, 39, 40, 41, 42, 43, 44, 45, 46, 47, 48, 49, 50, 51, 52, 53, 54, 55, 56, 57, 58, 59, 60, 61, 62, 63, 64, 119, 120, 121, 122, 123, 124, 125, 126, 127, 128, 147, 148] (by decide +kernel) (by decide +kernel)
set_option maxRecDepth 20000 in
theorem gX6_holdStatement_X6_takeSymbol : GoodIn wsX6_holdStatement (wsV RX6 98 RX6 yX6_takeSymbol wsX6_takeSymbol) := goodIn_app (goodIn_of _ (by decide +kernel)) ggX6_holdStatement_X6_takeSymbol
set_option maxRecDepth 20000 in
theorem ggX6_holdStatement_X7_addHold : GoodIn wsX6_holdStatement wsX7_addHold := goodIn_r _ [107, 108, 109, 110, 111, 112, 113, 114, 115, 11, 116, 13, 14, 117, 43, 118, 129, 130, 131, 132, 133, 134, 135, 136, 137, 138, 139, 140, 141, 142, 143, 144, 145, 146] (by decide +kernel) (by decide +kernel)
set_option maxRecDepth 20000 in
theorem gX6_holdStatement_X7_addHold : GoodIn wsX6_holdStatement (wsV RX6 177 RX7 yX7_addHold wsX7_addHold) := goodIn_app (goodIn_of _ (by decide +kernel)) ggX6_holdStatement_X7_addHold
