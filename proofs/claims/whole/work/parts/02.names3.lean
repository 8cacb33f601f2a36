theorem inlX0 : ∀ w ∈ wsX00, w ∈ wsL_law := fun _ h => List.mem_append_left _ (List.mem_append_left _ (List.mem_append_left _ (List.mem_append_right _ h)))
theorem inX0 : ∀ w ∈ wsX00, w ∈ lw_tbl := fun w h => wsL_law_in w (inlX0 w h)
theorem inlX1 : ∀ w ∈ wsX10, w ∈ wsL_law := fun _ h => List.mem_append_left _ (List.mem_append_left _ (List.mem_append_right _ h))
theorem inX1 : ∀ w ∈ wsX10, w ∈ lw_tbl := fun w h => wsL_law_in w (inlX1 w h)
theorem inlX2 : ∀ w ∈ wsX20, w ∈ wsL_law := fun _ h => List.mem_append_left _ (List.mem_append_left _ (List.mem_append_left _ (List.mem_append_left _ (List.mem_append_left _ (List.mem_append_left _ (List.mem_append_right _ h))))))
theorem inX2 : ∀ w ∈ wsX20, w ∈ lw_tbl := fun w h => wsL_law_in w (inlX2 w h)
theorem inlX3 : ∀ w ∈ wsX30, w ∈ wsL_law := fun _ h => List.mem_append_left _ (List.mem_append_right _ h)
theorem inX3 : ∀ w ∈ wsX30, w ∈ lw_tbl := fun w h => wsL_law_in w (inlX3 w h)
theorem inlX4 : ∀ w ∈ wsX40, w ∈ wsL_law := fun _ h => List.mem_append_left _ (List.mem_append_left _ (List.mem_append_left _ (List.mem_append_left _ (List.mem_append_right _ h))))
theorem inX4 : ∀ w ∈ wsX40, w ∈ lw_tbl := fun w h => wsL_law_in w (inlX4 w h)
theorem inlX5 : ∀ w ∈ wsX50, w ∈ wsL_law := fun _ h => List.mem_append_left _ (List.mem_append_left _ (List.mem_append_left _ (List.mem_append_left _ (List.mem_append_left _ (List.mem_append_left _ (List.mem_append_left _ (List.mem_append_left _ (List.mem_append_right _ h))))))))
theorem inX5 : ∀ w ∈ wsX50, w ∈ lw_tbl := fun w h => wsL_law_in w (inlX5 w h)
theorem inlX6 : ∀ w ∈ wsX60, w ∈ wsL_law := fun _ h => List.mem_append_left _ (List.mem_append_left _ (List.mem_append_left _ (List.mem_append_left _ (List.mem_append_left _ (List.mem_append_left _ (List.mem_append_left _ (List.mem_append_left _ (List.mem_append_left _ (List.mem_append_right _ h)))))))))
theorem inX6 : ∀ w ∈ wsX60, w ∈ lw_tbl := fun w h => wsL_law_in w (inlX6 w h)
theorem inlX7 : ∀ w ∈ wsX70, w ∈ wsL_law := fun _ h => List.mem_append_left _ (List.mem_append_left _ (List.mem_append_left _ (List.mem_append_left _ (List.mem_append_left _ (List.mem_append_right _ h)))))
theorem inX7 : ∀ w ∈ wsX70, w ∈ lw_tbl := fun w h => wsL_law_in w (inlX7 w h)
theorem inlX8 : ∀ w ∈ wsX80, w ∈ wsL_law := fun _ h => List.mem_append_left _ (List.mem_append_left _ (List.mem_append_left _ (List.mem_append_left _ (List.mem_append_left _ (List.mem_append_left _ (List.mem_append_left _ (List.mem_append_right _ h)))))))
theorem inX8 : ∀ w ∈ wsX80, w ∈ lw_tbl := fun w h => wsL_law_in w (inlX8 w h)
theorem inlX9 : ∀ w ∈ wsX90, w ∈ wsL_law := fun _ h => List.mem_append_left _ (List.mem_append_left _ (List.mem_append_left _ (List.mem_append_left _ (List.mem_append_left _ (List.mem_append_left _ (List.mem_append_left _ (List.mem_append_left _ (List.mem_append_left _ (List.mem_append_left _ (List.mem_append_left _ (List.mem_append_right _ h)))))))))))
theorem inX9 : ∀ w ∈ wsX90, w ∈ lw_tbl := fun w h => wsL_law_in w (inlX9 w h)
theorem inlX10 : ∀ w ∈ wsX100, w ∈ wsL_law := fun _ h => List.mem_append_left _ (List.mem_append_left _ (List.mem_append_left _ (List.mem_append_left _ (List.mem_append_left _ (List.mem_append_left _ (List.mem_append_left _ (List.mem_append_left _ (List.mem_append_left _ (List.mem_append_left _ (List.mem_append_right _ h))))))))))
theorem inX10 : ∀ w ∈ wsX100, w ∈ lw_tbl := fun w h => wsL_law_in w (inlX10 w h)
theorem inJ6 : ∀ w ∈ wsJ60, w ∈ lw_tbl := by decide +kernel
theorem inJ9 : ∀ w ∈ wsJ90, w ∈ lw_tbl := by decide +kernel
theorem inJ10 : ∀ w ∈ wsJ100, w ∈ lw_tbl := by decide +kernel
theorem inJ7 : ∀ w ∈ wsJ70, w ∈ lw_tbl := by decide +kernel
theorem dX0_init_0 : decode cX0_init 0 = .ok (.aload_n 0, 1) := by decide +kernel
theorem dX0_init_1 : decode cX0_init 1 = .ok (.invokespecial 3, 3) := by decide +kernel
theorem dX0_init_4 : decode cX0_init 4 = .ok (.aload_n 0, 1) := by decide +kernel
theorem dX0_init_5 : decode cX0_init 5 = .ok (.iconst 4, 1) := by decide +kernel
theorem dX0_init_6 : decode cX0_init 6 = .ok (.newarray .int, 2) := by decide +kernel
theorem dX0_init_8 : decode cX0_init 8 = .ok (.dup, 1) := by decide +kernel
theorem dX0_init_9 : decode cX0_init 9 = .ok (.iconst 0, 1) := by decide +kernel
theorem dX0_init_10 : decode cX0_init 10 = .ok (.bipush 10, 2) := by decide +kernel
theorem dX0_init_12 : decode cX0_init 12 = .ok (.iastore, 1) := by decide +kernel
theorem dX0_init_13 : decode cX0_init 13 = .ok (.dup, 1) := by decide +kernel
theorem dX0_init_14 : decode cX0_init 14 = .ok (.iconst 1, 1) := by decide +kernel
theorem dX0_init_15 : decode cX0_init 15 = .ok (.iconst 0, 1) := by decide +kernel
theorem dX0_init_16 : decode cX0_init 16 = .ok (.iastore, 1) := by decide +kernel
theorem dX0_init_17 : decode cX0_init 17 = .ok (.dup, 1) := by decide +kernel
theorem dX0_init_18 : decode cX0_init 18 = .ok (.iconst 2, 1) := by decide +kernel
theorem dX0_init_19 : decode cX0_init 19 = .ok (.iconst 0, 1) := by decide +kernel
theorem dX0_init_20 : decode cX0_init 20 = .ok (.iastore, 1) := by decide +kernel
theorem dX0_init_21 : decode cX0_init 21 = .ok (.dup, 1) := by decide +kernel
theorem dX0_init_22 : decode cX0_init 22 = .ok (.iconst 3, 1) := by decide +kernel
theorem dX0_init_23 : decode cX0_init 23 = .ok (.iconst 0, 1) := by decide +kernel
theorem dX0_init_24 : decode cX0_init 24 = .ok (.iastore, 1) := by decide +kernel
theorem dX0_init_25 : decode cX0_init 25 = .ok (.putfield 9, 3) := by decide +kernel
theorem dX0_init_28 : decode cX0_init 28 = .ok (.aload_n 0, 1) := by decide +kernel
theorem dX0_init_29 : decode cX0_init 29 = .ok (.iconst 4, 1) := by decide +kernel
theorem dX0_init_30 : decode cX0_init 30 = .ok (.newarray .int, 2) := by decide +kernel
theorem dX0_init_32 : decode cX0_init 32 = .ok (.dup, 1) := by decide +kernel
theorem dX0_init_33 : decode cX0_init 33 = .ok (.iconst 0, 1) := by decide +kernel
theorem dX0_init_34 : decode cX0_init 34 = .ok (.iconst 0, 1) := by decide +kernel
theorem dX0_init_35 : decode cX0_init 35 = .ok (.iastore, 1) := by decide +kernel
theorem dX0_init_36 : decode cX0_init 36 = .ok (.dup, 1) := by decide +kernel
theorem dX0_init_37 : decode cX0_init 37 = .ok (.iconst 1, 1) := by decide +kernel
theorem dX0_init_38 : decode cX0_init 38 = .ok (.iconst 0, 1) := by decide +kernel
theorem dX0_init_39 : decode cX0_init 39 = .ok (.iastore, 1) := by decide +kernel
theorem dX0_init_40 : decode cX0_init 40 = .ok (.dup, 1) := by decide +kernel
theorem dX0_init_41 : decode cX0_init 41 = .ok (.iconst 2, 1) := by decide +kernel
theorem dX0_init_42 : decode cX0_init 42 = .ok (.iconst 0, 1) := by decide +kernel
theorem dX0_init_43 : decode cX0_init 43 = .ok (.iastore, 1) := by decide +kernel
theorem dX0_init_44 : decode cX0_init 44 = .ok (.dup, 1) := by decide +kernel
theorem dX0_init_45 : decode cX0_init 45 = .ok (.iconst 3, 1) := by decide +kernel
theorem dX0_init_46 : decode cX0_init 46 = .ok (.iconst 0, 1) := by decide +kernel
theorem dX0_init_47 : decode cX0_init 47 = .ok (.iastore, 1) := by decide +kernel
theorem dX0_init_48 : decode cX0_init 48 = .ok (.putfield 13, 3) := by decide +kernel
theorem dX0_init_51 : decode cX0_init 51 = .ok (.aload_n 0, 1) := by decide +kernel
theorem dX0_init_52 : decode cX0_init 52 = .ok (.bipush 81, 2) := by decide +kernel
theorem dX0_init_54 : decode cX0_init 54 = .ok (.newarray .long, 2) := by decide +kernel
theorem dX0_init_56 : decode cX0_init 56 = .ok (.putfield 16, 3) := by decide +kernel
theorem dX0_init_59 : decode cX0_init 59 = .ok (.aload_n 0, 1) := by decide +kernel
theorem dX0_init_60 : decode cX0_init 60 = .ok (.bipush 9, 2) := by decide +kernel
theorem dX0_init_62 : decode cX0_init 62 = .ok (.newarray .long, 2) := by decide +kernel
theorem dX0_init_64 : decode cX0_init 64 = .ok (.putfield 20, 3) := by decide +kernel
theorem dX0_init_67 : decode cX0_init 67 = .ok (.return_, 1) := by decide +kernel
set_option maxRecDepth 20000 in
theorem ggX0_setTenths_X0_tenths : GoodIn wsX0_setTenths wsX0_tenths := goodIn_r _ [7] (by decide +kernel) (by decide +kernel)
set_option maxRecDepth 20000 in
theorem gX0_setTenths_X0_tenths : GoodIn wsX0_setTenths (va_wsS RX0 23 yX0_tenths wsX0_tenths) := goodIn_app (goodIn_of _ (by decide +kernel)) ggX0_setTenths_X0_tenths
theorem dX0_setTenths_0 : decode cX0_setTenths 0 = .ok (.iload_n 2, 1) := by decide +kernel
theorem dX0_setTenths_1 : decode cX0_setTenths 1 = .ok (.ifCond .ne 10, 3) := by decide +kernel
theorem dX0_setTenths_4 : decode cX0_setTenths 4 = .ok (.aload_n 0, 1) := by decide +kernel
theorem dX0_setTenths_5 : decode cX0_setTenths 5 = .ok (.getfield 9, 3) := by decide +kernel
theorem dX0_setTenths_8 : decode cX0_setTenths 8 = .ok (.goto 7, 3) := by decide +kernel
theorem dX0_setTenths_11 : decode cX0_setTenths 11 = .ok (.aload_n 0, 1) := by decide +kernel
theorem dX0_setTenths_12 : decode cX0_setTenths 12 = .ok (.getfield 13, 3) := by decide +kernel
theorem dX0_setTenths_15 : decode cX0_setTenths 15 = .ok (.astore 4, 2) := by decide +kernel
theorem dX0_setTenths_17 : decode cX0_setTenths 17 = .ok (.aload 4, 2) := by decide +kernel
theorem dX0_setTenths_19 : decode cX0_setTenths 19 = .ok (.iload_n 1, 1) := by decide +kernel
theorem dX0_setTenths_20 : decode cX0_setTenths 20 = .ok (.invokestatic 23, 3) := by decide +kernel
theorem dX0_setTenths_23 : decode cX0_setTenths 23 = .ok (.istore 5, 2) := by decide +kernel
theorem dX0_setTenths_25 : decode cX0_setTenths 25 = .ok (.iload_n 1, 1) := by decide +kernel
theorem dX0_setTenths_26 : decode cX0_setTenths 26 = .ok (.ifCond .lt 15, 3) := by decide +kernel
theorem dX0_setTenths_29 : decode cX0_setTenths 29 = .ok (.iload_n 1, 1) := by decide +kernel
theorem dX0_setTenths_30 : decode cX0_setTenths 30 = .ok (.aload 4, 2) := by decide +kernel
theorem dX0_setTenths_32 : decode cX0_setTenths 32 = .ok (.arraylength, 1) := by decide +kernel
theorem dX0_setTenths_33 : decode cX0_setTenths 33 = .ok (.if_icmp .ge 8, 3) := by decide +kernel
theorem dX0_setTenths_36 : decode cX0_setTenths 36 = .ok (.aload 4, 2) := by decide +kernel
theorem dX0_setTenths_38 : decode cX0_setTenths 38 = .ok (.iload_n 1, 1) := by decide +kernel
theorem dX0_setTenths_39 : decode cX0_setTenths 39 = .ok (.iload_n 3, 1) := by decide +kernel
theorem dX0_setTenths_40 : decode cX0_setTenths 40 = .ok (.iastore, 1) := by decide +kernel
theorem dX0_setTenths_41 : decode cX0_setTenths 41 = .ok (.aload_n 0, 1) := by decide +kernel
theorem dX0_setTenths_42 : decode cX0_setTenths 42 = .ok (.iconst 0, 1) := by decide +kernel
theorem dX0_setTenths_43 : decode cX0_setTenths 43 = .ok (.putfield 27, 3) := by decide +kernel
theorem dX0_setTenths_46 : decode cX0_setTenths 46 = .ok (.iload 5, 2) := by decide +kernel
theorem dX0_setTenths_48 : decode cX0_setTenths 48 = .ok (.ireturn, 1) := by decide +kernel
theorem dX0_isWhole_0 : decode cX0_isWhole 0 = .ok (.iconst 0, 1) := by decide +kernel
theorem dX0_isWhole_1 : decode cX0_isWhole 1 = .ok (.istore_n 1, 1) := by decide +kernel
theorem dX0_isWhole_2 : decode cX0_isWhole 2 = .ok (.iconst 0, 1) := by decide +kernel
theorem dX0_isWhole_3 : decode cX0_isWhole 3 = .ok (.istore_n 2, 1) := by decide +kernel
theorem dX0_isWhole_4 : decode cX0_isWhole 4 = .ok (.iload_n 2, 1) := by decide +kernel
theorem dX0_isWhole_5 : decode cX0_isWhole 5 = .ok (.aload_n 0, 1) := by decide +kernel
theorem dX0_isWhole_6 : decode cX0_isWhole 6 = .ok (.getfield 9, 3) := by decide +kernel
theorem dX0_isWhole_9 : decode cX0_isWhole 9 = .ok (.arraylength, 1) := by decide +kernel
theorem dX0_isWhole_10 : decode cX0_isWhole 10 = .ok (.if_icmp .ge 18, 3) := by decide +kernel
theorem dX0_isWhole_13 : decode cX0_isWhole 13 = .ok (.iload_n 1, 1) := by decide +kernel
theorem dX0_isWhole_14 : decode cX0_isWhole 14 = .ok (.aload_n 0, 1) := by decide +kernel
theorem dX0_isWhole_15 : decode cX0_isWhole 15 = .ok (.getfield 9, 3) := by decide +kernel
theorem dX0_isWhole_18 : decode cX0_isWhole 18 = .ok (.iload_n 2, 1) := by decide +kernel
theorem dX0_isWhole_19 : decode cX0_isWhole 19 = .ok (.iaload, 1) := by decide +kernel
theorem dX0_isWhole_20 : decode cX0_isWhole 20 = .ok (.iadd, 1) := by decide +kernel
theorem dX0_isWhole_21 : decode cX0_isWhole 21 = .ok (.istore_n 1, 1) := by decide +kernel
theorem dX0_isWhole_22 : decode cX0_isWhole 22 = .ok (.iinc 2 1, 3) := by decide +kernel
theorem dX0_isWhole_25 : decode cX0_isWhole 25 = .ok (.goto (-21), 3) := by decide +kernel
theorem dX0_isWhole_28 : decode cX0_isWhole 28 = .ok (.iload_n 1, 1) := by decide +kernel
theorem dX0_isWhole_29 : decode cX0_isWhole 29 = .ok (.bipush 10, 2) := by decide +kernel
theorem dX0_isWhole_31 : decode cX0_isWhole 31 = .ok (.if_icmp .ne 7, 3) := by decide +kernel
theorem dX0_isWhole_34 : decode cX0_isWhole 34 = .ok (.iconst 1, 1) := by decide +kernel
theorem dX0_isWhole_35 : decode cX0_isWhole 35 = .ok (.goto 4, 3) := by decide +kernel
theorem dX0_isWhole_38 : decode cX0_isWhole 38 = .ok (.iconst 0, 1) := by decide +kernel
theorem dX0_isWhole_39 : decode cX0_isWhole 39 = .ok (.ireturn, 1) := by decide +kernel
set_option maxRecDepth 20000 in
theorem ggX0_fraction_X0_learn : GoodIn wsX0_fraction wsX0_learn := goodIn_r _ [5, 6, 7, 8, 9, 10, 11, 12, 4, 13, 14, 15, 16, 17, 18, 19, 20, 21, 22, 23, 24, 25, 26, 27, 28, 29, 30, 31, 32, 33, 34, 35, 36, 37, 38, 42, 43, 44, 45, 46] (by decide +kernel) (by decide +kernel)
set_option maxRecDepth 20000 in
theorem gX0_fraction_X0_learn : GoodIn wsX0_fraction (wsV RX0 31 RX0 yX0_learn wsX0_learn) := goodIn_app (goodIn_of _ (by decide +kernel)) ggX0_fraction_X0_learn
set_option maxRecDepth 20000 in
theorem ggX0_fraction_X0_worthOf : GoodIn wsX0_fraction wsX0_worthOf := goodIn_r _ [23, 9, 24, 25, 26, 42, 43, 44, 45, 46] (by decide +kernel) (by decide +kernel)
set_option maxRecDepth 20000 in
theorem gX0_fraction_X0_worthOf : GoodIn wsX0_fraction (wsV RX0 34 RX0 yX0_worthOf wsX0_worthOf) := goodIn_app (goodIn_of _ (by decide +kernel)) ggX0_fraction_X0_worthOf
set_option maxRecDepth 20000 in
theorem ggX0_fraction_X0_scaleOf : GoodIn wsX0_fraction wsX0_scaleOf := goodIn_r _ [38, 7, 24, 25, 26, 42, 43, 44, 45, 46] (by decide +kernel) (by decide +kernel)
set_option maxRecDepth 20000 in
theorem gX0_fraction_X0_scaleOf : GoodIn wsX0_fraction (wsV RX0 38 RX0 yX0_scaleOf wsX0_scaleOf) := goodIn_app (goodIn_of _ (by decide +kernel)) ggX0_fraction_X0_scaleOf
set_option maxRecDepth 20000 in
theorem ggX0_fraction_X0_commonDivisor : GoodIn wsX0_fraction wsX0_commonDivisor := goodIn_r _ [41] (by decide +kernel) (by decide +kernel)
set_option maxRecDepth 20000 in
theorem gX0_fraction_X0_commonDivisor : GoodIn wsX0_fraction (va_wsS RX0 42 yX0_commonDivisor wsX0_commonDivisor) := goodIn_app (goodIn_of _ (by decide +kernel)) ggX0_fraction_X0_commonDivisor
theorem dX0_fraction_0 : decode cX0_fraction 0 = .ok (.aload_n 0, 1) := by decide +kernel
theorem dX0_fraction_1 : decode cX0_fraction 1 = .ok (.invokevirtual 31, 3) := by decide +kernel
theorem dX0_fraction_4 : decode cX0_fraction 4 = .ok (.aload_n 0, 1) := by decide +kernel
theorem dX0_fraction_5 : decode cX0_fraction 5 = .ok (.iload_n 1, 1) := by decide +kernel
theorem dX0_fraction_6 : decode cX0_fraction 6 = .ok (.iload_n 2, 1) := by decide +kernel
theorem dX0_fraction_7 : decode cX0_fraction 7 = .ok (.invokevirtual 34, 3) := by decide +kernel
theorem dX0_fraction_10 : decode cX0_fraction 10 = .ok (.lstore 4, 2) := by decide +kernel
theorem dX0_fraction_12 : decode cX0_fraction 12 = .ok (.aload_n 0, 1) := by decide +kernel
theorem dX0_fraction_13 : decode cX0_fraction 13 = .ok (.iload_n 1, 1) := by decide +kernel
theorem dX0_fraction_14 : decode cX0_fraction 14 = .ok (.invokevirtual 38, 3) := by decide +kernel
theorem dX0_fraction_17 : decode cX0_fraction 17 = .ok (.lstore 6, 2) := by decide +kernel
theorem dX0_fraction_19 : decode cX0_fraction 19 = .ok (.lload 4, 2) := by decide +kernel
theorem dX0_fraction_21 : decode cX0_fraction 21 = .ok (.lload 6, 2) := by decide +kernel
theorem dX0_fraction_23 : decode cX0_fraction 23 = .ok (.invokestatic 42, 3) := by decide +kernel
theorem dX0_fraction_26 : decode cX0_fraction 26 = .ok (.lstore 8, 2) := by decide +kernel
theorem dX0_fraction_28 : decode cX0_fraction 28 = .ok (.lload 8, 2) := by decide +kernel
theorem dX0_fraction_30 : decode cX0_fraction 30 = .ok (.lconst 1, 1) := by decide +kernel
theorem dX0_fraction_31 : decode cX0_fraction 31 = .ok (.lcmp, 1) := by decide +kernel
theorem dX0_fraction_32 : decode cX0_fraction 32 = .ok (.ifCond .ge 6, 3) := by decide +kernel
theorem dX0_fraction_35 : decode cX0_fraction 35 = .ok (.iload_n 3, 1) := by decide +kernel
theorem dX0_fraction_36 : decode cX0_fraction 36 = .ok (.i2l, 1) := by decide +kernel
theorem dX0_fraction_37 : decode cX0_fraction 37 = .ok (.lreturn, 1) := by decide +kernel
theorem dX0_fraction_38 : decode cX0_fraction 38 = .ok (.iload_n 3, 1) := by decide +kernel
theorem dX0_fraction_39 : decode cX0_fraction 39 = .ok (.ifCond .ne 11, 3) := by decide +kernel
theorem dX0_fraction_42 : decode cX0_fraction 42 = .ok (.lload 4, 2) := by decide +kernel
theorem dX0_fraction_44 : decode cX0_fraction 44 = .ok (.lload 8, 2) := by decide +kernel
theorem dX0_fraction_46 : decode cX0_fraction 46 = .ok (.ldiv, 1) := by decide +kernel
theorem dX0_fraction_47 : decode cX0_fraction 47 = .ok (.goto 8, 3) := by decide +kernel
theorem dX0_fraction_50 : decode cX0_fraction 50 = .ok (.lload 6, 2) := by decide +kernel
theorem dX0_fraction_52 : decode cX0_fraction 52 = .ok (.lload 8, 2) := by decide +kernel
theorem dX0_fraction_54 : decode cX0_fraction 54 = .ok (.ldiv, 1) := by decide +kernel
theorem dX0_fraction_55 : decode cX0_fraction 55 = .ok (.lreturn, 1) := by decide +kernel
set_option maxRecDepth 20000 in
theorem ggX0_shouldAsk_X0_learn : GoodIn wsX0_shouldAsk wsX0_learn := goodIn_r _ [6, 7, 8, 9, 10, 11, 12, 13, 5, 14, 1, 15, 16, 17, 18, 19, 20, 21, 22, 23, 24, 25, 26, 27, 28, 29, 30, 31, 32, 33, 34, 35, 36, 37, 38, 39, 40, 41, 42, 43] (by decide +kernel) (by decide +kernel)
set_option maxRecDepth 20000 in
theorem gX0_shouldAsk_X0_learn : GoodIn wsX0_shouldAsk (wsV RX0 31 RX0 yX0_learn wsX0_learn) := goodIn_app (goodIn_of _ (by decide +kernel)) ggX0_shouldAsk_X0_learn
set_option maxRecDepth 20000 in
theorem ggX0_shouldAsk_X0_asking : GoodIn wsX0_shouldAsk wsX0_asking := goodIn_r _ [30, 31, 1, 32, 33, 5, 34, 35, 36, 37, 38, 8, 24, 25, 26, 20, 21, 22, 23, 10, 39, 40, 41, 42, 43] (by decide +kernel) (by decide +kernel)
set_option maxRecDepth 20000 in
theorem gX0_shouldAsk_X0_asking : GoodIn wsX0_shouldAsk (wsV RX0 46 RX0 yX0_asking wsX0_asking) := goodIn_app (goodIn_of _ (by decide +kernel)) ggX0_shouldAsk_X0_asking
set_option maxRecDepth 20000 in
theorem ggX0_shouldAsk_X0_worthOf : GoodIn wsX0_shouldAsk wsX0_worthOf := goodIn_r _ [23, 10, 24, 25, 26, 39, 40, 41, 42, 43] (by decide +kernel) (by decide +kernel)
set_option maxRecDepth 20000 in
theorem gX0_shouldAsk_X0_worthOf : GoodIn wsX0_shouldAsk (wsV RX0 34 RX0 yX0_worthOf wsX0_worthOf) := goodIn_app (goodIn_of _ (by decide +kernel)) ggX0_shouldAsk_X0_worthOf
theorem dX0_shouldAsk_0 : decode cX0_shouldAsk 0 = .ok (.aload_n 0, 1) := by decide +kernel
theorem dX0_shouldAsk_1 : decode cX0_shouldAsk 1 = .ok (.invokevirtual 31, 3) := by decide +kernel
theorem dX0_shouldAsk_4 : decode cX0_shouldAsk 4 = .ok (.iload_n 2, 1) := by decide +kernel
theorem dX0_shouldAsk_5 : decode cX0_shouldAsk 5 = .ok (.ifCond .le 28, 3) := by decide +kernel
theorem dX0_shouldAsk_8 : decode cX0_shouldAsk 8 = .ok (.aload_n 0, 1) := by decide +kernel
theorem dX0_shouldAsk_9 : decode cX0_shouldAsk 9 = .ok (.iload_n 1, 1) := by decide +kernel
theorem dX0_shouldAsk_10 : decode cX0_shouldAsk 10 = .ok (.iload_n 2, 1) := by decide +kernel
theorem dX0_shouldAsk_11 : decode cX0_shouldAsk 11 = .ok (.iload_n 3, 1) := by decide +kernel
theorem dX0_shouldAsk_12 : decode cX0_shouldAsk 12 = .ok (.invokevirtual 46, 3) := by decide +kernel
theorem dX0_shouldAsk_15 : decode cX0_shouldAsk 15 = .ok (.ldc2_w 50, 3) := by decide +kernel
theorem dX0_shouldAsk_18 : decode cX0_shouldAsk 18 = .ok (.aload_n 0, 1) := by decide +kernel
theorem dX0_shouldAsk_19 : decode cX0_shouldAsk 19 = .ok (.iload_n 1, 1) := by decide +kernel
theorem dX0_shouldAsk_20 : decode cX0_shouldAsk 20 = .ok (.iload_n 2, 1) := by decide +kernel
theorem dX0_shouldAsk_21 : decode cX0_shouldAsk 21 = .ok (.invokevirtual 34, 3) := by decide +kernel
theorem dX0_shouldAsk_24 : decode cX0_shouldAsk 24 = .ok (.lmul, 1) := by decide +kernel
theorem dX0_shouldAsk_25 : decode cX0_shouldAsk 25 = .ok (.lcmp, 1) := by decide +kernel
theorem dX0_shouldAsk_26 : decode cX0_shouldAsk 26 = .ok (.ifCond .le 7, 3) := by decide +kernel
theorem dX0_shouldAsk_29 : decode cX0_shouldAsk 29 = .ok (.iconst 1, 1) := by decide +kernel
theorem dX0_shouldAsk_30 : decode cX0_shouldAsk 30 = .ok (.goto 4, 3) := by decide +kernel
theorem dX0_shouldAsk_33 : decode cX0_shouldAsk 33 = .ok (.iconst 0, 1) := by decide +kernel
theorem dX0_shouldAsk_34 : decode cX0_shouldAsk 34 = .ok (.ireturn, 1) := by decide +kernel
set_option maxRecDepth 20000 in
theorem ggX0_learn_X0_average : GoodIn wsX0_learn wsX0_average := goodIn_r _ [9, 10, 11, 12, 13, 14, 15, 16, 17, 18, 8, 19, 4, 20, 21, 22, 23, 24, 25, 26, 27, 28, 29, 30, 31, 32, 33, 34, 2, 35, 36, 37, 38, 39] (by decide +kernel) (by decide +kernel)
set_option maxRecDepth 20000 in
theorem gX0_learn_X0_average : GoodIn wsX0_learn (wsV RX0 54 RX0 yX0_average wsX0_average) := goodIn_app (goodIn_of _ (by decide +kernel)) ggX0_learn_X0_average
theorem dX0_learn_0 : decode cX0_learn 0 = .ok (.aload_n 0, 1) := by decide +kernel
theorem dX0_learn_1 : decode cX0_learn 1 = .ok (.getfield 27, 3) := by decide +kernel
theorem dX0_learn_4 : decode cX0_learn 4 = .ok (.ifCond .eq 4, 3) := by decide +kernel
theorem dX0_learn_7 : decode cX0_learn 7 = .ok (.return_, 1) := by decide +kernel
theorem dX0_learn_8 : decode cX0_learn 8 = .ok (.aload_n 0, 1) := by decide +kernel
theorem dX0_learn_9 : decode cX0_learn 9 = .ok (.iconst 1, 1) := by decide +kernel
theorem dX0_learn_10 : decode cX0_learn 10 = .ok (.putfield 27, 3) := by decide +kernel
theorem dX0_learn_13 : decode cX0_learn 13 = .ok (.lconst 1, 1) := by decide +kernel
theorem dX0_learn_14 : decode cX0_learn 14 = .ok (.lstore_n 1, 1) := by decide +kernel
theorem dX0_learn_15 : decode cX0_learn 15 = .ok (.iconst 0, 1) := by decide +kernel
theorem dX0_learn_16 : decode cX0_learn 16 = .ok (.istore_n 3, 1) := by decide +kernel
theorem dX0_learn_17 : decode cX0_learn 17 = .ok (.iload_n 3, 1) := by decide +kernel
theorem dX0_learn_18 : decode cX0_learn 18 = .ok (.bipush 9, 2) := by decide +kernel
theorem dX0_learn_20 : decode cX0_learn 20 = .ok (.if_icmp .ge 67, 3) := by decide +kernel
theorem dX0_learn_23 : decode cX0_learn 23 = .ok (.aload_n 0, 1) := by decide +kernel
theorem dX0_learn_24 : decode cX0_learn 24 = .ok (.getfield 20, 3) := by decide +kernel
theorem dX0_learn_27 : decode cX0_learn 27 = .ok (.iload_n 3, 1) := by decide +kernel
theorem dX0_learn_28 : decode cX0_learn 28 = .ok (.lload_n 1, 1) := by decide +kernel
theorem dX0_learn_29 : decode cX0_learn 29 = .ok (.lastore, 1) := by decide +kernel
theorem dX0_learn_30 : decode cX0_learn 30 = .ok (.lload_n 1, 1) := by decide +kernel
theorem dX0_learn_31 : decode cX0_learn 31 = .ok (.ldc2_w 52, 3) := by decide +kernel
theorem dX0_learn_34 : decode cX0_learn 34 = .ok (.lmul, 1) := by decide +kernel
theorem dX0_learn_35 : decode cX0_learn 35 = .ok (.lstore_n 1, 1) := by decide +kernel
theorem dX0_learn_36 : decode cX0_learn 36 = .ok (.iconst 0, 1) := by decide +kernel
theorem dX0_learn_37 : decode cX0_learn 37 = .ok (.istore 4, 2) := by decide +kernel
theorem dX0_learn_39 : decode cX0_learn 39 = .ok (.iload 4, 2) := by decide +kernel
theorem dX0_learn_41 : decode cX0_learn 41 = .ok (.bipush 9, 2) := by decide +kernel
theorem dX0_learn_43 : decode cX0_learn 43 = .ok (.if_icmp .ge 38, 3) := by decide +kernel
theorem dX0_learn_46 : decode cX0_learn 46 = .ok (.aload_n 0, 1) := by decide +kernel
theorem dX0_learn_47 : decode cX0_learn 47 = .ok (.getfield 16, 3) := by decide +kernel
theorem dX0_learn_50 : decode cX0_learn 50 = .ok (.iload_n 3, 1) := by decide +kernel
theorem dX0_learn_51 : decode cX0_learn 51 = .ok (.bipush 9, 2) := by decide +kernel
theorem dX0_learn_53 : decode cX0_learn 53 = .ok (.imul, 1) := by decide +kernel
theorem dX0_learn_54 : decode cX0_learn 54 = .ok (.iload 4, 2) := by decide +kernel
theorem dX0_learn_56 : decode cX0_learn 56 = .ok (.iadd, 1) := by decide +kernel
theorem dX0_learn_57 : decode cX0_learn 57 = .ok (.iload_n 3, 1) := by decide +kernel
theorem dX0_learn_58 : decode cX0_learn 58 = .ok (.ifCond .ne 7, 3) := by decide +kernel
theorem dX0_learn_61 : decode cX0_learn 61 = .ok (.lconst 0, 1) := by decide +kernel
theorem dX0_learn_62 : decode cX0_learn 62 = .ok (.goto 12, 3) := by decide +kernel
theorem dX0_learn_65 : decode cX0_learn 65 = .ok (.aload_n 0, 1) := by decide +kernel
theorem dX0_learn_66 : decode cX0_learn 66 = .ok (.iload_n 3, 1) := by decide +kernel
theorem dX0_learn_67 : decode cX0_learn 67 = .ok (.iconst 1, 1) := by decide +kernel
theorem dX0_learn_68 : decode cX0_learn 68 = .ok (.isub, 1) := by decide +kernel
theorem dX0_learn_69 : decode cX0_learn 69 = .ok (.iload 4, 2) := by decide +kernel
theorem dX0_learn_71 : decode cX0_learn 71 = .ok (.invokevirtual 54, 3) := by decide +kernel
theorem dX0_learn_74 : decode cX0_learn 74 = .ok (.lastore, 1) := by decide +kernel
theorem dX0_learn_75 : decode cX0_learn 75 = .ok (.iinc 4 1, 3) := by decide +kernel
theorem dX0_learn_78 : decode cX0_learn 78 = .ok (.goto (-39), 3) := by decide +kernel
theorem dX0_learn_81 : decode cX0_learn 81 = .ok (.iinc 3 1, 3) := by decide +kernel
theorem dX0_learn_84 : decode cX0_learn 84 = .ok (.goto (-67), 3) := by decide +kernel
theorem dX0_learn_87 : decode cX0_learn 87 = .ok (.return_, 1) := by decide +kernel
set_option maxRecDepth 20000 in
theorem ggX0_average_X0_worthOf : GoodIn wsX0_average wsX0_worthOf := goodIn_r _ [11, 12, 13, 14, 15, 29, 30, 31, 32, 33] (by decide +kernel) (by decide +kernel)
set_option maxRecDepth 20000 in
theorem gX0_average_X0_worthOf : GoodIn wsX0_average (wsV RX0 34 RX0 yX0_worthOf wsX0_worthOf) := goodIn_app (goodIn_of _ (by decide +kernel)) ggX0_average_X0_worthOf
set_option maxRecDepth 20000 in
theorem ggX0_average_X0_asking : GoodIn wsX0_average wsX0_asking := goodIn_r _ [19, 20, 1, 21, 22, 10, 23, 24, 25, 26, 27, 28, 13, 14, 15, 7, 8, 9, 11, 12, 29, 30, 31, 32, 33] (by decide +kernel) (by decide +kernel)
set_option maxRecDepth 20000 in
theorem gX0_average_X0_asking : GoodIn wsX0_average (wsV RX0 46 RX0 yX0_asking wsX0_asking) := goodIn_app (goodIn_of _ (by decide +kernel)) ggX0_average_X0_asking
set_option maxRecDepth 20000 in
theorem ggX0_average_X0_tenths : GoodIn wsX0_average wsX0_tenths := goodIn_r _ [23] (by decide +kernel) (by decide +kernel)
set_option maxRecDepth 20000 in
theorem gX0_average_X0_tenths : GoodIn wsX0_average (va_wsS RX0 23 yX0_tenths wsX0_tenths) := goodIn_app (goodIn_of _ (by decide +kernel)) ggX0_average_X0_tenths
theorem dX0_average_0 : decode cX0_average 0 = .ok (.lconst 0, 1) := by decide +kernel
theorem dX0_average_1 : decode cX0_average 1 = .ok (.lstore_n 3, 1) := by decide +kernel
theorem dX0_average_2 : decode cX0_average 2 = .ok (.iconst 0, 1) := by decide +kernel
theorem dX0_average_3 : decode cX0_average 3 = .ok (.istore 5, 2) := by decide +kernel
theorem dX0_average_5 : decode cX0_average 5 = .ok (.iload 5, 2) := by decide +kernel
theorem dX0_average_7 : decode cX0_average 7 = .ok (.iconst 4, 1) := by decide +kernel
theorem dX0_average_8 : decode cX0_average 8 = .ok (.if_icmp .ge 56, 3) := by decide +kernel
theorem dX0_average_11 : decode cX0_average 11 = .ok (.ldc2_w 50, 3) := by decide +kernel
theorem dX0_average_14 : decode cX0_average 14 = .ok (.aload_n 0, 1) := by decide +kernel
theorem dX0_average_15 : decode cX0_average 15 = .ok (.iload_n 1, 1) := by decide +kernel
theorem dX0_average_16 : decode cX0_average 16 = .ok (.iload_n 2, 1) := by decide +kernel
theorem dX0_average_17 : decode cX0_average 17 = .ok (.invokevirtual 34, 3) := by decide +kernel
theorem dX0_average_20 : decode cX0_average 20 = .ok (.lmul, 1) := by decide +kernel
theorem dX0_average_21 : decode cX0_average 21 = .ok (.lstore 6, 2) := by decide +kernel
theorem dX0_average_23 : decode cX0_average 23 = .ok (.iload_n 2, 1) := by decide +kernel
theorem dX0_average_24 : decode cX0_average 24 = .ok (.ifCond .le 18, 3) := by decide +kernel
theorem dX0_average_27 : decode cX0_average 27 = .ok (.lload 6, 2) := by decide +kernel
theorem dX0_average_29 : decode cX0_average 29 = .ok (.aload_n 0, 1) := by decide +kernel
theorem dX0_average_30 : decode cX0_average 30 = .ok (.iload_n 1, 1) := by decide +kernel
theorem dX0_average_31 : decode cX0_average 31 = .ok (.iload_n 2, 1) := by decide +kernel
theorem dX0_average_32 : decode cX0_average 32 = .ok (.iload 5, 2) := by decide +kernel
theorem dX0_average_34 : decode cX0_average 34 = .ok (.invokevirtual 46, 3) := by decide +kernel
theorem dX0_average_37 : decode cX0_average 37 = .ok (.invokestatic 57, 3) := by decide +kernel
theorem dX0_average_40 : decode cX0_average 40 = .ok (.lstore 6, 2) := by decide +kernel
theorem dX0_average_42 : decode cX0_average 42 = .ok (.lload_n 3, 1) := by decide +kernel
theorem dX0_average_43 : decode cX0_average 43 = .ok (.aload_n 0, 1) := by decide +kernel
theorem dX0_average_44 : decode cX0_average 44 = .ok (.getfield 9, 3) := by decide +kernel
theorem dX0_average_47 : decode cX0_average 47 = .ok (.iload 5, 2) := by decide +kernel
theorem dX0_average_49 : decode cX0_average 49 = .ok (.invokestatic 23, 3) := by decide +kernel
theorem dX0_average_52 : decode cX0_average 52 = .ok (.i2l, 1) := by decide +kernel
theorem dX0_average_53 : decode cX0_average 53 = .ok (.lload 6, 2) := by decide +kernel
theorem dX0_average_55 : decode cX0_average 55 = .ok (.lmul, 1) := by decide +kernel
theorem dX0_average_56 : decode cX0_average 56 = .ok (.ladd, 1) := by decide +kernel
theorem dX0_average_57 : decode cX0_average 57 = .ok (.lstore_n 3, 1) := by decide +kernel
theorem dX0_average_58 : decode cX0_average 58 = .ok (.iinc 5 1, 3) := by decide +kernel
theorem dX0_average_61 : decode cX0_average 61 = .ok (.goto (-56), 3) := by decide +kernel
theorem dX0_average_64 : decode cX0_average 64 = .ok (.lload_n 3, 1) := by decide +kernel
theorem dX0_average_65 : decode cX0_average 65 = .ok (.lreturn, 1) := by decide +kernel
set_option maxRecDepth 20000 in
theorem ggX0_asking_X0_tenths : GoodIn wsX0_asking wsX0_tenths := goodIn_r _ [6] (by decide +kernel) (by decide +kernel)
set_option maxRecDepth 20000 in
theorem gX0_asking_X0_tenths : GoodIn wsX0_asking (va_wsS RX0 23 yX0_tenths wsX0_tenths) := goodIn_app (goodIn_of _ (by decide +kernel)) ggX0_asking_X0_tenths
set_option maxRecDepth 20000 in
theorem ggX0_asking_X0_scaleOf : GoodIn wsX0_asking wsX0_scaleOf := goodIn_r _ [10, 11, 12, 13, 14, 20, 21, 22, 23, 24] (by decide +kernel) (by decide +kernel)
set_option maxRecDepth 20000 in
theorem gX0_asking_X0_scaleOf : GoodIn wsX0_asking (wsV RX0 38 RX0 yX0_scaleOf wsX0_scaleOf) := goodIn_app (goodIn_of _ (by decide +kernel)) ggX0_asking_X0_scaleOf
set_option maxRecDepth 20000 in
theorem ggX0_asking_X0_worthOf : GoodIn wsX0_asking wsX0_worthOf := goodIn_r _ [18, 19, 12, 13, 14, 20, 21, 22, 23, 24] (by decide +kernel) (by decide +kernel)
set_option maxRecDepth 20000 in
theorem gX0_asking_X0_worthOf : GoodIn wsX0_asking (wsV RX0 34 RX0 yX0_worthOf wsX0_worthOf) := goodIn_app (goodIn_of _ (by decide +kernel)) ggX0_asking_X0_worthOf
theorem dX0_asking_0 : decode cX0_asking 0 = .ok (.aload_n 0, 1) := by decide +kernel
theorem dX0_asking_1 : decode cX0_asking 1 = .ok (.getfield 13, 3) := by decide +kernel
theorem dX0_asking_4 : decode cX0_asking 4 = .ok (.iload_n 3, 1) := by decide +kernel
theorem dX0_asking_5 : decode cX0_asking 5 = .ok (.invokestatic 23, 3) := by decide +kernel
theorem dX0_asking_8 : decode cX0_asking 8 = .ok (.i2l, 1) := by decide +kernel
theorem dX0_asking_9 : decode cX0_asking 9 = .ok (.lstore 4, 2) := by decide +kernel
theorem dX0_asking_11 : decode cX0_asking 11 = .ok (.lload 4, 2) := by decide +kernel
theorem dX0_asking_13 : decode cX0_asking 13 = .ok (.aload_n 0, 1) := by decide +kernel
theorem dX0_asking_14 : decode cX0_asking 14 = .ok (.iload_n 1, 1) := by decide +kernel
theorem dX0_asking_15 : decode cX0_asking 15 = .ok (.invokevirtual 38, 3) := by decide +kernel
theorem dX0_asking_18 : decode cX0_asking 18 = .ok (.aload_n 0, 1) := by decide +kernel
theorem dX0_asking_19 : decode cX0_asking 19 = .ok (.iload_n 1, 1) := by decide +kernel
theorem dX0_asking_20 : decode cX0_asking 20 = .ok (.iload_n 2, 1) := by decide +kernel
theorem dX0_asking_21 : decode cX0_asking 21 = .ok (.invokevirtual 34, 3) := by decide +kernel
theorem dX0_asking_24 : decode cX0_asking 24 = .ok (.ladd, 1) := by decide +kernel
theorem dX0_asking_25 : decode cX0_asking 25 = .ok (.lmul, 1) := by decide +kernel
theorem dX0_asking_26 : decode cX0_asking 26 = .ok (.ldc2_w 50, 3) := by decide +kernel
theorem dX0_asking_29 : decode cX0_asking 29 = .ok (.lload 4, 2) := by decide +kernel
theorem dX0_asking_31 : decode cX0_asking 31 = .ok (.lsub, 1) := by decide +kernel
theorem dX0_asking_32 : decode cX0_asking 32 = .ok (.aload_n 0, 1) := by decide +kernel
theorem dX0_asking_33 : decode cX0_asking 33 = .ok (.iload_n 1, 1) := by decide +kernel
theorem dX0_asking_34 : decode cX0_asking 34 = .ok (.iload_n 2, 1) := by decide +kernel
theorem dX0_asking_35 : decode cX0_asking 35 = .ok (.iconst 1, 1) := by decide +kernel
theorem dX0_asking_36 : decode cX0_asking 36 = .ok (.isub, 1) := by decide +kernel
theorem dX0_asking_37 : decode cX0_asking 37 = .ok (.invokevirtual 34, 3) := by decide +kernel
theorem dX0_asking_40 : decode cX0_asking 40 = .ok (.lmul, 1) := by decide +kernel
theorem dX0_asking_41 : decode cX0_asking 41 = .ok (.ladd, 1) := by decide +kernel
theorem dX0_asking_42 : decode cX0_asking 42 = .ok (.lreturn, 1) := by decide +kernel
set_option maxRecDepth 20000 in
theorem ggX0_worthOf_X9_within : GoodIn wsX0_worthOf wsX9_within := goodIn_r _ [4] (by decide +kernel) (by decide +kernel)
set_option maxRecDepth 20000 in
theorem gX0_worthOf_X9_within_n62 : GoodIn wsX0_worthOf (wsX9_within) := ggX0_worthOf_X9_within
theorem dX0_worthOf_0 : decode cX0_worthOf 0 = .ok (.iload_n 1, 1) := by decide +kernel
theorem dX0_worthOf_1 : decode cX0_worthOf 1 = .ok (.iconst 0, 1) := by decide +kernel
theorem dX0_worthOf_2 : decode cX0_worthOf 2 = .ok (.bipush 8, 2) := by decide +kernel
theorem dX0_worthOf_4 : decode cX0_worthOf 4 = .ok (.invokestatic 62, 3) := by decide +kernel
theorem dX0_worthOf_7 : decode cX0_worthOf 7 = .ok (.ifCond .eq 27, 3) := by decide +kernel
theorem dX0_worthOf_10 : decode cX0_worthOf 10 = .ok (.iload_n 2, 1) := by decide +kernel
theorem dX0_worthOf_11 : decode cX0_worthOf 11 = .ok (.iconst 0, 1) := by decide +kernel
theorem dX0_worthOf_12 : decode cX0_worthOf 12 = .ok (.bipush 8, 2) := by decide +kernel
theorem dX0_worthOf_14 : decode cX0_worthOf 14 = .ok (.invokestatic 62, 3) := by decide +kernel
theorem dX0_worthOf_17 : decode cX0_worthOf 17 = .ok (.ifCond .eq 17, 3) := by decide +kernel
theorem dX0_worthOf_20 : decode cX0_worthOf 20 = .ok (.aload_n 0, 1) := by decide +kernel
theorem dX0_worthOf_21 : decode cX0_worthOf 21 = .ok (.getfield 16, 3) := by decide +kernel
theorem dX0_worthOf_24 : decode cX0_worthOf 24 = .ok (.iload_n 1, 1) := by decide +kernel
theorem dX0_worthOf_25 : decode cX0_worthOf 25 = .ok (.bipush 9, 2) := by decide +kernel
theorem dX0_worthOf_27 : decode cX0_worthOf 27 = .ok (.imul, 1) := by decide +kernel
theorem dX0_worthOf_28 : decode cX0_worthOf 28 = .ok (.iload_n 2, 1) := by decide +kernel
theorem dX0_worthOf_29 : decode cX0_worthOf 29 = .ok (.iadd, 1) := by decide +kernel
theorem dX0_worthOf_30 : decode cX0_worthOf 30 = .ok (.laload, 1) := by decide +kernel
theorem dX0_worthOf_31 : decode cX0_worthOf 31 = .ok (.goto 4, 3) := by decide +kernel
theorem dX0_worthOf_34 : decode cX0_worthOf 34 = .ok (.lconst 0, 1) := by decide +kernel
theorem dX0_worthOf_35 : decode cX0_worthOf 35 = .ok (.lreturn, 1) := by decide +kernel
set_option maxRecDepth 20000 in
theorem ggX0_scaleOf_X9_within : GoodIn wsX0_scaleOf wsX9_within := goodIn_r _ [4] (by decide +kernel) (by decide +kernel)
set_option maxRecDepth 20000 in
theorem gX0_scaleOf_X9_within_n62 : GoodIn wsX0_scaleOf (wsX9_within) := ggX0_scaleOf_X9_within
theorem dX0_scaleOf_0 : decode cX0_scaleOf 0 = .ok (.iload_n 1, 1) := by decide +kernel
theorem dX0_scaleOf_1 : decode cX0_scaleOf 1 = .ok (.iconst 0, 1) := by decide +kernel
theorem dX0_scaleOf_2 : decode cX0_scaleOf 2 = .ok (.bipush 8, 2) := by decide +kernel
theorem dX0_scaleOf_4 : decode cX0_scaleOf 4 = .ok (.invokestatic 62, 3) := by decide +kernel
theorem dX0_scaleOf_7 : decode cX0_scaleOf 7 = .ok (.ifCond .eq 12, 3) := by decide +kernel
theorem dX0_scaleOf_10 : decode cX0_scaleOf 10 = .ok (.aload_n 0, 1) := by decide +kernel
theorem dX0_scaleOf_11 : decode cX0_scaleOf 11 = .ok (.getfield 20, 3) := by decide +kernel
theorem dX0_scaleOf_14 : decode cX0_scaleOf 14 = .ok (.iload_n 1, 1) := by decide +kernel
theorem dX0_scaleOf_15 : decode cX0_scaleOf 15 = .ok (.laload, 1) := by decide +kernel
theorem dX0_scaleOf_16 : decode cX0_scaleOf 16 = .ok (.goto 4, 3) := by decide +kernel
theorem dX0_scaleOf_19 : decode cX0_scaleOf 19 = .ok (.lconst 1, 1) := by decide +kernel
theorem dX0_scaleOf_20 : decode cX0_scaleOf 20 = .ok (.lreturn, 1) := by decide +kernel
theorem dX0_tenths_0 : decode cX0_tenths 0 = .ok (.iload_n 1, 1) := by decide +kernel
theorem dX0_tenths_1 : decode cX0_tenths 1 = .ok (.ifCond .lt 15, 3) := by decide +kernel
theorem dX0_tenths_4 : decode cX0_tenths 4 = .ok (.iload_n 1, 1) := by decide +kernel
theorem dX0_tenths_5 : decode cX0_tenths 5 = .ok (.aload_n 0, 1) := by decide +kernel
theorem dX0_tenths_6 : decode cX0_tenths 6 = .ok (.arraylength, 1) := by decide +kernel
theorem dX0_tenths_7 : decode cX0_tenths 7 = .ok (.if_icmp .ge 9, 3) := by decide +kernel
theorem dX0_tenths_10 : decode cX0_tenths 10 = .ok (.aload_n 0, 1) := by decide +kernel
theorem dX0_tenths_11 : decode cX0_tenths 11 = .ok (.iload_n 1, 1) := by decide +kernel
theorem dX0_tenths_12 : decode cX0_tenths 12 = .ok (.iaload, 1) := by decide +kernel
theorem dX0_tenths_13 : decode cX0_tenths 13 = .ok (.goto 4, 3) := by decide +kernel
theorem dX0_tenths_16 : decode cX0_tenths 16 = .ok (.iconst 0, 1) := by decide +kernel
theorem dX0_tenths_17 : decode cX0_tenths 17 = .ok (.ireturn, 1) := by decide +kernel
theorem dX0_commonDivisor_0 : decode cX0_commonDivisor 0 = .ok (.iconst 0, 1) := by decide +kernel
theorem dX0_commonDivisor_1 : decode cX0_commonDivisor 1 = .ok (.istore 4, 2) := by decide +kernel
theorem dX0_commonDivisor_3 : decode cX0_commonDivisor 3 = .ok (.iload 4, 2) := by decide +kernel
theorem dX0_commonDivisor_5 : decode cX0_commonDivisor 5 = .ok (.sipush 200, 3) := by decide +kernel
theorem dX0_commonDivisor_8 : decode cX0_commonDivisor 8 = .ok (.if_icmp .ge 25, 3) := by decide +kernel
theorem dX0_commonDivisor_11 : decode cX0_commonDivisor 11 = .ok (.lload_n 2, 1) := by decide +kernel
theorem dX0_commonDivisor_12 : decode cX0_commonDivisor 12 = .ok (.lconst 0, 1) := by decide +kernel
theorem dX0_commonDivisor_13 : decode cX0_commonDivisor 13 = .ok (.lcmp, 1) := by decide +kernel
theorem dX0_commonDivisor_14 : decode cX0_commonDivisor 14 = .ok (.ifCond .eq 19, 3) := by decide +kernel
theorem dX0_commonDivisor_17 : decode cX0_commonDivisor 17 = .ok (.lload_n 0, 1) := by decide +kernel
theorem dX0_commonDivisor_18 : decode cX0_commonDivisor 18 = .ok (.lload_n 2, 1) := by decide +kernel
theorem dX0_commonDivisor_19 : decode cX0_commonDivisor 19 = .ok (.lrem, 1) := by decide +kernel
theorem dX0_commonDivisor_20 : decode cX0_commonDivisor 20 = .ok (.lstore 5, 2) := by decide +kernel
theorem dX0_commonDivisor_22 : decode cX0_commonDivisor 22 = .ok (.lload_n 2, 1) := by decide +kernel
theorem dX0_commonDivisor_23 : decode cX0_commonDivisor 23 = .ok (.lstore_n 0, 1) := by decide +kernel
theorem dX0_commonDivisor_24 : decode cX0_commonDivisor 24 = .ok (.lload 5, 2) := by decide +kernel
theorem dX0_commonDivisor_26 : decode cX0_commonDivisor 26 = .ok (.lstore_n 2, 1) := by decide +kernel
theorem dX0_commonDivisor_27 : decode cX0_commonDivisor 27 = .ok (.iinc 4 1, 3) := by decide +kernel
theorem dX0_commonDivisor_30 : decode cX0_commonDivisor 30 = .ok (.goto (-27), 3) := by decide +kernel
theorem dX0_commonDivisor_33 : decode cX0_commonDivisor 33 = .ok (.lload_n 0, 1) := by decide +kernel
theorem dX0_commonDivisor_34 : decode cX0_commonDivisor 34 = .ok (.lreturn, 1) := by decide +kernel
theorem dX1_init_0 : decode cX1_init 0 = .ok (.aload_n 0, 1) := by decide +kernel
theorem dX1_init_1 : decode cX1_init 1 = .ok (.invokespecial 3, 3) := by decide +kernel
theorem dX1_init_4 : decode cX1_init 4 = .ok (.aload_n 0, 1) := by decide +kernel
theorem dX1_init_5 : decode cX1_init 5 = .ok (.bipush 30, 2) := by decide +kernel
theorem dX1_init_7 : decode cX1_init 7 = .ok (.newarray .int, 2) := by decide +kernel
theorem dX1_init_9 : decode cX1_init 9 = .ok (.putfield 11, 3) := by decide +kernel
theorem dX1_init_12 : decode cX1_init 12 = .ok (.aload_n 0, 1) := by decide +kernel
theorem dX1_init_13 : decode cX1_init 13 = .ok (.bipush 30, 2) := by decide +kernel
theorem dX1_init_15 : decode cX1_init 15 = .ok (.newarray .boolean, 2) := by decide +kernel
theorem dX1_init_17 : decode cX1_init 17 = .ok (.putfield 15, 3) := by decide +kernel
theorem dX1_init_20 : decode cX1_init 20 = .ok (.return_, 1) := by decide +kernel
theorem dX1_size_0 : decode cX1_size 0 = .ok (.aload_n 0, 1) := by decide +kernel
theorem dX1_size_1 : decode cX1_size 1 = .ok (.getfield 19, 3) := by decide +kernel
theorem dX1_size_4 : decode cX1_size 4 = .ok (.ireturn, 1) := by decide +kernel
theorem dX1_add_0 : decode cX1_add 0 = .ok (.aload_n 0, 1) := by decide +kernel
theorem dX1_add_1 : decode cX1_add 1 = .ok (.getfield 19, 3) := by decide +kernel
theorem dX1_add_4 : decode cX1_add 4 = .ok (.ifCond .lt 12, 3) := by decide +kernel
theorem dX1_add_7 : decode cX1_add 7 = .ok (.aload_n 0, 1) := by decide +kernel
theorem dX1_add_8 : decode cX1_add 8 = .ok (.getfield 19, 3) := by decide +kernel
theorem dX1_add_11 : decode cX1_add 11 = .ok (.bipush 30, 2) := by decide +kernel
theorem dX1_add_13 : decode cX1_add 13 = .ok (.if_icmp .lt 6, 3) := by decide +kernel
theorem dX1_add_16 : decode cX1_add 16 = .ok (.bipush (-3), 2) := by decide +kernel
theorem dX1_add_18 : decode cX1_add 18 = .ok (.ireturn, 1) := by decide +kernel
theorem dX1_add_19 : decode cX1_add 19 = .ok (.aload_n 0, 1) := by decide +kernel
theorem dX1_add_20 : decode cX1_add 20 = .ok (.getfield 11, 3) := by decide +kernel
theorem dX1_add_23 : decode cX1_add 23 = .ok (.aload_n 0, 1) := by decide +kernel
theorem dX1_add_24 : decode cX1_add 24 = .ok (.getfield 19, 3) := by decide +kernel
theorem dX1_add_27 : decode cX1_add 27 = .ok (.iload_n 1, 1) := by decide +kernel
theorem dX1_add_28 : decode cX1_add 28 = .ok (.iastore, 1) := by decide +kernel
theorem dX1_add_29 : decode cX1_add 29 = .ok (.aload_n 0, 1) := by decide +kernel
theorem dX1_add_30 : decode cX1_add 30 = .ok (.getfield 15, 3) := by decide +kernel
theorem dX1_add_33 : decode cX1_add 33 = .ok (.aload_n 0, 1) := by decide +kernel
theorem dX1_add_34 : decode cX1_add 34 = .ok (.getfield 19, 3) := by decide +kernel
theorem dX1_add_37 : decode cX1_add 37 = .ok (.iload_n 2, 1) := by decide +kernel
theorem dX1_add_38 : decode cX1_add 38 = .ok (.bastore, 1) := by decide +kernel
theorem dX1_add_39 : decode cX1_add 39 = .ok (.aload_n 0, 1) := by decide +kernel
theorem dX1_add_40 : decode cX1_add 40 = .ok (.dup, 1) := by decide +kernel
theorem dX1_add_41 : decode cX1_add 41 = .ok (.getfield 19, 3) := by decide +kernel
theorem dX1_add_44 : decode cX1_add 44 = .ok (.iconst 1, 1) := by decide +kernel
theorem dX1_add_45 : decode cX1_add 45 = .ok (.iadd, 1) := by decide +kernel
theorem dX1_add_46 : decode cX1_add 46 = .ok (.putfield 19, 3) := by decide +kernel
theorem dX1_add_49 : decode cX1_add 49 = .ok (.aload_n 0, 1) := by decide +kernel
theorem dX1_add_50 : decode cX1_add 50 = .ok (.getfield 19, 3) := by decide +kernel
theorem dX1_add_53 : decode cX1_add 53 = .ok (.ireturn, 1) := by decide +kernel
set_option maxRecDepth 20000 in
theorem ggX1_bestRule_X1_wrongUnder : GoodIn wsX1_bestRule wsX1_wrongUnder := goodIn_r _ [5, 6, 7, 8, 13, 14, 15] (by decide +kernel) (by decide +kernel)
set_option maxRecDepth 20000 in
theorem gX1_bestRule_X1_wrongUnder : GoodIn wsX1_bestRule (wsV RX1 23 RX1 yX1_wrongUnder wsX1_wrongUnder) := goodIn_app (goodIn_of _ (by decide +kernel)) ggX1_bestRule_X1_wrongUnder
set_option maxRecDepth 20000 in
theorem ggX1_bestRule_X1_untoldUnder : GoodIn wsX1_bestRule wsX1_untoldUnder := goodIn_r _ [12, 6, 8, 13, 14, 15] (by decide +kernel) (by decide +kernel)
set_option maxRecDepth 20000 in
theorem gX1_bestRule_X1_untoldUnder : GoodIn wsX1_bestRule (wsV RX1 27 RX1 yX1_untoldUnder wsX1_untoldUnder) := goodIn_app (goodIn_of _ (by decide +kernel)) ggX1_bestRule_X1_untoldUnder
theorem dX1_bestRule_0 : decode cX1_bestRule 0 = .ok (.bipush 51, 2) := by decide +kernel
theorem dX1_bestRule_2 : decode cX1_bestRule 2 = .ok (.istore_n 1, 1) := by decide +kernel
theorem dX1_bestRule_3 : decode cX1_bestRule 3 = .ok (.bipush 31, 2) := by decide +kernel
theorem dX1_bestRule_5 : decode cX1_bestRule 5 = .ok (.istore_n 2, 1) := by decide +kernel
theorem dX1_bestRule_6 : decode cX1_bestRule 6 = .ok (.bipush 31, 2) := by decide +kernel
theorem dX1_bestRule_8 : decode cX1_bestRule 8 = .ok (.istore_n 3, 1) := by decide +kernel
theorem dX1_bestRule_9 : decode cX1_bestRule 9 = .ok (.bipush 51, 2) := by decide +kernel
theorem dX1_bestRule_11 : decode cX1_bestRule 11 = .ok (.istore 4, 2) := by decide +kernel
theorem dX1_bestRule_13 : decode cX1_bestRule 13 = .ok (.iload 4, 2) := by decide +kernel
theorem dX1_bestRule_15 : decode cX1_bestRule 15 = .ok (.bipush 100, 2) := by decide +kernel
theorem dX1_bestRule_17 : decode cX1_bestRule 17 = .ok (.if_icmp .gt 52, 3) := by decide +kernel
theorem dX1_bestRule_20 : decode cX1_bestRule 20 = .ok (.aload_n 0, 1) := by decide +kernel
theorem dX1_bestRule_21 : decode cX1_bestRule 21 = .ok (.iload 4, 2) := by decide +kernel
theorem dX1_bestRule_23 : decode cX1_bestRule 23 = .ok (.invokevirtual 23, 3) := by decide +kernel
theorem dX1_bestRule_26 : decode cX1_bestRule 26 = .ok (.istore 5, 2) := by decide +kernel
theorem dX1_bestRule_28 : decode cX1_bestRule 28 = .ok (.aload_n 0, 1) := by decide +kernel
theorem dX1_bestRule_29 : decode cX1_bestRule 29 = .ok (.iload 4, 2) := by decide +kernel
theorem dX1_bestRule_31 : decode cX1_bestRule 31 = .ok (.invokevirtual 27, 3) := by decide +kernel
theorem dX1_bestRule_34 : decode cX1_bestRule 34 = .ok (.istore 6, 2) := by decide +kernel
theorem dX1_bestRule_36 : decode cX1_bestRule 36 = .ok (.iload 5, 2) := by decide +kernel
theorem dX1_bestRule_38 : decode cX1_bestRule 38 = .ok (.iload_n 2, 1) := by decide +kernel
theorem dX1_bestRule_39 : decode cX1_bestRule 39 = .ok (.if_icmp .lt 15, 3) := by decide +kernel
theorem dX1_bestRule_42 : decode cX1_bestRule 42 = .ok (.iload 5, 2) := by decide +kernel
theorem dX1_bestRule_44 : decode cX1_bestRule 44 = .ok (.iload_n 2, 1) := by decide +kernel
theorem dX1_bestRule_45 : decode cX1_bestRule 45 = .ok (.if_icmp .ne 18, 3) := by decide +kernel
theorem dX1_bestRule_48 : decode cX1_bestRule 48 = .ok (.iload 6, 2) := by decide +kernel
theorem dX1_bestRule_50 : decode cX1_bestRule 50 = .ok (.iload_n 3, 1) := by decide +kernel
theorem dX1_bestRule_51 : decode cX1_bestRule 51 = .ok (.if_icmp .ge 12, 3) := by decide +kernel
theorem dX1_bestRule_54 : decode cX1_bestRule 54 = .ok (.iload 4, 2) := by decide +kernel
theorem dX1_bestRule_56 : decode cX1_bestRule 56 = .ok (.istore_n 1, 1) := by decide +kernel
theorem dX1_bestRule_57 : decode cX1_bestRule 57 = .ok (.iload 5, 2) := by decide +kernel
theorem dX1_bestRule_59 : decode cX1_bestRule 59 = .ok (.istore_n 2, 1) := by decide +kernel
theorem dX1_bestRule_60 : decode cX1_bestRule 60 = .ok (.iload 6, 2) := by decide +kernel
theorem dX1_bestRule_62 : decode cX1_bestRule 62 = .ok (.istore_n 3, 1) := by decide +kernel
theorem dX1_bestRule_63 : decode cX1_bestRule 63 = .ok (.iinc 4 1, 3) := by decide +kernel
theorem dX1_bestRule_66 : decode cX1_bestRule 66 = .ok (.goto (-53), 3) := by decide +kernel
theorem dX1_bestRule_69 : decode cX1_bestRule 69 = .ok (.iload_n 1, 1) := by decide +kernel
theorem dX1_bestRule_70 : decode cX1_bestRule 70 = .ok (.ireturn, 1) := by decide +kernel
theorem dX1_wrongUnder_0 : decode cX1_wrongUnder 0 = .ok (.iconst 0, 1) := by decide +kernel
theorem dX1_wrongUnder_1 : decode cX1_wrongUnder 1 = .ok (.istore_n 2, 1) := by decide +kernel
theorem dX1_wrongUnder_2 : decode cX1_wrongUnder 2 = .ok (.iconst 0, 1) := by decide +kernel
theorem dX1_wrongUnder_3 : decode cX1_wrongUnder 3 = .ok (.istore_n 3, 1) := by decide +kernel
theorem dX1_wrongUnder_4 : decode cX1_wrongUnder 4 = .ok (.iload_n 3, 1) := by decide +kernel
theorem dX1_wrongUnder_5 : decode cX1_wrongUnder 5 = .ok (.aload_n 0, 1) := by decide +kernel
theorem dX1_wrongUnder_6 : decode cX1_wrongUnder 6 = .ok (.getfield 19, 3) := by decide +kernel
theorem dX1_wrongUnder_9 : decode cX1_wrongUnder 9 = .ok (.if_icmp .ge 58, 3) := by decide +kernel
theorem dX1_wrongUnder_12 : decode cX1_wrongUnder 12 = .ok (.iload_n 3, 1) := by decide +kernel
theorem dX1_wrongUnder_13 : decode cX1_wrongUnder 13 = .ok (.bipush 30, 2) := by decide +kernel
theorem dX1_wrongUnder_15 : decode cX1_wrongUnder 15 = .ok (.if_icmp .ge 52, 3) := by decide +kernel
theorem dX1_wrongUnder_18 : decode cX1_wrongUnder 18 = .ok (.aload_n 0, 1) := by decide +kernel
theorem dX1_wrongUnder_19 : decode cX1_wrongUnder 19 = .ok (.getfield 15, 3) := by decide +kernel
theorem dX1_wrongUnder_22 : decode cX1_wrongUnder 22 = .ok (.iload_n 3, 1) := by decide +kernel
theorem dX1_wrongUnder_23 : decode cX1_wrongUnder 23 = .ok (.baload, 1) := by decide +kernel
theorem dX1_wrongUnder_24 : decode cX1_wrongUnder 24 = .ok (.ifCond .eq 15, 3) := by decide +kernel
theorem dX1_wrongUnder_27 : decode cX1_wrongUnder 27 = .ok (.bipush 100, 2) := by decide +kernel
theorem dX1_wrongUnder_29 : decode cX1_wrongUnder 29 = .ok (.aload_n 0, 1) := by decide +kernel
theorem dX1_wrongUnder_30 : decode cX1_wrongUnder 30 = .ok (.getfield 11, 3) := by decide +kernel
theorem dX1_wrongUnder_33 : decode cX1_wrongUnder 33 = .ok (.iload_n 3, 1) := by decide +kernel
theorem dX1_wrongUnder_34 : decode cX1_wrongUnder 34 = .ok (.iaload, 1) := by decide +kernel
theorem dX1_wrongUnder_35 : decode cX1_wrongUnder 35 = .ok (.isub, 1) := by decide +kernel
theorem dX1_wrongUnder_36 : decode cX1_wrongUnder 36 = .ok (.goto 9, 3) := by decide +kernel
theorem dX1_wrongUnder_39 : decode cX1_wrongUnder 39 = .ok (.aload_n 0, 1) := by decide +kernel
theorem dX1_wrongUnder_40 : decode cX1_wrongUnder 40 = .ok (.getfield 11, 3) := by decide +kernel
theorem dX1_wrongUnder_43 : decode cX1_wrongUnder 43 = .ok (.iload_n 3, 1) := by decide +kernel
theorem dX1_wrongUnder_44 : decode cX1_wrongUnder 44 = .ok (.iaload, 1) := by decide +kernel
theorem dX1_wrongUnder_45 : decode cX1_wrongUnder 45 = .ok (.istore 4, 2) := by decide +kernel
theorem dX1_wrongUnder_47 : decode cX1_wrongUnder 47 = .ok (.iload_n 2, 1) := by decide +kernel
theorem dX1_wrongUnder_48 : decode cX1_wrongUnder 48 = .ok (.iload 4, 2) := by decide +kernel
theorem dX1_wrongUnder_50 : decode cX1_wrongUnder 50 = .ok (.iload_n 1, 1) := by decide +kernel
theorem dX1_wrongUnder_51 : decode cX1_wrongUnder 51 = .ok (.if_icmp .lt 7, 3) := by decide +kernel
theorem dX1_wrongUnder_54 : decode cX1_wrongUnder 54 = .ok (.iconst 1, 1) := by decide +kernel
theorem dX1_wrongUnder_55 : decode cX1_wrongUnder 55 = .ok (.goto 4, 3) := by decide +kernel
theorem dX1_wrongUnder_58 : decode cX1_wrongUnder 58 = .ok (.iconst 0, 1) := by decide +kernel
theorem dX1_wrongUnder_59 : decode cX1_wrongUnder 59 = .ok (.iadd, 1) := by decide +kernel
theorem dX1_wrongUnder_60 : decode cX1_wrongUnder 60 = .ok (.istore_n 2, 1) := by decide +kernel
theorem dX1_wrongUnder_61 : decode cX1_wrongUnder 61 = .ok (.iinc 3 1, 3) := by decide +kernel
theorem dX1_wrongUnder_64 : decode cX1_wrongUnder 64 = .ok (.goto (-60), 3) := by decide +kernel
theorem dX1_wrongUnder_67 : decode cX1_wrongUnder 67 = .ok (.iload_n 2, 1) := by decide +kernel
theorem dX1_wrongUnder_68 : decode cX1_wrongUnder 68 = .ok (.ireturn, 1) := by decide +kernel
theorem dX1_untoldUnder_0 : decode cX1_untoldUnder 0 = .ok (.iconst 0, 1) := by decide +kernel
theorem dX1_untoldUnder_1 : decode cX1_untoldUnder 1 = .ok (.istore_n 2, 1) := by decide +kernel
theorem dX1_untoldUnder_2 : decode cX1_untoldUnder 2 = .ok (.iconst 0, 1) := by decide +kernel
theorem dX1_untoldUnder_3 : decode cX1_untoldUnder 3 = .ok (.istore_n 3, 1) := by decide +kernel
theorem dX1_untoldUnder_4 : decode cX1_untoldUnder 4 = .ok (.iload_n 3, 1) := by decide +kernel
theorem dX1_untoldUnder_5 : decode cX1_untoldUnder 5 = .ok (.aload_n 0, 1) := by decide +kernel
theorem dX1_untoldUnder_6 : decode cX1_untoldUnder 6 = .ok (.getfield 19, 3) := by decide +kernel
theorem dX1_untoldUnder_9 : decode cX1_untoldUnder 9 = .ok (.if_icmp .ge 46, 3) := by decide +kernel
theorem dX1_untoldUnder_12 : decode cX1_untoldUnder 12 = .ok (.iload_n 3, 1) := by decide +kernel
theorem dX1_untoldUnder_13 : decode cX1_untoldUnder 13 = .ok (.bipush 30, 2) := by decide +kernel
theorem dX1_untoldUnder_15 : decode cX1_untoldUnder 15 = .ok (.if_icmp .ge 40, 3) := by decide +kernel
theorem dX1_untoldUnder_18 : decode cX1_untoldUnder 18 = .ok (.iload_n 2, 1) := by decide +kernel
theorem dX1_untoldUnder_19 : decode cX1_untoldUnder 19 = .ok (.aload_n 0, 1) := by decide +kernel
theorem dX1_untoldUnder_20 : decode cX1_untoldUnder 20 = .ok (.getfield 11, 3) := by decide +kernel
theorem dX1_untoldUnder_23 : decode cX1_untoldUnder 23 = .ok (.iload_n 3, 1) := by decide +kernel
theorem dX1_untoldUnder_24 : decode cX1_untoldUnder 24 = .ok (.iaload, 1) := by decide +kernel
theorem dX1_untoldUnder_25 : decode cX1_untoldUnder 25 = .ok (.iload_n 1, 1) := by decide +kernel
theorem dX1_untoldUnder_26 : decode cX1_untoldUnder 26 = .ok (.if_icmp .ge 20, 3) := by decide +kernel
theorem dX1_untoldUnder_29 : decode cX1_untoldUnder 29 = .ok (.bipush 100, 2) := by decide +kernel
theorem dX1_untoldUnder_31 : decode cX1_untoldUnder 31 = .ok (.aload_n 0, 1) := by decide +kernel
theorem dX1_untoldUnder_32 : decode cX1_untoldUnder 32 = .ok (.getfield 11, 3) := by decide +kernel
theorem dX1_untoldUnder_35 : decode cX1_untoldUnder 35 = .ok (.iload_n 3, 1) := by decide +kernel
theorem dX1_untoldUnder_36 : decode cX1_untoldUnder 36 = .ok (.iaload, 1) := by decide +kernel
theorem dX1_untoldUnder_37 : decode cX1_untoldUnder 37 = .ok (.isub, 1) := by decide +kernel
theorem dX1_untoldUnder_38 : decode cX1_untoldUnder 38 = .ok (.iload_n 1, 1) := by decide +kernel
theorem dX1_untoldUnder_39 : decode cX1_untoldUnder 39 = .ok (.if_icmp .ge 7, 3) := by decide +kernel
theorem dX1_untoldUnder_42 : decode cX1_untoldUnder 42 = .ok (.iconst 1, 1) := by decide +kernel
theorem dX1_untoldUnder_43 : decode cX1_untoldUnder 43 = .ok (.goto 4, 3) := by decide +kernel
theorem dX1_untoldUnder_46 : decode cX1_untoldUnder 46 = .ok (.iconst 0, 1) := by decide +kernel
theorem dX1_untoldUnder_47 : decode cX1_untoldUnder 47 = .ok (.iadd, 1) := by decide +kernel
theorem dX1_untoldUnder_48 : decode cX1_untoldUnder 48 = .ok (.istore_n 2, 1) := by decide +kernel
theorem dX1_untoldUnder_49 : decode cX1_untoldUnder 49 = .ok (.iinc 3 1, 3) := by decide +kernel
theorem dX1_untoldUnder_52 : decode cX1_untoldUnder 52 = .ok (.goto (-48), 3) := by decide +kernel
theorem dX1_untoldUnder_55 : decode cX1_untoldUnder 55 = .ok (.iload_n 2, 1) := by decide +kernel
theorem dX1_untoldUnder_56 : decode cX1_untoldUnder 56 = .ok (.ireturn, 1) := by decide +kernel
theorem dX2_init_0 : decode cX2_init 0 = .ok (.aload_n 0, 1) := by decide +kernel
theorem dX2_init_1 : decode cX2_init 1 = .ok (.invokespecial 3, 3) := by decide +kernel
theorem dX2_init_4 : decode cX2_init 4 = .ok (.aload_n 0, 1) := by decide +kernel
theorem dX2_init_5 : decode cX2_init 5 = .ok (.sipush 601, 3) := by decide +kernel
theorem dX2_init_8 : decode cX2_init 8 = .ok (.newarray .int, 2) := by decide +kernel
theorem dX2_init_10 : decode cX2_init 10 = .ok (.putfield 9, 3) := by decide +kernel
theorem dX2_init_13 : decode cX2_init 13 = .ok (.aload_n 0, 1) := by decide +kernel
theorem dX2_init_14 : decode cX2_init 14 = .ok (.sipush 601, 3) := by decide +kernel
theorem dX2_init_17 : decode cX2_init 17 = .ok (.newarray .int, 2) := by decide +kernel
theorem dX2_init_19 : decode cX2_init 19 = .ok (.putfield 15, 3) := by decide +kernel
theorem dX2_init_22 : decode cX2_init 22 = .ok (.aload_n 0, 1) := by decide +kernel
theorem dX2_init_23 : decode cX2_init 23 = .ok (.sipush 601, 3) := by decide +kernel
theorem dX2_init_26 : decode cX2_init 26 = .ok (.newarray .int, 2) := by decide +kernel
theorem dX2_init_28 : decode cX2_init 28 = .ok (.putfield 18, 3) := by decide +kernel
theorem dX2_init_31 : decode cX2_init 31 = .ok (.aload_n 0, 1) := by decide +kernel
theorem dX2_init_32 : decode cX2_init 32 = .ok (.sipush 601, 3) := by decide +kernel
theorem dX2_init_35 : decode cX2_init 35 = .ok (.newarray .int, 2) := by decide +kernel
theorem dX2_init_37 : decode cX2_init 37 = .ok (.putfield 21, 3) := by decide +kernel
theorem dX2_init_40 : decode cX2_init 40 = .ok (.aload_n 0, 1) := by decide +kernel
theorem dX2_init_41 : decode cX2_init 41 = .ok (.sipush 601, 3) := by decide +kernel
theorem dX2_init_44 : decode cX2_init 44 = .ok (.newarray .int, 2) := by decide +kernel
theorem dX2_init_46 : decode cX2_init 46 = .ok (.putfield 24, 3) := by decide +kernel
theorem dX2_init_49 : decode cX2_init 49 = .ok (.aload_n 0, 1) := by decide +kernel
theorem dX2_init_50 : decode cX2_init 50 = .ok (.sipush 189, 3) := by decide +kernel
theorem dX2_init_53 : decode cX2_init 53 = .ok (.newarray .int, 2) := by decide +kernel
theorem dX2_init_55 : decode cX2_init 55 = .ok (.putfield 27, 3) := by decide +kernel
theorem dX2_init_58 : decode cX2_init 58 = .ok (.aload_n 0, 1) := by decide +kernel
theorem dX2_init_59 : decode cX2_init 59 = .ok (.aload_n 1, 1) := by decide +kernel
theorem dX2_init_60 : decode cX2_init 60 = .ok (.putfield 30, 3) := by decide +kernel
theorem dX2_init_63 : decode cX2_init 63 = .ok (.aload_n 0, 1) := by decide +kernel
theorem dX2_init_64 : decode cX2_init 64 = .ok (.aload_n 2, 1) := by decide +kernel
theorem dX2_init_65 : decode cX2_init 65 = .ok (.putfield 34, 3) := by decide +kernel
theorem dX2_init_68 : decode cX2_init 68 = .ok (.return_, 1) := by decide +kernel
theorem dX2_forget_0 : decode cX2_forget 0 = .ok (.aload_n 0, 1) := by decide +kernel
theorem dX2_forget_1 : decode cX2_forget 1 = .ok (.iconst 0, 1) := by decide +kernel
theorem dX2_forget_2 : decode cX2_forget 2 = .ok (.putfield 38, 3) := by decide +kernel
theorem dX2_forget_5 : decode cX2_forget 5 = .ok (.aload_n 0, 1) := by decide +kernel
theorem dX2_forget_6 : decode cX2_forget 6 = .ok (.iconst 0, 1) := by decide +kernel
theorem dX2_forget_7 : decode cX2_forget 7 = .ok (.putfield 42, 3) := by decide +kernel
theorem dX2_forget_10 : decode cX2_forget 10 = .ok (.return_, 1) := by decide +kernel
set_option maxRecDepth 20000 in
theorem ggX2_fly_X5_number : GoodIn wsX2_fly wsX5_number := goodIn_r _ [9, 10, 55, 56, 57, 58, 59, 60, 61, 62, 63, 64] (by decide +kernel) (by decide +kernel)
set_option maxRecDepth 20000 in
theorem gX2_fly_X5_number : GoodIn wsX2_fly (wsV RX2 51 RX5 yX5_number wsX5_number) := goodIn_app (goodIn_of _ (by decide +kernel)) ggX2_fly_X5_number
set_option maxRecDepth 20000 in
theorem ggX2_fly_X8_startOf : GoodIn wsX2_fly wsX8_startOf := goodIn_r _ [15, 16, 65, 66, 67, 68] (by decide +kernel) (by decide +kernel)
set_option maxRecDepth 20000 in
theorem gX2_fly_X8_startOf : GoodIn wsX2_fly (wsV RX2 57 RX8 yX8_startOf wsX8_startOf) := goodIn_app (goodIn_of _ (by decide +kernel)) ggX2_fly_X8_startOf
set_option maxRecDepth 20000 in
theorem ggX2_fly_X2_note : GoodIn wsX2_fly wsX2_note := goodIn_r _ [21, 22, 23, 24, 25, 40, 41, 42, 43, 44, 45, 46, 47, 48, 49, 50, 51, 52, 53, 54] (by decide +kernel) (by decide +kernel)
set_option maxRecDepth 20000 in
theorem gX2_fly_X2_note : GoodIn wsX2_fly (wsV RX2 60 RX2 yX2_note wsX2_note) := goodIn_app (goodIn_of _ (by decide +kernel)) ggX2_fly_X2_note
set_option maxRecDepth 20000 in
theorem ggX2_fly_X2_noteTouch : GoodIn wsX2_fly wsX2_noteTouch := goodIn_r _ [29, 2, 30, 3, 31, 32, 33, 34, 35, 8, 36, 37, 38, 39, 5, 6, 7, 9, 10, 40, 41, 42, 43, 44, 45, 46, 47, 48, 49, 50, 51, 52, 53, 54, 55, 56, 57, 58, 59, 60, 61, 62, 63, 64] (by decide +kernel) (by decide +kernel)
set_option maxRecDepth 20000 in
theorem gX2_fly_X2_noteTouch : GoodIn wsX2_fly (wsV RX2 64 RX2 yX2_noteTouch wsX2_noteTouch) := goodIn_app (goodIn_of _ (by decide +kernel)) ggX2_fly_X2_noteTouch
theorem dX2_fly_0 : decode cX2_fly 0 = .ok (.aload_n 0, 1) := by decide +kernel
theorem dX2_fly_1 : decode cX2_fly 1 = .ok (.getfield 38, 3) := by decide +kernel
theorem dX2_fly_4 : decode cX2_fly 4 = .ok (.ifCond .eq 4, 3) := by decide +kernel
theorem dX2_fly_7 : decode cX2_fly 7 = .ok (.return_, 1) := by decide +kernel
theorem dX2_fly_8 : decode cX2_fly 8 = .ok (.aload_n 0, 1) := by decide +kernel
theorem dX2_fly_9 : decode cX2_fly 9 = .ok (.iconst 1, 1) := by decide +kernel
theorem dX2_fly_10 : decode cX2_fly 10 = .ok (.putfield 38, 3) := by decide +kernel
theorem dX2_fly_13 : decode cX2_fly 13 = .ok (.aload_n 0, 1) := by decide +kernel
theorem dX2_fly_14 : decode cX2_fly 14 = .ok (.iconst 0, 1) := by decide +kernel
theorem dX2_fly_15 : decode cX2_fly 15 = .ok (.putfield 45, 3) := by decide +kernel
theorem dX2_fly_18 : decode cX2_fly 18 = .ok (.aload_n 0, 1) := by decide +kernel
theorem dX2_fly_19 : decode cX2_fly 19 = .ok (.getfield 30, 3) := by decide +kernel
theorem dX2_fly_22 : decode cX2_fly 22 = .ok (.iconst 0, 1) := by decide +kernel
theorem dX2_fly_23 : decode cX2_fly 23 = .ok (.invokevirtual 51, 3) := by decide +kernel
theorem dX2_fly_26 : decode cX2_fly 26 = .ok (.istore_n 1, 1) := by decide +kernel
theorem dX2_fly_27 : decode cX2_fly 27 = .ok (.aload_n 0, 1) := by decide +kernel
theorem dX2_fly_28 : decode cX2_fly 28 = .ok (.getfield 30, 3) := by decide +kernel
theorem dX2_fly_31 : decode cX2_fly 31 = .ok (.iconst 1, 1) := by decide +kernel
theorem dX2_fly_32 : decode cX2_fly 32 = .ok (.invokevirtual 51, 3) := by decide +kernel
theorem dX2_fly_35 : decode cX2_fly 35 = .ok (.istore_n 2, 1) := by decide +kernel
theorem dX2_fly_36 : decode cX2_fly 36 = .ok (.aload_n 0, 1) := by decide +kernel
theorem dX2_fly_37 : decode cX2_fly 37 = .ok (.getfield 30, 3) := by decide +kernel
theorem dX2_fly_40 : decode cX2_fly 40 = .ok (.iconst 2, 1) := by decide +kernel
theorem dX2_fly_41 : decode cX2_fly 41 = .ok (.invokevirtual 51, 3) := by decide +kernel
theorem dX2_fly_44 : decode cX2_fly 44 = .ok (.istore_n 3, 1) := by decide +kernel
theorem dX2_fly_45 : decode cX2_fly 45 = .ok (.aload_n 0, 1) := by decide +kernel
theorem dX2_fly_46 : decode cX2_fly 46 = .ok (.getfield 30, 3) := by decide +kernel
theorem dX2_fly_49 : decode cX2_fly 49 = .ok (.iconst 3, 1) := by decide +kernel
theorem dX2_fly_50 : decode cX2_fly 50 = .ok (.invokevirtual 51, 3) := by decide +kernel
theorem dX2_fly_53 : decode cX2_fly 53 = .ok (.istore 4, 2) := by decide +kernel
theorem dX2_fly_55 : decode cX2_fly 55 = .ok (.aload_n 0, 1) := by decide +kernel
theorem dX2_fly_56 : decode cX2_fly 56 = .ok (.getfield 34, 3) := by decide +kernel
theorem dX2_fly_59 : decode cX2_fly 59 = .ok (.iconst 0, 1) := by decide +kernel
theorem dX2_fly_60 : decode cX2_fly 60 = .ok (.invokevirtual 57, 3) := by decide +kernel
theorem dX2_fly_63 : decode cX2_fly 63 = .ok (.istore 5, 2) := by decide +kernel
theorem dX2_fly_65 : decode cX2_fly 65 = .ok (.aload_n 0, 1) := by decide +kernel
theorem dX2_fly_66 : decode cX2_fly 66 = .ok (.getfield 34, 3) := by decide +kernel
theorem dX2_fly_69 : decode cX2_fly 69 = .ok (.iconst 2, 1) := by decide +kernel
theorem dX2_fly_70 : decode cX2_fly 70 = .ok (.invokevirtual 57, 3) := by decide +kernel
theorem dX2_fly_73 : decode cX2_fly 73 = .ok (.istore 6, 2) := by decide +kernel
theorem dX2_fly_75 : decode cX2_fly 75 = .ok (.aload_n 0, 1) := by decide +kernel
theorem dX2_fly_76 : decode cX2_fly 76 = .ok (.getfield 34, 3) := by decide +kernel
theorem dX2_fly_79 : decode cX2_fly 79 = .ok (.iconst 3, 1) := by decide +kernel
theorem dX2_fly_80 : decode cX2_fly 80 = .ok (.invokevirtual 57, 3) := by decide +kernel
theorem dX2_fly_83 : decode cX2_fly 83 = .ok (.istore 7, 2) := by decide +kernel
theorem dX2_fly_85 : decode cX2_fly 85 = .ok (.aload_n 0, 1) := by decide +kernel
theorem dX2_fly_86 : decode cX2_fly 86 = .ok (.getfield 34, 3) := by decide +kernel
theorem dX2_fly_89 : decode cX2_fly 89 = .ok (.iconst 5, 1) := by decide +kernel
theorem dX2_fly_90 : decode cX2_fly 90 = .ok (.invokevirtual 57, 3) := by decide +kernel
theorem dX2_fly_93 : decode cX2_fly 93 = .ok (.istore 8, 2) := by decide +kernel
theorem dX2_fly_95 : decode cX2_fly 95 = .ok (.aload_n 0, 1) := by decide +kernel
theorem dX2_fly_96 : decode cX2_fly 96 = .ok (.iconst 0, 1) := by decide +kernel
theorem dX2_fly_97 : decode cX2_fly 97 = .ok (.iload 5, 2) := by decide +kernel
theorem dX2_fly_99 : decode cX2_fly 99 = .ok (.iload 6, 2) := by decide +kernel
theorem dX2_fly_101 : decode cX2_fly 101 = .ok (.iload 7, 2) := by decide +kernel
theorem dX2_fly_103 : decode cX2_fly 103 = .ok (.iload 8, 2) := by decide +kernel
theorem dX2_fly_105 : decode cX2_fly 105 = .ok (.invokevirtual 60, 3) := by decide +kernel
theorem dX2_fly_108 : decode cX2_fly 108 = .ok (.iconst 1, 1) := by decide +kernel
theorem dX2_fly_109 : decode cX2_fly 109 = .ok (.istore 9, 2) := by decide +kernel
theorem dX2_fly_111 : decode cX2_fly 111 = .ok (.iload 9, 2) := by decide +kernel
theorem dX2_fly_113 : decode cX2_fly 113 = .ok (.sipush 600, 3) := by decide +kernel
theorem dX2_fly_116 : decode cX2_fly 116 = .ok (.if_icmp .gt 114, 3) := by decide +kernel
theorem dX2_fly_119 : decode cX2_fly 119 = .ok (.iload 7, 2) := by decide +kernel
theorem dX2_fly_121 : decode cX2_fly 121 = .ok (.iload 7, 2) := by decide +kernel
theorem dX2_fly_123 : decode cX2_fly 123 = .ok (.iload_n 1, 1) := by decide +kernel
theorem dX2_fly_124 : decode cX2_fly 124 = .ok (.imul, 1) := by decide +kernel
theorem dX2_fly_125 : decode cX2_fly 125 = .ok (.sipush 1000, 3) := by decide +kernel
theorem dX2_fly_128 : decode cX2_fly 128 = .ok (.idiv, 1) := by decide +kernel
theorem dX2_fly_129 : decode cX2_fly 129 = .ok (.isub, 1) := by decide +kernel
theorem dX2_fly_130 : decode cX2_fly 130 = .ok (.istore 7, 2) := by decide +kernel
theorem dX2_fly_132 : decode cX2_fly 132 = .ok (.iload 8, 2) := by decide +kernel
theorem dX2_fly_134 : decode cX2_fly 134 = .ok (.iload 8, 2) := by decide +kernel
theorem dX2_fly_136 : decode cX2_fly 136 = .ok (.iload_n 1, 1) := by decide +kernel
theorem dX2_fly_137 : decode cX2_fly 137 = .ok (.imul, 1) := by decide +kernel
theorem dX2_fly_138 : decode cX2_fly 138 = .ok (.sipush 1000, 3) := by decide +kernel
theorem dX2_fly_141 : decode cX2_fly 141 = .ok (.idiv, 1) := by decide +kernel
theorem dX2_fly_142 : decode cX2_fly 142 = .ok (.isub, 1) := by decide +kernel
theorem dX2_fly_143 : decode cX2_fly 143 = .ok (.istore 8, 2) := by decide +kernel
theorem dX2_fly_145 : decode cX2_fly 145 = .ok (.iload 8, 2) := by decide +kernel
theorem dX2_fly_147 : decode cX2_fly 147 = .ok (.iload_n 2, 1) := by decide +kernel
theorem dX2_fly_148 : decode cX2_fly 148 = .ok (.isub, 1) := by decide +kernel
theorem dX2_fly_149 : decode cX2_fly 149 = .ok (.istore 8, 2) := by decide +kernel
theorem dX2_fly_151 : decode cX2_fly 151 = .ok (.iload 5, 2) := by decide +kernel
theorem dX2_fly_153 : decode cX2_fly 153 = .ok (.iload 7, 2) := by decide +kernel
theorem dX2_fly_155 : decode cX2_fly 155 = .ok (.iadd, 1) := by decide +kernel
theorem dX2_fly_156 : decode cX2_fly 156 = .ok (.istore 5, 2) := by decide +kernel
theorem dX2_fly_158 : decode cX2_fly 158 = .ok (.iload 6, 2) := by decide +kernel
theorem dX2_fly_160 : decode cX2_fly 160 = .ok (.iload 8, 2) := by decide +kernel
theorem dX2_fly_162 : decode cX2_fly 162 = .ok (.iadd, 1) := by decide +kernel
theorem dX2_fly_163 : decode cX2_fly 163 = .ok (.istore 6, 2) := by decide +kernel
theorem dX2_fly_165 : decode cX2_fly 165 = .ok (.iload 6, 2) := by decide +kernel
theorem dX2_fly_167 : decode cX2_fly 167 = .ok (.ifCond .gt 43, 3) := by decide +kernel
theorem dX2_fly_170 : decode cX2_fly 170 = .ok (.iload 8, 2) := by decide +kernel
theorem dX2_fly_172 : decode cX2_fly 172 = .ok (.ifCond .ge 38, 3) := by decide +kernel
theorem dX2_fly_175 : decode cX2_fly 175 = .ok (.aload_n 0, 1) := by decide +kernel
theorem dX2_fly_176 : decode cX2_fly 176 = .ok (.iload 9, 2) := by decide +kernel
theorem dX2_fly_178 : decode cX2_fly 178 = .ok (.iload 5, 2) := by decide +kernel
theorem dX2_fly_180 : decode cX2_fly 180 = .ok (.iload 8, 2) := by decide +kernel
theorem dX2_fly_182 : decode cX2_fly 182 = .ok (.invokevirtual 64, 3) := by decide +kernel
theorem dX2_fly_185 : decode cX2_fly 185 = .ok (.iconst 0, 1) := by decide +kernel
theorem dX2_fly_186 : decode cX2_fly 186 = .ok (.istore 6, 2) := by decide +kernel
theorem dX2_fly_188 : decode cX2_fly 188 = .ok (.iload 8, 2) := by decide +kernel
theorem dX2_fly_190 : decode cX2_fly 190 = .ok (.ineg, 1) := by decide +kernel
theorem dX2_fly_191 : decode cX2_fly 191 = .ok (.iload_n 3, 1) := by decide +kernel
theorem dX2_fly_192 : decode cX2_fly 192 = .ok (.imul, 1) := by decide +kernel
theorem dX2_fly_193 : decode cX2_fly 193 = .ok (.sipush 1000, 3) := by decide +kernel
theorem dX2_fly_196 : decode cX2_fly 196 = .ok (.idiv, 1) := by decide +kernel
theorem dX2_fly_197 : decode cX2_fly 197 = .ok (.istore 8, 2) := by decide +kernel
theorem dX2_fly_199 : decode cX2_fly 199 = .ok (.iload 7, 2) := by decide +kernel
theorem dX2_fly_201 : decode cX2_fly 201 = .ok (.iload 4, 2) := by decide +kernel
theorem dX2_fly_203 : decode cX2_fly 203 = .ok (.imul, 1) := by decide +kernel
theorem dX2_fly_204 : decode cX2_fly 204 = .ok (.sipush 1000, 3) := by decide +kernel
theorem dX2_fly_207 : decode cX2_fly 207 = .ok (.idiv, 1) := by decide +kernel
theorem dX2_fly_208 : decode cX2_fly 208 = .ok (.istore 7, 2) := by decide +kernel
theorem dX2_fly_210 : decode cX2_fly 210 = .ok (.aload_n 0, 1) := by decide +kernel
theorem dX2_fly_211 : decode cX2_fly 211 = .ok (.iload 9, 2) := by decide +kernel
theorem dX2_fly_213 : decode cX2_fly 213 = .ok (.iload 5, 2) := by decide +kernel
theorem dX2_fly_215 : decode cX2_fly 215 = .ok (.iload 6, 2) := by decide +kernel
theorem dX2_fly_217 : decode cX2_fly 217 = .ok (.iload 7, 2) := by decide +kernel
theorem dX2_fly_219 : decode cX2_fly 219 = .ok (.iload 8, 2) := by decide +kernel
theorem dX2_fly_221 : decode cX2_fly 221 = .ok (.invokevirtual 60, 3) := by decide +kernel
theorem dX2_fly_224 : decode cX2_fly 224 = .ok (.iinc 9 1, 3) := by decide +kernel
theorem dX2_fly_227 : decode cX2_fly 227 = .ok (.goto (-116), 3) := by decide +kernel
theorem dX2_fly_230 : decode cX2_fly 230 = .ok (.return_, 1) := by decide +kernel
set_option maxRecDepth 20000 in
theorem ggX2_runSide_X8_startOf : GoodIn wsX2_runSide wsX8_startOf := goodIn_r _ [9, 10, 32, 33, 34, 35] (by decide +kernel) (by decide +kernel)
set_option maxRecDepth 20000 in
theorem gX2_runSide_X8_startOf : GoodIn wsX2_runSide (wsV RX2 57 RX8 yX8_startOf wsX8_startOf) := goodIn_app (goodIn_of _ (by decide +kernel)) ggX2_runSide_X8_startOf
set_option maxRecDepth 20000 in
theorem ggX2_runSide_X5_number : GoodIn wsX2_runSide wsX5_number := goodIn_r _ [15, 16, 36, 37, 38, 39, 40, 41, 42, 43, 44, 45] (by decide +kernel) (by decide +kernel)
set_option maxRecDepth 20000 in
theorem gX2_runSide_X5_number : GoodIn wsX2_runSide (wsV RX2 51 RX5 yX5_number wsX5_number) := goodIn_app (goodIn_of _ (by decide +kernel)) ggX2_runSide_X5_number
theorem dX2_runSide_0 : decode cX2_runSide 0 = .ok (.iload_n 1, 1) := by decide +kernel
theorem dX2_runSide_1 : decode cX2_runSide 1 = .ok (.bipush 9, 2) := by decide +kernel
theorem dX2_runSide_3 : decode cX2_runSide 3 = .ok (.irem, 1) := by decide +kernel
theorem dX2_runSide_4 : decode cX2_runSide 4 = .ok (.iconst 4, 1) := by decide +kernel
theorem dX2_runSide_5 : decode cX2_runSide 5 = .ok (.isub, 1) := by decide +kernel
theorem dX2_runSide_6 : decode cX2_runSide 6 = .ok (.istore_n 3, 1) := by decide +kernel
theorem dX2_runSide_7 : decode cX2_runSide 7 = .ok (.aload_n 0, 1) := by decide +kernel
theorem dX2_runSide_8 : decode cX2_runSide 8 = .ok (.getfield 34, 3) := by decide +kernel
theorem dX2_runSide_11 : decode cX2_runSide 11 = .ok (.iconst 4, 1) := by decide +kernel
theorem dX2_runSide_12 : decode cX2_runSide 12 = .ok (.invokevirtual 57, 3) := by decide +kernel
theorem dX2_runSide_15 : decode cX2_runSide 15 = .ok (.iload_n 1, 1) := by decide +kernel
theorem dX2_runSide_16 : decode cX2_runSide 16 = .ok (.bipush 9, 2) := by decide +kernel
theorem dX2_runSide_18 : decode cX2_runSide 18 = .ok (.idiv, 1) := by decide +kernel
theorem dX2_runSide_19 : decode cX2_runSide 19 = .ok (.iadd, 1) := by decide +kernel
theorem dX2_runSide_20 : decode cX2_runSide 20 = .ok (.bipush 10, 2) := by decide +kernel
theorem dX2_runSide_22 : decode cX2_runSide 22 = .ok (.isub, 1) := by decide +kernel
theorem dX2_runSide_23 : decode cX2_runSide 23 = .ok (.istore 4, 2) := by decide +kernel
theorem dX2_runSide_25 : decode cX2_runSide 25 = .ok (.aload_n 0, 1) := by decide +kernel
theorem dX2_runSide_26 : decode cX2_runSide 26 = .ok (.getfield 34, 3) := by decide +kernel
theorem dX2_runSide_29 : decode cX2_runSide 29 = .ok (.iconst 1, 1) := by decide +kernel
theorem dX2_runSide_30 : decode cX2_runSide 30 = .ok (.invokevirtual 57, 3) := by decide +kernel
theorem dX2_runSide_33 : decode cX2_runSide 33 = .ok (.istore 5, 2) := by decide +kernel
theorem dX2_runSide_35 : decode cX2_runSide 35 = .ok (.aload_n 0, 1) := by decide +kernel
theorem dX2_runSide_36 : decode cX2_runSide 36 = .ok (.getfield 30, 3) := by decide +kernel
theorem dX2_runSide_39 : decode cX2_runSide 39 = .ok (.iconst 0, 1) := by decide +kernel
theorem dX2_runSide_40 : decode cX2_runSide 40 = .ok (.invokevirtual 51, 3) := by decide +kernel
theorem dX2_runSide_43 : decode cX2_runSide 43 = .ok (.istore 6, 2) := by decide +kernel
theorem dX2_runSide_45 : decode cX2_runSide 45 = .ok (.aload_n 0, 1) := by decide +kernel
theorem dX2_runSide_46 : decode cX2_runSide 46 = .ok (.getfield 24, 3) := by decide +kernel
theorem dX2_runSide_49 : decode cX2_runSide 49 = .ok (.iconst 0, 1) := by decide +kernel
theorem dX2_runSide_50 : decode cX2_runSide 50 = .ok (.iload 5, 2) := by decide +kernel
theorem dX2_runSide_52 : decode cX2_runSide 52 = .ok (.iastore, 1) := by decide +kernel
theorem dX2_runSide_53 : decode cX2_runSide 53 = .ok (.iconst 1, 1) := by decide +kernel
theorem dX2_runSide_54 : decode cX2_runSide 54 = .ok (.istore 7, 2) := by decide +kernel
theorem dX2_runSide_56 : decode cX2_runSide 56 = .ok (.iload 7, 2) := by decide +kernel
theorem dX2_runSide_58 : decode cX2_runSide 58 = .ok (.iload_n 2, 1) := by decide +kernel
theorem dX2_runSide_59 : decode cX2_runSide 59 = .ok (.if_icmp .gt 55, 3) := by decide +kernel
theorem dX2_runSide_62 : decode cX2_runSide 62 = .ok (.iload 7, 2) := by decide +kernel
theorem dX2_runSide_64 : decode cX2_runSide 64 = .ok (.aload_n 0, 1) := by decide +kernel
theorem dX2_runSide_65 : decode cX2_runSide 65 = .ok (.getfield 24, 3) := by decide +kernel
theorem dX2_runSide_68 : decode cX2_runSide 68 = .ok (.arraylength, 1) := by decide +kernel
theorem dX2_runSide_69 : decode cX2_runSide 69 = .ok (.if_icmp .ge 45, 3) := by decide +kernel
theorem dX2_runSide_72 : decode cX2_runSide 72 = .ok (.iload 4, 2) := by decide +kernel
theorem dX2_runSide_74 : decode cX2_runSide 74 = .ok (.iload 4, 2) := by decide +kernel
theorem dX2_runSide_76 : decode cX2_runSide 76 = .ok (.iload 6, 2) := by decide +kernel
theorem dX2_runSide_78 : decode cX2_runSide 78 = .ok (.imul, 1) := by decide +kernel
theorem dX2_runSide_79 : decode cX2_runSide 79 = .ok (.sipush 1000, 3) := by decide +kernel
theorem dX2_runSide_82 : decode cX2_runSide 82 = .ok (.idiv, 1) := by decide +kernel
theorem dX2_runSide_83 : decode cX2_runSide 83 = .ok (.isub, 1) := by decide +kernel
theorem dX2_runSide_84 : decode cX2_runSide 84 = .ok (.istore 4, 2) := by decide +kernel
theorem dX2_runSide_86 : decode cX2_runSide 86 = .ok (.iload 4, 2) := by decide +kernel
theorem dX2_runSide_88 : decode cX2_runSide 88 = .ok (.iload_n 3, 1) := by decide +kernel
theorem dX2_runSide_89 : decode cX2_runSide 89 = .ok (.iadd, 1) := by decide +kernel
theorem dX2_runSide_90 : decode cX2_runSide 90 = .ok (.istore 4, 2) := by decide +kernel
theorem dX2_runSide_92 : decode cX2_runSide 92 = .ok (.iload 5, 2) := by decide +kernel
theorem dX2_runSide_94 : decode cX2_runSide 94 = .ok (.iload 4, 2) := by decide +kernel
theorem dX2_runSide_96 : decode cX2_runSide 96 = .ok (.iadd, 1) := by decide +kernel
theorem dX2_runSide_97 : decode cX2_runSide 97 = .ok (.istore 5, 2) := by decide +kernel
theorem dX2_runSide_99 : decode cX2_runSide 99 = .ok (.aload_n 0, 1) := by decide +kernel
theorem dX2_runSide_100 : decode cX2_runSide 100 = .ok (.getfield 24, 3) := by decide +kernel
theorem dX2_runSide_103 : decode cX2_runSide 103 = .ok (.iload 7, 2) := by decide +kernel
theorem dX2_runSide_105 : decode cX2_runSide 105 = .ok (.iload 5, 2) := by decide +kernel
theorem dX2_runSide_107 : decode cX2_runSide 107 = .ok (.iastore, 1) := by decide +kernel
theorem dX2_runSide_108 : decode cX2_runSide 108 = .ok (.iinc 7 1, 3) := by decide +kernel
theorem dX2_runSide_111 : decode cX2_runSide 111 = .ok (.goto (-55), 3) := by decide +kernel
theorem dX2_runSide_114 : decode cX2_runSide 114 = .ok (.aload_n 0, 1) := by decide +kernel
theorem dX2_runSide_115 : decode cX2_runSide 115 = .ok (.iload 4, 2) := by decide +kernel
theorem dX2_runSide_117 : decode cX2_runSide 117 = .ok (.putfield 68, 3) := by decide +kernel
theorem dX2_runSide_120 : decode cX2_runSide 120 = .ok (.return_, 1) := by decide +kernel
set_option maxRecDepth 20000 in
theorem ggX2_knowTouchYs_X2_touchY : GoodIn wsX2_knowTouchYs wsX2_touchY := goodIn_r _ [7, 8, 9, 10, 11, 12, 6, 13, 14, 15, 16, 17, 18, 19, 20, 21, 22, 23, 24, 25, 26, 27, 28, 29, 30, 31, 32, 33, 34, 35, 36, 37, 38, 39, 40, 41, 42, 43, 44, 45, 46, 47, 48, 49, 50, 51, 52, 53, 54, 55, 56, 57, 58, 59, 60] (by decide +kernel) (by decide +kernel)
set_option maxRecDepth 20000 in
theorem gX2_knowTouchYs_X2_touchY : GoodIn wsX2_knowTouchYs (wsV RX2 71 RX2 yX2_touchY wsX2_touchY) := goodIn_app (goodIn_of _ (by decide +kernel)) ggX2_knowTouchYs_X2_touchY
theorem dX2_knowTouchYs_0 : decode cX2_knowTouchYs 0 = .ok (.aload_n 0, 1) := by decide +kernel
theorem dX2_knowTouchYs_1 : decode cX2_knowTouchYs 1 = .ok (.getfield 42, 3) := by decide +kernel
theorem dX2_knowTouchYs_4 : decode cX2_knowTouchYs 4 = .ok (.ifCond .eq 4, 3) := by decide +kernel
theorem dX2_knowTouchYs_7 : decode cX2_knowTouchYs 7 = .ok (.return_, 1) := by decide +kernel
theorem dX2_knowTouchYs_8 : decode cX2_knowTouchYs 8 = .ok (.iconst 0, 1) := by decide +kernel
theorem dX2_knowTouchYs_9 : decode cX2_knowTouchYs 9 = .ok (.istore_n 1, 1) := by decide +kernel
theorem dX2_knowTouchYs_10 : decode cX2_knowTouchYs 10 = .ok (.iload_n 1, 1) := by decide +kernel
theorem dX2_knowTouchYs_11 : decode cX2_knowTouchYs 11 = .ok (.aload_n 0, 1) := by decide +kernel
theorem dX2_knowTouchYs_12 : decode cX2_knowTouchYs 12 = .ok (.getfield 27, 3) := by decide +kernel
theorem dX2_knowTouchYs_15 : decode cX2_knowTouchYs 15 = .ok (.arraylength, 1) := by decide +kernel
theorem dX2_knowTouchYs_16 : decode cX2_knowTouchYs 16 = .ok (.if_icmp .ge 20, 3) := by decide +kernel
theorem dX2_knowTouchYs_19 : decode cX2_knowTouchYs 19 = .ok (.aload_n 0, 1) := by decide +kernel
theorem dX2_knowTouchYs_20 : decode cX2_knowTouchYs 20 = .ok (.getfield 27, 3) := by decide +kernel
theorem dX2_knowTouchYs_23 : decode cX2_knowTouchYs 23 = .ok (.iload_n 1, 1) := by decide +kernel
theorem dX2_knowTouchYs_24 : decode cX2_knowTouchYs 24 = .ok (.aload_n 0, 1) := by decide +kernel
theorem dX2_knowTouchYs_25 : decode cX2_knowTouchYs 25 = .ok (.iload_n 1, 1) := by decide +kernel
theorem dX2_knowTouchYs_26 : decode cX2_knowTouchYs 26 = .ok (.invokevirtual 71, 3) := by decide +kernel
theorem dX2_knowTouchYs_29 : decode cX2_knowTouchYs 29 = .ok (.iastore, 1) := by decide +kernel
theorem dX2_knowTouchYs_30 : decode cX2_knowTouchYs 30 = .ok (.iinc 1 1, 3) := by decide +kernel
theorem dX2_knowTouchYs_33 : decode cX2_knowTouchYs 33 = .ok (.goto (-23), 3) := by decide +kernel
theorem dX2_knowTouchYs_36 : decode cX2_knowTouchYs 36 = .ok (.aload_n 0, 1) := by decide +kernel
theorem dX2_knowTouchYs_37 : decode cX2_knowTouchYs 37 = .ok (.iconst 1, 1) := by decide +kernel
theorem dX2_knowTouchYs_38 : decode cX2_knowTouchYs 38 = .ok (.putfield 42, 3) := by decide +kernel
theorem dX2_knowTouchYs_41 : decode cX2_knowTouchYs 41 = .ok (.return_, 1) := by decide +kernel
theorem dX2_knownTouchY_0 : decode cX2_knownTouchY 0 = .ok (.iload_n 1, 1) := by decide +kernel
theorem dX2_knownTouchY_1 : decode cX2_knownTouchY 1 = .ok (.ifCond .lt 21, 3) := by decide +kernel
theorem dX2_knownTouchY_4 : decode cX2_knownTouchY 4 = .ok (.iload_n 1, 1) := by decide +kernel
theorem dX2_knownTouchY_5 : decode cX2_knownTouchY 5 = .ok (.aload_n 0, 1) := by decide +kernel
theorem dX2_knownTouchY_6 : decode cX2_knownTouchY 6 = .ok (.getfield 27, 3) := by decide +kernel
theorem dX2_knownTouchY_9 : decode cX2_knownTouchY 9 = .ok (.arraylength, 1) := by decide +kernel
theorem dX2_knownTouchY_10 : decode cX2_knownTouchY 10 = .ok (.if_icmp .ge 12, 3) := by decide +kernel
theorem dX2_knownTouchY_13 : decode cX2_knownTouchY 13 = .ok (.aload_n 0, 1) := by decide +kernel
theorem dX2_knownTouchY_14 : decode cX2_knownTouchY 14 = .ok (.getfield 27, 3) := by decide +kernel
theorem dX2_knownTouchY_17 : decode cX2_knownTouchY 17 = .ok (.iload_n 1, 1) := by decide +kernel
theorem dX2_knownTouchY_18 : decode cX2_knownTouchY 18 = .ok (.iaload, 1) := by decide +kernel
theorem dX2_knownTouchY_19 : decode cX2_knownTouchY 19 = .ok (.goto 4, 3) := by decide +kernel
theorem dX2_knownTouchY_22 : decode cX2_knownTouchY 22 = .ok (.iconst 0, 1) := by decide +kernel
theorem dX2_knownTouchY_23 : decode cX2_knownTouchY 23 = .ok (.ireturn, 1) := by decide +kernel
theorem dX2_touches_0 : decode cX2_touches 0 = .ok (.aload_n 0, 1) := by decide +kernel
theorem dX2_touches_1 : decode cX2_touches 1 = .ok (.getfield 45, 3) := by decide +kernel
theorem dX2_touches_4 : decode cX2_touches 4 = .ok (.ifCond .le 7, 3) := by decide +kernel
theorem dX2_touches_7 : decode cX2_touches 7 = .ok (.iconst 1, 1) := by decide +kernel
theorem dX2_touches_8 : decode cX2_touches 8 = .ok (.goto 4, 3) := by decide +kernel
theorem dX2_touches_11 : decode cX2_touches 11 = .ok (.iconst 0, 1) := by decide +kernel
theorem dX2_touches_12 : decode cX2_touches 12 = .ok (.ireturn, 1) := by decide +kernel
theorem dX2_touchTick_0 : decode cX2_touchTick 0 = .ok (.aload_n 0, 1) := by decide +kernel
theorem dX2_touchTick_1 : decode cX2_touchTick 1 = .ok (.getfield 45, 3) := by decide +kernel
theorem dX2_touchTick_4 : decode cX2_touchTick 4 = .ok (.ireturn, 1) := by decide +kernel
theorem dX2_touchX_0 : decode cX2_touchX 0 = .ok (.aload_n 0, 1) := by decide +kernel
theorem dX2_touchX_1 : decode cX2_touchX 1 = .ok (.getfield 74, 3) := by decide +kernel
theorem dX2_touchX_4 : decode cX2_touchX 4 = .ok (.ireturn, 1) := by decide +kernel
set_option maxRecDepth 20000 in
theorem ggX2_isOutWith_X2_touches : GoodIn wsX2_isOutWith wsX2_touches := goodIn_r _ [7, 8, 9, 10, 11, 12, 13, 14, 15, 16, 17, 18, 19, 20, 21, 22, 23] (by decide +kernel) (by decide +kernel)
set_option maxRecDepth 20000 in
theorem gX2_isOutWith_X2_touches : GoodIn wsX2_isOutWith (wsV RX2 77 RX2 yX2_touches wsX2_touches) := goodIn_app (goodIn_of _ (by decide +kernel)) ggX2_isOutWith_X2_touches
theorem dX2_isOutWith_0 : decode cX2_isOutWith 0 = .ok (.aload_n 0, 1) := by decide +kernel
theorem dX2_isOutWith_1 : decode cX2_isOutWith 1 = .ok (.invokevirtual 77, 3) := by decide +kernel
theorem dX2_isOutWith_4 : decode cX2_isOutWith 4 = .ok (.ifCond .eq 20, 3) := by decide +kernel
theorem dX2_isOutWith_7 : decode cX2_isOutWith 7 = .ok (.iload_n 1, 1) := by decide +kernel
theorem dX2_isOutWith_8 : decode cX2_isOutWith 8 = .ok (.aload_n 0, 1) := by decide +kernel
theorem dX2_isOutWith_9 : decode cX2_isOutWith 9 = .ok (.getfield 81, 3) := by decide +kernel
theorem dX2_isOutWith_12 : decode cX2_isOutWith 12 = .ok (.isub, 1) := by decide +kernel
theorem dX2_isOutWith_13 : decode cX2_isOutWith 13 = .ok (.aload_n 0, 1) := by decide +kernel
theorem dX2_isOutWith_14 : decode cX2_isOutWith 14 = .ok (.getfield 84, 3) := by decide +kernel
theorem dX2_isOutWith_17 : decode cX2_isOutWith 17 = .ok (.if_icmp .le 7, 3) := by decide +kernel
theorem dX2_isOutWith_20 : decode cX2_isOutWith 20 = .ok (.iconst 1, 1) := by decide +kernel
theorem dX2_isOutWith_21 : decode cX2_isOutWith 21 = .ok (.goto 4, 3) := by decide +kernel
theorem dX2_isOutWith_24 : decode cX2_isOutWith 24 = .ok (.iconst 0, 1) := by decide +kernel
theorem dX2_isOutWith_25 : decode cX2_isOutWith 25 = .ok (.ireturn, 1) := by decide +kernel
set_option maxRecDepth 20000 in
theorem ggX2_touchPart_X2_touchY : GoodIn wsX2_touchPart wsX2_touchY := goodIn_r _ [8, 1, 9, 10, 11, 12, 7, 13, 14, 15, 16, 17, 18, 19, 20, 21, 22, 23, 24, 25, 26, 27, 28, 29, 30, 31, 41, 42, 43, 44, 45, 46, 47, 48, 49, 50, 51, 52, 53, 54, 55, 56, 57, 58, 59, 60, 61, 62, 63, 64, 65, 66, 67, 68, 69] (by decide +kernel) (by decide +kernel)
set_option maxRecDepth 20000 in
theorem gX2_touchPart_X2_touchY : GoodIn wsX2_touchPart (wsV RX2 71 RX2 yX2_touchY wsX2_touchY) := goodIn_app (goodIn_of _ (by decide +kernel)) ggX2_touchPart_X2_touchY
set_option maxRecDepth 20000 in
theorem ggX2_touchPart_X2_isOutWith : GoodIn wsX2_touchPart wsX2_isOutWith := goodIn_r _ [35, 3, 36, 37, 38, 39, 7, 40, 1, 41, 42, 43, 44, 45, 46, 47, 48, 49, 50, 51, 52, 53, 54, 55] (by decide +kernel) (by decide +kernel)
set_option maxRecDepth 20000 in
theorem gX2_touchPart_X2_isOutWith : GoodIn wsX2_touchPart (wsV RX2 87 RX2 yX2_isOutWith wsX2_isOutWith) := goodIn_app (goodIn_of _ (by decide +kernel)) ggX2_touchPart_X2_isOutWith
theorem dX2_touchPart_0 : decode cX2_touchPart 0 = .ok (.iload_n 2, 1) := by decide +kernel
theorem dX2_touchPart_1 : decode cX2_touchPart 1 = .ok (.tableswitch 52 0 3 #[31, 36, 41, 47], 31) := by decide +kernel
theorem dX2_touchPart_32 : decode cX2_touchPart 32 = .ok (.aload_n 0, 1) := by decide +kernel
theorem dX2_touchPart_33 : decode cX2_touchPart 33 = .ok (.getfield 45, 3) := by decide +kernel
theorem dX2_touchPart_36 : decode cX2_touchPart 36 = .ok (.ireturn, 1) := by decide +kernel
theorem dX2_touchPart_37 : decode cX2_touchPart 37 = .ok (.aload_n 0, 1) := by decide +kernel
theorem dX2_touchPart_38 : decode cX2_touchPart 38 = .ok (.getfield 74, 3) := by decide +kernel
theorem dX2_touchPart_41 : decode cX2_touchPart 41 = .ok (.ireturn, 1) := by decide +kernel
theorem dX2_touchPart_42 : decode cX2_touchPart 42 = .ok (.aload_n 0, 1) := by decide +kernel
theorem dX2_touchPart_43 : decode cX2_touchPart 43 = .ok (.iload_n 1, 1) := by decide +kernel
theorem dX2_touchPart_44 : decode cX2_touchPart 44 = .ok (.invokevirtual 71, 3) := by decide +kernel
theorem dX2_touchPart_47 : decode cX2_touchPart 47 = .ok (.ireturn, 1) := by decide +kernel
theorem dX2_touchPart_48 : decode cX2_touchPart 48 = .ok (.aload_n 0, 1) := by decide +kernel
theorem dX2_touchPart_49 : decode cX2_touchPart 49 = .ok (.getfield 81, 3) := by decide +kernel
theorem dX2_touchPart_52 : decode cX2_touchPart 52 = .ok (.ireturn, 1) := by decide +kernel
theorem dX2_touchPart_53 : decode cX2_touchPart 53 = .ok (.aload_n 0, 1) := by decide +kernel
theorem dX2_touchPart_54 : decode cX2_touchPart 54 = .ok (.aload_n 0, 1) := by decide +kernel
theorem dX2_touchPart_55 : decode cX2_touchPart 55 = .ok (.iload_n 1, 1) := by decide +kernel
theorem dX2_touchPart_56 : decode cX2_touchPart 56 = .ok (.invokevirtual 71, 3) := by decide +kernel
theorem dX2_touchPart_59 : decode cX2_touchPart 59 = .ok (.invokevirtual 87, 3) := by decide +kernel
theorem dX2_touchPart_62 : decode cX2_touchPart 62 = .ok (.ifCond .eq 7, 3) := by decide +kernel
theorem dX2_touchPart_65 : decode cX2_touchPart 65 = .ok (.iconst 1, 1) := by decide +kernel
theorem dX2_touchPart_66 : decode cX2_touchPart 66 = .ok (.goto 4, 3) := by decide +kernel
theorem dX2_touchPart_69 : decode cX2_touchPart 69 = .ok (.iconst 0, 1) := by decide +kernel
theorem dX2_touchPart_70 : decode cX2_touchPart 70 = .ok (.ireturn, 1) := by decide +kernel
set_option maxRecDepth 20000 in
theorem ggX2_touchGap_X2_touchY : GoodIn wsX2_touchGap wsX2_touchY := goodIn_r _ [9, 10, 11, 12, 13, 14, 8, 15, 16, 17, 18, 19, 20, 21, 22, 23, 24, 25, 26, 27, 28, 29, 30, 31, 32, 33, 34, 35, 36, 37, 38, 39, 40, 41, 42, 43, 44, 45, 46, 47, 48, 49, 50, 51, 52, 53, 54, 55, 56, 57, 58, 59, 60, 61, 62] (by decide +kernel) (by decide +kernel)
set_option maxRecDepth 20000 in
theorem gX2_touchGap_X2_touchY : GoodIn wsX2_touchGap (wsV RX2 71 RX2 yX2_touchY wsX2_touchY) := goodIn_app (goodIn_of _ (by decide +kernel)) ggX2_touchGap_X2_touchY
theorem dX2_touchGap_0 : decode cX2_touchGap 0 = .ok (.aload_n 0, 1) := by decide +kernel
theorem dX2_touchGap_1 : decode cX2_touchGap 1 = .ok (.iload_n 1, 1) := by decide +kernel
theorem dX2_touchGap_2 : decode cX2_touchGap 2 = .ok (.invokevirtual 71, 3) := by decide +kernel
theorem dX2_touchGap_5 : decode cX2_touchGap 5 = .ok (.aload_n 0, 1) := by decide +kernel
theorem dX2_touchGap_6 : decode cX2_touchGap 6 = .ok (.iload_n 2, 1) := by decide +kernel
theorem dX2_touchGap_7 : decode cX2_touchGap 7 = .ok (.invokevirtual 71, 3) := by decide +kernel
theorem dX2_touchGap_10 : decode cX2_touchGap 10 = .ok (.isub, 1) := by decide +kernel
theorem dX2_touchGap_11 : decode cX2_touchGap 11 = .ok (.invokestatic 91, 3) := by decide +kernel
theorem dX2_touchGap_14 : decode cX2_touchGap 14 = .ok (.ireturn, 1) := by decide +kernel
set_option maxRecDepth 20000 in
theorem ggX2_stateOf_X2_partAt : GoodIn wsX2_stateOf wsX2_partAt := goodIn_r _ [10] (by decide +kernel) (by decide +kernel)
set_option maxRecDepth 20000 in
theorem gX2_stateOf_X2_partAt : GoodIn wsX2_stateOf (va_wsS RX2 96 yX2_partAt wsX2_partAt) := goodIn_app (goodIn_of _ (by decide +kernel)) ggX2_stateOf_X2_partAt
set_option maxRecDepth 20000 in
theorem ggX2_stateOf_X2_runSide : GoodIn wsX2_stateOf wsX2_runSide := goodIn_r _ [14, 15, 16, 5, 6, 17, 18, 19, 20, 21, 22, 23, 24, 25, 26, 27, 28, 29, 30, 31, 32, 33, 34, 35, 36, 37, 38, 39, 40, 41, 42, 43, 44, 45, 46, 47, 48, 49, 50, 51, 52, 53, 54, 55, 56, 57] (by decide +kernel) (by decide +kernel)
set_option maxRecDepth 20000 in
theorem gX2_stateOf_X2_runSide : GoodIn wsX2_stateOf (wsV RX2 100 RX2 yX2_runSide wsX2_runSide) := goodIn_app (goodIn_of _ (by decide +kernel)) ggX2_stateOf_X2_runSide
theorem dX2_stateOf_0 : decode cX2_stateOf 0 = .ok (.iload_n 3, 1) := by decide +kernel
theorem dX2_stateOf_1 : decode cX2_stateOf 1 = .ok (.tableswitch 75 0 5 #[39, 75, 48, 57, 75, 66], 39) := by decide +kernel
theorem dX2_stateOf_40 : decode cX2_stateOf 40 = .ok (.aload_n 0, 1) := by decide +kernel
theorem dX2_stateOf_41 : decode cX2_stateOf 41 = .ok (.getfield 9, 3) := by decide +kernel
theorem dX2_stateOf_44 : decode cX2_stateOf 44 = .ok (.iload_n 2, 1) := by decide +kernel
theorem dX2_stateOf_45 : decode cX2_stateOf 45 = .ok (.invokestatic 96, 3) := by decide +kernel
theorem dX2_stateOf_48 : decode cX2_stateOf 48 = .ok (.ireturn, 1) := by decide +kernel
theorem dX2_stateOf_49 : decode cX2_stateOf 49 = .ok (.aload_n 0, 1) := by decide +kernel
theorem dX2_stateOf_50 : decode cX2_stateOf 50 = .ok (.getfield 15, 3) := by decide +kernel
theorem dX2_stateOf_53 : decode cX2_stateOf 53 = .ok (.iload_n 2, 1) := by decide +kernel
theorem dX2_stateOf_54 : decode cX2_stateOf 54 = .ok (.invokestatic 96, 3) := by decide +kernel
theorem dX2_stateOf_57 : decode cX2_stateOf 57 = .ok (.ireturn, 1) := by decide +kernel
theorem dX2_stateOf_58 : decode cX2_stateOf 58 = .ok (.aload_n 0, 1) := by decide +kernel
theorem dX2_stateOf_59 : decode cX2_stateOf 59 = .ok (.getfield 18, 3) := by decide +kernel
theorem dX2_stateOf_62 : decode cX2_stateOf 62 = .ok (.iload_n 2, 1) := by decide +kernel
theorem dX2_stateOf_63 : decode cX2_stateOf 63 = .ok (.invokestatic 96, 3) := by decide +kernel
theorem dX2_stateOf_66 : decode cX2_stateOf 66 = .ok (.ireturn, 1) := by decide +kernel
theorem dX2_stateOf_67 : decode cX2_stateOf 67 = .ok (.aload_n 0, 1) := by decide +kernel
theorem dX2_stateOf_68 : decode cX2_stateOf 68 = .ok (.getfield 21, 3) := by decide +kernel
theorem dX2_stateOf_71 : decode cX2_stateOf 71 = .ok (.iload_n 2, 1) := by decide +kernel
theorem dX2_stateOf_72 : decode cX2_stateOf 72 = .ok (.invokestatic 96, 3) := by decide +kernel
theorem dX2_stateOf_75 : decode cX2_stateOf 75 = .ok (.ireturn, 1) := by decide +kernel
theorem dX2_stateOf_76 : decode cX2_stateOf 76 = .ok (.aload_n 0, 1) := by decide +kernel
theorem dX2_stateOf_77 : decode cX2_stateOf 77 = .ok (.iload_n 1, 1) := by decide +kernel
theorem dX2_stateOf_78 : decode cX2_stateOf 78 = .ok (.iload_n 2, 1) := by decide +kernel
theorem dX2_stateOf_79 : decode cX2_stateOf 79 = .ok (.invokevirtual 100, 3) := by decide +kernel
theorem dX2_stateOf_82 : decode cX2_stateOf 82 = .ok (.iload_n 3, 1) := by decide +kernel
theorem dX2_stateOf_83 : decode cX2_stateOf 83 = .ok (.iconst 1, 1) := by decide +kernel
theorem dX2_stateOf_84 : decode cX2_stateOf 84 = .ok (.if_icmp .ne 14, 3) := by decide +kernel
theorem dX2_stateOf_87 : decode cX2_stateOf 87 = .ok (.aload_n 0, 1) := by decide +kernel
theorem dX2_stateOf_88 : decode cX2_stateOf 88 = .ok (.getfield 24, 3) := by decide +kernel
theorem dX2_stateOf_91 : decode cX2_stateOf 91 = .ok (.iload_n 2, 1) := by decide +kernel
theorem dX2_stateOf_92 : decode cX2_stateOf 92 = .ok (.invokestatic 96, 3) := by decide +kernel
theorem dX2_stateOf_95 : decode cX2_stateOf 95 = .ok (.goto 7, 3) := by decide +kernel
theorem dX2_stateOf_98 : decode cX2_stateOf 98 = .ok (.aload_n 0, 1) := by decide +kernel
theorem dX2_stateOf_99 : decode cX2_stateOf 99 = .ok (.getfield 68, 3) := by decide +kernel
theorem dX2_stateOf_102 : decode cX2_stateOf 102 = .ok (.ireturn, 1) := by decide +kernel
set_option maxRecDepth 20000 in
theorem ggX2_xAt_X2_partAt : GoodIn wsX2_xAt wsX2_partAt := goodIn_r _ [5] (by decide +kernel) (by decide +kernel)
set_option maxRecDepth 20000 in
theorem gX2_xAt_X2_partAt : GoodIn wsX2_xAt (va_wsS RX2 96 yX2_partAt wsX2_partAt) := goodIn_app (goodIn_of _ (by decide +kernel)) ggX2_xAt_X2_partAt
theorem dX2_xAt_0 : decode cX2_xAt 0 = .ok (.aload_n 0, 1) := by decide +kernel
theorem dX2_xAt_1 : decode cX2_xAt 1 = .ok (.getfield 9, 3) := by decide +kernel
theorem dX2_xAt_4 : decode cX2_xAt 4 = .ok (.iload_n 1, 1) := by decide +kernel
theorem dX2_xAt_5 : decode cX2_xAt 5 = .ok (.invokestatic 96, 3) := by decide +kernel
theorem dX2_xAt_8 : decode cX2_xAt 8 = .ok (.ireturn, 1) := by decide +kernel
set_option maxRecDepth 20000 in
theorem ggX2_zAt_X2_partAt : GoodIn wsX2_zAt wsX2_partAt := goodIn_r _ [5] (by decide +kernel) (by decide +kernel)
set_option maxRecDepth 20000 in
theorem gX2_zAt_X2_partAt : GoodIn wsX2_zAt (va_wsS RX2 96 yX2_partAt wsX2_partAt) := goodIn_app (goodIn_of _ (by decide +kernel)) ggX2_zAt_X2_partAt
theorem dX2_zAt_0 : decode cX2_zAt 0 = .ok (.aload_n 0, 1) := by decide +kernel
theorem dX2_zAt_1 : decode cX2_zAt 1 = .ok (.getfield 15, 3) := by decide +kernel
theorem dX2_zAt_4 : decode cX2_zAt 4 = .ok (.iload_n 1, 1) := by decide +kernel
theorem dX2_zAt_5 : decode cX2_zAt 5 = .ok (.invokestatic 96, 3) := by decide +kernel
theorem dX2_zAt_8 : decode cX2_zAt 8 = .ok (.ireturn, 1) := by decide +kernel
set_option maxRecDepth 20000 in
theorem ggX2_yAt_X2_partAt : GoodIn wsX2_yAt wsX2_partAt := goodIn_r _ [5] (by decide +kernel) (by decide +kernel)
set_option maxRecDepth 20000 in
theorem gX2_yAt_X2_partAt : GoodIn wsX2_yAt (va_wsS RX2 96 yX2_partAt wsX2_partAt) := goodIn_app (goodIn_of _ (by decide +kernel)) ggX2_yAt_X2_partAt
theorem dX2_yAt_0 : decode cX2_yAt 0 = .ok (.aload_n 0, 1) := by decide +kernel
theorem dX2_yAt_1 : decode cX2_yAt 1 = .ok (.getfield 24, 3) := by decide +kernel
theorem dX2_yAt_4 : decode cX2_yAt 4 = .ok (.iload_n 1, 1) := by decide +kernel
theorem dX2_yAt_5 : decode cX2_yAt 5 = .ok (.invokestatic 96, 3) := by decide +kernel
theorem dX2_yAt_8 : decode cX2_yAt 8 = .ok (.ireturn, 1) := by decide +kernel
set_option maxRecDepth 20000 in
theorem ggX2_tickReaching_X2_partAt : GoodIn wsX2_tickReaching wsX2_partAt := goodIn_r _ [5] (by decide +kernel) (by decide +kernel)
set_option maxRecDepth 20000 in
theorem gX2_tickReaching_X2_partAt : GoodIn wsX2_tickReaching (va_wsS RX2 96 yX2_partAt wsX2_partAt) := goodIn_app (goodIn_of _ (by decide +kernel)) ggX2_tickReaching_X2_partAt
theorem dX2_tickReaching_0 : decode cX2_tickReaching 0 = .ok (.aload_n 0, 1) := by decide +kernel
theorem dX2_tickReaching_1 : decode cX2_tickReaching 1 = .ok (.getfield 9, 3) := by decide +kernel
theorem dX2_tickReaching_4 : decode cX2_tickReaching 4 = .ok (.iconst 0, 1) := by decide +kernel
theorem dX2_tickReaching_5 : decode cX2_tickReaching 5 = .ok (.invokestatic 96, 3) := by decide +kernel
theorem dX2_tickReaching_8 : decode cX2_tickReaching 8 = .ok (.iload_n 1, 1) := by decide +kernel
theorem dX2_tickReaching_9 : decode cX2_tickReaching 9 = .ok (.if_icmp .lt 5, 3) := by decide +kernel
theorem dX2_tickReaching_12 : decode cX2_tickReaching 12 = .ok (.iconst 0, 1) := by decide +kernel
theorem dX2_tickReaching_13 : decode cX2_tickReaching 13 = .ok (.ireturn, 1) := by decide +kernel
theorem dX2_tickReaching_14 : decode cX2_tickReaching 14 = .ok (.iconst 1, 1) := by decide +kernel
theorem dX2_tickReaching_15 : decode cX2_tickReaching 15 = .ok (.istore_n 2, 1) := by decide +kernel
theorem dX2_tickReaching_16 : decode cX2_tickReaching 16 = .ok (.iload_n 2, 1) := by decide +kernel
theorem dX2_tickReaching_17 : decode cX2_tickReaching 17 = .ok (.aload_n 0, 1) := by decide +kernel
theorem dX2_tickReaching_18 : decode cX2_tickReaching 18 = .ok (.getfield 9, 3) := by decide +kernel
theorem dX2_tickReaching_21 : decode cX2_tickReaching 21 = .ok (.arraylength, 1) := by decide +kernel
theorem dX2_tickReaching_22 : decode cX2_tickReaching 22 = .ok (.if_icmp .ge 21, 3) := by decide +kernel
theorem dX2_tickReaching_25 : decode cX2_tickReaching 25 = .ok (.aload_n 0, 1) := by decide +kernel
theorem dX2_tickReaching_26 : decode cX2_tickReaching 26 = .ok (.getfield 9, 3) := by decide +kernel
theorem dX2_tickReaching_29 : decode cX2_tickReaching 29 = .ok (.iload_n 2, 1) := by decide +kernel
theorem dX2_tickReaching_30 : decode cX2_tickReaching 30 = .ok (.iaload, 1) := by decide +kernel
theorem dX2_tickReaching_31 : decode cX2_tickReaching 31 = .ok (.iload_n 1, 1) := by decide +kernel
theorem dX2_tickReaching_32 : decode cX2_tickReaching 32 = .ok (.if_icmp .lt 5, 3) := by decide +kernel
theorem dX2_tickReaching_35 : decode cX2_tickReaching 35 = .ok (.iload_n 2, 1) := by decide +kernel
theorem dX2_tickReaching_36 : decode cX2_tickReaching 36 = .ok (.ireturn, 1) := by decide +kernel
theorem dX2_tickReaching_37 : decode cX2_tickReaching 37 = .ok (.iinc 2 1, 3) := by decide +kernel
theorem dX2_tickReaching_40 : decode cX2_tickReaching 40 = .ok (.goto (-24), 3) := by decide +kernel
theorem dX2_tickReaching_43 : decode cX2_tickReaching 43 = .ok (.iconst 0, 1) := by decide +kernel
theorem dX2_tickReaching_44 : decode cX2_tickReaching 44 = .ok (.ireturn, 1) := by decide +kernel
set_option maxRecDepth 20000 in
theorem ggX2_touchY_X2_runSide : GoodIn wsX2_touchY wsX2_runSide := goodIn_r _ [7, 8, 9, 2, 10, 11, 12, 13, 14, 15, 16, 17, 18, 19, 20, 21, 22, 26, 27, 28, 29, 30, 31, 32, 33, 34, 35, 36, 37, 38, 39, 40, 41, 42, 43, 44, 45, 46, 47, 48, 49, 50, 51, 52, 53, 54] (by decide +kernel) (by decide +kernel)
set_option maxRecDepth 20000 in
theorem gX2_touchY_X2_runSide : GoodIn wsX2_touchY (wsV RX2 100 RX2 yX2_runSide wsX2_runSide) := goodIn_app (goodIn_of _ (by decide +kernel)) ggX2_touchY_X2_runSide
set_option maxRecDepth 20000 in
theorem ggX2_touchY_X2_partAt : GoodIn wsX2_touchY wsX2_partAt := goodIn_r _ [25] (by decide +kernel) (by decide +kernel)
set_option maxRecDepth 20000 in
theorem gX2_touchY_X2_partAt : GoodIn wsX2_touchY (va_wsS RX2 96 yX2_partAt wsX2_partAt) := goodIn_app (goodIn_of _ (by decide +kernel)) ggX2_touchY_X2_partAt
theorem dX2_touchY_0 : decode cX2_touchY 0 = .ok (.aload_n 0, 1) := by decide +kernel
theorem dX2_touchY_1 : decode cX2_touchY 1 = .ok (.iload_n 1, 1) := by decide +kernel
theorem dX2_touchY_2 : decode cX2_touchY 2 = .ok (.aload_n 0, 1) := by decide +kernel
theorem dX2_touchY_3 : decode cX2_touchY 3 = .ok (.getfield 45, 3) := by decide +kernel
theorem dX2_touchY_6 : decode cX2_touchY 6 = .ok (.invokevirtual 100, 3) := by decide +kernel
theorem dX2_touchY_9 : decode cX2_touchY 9 = .ok (.aload_n 0, 1) := by decide +kernel
theorem dX2_touchY_10 : decode cX2_touchY 10 = .ok (.getfield 24, 3) := by decide +kernel
theorem dX2_touchY_13 : decode cX2_touchY 13 = .ok (.aload_n 0, 1) := by decide +kernel
theorem dX2_touchY_14 : decode cX2_touchY 14 = .ok (.getfield 45, 3) := by decide +kernel
theorem dX2_touchY_17 : decode cX2_touchY 17 = .ok (.invokestatic 96, 3) := by decide +kernel
theorem dX2_touchY_20 : decode cX2_touchY 20 = .ok (.ireturn, 1) := by decide +kernel
theorem dX2_note_0 : decode cX2_note 0 = .ok (.iload_n 1, 1) := by decide +kernel
theorem dX2_note_1 : decode cX2_note 1 = .ok (.ifCond .lt 10, 3) := by decide +kernel
theorem dX2_note_4 : decode cX2_note 4 = .ok (.iload_n 1, 1) := by decide +kernel
theorem dX2_note_5 : decode cX2_note 5 = .ok (.sipush 600, 3) := by decide +kernel
theorem dX2_note_8 : decode cX2_note 8 = .ok (.if_icmp .le 4, 3) := by decide +kernel
theorem dX2_note_11 : decode cX2_note 11 = .ok (.return_, 1) := by decide +kernel
theorem dX2_note_12 : decode cX2_note 12 = .ok (.aload_n 0, 1) := by decide +kernel
theorem dX2_note_13 : decode cX2_note 13 = .ok (.getfield 9, 3) := by decide +kernel
theorem dX2_note_16 : decode cX2_note 16 = .ok (.iload_n 1, 1) := by decide +kernel
theorem dX2_note_17 : decode cX2_note 17 = .ok (.iload_n 2, 1) := by decide +kernel
theorem dX2_note_18 : decode cX2_note 18 = .ok (.iastore, 1) := by decide +kernel
theorem dX2_note_19 : decode cX2_note 19 = .ok (.aload_n 0, 1) := by decide +kernel
theorem dX2_note_20 : decode cX2_note 20 = .ok (.getfield 15, 3) := by decide +kernel
theorem dX2_note_23 : decode cX2_note 23 = .ok (.iload_n 1, 1) := by decide +kernel
theorem dX2_note_24 : decode cX2_note 24 = .ok (.iload_n 3, 1) := by decide +kernel
theorem dX2_note_25 : decode cX2_note 25 = .ok (.iastore, 1) := by decide +kernel
theorem dX2_note_26 : decode cX2_note 26 = .ok (.aload_n 0, 1) := by decide +kernel
theorem dX2_note_27 : decode cX2_note 27 = .ok (.getfield 18, 3) := by decide +kernel
theorem dX2_note_30 : decode cX2_note 30 = .ok (.iload_n 1, 1) := by decide +kernel
theorem dX2_note_31 : decode cX2_note 31 = .ok (.iload 4, 2) := by decide +kernel
theorem dX2_note_33 : decode cX2_note 33 = .ok (.iastore, 1) := by decide +kernel
theorem dX2_note_34 : decode cX2_note 34 = .ok (.aload_n 0, 1) := by decide +kernel
theorem dX2_note_35 : decode cX2_note 35 = .ok (.getfield 21, 3) := by decide +kernel
theorem dX2_note_38 : decode cX2_note 38 = .ok (.iload_n 1, 1) := by decide +kernel
theorem dX2_note_39 : decode cX2_note 39 = .ok (.iload 5, 2) := by decide +kernel
theorem dX2_note_41 : decode cX2_note 41 = .ok (.iastore, 1) := by decide +kernel
theorem dX2_note_42 : decode cX2_note 42 = .ok (.return_, 1) := by decide +kernel
set_option maxRecDepth 20000 in
theorem ggX2_noteTouch_X5_paintedAt : GoodIn wsX2_noteTouch wsX5_paintedAt := goodIn_r _ [10, 11, 12, 13, 34, 35, 36, 37, 38, 39, 40, 41, 42, 43] (by decide +kernel) (by decide +kernel)
set_option maxRecDepth 20000 in
theorem gX2_noteTouch_X5_paintedAt : GoodIn wsX2_noteTouch (wsV RX2 104 RX5 yX5_paintedAt wsX5_paintedAt) := goodIn_app (goodIn_of _ (by decide +kernel)) ggX2_noteTouch_X5_paintedAt
set_option maxRecDepth 20000 in
theorem ggX2_noteTouch_X5_number : GoodIn wsX2_noteTouch wsX5_number := goodIn_r _ [17, 18, 34, 35, 36, 37, 38, 39, 40, 41, 42, 43] (by decide +kernel) (by decide +kernel)
set_option maxRecDepth 20000 in
theorem gX2_noteTouch_X5_number : GoodIn wsX2_noteTouch (wsV RX2 51 RX5 yX5_number wsX5_number) := goodIn_app (goodIn_of _ (by decide +kernel)) ggX2_noteTouch_X5_number
theorem dX2_noteTouch_0 : decode cX2_noteTouch 0 = .ok (.aload_n 0, 1) := by decide +kernel
theorem dX2_noteTouch_1 : decode cX2_noteTouch 1 = .ok (.getfield 45, 3) := by decide +kernel
theorem dX2_noteTouch_4 : decode cX2_noteTouch 4 = .ok (.ifCond .ne 43, 3) := by decide +kernel
theorem dX2_noteTouch_7 : decode cX2_noteTouch 7 = .ok (.aload_n 0, 1) := by decide +kernel
theorem dX2_noteTouch_8 : decode cX2_noteTouch 8 = .ok (.iload_n 1, 1) := by decide +kernel
theorem dX2_noteTouch_9 : decode cX2_noteTouch 9 = .ok (.putfield 45, 3) := by decide +kernel
theorem dX2_noteTouch_12 : decode cX2_noteTouch 12 = .ok (.aload_n 0, 1) := by decide +kernel
theorem dX2_noteTouch_13 : decode cX2_noteTouch 13 = .ok (.iload_n 2, 1) := by decide +kernel
theorem dX2_noteTouch_14 : decode cX2_noteTouch 14 = .ok (.putfield 74, 3) := by decide +kernel
theorem dX2_noteTouch_17 : decode cX2_noteTouch 17 = .ok (.aload_n 0, 1) := by decide +kernel
theorem dX2_noteTouch_18 : decode cX2_noteTouch 18 = .ok (.aload_n 0, 1) := by decide +kernel
theorem dX2_noteTouch_19 : decode cX2_noteTouch 19 = .ok (.getfield 30, 3) := by decide +kernel
theorem dX2_noteTouch_22 : decode cX2_noteTouch 22 = .ok (.iload_n 2, 1) := by decide +kernel
theorem dX2_noteTouch_23 : decode cX2_noteTouch 23 = .ok (.invokevirtual 104, 3) := by decide +kernel
theorem dX2_noteTouch_26 : decode cX2_noteTouch 26 = .ok (.putfield 84, 3) := by decide +kernel
theorem dX2_noteTouch_29 : decode cX2_noteTouch 29 = .ok (.aload_n 0, 1) := by decide +kernel
theorem dX2_noteTouch_30 : decode cX2_noteTouch 30 = .ok (.aload_n 0, 1) := by decide +kernel
theorem dX2_noteTouch_31 : decode cX2_noteTouch 31 = .ok (.getfield 30, 3) := by decide +kernel
theorem dX2_noteTouch_34 : decode cX2_noteTouch 34 = .ok (.iconst 4, 1) := by decide +kernel
theorem dX2_noteTouch_35 : decode cX2_noteTouch 35 = .ok (.invokevirtual 51, 3) := by decide +kernel
theorem dX2_noteTouch_38 : decode cX2_noteTouch 38 = .ok (.iload_n 3, 1) := by decide +kernel
theorem dX2_noteTouch_39 : decode cX2_noteTouch 39 = .ok (.ineg, 1) := by decide +kernel
theorem dX2_noteTouch_40 : decode cX2_noteTouch 40 = .ok (.imul, 1) := by decide +kernel
theorem dX2_noteTouch_41 : decode cX2_noteTouch 41 = .ok (.bipush 10, 2) := by decide +kernel
theorem dX2_noteTouch_43 : decode cX2_noteTouch 43 = .ok (.idiv, 1) := by decide +kernel
theorem dX2_noteTouch_44 : decode cX2_noteTouch 44 = .ok (.putfield 81, 3) := by decide +kernel
theorem dX2_noteTouch_47 : decode cX2_noteTouch 47 = .ok (.return_, 1) := by decide +kernel
theorem dX2_partAt_0 : decode cX2_partAt 0 = .ok (.iload_n 1, 1) := by decide +kernel
theorem dX2_partAt_1 : decode cX2_partAt 1 = .ok (.ifCond .lt 15, 3) := by decide +kernel
theorem dX2_partAt_4 : decode cX2_partAt 4 = .ok (.iload_n 1, 1) := by decide +kernel
theorem dX2_partAt_5 : decode cX2_partAt 5 = .ok (.aload_n 0, 1) := by decide +kernel
theorem dX2_partAt_6 : decode cX2_partAt 6 = .ok (.arraylength, 1) := by decide +kernel
theorem dX2_partAt_7 : decode cX2_partAt 7 = .ok (.if_icmp .ge 9, 3) := by decide +kernel
theorem dX2_partAt_10 : decode cX2_partAt 10 = .ok (.aload_n 0, 1) := by decide +kernel
theorem dX2_partAt_11 : decode cX2_partAt 11 = .ok (.iload_n 1, 1) := by decide +kernel
theorem dX2_partAt_12 : decode cX2_partAt 12 = .ok (.iaload, 1) := by decide +kernel
theorem dX2_partAt_13 : decode cX2_partAt 13 = .ok (.goto 4, 3) := by decide +kernel
theorem dX2_partAt_16 : decode cX2_partAt 16 = .ok (.iconst 0, 1) := by decide +kernel
theorem dX2_partAt_17 : decode cX2_partAt 17 = .ok (.ireturn, 1) := by decide +kernel
theorem dX3_init_0 : decode cX3_init 0 = .ok (.aload_n 0, 1) := by decide +kernel
theorem dX3_init_1 : decode cX3_init 1 = .ok (.invokespecial 1, 3) := by decide +kernel
theorem dX3_init_4 : decode cX3_init 4 = .ok (.aload_n 0, 1) := by decide +kernel
theorem dX3_init_5 : decode cX3_init 5 = .ok (.iconst 3, 1) := by decide +kernel
theorem dX3_init_6 : decode cX3_init 6 = .ok (.newarray .int, 2) := by decide +kernel
theorem dX3_init_8 : decode cX3_init 8 = .ok (.putfield 7, 3) := by decide +kernel
theorem dX3_init_11 : decode cX3_init 11 = .ok (.return_, 1) := by decide +kernel
theorem dX3_kind_0 : decode cX3_kind 0 = .ok (.aload_n 0, 1) := by decide +kernel
theorem dX3_kind_1 : decode cX3_kind 1 = .ok (.getfield 13, 3) := by decide +kernel
theorem dX3_kind_4 : decode cX3_kind 4 = .ok (.ireturn, 1) := by decide +kernel
theorem dX3_number_0 : decode cX3_number 0 = .ok (.iload_n 1, 1) := by decide +kernel
theorem dX3_number_1 : decode cX3_number 1 = .ok (.ifCond .lt 21, 3) := by decide +kernel
theorem dX3_number_4 : decode cX3_number 4 = .ok (.iload_n 1, 1) := by decide +kernel
theorem dX3_number_5 : decode cX3_number 5 = .ok (.aload_n 0, 1) := by decide +kernel
theorem dX3_number_6 : decode cX3_number 6 = .ok (.getfield 7, 3) := by decide +kernel
theorem dX3_number_9 : decode cX3_number 9 = .ok (.arraylength, 1) := by decide +kernel
theorem dX3_number_10 : decode cX3_number 10 = .ok (.if_icmp .ge 12, 3) := by decide +kernel
theorem dX3_number_13 : decode cX3_number 13 = .ok (.aload_n 0, 1) := by decide +kernel
theorem dX3_number_14 : decode cX3_number 14 = .ok (.getfield 7, 3) := by decide +kernel
theorem dX3_number_17 : decode cX3_number 17 = .ok (.iload_n 1, 1) := by decide +kernel
theorem dX3_number_18 : decode cX3_number 18 = .ok (.iaload, 1) := by decide +kernel
theorem dX3_number_19 : decode cX3_number 19 = .ok (.goto 4, 3) := by decide +kernel
theorem dX3_number_22 : decode cX3_number 22 = .ok (.iconst 0, 1) := by decide +kernel
theorem dX3_number_23 : decode cX3_number 23 = .ok (.ireturn, 1) := by decide +kernel
set_option maxRecDepth 20000 in
theorem ggX3_readFrom_X6_byteAt : GoodIn wsX3_readFrom wsX6_byteAt := goodIn_r _ [7, 8, 9, 39, 40, 41] (by decide +kernel) (by decide +kernel)
set_option maxRecDepth 20000 in
theorem gX3_readFrom_X6_byteAt : GoodIn wsX3_readFrom (wsV RX3 17 RX6 yX6_byteAt wsX6_byteAt) := goodIn_app (goodIn_of _ (by decide +kernel)) ggX3_readFrom_X6_byteAt
set_option maxRecDepth 20000 in
theorem ggX3_readFrom_X3_kindOf : GoodIn wsX3_readFrom wsX3_kindOf := goodIn_r _ [13, 14] (by decide +kernel) (by decide +kernel)
set_option maxRecDepth 20000 in
theorem gX3_readFrom_X3_kindOf : GoodIn wsX3_readFrom (va_wsS RX3 23 yX3_kindOf wsX3_kindOf) := goodIn_app (goodIn_of _ (by decide +kernel)) ggX3_readFrom_X3_kindOf
set_option maxRecDepth 20000 in
theorem ggX3_readFrom_X3_readNumber : GoodIn wsX3_readFrom wsX3_readNumber := goodIn_r _ [18, 19, 3, 4, 5, 6, 7, 8, 9, 20, 21, 12, 22, 37, 38, 39, 40, 41] (by decide +kernel) (by decide +kernel)
set_option maxRecDepth 20000 in
theorem gX3_readFrom_X3_readNumber : GoodIn wsX3_readFrom (wsV RX3 29 RX3 yX3_readNumber wsX3_readNumber) := goodIn_app (goodIn_of _ (by decide +kernel)) ggX3_readFrom_X3_readNumber
set_option maxRecDepth 20000 in
theorem ggX3_readFrom_X3_isBounded : GoodIn wsX3_readFrom wsX3_isBounded := goodIn_r _ [26, 1, 27, 28, 29, 30, 31, 32, 12, 33, 19, 34, 35, 36, 37, 38] (by decide +kernel) (by decide +kernel)
set_option maxRecDepth 20000 in
theorem gX3_readFrom_X3_isBounded : GoodIn wsX3_readFrom (wsV RX3 33 RX3 yX3_isBounded wsX3_isBounded) := goodIn_app (goodIn_of _ (by decide +kernel)) ggX3_readFrom_X3_isBounded
theorem dX3_readFrom_0 : decode cX3_readFrom 0 = .ok (.aload_n 0, 1) := by decide +kernel
theorem dX3_readFrom_1 : decode cX3_readFrom 1 = .ok (.aload_n 1, 1) := by decide +kernel
theorem dX3_readFrom_2 : decode cX3_readFrom 2 = .ok (.iload_n 2, 1) := by decide +kernel
theorem dX3_readFrom_3 : decode cX3_readFrom 3 = .ok (.invokevirtual 17, 3) := by decide +kernel
theorem dX3_readFrom_6 : decode cX3_readFrom 6 = .ok (.invokestatic 23, 3) := by decide +kernel
theorem dX3_readFrom_9 : decode cX3_readFrom 9 = .ok (.putfield 13, 3) := by decide +kernel
theorem dX3_readFrom_12 : decode cX3_readFrom 12 = .ok (.aload_n 0, 1) := by decide +kernel
theorem dX3_readFrom_13 : decode cX3_readFrom 13 = .ok (.getfield 13, 3) := by decide +kernel
theorem dX3_readFrom_16 : decode cX3_readFrom 16 = .ok (.ifCond .lt 14, 3) := by decide +kernel
theorem dX3_readFrom_19 : decode cX3_readFrom 19 = .ok (.aload_n 0, 1) := by decide +kernel
theorem dX3_readFrom_20 : decode cX3_readFrom 20 = .ok (.getfield 13, 3) := by decide +kernel
theorem dX3_readFrom_23 : decode cX3_readFrom 23 = .ok (.getstatic 26, 3) := by decide +kernel
theorem dX3_readFrom_26 : decode cX3_readFrom 26 = .ok (.arraylength, 1) := by decide +kernel
theorem dX3_readFrom_27 : decode cX3_readFrom 27 = .ok (.if_icmp .lt 5, 3) := by decide +kernel
theorem dX3_readFrom_30 : decode cX3_readFrom 30 = .ok (.iconst (-1), 1) := by decide +kernel
theorem dX3_readFrom_31 : decode cX3_readFrom 31 = .ok (.ireturn, 1) := by decide +kernel
theorem dX3_readFrom_32 : decode cX3_readFrom 32 = .ok (.getstatic 26, 3) := by decide +kernel
theorem dX3_readFrom_35 : decode cX3_readFrom 35 = .ok (.aload_n 0, 1) := by decide +kernel
theorem dX3_readFrom_36 : decode cX3_readFrom 36 = .ok (.getfield 13, 3) := by decide +kernel
theorem dX3_readFrom_39 : decode cX3_readFrom 39 = .ok (.iaload, 1) := by decide +kernel
theorem dX3_readFrom_40 : decode cX3_readFrom 40 = .ok (.istore_n 3, 1) := by decide +kernel
theorem dX3_readFrom_41 : decode cX3_readFrom 41 = .ok (.iload_n 2, 1) := by decide +kernel
theorem dX3_readFrom_42 : decode cX3_readFrom 42 = .ok (.iconst 1, 1) := by decide +kernel
theorem dX3_readFrom_43 : decode cX3_readFrom 43 = .ok (.iadd, 1) := by decide +kernel
theorem dX3_readFrom_44 : decode cX3_readFrom 44 = .ok (.istore 4, 2) := by decide +kernel
theorem dX3_readFrom_46 : decode cX3_readFrom 46 = .ok (.iconst 0, 1) := by decide +kernel
theorem dX3_readFrom_47 : decode cX3_readFrom 47 = .ok (.istore 5, 2) := by decide +kernel
theorem dX3_readFrom_49 : decode cX3_readFrom 49 = .ok (.iload 5, 2) := by decide +kernel
theorem dX3_readFrom_51 : decode cX3_readFrom 51 = .ok (.iload_n 3, 1) := by decide +kernel
theorem dX3_readFrom_52 : decode cX3_readFrom 52 = .ok (.if_icmp .ge 67, 3) := by decide +kernel
theorem dX3_readFrom_55 : decode cX3_readFrom 55 = .ok (.aload_n 0, 1) := by decide +kernel
theorem dX3_readFrom_56 : decode cX3_readFrom 56 = .ok (.aload_n 1, 1) := by decide +kernel
theorem dX3_readFrom_57 : decode cX3_readFrom 57 = .ok (.iload 4, 2) := by decide +kernel
theorem dX3_readFrom_59 : decode cX3_readFrom 59 = .ok (.iload 5, 2) := by decide +kernel
theorem dX3_readFrom_61 : decode cX3_readFrom 61 = .ok (.invokevirtual 29, 3) := by decide +kernel
theorem dX3_readFrom_64 : decode cX3_readFrom 64 = .ok (.istore 4, 2) := by decide +kernel
theorem dX3_readFrom_66 : decode cX3_readFrom 66 = .ok (.iload 5, 2) := by decide +kernel
theorem dX3_readFrom_68 : decode cX3_readFrom 68 = .ok (.iload_n 3, 1) := by decide +kernel
theorem dX3_readFrom_69 : decode cX3_readFrom 69 = .ok (.iconst 1, 1) := by decide +kernel
theorem dX3_readFrom_70 : decode cX3_readFrom 70 = .ok (.isub, 1) := by decide +kernel
theorem dX3_readFrom_71 : decode cX3_readFrom 71 = .ok (.if_icmp .ne 8, 3) := by decide +kernel
theorem dX3_readFrom_74 : decode cX3_readFrom 74 = .ok (.bipush 59, 2) := by decide +kernel
theorem dX3_readFrom_76 : decode cX3_readFrom 76 = .ok (.goto 5, 3) := by decide +kernel
theorem dX3_readFrom_79 : decode cX3_readFrom 79 = .ok (.bipush 44, 2) := by decide +kernel
theorem dX3_readFrom_81 : decode cX3_readFrom 81 = .ok (.istore 6, 2) := by decide +kernel
theorem dX3_readFrom_83 : decode cX3_readFrom 83 = .ok (.iload 4, 2) := by decide +kernel
theorem dX3_readFrom_85 : decode cX3_readFrom 85 = .ok (.ifCond .lt 23, 3) := by decide +kernel
theorem dX3_readFrom_88 : decode cX3_readFrom 88 = .ok (.aload_n 1, 1) := by decide +kernel
theorem dX3_readFrom_89 : decode cX3_readFrom 89 = .ok (.iload 4, 2) := by decide +kernel
theorem dX3_readFrom_91 : decode cX3_readFrom 91 = .ok (.invokevirtual 17, 3) := by decide +kernel
theorem dX3_readFrom_94 : decode cX3_readFrom 94 = .ok (.iload 6, 2) := by decide +kernel
theorem dX3_readFrom_96 : decode cX3_readFrom 96 = .ok (.if_icmp .ne 12, 3) := by decide +kernel
theorem dX3_readFrom_99 : decode cX3_readFrom 99 = .ok (.aload_n 0, 1) := by decide +kernel
theorem dX3_readFrom_100 : decode cX3_readFrom 100 = .ok (.iload 5, 2) := by decide +kernel
theorem dX3_readFrom_102 : decode cX3_readFrom 102 = .ok (.invokevirtual 33, 3) := by decide +kernel
theorem dX3_readFrom_105 : decode cX3_readFrom 105 = .ok (.ifCond .ne 5, 3) := by decide +kernel
theorem dX3_readFrom_108 : decode cX3_readFrom 108 = .ok (.iconst (-1), 1) := by decide +kernel
theorem dX3_readFrom_109 : decode cX3_readFrom 109 = .ok (.ireturn, 1) := by decide +kernel
theorem dX3_readFrom_110 : decode cX3_readFrom 110 = .ok (.iinc 4 1, 3) := by decide +kernel
theorem dX3_readFrom_113 : decode cX3_readFrom 113 = .ok (.iinc 5 1, 3) := by decide +kernel
theorem dX3_readFrom_116 : decode cX3_readFrom 116 = .ok (.goto (-67), 3) := by decide +kernel
theorem dX3_readFrom_119 : decode cX3_readFrom 119 = .ok (.iload 4, 2) := by decide +kernel
theorem dX3_readFrom_121 : decode cX3_readFrom 121 = .ok (.ireturn, 1) := by decide +kernel
set_option maxRecDepth 20000 in
theorem ggX3_readNumber_X6_byteAt : GoodIn wsX3_readNumber wsX6_byteAt := goodIn_r _ [6, 7, 8, 15, 16, 17] (by decide +kernel) (by decide +kernel)
set_option maxRecDepth 20000 in
theorem gX3_readNumber_X6_byteAt : GoodIn wsX3_readNumber (wsV RX3 17 RX6 yX6_byteAt wsX6_byteAt) := goodIn_app (goodIn_of _ (by decide +kernel)) ggX3_readNumber_X6_byteAt
set_option maxRecDepth 20000 in
theorem ggX3_readNumber_X3_isFigure : GoodIn wsX3_readNumber wsX3_isFigure := goodIn_r _ [12] (by decide +kernel) (by decide +kernel)
set_option maxRecDepth 20000 in
theorem gX3_readNumber_X3_isFigure : GoodIn wsX3_readNumber (va_wsS RX3 37 yX3_isFigure wsX3_isFigure) := goodIn_app (goodIn_of _ (by decide +kernel)) ggX3_readNumber_X3_isFigure
theorem dX3_readNumber_0 : decode cX3_readNumber 0 = .ok (.aload_n 1, 1) := by decide +kernel
theorem dX3_readNumber_1 : decode cX3_readNumber 1 = .ok (.iload_n 2, 1) := by decide +kernel
theorem dX3_readNumber_2 : decode cX3_readNumber 2 = .ok (.invokevirtual 17, 3) := by decide +kernel
theorem dX3_readNumber_5 : decode cX3_readNumber 5 = .ok (.bipush 45, 2) := by decide +kernel
theorem dX3_readNumber_7 : decode cX3_readNumber 7 = .ok (.if_icmp .ne 7, 3) := by decide +kernel
theorem dX3_readNumber_10 : decode cX3_readNumber 10 = .ok (.iconst 1, 1) := by decide +kernel
theorem dX3_readNumber_11 : decode cX3_readNumber 11 = .ok (.goto 4, 3) := by decide +kernel
theorem dX3_readNumber_14 : decode cX3_readNumber 14 = .ok (.iconst 0, 1) := by decide +kernel
theorem dX3_readNumber_15 : decode cX3_readNumber 15 = .ok (.istore 4, 2) := by decide +kernel
theorem dX3_readNumber_17 : decode cX3_readNumber 17 = .ok (.iload 4, 2) := by decide +kernel
theorem dX3_readNumber_19 : decode cX3_readNumber 19 = .ok (.ifCond .eq 9, 3) := by decide +kernel
theorem dX3_readNumber_22 : decode cX3_readNumber 22 = .ok (.iload_n 2, 1) := by decide +kernel
theorem dX3_readNumber_23 : decode cX3_readNumber 23 = .ok (.iconst 1, 1) := by decide +kernel
theorem dX3_readNumber_24 : decode cX3_readNumber 24 = .ok (.iadd, 1) := by decide +kernel
theorem dX3_readNumber_25 : decode cX3_readNumber 25 = .ok (.goto 4, 3) := by decide +kernel
theorem dX3_readNumber_28 : decode cX3_readNumber 28 = .ok (.iload_n 2, 1) := by decide +kernel
theorem dX3_readNumber_29 : decode cX3_readNumber 29 = .ok (.istore 5, 2) := by decide +kernel
theorem dX3_readNumber_31 : decode cX3_readNumber 31 = .ok (.iload 5, 2) := by decide +kernel
theorem dX3_readNumber_33 : decode cX3_readNumber 33 = .ok (.istore 6, 2) := by decide +kernel
theorem dX3_readNumber_35 : decode cX3_readNumber 35 = .ok (.iconst 0, 1) := by decide +kernel
theorem dX3_readNumber_36 : decode cX3_readNumber 36 = .ok (.istore 7, 2) := by decide +kernel
theorem dX3_readNumber_38 : decode cX3_readNumber 38 = .ok (.iload 6, 2) := by decide +kernel
theorem dX3_readNumber_40 : decode cX3_readNumber 40 = .ok (.iload 5, 2) := by decide +kernel
theorem dX3_readNumber_42 : decode cX3_readNumber 42 = .ok (.iconst 4, 1) := by decide +kernel
theorem dX3_readNumber_43 : decode cX3_readNumber 43 = .ok (.iadd, 1) := by decide +kernel
theorem dX3_readNumber_44 : decode cX3_readNumber 44 = .ok (.if_icmp .ge 38, 3) := by decide +kernel
theorem dX3_readNumber_47 : decode cX3_readNumber 47 = .ok (.aload_n 1, 1) := by decide +kernel
theorem dX3_readNumber_48 : decode cX3_readNumber 48 = .ok (.iload 6, 2) := by decide +kernel
theorem dX3_readNumber_50 : decode cX3_readNumber 50 = .ok (.invokevirtual 17, 3) := by decide +kernel
theorem dX3_readNumber_53 : decode cX3_readNumber 53 = .ok (.invokestatic 37, 3) := by decide +kernel
theorem dX3_readNumber_56 : decode cX3_readNumber 56 = .ok (.ifCond .eq 26, 3) := by decide +kernel
theorem dX3_readNumber_59 : decode cX3_readNumber 59 = .ok (.iload 7, 2) := by decide +kernel
theorem dX3_readNumber_61 : decode cX3_readNumber 61 = .ok (.bipush 10, 2) := by decide +kernel
theorem dX3_readNumber_63 : decode cX3_readNumber 63 = .ok (.imul, 1) := by decide +kernel
theorem dX3_readNumber_64 : decode cX3_readNumber 64 = .ok (.aload_n 1, 1) := by decide +kernel
theorem dX3_readNumber_65 : decode cX3_readNumber 65 = .ok (.iload 6, 2) := by decide +kernel
theorem dX3_readNumber_67 : decode cX3_readNumber 67 = .ok (.invokevirtual 17, 3) := by decide +kernel
theorem dX3_readNumber_70 : decode cX3_readNumber 70 = .ok (.iadd, 1) := by decide +kernel
theorem dX3_readNumber_71 : decode cX3_readNumber 71 = .ok (.bipush 48, 2) := by decide +kernel
theorem dX3_readNumber_73 : decode cX3_readNumber 73 = .ok (.isub, 1) := by decide +kernel
theorem dX3_readNumber_74 : decode cX3_readNumber 74 = .ok (.istore 7, 2) := by decide +kernel
theorem dX3_readNumber_76 : decode cX3_readNumber 76 = .ok (.iinc 6 1, 3) := by decide +kernel
theorem dX3_readNumber_79 : decode cX3_readNumber 79 = .ok (.goto (-41), 3) := by decide +kernel
theorem dX3_readNumber_82 : decode cX3_readNumber 82 = .ok (.iload 6, 2) := by decide +kernel
theorem dX3_readNumber_84 : decode cX3_readNumber 84 = .ok (.iload 5, 2) := by decide +kernel
theorem dX3_readNumber_86 : decode cX3_readNumber 86 = .ok (.if_icmp .eq 26, 3) := by decide +kernel
theorem dX3_readNumber_89 : decode cX3_readNumber 89 = .ok (.iload 4, 2) := by decide +kernel
theorem dX3_readNumber_91 : decode cX3_readNumber 91 = .ok (.ifCond .eq 8, 3) := by decide +kernel
theorem dX3_readNumber_94 : decode cX3_readNumber 94 = .ok (.iload 7, 2) := by decide +kernel
theorem dX3_readNumber_96 : decode cX3_readNumber 96 = .ok (.ifCond .eq 16, 3) := by decide +kernel
theorem dX3_readNumber_99 : decode cX3_readNumber 99 = .ok (.iload_n 3, 1) := by decide +kernel
theorem dX3_readNumber_100 : decode cX3_readNumber 100 = .ok (.ifCond .lt 12, 3) := by decide +kernel
theorem dX3_readNumber_103 : decode cX3_readNumber 103 = .ok (.iload_n 3, 1) := by decide +kernel
theorem dX3_readNumber_104 : decode cX3_readNumber 104 = .ok (.aload_n 0, 1) := by decide +kernel
theorem dX3_readNumber_105 : decode cX3_readNumber 105 = .ok (.getfield 7, 3) := by decide +kernel
theorem dX3_readNumber_108 : decode cX3_readNumber 108 = .ok (.arraylength, 1) := by decide +kernel
theorem dX3_readNumber_109 : decode cX3_readNumber 109 = .ok (.if_icmp .lt 5, 3) := by decide +kernel
theorem dX3_readNumber_112 : decode cX3_readNumber 112 = .ok (.iconst (-1), 1) := by decide +kernel
theorem dX3_readNumber_113 : decode cX3_readNumber 113 = .ok (.ireturn, 1) := by decide +kernel
theorem dX3_readNumber_114 : decode cX3_readNumber 114 = .ok (.aload_n 0, 1) := by decide +kernel
theorem dX3_readNumber_115 : decode cX3_readNumber 115 = .ok (.getfield 7, 3) := by decide +kernel
theorem dX3_readNumber_118 : decode cX3_readNumber 118 = .ok (.iload_n 3, 1) := by decide +kernel
theorem dX3_readNumber_119 : decode cX3_readNumber 119 = .ok (.iload 4, 2) := by decide +kernel
theorem dX3_readNumber_121 : decode cX3_readNumber 121 = .ok (.ifCond .eq 9, 3) := by decide +kernel
theorem dX3_readNumber_124 : decode cX3_readNumber 124 = .ok (.iload 7, 2) := by decide +kernel
theorem dX3_readNumber_126 : decode cX3_readNumber 126 = .ok (.ineg, 1) := by decide +kernel
theorem dX3_readNumber_127 : decode cX3_readNumber 127 = .ok (.goto 5, 3) := by decide +kernel
theorem dX3_readNumber_130 : decode cX3_readNumber 130 = .ok (.iload 7, 2) := by decide +kernel
theorem dX3_readNumber_132 : decode cX3_readNumber 132 = .ok (.iastore, 1) := by decide +kernel
theorem dX3_readNumber_133 : decode cX3_readNumber 133 = .ok (.iload 6, 2) := by decide +kernel
theorem dX3_readNumber_135 : decode cX3_readNumber 135 = .ok (.ireturn, 1) := by decide +kernel
set_option maxRecDepth 20000 in
theorem ggX3_isBounded_X3_number : GoodIn wsX3_isBounded wsX3_number := goodIn_r _ [9, 10, 14, 15] (by decide +kernel) (by decide +kernel)
set_option maxRecDepth 20000 in
theorem gX3_isBounded_X3_number : GoodIn wsX3_isBounded (wsV RX3 49 RX3 yX3_number wsX3_number) := goodIn_app (goodIn_of _ (by decide +kernel)) ggX3_isBounded_X3_number
set_option maxRecDepth 20000 in
theorem ggX3_isBounded_X9_within : GoodIn wsX3_isBounded wsX9_within := goodIn_r _ [13] (by decide +kernel) (by decide +kernel)
set_option maxRecDepth 20000 in
theorem gX3_isBounded_X9_within_n52 : GoodIn wsX3_isBounded (wsX9_within) := ggX3_isBounded_X9_within
theorem dX3_isBounded_0 : decode cX3_isBounded 0 = .ok (.aload_n 0, 1) := by decide +kernel
theorem dX3_isBounded_1 : decode cX3_isBounded 1 = .ok (.getfield 13, 3) := by decide +kernel
theorem dX3_isBounded_4 : decode cX3_isBounded 4 = .ok (.ifCond .lt 14, 3) := by decide +kernel
theorem dX3_isBounded_7 : decode cX3_isBounded 7 = .ok (.aload_n 0, 1) := by decide +kernel
theorem dX3_isBounded_8 : decode cX3_isBounded 8 = .ok (.getfield 13, 3) := by decide +kernel
theorem dX3_isBounded_11 : decode cX3_isBounded 11 = .ok (.getstatic 40, 3) := by decide +kernel
theorem dX3_isBounded_14 : decode cX3_isBounded 14 = .ok (.arraylength, 1) := by decide +kernel
theorem dX3_isBounded_15 : decode cX3_isBounded 15 = .ok (.if_icmp .lt 5, 3) := by decide +kernel
theorem dX3_isBounded_18 : decode cX3_isBounded 18 = .ok (.iconst 0, 1) := by decide +kernel
theorem dX3_isBounded_19 : decode cX3_isBounded 19 = .ok (.ireturn, 1) := by decide +kernel
theorem dX3_isBounded_20 : decode cX3_isBounded 20 = .ok (.getstatic 40, 3) := by decide +kernel
theorem dX3_isBounded_23 : decode cX3_isBounded 23 = .ok (.aload_n 0, 1) := by decide +kernel
theorem dX3_isBounded_24 : decode cX3_isBounded 24 = .ok (.getfield 13, 3) := by decide +kernel
theorem dX3_isBounded_27 : decode cX3_isBounded 27 = .ok (.iaload, 1) := by decide +kernel
theorem dX3_isBounded_28 : decode cX3_isBounded 28 = .ok (.iload_n 1, 1) := by decide +kernel
theorem dX3_isBounded_29 : decode cX3_isBounded 29 = .ok (.iadd, 1) := by decide +kernel
theorem dX3_isBounded_30 : decode cX3_isBounded 30 = .ok (.istore_n 2, 1) := by decide +kernel
theorem dX3_isBounded_31 : decode cX3_isBounded 31 = .ok (.iload_n 2, 1) := by decide +kernel
theorem dX3_isBounded_32 : decode cX3_isBounded 32 = .ok (.ifCond .lt 19, 3) := by decide +kernel
theorem dX3_isBounded_35 : decode cX3_isBounded 35 = .ok (.iload_n 2, 1) := by decide +kernel
theorem dX3_isBounded_36 : decode cX3_isBounded 36 = .ok (.getstatic 43, 3) := by decide +kernel
theorem dX3_isBounded_39 : decode cX3_isBounded 39 = .ok (.arraylength, 1) := by decide +kernel
theorem dX3_isBounded_40 : decode cX3_isBounded 40 = .ok (.if_icmp .ge 11, 3) := by decide +kernel
theorem dX3_isBounded_43 : decode cX3_isBounded 43 = .ok (.iload_n 2, 1) := by decide +kernel
theorem dX3_isBounded_44 : decode cX3_isBounded 44 = .ok (.getstatic 46, 3) := by decide +kernel
theorem dX3_isBounded_47 : decode cX3_isBounded 47 = .ok (.arraylength, 1) := by decide +kernel
theorem dX3_isBounded_48 : decode cX3_isBounded 48 = .ok (.if_icmp .lt 5, 3) := by decide +kernel
theorem dX3_isBounded_51 : decode cX3_isBounded 51 = .ok (.iconst 0, 1) := by decide +kernel
theorem dX3_isBounded_52 : decode cX3_isBounded 52 = .ok (.ireturn, 1) := by decide +kernel
theorem dX3_isBounded_53 : decode cX3_isBounded 53 = .ok (.aload_n 0, 1) := by decide +kernel
theorem dX3_isBounded_54 : decode cX3_isBounded 54 = .ok (.iload_n 1, 1) := by decide +kernel
theorem dX3_isBounded_55 : decode cX3_isBounded 55 = .ok (.invokevirtual 49, 3) := by decide +kernel
theorem dX3_isBounded_58 : decode cX3_isBounded 58 = .ok (.getstatic 43, 3) := by decide +kernel
theorem dX3_isBounded_61 : decode cX3_isBounded 61 = .ok (.iload_n 2, 1) := by decide +kernel
theorem dX3_isBounded_62 : decode cX3_isBounded 62 = .ok (.iaload, 1) := by decide +kernel
theorem dX3_isBounded_63 : decode cX3_isBounded 63 = .ok (.getstatic 46, 3) := by decide +kernel
theorem dX3_isBounded_66 : decode cX3_isBounded 66 = .ok (.iload_n 2, 1) := by decide +kernel
theorem dX3_isBounded_67 : decode cX3_isBounded 67 = .ok (.iaload, 1) := by decide +kernel
theorem dX3_isBounded_68 : decode cX3_isBounded 68 = .ok (.invokestatic 52, 3) := by decide +kernel
theorem dX3_isBounded_71 : decode cX3_isBounded 71 = .ok (.ireturn, 1) := by decide +kernel
theorem dX3_isFigure_0 : decode cX3_isFigure 0 = .ok (.iload_n 0, 1) := by decide +kernel
theorem dX3_isFigure_1 : decode cX3_isFigure 1 = .ok (.bipush 48, 2) := by decide +kernel
theorem dX3_isFigure_3 : decode cX3_isFigure 3 = .ok (.if_icmp .lt 13, 3) := by decide +kernel
theorem dX3_isFigure_6 : decode cX3_isFigure 6 = .ok (.iload_n 0, 1) := by decide +kernel
theorem dX3_isFigure_7 : decode cX3_isFigure 7 = .ok (.bipush 57, 2) := by decide +kernel
theorem dX3_isFigure_9 : decode cX3_isFigure 9 = .ok (.if_icmp .gt 7, 3) := by decide +kernel
theorem dX3_isFigure_12 : decode cX3_isFigure 12 = .ok (.iconst 1, 1) := by decide +kernel
theorem dX3_isFigure_13 : decode cX3_isFigure 13 = .ok (.goto 4, 3) := by decide +kernel
theorem dX3_isFigure_16 : decode cX3_isFigure 16 = .ok (.iconst 0, 1) := by decide +kernel
theorem dX3_isFigure_17 : decode cX3_isFigure 17 = .ok (.ireturn, 1) := by decide +kernel
theorem dX3_kindOf_0 : decode cX3_kindOf 0 = .ok (.iconst 0, 1) := by decide +kernel
theorem dX3_kindOf_1 : decode cX3_kindOf 1 = .ok (.istore_n 1, 1) := by decide +kernel
theorem dX3_kindOf_2 : decode cX3_kindOf 2 = .ok (.iload_n 1, 1) := by decide +kernel
theorem dX3_kindOf_3 : decode cX3_kindOf 3 = .ok (.getstatic 58, 3) := by decide +kernel
theorem dX3_kindOf_6 : decode cX3_kindOf 6 = .ok (.arraylength, 1) := by decide +kernel
theorem dX3_kindOf_7 : decode cX3_kindOf 7 = .ok (.if_icmp .ge 20, 3) := by decide +kernel
theorem dX3_kindOf_10 : decode cX3_kindOf 10 = .ok (.getstatic 58, 3) := by decide +kernel
theorem dX3_kindOf_13 : decode cX3_kindOf 13 = .ok (.iload_n 1, 1) := by decide +kernel
theorem dX3_kindOf_14 : decode cX3_kindOf 14 = .ok (.caload, 1) := by decide +kernel
theorem dX3_kindOf_15 : decode cX3_kindOf 15 = .ok (.iload_n 0, 1) := by decide +kernel
theorem dX3_kindOf_16 : decode cX3_kindOf 16 = .ok (.if_icmp .ne 5, 3) := by decide +kernel
theorem dX3_kindOf_19 : decode cX3_kindOf 19 = .ok (.iload_n 1, 1) := by decide +kernel
theorem dX3_kindOf_20 : decode cX3_kindOf 20 = .ok (.ireturn, 1) := by decide +kernel
theorem dX3_kindOf_21 : decode cX3_kindOf 21 = .ok (.iinc 1 1, 3) := by decide +kernel
theorem dX3_kindOf_24 : decode cX3_kindOf 24 = .ok (.goto (-22), 3) := by decide +kernel
theorem dX3_kindOf_27 : decode cX3_kindOf 27 = .ok (.iconst (-1), 1) := by decide +kernel
theorem dX3_kindOf_28 : decode cX3_kindOf 28 = .ok (.ireturn, 1) := by decide +kernel
theorem dX4_init_0 : decode cX4_init 0 = .ok (.aload_n 0, 1) := by decide +kernel
theorem dX4_init_1 : decode cX4_init 1 = .ok (.invokespecial 3, 3) := by decide +kernel
theorem dX4_init_4 : decode cX4_init 4 = .ok (.aload_n 0, 1) := by decide +kernel
theorem dX4_init_5 : decode cX4_init 5 = .ok (.bipush 60, 2) := by decide +kernel
theorem dX4_init_7 : decode cX4_init 7 = .ok (.newarray .int, 2) := by decide +kernel
theorem dX4_init_9 : decode cX4_init 9 = .ok (.putfield 11, 3) := by decide +kernel
theorem dX4_init_12 : decode cX4_init 12 = .ok (.aload_n 0, 1) := by decide +kernel
theorem dX4_init_13 : decode cX4_init 13 = .ok (.bipush 60, 2) := by decide +kernel
theorem dX4_init_15 : decode cX4_init 15 = .ok (.newarray .int, 2) := by decide +kernel
theorem dX4_init_17 : decode cX4_init 17 = .ok (.putfield 15, 3) := by decide +kernel
theorem dX4_init_20 : decode cX4_init 20 = .ok (.aload_n 0, 1) := by decide +kernel
theorem dX4_init_21 : decode cX4_init 21 = .ok (.bipush 60, 2) := by decide +kernel
theorem dX4_init_23 : decode cX4_init 23 = .ok (.newarray .boolean, 2) := by decide +kernel
theorem dX4_init_25 : decode cX4_init 25 = .ok (.putfield 18, 3) := by decide +kernel
theorem dX4_init_28 : decode cX4_init 28 = .ok (.return_, 1) := by decide +kernel
theorem dX4_size_0 : decode cX4_size 0 = .ok (.aload_n 0, 1) := by decide +kernel
theorem dX4_size_1 : decode cX4_size 1 = .ok (.getfield 22, 3) := by decide +kernel
theorem dX4_size_4 : decode cX4_size 4 = .ok (.ireturn, 1) := by decide +kernel
theorem dX4_hear_0 : decode cX4_hear 0 = .ok (.aload_n 0, 1) := by decide +kernel
theorem dX4_hear_1 : decode cX4_hear 1 = .ok (.getfield 22, 3) := by decide +kernel
theorem dX4_hear_4 : decode cX4_hear 4 = .ok (.ifCond .lt 12, 3) := by decide +kernel
theorem dX4_hear_7 : decode cX4_hear 7 = .ok (.aload_n 0, 1) := by decide +kernel
theorem dX4_hear_8 : decode cX4_hear 8 = .ok (.getfield 22, 3) := by decide +kernel
theorem dX4_hear_11 : decode cX4_hear 11 = .ok (.bipush 60, 2) := by decide +kernel
theorem dX4_hear_13 : decode cX4_hear 13 = .ok (.if_icmp .lt 6, 3) := by decide +kernel
theorem dX4_hear_16 : decode cX4_hear 16 = .ok (.bipush (-3), 2) := by decide +kernel
theorem dX4_hear_18 : decode cX4_hear 18 = .ok (.ireturn, 1) := by decide +kernel
theorem dX4_hear_19 : decode cX4_hear 19 = .ok (.aload_n 0, 1) := by decide +kernel
theorem dX4_hear_20 : decode cX4_hear 20 = .ok (.getfield 11, 3) := by decide +kernel
theorem dX4_hear_23 : decode cX4_hear 23 = .ok (.aload_n 0, 1) := by decide +kernel
theorem dX4_hear_24 : decode cX4_hear 24 = .ok (.getfield 22, 3) := by decide +kernel
theorem dX4_hear_27 : decode cX4_hear 27 = .ok (.iload_n 1, 1) := by decide +kernel
theorem dX4_hear_28 : decode cX4_hear 28 = .ok (.iastore, 1) := by decide +kernel
theorem dX4_hear_29 : decode cX4_hear 29 = .ok (.aload_n 0, 1) := by decide +kernel
theorem dX4_hear_30 : decode cX4_hear 30 = .ok (.getfield 15, 3) := by decide +kernel
theorem dX4_hear_33 : decode cX4_hear 33 = .ok (.aload_n 0, 1) := by decide +kernel
theorem dX4_hear_34 : decode cX4_hear 34 = .ok (.getfield 22, 3) := by decide +kernel
theorem dX4_hear_37 : decode cX4_hear 37 = .ok (.iload_n 2, 1) := by decide +kernel
theorem dX4_hear_38 : decode cX4_hear 38 = .ok (.iastore, 1) := by decide +kernel
theorem dX4_hear_39 : decode cX4_hear 39 = .ok (.aload_n 0, 1) := by decide +kernel
theorem dX4_hear_40 : decode cX4_hear 40 = .ok (.getfield 18, 3) := by decide +kernel
theorem dX4_hear_43 : decode cX4_hear 43 = .ok (.aload_n 0, 1) := by decide +kernel
theorem dX4_hear_44 : decode cX4_hear 44 = .ok (.getfield 22, 3) := by decide +kernel
theorem dX4_hear_47 : decode cX4_hear 47 = .ok (.iload_n 3, 1) := by decide +kernel
theorem dX4_hear_48 : decode cX4_hear 48 = .ok (.bastore, 1) := by decide +kernel
theorem dX4_hear_49 : decode cX4_hear 49 = .ok (.aload_n 0, 1) := by decide +kernel
theorem dX4_hear_50 : decode cX4_hear 50 = .ok (.dup, 1) := by decide +kernel
theorem dX4_hear_51 : decode cX4_hear 51 = .ok (.getfield 22, 3) := by decide +kernel
theorem dX4_hear_54 : decode cX4_hear 54 = .ok (.iconst 1, 1) := by decide +kernel
theorem dX4_hear_55 : decode cX4_hear 55 = .ok (.iadd, 1) := by decide +kernel
theorem dX4_hear_56 : decode cX4_hear 56 = .ok (.putfield 22, 3) := by decide +kernel
theorem dX4_hear_59 : decode cX4_hear 59 = .ok (.aload_n 0, 1) := by decide +kernel
theorem dX4_hear_60 : decode cX4_hear 60 = .ok (.getfield 22, 3) := by decide +kernel
theorem dX4_hear_63 : decode cX4_hear 63 = .ok (.ireturn, 1) := by decide +kernel
set_option maxRecDepth 20000 in
theorem ggX4_leaning_X4_unlike : GoodIn wsX4_leaning wsX4_unlike := goodIn_r _ [5, 6, 7, 8, 9, 10, 11, 12, 13] (by decide +kernel) (by decide +kernel)
set_option maxRecDepth 20000 in
theorem gX4_leaning_X4_unlike : GoodIn wsX4_leaning (wsV RX4 26 RX4 yX4_unlike wsX4_unlike) := goodIn_app (goodIn_of _ (by decide +kernel)) ggX4_leaning_X4_unlike
theorem dX4_leaning_0 : decode cX4_leaning 0 = .ok (.iconst 0, 1) := by decide +kernel
theorem dX4_leaning_1 : decode cX4_leaning 1 = .ok (.istore_n 2, 1) := by decide +kernel
theorem dX4_leaning_2 : decode cX4_leaning 2 = .ok (.aload_n 0, 1) := by decide +kernel
theorem dX4_leaning_3 : decode cX4_leaning 3 = .ok (.iload_n 1, 1) := by decide +kernel
theorem dX4_leaning_4 : decode cX4_leaning 4 = .ok (.iconst 0, 1) := by decide +kernel
theorem dX4_leaning_5 : decode cX4_leaning 5 = .ok (.invokevirtual 26, 3) := by decide +kernel
theorem dX4_leaning_8 : decode cX4_leaning 8 = .ok (.istore_n 3, 1) := by decide +kernel
theorem dX4_leaning_9 : decode cX4_leaning 9 = .ok (.iconst 1, 1) := by decide +kernel
theorem dX4_leaning_10 : decode cX4_leaning 10 = .ok (.istore 4, 2) := by decide +kernel
theorem dX4_leaning_12 : decode cX4_leaning 12 = .ok (.iload 4, 2) := by decide +kernel
theorem dX4_leaning_14 : decode cX4_leaning 14 = .ok (.bipush 20, 2) := by decide +kernel
theorem dX4_leaning_16 : decode cX4_leaning 16 = .ok (.if_icmp .gt 53, 3) := by decide +kernel
theorem dX4_leaning_19 : decode cX4_leaning 19 = .ok (.aload_n 0, 1) := by decide +kernel
theorem dX4_leaning_20 : decode cX4_leaning 20 = .ok (.iload_n 1, 1) := by decide +kernel
theorem dX4_leaning_21 : decode cX4_leaning 21 = .ok (.iload 4, 2) := by decide +kernel
theorem dX4_leaning_23 : decode cX4_leaning 23 = .ok (.ineg, 1) := by decide +kernel
theorem dX4_leaning_24 : decode cX4_leaning 24 = .ok (.invokevirtual 26, 3) := by decide +kernel
theorem dX4_leaning_27 : decode cX4_leaning 27 = .ok (.istore 5, 2) := by decide +kernel
theorem dX4_leaning_29 : decode cX4_leaning 29 = .ok (.iload 5, 2) := by decide +kernel
theorem dX4_leaning_31 : decode cX4_leaning 31 = .ok (.iload_n 3, 1) := by decide +kernel
theorem dX4_leaning_32 : decode cX4_leaning 32 = .ok (.if_icmp .ge 10, 3) := by decide +kernel
theorem dX4_leaning_35 : decode cX4_leaning 35 = .ok (.iload 4, 2) := by decide +kernel
theorem dX4_leaning_37 : decode cX4_leaning 37 = .ok (.ineg, 1) := by decide +kernel
theorem dX4_leaning_38 : decode cX4_leaning 38 = .ok (.istore_n 2, 1) := by decide +kernel
theorem dX4_leaning_39 : decode cX4_leaning 39 = .ok (.iload 5, 2) := by decide +kernel
theorem dX4_leaning_41 : decode cX4_leaning 41 = .ok (.istore_n 3, 1) := by decide +kernel
theorem dX4_leaning_42 : decode cX4_leaning 42 = .ok (.aload_n 0, 1) := by decide +kernel
theorem dX4_leaning_43 : decode cX4_leaning 43 = .ok (.iload_n 1, 1) := by decide +kernel
theorem dX4_leaning_44 : decode cX4_leaning 44 = .ok (.iload 4, 2) := by decide +kernel
theorem dX4_leaning_46 : decode cX4_leaning 46 = .ok (.invokevirtual 26, 3) := by decide +kernel
theorem dX4_leaning_49 : decode cX4_leaning 49 = .ok (.istore 6, 2) := by decide +kernel
theorem dX4_leaning_51 : decode cX4_leaning 51 = .ok (.iload 6, 2) := by decide +kernel
theorem dX4_leaning_53 : decode cX4_leaning 53 = .ok (.iload_n 3, 1) := by decide +kernel
theorem dX4_leaning_54 : decode cX4_leaning 54 = .ok (.if_icmp .ge 9, 3) := by decide +kernel
theorem dX4_leaning_57 : decode cX4_leaning 57 = .ok (.iload 4, 2) := by decide +kernel
theorem dX4_leaning_59 : decode cX4_leaning 59 = .ok (.istore_n 2, 1) := by decide +kernel
theorem dX4_leaning_60 : decode cX4_leaning 60 = .ok (.iload 6, 2) := by decide +kernel
theorem dX4_leaning_62 : decode cX4_leaning 62 = .ok (.istore_n 3, 1) := by decide +kernel
theorem dX4_leaning_63 : decode cX4_leaning 63 = .ok (.iinc 4 1, 3) := by decide +kernel
theorem dX4_leaning_66 : decode cX4_leaning 66 = .ok (.goto (-54), 3) := by decide +kernel
theorem dX4_leaning_69 : decode cX4_leaning 69 = .ok (.iload_n 2, 1) := by decide +kernel
theorem dX4_leaning_70 : decode cX4_leaning 70 = .ok (.ireturn, 1) := by decide +kernel
theorem dX4_unlike_0 : decode cX4_unlike 0 = .ok (.iconst 0, 1) := by decide +kernel
theorem dX4_unlike_1 : decode cX4_unlike 1 = .ok (.istore_n 3, 1) := by decide +kernel
theorem dX4_unlike_2 : decode cX4_unlike 2 = .ok (.iconst 0, 1) := by decide +kernel
theorem dX4_unlike_3 : decode cX4_unlike 3 = .ok (.istore 4, 2) := by decide +kernel
theorem dX4_unlike_5 : decode cX4_unlike 5 = .ok (.iload 4, 2) := by decide +kernel
theorem dX4_unlike_7 : decode cX4_unlike 7 = .ok (.aload_n 0, 1) := by decide +kernel
theorem dX4_unlike_8 : decode cX4_unlike 8 = .ok (.getfield 22, 3) := by decide +kernel
theorem dX4_unlike_11 : decode cX4_unlike 11 = .ok (.if_icmp .ge 61, 3) := by decide +kernel
theorem dX4_unlike_14 : decode cX4_unlike 14 = .ok (.iload 4, 2) := by decide +kernel
theorem dX4_unlike_16 : decode cX4_unlike 16 = .ok (.bipush 60, 2) := by decide +kernel
theorem dX4_unlike_18 : decode cX4_unlike 18 = .ok (.if_icmp .ge 54, 3) := by decide +kernel
theorem dX4_unlike_21 : decode cX4_unlike 21 = .ok (.iload_n 3, 1) := by decide +kernel
theorem dX4_unlike_22 : decode cX4_unlike 22 = .ok (.aload_n 0, 1) := by decide +kernel
theorem dX4_unlike_23 : decode cX4_unlike 23 = .ok (.getfield 15, 3) := by decide +kernel
theorem dX4_unlike_26 : decode cX4_unlike 26 = .ok (.iload 4, 2) := by decide +kernel
theorem dX4_unlike_28 : decode cX4_unlike 28 = .ok (.iaload, 1) := by decide +kernel
theorem dX4_unlike_29 : decode cX4_unlike 29 = .ok (.iload_n 1, 1) := by decide +kernel
theorem dX4_unlike_30 : decode cX4_unlike 30 = .ok (.if_icmp .ne 33, 3) := by decide +kernel
theorem dX4_unlike_33 : decode cX4_unlike 33 = .ok (.aload_n 0, 1) := by decide +kernel
theorem dX4_unlike_34 : decode cX4_unlike 34 = .ok (.getfield 18, 3) := by decide +kernel
theorem dX4_unlike_37 : decode cX4_unlike 37 = .ok (.iload 4, 2) := by decide +kernel
theorem dX4_unlike_39 : decode cX4_unlike 39 = .ok (.baload, 1) := by decide +kernel
theorem dX4_unlike_40 : decode cX4_unlike 40 = .ok (.aload_n 0, 1) := by decide +kernel
theorem dX4_unlike_41 : decode cX4_unlike 41 = .ok (.getfield 11, 3) := by decide +kernel
theorem dX4_unlike_44 : decode cX4_unlike 44 = .ok (.iload 4, 2) := by decide +kernel
theorem dX4_unlike_46 : decode cX4_unlike 46 = .ok (.iaload, 1) := by decide +kernel
theorem dX4_unlike_47 : decode cX4_unlike 47 = .ok (.iload_n 2, 1) := by decide +kernel
theorem dX4_unlike_48 : decode cX4_unlike 48 = .ok (.if_icmp .le 7, 3) := by decide +kernel
theorem dX4_unlike_51 : decode cX4_unlike 51 = .ok (.iconst 1, 1) := by decide +kernel
theorem dX4_unlike_52 : decode cX4_unlike 52 = .ok (.goto 4, 3) := by decide +kernel
theorem dX4_unlike_55 : decode cX4_unlike 55 = .ok (.iconst 0, 1) := by decide +kernel
theorem dX4_unlike_56 : decode cX4_unlike 56 = .ok (.if_icmp .eq 7, 3) := by decide +kernel
theorem dX4_unlike_59 : decode cX4_unlike 59 = .ok (.iconst 1, 1) := by decide +kernel
theorem dX4_unlike_60 : decode cX4_unlike 60 = .ok (.goto 4, 3) := by decide +kernel
theorem dX4_unlike_63 : decode cX4_unlike 63 = .ok (.iconst 0, 1) := by decide +kernel
theorem dX4_unlike_64 : decode cX4_unlike 64 = .ok (.iadd, 1) := by decide +kernel
theorem dX4_unlike_65 : decode cX4_unlike 65 = .ok (.istore_n 3, 1) := by decide +kernel
theorem dX4_unlike_66 : decode cX4_unlike 66 = .ok (.iinc 4 1, 3) := by decide +kernel
theorem dX4_unlike_69 : decode cX4_unlike 69 = .ok (.goto (-64), 3) := by decide +kernel
theorem dX4_unlike_72 : decode cX4_unlike 72 = .ok (.iload_n 3, 1) := by decide +kernel
theorem dX4_unlike_73 : decode cX4_unlike 73 = .ok (.ireturn, 1) := by decide +kernel
set_option maxRecDepth 20000 in
theorem ggX5_init_X3_init : GoodIn wsX5_init wsX3_init := goodIn_r _ [13, 14, 2, 3, 4, 15, 35, 36] (by decide +kernel) (by decide +kernel)
set_option maxRecDepth 20000 in
theorem gX5_init_X3_init_n21 : GoodIn wsX5_init (wsX3_init) := ggX5_init_X3_init
set_option maxRecDepth 20000 in
theorem ggX5_init_X5_reset : GoodIn wsX5_init wsX5_reset := goodIn_r _ [20, 5, 21, 22, 23, 24, 25, 26, 27, 28, 29, 30, 31, 32, 33, 34] (by decide +kernel) (by decide +kernel)
set_option maxRecDepth 20000 in
theorem gX5_init_X5_reset : GoodIn wsX5_init (wsV RX5 26 RX5 yX5_reset wsX5_reset) := goodIn_app (goodIn_of _ (by decide +kernel)) ggX5_init_X5_reset
theorem dX5_init_0 : decode cX5_init 0 = .ok (.aload_n 0, 1) := by decide +kernel
theorem dX5_init_1 : decode cX5_init 1 = .ok (.invokespecial 1, 3) := by decide +kernel
theorem dX5_init_4 : decode cX5_init 4 = .ok (.aload_n 0, 1) := by decide +kernel
theorem dX5_init_5 : decode cX5_init 5 = .ok (.bipush 6, 2) := by decide +kernel
theorem dX5_init_7 : decode cX5_init 7 = .ok (.newarray .int, 2) := by decide +kernel
theorem dX5_init_9 : decode cX5_init 9 = .ok (.putfield 9, 3) := by decide +kernel
theorem dX5_init_12 : decode cX5_init 12 = .ok (.aload_n 0, 1) := by decide +kernel
theorem dX5_init_13 : decode cX5_init 13 = .ok (.bipush 40, 2) := by decide +kernel
theorem dX5_init_15 : decode cX5_init 15 = .ok (.newarray .int, 2) := by decide +kernel
theorem dX5_init_17 : decode cX5_init 17 = .ok (.putfield 13, 3) := by decide +kernel
theorem dX5_init_20 : decode cX5_init 20 = .ok (.aload_n 0, 1) := by decide +kernel
theorem dX5_init_21 : decode cX5_init 21 = .ok (.bipush 40, 2) := by decide +kernel
theorem dX5_init_23 : decode cX5_init 23 = .ok (.newarray .int, 2) := by decide +kernel
theorem dX5_init_25 : decode cX5_init 25 = .ok (.putfield 16, 3) := by decide +kernel
theorem dX5_init_28 : decode cX5_init 28 = .ok (.aload_n 0, 1) := by decide +kernel
theorem dX5_init_29 : decode cX5_init 29 = .ok (.new 19, 3) := by decide +kernel
theorem dX5_init_32 : decode cX5_init 32 = .ok (.dup, 1) := by decide +kernel
theorem dX5_init_33 : decode cX5_init 33 = .ok (.invokespecial 21, 3) := by decide +kernel
theorem dX5_init_36 : decode cX5_init 36 = .ok (.putfield 22, 3) := by decide +kernel
theorem dX5_init_39 : decode cX5_init 39 = .ok (.aload_n 0, 1) := by decide +kernel
theorem dX5_init_40 : decode cX5_init 40 = .ok (.invokevirtual 26, 3) := by decide +kernel
theorem dX5_init_43 : decode cX5_init 43 = .ok (.return_, 1) := by decide +kernel
theorem dX5_itemCount_0 : decode cX5_itemCount 0 = .ok (.aload_n 0, 1) := by decide +kernel
theorem dX5_itemCount_1 : decode cX5_itemCount 1 = .ok (.getfield 29, 3) := by decide +kernel
theorem dX5_itemCount_4 : decode cX5_itemCount 4 = .ok (.ireturn, 1) := by decide +kernel
theorem dX5_hasWicket_0 : decode cX5_hasWicket 0 = .ok (.aload_n 0, 1) := by decide +kernel
theorem dX5_hasWicket_1 : decode cX5_hasWicket 1 = .ok (.getfield 33, 3) := by decide +kernel
theorem dX5_hasWicket_4 : decode cX5_hasWicket 4 = .ok (.ireturn, 1) := by decide +kernel
theorem dX5_wicketX_0 : decode cX5_wicketX 0 = .ok (.aload_n 0, 1) := by decide +kernel
theorem dX5_wicketX_1 : decode cX5_wicketX 1 = .ok (.getfield 37, 3) := by decide +kernel
theorem dX5_wicketX_4 : decode cX5_wicketX 4 = .ok (.ireturn, 1) := by decide +kernel
theorem dX5_wicketSide_0 : decode cX5_wicketSide 0 = .ok (.aload_n 0, 1) := by decide +kernel
theorem dX5_wicketSide_1 : decode cX5_wicketSide 1 = .ok (.getfield 40, 3) := by decide +kernel
theorem dX5_wicketSide_4 : decode cX5_wicketSide 4 = .ok (.ireturn, 1) := by decide +kernel
theorem dX5_wicketHigh_0 : decode cX5_wicketHigh 0 = .ok (.aload_n 0, 1) := by decide +kernel
theorem dX5_wicketHigh_1 : decode cX5_wicketHigh 1 = .ok (.getfield 43, 3) := by decide +kernel
theorem dX5_wicketHigh_4 : decode cX5_wicketHigh 4 = .ok (.ireturn, 1) := by decide +kernel
theorem dX5_number_0 : decode cX5_number 0 = .ok (.iload_n 1, 1) := by decide +kernel
theorem dX5_number_1 : decode cX5_number 1 = .ok (.ifCond .lt 21, 3) := by decide +kernel
theorem dX5_number_4 : decode cX5_number 4 = .ok (.iload_n 1, 1) := by decide +kernel
theorem dX5_number_5 : decode cX5_number 5 = .ok (.aload_n 0, 1) := by decide +kernel
theorem dX5_number_6 : decode cX5_number 6 = .ok (.getfield 9, 3) := by decide +kernel
theorem dX5_number_9 : decode cX5_number 9 = .ok (.arraylength, 1) := by decide +kernel
theorem dX5_number_10 : decode cX5_number 10 = .ok (.if_icmp .ge 12, 3) := by decide +kernel
theorem dX5_number_13 : decode cX5_number 13 = .ok (.aload_n 0, 1) := by decide +kernel
theorem dX5_number_14 : decode cX5_number 14 = .ok (.getfield 9, 3) := by decide +kernel
theorem dX5_number_17 : decode cX5_number 17 = .ok (.iload_n 1, 1) := by decide +kernel
theorem dX5_number_18 : decode cX5_number 18 = .ok (.iaload, 1) := by decide +kernel
theorem dX5_number_19 : decode cX5_number 19 = .ok (.goto 4, 3) := by decide +kernel
theorem dX5_number_22 : decode cX5_number 22 = .ok (.iconst 0, 1) := by decide +kernel
theorem dX5_number_23 : decode cX5_number 23 = .ok (.ireturn, 1) := by decide +kernel
theorem dX5_paintedAt_0 : decode cX5_paintedAt 0 = .ok (.iconst (-1), 1) := by decide +kernel
theorem dX5_paintedAt_1 : decode cX5_paintedAt 1 = .ok (.istore_n 2, 1) := by decide +kernel
theorem dX5_paintedAt_2 : decode cX5_paintedAt 2 = .ok (.iconst 0, 1) := by decide +kernel
theorem dX5_paintedAt_3 : decode cX5_paintedAt 3 = .ok (.istore_n 3, 1) := by decide +kernel
theorem dX5_paintedAt_4 : decode cX5_paintedAt 4 = .ok (.iconst 0, 1) := by decide +kernel
theorem dX5_paintedAt_5 : decode cX5_paintedAt 5 = .ok (.istore 4, 2) := by decide +kernel
theorem dX5_paintedAt_7 : decode cX5_paintedAt 7 = .ok (.iload 4, 2) := by decide +kernel
theorem dX5_paintedAt_9 : decode cX5_paintedAt 9 = .ok (.aload_n 0, 1) := by decide +kernel
theorem dX5_paintedAt_10 : decode cX5_paintedAt 10 = .ok (.getfield 46, 3) := by decide +kernel
theorem dX5_paintedAt_13 : decode cX5_paintedAt 13 = .ok (.if_icmp .ge 58, 3) := by decide +kernel
theorem dX5_paintedAt_16 : decode cX5_paintedAt 16 = .ok (.iload 4, 2) := by decide +kernel
theorem dX5_paintedAt_18 : decode cX5_paintedAt 18 = .ok (.bipush 40, 2) := by decide +kernel
theorem dX5_paintedAt_20 : decode cX5_paintedAt 20 = .ok (.if_icmp .ge 51, 3) := by decide +kernel
theorem dX5_paintedAt_23 : decode cX5_paintedAt 23 = .ok (.aload_n 0, 1) := by decide +kernel
theorem dX5_paintedAt_24 : decode cX5_paintedAt 24 = .ok (.getfield 13, 3) := by decide +kernel
theorem dX5_paintedAt_27 : decode cX5_paintedAt 27 = .ok (.iload 4, 2) := by decide +kernel
theorem dX5_paintedAt_29 : decode cX5_paintedAt 29 = .ok (.iaload, 1) := by decide +kernel
theorem dX5_paintedAt_30 : decode cX5_paintedAt 30 = .ok (.iload_n 1, 1) := by decide +kernel
theorem dX5_paintedAt_31 : decode cX5_paintedAt 31 = .ok (.if_icmp .gt 34, 3) := by decide +kernel
theorem dX5_paintedAt_34 : decode cX5_paintedAt 34 = .ok (.iload_n 2, 1) := by decide +kernel
theorem dX5_paintedAt_35 : decode cX5_paintedAt 35 = .ok (.ifCond .lt 19, 3) := by decide +kernel
theorem dX5_paintedAt_38 : decode cX5_paintedAt 38 = .ok (.aload_n 0, 1) := by decide +kernel
theorem dX5_paintedAt_39 : decode cX5_paintedAt 39 = .ok (.getfield 13, 3) := by decide +kernel
theorem dX5_paintedAt_42 : decode cX5_paintedAt 42 = .ok (.iload 4, 2) := by decide +kernel
theorem dX5_paintedAt_44 : decode cX5_paintedAt 44 = .ok (.iaload, 1) := by decide +kernel
theorem dX5_paintedAt_45 : decode cX5_paintedAt 45 = .ok (.aload_n 0, 1) := by decide +kernel
theorem dX5_paintedAt_46 : decode cX5_paintedAt 46 = .ok (.getfield 13, 3) := by decide +kernel
theorem dX5_paintedAt_49 : decode cX5_paintedAt 49 = .ok (.iload_n 2, 1) := by decide +kernel
theorem dX5_paintedAt_50 : decode cX5_paintedAt 50 = .ok (.iaload, 1) := by decide +kernel
theorem dX5_paintedAt_51 : decode cX5_paintedAt 51 = .ok (.if_icmp .lt 14, 3) := by decide +kernel
theorem dX5_paintedAt_54 : decode cX5_paintedAt 54 = .ok (.iload 4, 2) := by decide +kernel
theorem dX5_paintedAt_56 : decode cX5_paintedAt 56 = .ok (.istore_n 2, 1) := by decide +kernel
theorem dX5_paintedAt_57 : decode cX5_paintedAt 57 = .ok (.aload_n 0, 1) := by decide +kernel
theorem dX5_paintedAt_58 : decode cX5_paintedAt 58 = .ok (.getfield 16, 3) := by decide +kernel
theorem dX5_paintedAt_61 : decode cX5_paintedAt 61 = .ok (.iload 4, 2) := by decide +kernel
theorem dX5_paintedAt_63 : decode cX5_paintedAt 63 = .ok (.iaload, 1) := by decide +kernel
theorem dX5_paintedAt_64 : decode cX5_paintedAt 64 = .ok (.istore_n 3, 1) := by decide +kernel
theorem dX5_paintedAt_65 : decode cX5_paintedAt 65 = .ok (.iinc 4 1, 3) := by decide +kernel
theorem dX5_paintedAt_68 : decode cX5_paintedAt 68 = .ok (.goto (-61), 3) := by decide +kernel
theorem dX5_paintedAt_71 : decode cX5_paintedAt 71 = .ok (.iload_n 3, 1) := by decide +kernel
theorem dX5_paintedAt_72 : decode cX5_paintedAt 72 = .ok (.ireturn, 1) := by decide +kernel
set_option maxRecDepth 20000 in
theorem ggX5_read_X5_reset : GoodIn wsX5_read wsX5_reset := goodIn_r _ [7, 8, 9, 10, 11, 2, 74, 75, 76, 77, 78, 79, 80, 81, 82, 83] (by decide +kernel) (by decide +kernel)
set_option maxRecDepth 20000 in
theorem gX5_read_X5_reset : GoodIn wsX5_read (wsV RX5 26 RX5 yX5_reset wsX5_reset) := goodIn_app (goodIn_of _ (by decide +kernel)) ggX5_read_X5_reset
set_option maxRecDepth 20000 in
theorem ggX5_read_X6_size : GoodIn wsX5_read wsX6_size := goodIn_r _ [16, 17, 84, 85, 86] (by decide +kernel) (by decide +kernel)
set_option maxRecDepth 20000 in
theorem gX5_read_X6_size : GoodIn wsX5_read (wsV RX5 51 RX6 yX6_size wsX6_size) := goodIn_app (goodIn_of _ (by decide +kernel)) ggX5_read_X6_size
set_option maxRecDepth 20000 in
theorem ggX5_read_X3_readFrom : GoodIn wsX5_read wsX3_readFrom := goodIn_r _ [22, 23, 24, 25, 26, 27, 15, 28, 17, 29, 30, 31, 21, 32, 33, 34, 35, 36, 37, 38, 39, 40, 41, 42, 43, 44, 45, 46, 47, 48, 49, 50, 51, 52, 53, 54, 55, 87, 88, 84, 85, 86] (by decide +kernel) (by decide +kernel)
set_option maxRecDepth 20000 in
theorem gX5_read_X3_readFrom : GoodIn wsX5_read (wsV RX5 55 RX3 yX3_readFrom wsX3_readFrom) := goodIn_app (goodIn_of _ (by decide +kernel)) ggX5_read_X3_readFrom
set_option maxRecDepth 20000 in
theorem ggX5_read_X5_take : GoodIn wsX5_read wsX5_take := goodIn_r _ [59, 1, 8, 11, 60, 61, 62, 63, 64, 65, 21, 66, 23, 67, 50, 51, 52, 38, 68, 69, 70, 6, 71, 10, 72, 73, 74, 75, 76, 77, 78, 79, 80, 81, 82, 83, 87, 88] (by decide +kernel) (by decide +kernel)
set_option maxRecDepth 20000 in
theorem gX5_read_X5_take : GoodIn wsX5_read (wsV RX5 59 RX5 yX5_take wsX5_take) := goodIn_app (goodIn_of _ (by decide +kernel)) ggX5_read_X5_take
theorem dX5_read_0 : decode cX5_read 0 = .ok (.aload_n 0, 1) := by decide +kernel
theorem dX5_read_1 : decode cX5_read 1 = .ok (.invokevirtual 26, 3) := by decide +kernel
theorem dX5_read_4 : decode cX5_read 4 = .ok (.iconst 0, 1) := by decide +kernel
theorem dX5_read_5 : decode cX5_read 5 = .ok (.istore_n 2, 1) := by decide +kernel
theorem dX5_read_6 : decode cX5_read 6 = .ok (.iconst 0, 1) := by decide +kernel
theorem dX5_read_7 : decode cX5_read 7 = .ok (.istore_n 3, 1) := by decide +kernel
theorem dX5_read_8 : decode cX5_read 8 = .ok (.iload_n 3, 1) := by decide +kernel
theorem dX5_read_9 : decode cX5_read 9 = .ok (.sipush 200, 3) := by decide +kernel
theorem dX5_read_12 : decode cX5_read 12 = .ok (.if_icmp .ge 45, 3) := by decide +kernel
theorem dX5_read_15 : decode cX5_read 15 = .ok (.iload_n 2, 1) := by decide +kernel
theorem dX5_read_16 : decode cX5_read 16 = .ok (.ifCond .lt 41, 3) := by decide +kernel
theorem dX5_read_19 : decode cX5_read 19 = .ok (.iload_n 2, 1) := by decide +kernel
theorem dX5_read_20 : decode cX5_read 20 = .ok (.aload_n 1, 1) := by decide +kernel
theorem dX5_read_21 : decode cX5_read 21 = .ok (.invokevirtual 51, 3) := by decide +kernel
theorem dX5_read_24 : decode cX5_read 24 = .ok (.if_icmp .ge 33, 3) := by decide +kernel
theorem dX5_read_27 : decode cX5_read 27 = .ok (.aload_n 0, 1) := by decide +kernel
theorem dX5_read_28 : decode cX5_read 28 = .ok (.getfield 22, 3) := by decide +kernel
theorem dX5_read_31 : decode cX5_read 31 = .ok (.aload_n 1, 1) := by decide +kernel
theorem dX5_read_32 : decode cX5_read 32 = .ok (.iload_n 2, 1) := by decide +kernel
theorem dX5_read_33 : decode cX5_read 33 = .ok (.invokevirtual 55, 3) := by decide +kernel
theorem dX5_read_36 : decode cX5_read 36 = .ok (.istore_n 2, 1) := by decide +kernel
theorem dX5_read_37 : decode cX5_read 37 = .ok (.aload_n 0, 1) := by decide +kernel
theorem dX5_read_38 : decode cX5_read 38 = .ok (.invokevirtual 59, 3) := by decide +kernel
theorem dX5_read_41 : decode cX5_read 41 = .ok (.aload_n 0, 1) := by decide +kernel
theorem dX5_read_42 : decode cX5_read 42 = .ok (.dup, 1) := by decide +kernel
theorem dX5_read_43 : decode cX5_read 43 = .ok (.getfield 29, 3) := by decide +kernel
theorem dX5_read_46 : decode cX5_read 46 = .ok (.iconst 1, 1) := by decide +kernel
theorem dX5_read_47 : decode cX5_read 47 = .ok (.iadd, 1) := by decide +kernel
theorem dX5_read_48 : decode cX5_read 48 = .ok (.putfield 29, 3) := by decide +kernel
theorem dX5_read_51 : decode cX5_read 51 = .ok (.iinc 3 1, 3) := by decide +kernel
theorem dX5_read_54 : decode cX5_read 54 = .ok (.goto (-46), 3) := by decide +kernel
theorem dX5_read_57 : decode cX5_read 57 = .ok (.return_, 1) := by decide +kernel
theorem dX5_reset_0 : decode cX5_reset 0 = .ok (.iconst 0, 1) := by decide +kernel
theorem dX5_reset_1 : decode cX5_reset 1 = .ok (.istore_n 1, 1) := by decide +kernel
theorem dX5_reset_2 : decode cX5_reset 2 = .ok (.iload_n 1, 1) := by decide +kernel
theorem dX5_reset_3 : decode cX5_reset 3 = .ok (.aload_n 0, 1) := by decide +kernel
theorem dX5_reset_4 : decode cX5_reset 4 = .ok (.getfield 9, 3) := by decide +kernel
theorem dX5_reset_7 : decode cX5_reset 7 = .ok (.arraylength, 1) := by decide +kernel
theorem dX5_reset_8 : decode cX5_reset 8 = .ok (.if_icmp .ge 28, 3) := by decide +kernel
theorem dX5_reset_11 : decode cX5_reset 11 = .ok (.iload_n 1, 1) := by decide +kernel
theorem dX5_reset_12 : decode cX5_reset 12 = .ok (.getstatic 62, 3) := by decide +kernel
theorem dX5_reset_15 : decode cX5_reset 15 = .ok (.arraylength, 1) := by decide +kernel
theorem dX5_reset_16 : decode cX5_reset 16 = .ok (.if_icmp .ge 20, 3) := by decide +kernel
theorem dX5_reset_19 : decode cX5_reset 19 = .ok (.aload_n 0, 1) := by decide +kernel
theorem dX5_reset_20 : decode cX5_reset 20 = .ok (.getfield 9, 3) := by decide +kernel
theorem dX5_reset_23 : decode cX5_reset 23 = .ok (.iload_n 1, 1) := by decide +kernel
theorem dX5_reset_24 : decode cX5_reset 24 = .ok (.getstatic 62, 3) := by decide +kernel
theorem dX5_reset_27 : decode cX5_reset 27 = .ok (.iload_n 1, 1) := by decide +kernel
theorem dX5_reset_28 : decode cX5_reset 28 = .ok (.iaload, 1) := by decide +kernel
theorem dX5_reset_29 : decode cX5_reset 29 = .ok (.iastore, 1) := by decide +kernel
theorem dX5_reset_30 : decode cX5_reset 30 = .ok (.iinc 1 1, 3) := by decide +kernel
theorem dX5_reset_33 : decode cX5_reset 33 = .ok (.goto (-31), 3) := by decide +kernel
theorem dX5_reset_36 : decode cX5_reset 36 = .ok (.aload_n 0, 1) := by decide +kernel
theorem dX5_reset_37 : decode cX5_reset 37 = .ok (.iconst 0, 1) := by decide +kernel
theorem dX5_reset_38 : decode cX5_reset 38 = .ok (.putfield 46, 3) := by decide +kernel
theorem dX5_reset_41 : decode cX5_reset 41 = .ok (.aload_n 0, 1) := by decide +kernel
theorem dX5_reset_42 : decode cX5_reset 42 = .ok (.iconst 0, 1) := by decide +kernel
theorem dX5_reset_43 : decode cX5_reset 43 = .ok (.putfield 33, 3) := by decide +kernel
theorem dX5_reset_46 : decode cX5_reset 46 = .ok (.aload_n 0, 1) := by decide +kernel
theorem dX5_reset_47 : decode cX5_reset 47 = .ok (.iconst 0, 1) := by decide +kernel
theorem dX5_reset_48 : decode cX5_reset 48 = .ok (.putfield 29, 3) := by decide +kernel
theorem dX5_reset_51 : decode cX5_reset 51 = .ok (.return_, 1) := by decide +kernel
set_option maxRecDepth 20000 in
theorem ggX5_take_X3_kind : GoodIn wsX5_take wsX3_kind := goodIn_r _ [11, 12, 36, 37] (by decide +kernel) (by decide +kernel)
set_option maxRecDepth 20000 in
theorem gX5_take_X3_kind : GoodIn wsX5_take (wsV RX5 65 RX3 yX3_kind wsX3_kind) := goodIn_app (goodIn_of _ (by decide +kernel)) ggX5_take_X3_kind
set_option maxRecDepth 20000 in
theorem ggX5_take_X3_number : GoodIn wsX5_take wsX3_number := goodIn_r _ [16, 17, 36, 37] (by decide +kernel) (by decide +kernel)
set_option maxRecDepth 20000 in
theorem gX5_take_X3_number : GoodIn wsX5_take (wsV RX5 68 RX3 yX3_number wsX3_number) := goodIn_app (goodIn_of _ (by decide +kernel)) ggX5_take_X3_number
set_option maxRecDepth 20000 in
theorem ggX5_take_X5_paint : GoodIn wsX5_take wsX5_paint := goodIn_r _ [22, 23, 24, 25, 26, 27, 28, 29, 30, 31, 32, 33, 34, 35] (by decide +kernel) (by decide +kernel)
set_option maxRecDepth 20000 in
theorem gX5_take_X5_paint : GoodIn wsX5_take (wsV RX5 72 RX5 yX5_paint wsX5_paint) := goodIn_app (goodIn_of _ (by decide +kernel)) ggX5_take_X5_paint
theorem dX5_take_0 : decode cX5_take 0 = .ok (.aload_n 0, 1) := by decide +kernel
theorem dX5_take_1 : decode cX5_take 1 = .ok (.getfield 22, 3) := by decide +kernel
theorem dX5_take_4 : decode cX5_take 4 = .ok (.invokevirtual 65, 3) := by decide +kernel
theorem dX5_take_7 : decode cX5_take 7 = .ok (.istore_n 1, 1) := by decide +kernel
theorem dX5_take_8 : decode cX5_take 8 = .ok (.iload_n 1, 1) := by decide +kernel
theorem dX5_take_9 : decode cX5_take 9 = .ok (.ifCond .lt 29, 3) := by decide +kernel
theorem dX5_take_12 : decode cX5_take 12 = .ok (.iload_n 1, 1) := by decide +kernel
theorem dX5_take_13 : decode cX5_take 13 = .ok (.aload_n 0, 1) := by decide +kernel
theorem dX5_take_14 : decode cX5_take 14 = .ok (.getfield 9, 3) := by decide +kernel
theorem dX5_take_17 : decode cX5_take 17 = .ok (.arraylength, 1) := by decide +kernel
theorem dX5_take_18 : decode cX5_take 18 = .ok (.if_icmp .ge 20, 3) := by decide +kernel
theorem dX5_take_21 : decode cX5_take 21 = .ok (.aload_n 0, 1) := by decide +kernel
theorem dX5_take_22 : decode cX5_take 22 = .ok (.getfield 9, 3) := by decide +kernel
theorem dX5_take_25 : decode cX5_take 25 = .ok (.iload_n 1, 1) := by decide +kernel
theorem dX5_take_26 : decode cX5_take 26 = .ok (.aload_n 0, 1) := by decide +kernel
theorem dX5_take_27 : decode cX5_take 27 = .ok (.getfield 22, 3) := by decide +kernel
theorem dX5_take_30 : decode cX5_take 30 = .ok (.iconst 0, 1) := by decide +kernel
theorem dX5_take_31 : decode cX5_take 31 = .ok (.invokevirtual 68, 3) := by decide +kernel
theorem dX5_take_34 : decode cX5_take 34 = .ok (.iastore, 1) := by decide +kernel
theorem dX5_take_35 : decode cX5_take 35 = .ok (.goto 73, 3) := by decide +kernel
theorem dX5_take_38 : decode cX5_take 38 = .ok (.iload_n 1, 1) := by decide +kernel
theorem dX5_take_39 : decode cX5_take 39 = .ok (.bipush 6, 2) := by decide +kernel
theorem dX5_take_41 : decode cX5_take 41 = .ok (.if_icmp .ne 26, 3) := by decide +kernel
theorem dX5_take_44 : decode cX5_take 44 = .ok (.aload_n 0, 1) := by decide +kernel
theorem dX5_take_45 : decode cX5_take 45 = .ok (.aload_n 0, 1) := by decide +kernel
theorem dX5_take_46 : decode cX5_take 46 = .ok (.getfield 22, 3) := by decide +kernel
theorem dX5_take_49 : decode cX5_take 49 = .ok (.iconst 0, 1) := by decide +kernel
theorem dX5_take_50 : decode cX5_take 50 = .ok (.invokevirtual 68, 3) := by decide +kernel
theorem dX5_take_53 : decode cX5_take 53 = .ok (.aload_n 0, 1) := by decide +kernel
theorem dX5_take_54 : decode cX5_take 54 = .ok (.getfield 22, 3) := by decide +kernel
theorem dX5_take_57 : decode cX5_take 57 = .ok (.iconst 1, 1) := by decide +kernel
theorem dX5_take_58 : decode cX5_take 58 = .ok (.invokevirtual 68, 3) := by decide +kernel
theorem dX5_take_61 : decode cX5_take 61 = .ok (.invokevirtual 72, 3) := by decide +kernel
theorem dX5_take_64 : decode cX5_take 64 = .ok (.goto 44, 3) := by decide +kernel
theorem dX5_take_67 : decode cX5_take 67 = .ok (.aload_n 0, 1) := by decide +kernel
theorem dX5_take_68 : decode cX5_take 68 = .ok (.iconst 1, 1) := by decide +kernel
theorem dX5_take_69 : decode cX5_take 69 = .ok (.putfield 33, 3) := by decide +kernel
theorem dX5_take_72 : decode cX5_take 72 = .ok (.aload_n 0, 1) := by decide +kernel
theorem dX5_take_73 : decode cX5_take 73 = .ok (.aload_n 0, 1) := by decide +kernel
theorem dX5_take_74 : decode cX5_take 74 = .ok (.getfield 22, 3) := by decide +kernel
theorem dX5_take_77 : decode cX5_take 77 = .ok (.iconst 0, 1) := by decide +kernel
theorem dX5_take_78 : decode cX5_take 78 = .ok (.invokevirtual 68, 3) := by decide +kernel
theorem dX5_take_81 : decode cX5_take 81 = .ok (.putfield 37, 3) := by decide +kernel
theorem dX5_take_84 : decode cX5_take 84 = .ok (.aload_n 0, 1) := by decide +kernel
theorem dX5_take_85 : decode cX5_take 85 = .ok (.aload_n 0, 1) := by decide +kernel
theorem dX5_take_86 : decode cX5_take 86 = .ok (.getfield 22, 3) := by decide +kernel
theorem dX5_take_89 : decode cX5_take 89 = .ok (.iconst 1, 1) := by decide +kernel
theorem dX5_take_90 : decode cX5_take 90 = .ok (.invokevirtual 68, 3) := by decide +kernel
theorem dX5_take_93 : decode cX5_take 93 = .ok (.putfield 40, 3) := by decide +kernel
theorem dX5_take_96 : decode cX5_take 96 = .ok (.aload_n 0, 1) := by decide +kernel
theorem dX5_take_97 : decode cX5_take 97 = .ok (.aload_n 0, 1) := by decide +kernel
theorem dX5_take_98 : decode cX5_take 98 = .ok (.getfield 22, 3) := by decide +kernel
theorem dX5_take_101 : decode cX5_take 101 = .ok (.iconst 2, 1) := by decide +kernel
theorem dX5_take_102 : decode cX5_take 102 = .ok (.invokevirtual 68, 3) := by decide +kernel
theorem dX5_take_105 : decode cX5_take 105 = .ok (.putfield 43, 3) := by decide +kernel
theorem dX5_take_108 : decode cX5_take 108 = .ok (.return_, 1) := by decide +kernel
theorem dX5_paint_0 : decode cX5_paint 0 = .ok (.aload_n 0, 1) := by decide +kernel
theorem dX5_paint_1 : decode cX5_paint 1 = .ok (.getfield 46, 3) := by decide +kernel
theorem dX5_paint_4 : decode cX5_paint 4 = .ok (.ifCond .lt 42, 3) := by decide +kernel
theorem dX5_paint_7 : decode cX5_paint 7 = .ok (.aload_n 0, 1) := by decide +kernel
theorem dX5_paint_8 : decode cX5_paint 8 = .ok (.getfield 46, 3) := by decide +kernel
theorem dX5_paint_11 : decode cX5_paint 11 = .ok (.bipush 40, 2) := by decide +kernel
theorem dX5_paint_13 : decode cX5_paint 13 = .ok (.if_icmp .ge 33, 3) := by decide +kernel
theorem dX5_paint_16 : decode cX5_paint 16 = .ok (.aload_n 0, 1) := by decide +kernel
theorem dX5_paint_17 : decode cX5_paint 17 = .ok (.getfield 13, 3) := by decide +kernel
theorem dX5_paint_20 : decode cX5_paint 20 = .ok (.aload_n 0, 1) := by decide +kernel
theorem dX5_paint_21 : decode cX5_paint 21 = .ok (.getfield 46, 3) := by decide +kernel
theorem dX5_paint_24 : decode cX5_paint 24 = .ok (.iload_n 1, 1) := by decide +kernel
theorem dX5_paint_25 : decode cX5_paint 25 = .ok (.iastore, 1) := by decide +kernel
theorem dX5_paint_26 : decode cX5_paint 26 = .ok (.aload_n 0, 1) := by decide +kernel
theorem dX5_paint_27 : decode cX5_paint 27 = .ok (.getfield 16, 3) := by decide +kernel
theorem dX5_paint_30 : decode cX5_paint 30 = .ok (.aload_n 0, 1) := by decide +kernel
theorem dX5_paint_31 : decode cX5_paint 31 = .ok (.getfield 46, 3) := by decide +kernel
theorem dX5_paint_34 : decode cX5_paint 34 = .ok (.iload_n 2, 1) := by decide +kernel
theorem dX5_paint_35 : decode cX5_paint 35 = .ok (.iastore, 1) := by decide +kernel
theorem dX5_paint_36 : decode cX5_paint 36 = .ok (.aload_n 0, 1) := by decide +kernel
theorem dX5_paint_37 : decode cX5_paint 37 = .ok (.dup, 1) := by decide +kernel
theorem dX5_paint_38 : decode cX5_paint 38 = .ok (.getfield 46, 3) := by decide +kernel
theorem dX5_paint_41 : decode cX5_paint 41 = .ok (.iconst 1, 1) := by decide +kernel
theorem dX5_paint_42 : decode cX5_paint 42 = .ok (.iadd, 1) := by decide +kernel
theorem dX5_paint_43 : decode cX5_paint 43 = .ok (.putfield 46, 3) := by decide +kernel
theorem dX5_paint_46 : decode cX5_paint 46 = .ok (.return_, 1) := by decide +kernel
set_option maxRecDepth 20000 in
theorem ggX6_init_X3_init : GoodIn wsX6_init wsX3_init := goodIn_r _ [11, 12, 2, 3, 4, 13, 17, 18] (by decide +kernel) (by decide +kernel)
set_option maxRecDepth 20000 in
theorem gX6_init_X3_init_n17 : GoodIn wsX6_init (wsX3_init) := ggX6_init_X3_init
theorem dX6_init_0 : decode cX6_init 0 = .ok (.aload_n 0, 1) := by decide +kernel
theorem dX6_init_1 : decode cX6_init 1 = .ok (.invokespecial 3, 3) := by decide +kernel
theorem dX6_init_4 : decode cX6_init 4 = .ok (.aload_n 0, 1) := by decide +kernel
theorem dX6_init_5 : decode cX6_init 5 = .ok (.sipush 200, 3) := by decide +kernel
theorem dX6_init_8 : decode cX6_init 8 = .ok (.newarray .int, 2) := by decide +kernel
theorem dX6_init_10 : decode cX6_init 10 = .ok (.putfield 11, 3) := by decide +kernel
theorem dX6_init_13 : decode cX6_init 13 = .ok (.aload_n 0, 1) := by decide +kernel
theorem dX6_init_14 : decode cX6_init 14 = .ok (.new 15, 3) := by decide +kernel
theorem dX6_init_17 : decode cX6_init 17 = .ok (.dup, 1) := by decide +kernel
theorem dX6_init_18 : decode cX6_init 18 = .ok (.invokespecial 17, 3) := by decide +kernel
theorem dX6_init_21 : decode cX6_init 21 = .ok (.putfield 18, 3) := by decide +kernel
theorem dX6_init_24 : decode cX6_init 24 = .ok (.return_, 1) := by decide +kernel
theorem dX6_size_0 : decode cX6_size 0 = .ok (.aload_n 0, 1) := by decide +kernel
theorem dX6_size_1 : decode cX6_size 1 = .ok (.getfield 22, 3) := by decide +kernel
theorem dX6_size_4 : decode cX6_size 4 = .ok (.ireturn, 1) := by decide +kernel
theorem dX6_byteAt_0 : decode cX6_byteAt 0 = .ok (.iload_n 1, 1) := by decide +kernel
theorem dX6_byteAt_1 : decode cX6_byteAt 1 = .ok (.ifCond .lt 29, 3) := by decide +kernel
theorem dX6_byteAt_4 : decode cX6_byteAt 4 = .ok (.iload_n 1, 1) := by decide +kernel
theorem dX6_byteAt_5 : decode cX6_byteAt 5 = .ok (.aload_n 0, 1) := by decide +kernel
theorem dX6_byteAt_6 : decode cX6_byteAt 6 = .ok (.getfield 22, 3) := by decide +kernel
theorem dX6_byteAt_9 : decode cX6_byteAt 9 = .ok (.if_icmp .ge 21, 3) := by decide +kernel
theorem dX6_byteAt_12 : decode cX6_byteAt 12 = .ok (.iload_n 1, 1) := by decide +kernel
theorem dX6_byteAt_13 : decode cX6_byteAt 13 = .ok (.aload_n 0, 1) := by decide +kernel
theorem dX6_byteAt_14 : decode cX6_byteAt 14 = .ok (.getfield 11, 3) := by decide +kernel
theorem dX6_byteAt_17 : decode cX6_byteAt 17 = .ok (.arraylength, 1) := by decide +kernel
theorem dX6_byteAt_18 : decode cX6_byteAt 18 = .ok (.if_icmp .ge 12, 3) := by decide +kernel
theorem dX6_byteAt_21 : decode cX6_byteAt 21 = .ok (.aload_n 0, 1) := by decide +kernel
theorem dX6_byteAt_22 : decode cX6_byteAt 22 = .ok (.getfield 11, 3) := by decide +kernel
theorem dX6_byteAt_25 : decode cX6_byteAt 25 = .ok (.iload_n 1, 1) := by decide +kernel
theorem dX6_byteAt_26 : decode cX6_byteAt 26 = .ok (.iaload, 1) := by decide +kernel
theorem dX6_byteAt_27 : decode cX6_byteAt 27 = .ok (.goto 4, 3) := by decide +kernel
theorem dX6_byteAt_30 : decode cX6_byteAt 30 = .ok (.iconst (-1), 1) := by decide +kernel
theorem dX6_byteAt_31 : decode cX6_byteAt 31 = .ok (.ireturn, 1) := by decide +kernel
theorem dX6_append_0 : decode cX6_append 0 = .ok (.aload_n 0, 1) := by decide +kernel
theorem dX6_append_1 : decode cX6_append 1 = .ok (.getfield 22, 3) := by decide +kernel
theorem dX6_append_4 : decode cX6_append 4 = .ok (.iload_n 1, 1) := by decide +kernel
theorem dX6_append_5 : decode cX6_append 5 = .ok (.iadd, 1) := by decide +kernel
theorem dX6_append_6 : decode cX6_append 6 = .ok (.sipush 200, 3) := by decide +kernel
theorem dX6_append_9 : decode cX6_append 9 = .ok (.if_icmp .le 6, 3) := by decide +kernel
theorem dX6_append_12 : decode cX6_append 12 = .ok (.bipush (-3), 2) := by decide +kernel
theorem dX6_append_14 : decode cX6_append 14 = .ok (.ireturn, 1) := by decide +kernel
theorem dX6_append_15 : decode cX6_append 15 = .ok (.bipush 8, 2) := by decide +kernel
theorem dX6_append_17 : decode cX6_append 17 = .ok (.iload_n 1, 1) := by decide +kernel
theorem dX6_append_18 : decode cX6_append 18 = .ok (.iconst 1, 1) := by decide +kernel
theorem dX6_append_19 : decode cX6_append 19 = .ok (.isub, 1) := by decide +kernel
theorem dX6_append_20 : decode cX6_append 20 = .ok (.imul, 1) := by decide +kernel
theorem dX6_append_21 : decode cX6_append 21 = .ok (.istore 4, 2) := by decide +kernel
theorem dX6_append_23 : decode cX6_append 23 = .ok (.iload 4, 2) := by decide +kernel
theorem dX6_append_25 : decode cX6_append 25 = .ok (.ifCond .lt 49, 3) := by decide +kernel
theorem dX6_append_28 : decode cX6_append 28 = .ok (.aload_n 0, 1) := by decide +kernel
theorem dX6_append_29 : decode cX6_append 29 = .ok (.getfield 22, 3) := by decide +kernel
theorem dX6_append_32 : decode cX6_append 32 = .ok (.aload_n 0, 1) := by decide +kernel
theorem dX6_append_33 : decode cX6_append 33 = .ok (.getfield 11, 3) := by decide +kernel
theorem dX6_append_36 : decode cX6_append 36 = .ok (.arraylength, 1) := by decide +kernel
theorem dX6_append_37 : decode cX6_append 37 = .ok (.if_icmp .ge 37, 3) := by decide +kernel
theorem dX6_append_40 : decode cX6_append 40 = .ok (.aload_n 0, 1) := by decide +kernel
theorem dX6_append_41 : decode cX6_append 41 = .ok (.getfield 11, 3) := by decide +kernel
theorem dX6_append_44 : decode cX6_append 44 = .ok (.aload_n 0, 1) := by decide +kernel
theorem dX6_append_45 : decode cX6_append 45 = .ok (.getfield 22, 3) := by decide +kernel
theorem dX6_append_48 : decode cX6_append 48 = .ok (.lload_n 2, 1) := by decide +kernel
theorem dX6_append_49 : decode cX6_append 49 = .ok (.iload 4, 2) := by decide +kernel
theorem dX6_append_51 : decode cX6_append 51 = .ok (.lushr, 1) := by decide +kernel
theorem dX6_append_52 : decode cX6_append 52 = .ok (.l2i, 1) := by decide +kernel
theorem dX6_append_53 : decode cX6_append 53 = .ok (.sipush 255, 3) := by decide +kernel
theorem dX6_append_56 : decode cX6_append 56 = .ok (.iand, 1) := by decide +kernel
theorem dX6_append_57 : decode cX6_append 57 = .ok (.iastore, 1) := by decide +kernel
theorem dX6_append_58 : decode cX6_append 58 = .ok (.aload_n 0, 1) := by decide +kernel
theorem dX6_append_59 : decode cX6_append 59 = .ok (.dup, 1) := by decide +kernel
theorem dX6_append_60 : decode cX6_append 60 = .ok (.getfield 22, 3) := by decide +kernel
theorem dX6_append_63 : decode cX6_append 63 = .ok (.iconst 1, 1) := by decide +kernel
theorem dX6_append_64 : decode cX6_append 64 = .ok (.iadd, 1) := by decide +kernel
theorem dX6_append_65 : decode cX6_append 65 = .ok (.putfield 22, 3) := by decide +kernel
theorem dX6_append_68 : decode cX6_append 68 = .ok (.iinc 4 (-8), 3) := by decide +kernel
theorem dX6_append_71 : decode cX6_append 71 = .ok (.goto (-48), 3) := by decide +kernel
theorem dX6_append_74 : decode cX6_append 74 = .ok (.aload_n 0, 1) := by decide +kernel
theorem dX6_append_75 : decode cX6_append 75 = .ok (.getfield 22, 3) := by decide +kernel
theorem dX6_append_78 : decode cX6_append 78 = .ok (.ireturn, 1) := by decide +kernel
theorem dX6_clear_0 : decode cX6_clear 0 = .ok (.aload_n 0, 1) := by decide +kernel
theorem dX6_clear_1 : decode cX6_clear 1 = .ok (.getfield 22, 3) := by decide +kernel
theorem dX6_clear_4 : decode cX6_clear 4 = .ok (.istore_n 1, 1) := by decide +kernel
theorem dX6_clear_5 : decode cX6_clear 5 = .ok (.aload_n 0, 1) := by decide +kernel
theorem dX6_clear_6 : decode cX6_clear 6 = .ok (.iconst 0, 1) := by decide +kernel
theorem dX6_clear_7 : decode cX6_clear 7 = .ok (.putfield 22, 3) := by decide +kernel
theorem dX6_clear_10 : decode cX6_clear 10 = .ok (.iload_n 1, 1) := by decide +kernel
theorem dX6_clear_11 : decode cX6_clear 11 = .ok (.ireturn, 1) := by decide +kernel
set_option maxRecDepth 20000 in
theorem ggX6_firstFault_X3_readFrom : GoodIn wsX6_firstFault wsX3_readFrom := goodIn_r _ [7, 8, 9, 10, 11, 12, 13, 14, 1, 15, 16, 17, 6, 18, 19, 20, 21, 22, 23, 24, 25, 26, 27, 28, 29, 30, 31, 32, 33, 34, 35, 36, 37, 38, 39, 40, 41, 45, 46, 42, 43, 44] (by decide +kernel) (by decide +kernel)
set_option maxRecDepth 20000 in
theorem gX6_firstFault_X3_readFrom : GoodIn wsX6_firstFault (wsV RX6 26 RX3 yX3_readFrom wsX3_readFrom) := goodIn_app (goodIn_of _ (by decide +kernel)) ggX6_firstFault_X3_readFrom
theorem dX6_firstFault_0 : decode cX6_firstFault 0 = .ok (.iconst 0, 1) := by decide +kernel
theorem dX6_firstFault_1 : decode cX6_firstFault 1 = .ok (.istore_n 1, 1) := by decide +kernel
theorem dX6_firstFault_2 : decode cX6_firstFault 2 = .ok (.iconst 0, 1) := by decide +kernel
theorem dX6_firstFault_3 : decode cX6_firstFault 3 = .ok (.istore_n 2, 1) := by decide +kernel
theorem dX6_firstFault_4 : decode cX6_firstFault 4 = .ok (.iload_n 2, 1) := by decide +kernel
theorem dX6_firstFault_5 : decode cX6_firstFault 5 = .ok (.sipush 200, 3) := by decide +kernel
theorem dX6_firstFault_8 : decode cX6_firstFault 8 = .ok (.if_icmp .ge 35, 3) := by decide +kernel
theorem dX6_firstFault_11 : decode cX6_firstFault 11 = .ok (.iload_n 1, 1) := by decide +kernel
theorem dX6_firstFault_12 : decode cX6_firstFault 12 = .ok (.aload_n 0, 1) := by decide +kernel
theorem dX6_firstFault_13 : decode cX6_firstFault 13 = .ok (.getfield 22, 3) := by decide +kernel
theorem dX6_firstFault_16 : decode cX6_firstFault 16 = .ok (.if_icmp .ge 27, 3) := by decide +kernel
theorem dX6_firstFault_19 : decode cX6_firstFault 19 = .ok (.aload_n 0, 1) := by decide +kernel
theorem dX6_firstFault_20 : decode cX6_firstFault 20 = .ok (.getfield 18, 3) := by decide +kernel
theorem dX6_firstFault_23 : decode cX6_firstFault 23 = .ok (.aload_n 0, 1) := by decide +kernel
theorem dX6_firstFault_24 : decode cX6_firstFault 24 = .ok (.iload_n 1, 1) := by decide +kernel
theorem dX6_firstFault_25 : decode cX6_firstFault 25 = .ok (.invokevirtual 26, 3) := by decide +kernel
theorem dX6_firstFault_28 : decode cX6_firstFault 28 = .ok (.istore_n 3, 1) := by decide +kernel
theorem dX6_firstFault_29 : decode cX6_firstFault 29 = .ok (.iload_n 3, 1) := by decide +kernel
theorem dX6_firstFault_30 : decode cX6_firstFault 30 = .ok (.ifCond .ge 5, 3) := by decide +kernel
theorem dX6_firstFault_33 : decode cX6_firstFault 33 = .ok (.iload_n 1, 1) := by decide +kernel
theorem dX6_firstFault_34 : decode cX6_firstFault 34 = .ok (.ireturn, 1) := by decide +kernel
theorem dX6_firstFault_35 : decode cX6_firstFault 35 = .ok (.iload_n 3, 1) := by decide +kernel
theorem dX6_firstFault_36 : decode cX6_firstFault 36 = .ok (.istore_n 1, 1) := by decide +kernel
theorem dX6_firstFault_37 : decode cX6_firstFault 37 = .ok (.iinc 2 1, 3) := by decide +kernel
theorem dX6_firstFault_40 : decode cX6_firstFault 40 = .ok (.goto (-36), 3) := by decide +kernel
theorem dX6_firstFault_43 : decode cX6_firstFault 43 = .ok (.bipush (-4), 2) := by decide +kernel
theorem dX6_firstFault_45 : decode cX6_firstFault 45 = .ok (.ireturn, 1) := by decide +kernel
theorem dX7_init_0 : decode cX7_init 0 = .ok (.aload_n 0, 1) := by decide +kernel
theorem dX7_init_1 : decode cX7_init 1 = .ok (.invokespecial 3, 3) := by decide +kernel
theorem dX7_init_4 : decode cX7_init 4 = .ok (.aload_n 0, 1) := by decide +kernel
theorem dX7_init_5 : decode cX7_init 5 = .ok (.sipush 189, 3) := by decide +kernel
theorem dX7_init_8 : decode cX7_init 8 = .ok (.newarray .int, 2) := by decide +kernel
theorem dX7_init_10 : decode cX7_init 10 = .ok (.putfield 9, 3) := by decide +kernel
theorem dX7_init_13 : decode cX7_init 13 = .ok (.aload_n 0, 1) := by decide +kernel
theorem dX7_init_14 : decode cX7_init 14 = .ok (.sipush 756, 3) := by decide +kernel
theorem dX7_init_17 : decode cX7_init 17 = .ok (.newarray .int, 2) := by decide +kernel
theorem dX7_init_19 : decode cX7_init 19 = .ok (.putfield 15, 3) := by decide +kernel
theorem dX7_init_22 : decode cX7_init 22 = .ok (.aload_n 0, 1) := by decide +kernel
theorem dX7_init_23 : decode cX7_init 23 = .ok (.aload_n 1, 1) := by decide +kernel
theorem dX7_init_24 : decode cX7_init 24 = .ok (.putfield 18, 3) := by decide +kernel
theorem dX7_init_27 : decode cX7_init 27 = .ok (.aload_n 0, 1) := by decide +kernel
theorem dX7_init_28 : decode cX7_init 28 = .ok (.aload_n 2, 1) := by decide +kernel
theorem dX7_init_29 : decode cX7_init 29 = .ok (.putfield 22, 3) := by decide +kernel
theorem dX7_init_32 : decode cX7_init 32 = .ok (.aload_n 0, 1) := by decide +kernel
theorem dX7_init_33 : decode cX7_init 33 = .ok (.aload_n 3, 1) := by decide +kernel
theorem dX7_init_34 : decode cX7_init 34 = .ok (.putfield 26, 3) := by decide +kernel
theorem dX7_init_37 : decode cX7_init 37 = .ok (.return_, 1) := by decide +kernel
theorem dX7_forget_0 : decode cX7_forget 0 = .ok (.aload_n 0, 1) := by decide +kernel
theorem dX7_forget_1 : decode cX7_forget 1 = .ok (.iconst 0, 1) := by decide +kernel
theorem dX7_forget_2 : decode cX7_forget 2 = .ok (.putfield 29, 3) := by decide +kernel
theorem dX7_forget_5 : decode cX7_forget 5 = .ok (.aload_n 0, 1) := by decide +kernel
theorem dX7_forget_6 : decode cX7_forget 6 = .ok (.iconst 1, 1) := by decide +kernel
theorem dX7_forget_7 : decode cX7_forget 7 = .ok (.putfield 33, 3) := by decide +kernel
theorem dX7_forget_10 : decode cX7_forget 10 = .ok (.return_, 1) := by decide +kernel
set_option maxRecDepth 20000 in
theorem ggX7_learn_X2_fly : GoodIn wsX7_learn wsX2_fly := goodIn_r _ [11, 12, 13, 14, 15, 16, 17, 18, 19, 20, 21, 22, 23, 24, 25, 26, 27, 28, 29, 30, 10, 31, 32, 33, 34, 35, 36, 37, 38, 39, 40, 41, 42, 43, 44, 45, 46, 47, 48, 49, 185, 186, 187, 188, 189, 190, 191, 192, 193, 194, 195, 196, 197, 198, 199, 200, 201, 202, 203, 204, 205, 206, 207, 208, 209, 210, 211, 212, 213] (by decide +kernel) (by decide +kernel)
set_option maxRecDepth 20000 in
theorem gX7_learn_X2_fly : GoodIn wsX7_learn (wsV RX7 37 RX2 yX2_fly wsX2_fly) := goodIn_app (goodIn_of _ (by decide +kernel)) ggX7_learn_X2_fly
set_option maxRecDepth 20000 in
theorem ggX7_learn_J7_fill_53178 : GoodIn wsX7_learn wsJ7_fill_53178 := goodIn_r _ [53] (by decide +kernel) (by decide +kernel)
set_option maxRecDepth 20000 in
theorem gX7_learn_J7_fill_53178 : GoodIn wsX7_learn (va_wsS RX7 42 yJ7_fill_53178 wsJ7_fill_53178) := goodIn_app (goodIn_of _ (by decide +kernel)) ggX7_learn_J7_fill_53178
set_option maxRecDepth 20000 in
theorem ggX7_learn_X8_sightCount : GoodIn wsX7_learn wsX8_sightCount := goodIn_r _ [57, 58, 210, 211, 212, 213] (by decide +kernel) (by decide +kernel)
set_option maxRecDepth 20000 in
theorem gX7_learn_X8_sightCount : GoodIn wsX7_learn (wsV RX7 48 RX8 yX8_sightCount wsX8_sightCount) := goodIn_app (goodIn_of _ (by decide +kernel)) ggX7_learn_X8_sightCount
set_option maxRecDepth 20000 in
theorem ggX7_learn_X7_lastUnknownTick : GoodIn wsX7_learn wsX7_lastUnknownTick := goodIn_r _ [63, 5, 6, 64, 65, 66, 67, 54, 55, 56, 25, 57, 58, 68, 69, 70, 71, 72, 73, 74, 75, 76, 77, 78, 79, 80, 178, 179, 180, 181, 182, 183, 184, 210, 211, 212, 213] (by decide +kernel) (by decide +kernel)
set_option maxRecDepth 20000 in
theorem gX7_learn_X7_lastUnknownTick : GoodIn wsX7_learn (wsV RX7 54 RX7 yX7_lastUnknownTick wsX7_lastUnknownTick) := goodIn_app (goodIn_of _ (by decide +kernel)) ggX7_learn_X7_lastUnknownTick
set_option maxRecDepth 20000 in
theorem ggX7_learn_X7_needsTouch : GoodIn wsX7_learn wsX7_needsTouch := goodIn_r _ [84, 5, 6, 54, 55, 56, 25, 57, 58, 68, 69, 70, 71, 72, 73, 74, 75, 76, 178, 179, 180, 181, 182, 183, 184, 210, 211, 212, 213] (by decide +kernel) (by decide +kernel)
set_option maxRecDepth 20000 in
theorem gX7_learn_X7_needsTouch : GoodIn wsX7_learn (wsV RX7 57 RX7 yX7_needsTouch wsX7_needsTouch) := goodIn_app (goodIn_of _ (by decide +kernel)) ggX7_learn_X7_needsTouch
set_option maxRecDepth 20000 in
theorem ggX7_learn_X2_touches : GoodIn wsX7_learn wsX2_touches := goodIn_r _ [88, 13, 185, 186, 187, 188, 189, 190, 191, 192, 193, 194, 195, 196, 197, 198, 199] (by decide +kernel) (by decide +kernel)
set_option maxRecDepth 20000 in
theorem gX7_learn_X2_touches : GoodIn wsX7_learn (wsV RX7 61 RX2 yX2_touches wsX2_touches) := goodIn_app (goodIn_of _ (by decide +kernel)) ggX7_learn_X2_touches
set_option maxRecDepth 20000 in
theorem ggX7_learn_X2_knowTouchYs : GoodIn wsX7_learn wsX2_knowTouchYs := goodIn_r _ [92, 93, 94, 95, 96, 97, 10, 98, 13, 99, 100, 101, 102, 103, 15, 14, 104, 22, 23, 24, 25, 26, 27, 16, 17, 18, 19, 20, 21, 105, 106, 107, 185, 186, 187, 188, 189, 190, 191, 192, 193, 194, 195, 196, 197, 198, 199, 210, 211, 212, 213, 200, 201, 202, 203, 204, 205, 206, 207, 208, 209] (by decide +kernel) (by decide +kernel)
set_option maxRecDepth 20000 in
theorem gX7_learn_X2_knowTouchYs : GoodIn wsX7_learn (wsV RX7 64 RX2 yX2_knowTouchYs wsX2_knowTouchYs) := goodIn_app (goodIn_of _ (by decide +kernel)) ggX7_learn_X2_knowTouchYs
set_option maxRecDepth 20000 in
theorem ggX7_learn_X2_runSide : GoodIn wsX7_learn wsX2_runSide := goodIn_r _ [103, 15, 14, 99, 104, 22, 23, 24, 25, 26, 27, 16, 17, 18, 19, 20, 21, 185, 186, 187, 188, 189, 190, 191, 192, 193, 194, 195, 196, 197, 198, 199, 210, 211, 212, 213, 200, 201, 202, 203, 204, 205, 206, 207, 208, 209] (by decide +kernel) (by decide +kernel)
set_option maxRecDepth 20000 in
theorem gX7_learn_X2_runSide : GoodIn wsX7_learn (wsV RX7 67 RX2 yX2_runSide wsX2_runSide) := goodIn_app (goodIn_of _ (by decide +kernel)) ggX7_learn_X2_runSide
set_option maxRecDepth 20000 in
theorem ggX7_learn_X7_compare : GoodIn wsX7_learn wsX7_compare := goodIn_r _ [112, 113, 6, 114, 115, 66, 116, 3, 68, 69, 70, 25, 71, 72, 73, 74, 75, 58, 76, 117, 118, 119, 120, 77, 78, 79, 80, 121, 122, 123, 62, 124, 125, 1, 126, 127, 128, 10, 129, 32, 105, 106, 107, 130, 131, 132, 133, 99, 134, 135, 136, 137, 33, 138, 139, 140, 141, 142, 143, 144, 145, 4, 146, 147, 148, 149, 150, 151, 152, 153, 64, 65, 67, 154, 155, 156, 157, 40, 158, 159, 160, 161, 94, 162, 163, 164, 165, 166, 167, 168, 169, 170, 171, 172, 173, 13, 174, 175, 176, 177, 178, 179, 180, 181, 182, 183, 184, 210, 211, 212, 213, 185, 186, 187, 188, 189, 190, 191, 192, 193, 194, 195, 196, 197, 198, 199] (by decide +kernel) (by decide +kernel)
set_option maxRecDepth 20000 in
theorem gX7_learn_X7_compare : GoodIn wsX7_learn (wsV RX7 71 RX7 yX7_compare wsX7_compare) := goodIn_app (goodIn_of _ (by decide +kernel)) ggX7_learn_X7_compare
theorem dX7_learn_0 : decode cX7_learn 0 = .ok (.aload_n 0, 1) := by decide +kernel
theorem dX7_learn_1 : decode cX7_learn 1 = .ok (.getfield 22, 3) := by decide +kernel
theorem dX7_learn_4 : decode cX7_learn 4 = .ok (.invokevirtual 37, 3) := by decide +kernel
theorem dX7_learn_7 : decode cX7_learn 7 = .ok (.aload_n 0, 1) := by decide +kernel
theorem dX7_learn_8 : decode cX7_learn 8 = .ok (.getfield 33, 3) := by decide +kernel
theorem dX7_learn_11 : decode cX7_learn 11 = .ok (.ifCond .eq 24, 3) := by decide +kernel
theorem dX7_learn_14 : decode cX7_learn 14 = .ok (.aload_n 0, 1) := by decide +kernel
theorem dX7_learn_15 : decode cX7_learn 15 = .ok (.getfield 9, 3) := by decide +kernel
theorem dX7_learn_18 : decode cX7_learn 18 = .ok (.iconst 0, 1) := by decide +kernel
theorem dX7_learn_19 : decode cX7_learn 19 = .ok (.invokestatic 42, 3) := by decide +kernel
theorem dX7_learn_22 : decode cX7_learn 22 = .ok (.aload_n 0, 1) := by decide +kernel
theorem dX7_learn_23 : decode cX7_learn 23 = .ok (.getfield 15, 3) := by decide +kernel
theorem dX7_learn_26 : decode cX7_learn 26 = .ok (.iconst 0, 1) := by decide +kernel
theorem dX7_learn_27 : decode cX7_learn 27 = .ok (.invokestatic 42, 3) := by decide +kernel
theorem dX7_learn_30 : decode cX7_learn 30 = .ok (.aload_n 0, 1) := by decide +kernel
theorem dX7_learn_31 : decode cX7_learn 31 = .ok (.iconst 0, 1) := by decide +kernel
theorem dX7_learn_32 : decode cX7_learn 32 = .ok (.putfield 33, 3) := by decide +kernel
theorem dX7_learn_35 : decode cX7_learn 35 = .ok (.aload_n 0, 1) := by decide +kernel
theorem dX7_learn_36 : decode cX7_learn 36 = .ok (.getfield 29, 3) := by decide +kernel
theorem dX7_learn_39 : decode cX7_learn 39 = .ok (.aload_n 0, 1) := by decide +kernel
theorem dX7_learn_40 : decode cX7_learn 40 = .ok (.getfield 18, 3) := by decide +kernel
theorem dX7_learn_43 : decode cX7_learn 43 = .ok (.invokevirtual 48, 3) := by decide +kernel
theorem dX7_learn_46 : decode cX7_learn 46 = .ok (.if_icmp .lt 4, 3) := by decide +kernel
theorem dX7_learn_49 : decode cX7_learn 49 = .ok (.return_, 1) := by decide +kernel
theorem dX7_learn_50 : decode cX7_learn 50 = .ok (.aload_n 0, 1) := by decide +kernel
theorem dX7_learn_51 : decode cX7_learn 51 = .ok (.invokevirtual 54, 3) := by decide +kernel
theorem dX7_learn_54 : decode cX7_learn 54 = .ok (.istore_n 1, 1) := by decide +kernel
theorem dX7_learn_55 : decode cX7_learn 55 = .ok (.aload_n 0, 1) := by decide +kernel
theorem dX7_learn_56 : decode cX7_learn 56 = .ok (.invokevirtual 57, 3) := by decide +kernel
theorem dX7_learn_59 : decode cX7_learn 59 = .ok (.ifCond .eq 17, 3) := by decide +kernel
theorem dX7_learn_62 : decode cX7_learn 62 = .ok (.aload_n 0, 1) := by decide +kernel
theorem dX7_learn_63 : decode cX7_learn 63 = .ok (.getfield 22, 3) := by decide +kernel
theorem dX7_learn_66 : decode cX7_learn 66 = .ok (.invokevirtual 61, 3) := by decide +kernel
theorem dX7_learn_69 : decode cX7_learn 69 = .ok (.ifCond .eq 7, 3) := by decide +kernel
theorem dX7_learn_72 : decode cX7_learn 72 = .ok (.iconst 1, 1) := by decide +kernel
theorem dX7_learn_73 : decode cX7_learn 73 = .ok (.goto 4, 3) := by decide +kernel
theorem dX7_learn_76 : decode cX7_learn 76 = .ok (.iconst 0, 1) := by decide +kernel
theorem dX7_learn_77 : decode cX7_learn 77 = .ok (.istore_n 2, 1) := by decide +kernel
theorem dX7_learn_78 : decode cX7_learn 78 = .ok (.iload_n 2, 1) := by decide +kernel
theorem dX7_learn_79 : decode cX7_learn 79 = .ok (.ifCond .eq 10, 3) := by decide +kernel
theorem dX7_learn_82 : decode cX7_learn 82 = .ok (.aload_n 0, 1) := by decide +kernel
theorem dX7_learn_83 : decode cX7_learn 83 = .ok (.getfield 22, 3) := by decide +kernel
theorem dX7_learn_86 : decode cX7_learn 86 = .ok (.invokevirtual 64, 3) := by decide +kernel
theorem dX7_learn_89 : decode cX7_learn 89 = .ok (.iconst 0, 1) := by decide +kernel
theorem dX7_learn_90 : decode cX7_learn 90 = .ok (.istore_n 3, 1) := by decide +kernel
theorem dX7_learn_91 : decode cX7_learn 91 = .ok (.iload_n 3, 1) := by decide +kernel
theorem dX7_learn_92 : decode cX7_learn 92 = .ok (.sipush 189, 3) := by decide +kernel
theorem dX7_learn_95 : decode cX7_learn 95 = .ok (.if_icmp .ge 50, 3) := by decide +kernel
theorem dX7_learn_98 : decode cX7_learn 98 = .ok (.aload_n 0, 1) := by decide +kernel
theorem dX7_learn_99 : decode cX7_learn 99 = .ok (.getfield 22, 3) := by decide +kernel
theorem dX7_learn_102 : decode cX7_learn 102 = .ok (.iload_n 3, 1) := by decide +kernel
theorem dX7_learn_103 : decode cX7_learn 103 = .ok (.iload_n 1, 1) := by decide +kernel
theorem dX7_learn_104 : decode cX7_learn 104 = .ok (.invokevirtual 67, 3) := by decide +kernel
theorem dX7_learn_107 : decode cX7_learn 107 = .ok (.aload_n 0, 1) := by decide +kernel
theorem dX7_learn_108 : decode cX7_learn 108 = .ok (.getfield 29, 3) := by decide +kernel
theorem dX7_learn_111 : decode cX7_learn 111 = .ok (.istore 4, 2) := by decide +kernel
theorem dX7_learn_113 : decode cX7_learn 113 = .ok (.iload 4, 2) := by decide +kernel
theorem dX7_learn_115 : decode cX7_learn 115 = .ok (.aload_n 0, 1) := by decide +kernel
theorem dX7_learn_116 : decode cX7_learn 116 = .ok (.getfield 18, 3) := by decide +kernel
theorem dX7_learn_119 : decode cX7_learn 119 = .ok (.invokevirtual 48, 3) := by decide +kernel
theorem dX7_learn_122 : decode cX7_learn 122 = .ok (.if_icmp .ge 17, 3) := by decide +kernel
theorem dX7_learn_125 : decode cX7_learn 125 = .ok (.aload_n 0, 1) := by decide +kernel
theorem dX7_learn_126 : decode cX7_learn 126 = .ok (.iload_n 3, 1) := by decide +kernel
theorem dX7_learn_127 : decode cX7_learn 127 = .ok (.iload 4, 2) := by decide +kernel
theorem dX7_learn_129 : decode cX7_learn 129 = .ok (.iload_n 2, 1) := by decide +kernel
theorem dX7_learn_130 : decode cX7_learn 130 = .ok (.invokevirtual 71, 3) := by decide +kernel
theorem dX7_learn_133 : decode cX7_learn 133 = .ok (.iinc 4 1, 3) := by decide +kernel
theorem dX7_learn_136 : decode cX7_learn 136 = .ok (.goto (-23), 3) := by decide +kernel
theorem dX7_learn_139 : decode cX7_learn 139 = .ok (.iinc 3 1, 3) := by decide +kernel
theorem dX7_learn_142 : decode cX7_learn 142 = .ok (.goto (-51), 3) := by decide +kernel
theorem dX7_learn_145 : decode cX7_learn 145 = .ok (.aload_n 0, 1) := by decide +kernel
theorem dX7_learn_146 : decode cX7_learn 146 = .ok (.aload_n 0, 1) := by decide +kernel
theorem dX7_learn_147 : decode cX7_learn 147 = .ok (.getfield 18, 3) := by decide +kernel
theorem dX7_learn_150 : decode cX7_learn 150 = .ok (.invokevirtual 48, 3) := by decide +kernel
theorem dX7_learn_153 : decode cX7_learn 153 = .ok (.putfield 29, 3) := by decide +kernel
theorem dX7_learn_156 : decode cX7_learn 156 = .ok (.return_, 1) := by decide +kernel
theorem dX7_agrees_0 : decode cX7_agrees 0 = .ok (.iload_n 1, 1) := by decide +kernel
theorem dX7_agrees_1 : decode cX7_agrees 1 = .ok (.ifCond .lt 28, 3) := by decide +kernel
theorem dX7_agrees_4 : decode cX7_agrees 4 = .ok (.iload_n 1, 1) := by decide +kernel
theorem dX7_agrees_5 : decode cX7_agrees 5 = .ok (.aload_n 0, 1) := by decide +kernel
theorem dX7_agrees_6 : decode cX7_agrees 6 = .ok (.getfield 9, 3) := by decide +kernel
theorem dX7_agrees_9 : decode cX7_agrees 9 = .ok (.arraylength, 1) := by decide +kernel
theorem dX7_agrees_10 : decode cX7_agrees 10 = .ok (.if_icmp .ge 19, 3) := by decide +kernel
theorem dX7_agrees_13 : decode cX7_agrees 13 = .ok (.aload_n 0, 1) := by decide +kernel
theorem dX7_agrees_14 : decode cX7_agrees 14 = .ok (.getfield 9, 3) := by decide +kernel
theorem dX7_agrees_17 : decode cX7_agrees 17 = .ok (.iload_n 1, 1) := by decide +kernel
theorem dX7_agrees_18 : decode cX7_agrees 18 = .ok (.iaload, 1) := by decide +kernel
theorem dX7_agrees_19 : decode cX7_agrees 19 = .ok (.iload_n 2, 1) := by decide +kernel
theorem dX7_agrees_20 : decode cX7_agrees 20 = .ok (.iand, 1) := by decide +kernel
theorem dX7_agrees_21 : decode cX7_agrees 21 = .ok (.iload_n 2, 1) := by decide +kernel
theorem dX7_agrees_22 : decode cX7_agrees 22 = .ok (.if_icmp .ne 7, 3) := by decide +kernel
theorem dX7_agrees_25 : decode cX7_agrees 25 = .ok (.iconst 1, 1) := by decide +kernel
theorem dX7_agrees_26 : decode cX7_agrees 26 = .ok (.goto 4, 3) := by decide +kernel
theorem dX7_agrees_29 : decode cX7_agrees 29 = .ok (.iconst 0, 1) := by decide +kernel
theorem dX7_agrees_30 : decode cX7_agrees 30 = .ok (.ireturn, 1) := by decide +kernel
set_option maxRecDepth 20000 in
theorem ggX7_agreeing_X7_agrees : GoodIn wsX7_agreeing wsX7_agrees := goodIn_r _ [5, 6, 7, 8, 9, 10, 11, 12, 13] (by decide +kernel) (by decide +kernel)
set_option maxRecDepth 20000 in
theorem gX7_agreeing_X7_agrees : GoodIn wsX7_agreeing (wsV RX7 75 RX7 yX7_agrees wsX7_agrees) := goodIn_app (goodIn_of _ (by decide +kernel)) ggX7_agreeing_X7_agrees
theorem dX7_agreeing_0 : decode cX7_agreeing 0 = .ok (.iconst 0, 1) := by decide +kernel
theorem dX7_agreeing_1 : decode cX7_agreeing 1 = .ok (.istore_n 2, 1) := by decide +kernel
theorem dX7_agreeing_2 : decode cX7_agreeing 2 = .ok (.iconst 0, 1) := by decide +kernel
theorem dX7_agreeing_3 : decode cX7_agreeing 3 = .ok (.istore_n 3, 1) := by decide +kernel
theorem dX7_agreeing_4 : decode cX7_agreeing 4 = .ok (.iload_n 3, 1) := by decide +kernel
theorem dX7_agreeing_5 : decode cX7_agreeing 5 = .ok (.sipush 189, 3) := by decide +kernel
theorem dX7_agreeing_8 : decode cX7_agreeing 8 = .ok (.if_icmp .ge 26, 3) := by decide +kernel
theorem dX7_agreeing_11 : decode cX7_agreeing 11 = .ok (.iload_n 2, 1) := by decide +kernel
theorem dX7_agreeing_12 : decode cX7_agreeing 12 = .ok (.aload_n 0, 1) := by decide +kernel
theorem dX7_agreeing_13 : decode cX7_agreeing 13 = .ok (.iload_n 3, 1) := by decide +kernel
theorem dX7_agreeing_14 : decode cX7_agreeing 14 = .ok (.iload_n 1, 1) := by decide +kernel
theorem dX7_agreeing_15 : decode cX7_agreeing 15 = .ok (.invokevirtual 75, 3) := by decide +kernel
theorem dX7_agreeing_18 : decode cX7_agreeing 18 = .ok (.ifCond .eq 7, 3) := by decide +kernel
theorem dX7_agreeing_21 : decode cX7_agreeing 21 = .ok (.iconst 1, 1) := by decide +kernel
theorem dX7_agreeing_22 : decode cX7_agreeing 22 = .ok (.goto 4, 3) := by decide +kernel
theorem dX7_agreeing_25 : decode cX7_agreeing 25 = .ok (.iconst 0, 1) := by decide +kernel
theorem dX7_agreeing_26 : decode cX7_agreeing 26 = .ok (.iadd, 1) := by decide +kernel
theorem dX7_agreeing_27 : decode cX7_agreeing 27 = .ok (.istore_n 2, 1) := by decide +kernel
theorem dX7_agreeing_28 : decode cX7_agreeing 28 = .ok (.iinc 3 1, 3) := by decide +kernel
theorem dX7_agreeing_31 : decode cX7_agreeing 31 = .ok (.goto (-27), 3) := by decide +kernel
theorem dX7_agreeing_34 : decode cX7_agreeing 34 = .ok (.iload_n 2, 1) := by decide +kernel
theorem dX7_agreeing_35 : decode cX7_agreeing 35 = .ok (.ireturn, 1) := by decide +kernel
set_option maxRecDepth 20000 in
theorem ggX7_agreeingAt_X7_agrees : GoodIn wsX7_agreeingAt wsX7_agrees := goodIn_r _ [5, 6, 7, 8, 9, 10, 11, 12, 13] (by decide +kernel) (by decide +kernel)
set_option maxRecDepth 20000 in
theorem gX7_agreeingAt_X7_agrees : GoodIn wsX7_agreeingAt (wsV RX7 75 RX7 yX7_agrees wsX7_agrees) := goodIn_app (goodIn_of _ (by decide +kernel)) ggX7_agreeingAt_X7_agrees
theorem dX7_agreeingAt_0 : decode cX7_agreeingAt 0 = .ok (.iconst 0, 1) := by decide +kernel
theorem dX7_agreeingAt_1 : decode cX7_agreeingAt 1 = .ok (.istore_n 3, 1) := by decide +kernel
theorem dX7_agreeingAt_2 : decode cX7_agreeingAt 2 = .ok (.iconst 0, 1) := by decide +kernel
theorem dX7_agreeingAt_3 : decode cX7_agreeingAt 3 = .ok (.istore 4, 2) := by decide +kernel
theorem dX7_agreeingAt_5 : decode cX7_agreeingAt 5 = .ok (.iload 4, 2) := by decide +kernel
theorem dX7_agreeingAt_7 : decode cX7_agreeingAt 7 = .ok (.sipush 189, 3) := by decide +kernel
theorem dX7_agreeingAt_10 : decode cX7_agreeingAt 10 = .ok (.if_icmp .ge 30, 3) := by decide +kernel
theorem dX7_agreeingAt_13 : decode cX7_agreeingAt 13 = .ok (.aload_n 0, 1) := by decide +kernel
theorem dX7_agreeingAt_14 : decode cX7_agreeingAt 14 = .ok (.iload 4, 2) := by decide +kernel
theorem dX7_agreeingAt_16 : decode cX7_agreeingAt 16 = .ok (.iload_n 1, 1) := by decide +kernel
theorem dX7_agreeingAt_17 : decode cX7_agreeingAt 17 = .ok (.invokevirtual 75, 3) := by decide +kernel
theorem dX7_agreeingAt_20 : decode cX7_agreeingAt 20 = .ok (.ifCond .eq 14, 3) := by decide +kernel
theorem dX7_agreeingAt_23 : decode cX7_agreeingAt 23 = .ok (.iload_n 3, 1) := by decide +kernel
theorem dX7_agreeingAt_24 : decode cX7_agreeingAt 24 = .ok (.iload_n 2, 1) := by decide +kernel
theorem dX7_agreeingAt_25 : decode cX7_agreeingAt 25 = .ok (.if_icmp .ne 6, 3) := by decide +kernel
theorem dX7_agreeingAt_28 : decode cX7_agreeingAt 28 = .ok (.iload 4, 2) := by decide +kernel
theorem dX7_agreeingAt_30 : decode cX7_agreeingAt 30 = .ok (.ireturn, 1) := by decide +kernel
theorem dX7_agreeingAt_31 : decode cX7_agreeingAt 31 = .ok (.iinc 3 1, 3) := by decide +kernel
theorem dX7_agreeingAt_34 : decode cX7_agreeingAt 34 = .ok (.iinc 4 1, 3) := by decide +kernel
theorem dX7_agreeingAt_37 : decode cX7_agreeingAt 37 = .ok (.goto (-32), 3) := by decide +kernel
theorem dX7_agreeingAt_40 : decode cX7_agreeingAt 40 = .ok (.bipush (-4), 2) := by decide +kernel
theorem dX7_agreeingAt_42 : decode cX7_agreeingAt 42 = .ok (.ireturn, 1) := by decide +kernel
set_option maxRecDepth 20000 in
theorem ggX7_agreeingOut_X2_knowTouchYs : GoodIn wsX7_agreeingOut wsX2_knowTouchYs := goodIn_r _ [6, 7, 8, 9, 10, 11, 5, 12, 13, 14, 15, 16, 17, 18, 19, 20, 21, 22, 23, 24, 25, 26, 27, 28, 29, 30, 31, 32, 33, 34, 35, 36, 64, 65, 66, 67, 68, 69, 70, 71, 72, 73, 74, 75, 76, 77, 78, 79, 80, 81, 82, 83, 84, 85, 86, 87, 88, 89, 90, 91, 92] (by decide +kernel) (by decide +kernel)
set_option maxRecDepth 20000 in
theorem gX7_agreeingOut_X2_knowTouchYs : GoodIn wsX7_agreeingOut (wsV RX7 64 RX2 yX2_knowTouchYs wsX2_knowTouchYs) := goodIn_app (goodIn_of _ (by decide +kernel)) ggX7_agreeingOut_X2_knowTouchYs
set_option maxRecDepth 20000 in
theorem ggX7_agreeingOut_X7_agrees : GoodIn wsX7_agreeingOut wsX7_agrees := goodIn_r _ [41, 42, 57, 58, 59, 60, 61, 62, 63] (by decide +kernel) (by decide +kernel)
set_option maxRecDepth 20000 in
theorem gX7_agreeingOut_X7_agrees : GoodIn wsX7_agreeingOut (wsV RX7 75 RX7 yX7_agrees wsX7_agrees) := goodIn_app (goodIn_of _ (by decide +kernel)) ggX7_agreeingOut_X7_agrees
set_option maxRecDepth 20000 in
theorem ggX7_agreeingOut_X2_knownTouchY : GoodIn wsX7_agreeingOut wsX2_knownTouchY := goodIn_r _ [46, 8, 64, 65, 66, 67, 68, 69, 70, 71, 72, 73, 74, 75, 76, 77, 78] (by decide +kernel) (by decide +kernel)
set_option maxRecDepth 20000 in
theorem gX7_agreeingOut_X2_knownTouchY : GoodIn wsX7_agreeingOut (wsV RX7 79 RX2 yX2_knownTouchY wsX2_knownTouchY) := goodIn_app (goodIn_of _ (by decide +kernel)) ggX7_agreeingOut_X2_knownTouchY
set_option maxRecDepth 20000 in
theorem ggX7_agreeingOut_X2_isOutWith : GoodIn wsX7_agreeingOut wsX2_isOutWith := goodIn_r _ [50, 51, 52, 53, 54, 55, 5, 56, 13, 64, 65, 66, 67, 68, 69, 70, 71, 72, 73, 74, 75, 76, 77, 78] (by decide +kernel) (by decide +kernel)
set_option maxRecDepth 20000 in
theorem gX7_agreeingOut_X2_isOutWith : GoodIn wsX7_agreeingOut (wsV RX7 83 RX2 yX2_isOutWith wsX2_isOutWith) := goodIn_app (goodIn_of _ (by decide +kernel)) ggX7_agreeingOut_X2_isOutWith
theorem dX7_agreeingOut_0 : decode cX7_agreeingOut 0 = .ok (.iconst 0, 1) := by decide +kernel
theorem dX7_agreeingOut_1 : decode cX7_agreeingOut 1 = .ok (.istore_n 2, 1) := by decide +kernel
theorem dX7_agreeingOut_2 : decode cX7_agreeingOut 2 = .ok (.aload_n 0, 1) := by decide +kernel
theorem dX7_agreeingOut_3 : decode cX7_agreeingOut 3 = .ok (.getfield 22, 3) := by decide +kernel
theorem dX7_agreeingOut_6 : decode cX7_agreeingOut 6 = .ok (.invokevirtual 64, 3) := by decide +kernel
theorem dX7_agreeingOut_9 : decode cX7_agreeingOut 9 = .ok (.iconst 0, 1) := by decide +kernel
theorem dX7_agreeingOut_10 : decode cX7_agreeingOut 10 = .ok (.istore_n 3, 1) := by decide +kernel
theorem dX7_agreeingOut_11 : decode cX7_agreeingOut 11 = .ok (.iload_n 3, 1) := by decide +kernel
theorem dX7_agreeingOut_12 : decode cX7_agreeingOut 12 = .ok (.sipush 189, 3) := by decide +kernel
theorem dX7_agreeingOut_15 : decode cX7_agreeingOut 15 = .ok (.if_icmp .ge 44, 3) := by decide +kernel
theorem dX7_agreeingOut_18 : decode cX7_agreeingOut 18 = .ok (.iload_n 2, 1) := by decide +kernel
theorem dX7_agreeingOut_19 : decode cX7_agreeingOut 19 = .ok (.aload_n 0, 1) := by decide +kernel
theorem dX7_agreeingOut_20 : decode cX7_agreeingOut 20 = .ok (.iload_n 3, 1) := by decide +kernel
theorem dX7_agreeingOut_21 : decode cX7_agreeingOut 21 = .ok (.iload_n 1, 1) := by decide +kernel
theorem dX7_agreeingOut_22 : decode cX7_agreeingOut 22 = .ok (.invokevirtual 75, 3) := by decide +kernel
theorem dX7_agreeingOut_25 : decode cX7_agreeingOut 25 = .ok (.ifCond .eq 25, 3) := by decide +kernel
theorem dX7_agreeingOut_28 : decode cX7_agreeingOut 28 = .ok (.aload_n 0, 1) := by decide +kernel
theorem dX7_agreeingOut_29 : decode cX7_agreeingOut 29 = .ok (.getfield 22, 3) := by decide +kernel
theorem dX7_agreeingOut_32 : decode cX7_agreeingOut 32 = .ok (.aload_n 0, 1) := by decide +kernel
theorem dX7_agreeingOut_33 : decode cX7_agreeingOut 33 = .ok (.getfield 22, 3) := by decide +kernel
theorem dX7_agreeingOut_36 : decode cX7_agreeingOut 36 = .ok (.iload_n 3, 1) := by decide +kernel
theorem dX7_agreeingOut_37 : decode cX7_agreeingOut 37 = .ok (.invokevirtual 79, 3) := by decide +kernel
theorem dX7_agreeingOut_40 : decode cX7_agreeingOut 40 = .ok (.invokevirtual 83, 3) := by decide +kernel
theorem dX7_agreeingOut_43 : decode cX7_agreeingOut 43 = .ok (.ifCond .eq 7, 3) := by decide +kernel
theorem dX7_agreeingOut_46 : decode cX7_agreeingOut 46 = .ok (.iconst 1, 1) := by decide +kernel
theorem dX7_agreeingOut_47 : decode cX7_agreeingOut 47 = .ok (.goto 4, 3) := by decide +kernel
theorem dX7_agreeingOut_50 : decode cX7_agreeingOut 50 = .ok (.iconst 0, 1) := by decide +kernel
theorem dX7_agreeingOut_51 : decode cX7_agreeingOut 51 = .ok (.iadd, 1) := by decide +kernel
theorem dX7_agreeingOut_52 : decode cX7_agreeingOut 52 = .ok (.istore_n 2, 1) := by decide +kernel
theorem dX7_agreeingOut_53 : decode cX7_agreeingOut 53 = .ok (.iinc 3 1, 3) := by decide +kernel
theorem dX7_agreeingOut_56 : decode cX7_agreeingOut 56 = .ok (.goto (-45), 3) := by decide +kernel
theorem dX7_agreeingOut_59 : decode cX7_agreeingOut 59 = .ok (.iload_n 2, 1) := by decide +kernel
theorem dX7_agreeingOut_60 : decode cX7_agreeingOut 60 = .ok (.ireturn, 1) := by decide +kernel
set_option maxRecDepth 20000 in
theorem ggX7_hitting_X5_wicketX : GoodIn wsX7_hitting wsX5_wicketX := goodIn_r _ [10, 11, 72, 73, 74, 75, 76, 77, 78, 79, 80, 81] (by decide +kernel) (by decide +kernel)
set_option maxRecDepth 20000 in
theorem gX7_hitting_X5_wicketX : GoodIn wsX7_hitting (wsV RX7 87 RX5 yX5_wicketX wsX5_wicketX) := goodIn_app (goodIn_of _ (by decide +kernel)) ggX7_hitting_X5_wicketX
set_option maxRecDepth 20000 in
theorem ggX7_hitting_X2_tickReaching : GoodIn wsX7_hitting wsX2_tickReaching := goodIn_r _ [16, 17, 18, 19, 15, 20, 82, 83, 84, 85, 86, 87, 88, 89, 90, 91, 92, 93, 94, 95, 96] (by decide +kernel) (by decide +kernel)
set_option maxRecDepth 20000 in
theorem gX7_hitting_X2_tickReaching : GoodIn wsX7_hitting (wsV RX7 92 RX2 yX2_tickReaching wsX2_tickReaching) := goodIn_app (goodIn_of _ (by decide +kernel)) ggX7_hitting_X2_tickReaching
set_option maxRecDepth 20000 in
theorem ggX7_hitting_X2_zAt : GoodIn wsX7_hitting wsX2_zAt := goodIn_r _ [24, 25, 18, 19, 15, 20, 82, 83, 84, 85, 86, 87, 88, 89, 90, 91, 92, 93, 94, 95, 96] (by decide +kernel) (by decide +kernel)
set_option maxRecDepth 20000 in
theorem gX7_hitting_X2_zAt : GoodIn wsX7_hitting (wsV RX7 95 RX2 yX2_zAt wsX2_zAt) := goodIn_app (goodIn_of _ (by decide +kernel)) ggX7_hitting_X2_zAt
set_option maxRecDepth 20000 in
theorem ggX7_hitting_X5_wicketHigh : GoodIn wsX7_hitting wsX5_wicketHigh := goodIn_r _ [29, 30, 72, 73, 74, 75, 76, 77, 78, 79, 80, 81] (by decide +kernel) (by decide +kernel)
set_option maxRecDepth 20000 in
theorem gX7_hitting_X5_wicketHigh : GoodIn wsX7_hitting (wsV RX7 98 RX5 yX5_wicketHigh wsX5_wicketHigh) := goodIn_app (goodIn_of _ (by decide +kernel)) ggX7_hitting_X5_wicketHigh
set_option maxRecDepth 20000 in
theorem ggX7_hitting_X7_agrees : GoodIn wsX7_hitting wsX7_agrees := goodIn_r _ [35, 36, 65, 66, 67, 68, 69, 70, 71] (by decide +kernel) (by decide +kernel)
set_option maxRecDepth 20000 in
theorem gX7_hitting_X7_agrees : GoodIn wsX7_hitting (wsV RX7 75 RX7 yX7_agrees wsX7_agrees) := goodIn_app (goodIn_of _ (by decide +kernel)) ggX7_hitting_X7_agrees
set_option maxRecDepth 20000 in
theorem ggX7_hitting_X2_runSide : GoodIn wsX7_hitting wsX2_runSide := goodIn_r _ [40, 41, 42, 43, 44, 45, 46, 47, 48, 49, 50, 51, 52, 53, 9, 54, 55, 82, 83, 84, 85, 86, 87, 88, 89, 90, 91, 92, 93, 94, 95, 96, 97, 98, 99, 100, 72, 73, 74, 75, 76, 77, 78, 79, 80, 81] (by decide +kernel) (by decide +kernel)
set_option maxRecDepth 20000 in
theorem gX7_hitting_X2_runSide : GoodIn wsX7_hitting (wsV RX7 67 RX2 yX2_runSide wsX2_runSide) := goodIn_app (goodIn_of _ (by decide +kernel)) ggX7_hitting_X2_runSide
set_option maxRecDepth 20000 in
theorem ggX7_hitting_X2_yAt : GoodIn wsX7_hitting wsX2_yAt := goodIn_r _ [59, 43, 18, 19, 15, 20, 82, 83, 84, 85, 86, 87, 88, 89, 90, 91, 92, 93, 94, 95, 96] (by decide +kernel) (by decide +kernel)
set_option maxRecDepth 20000 in
theorem gX7_hitting_X2_yAt : GoodIn wsX7_hitting (wsV RX7 101 RX2 yX2_yAt wsX2_yAt) := goodIn_app (goodIn_of _ (by decide +kernel)) ggX7_hitting_X2_yAt
set_option maxRecDepth 20000 in
theorem ggX7_hitting_X5_wicketSide : GoodIn wsX7_hitting wsX5_wicketSide := goodIn_r _ [63, 64, 72, 73, 74, 75, 76, 77, 78, 79, 80, 81] (by decide +kernel) (by decide +kernel)
set_option maxRecDepth 20000 in
theorem gX7_hitting_X5_wicketSide : GoodIn wsX7_hitting (wsV RX7 109 RX5 yX5_wicketSide wsX5_wicketSide) := goodIn_app (goodIn_of _ (by decide +kernel)) ggX7_hitting_X5_wicketSide
theorem dX7_hitting_0 : decode cX7_hitting 0 = .ok (.aload_n 0, 1) := by decide +kernel
theorem dX7_hitting_1 : decode cX7_hitting 1 = .ok (.getfield 22, 3) := by decide +kernel
theorem dX7_hitting_4 : decode cX7_hitting 4 = .ok (.aload_n 2, 1) := by decide +kernel
theorem dX7_hitting_5 : decode cX7_hitting 5 = .ok (.invokevirtual 87, 3) := by decide +kernel
theorem dX7_hitting_8 : decode cX7_hitting 8 = .ok (.invokevirtual 92, 3) := by decide +kernel
theorem dX7_hitting_11 : decode cX7_hitting 11 = .ok (.istore_n 3, 1) := by decide +kernel
theorem dX7_hitting_12 : decode cX7_hitting 12 = .ok (.iload_n 3, 1) := by decide +kernel
theorem dX7_hitting_13 : decode cX7_hitting 13 = .ok (.ifCond .eq 18, 3) := by decide +kernel
theorem dX7_hitting_16 : decode cX7_hitting 16 = .ok (.aload_n 0, 1) := by decide +kernel
theorem dX7_hitting_17 : decode cX7_hitting 17 = .ok (.getfield 22, 3) := by decide +kernel
theorem dX7_hitting_20 : decode cX7_hitting 20 = .ok (.iload_n 3, 1) := by decide +kernel
theorem dX7_hitting_21 : decode cX7_hitting 21 = .ok (.invokevirtual 95, 3) := by decide +kernel
theorem dX7_hitting_24 : decode cX7_hitting 24 = .ok (.aload_n 2, 1) := by decide +kernel
theorem dX7_hitting_25 : decode cX7_hitting 25 = .ok (.invokevirtual 98, 3) := by decide +kernel
theorem dX7_hitting_28 : decode cX7_hitting 28 = .ok (.if_icmp .le 5, 3) := by decide +kernel
theorem dX7_hitting_31 : decode cX7_hitting 31 = .ok (.iconst 0, 1) := by decide +kernel
theorem dX7_hitting_32 : decode cX7_hitting 32 = .ok (.ireturn, 1) := by decide +kernel
theorem dX7_hitting_33 : decode cX7_hitting 33 = .ok (.iconst 0, 1) := by decide +kernel
theorem dX7_hitting_34 : decode cX7_hitting 34 = .ok (.istore 4, 2) := by decide +kernel
theorem dX7_hitting_36 : decode cX7_hitting 36 = .ok (.iconst 0, 1) := by decide +kernel
theorem dX7_hitting_37 : decode cX7_hitting 37 = .ok (.istore 5, 2) := by decide +kernel
theorem dX7_hitting_39 : decode cX7_hitting 39 = .ok (.iload 5, 2) := by decide +kernel
theorem dX7_hitting_41 : decode cX7_hitting 41 = .ok (.sipush 189, 3) := by decide +kernel
theorem dX7_hitting_44 : decode cX7_hitting 44 = .ok (.if_icmp .ge 57, 3) := by decide +kernel
theorem dX7_hitting_47 : decode cX7_hitting 47 = .ok (.aload_n 0, 1) := by decide +kernel
theorem dX7_hitting_48 : decode cX7_hitting 48 = .ok (.iload 5, 2) := by decide +kernel
theorem dX7_hitting_50 : decode cX7_hitting 50 = .ok (.iload_n 1, 1) := by decide +kernel
theorem dX7_hitting_51 : decode cX7_hitting 51 = .ok (.invokevirtual 75, 3) := by decide +kernel
theorem dX7_hitting_54 : decode cX7_hitting 54 = .ok (.ifCond .eq 41, 3) := by decide +kernel
theorem dX7_hitting_57 : decode cX7_hitting 57 = .ok (.aload_n 0, 1) := by decide +kernel
theorem dX7_hitting_58 : decode cX7_hitting 58 = .ok (.getfield 22, 3) := by decide +kernel
theorem dX7_hitting_61 : decode cX7_hitting 61 = .ok (.iload 5, 2) := by decide +kernel
theorem dX7_hitting_63 : decode cX7_hitting 63 = .ok (.iload_n 3, 1) := by decide +kernel
theorem dX7_hitting_64 : decode cX7_hitting 64 = .ok (.invokevirtual 67, 3) := by decide +kernel
theorem dX7_hitting_67 : decode cX7_hitting 67 = .ok (.iload 4, 2) := by decide +kernel
theorem dX7_hitting_69 : decode cX7_hitting 69 = .ok (.aload_n 0, 1) := by decide +kernel
theorem dX7_hitting_70 : decode cX7_hitting 70 = .ok (.getfield 22, 3) := by decide +kernel
theorem dX7_hitting_73 : decode cX7_hitting 73 = .ok (.iload_n 3, 1) := by decide +kernel
theorem dX7_hitting_74 : decode cX7_hitting 74 = .ok (.invokevirtual 101, 3) := by decide +kernel
theorem dX7_hitting_77 : decode cX7_hitting 77 = .ok (.invokestatic 104, 3) := by decide +kernel
theorem dX7_hitting_80 : decode cX7_hitting 80 = .ok (.aload_n 2, 1) := by decide +kernel
theorem dX7_hitting_81 : decode cX7_hitting 81 = .ok (.invokevirtual 109, 3) := by decide +kernel
theorem dX7_hitting_84 : decode cX7_hitting 84 = .ok (.if_icmp .gt 7, 3) := by decide +kernel
theorem dX7_hitting_87 : decode cX7_hitting 87 = .ok (.iconst 1, 1) := by decide +kernel
theorem dX7_hitting_88 : decode cX7_hitting 88 = .ok (.goto 4, 3) := by decide +kernel
theorem dX7_hitting_91 : decode cX7_hitting 91 = .ok (.iconst 0, 1) := by decide +kernel
theorem dX7_hitting_92 : decode cX7_hitting 92 = .ok (.iadd, 1) := by decide +kernel
theorem dX7_hitting_93 : decode cX7_hitting 93 = .ok (.istore 4, 2) := by decide +kernel
