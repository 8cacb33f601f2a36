theorem dX7_hitting_95 : decode cX7_hitting 95 = .ok (.iinc 5 1, 3) := by decide +kernel
theorem dX7_hitting_98 : decode cX7_hitting 98 = .ok (.goto (-59), 3) := by decide +kernel
theorem dX7_hitting_101 : decode cX7_hitting 101 = .ok (.iload 4, 2) := by decide +kernel
theorem dX7_hitting_103 : decode cX7_hitting 103 = .ok (.ireturn, 1) := by decide +kernel
set_option maxRecDepth 20000 in
theorem ggX7_nearest_X7_offSum : GoodIn wsX7_nearest wsX7_offSum := goodIn_r _ [5, 6, 7, 8, 9, 10, 11, 12, 13, 14, 15, 16, 17, 18, 19, 20, 21, 22, 23, 24] (by decide +kernel) (by decide +kernel)
set_option maxRecDepth 20000 in
theorem gX7_nearest_X7_offSum : GoodIn wsX7_nearest (wsV RX7 112 RX7 yX7_offSum wsX7_offSum) := goodIn_app (goodIn_of _ (by decide +kernel)) ggX7_nearest_X7_offSum
theorem dX7_nearest_0 : decode cX7_nearest 0 = .ok (.iconst 0, 1) := by decide +kernel
theorem dX7_nearest_1 : decode cX7_nearest 1 = .ok (.istore_n 1, 1) := by decide +kernel
theorem dX7_nearest_2 : decode cX7_nearest 2 = .ok (.aload_n 0, 1) := by decide +kernel
theorem dX7_nearest_3 : decode cX7_nearest 3 = .ok (.iconst 0, 1) := by decide +kernel
theorem dX7_nearest_4 : decode cX7_nearest 4 = .ok (.invokevirtual 112, 3) := by decide +kernel
theorem dX7_nearest_7 : decode cX7_nearest 7 = .ok (.istore_n 2, 1) := by decide +kernel
theorem dX7_nearest_8 : decode cX7_nearest 8 = .ok (.iconst 1, 1) := by decide +kernel
theorem dX7_nearest_9 : decode cX7_nearest 9 = .ok (.istore_n 3, 1) := by decide +kernel
theorem dX7_nearest_10 : decode cX7_nearest 10 = .ok (.iload_n 3, 1) := by decide +kernel
theorem dX7_nearest_11 : decode cX7_nearest 11 = .ok (.sipush 189, 3) := by decide +kernel
theorem dX7_nearest_14 : decode cX7_nearest 14 = .ok (.if_icmp .ge 27, 3) := by decide +kernel
theorem dX7_nearest_17 : decode cX7_nearest 17 = .ok (.aload_n 0, 1) := by decide +kernel
theorem dX7_nearest_18 : decode cX7_nearest 18 = .ok (.iload_n 3, 1) := by decide +kernel
theorem dX7_nearest_19 : decode cX7_nearest 19 = .ok (.invokevirtual 112, 3) := by decide +kernel
theorem dX7_nearest_22 : decode cX7_nearest 22 = .ok (.istore 4, 2) := by decide +kernel
theorem dX7_nearest_24 : decode cX7_nearest 24 = .ok (.iload 4, 2) := by decide +kernel
theorem dX7_nearest_26 : decode cX7_nearest 26 = .ok (.iload_n 2, 1) := by decide +kernel
theorem dX7_nearest_27 : decode cX7_nearest 27 = .ok (.if_icmp .ge 8, 3) := by decide +kernel
theorem dX7_nearest_30 : decode cX7_nearest 30 = .ok (.iload_n 3, 1) := by decide +kernel
theorem dX7_nearest_31 : decode cX7_nearest 31 = .ok (.istore_n 1, 1) := by decide +kernel
theorem dX7_nearest_32 : decode cX7_nearest 32 = .ok (.iload 4, 2) := by decide +kernel
theorem dX7_nearest_34 : decode cX7_nearest 34 = .ok (.istore_n 2, 1) := by decide +kernel
theorem dX7_nearest_35 : decode cX7_nearest 35 = .ok (.iinc 3 1, 3) := by decide +kernel
theorem dX7_nearest_38 : decode cX7_nearest 38 = .ok (.goto (-28), 3) := by decide +kernel
theorem dX7_nearest_41 : decode cX7_nearest 41 = .ok (.iload_n 1, 1) := by decide +kernel
theorem dX7_nearest_42 : decode cX7_nearest 42 = .ok (.ireturn, 1) := by decide +kernel
set_option maxRecDepth 20000 in
theorem ggX7_offSum_X8_leftOut : GoodIn wsX7_offSum wsX8_leftOut := goodIn_r _ [7, 8, 16, 17, 18, 19] (by decide +kernel) (by decide +kernel)
set_option maxRecDepth 20000 in
theorem gX7_offSum_X8_leftOut : GoodIn wsX7_offSum (wsV RX7 115 RX8 yX8_leftOut wsX8_leftOut) := goodIn_app (goodIn_of _ (by decide +kernel)) ggX7_offSum_X8_leftOut
theorem dX7_offSum_0 : decode cX7_offSum 0 = .ok (.iconst 0, 1) := by decide +kernel
theorem dX7_offSum_1 : decode cX7_offSum 1 = .ok (.istore_n 2, 1) := by decide +kernel
theorem dX7_offSum_2 : decode cX7_offSum 2 = .ok (.iconst 0, 1) := by decide +kernel
theorem dX7_offSum_3 : decode cX7_offSum 3 = .ok (.istore_n 3, 1) := by decide +kernel
theorem dX7_offSum_4 : decode cX7_offSum 4 = .ok (.iload_n 3, 1) := by decide +kernel
theorem dX7_offSum_5 : decode cX7_offSum 5 = .ok (.iconst 4, 1) := by decide +kernel
theorem dX7_offSum_6 : decode cX7_offSum 6 = .ok (.if_icmp .ge 57, 3) := by decide +kernel
theorem dX7_offSum_9 : decode cX7_offSum 9 = .ok (.iload_n 3, 1) := by decide +kernel
theorem dX7_offSum_10 : decode cX7_offSum 10 = .ok (.sipush 189, 3) := by decide +kernel
theorem dX7_offSum_13 : decode cX7_offSum 13 = .ok (.imul, 1) := by decide +kernel
theorem dX7_offSum_14 : decode cX7_offSum 14 = .ok (.iload_n 1, 1) := by decide +kernel
theorem dX7_offSum_15 : decode cX7_offSum 15 = .ok (.iadd, 1) := by decide +kernel
theorem dX7_offSum_16 : decode cX7_offSum 16 = .ok (.istore 4, 2) := by decide +kernel
theorem dX7_offSum_18 : decode cX7_offSum 18 = .ok (.aload_n 0, 1) := by decide +kernel
theorem dX7_offSum_19 : decode cX7_offSum 19 = .ok (.getfield 18, 3) := by decide +kernel
theorem dX7_offSum_22 : decode cX7_offSum 22 = .ok (.invokevirtual 115, 3) := by decide +kernel
theorem dX7_offSum_25 : decode cX7_offSum 25 = .ok (.iload_n 3, 1) := by decide +kernel
theorem dX7_offSum_26 : decode cX7_offSum 26 = .ok (.ishr, 1) := by decide +kernel
theorem dX7_offSum_27 : decode cX7_offSum 27 = .ok (.iconst 1, 1) := by decide +kernel
theorem dX7_offSum_28 : decode cX7_offSum 28 = .ok (.iand, 1) := by decide +kernel
theorem dX7_offSum_29 : decode cX7_offSum 29 = .ok (.ifCond .ne 28, 3) := by decide +kernel
theorem dX7_offSum_32 : decode cX7_offSum 32 = .ok (.iload 4, 2) := by decide +kernel
theorem dX7_offSum_34 : decode cX7_offSum 34 = .ok (.ifCond .lt 23, 3) := by decide +kernel
theorem dX7_offSum_37 : decode cX7_offSum 37 = .ok (.iload 4, 2) := by decide +kernel
theorem dX7_offSum_39 : decode cX7_offSum 39 = .ok (.aload_n 0, 1) := by decide +kernel
theorem dX7_offSum_40 : decode cX7_offSum 40 = .ok (.getfield 15, 3) := by decide +kernel
theorem dX7_offSum_43 : decode cX7_offSum 43 = .ok (.arraylength, 1) := by decide +kernel
theorem dX7_offSum_44 : decode cX7_offSum 44 = .ok (.if_icmp .ge 13, 3) := by decide +kernel
theorem dX7_offSum_47 : decode cX7_offSum 47 = .ok (.iload_n 2, 1) := by decide +kernel
theorem dX7_offSum_48 : decode cX7_offSum 48 = .ok (.aload_n 0, 1) := by decide +kernel
theorem dX7_offSum_49 : decode cX7_offSum 49 = .ok (.getfield 15, 3) := by decide +kernel
theorem dX7_offSum_52 : decode cX7_offSum 52 = .ok (.iload 4, 2) := by decide +kernel
theorem dX7_offSum_54 : decode cX7_offSum 54 = .ok (.iaload, 1) := by decide +kernel
theorem dX7_offSum_55 : decode cX7_offSum 55 = .ok (.iadd, 1) := by decide +kernel
theorem dX7_offSum_56 : decode cX7_offSum 56 = .ok (.istore_n 2, 1) := by decide +kernel
theorem dX7_offSum_57 : decode cX7_offSum 57 = .ok (.iinc 3 1, 3) := by decide +kernel
theorem dX7_offSum_60 : decode cX7_offSum 60 = .ok (.goto (-56), 3) := by decide +kernel
theorem dX7_offSum_63 : decode cX7_offSum 63 = .ok (.iload_n 2, 1) := by decide +kernel
theorem dX7_offSum_64 : decode cX7_offSum 64 = .ok (.ireturn, 1) := by decide +kernel
set_option maxRecDepth 20000 in
theorem ggX7_fewestToLeave_X8_leftOut : GoodIn wsX7_fewestToLeave wsX8_leftOut := goodIn_r _ [6, 7, 58, 59, 60, 61] (by decide +kernel) (by decide +kernel)
set_option maxRecDepth 20000 in
theorem gX7_fewestToLeave_X8_leftOut : GoodIn wsX7_fewestToLeave (wsV RX7 115 RX8 yX8_leftOut wsX8_leftOut) := goodIn_app (goodIn_of _ (by decide +kernel)) ggX7_fewestToLeave_X8_leftOut
set_option maxRecDepth 20000 in
theorem ggX7_fewestToLeave_J6_bitCount_0f7a4 : GoodIn wsX7_fewestToLeave wsJ6_bitCount_0f7a4 := goodIn_r _ [11, 12, 13, 14] (by decide +kernel) (by decide +kernel)
set_option maxRecDepth 20000 in
theorem gX7_fewestToLeave_J6_bitCount_0f7a4 : GoodIn wsX7_fewestToLeave (va_wsS RX7 118 yJ6_bitCount_0f7a4 wsJ6_bitCount_0f7a4) := goodIn_app (goodIn_of _ (by decide +kernel)) ggX7_fewestToLeave_J6_bitCount_0f7a4
set_option maxRecDepth 20000 in
theorem ggX7_fewestToLeave_X7_someAgrees : GoodIn wsX7_fewestToLeave wsX7_someAgrees := goodIn_r _ [19, 1, 20, 21, 22, 5, 23, 24, 25, 26, 27, 28, 29, 30, 31, 32, 33, 34, 35, 36, 37, 38, 39, 40, 41, 42, 43, 44, 18, 45, 46, 47, 48, 49, 50, 51, 52, 53, 54, 55, 56, 57, 58, 59, 60, 61] (by decide +kernel) (by decide +kernel)
set_option maxRecDepth 20000 in
theorem gX7_fewestToLeave_X7_someAgrees : GoodIn wsX7_fewestToLeave (wsV RX7 123 RX7 yX7_someAgrees wsX7_someAgrees) := goodIn_app (goodIn_of _ (by decide +kernel)) ggX7_fewestToLeave_X7_someAgrees
theorem dX7_fewestToLeave_0 : decode cX7_fewestToLeave 0 = .ok (.iconst 0, 1) := by decide +kernel
theorem dX7_fewestToLeave_1 : decode cX7_fewestToLeave 1 = .ok (.istore_n 1, 1) := by decide +kernel
theorem dX7_fewestToLeave_2 : decode cX7_fewestToLeave 2 = .ok (.iload_n 1, 1) := by decide +kernel
theorem dX7_fewestToLeave_3 : decode cX7_fewestToLeave 3 = .ok (.iconst 4, 1) := by decide +kernel
theorem dX7_fewestToLeave_4 : decode cX7_fewestToLeave 4 = .ok (.if_icmp .gt 71, 3) := by decide +kernel
theorem dX7_fewestToLeave_7 : decode cX7_fewestToLeave 7 = .ok (.iconst 0, 1) := by decide +kernel
theorem dX7_fewestToLeave_8 : decode cX7_fewestToLeave 8 = .ok (.istore_n 2, 1) := by decide +kernel
theorem dX7_fewestToLeave_9 : decode cX7_fewestToLeave 9 = .ok (.iload_n 2, 1) := by decide +kernel
theorem dX7_fewestToLeave_10 : decode cX7_fewestToLeave 10 = .ok (.bipush 16, 2) := by decide +kernel
theorem dX7_fewestToLeave_12 : decode cX7_fewestToLeave 12 = .ok (.if_icmp .ge 57, 3) := by decide +kernel
theorem dX7_fewestToLeave_15 : decode cX7_fewestToLeave 15 = .ok (.iload_n 2, 1) := by decide +kernel
theorem dX7_fewestToLeave_16 : decode cX7_fewestToLeave 16 = .ok (.aload_n 0, 1) := by decide +kernel
theorem dX7_fewestToLeave_17 : decode cX7_fewestToLeave 17 = .ok (.getfield 18, 3) := by decide +kernel
theorem dX7_fewestToLeave_20 : decode cX7_fewestToLeave 20 = .ok (.invokevirtual 115, 3) := by decide +kernel
theorem dX7_fewestToLeave_23 : decode cX7_fewestToLeave 23 = .ok (.iand, 1) := by decide +kernel
theorem dX7_fewestToLeave_24 : decode cX7_fewestToLeave 24 = .ok (.ifCond .ne 7, 3) := by decide +kernel
theorem dX7_fewestToLeave_27 : decode cX7_fewestToLeave 27 = .ok (.iconst 1, 1) := by decide +kernel
theorem dX7_fewestToLeave_28 : decode cX7_fewestToLeave 28 = .ok (.goto 4, 3) := by decide +kernel
theorem dX7_fewestToLeave_31 : decode cX7_fewestToLeave 31 = .ok (.iconst 0, 1) := by decide +kernel
theorem dX7_fewestToLeave_32 : decode cX7_fewestToLeave 32 = .ok (.istore_n 3, 1) := by decide +kernel
theorem dX7_fewestToLeave_33 : decode cX7_fewestToLeave 33 = .ok (.iload_n 3, 1) := by decide +kernel
theorem dX7_fewestToLeave_34 : decode cX7_fewestToLeave 34 = .ok (.ifCond .eq 29, 3) := by decide +kernel
theorem dX7_fewestToLeave_37 : decode cX7_fewestToLeave 37 = .ok (.iload_n 2, 1) := by decide +kernel
theorem dX7_fewestToLeave_38 : decode cX7_fewestToLeave 38 = .ok (.invokestatic 118, 3) := by decide +kernel
theorem dX7_fewestToLeave_41 : decode cX7_fewestToLeave 41 = .ok (.iload_n 1, 1) := by decide +kernel
theorem dX7_fewestToLeave_42 : decode cX7_fewestToLeave 42 = .ok (.if_icmp .ne 21, 3) := by decide +kernel
theorem dX7_fewestToLeave_45 : decode cX7_fewestToLeave 45 = .ok (.aload_n 0, 1) := by decide +kernel
theorem dX7_fewestToLeave_46 : decode cX7_fewestToLeave 46 = .ok (.aload_n 0, 1) := by decide +kernel
theorem dX7_fewestToLeave_47 : decode cX7_fewestToLeave 47 = .ok (.getfield 18, 3) := by decide +kernel
theorem dX7_fewestToLeave_50 : decode cX7_fewestToLeave 50 = .ok (.invokevirtual 115, 3) := by decide +kernel
theorem dX7_fewestToLeave_53 : decode cX7_fewestToLeave 53 = .ok (.iload_n 2, 1) := by decide +kernel
theorem dX7_fewestToLeave_54 : decode cX7_fewestToLeave 54 = .ok (.ior, 1) := by decide +kernel
theorem dX7_fewestToLeave_55 : decode cX7_fewestToLeave 55 = .ok (.invokevirtual 123, 3) := by decide +kernel
theorem dX7_fewestToLeave_58 : decode cX7_fewestToLeave 58 = .ok (.ifCond .eq 5, 3) := by decide +kernel
theorem dX7_fewestToLeave_61 : decode cX7_fewestToLeave 61 = .ok (.iload_n 2, 1) := by decide +kernel
theorem dX7_fewestToLeave_62 : decode cX7_fewestToLeave 62 = .ok (.ireturn, 1) := by decide +kernel
theorem dX7_fewestToLeave_63 : decode cX7_fewestToLeave 63 = .ok (.iinc 2 1, 3) := by decide +kernel
theorem dX7_fewestToLeave_66 : decode cX7_fewestToLeave 66 = .ok (.goto (-57), 3) := by decide +kernel
theorem dX7_fewestToLeave_69 : decode cX7_fewestToLeave 69 = .ok (.iinc 1 1, 3) := by decide +kernel
theorem dX7_fewestToLeave_72 : decode cX7_fewestToLeave 72 = .ok (.goto (-70), 3) := by decide +kernel
theorem dX7_fewestToLeave_75 : decode cX7_fewestToLeave 75 = .ok (.bipush (-4), 2) := by decide +kernel
theorem dX7_fewestToLeave_77 : decode cX7_fewestToLeave 77 = .ok (.ireturn, 1) := by decide +kernel
set_option maxRecDepth 20000 in
theorem ggX7_someAgrees_X8_askedSights : GoodIn wsX7_someAgrees wsX8_askedSights := goodIn_r _ [6, 7, 8, 9, 10, 5, 11, 12, 13, 14, 15, 16, 17, 18, 19, 20, 21, 22, 23, 24, 42, 43, 44, 45] (by decide +kernel) (by decide +kernel)
set_option maxRecDepth 20000 in
theorem gX7_someAgrees_X8_askedSights : GoodIn wsX7_someAgrees (wsV RX7 126 RX8 yX8_askedSights wsX8_askedSights) := goodIn_app (goodIn_of _ (by decide +kernel)) ggX7_someAgrees_X8_askedSights
set_option maxRecDepth 20000 in
theorem ggX7_someAgrees_X7_agreeingAt : GoodIn wsX7_someAgrees wsX7_agreeingAt := goodIn_r _ [29, 30, 31, 32, 28, 33, 34, 35, 36, 37, 38, 39, 40, 41] (by decide +kernel) (by decide +kernel)
set_option maxRecDepth 20000 in
theorem gX7_someAgrees_X7_agreeingAt : GoodIn wsX7_someAgrees (wsV RX7 129 RX7 yX7_agreeingAt wsX7_agreeingAt) := goodIn_app (goodIn_of _ (by decide +kernel)) ggX7_someAgrees_X7_agreeingAt
theorem dX7_someAgrees_0 : decode cX7_someAgrees 0 = .ok (.aload_n 0, 1) := by decide +kernel
theorem dX7_someAgrees_1 : decode cX7_someAgrees 1 = .ok (.aload_n 0, 1) := by decide +kernel
theorem dX7_someAgrees_2 : decode cX7_someAgrees 2 = .ok (.getfield 18, 3) := by decide +kernel
theorem dX7_someAgrees_5 : decode cX7_someAgrees 5 = .ok (.iload_n 1, 1) := by decide +kernel
theorem dX7_someAgrees_6 : decode cX7_someAgrees 6 = .ok (.invokevirtual 126, 3) := by decide +kernel
theorem dX7_someAgrees_9 : decode cX7_someAgrees 9 = .ok (.iconst 0, 1) := by decide +kernel
theorem dX7_someAgrees_10 : decode cX7_someAgrees 10 = .ok (.invokevirtual 129, 3) := by decide +kernel
theorem dX7_someAgrees_13 : decode cX7_someAgrees 13 = .ok (.bipush (-4), 2) := by decide +kernel
theorem dX7_someAgrees_15 : decode cX7_someAgrees 15 = .ok (.if_icmp .eq 7, 3) := by decide +kernel
theorem dX7_someAgrees_18 : decode cX7_someAgrees 18 = .ok (.iconst 1, 1) := by decide +kernel
theorem dX7_someAgrees_19 : decode cX7_someAgrees 19 = .ok (.goto 4, 3) := by decide +kernel
theorem dX7_someAgrees_22 : decode cX7_someAgrees 22 = .ok (.iconst 0, 1) := by decide +kernel
theorem dX7_someAgrees_23 : decode cX7_someAgrees 23 = .ok (.ireturn, 1) := by decide +kernel
set_option maxRecDepth 20000 in
theorem ggX7_lastUnknownTick_X8_sightCount : GoodIn wsX7_lastUnknownTick wsX8_sightCount := goodIn_r _ [11, 12, 33, 34, 35, 36] (by decide +kernel) (by decide +kernel)
set_option maxRecDepth 20000 in
theorem gX7_lastUnknownTick_X8_sightCount : GoodIn wsX7_lastUnknownTick (wsV RX7 48 RX8 yX8_sightCount wsX8_sightCount) := goodIn_app (goodIn_of _ (by decide +kernel)) ggX7_lastUnknownTick_X8_sightCount
set_option maxRecDepth 20000 in
theorem ggX7_lastUnknownTick_X8_isBlur : GoodIn wsX7_lastUnknownTick wsX8_isBlur := goodIn_r _ [16, 17, 18, 19, 10, 20, 12, 21, 33, 34, 35, 36] (by decide +kernel) (by decide +kernel)
set_option maxRecDepth 20000 in
theorem gX7_lastUnknownTick_X8_isBlur : GoodIn wsX7_lastUnknownTick (wsV RX7 133 RX8 yX8_isBlur wsX8_isBlur) := goodIn_app (goodIn_of _ (by decide +kernel)) ggX7_lastUnknownTick_X8_isBlur
set_option maxRecDepth 20000 in
theorem ggX7_lastUnknownTick_X8_tickOf : GoodIn wsX7_lastUnknownTick wsX8_tickOf := goodIn_r _ [25, 17, 18, 19, 10, 20, 12, 21, 33, 34, 35, 36] (by decide +kernel) (by decide +kernel)
set_option maxRecDepth 20000 in
theorem gX7_lastUnknownTick_X8_tickOf : GoodIn wsX7_lastUnknownTick (wsV RX7 136 RX8 yX8_tickOf wsX8_tickOf) := goodIn_app (goodIn_of _ (by decide +kernel)) ggX7_lastUnknownTick_X8_tickOf
theorem dX7_lastUnknownTick_0 : decode cX7_lastUnknownTick 0 = .ok (.iconst 0, 1) := by decide +kernel
theorem dX7_lastUnknownTick_1 : decode cX7_lastUnknownTick 1 = .ok (.istore_n 1, 1) := by decide +kernel
theorem dX7_lastUnknownTick_2 : decode cX7_lastUnknownTick 2 = .ok (.aload_n 0, 1) := by decide +kernel
theorem dX7_lastUnknownTick_3 : decode cX7_lastUnknownTick 3 = .ok (.getfield 29, 3) := by decide +kernel
theorem dX7_lastUnknownTick_6 : decode cX7_lastUnknownTick 6 = .ok (.istore_n 2, 1) := by decide +kernel
theorem dX7_lastUnknownTick_7 : decode cX7_lastUnknownTick 7 = .ok (.iload_n 2, 1) := by decide +kernel
theorem dX7_lastUnknownTick_8 : decode cX7_lastUnknownTick 8 = .ok (.aload_n 0, 1) := by decide +kernel
theorem dX7_lastUnknownTick_9 : decode cX7_lastUnknownTick 9 = .ok (.getfield 18, 3) := by decide +kernel
theorem dX7_lastUnknownTick_12 : decode cX7_lastUnknownTick 12 = .ok (.invokevirtual 48, 3) := by decide +kernel
theorem dX7_lastUnknownTick_15 : decode cX7_lastUnknownTick 15 = .ok (.if_icmp .ge 37, 3) := by decide +kernel
theorem dX7_lastUnknownTick_18 : decode cX7_lastUnknownTick 18 = .ok (.aload_n 0, 1) := by decide +kernel
theorem dX7_lastUnknownTick_19 : decode cX7_lastUnknownTick 19 = .ok (.getfield 18, 3) := by decide +kernel
theorem dX7_lastUnknownTick_22 : decode cX7_lastUnknownTick 22 = .ok (.iload_n 2, 1) := by decide +kernel
theorem dX7_lastUnknownTick_23 : decode cX7_lastUnknownTick 23 = .ok (.invokevirtual 133, 3) := by decide +kernel
theorem dX7_lastUnknownTick_26 : decode cX7_lastUnknownTick 26 = .ok (.ifCond .eq 18, 3) := by decide +kernel
theorem dX7_lastUnknownTick_29 : decode cX7_lastUnknownTick 29 = .ok (.iload_n 1, 1) := by decide +kernel
theorem dX7_lastUnknownTick_30 : decode cX7_lastUnknownTick 30 = .ok (.aload_n 0, 1) := by decide +kernel
theorem dX7_lastUnknownTick_31 : decode cX7_lastUnknownTick 31 = .ok (.getfield 18, 3) := by decide +kernel
theorem dX7_lastUnknownTick_34 : decode cX7_lastUnknownTick 34 = .ok (.iload_n 2, 1) := by decide +kernel
theorem dX7_lastUnknownTick_35 : decode cX7_lastUnknownTick 35 = .ok (.invokevirtual 136, 3) := by decide +kernel
theorem dX7_lastUnknownTick_38 : decode cX7_lastUnknownTick 38 = .ok (.invokestatic 139, 3) := by decide +kernel
theorem dX7_lastUnknownTick_41 : decode cX7_lastUnknownTick 41 = .ok (.goto 4, 3) := by decide +kernel
theorem dX7_lastUnknownTick_44 : decode cX7_lastUnknownTick 44 = .ok (.iload_n 1, 1) := by decide +kernel
theorem dX7_lastUnknownTick_45 : decode cX7_lastUnknownTick 45 = .ok (.istore_n 1, 1) := by decide +kernel
theorem dX7_lastUnknownTick_46 : decode cX7_lastUnknownTick 46 = .ok (.iinc 2 1, 3) := by decide +kernel
theorem dX7_lastUnknownTick_49 : decode cX7_lastUnknownTick 49 = .ok (.goto (-42), 3) := by decide +kernel
theorem dX7_lastUnknownTick_52 : decode cX7_lastUnknownTick 52 = .ok (.iload_n 1, 1) := by decide +kernel
theorem dX7_lastUnknownTick_53 : decode cX7_lastUnknownTick 53 = .ok (.ireturn, 1) := by decide +kernel
set_option maxRecDepth 20000 in
theorem ggX7_needsTouch_X8_sightCount : GoodIn wsX7_needsTouch wsX8_sightCount := goodIn_r _ [7, 8, 25, 26, 27, 28] (by decide +kernel) (by decide +kernel)
set_option maxRecDepth 20000 in
theorem gX7_needsTouch_X8_sightCount : GoodIn wsX7_needsTouch (wsV RX7 48 RX8 yX8_sightCount wsX8_sightCount) := goodIn_app (goodIn_of _ (by decide +kernel)) ggX7_needsTouch_X8_sightCount
set_option maxRecDepth 20000 in
theorem ggX7_needsTouch_X8_isBlur : GoodIn wsX7_needsTouch wsX8_isBlur := goodIn_r _ [12, 13, 14, 15, 6, 16, 8, 17, 25, 26, 27, 28] (by decide +kernel) (by decide +kernel)
set_option maxRecDepth 20000 in
theorem gX7_needsTouch_X8_isBlur : GoodIn wsX7_needsTouch (wsV RX7 133 RX8 yX8_isBlur wsX8_isBlur) := goodIn_app (goodIn_of _ (by decide +kernel)) ggX7_needsTouch_X8_isBlur
theorem dX7_needsTouch_0 : decode cX7_needsTouch 0 = .ok (.aload_n 0, 1) := by decide +kernel
theorem dX7_needsTouch_1 : decode cX7_needsTouch 1 = .ok (.getfield 29, 3) := by decide +kernel
theorem dX7_needsTouch_4 : decode cX7_needsTouch 4 = .ok (.istore_n 1, 1) := by decide +kernel
theorem dX7_needsTouch_5 : decode cX7_needsTouch 5 = .ok (.iload_n 1, 1) := by decide +kernel
theorem dX7_needsTouch_6 : decode cX7_needsTouch 6 = .ok (.aload_n 0, 1) := by decide +kernel
theorem dX7_needsTouch_7 : decode cX7_needsTouch 7 = .ok (.getfield 18, 3) := by decide +kernel
theorem dX7_needsTouch_10 : decode cX7_needsTouch 10 = .ok (.invokevirtual 48, 3) := by decide +kernel
theorem dX7_needsTouch_13 : decode cX7_needsTouch 13 = .ok (.if_icmp .ge 22, 3) := by decide +kernel
theorem dX7_needsTouch_16 : decode cX7_needsTouch 16 = .ok (.aload_n 0, 1) := by decide +kernel
theorem dX7_needsTouch_17 : decode cX7_needsTouch 17 = .ok (.getfield 18, 3) := by decide +kernel
theorem dX7_needsTouch_20 : decode cX7_needsTouch 20 = .ok (.iload_n 1, 1) := by decide +kernel
theorem dX7_needsTouch_21 : decode cX7_needsTouch 21 = .ok (.invokevirtual 133, 3) := by decide +kernel
theorem dX7_needsTouch_24 : decode cX7_needsTouch 24 = .ok (.ifCond .ne 5, 3) := by decide +kernel
theorem dX7_needsTouch_27 : decode cX7_needsTouch 27 = .ok (.iconst 1, 1) := by decide +kernel
theorem dX7_needsTouch_28 : decode cX7_needsTouch 28 = .ok (.ireturn, 1) := by decide +kernel
theorem dX7_needsTouch_29 : decode cX7_needsTouch 29 = .ok (.iinc 1 1, 3) := by decide +kernel
theorem dX7_needsTouch_32 : decode cX7_needsTouch 32 = .ok (.goto (-27), 3) := by decide +kernel
theorem dX7_needsTouch_35 : decode cX7_needsTouch 35 = .ok (.iconst 0, 1) := by decide +kernel
theorem dX7_needsTouch_36 : decode cX7_needsTouch 36 = .ok (.ireturn, 1) := by decide +kernel
set_option maxRecDepth 20000 in
theorem ggX7_compare_X8_isBlur : GoodIn wsX7_compare wsX8_isBlur := goodIn_r _ [12, 13, 14, 15, 11, 16, 17, 18, 107, 108, 109, 110] (by decide +kernel) (by decide +kernel)
set_option maxRecDepth 20000 in
theorem gX7_compare_X8_isBlur : GoodIn wsX7_compare (wsV RX7 133 RX8 yX8_isBlur wsX8_isBlur) := goodIn_app (goodIn_of _ (by decide +kernel)) ggX7_compare_X8_isBlur
set_option maxRecDepth 20000 in
theorem ggX7_compare_X8_firstOf : GoodIn wsX7_compare wsX8_firstOf := goodIn_r _ [22, 13, 14, 15, 11, 16, 17, 18, 107, 108, 109, 110] (by decide +kernel) (by decide +kernel)
set_option maxRecDepth 20000 in
theorem gX7_compare_X8_firstOf : GoodIn wsX7_compare (wsV RX7 143 RX8 yX8_firstOf wsX8_firstOf) := goodIn_app (goodIn_of _ (by decide +kernel)) ggX7_compare_X8_firstOf
set_option maxRecDepth 20000 in
theorem ggX7_compare_X8_tickOf : GoodIn wsX7_compare wsX8_tickOf := goodIn_r _ [26, 13, 14, 15, 11, 16, 17, 18, 107, 108, 109, 110] (by decide +kernel) (by decide +kernel)
set_option maxRecDepth 20000 in
theorem gX7_compare_X8_tickOf : GoodIn wsX7_compare (wsV RX7 136 RX8 yX8_tickOf wsX8_tickOf) := goodIn_app (goodIn_of _ (by decide +kernel)) ggX7_compare_X8_tickOf
set_option maxRecDepth 20000 in
theorem ggX7_compare_X7_seen : GoodIn wsX7_compare wsX7_seen := goodIn_r _ [31, 32, 33, 34, 35, 36, 37, 38, 39, 40, 41, 42, 43, 44, 45, 46, 47, 48, 49, 50, 51, 52, 100, 101, 102, 103, 104, 105, 106, 111, 112, 113, 114, 115, 116, 117, 118, 119, 120, 121, 122, 123, 124, 125] (by decide +kernel) (by decide +kernel)
set_option maxRecDepth 20000 in
theorem gX7_compare_X7_seen : GoodIn wsX7_compare (wsV RX7 146 RX7 yX7_seen wsX7_seen) := goodIn_app (goodIn_of _ (by decide +kernel)) ggX7_compare_X7_seen
set_option maxRecDepth 20000 in
theorem ggX7_compare_X8_secondOf : GoodIn wsX7_compare wsX8_secondOf := goodIn_r _ [56, 13, 14, 15, 11, 16, 17, 18, 107, 108, 109, 110] (by decide +kernel) (by decide +kernel)
set_option maxRecDepth 20000 in
theorem gX7_compare_X8_secondOf : GoodIn wsX7_compare (wsV RX7 149 RX8 yX8_secondOf wsX8_secondOf) := goodIn_app (goodIn_of _ (by decide +kernel)) ggX7_compare_X8_secondOf
set_option maxRecDepth 20000 in
theorem ggX7_compare_X7_addOff : GoodIn wsX7_compare wsX7_addOff := goodIn_r _ [60, 61, 100, 101, 102, 103, 104, 105, 106] (by decide +kernel) (by decide +kernel)
set_option maxRecDepth 20000 in
theorem gX7_compare_X7_addOff : GoodIn wsX7_compare (wsV RX7 152 RX7 yX7_addOff wsX7_addOff) := goodIn_app (goodIn_of _ (by decide +kernel)) ggX7_compare_X7_addOff
set_option maxRecDepth 20000 in
theorem ggX7_compare_X8_kindOf : GoodIn wsX7_compare wsX8_kindOf := goodIn_r _ [65, 13, 14, 15, 11, 16, 17, 18, 107, 108, 109, 110] (by decide +kernel) (by decide +kernel)
set_option maxRecDepth 20000 in
theorem gX7_compare_X8_kindOf : GoodIn wsX7_compare (wsV RX7 155 RX8 yX8_kindOf wsX8_kindOf) := goodIn_app (goodIn_of _ (by decide +kernel)) ggX7_compare_X8_kindOf
set_option maxRecDepth 20000 in
theorem ggX7_compare_X7_howFar : GoodIn wsX7_compare wsX7_howFar := goodIn_r _ [69, 33, 2, 3, 4, 5, 6, 70, 71, 72, 73, 74, 75, 37, 76, 77, 19, 20, 21, 11, 22, 13, 14, 15, 16, 17, 18, 78, 79, 80, 81, 82, 53, 54, 55, 56, 100, 101, 102, 103, 104, 105, 106, 111, 112, 113, 114, 115, 116, 117, 118, 119, 120, 121, 122, 123, 124, 125, 107, 108, 109, 110] (by decide +kernel) (by decide +kernel)
set_option maxRecDepth 20000 in
theorem gX7_compare_X7_howFar : GoodIn wsX7_compare (wsV RX7 158 RX7 yX7_howFar wsX7_howFar) := goodIn_app (goodIn_of _ (by decide +kernel)) ggX7_compare_X7_howFar
set_option maxRecDepth 20000 in
theorem ggX7_compare_X7_howLate : GoodIn wsX7_compare wsX7_howLate := goodIn_r _ [86, 2, 1, 33, 3, 4, 5, 6, 87, 88, 89, 11, 90, 13, 14, 15, 16, 17, 18, 66, 67, 68, 30, 69, 70, 71, 72, 73, 74, 75, 37, 76, 77, 19, 20, 21, 22, 78, 79, 80, 81, 82, 53, 54, 55, 56, 91, 92, 93, 94, 95, 23, 24, 25, 26, 100, 101, 102, 103, 104, 105, 106, 107, 108, 109, 110, 111, 112, 113, 114, 115, 116, 117, 118, 119, 120, 121, 122, 123, 124, 125] (by decide +kernel) (by decide +kernel)
set_option maxRecDepth 20000 in
theorem gX7_compare_X7_howLate : GoodIn wsX7_compare (wsV RX7 161 RX7 yX7_howLate wsX7_howLate) := goodIn_app (goodIn_of _ (by decide +kernel)) ggX7_compare_X7_howLate
set_option maxRecDepth 20000 in
theorem ggX7_compare_X8_doubtOf : GoodIn wsX7_compare wsX8_doubtOf := goodIn_r _ [99, 13, 14, 15, 11, 16, 17, 18, 107, 108, 109, 110] (by decide +kernel) (by decide +kernel)
set_option maxRecDepth 20000 in
theorem gX7_compare_X8_doubtOf : GoodIn wsX7_compare (wsV RX7 164 RX8 yX8_doubtOf wsX8_doubtOf) := goodIn_app (goodIn_of _ (by decide +kernel)) ggX7_compare_X8_doubtOf
theorem dX7_compare_0 : decode cX7_compare 0 = .ok (.ldc 142, 2) := by decide +kernel
theorem dX7_compare_2 : decode cX7_compare 2 = .ok (.istore 4, 2) := by decide +kernel
theorem dX7_compare_4 : decode cX7_compare 4 = .ok (.aload_n 0, 1) := by decide +kernel
theorem dX7_compare_5 : decode cX7_compare 5 = .ok (.getfield 18, 3) := by decide +kernel
theorem dX7_compare_8 : decode cX7_compare 8 = .ok (.iload_n 2, 1) := by decide +kernel
theorem dX7_compare_9 : decode cX7_compare 9 = .ok (.invokevirtual 133, 3) := by decide +kernel
theorem dX7_compare_12 : decode cX7_compare 12 = .ok (.ifCond .eq 60, 3) := by decide +kernel
theorem dX7_compare_15 : decode cX7_compare 15 = .ok (.aload_n 0, 1) := by decide +kernel
theorem dX7_compare_16 : decode cX7_compare 16 = .ok (.aload_n 0, 1) := by decide +kernel
theorem dX7_compare_17 : decode cX7_compare 17 = .ok (.getfield 18, 3) := by decide +kernel
theorem dX7_compare_20 : decode cX7_compare 20 = .ok (.iload_n 2, 1) := by decide +kernel
theorem dX7_compare_21 : decode cX7_compare 21 = .ok (.invokevirtual 143, 3) := by decide +kernel
theorem dX7_compare_24 : decode cX7_compare 24 = .ok (.aload_n 0, 1) := by decide +kernel
theorem dX7_compare_25 : decode cX7_compare 25 = .ok (.getfield 18, 3) := by decide +kernel
theorem dX7_compare_28 : decode cX7_compare 28 = .ok (.iload_n 2, 1) := by decide +kernel
theorem dX7_compare_29 : decode cX7_compare 29 = .ok (.invokevirtual 136, 3) := by decide +kernel
theorem dX7_compare_32 : decode cX7_compare 32 = .ok (.invokevirtual 146, 3) := by decide +kernel
theorem dX7_compare_35 : decode cX7_compare 35 = .ok (.aload_n 0, 1) := by decide +kernel
theorem dX7_compare_36 : decode cX7_compare 36 = .ok (.getfield 18, 3) := by decide +kernel
theorem dX7_compare_39 : decode cX7_compare 39 = .ok (.iload_n 2, 1) := by decide +kernel
theorem dX7_compare_40 : decode cX7_compare 40 = .ok (.invokevirtual 149, 3) := by decide +kernel
theorem dX7_compare_43 : decode cX7_compare 43 = .ok (.isub, 1) := by decide +kernel
theorem dX7_compare_44 : decode cX7_compare 44 = .ok (.invokestatic 104, 3) := by decide +kernel
theorem dX7_compare_47 : decode cX7_compare 47 = .ok (.istore 4, 2) := by decide +kernel
theorem dX7_compare_49 : decode cX7_compare 49 = .ok (.aload_n 0, 1) := by decide +kernel
theorem dX7_compare_50 : decode cX7_compare 50 = .ok (.aload_n 0, 1) := by decide +kernel
theorem dX7_compare_51 : decode cX7_compare 51 = .ok (.getfield 18, 3) := by decide +kernel
theorem dX7_compare_54 : decode cX7_compare 54 = .ok (.iload_n 2, 1) := by decide +kernel
theorem dX7_compare_55 : decode cX7_compare 55 = .ok (.invokevirtual 143, 3) := by decide +kernel
theorem dX7_compare_58 : decode cX7_compare 58 = .ok (.sipush 189, 3) := by decide +kernel
theorem dX7_compare_61 : decode cX7_compare 61 = .ok (.imul, 1) := by decide +kernel
theorem dX7_compare_62 : decode cX7_compare 62 = .ok (.iload_n 1, 1) := by decide +kernel
theorem dX7_compare_63 : decode cX7_compare 63 = .ok (.iadd, 1) := by decide +kernel
theorem dX7_compare_64 : decode cX7_compare 64 = .ok (.iload 4, 2) := by decide +kernel
theorem dX7_compare_66 : decode cX7_compare 66 = .ok (.invokevirtual 152, 3) := by decide +kernel
theorem dX7_compare_69 : decode cX7_compare 69 = .ok (.goto 36, 3) := by decide +kernel
theorem dX7_compare_72 : decode cX7_compare 72 = .ok (.iload_n 3, 1) := by decide +kernel
theorem dX7_compare_73 : decode cX7_compare 73 = .ok (.ifCond .eq 32, 3) := by decide +kernel
theorem dX7_compare_76 : decode cX7_compare 76 = .ok (.aload_n 0, 1) := by decide +kernel
theorem dX7_compare_77 : decode cX7_compare 77 = .ok (.getfield 18, 3) := by decide +kernel
theorem dX7_compare_80 : decode cX7_compare 80 = .ok (.iload_n 2, 1) := by decide +kernel
theorem dX7_compare_81 : decode cX7_compare 81 = .ok (.invokevirtual 155, 3) := by decide +kernel
theorem dX7_compare_84 : decode cX7_compare 84 = .ok (.iconst 1, 1) := by decide +kernel
theorem dX7_compare_85 : decode cX7_compare 85 = .ok (.if_icmp .ne 12, 3) := by decide +kernel
theorem dX7_compare_88 : decode cX7_compare 88 = .ok (.aload_n 0, 1) := by decide +kernel
theorem dX7_compare_89 : decode cX7_compare 89 = .ok (.iload_n 1, 1) := by decide +kernel
theorem dX7_compare_90 : decode cX7_compare 90 = .ok (.iload_n 2, 1) := by decide +kernel
theorem dX7_compare_91 : decode cX7_compare 91 = .ok (.invokevirtual 158, 3) := by decide +kernel
theorem dX7_compare_94 : decode cX7_compare 94 = .ok (.goto 9, 3) := by decide +kernel
theorem dX7_compare_97 : decode cX7_compare 97 = .ok (.aload_n 0, 1) := by decide +kernel
theorem dX7_compare_98 : decode cX7_compare 98 = .ok (.iload_n 1, 1) := by decide +kernel
theorem dX7_compare_99 : decode cX7_compare 99 = .ok (.iload_n 2, 1) := by decide +kernel
theorem dX7_compare_100 : decode cX7_compare 100 = .ok (.invokevirtual 161, 3) := by decide +kernel
theorem dX7_compare_103 : decode cX7_compare 103 = .ok (.istore 4, 2) := by decide +kernel
theorem dX7_compare_105 : decode cX7_compare 105 = .ok (.iload 4, 2) := by decide +kernel
theorem dX7_compare_107 : decode cX7_compare 107 = .ok (.aload_n 0, 1) := by decide +kernel
theorem dX7_compare_108 : decode cX7_compare 108 = .ok (.getfield 18, 3) := by decide +kernel
theorem dX7_compare_111 : decode cX7_compare 111 = .ok (.iload_n 2, 1) := by decide +kernel
theorem dX7_compare_112 : decode cX7_compare 112 = .ok (.invokevirtual 164, 3) := by decide +kernel
theorem dX7_compare_115 : decode cX7_compare 115 = .ok (.if_icmp .gt 28, 3) := by decide +kernel
theorem dX7_compare_118 : decode cX7_compare 118 = .ok (.iload_n 1, 1) := by decide +kernel
theorem dX7_compare_119 : decode cX7_compare 119 = .ok (.ifCond .lt 24, 3) := by decide +kernel
theorem dX7_compare_122 : decode cX7_compare 122 = .ok (.iload_n 1, 1) := by decide +kernel
theorem dX7_compare_123 : decode cX7_compare 123 = .ok (.aload_n 0, 1) := by decide +kernel
theorem dX7_compare_124 : decode cX7_compare 124 = .ok (.getfield 9, 3) := by decide +kernel
theorem dX7_compare_127 : decode cX7_compare 127 = .ok (.arraylength, 1) := by decide +kernel
theorem dX7_compare_128 : decode cX7_compare 128 = .ok (.if_icmp .ge 15, 3) := by decide +kernel
theorem dX7_compare_131 : decode cX7_compare 131 = .ok (.aload_n 0, 1) := by decide +kernel
theorem dX7_compare_132 : decode cX7_compare 132 = .ok (.getfield 9, 3) := by decide +kernel
theorem dX7_compare_135 : decode cX7_compare 135 = .ok (.iload_n 1, 1) := by decide +kernel
theorem dX7_compare_136 : decode cX7_compare 136 = .ok (.dup2, 1) := by decide +kernel
theorem dX7_compare_137 : decode cX7_compare 137 = .ok (.iaload, 1) := by decide +kernel
theorem dX7_compare_138 : decode cX7_compare 138 = .ok (.iconst 1, 1) := by decide +kernel
theorem dX7_compare_139 : decode cX7_compare 139 = .ok (.iload_n 2, 1) := by decide +kernel
theorem dX7_compare_140 : decode cX7_compare 140 = .ok (.ishl, 1) := by decide +kernel
theorem dX7_compare_141 : decode cX7_compare 141 = .ok (.ior, 1) := by decide +kernel
theorem dX7_compare_142 : decode cX7_compare 142 = .ok (.iastore, 1) := by decide +kernel
theorem dX7_compare_143 : decode cX7_compare 143 = .ok (.return_, 1) := by decide +kernel
theorem dX7_addOff_0 : decode cX7_addOff 0 = .ok (.iload_n 1, 1) := by decide +kernel
theorem dX7_addOff_1 : decode cX7_addOff 1 = .ok (.ifCond .lt 22, 3) := by decide +kernel
theorem dX7_addOff_4 : decode cX7_addOff 4 = .ok (.iload_n 1, 1) := by decide +kernel
theorem dX7_addOff_5 : decode cX7_addOff 5 = .ok (.aload_n 0, 1) := by decide +kernel
theorem dX7_addOff_6 : decode cX7_addOff 6 = .ok (.getfield 15, 3) := by decide +kernel
theorem dX7_addOff_9 : decode cX7_addOff 9 = .ok (.arraylength, 1) := by decide +kernel
theorem dX7_addOff_10 : decode cX7_addOff 10 = .ok (.if_icmp .ge 13, 3) := by decide +kernel
theorem dX7_addOff_13 : decode cX7_addOff 13 = .ok (.aload_n 0, 1) := by decide +kernel
theorem dX7_addOff_14 : decode cX7_addOff 14 = .ok (.getfield 15, 3) := by decide +kernel
theorem dX7_addOff_17 : decode cX7_addOff 17 = .ok (.iload_n 1, 1) := by decide +kernel
theorem dX7_addOff_18 : decode cX7_addOff 18 = .ok (.dup2, 1) := by decide +kernel
theorem dX7_addOff_19 : decode cX7_addOff 19 = .ok (.iaload, 1) := by decide +kernel
theorem dX7_addOff_20 : decode cX7_addOff 20 = .ok (.iload_n 2, 1) := by decide +kernel
theorem dX7_addOff_21 : decode cX7_addOff 21 = .ok (.iadd, 1) := by decide +kernel
theorem dX7_addOff_22 : decode cX7_addOff 22 = .ok (.iastore, 1) := by decide +kernel
theorem dX7_addOff_23 : decode cX7_addOff 23 = .ok (.return_, 1) := by decide +kernel
set_option maxRecDepth 20000 in
theorem ggX7_seen_X2_xAt : GoodIn wsX7_seen wsX2_xAt := goodIn_r _ [7, 8, 9, 10, 6, 11, 29, 30, 31, 32, 33, 34, 35, 36, 37, 38, 39, 40, 41, 42, 43] (by decide +kernel) (by decide +kernel)
set_option maxRecDepth 20000 in
theorem gX7_seen_X2_xAt : GoodIn wsX7_seen (wsV RX7 167 RX2 yX2_xAt wsX2_xAt) := goodIn_app (goodIn_of _ (by decide +kernel)) ggX7_seen_X2_xAt
set_option maxRecDepth 20000 in
theorem ggX7_seen_X2_yAt : GoodIn wsX7_seen wsX2_yAt := goodIn_r _ [15, 16, 9, 10, 6, 11, 29, 30, 31, 32, 33, 34, 35, 36, 37, 38, 39, 40, 41, 42, 43] (by decide +kernel) (by decide +kernel)
set_option maxRecDepth 20000 in
theorem gX7_seen_X2_yAt : GoodIn wsX7_seen (wsV RX7 101 RX2 yX2_yAt wsX2_yAt) := goodIn_app (goodIn_of _ (by decide +kernel)) ggX7_seen_X2_yAt
set_option maxRecDepth 20000 in
theorem ggX7_seen_X2_zAt : GoodIn wsX7_seen wsX2_zAt := goodIn_r _ [20, 21, 9, 10, 6, 11, 29, 30, 31, 32, 33, 34, 35, 36, 37, 38, 39, 40, 41, 42, 43] (by decide +kernel) (by decide +kernel)
set_option maxRecDepth 20000 in
theorem gX7_seen_X2_zAt : GoodIn wsX7_seen (wsV RX7 95 RX2 yX2_zAt wsX2_zAt) := goodIn_app (goodIn_of _ (by decide +kernel)) ggX7_seen_X2_zAt
theorem dX7_seen_0 : decode cX7_seen 0 = .ok (.iload_n 1, 1) := by decide +kernel
theorem dX7_seen_1 : decode cX7_seen 1 = .ok (.iconst 3, 1) := by decide +kernel
theorem dX7_seen_2 : decode cX7_seen 2 = .ok (.imul, 1) := by decide +kernel
theorem dX7_seen_3 : decode cX7_seen 3 = .ok (.istore_n 3, 1) := by decide +kernel
theorem dX7_seen_4 : decode cX7_seen 4 = .ok (.iload_n 3, 1) := by decide +kernel
theorem dX7_seen_5 : decode cX7_seen 5 = .ok (.ifCond .lt 14, 3) := by decide +kernel
theorem dX7_seen_8 : decode cX7_seen 8 = .ok (.iload_n 3, 1) := by decide +kernel
theorem dX7_seen_9 : decode cX7_seen 9 = .ok (.iconst 2, 1) := by decide +kernel
theorem dX7_seen_10 : decode cX7_seen 10 = .ok (.iadd, 1) := by decide +kernel
theorem dX7_seen_11 : decode cX7_seen 11 = .ok (.aload_n 0, 1) := by decide +kernel
theorem dX7_seen_12 : decode cX7_seen 12 = .ok (.getfield 26, 3) := by decide +kernel
theorem dX7_seen_15 : decode cX7_seen 15 = .ok (.arraylength, 1) := by decide +kernel
theorem dX7_seen_16 : decode cX7_seen 16 = .ok (.if_icmp .lt 5, 3) := by decide +kernel
theorem dX7_seen_19 : decode cX7_seen 19 = .ok (.iconst 0, 1) := by decide +kernel
theorem dX7_seen_20 : decode cX7_seen 20 = .ok (.ireturn, 1) := by decide +kernel
theorem dX7_seen_21 : decode cX7_seen 21 = .ok (.aload_n 0, 1) := by decide +kernel
theorem dX7_seen_22 : decode cX7_seen 22 = .ok (.getfield 26, 3) := by decide +kernel
theorem dX7_seen_25 : decode cX7_seen 25 = .ok (.iload_n 3, 1) := by decide +kernel
theorem dX7_seen_26 : decode cX7_seen 26 = .ok (.iaload, 1) := by decide +kernel
theorem dX7_seen_27 : decode cX7_seen 27 = .ok (.aload_n 0, 1) := by decide +kernel
theorem dX7_seen_28 : decode cX7_seen 28 = .ok (.getfield 22, 3) := by decide +kernel
theorem dX7_seen_31 : decode cX7_seen 31 = .ok (.iload_n 2, 1) := by decide +kernel
theorem dX7_seen_32 : decode cX7_seen 32 = .ok (.invokevirtual 167, 3) := by decide +kernel
theorem dX7_seen_35 : decode cX7_seen 35 = .ok (.imul, 1) := by decide +kernel
theorem dX7_seen_36 : decode cX7_seen 36 = .ok (.aload_n 0, 1) := by decide +kernel
theorem dX7_seen_37 : decode cX7_seen 37 = .ok (.getfield 26, 3) := by decide +kernel
theorem dX7_seen_40 : decode cX7_seen 40 = .ok (.iload_n 3, 1) := by decide +kernel
theorem dX7_seen_41 : decode cX7_seen 41 = .ok (.iconst 1, 1) := by decide +kernel
theorem dX7_seen_42 : decode cX7_seen 42 = .ok (.iadd, 1) := by decide +kernel
theorem dX7_seen_43 : decode cX7_seen 43 = .ok (.iaload, 1) := by decide +kernel
theorem dX7_seen_44 : decode cX7_seen 44 = .ok (.aload_n 0, 1) := by decide +kernel
theorem dX7_seen_45 : decode cX7_seen 45 = .ok (.getfield 22, 3) := by decide +kernel
theorem dX7_seen_48 : decode cX7_seen 48 = .ok (.iload_n 2, 1) := by decide +kernel
theorem dX7_seen_49 : decode cX7_seen 49 = .ok (.invokevirtual 101, 3) := by decide +kernel
theorem dX7_seen_52 : decode cX7_seen 52 = .ok (.imul, 1) := by decide +kernel
theorem dX7_seen_53 : decode cX7_seen 53 = .ok (.iadd, 1) := by decide +kernel
theorem dX7_seen_54 : decode cX7_seen 54 = .ok (.aload_n 0, 1) := by decide +kernel
theorem dX7_seen_55 : decode cX7_seen 55 = .ok (.getfield 26, 3) := by decide +kernel
theorem dX7_seen_58 : decode cX7_seen 58 = .ok (.iload_n 3, 1) := by decide +kernel
theorem dX7_seen_59 : decode cX7_seen 59 = .ok (.iconst 2, 1) := by decide +kernel
theorem dX7_seen_60 : decode cX7_seen 60 = .ok (.iadd, 1) := by decide +kernel
theorem dX7_seen_61 : decode cX7_seen 61 = .ok (.iaload, 1) := by decide +kernel
theorem dX7_seen_62 : decode cX7_seen 62 = .ok (.aload_n 0, 1) := by decide +kernel
theorem dX7_seen_63 : decode cX7_seen 63 = .ok (.getfield 22, 3) := by decide +kernel
theorem dX7_seen_66 : decode cX7_seen 66 = .ok (.iload_n 2, 1) := by decide +kernel
theorem dX7_seen_67 : decode cX7_seen 67 = .ok (.invokevirtual 95, 3) := by decide +kernel
theorem dX7_seen_70 : decode cX7_seen 70 = .ok (.imul, 1) := by decide +kernel
theorem dX7_seen_71 : decode cX7_seen 71 = .ok (.iadd, 1) := by decide +kernel
theorem dX7_seen_72 : decode cX7_seen 72 = .ok (.bipush 10, 2) := by decide +kernel
theorem dX7_seen_74 : decode cX7_seen 74 = .ok (.idiv, 1) := by decide +kernel
theorem dX7_seen_75 : decode cX7_seen 75 = .ok (.ireturn, 1) := by decide +kernel
set_option maxRecDepth 20000 in
theorem ggX7_howFar_X2_touchX : GoodIn wsX7_howFar wsX2_touchX := goodIn_r _ [14, 15, 43, 44, 45, 46, 47, 48, 49, 50, 51, 52, 53, 54, 55, 56, 57] (by decide +kernel) (by decide +kernel)
set_option maxRecDepth 20000 in
theorem gX7_howFar_X2_touchX : GoodIn wsX7_howFar (wsV RX7 170 RX2 yX2_touchX wsX2_touchX) := goodIn_app (goodIn_of _ (by decide +kernel)) ggX7_howFar_X2_touchX
set_option maxRecDepth 20000 in
theorem ggX7_howFar_X8_firstOf : GoodIn wsX7_howFar wsX8_firstOf := goodIn_r _ [20, 21, 22, 23, 19, 24, 25, 26, 58, 59, 60, 61] (by decide +kernel) (by decide +kernel)
set_option maxRecDepth 20000 in
theorem gX7_howFar_X8_firstOf : GoodIn wsX7_howFar (wsV RX7 143 RX8 yX8_firstOf wsX8_firstOf) := goodIn_app (goodIn_of _ (by decide +kernel)) ggX7_howFar_X8_firstOf
set_option maxRecDepth 20000 in
theorem ggX7_howFar_X2_knownTouchY : GoodIn wsX7_howFar wsX2_knownTouchY := goodIn_r _ [30, 31, 43, 44, 45, 46, 47, 48, 49, 50, 51, 52, 53, 54, 55, 56, 57] (by decide +kernel) (by decide +kernel)
set_option maxRecDepth 20000 in
theorem gX7_howFar_X2_knownTouchY : GoodIn wsX7_howFar (wsV RX7 79 RX2 yX2_knownTouchY wsX2_knownTouchY) := goodIn_app (goodIn_of _ (by decide +kernel)) ggX7_howFar_X2_knownTouchY
set_option maxRecDepth 20000 in
theorem ggX7_howFar_X8_secondOf : GoodIn wsX7_howFar wsX8_secondOf := goodIn_r _ [35, 21, 22, 23, 19, 24, 25, 26, 58, 59, 60, 61] (by decide +kernel) (by decide +kernel)
set_option maxRecDepth 20000 in
theorem gX7_howFar_X8_secondOf : GoodIn wsX7_howFar (wsV RX7 149 RX8 yX8_secondOf wsX8_secondOf) := goodIn_app (goodIn_of _ (by decide +kernel)) ggX7_howFar_X8_secondOf
theorem dX7_howFar_0 : decode cX7_howFar 0 = .ok (.aload_n 0, 1) := by decide +kernel
theorem dX7_howFar_1 : decode cX7_howFar 1 = .ok (.getfield 22, 3) := by decide +kernel
theorem dX7_howFar_4 : decode cX7_howFar 4 = .ok (.invokevirtual 170, 3) := by decide +kernel
theorem dX7_howFar_7 : decode cX7_howFar 7 = .ok (.aload_n 0, 1) := by decide +kernel
theorem dX7_howFar_8 : decode cX7_howFar 8 = .ok (.getfield 18, 3) := by decide +kernel
theorem dX7_howFar_11 : decode cX7_howFar 11 = .ok (.iload_n 2, 1) := by decide +kernel
theorem dX7_howFar_12 : decode cX7_howFar 12 = .ok (.invokevirtual 143, 3) := by decide +kernel
theorem dX7_howFar_15 : decode cX7_howFar 15 = .ok (.isub, 1) := by decide +kernel
theorem dX7_howFar_16 : decode cX7_howFar 16 = .ok (.invokestatic 104, 3) := by decide +kernel
theorem dX7_howFar_19 : decode cX7_howFar 19 = .ok (.istore_n 3, 1) := by decide +kernel
theorem dX7_howFar_20 : decode cX7_howFar 20 = .ok (.aload_n 0, 1) := by decide +kernel
theorem dX7_howFar_21 : decode cX7_howFar 21 = .ok (.getfield 22, 3) := by decide +kernel
theorem dX7_howFar_24 : decode cX7_howFar 24 = .ok (.iload_n 1, 1) := by decide +kernel
theorem dX7_howFar_25 : decode cX7_howFar 25 = .ok (.invokevirtual 79, 3) := by decide +kernel
theorem dX7_howFar_28 : decode cX7_howFar 28 = .ok (.aload_n 0, 1) := by decide +kernel
theorem dX7_howFar_29 : decode cX7_howFar 29 = .ok (.getfield 18, 3) := by decide +kernel
theorem dX7_howFar_32 : decode cX7_howFar 32 = .ok (.iload_n 2, 1) := by decide +kernel
theorem dX7_howFar_33 : decode cX7_howFar 33 = .ok (.invokevirtual 149, 3) := by decide +kernel
theorem dX7_howFar_36 : decode cX7_howFar 36 = .ok (.isub, 1) := by decide +kernel
theorem dX7_howFar_37 : decode cX7_howFar 37 = .ok (.invokestatic 104, 3) := by decide +kernel
theorem dX7_howFar_40 : decode cX7_howFar 40 = .ok (.istore 4, 2) := by decide +kernel
theorem dX7_howFar_42 : decode cX7_howFar 42 = .ok (.iload_n 3, 1) := by decide +kernel
theorem dX7_howFar_43 : decode cX7_howFar 43 = .ok (.iload 4, 2) := by decide +kernel
theorem dX7_howFar_45 : decode cX7_howFar 45 = .ok (.invokestatic 139, 3) := by decide +kernel
theorem dX7_howFar_48 : decode cX7_howFar 48 = .ok (.ireturn, 1) := by decide +kernel
set_option maxRecDepth 20000 in
theorem ggX7_howLate_X8_speedOf : GoodIn wsX7_howLate wsX8_speedOf := goodIn_r _ [12, 13, 14, 15, 11, 16, 17, 18, 62, 63, 64, 65] (by decide +kernel) (by decide +kernel)
set_option maxRecDepth 20000 in
theorem gX7_howLate_X8_speedOf : GoodIn wsX7_howLate (wsV RX7 173 RX8 yX8_speedOf wsX8_speedOf) := goodIn_app (goodIn_of _ (by decide +kernel)) ggX7_howLate_X8_speedOf
set_option maxRecDepth 20000 in
theorem ggX7_howLate_X7_howFar : GoodIn wsX7_howLate wsX7_howFar := goodIn_r _ [23, 3, 1, 4, 5, 6, 7, 24, 25, 26, 27, 28, 29, 30, 31, 32, 33, 34, 35, 11, 36, 13, 14, 15, 16, 17, 18, 37, 38, 39, 40, 41, 42, 43, 44, 45, 55, 56, 57, 58, 59, 60, 61, 66, 67, 68, 69, 70, 71, 72, 73, 74, 75, 76, 77, 78, 79, 80, 62, 63, 64, 65] (by decide +kernel) (by decide +kernel)
set_option maxRecDepth 20000 in
theorem gX7_howLate_X7_howFar : GoodIn wsX7_howLate (wsV RX7 158 RX7 yX7_howFar wsX7_howFar) := goodIn_app (goodIn_of _ (by decide +kernel)) ggX7_howLate_X7_howFar
set_option maxRecDepth 20000 in
theorem ggX7_howLate_X2_touchTick : GoodIn wsX7_howLate wsX2_touchTick := goodIn_r _ [49, 50, 66, 67, 68, 69, 70, 71, 72, 73, 74, 75, 76, 77, 78, 79, 80] (by decide +kernel) (by decide +kernel)
set_option maxRecDepth 20000 in
theorem gX7_howLate_X2_touchTick : GoodIn wsX7_howLate (wsV RX7 176 RX2 yX2_touchTick wsX2_touchTick) := goodIn_app (goodIn_of _ (by decide +kernel)) ggX7_howLate_X2_touchTick
set_option maxRecDepth 20000 in
theorem ggX7_howLate_X8_tickOf : GoodIn wsX7_howLate wsX8_tickOf := goodIn_r _ [54, 13, 14, 15, 11, 16, 17, 18, 62, 63, 64, 65] (by decide +kernel) (by decide +kernel)
set_option maxRecDepth 20000 in
theorem gX7_howLate_X8_tickOf : GoodIn wsX7_howLate (wsV RX7 136 RX8 yX8_tickOf wsX8_tickOf) := goodIn_app (goodIn_of _ (by decide +kernel)) ggX7_howLate_X8_tickOf
theorem dX7_howLate_0 : decode cX7_howLate 0 = .ok (.aload_n 0, 1) := by decide +kernel
theorem dX7_howLate_1 : decode cX7_howLate 1 = .ok (.getfield 18, 3) := by decide +kernel
theorem dX7_howLate_4 : decode cX7_howLate 4 = .ok (.iload_n 2, 1) := by decide +kernel
theorem dX7_howLate_5 : decode cX7_howLate 5 = .ok (.invokevirtual 173, 3) := by decide +kernel
theorem dX7_howLate_8 : decode cX7_howLate 8 = .ok (.istore_n 3, 1) := by decide +kernel
theorem dX7_howLate_9 : decode cX7_howLate 9 = .ok (.iload_n 3, 1) := by decide +kernel
theorem dX7_howLate_10 : decode cX7_howLate 10 = .ok (.iconst 1, 1) := by decide +kernel
theorem dX7_howLate_11 : decode cX7_howLate 11 = .ok (.if_icmp .ge 6, 3) := by decide +kernel
theorem dX7_howLate_14 : decode cX7_howLate 14 = .ok (.ldc 142, 2) := by decide +kernel
theorem dX7_howLate_16 : decode cX7_howLate 16 = .ok (.ireturn, 1) := by decide +kernel
theorem dX7_howLate_17 : decode cX7_howLate 17 = .ok (.aload_n 0, 1) := by decide +kernel
theorem dX7_howLate_18 : decode cX7_howLate 18 = .ok (.iload_n 1, 1) := by decide +kernel
theorem dX7_howLate_19 : decode cX7_howLate 19 = .ok (.iload_n 2, 1) := by decide +kernel
theorem dX7_howLate_20 : decode cX7_howLate 20 = .ok (.invokevirtual 158, 3) := by decide +kernel
theorem dX7_howLate_23 : decode cX7_howLate 23 = .ok (.iload_n 3, 1) := by decide +kernel
theorem dX7_howLate_24 : decode cX7_howLate 24 = .ok (.iadd, 1) := by decide +kernel
theorem dX7_howLate_25 : decode cX7_howLate 25 = .ok (.iconst 1, 1) := by decide +kernel
theorem dX7_howLate_26 : decode cX7_howLate 26 = .ok (.isub, 1) := by decide +kernel
theorem dX7_howLate_27 : decode cX7_howLate 27 = .ok (.iload_n 3, 1) := by decide +kernel
theorem dX7_howLate_28 : decode cX7_howLate 28 = .ok (.idiv, 1) := by decide +kernel
theorem dX7_howLate_29 : decode cX7_howLate 29 = .ok (.istore 4, 2) := by decide +kernel
theorem dX7_howLate_31 : decode cX7_howLate 31 = .ok (.aload_n 0, 1) := by decide +kernel
theorem dX7_howLate_32 : decode cX7_howLate 32 = .ok (.getfield 22, 3) := by decide +kernel
theorem dX7_howLate_35 : decode cX7_howLate 35 = .ok (.invokevirtual 176, 3) := by decide +kernel
theorem dX7_howLate_38 : decode cX7_howLate 38 = .ok (.iload 4, 2) := by decide +kernel
theorem dX7_howLate_40 : decode cX7_howLate 40 = .ok (.iadd, 1) := by decide +kernel
theorem dX7_howLate_41 : decode cX7_howLate 41 = .ok (.aload_n 0, 1) := by decide +kernel
theorem dX7_howLate_42 : decode cX7_howLate 42 = .ok (.getfield 18, 3) := by decide +kernel
theorem dX7_howLate_45 : decode cX7_howLate 45 = .ok (.iload_n 2, 1) := by decide +kernel
theorem dX7_howLate_46 : decode cX7_howLate 46 = .ok (.invokevirtual 136, 3) := by decide +kernel
theorem dX7_howLate_49 : decode cX7_howLate 49 = .ok (.isub, 1) := by decide +kernel
theorem dX7_howLate_50 : decode cX7_howLate 50 = .ok (.invokestatic 104, 3) := by decide +kernel
theorem dX7_howLate_53 : decode cX7_howLate 53 = .ok (.ireturn, 1) := by decide +kernel
theorem dX8_init_0 : decode cX8_init 0 = .ok (.aload_n 0, 1) := by decide +kernel
theorem dX8_init_1 : decode cX8_init 1 = .ok (.invokespecial 3, 3) := by decide +kernel
theorem dX8_init_4 : decode cX8_init 4 = .ok (.aload_n 0, 1) := by decide +kernel
theorem dX8_init_5 : decode cX8_init 5 = .ok (.bipush 6, 2) := by decide +kernel
theorem dX8_init_7 : decode cX8_init 7 = .ok (.newarray .int, 2) := by decide +kernel
theorem dX8_init_9 : decode cX8_init 9 = .ok (.putfield 9, 3) := by decide +kernel
theorem dX8_init_12 : decode cX8_init 12 = .ok (.aload_n 0, 1) := by decide +kernel
theorem dX8_init_13 : decode cX8_init 13 = .ok (.sipush 180, 3) := by decide +kernel
theorem dX8_init_16 : decode cX8_init 16 = .ok (.newarray .int, 2) := by decide +kernel
theorem dX8_init_18 : decode cX8_init 18 = .ok (.putfield 15, 3) := by decide +kernel
theorem dX8_init_21 : decode cX8_init 21 = .ok (.return_, 1) := by decide +kernel
set_option maxRecDepth 20000 in
theorem ggX8_mayBegin_X9_within : GoodIn wsX8_mayBegin wsX9_within := goodIn_r _ [5] (by decide +kernel) (by decide +kernel)
set_option maxRecDepth 20000 in
theorem gX8_mayBegin_X9_within_n24 : GoodIn wsX8_mayBegin (wsX9_within) := ggX8_mayBegin_X9_within
theorem dX8_mayBegin_0 : decode cX8_mayBegin 0 = .ok (.iload_n 0, 1) := by decide +kernel
theorem dX8_mayBegin_1 : decode cX8_mayBegin 1 = .ok (.ifCond .lt 40, 3) := by decide +kernel
theorem dX8_mayBegin_4 : decode cX8_mayBegin 4 = .ok (.iload_n 0, 1) := by decide +kernel
theorem dX8_mayBegin_5 : decode cX8_mayBegin 5 = .ok (.getstatic 18, 3) := by decide +kernel
theorem dX8_mayBegin_8 : decode cX8_mayBegin 8 = .ok (.arraylength, 1) := by decide +kernel
theorem dX8_mayBegin_9 : decode cX8_mayBegin 9 = .ok (.if_icmp .ge 32, 3) := by decide +kernel
theorem dX8_mayBegin_12 : decode cX8_mayBegin 12 = .ok (.iload_n 0, 1) := by decide +kernel
theorem dX8_mayBegin_13 : decode cX8_mayBegin 13 = .ok (.getstatic 21, 3) := by decide +kernel
theorem dX8_mayBegin_16 : decode cX8_mayBegin 16 = .ok (.arraylength, 1) := by decide +kernel
theorem dX8_mayBegin_17 : decode cX8_mayBegin 17 = .ok (.if_icmp .ge 24, 3) := by decide +kernel
theorem dX8_mayBegin_20 : decode cX8_mayBegin 20 = .ok (.iload_n 1, 1) := by decide +kernel
theorem dX8_mayBegin_21 : decode cX8_mayBegin 21 = .ok (.getstatic 18, 3) := by decide +kernel
theorem dX8_mayBegin_24 : decode cX8_mayBegin 24 = .ok (.iload_n 0, 1) := by decide +kernel
theorem dX8_mayBegin_25 : decode cX8_mayBegin 25 = .ok (.iaload, 1) := by decide +kernel
theorem dX8_mayBegin_26 : decode cX8_mayBegin 26 = .ok (.getstatic 21, 3) := by decide +kernel
theorem dX8_mayBegin_29 : decode cX8_mayBegin 29 = .ok (.iload_n 0, 1) := by decide +kernel
theorem dX8_mayBegin_30 : decode cX8_mayBegin 30 = .ok (.iaload, 1) := by decide +kernel
theorem dX8_mayBegin_31 : decode cX8_mayBegin 31 = .ok (.invokestatic 24, 3) := by decide +kernel
theorem dX8_mayBegin_34 : decode cX8_mayBegin 34 = .ok (.ifCond .eq 7, 3) := by decide +kernel
theorem dX8_mayBegin_37 : decode cX8_mayBegin 37 = .ok (.iconst 1, 1) := by decide +kernel
theorem dX8_mayBegin_38 : decode cX8_mayBegin 38 = .ok (.goto 4, 3) := by decide +kernel
theorem dX8_mayBegin_41 : decode cX8_mayBegin 41 = .ok (.iconst 0, 1) := by decide +kernel
theorem dX8_mayBegin_42 : decode cX8_mayBegin 42 = .ok (.ireturn, 1) := by decide +kernel
set_option maxRecDepth 20000 in
theorem ggX8_begin_X8_startOf : GoodIn wsX8_begin wsX8_startOf := goodIn_r _ [6, 1, 7, 8, 9, 10] (by decide +kernel) (by decide +kernel)
set_option maxRecDepth 20000 in
theorem gX8_begin_X8_startOf : GoodIn wsX8_begin (wsV RX8 28 RX8 yX8_startOf wsX8_startOf) := goodIn_app (goodIn_of _ (by decide +kernel)) ggX8_begin_X8_startOf
theorem dX8_begin_0 : decode cX8_begin 0 = .ok (.aload_n 0, 1) := by decide +kernel
theorem dX8_begin_1 : decode cX8_begin 1 = .ok (.iload_n 1, 1) := by decide +kernel
theorem dX8_begin_2 : decode cX8_begin 2 = .ok (.invokevirtual 28, 3) := by decide +kernel
theorem dX8_begin_5 : decode cX8_begin 5 = .ok (.istore_n 3, 1) := by decide +kernel
theorem dX8_begin_6 : decode cX8_begin 6 = .ok (.iload_n 1, 1) := by decide +kernel
theorem dX8_begin_7 : decode cX8_begin 7 = .ok (.ifCond .lt 19, 3) := by decide +kernel
theorem dX8_begin_10 : decode cX8_begin 10 = .ok (.iload_n 1, 1) := by decide +kernel
theorem dX8_begin_11 : decode cX8_begin 11 = .ok (.aload_n 0, 1) := by decide +kernel
theorem dX8_begin_12 : decode cX8_begin 12 = .ok (.getfield 9, 3) := by decide +kernel
theorem dX8_begin_15 : decode cX8_begin 15 = .ok (.arraylength, 1) := by decide +kernel
theorem dX8_begin_16 : decode cX8_begin 16 = .ok (.if_icmp .ge 10, 3) := by decide +kernel
theorem dX8_begin_19 : decode cX8_begin 19 = .ok (.aload_n 0, 1) := by decide +kernel
theorem dX8_begin_20 : decode cX8_begin 20 = .ok (.getfield 9, 3) := by decide +kernel
theorem dX8_begin_23 : decode cX8_begin 23 = .ok (.iload_n 1, 1) := by decide +kernel
theorem dX8_begin_24 : decode cX8_begin 24 = .ok (.iload_n 2, 1) := by decide +kernel
theorem dX8_begin_25 : decode cX8_begin 25 = .ok (.iastore, 1) := by decide +kernel
theorem dX8_begin_26 : decode cX8_begin 26 = .ok (.iload_n 3, 1) := by decide +kernel
theorem dX8_begin_27 : decode cX8_begin 27 = .ok (.ireturn, 1) := by decide +kernel
theorem dX8_startOf_0 : decode cX8_startOf 0 = .ok (.iload_n 1, 1) := by decide +kernel
theorem dX8_startOf_1 : decode cX8_startOf 1 = .ok (.ifCond .lt 21, 3) := by decide +kernel
theorem dX8_startOf_4 : decode cX8_startOf 4 = .ok (.iload_n 1, 1) := by decide +kernel
theorem dX8_startOf_5 : decode cX8_startOf 5 = .ok (.aload_n 0, 1) := by decide +kernel
theorem dX8_startOf_6 : decode cX8_startOf 6 = .ok (.getfield 9, 3) := by decide +kernel
theorem dX8_startOf_9 : decode cX8_startOf 9 = .ok (.arraylength, 1) := by decide +kernel
theorem dX8_startOf_10 : decode cX8_startOf 10 = .ok (.if_icmp .ge 12, 3) := by decide +kernel
theorem dX8_startOf_13 : decode cX8_startOf 13 = .ok (.aload_n 0, 1) := by decide +kernel
theorem dX8_startOf_14 : decode cX8_startOf 14 = .ok (.getfield 9, 3) := by decide +kernel
theorem dX8_startOf_17 : decode cX8_startOf 17 = .ok (.iload_n 1, 1) := by decide +kernel
theorem dX8_startOf_18 : decode cX8_startOf 18 = .ok (.iaload, 1) := by decide +kernel
theorem dX8_startOf_19 : decode cX8_startOf 19 = .ok (.goto 4, 3) := by decide +kernel
theorem dX8_startOf_22 : decode cX8_startOf 22 = .ok (.iconst 0, 1) := by decide +kernel
theorem dX8_startOf_23 : decode cX8_startOf 23 = .ok (.ireturn, 1) := by decide +kernel
theorem dX8_sightCount_0 : decode cX8_sightCount 0 = .ok (.aload_n 0, 1) := by decide +kernel
theorem dX8_sightCount_1 : decode cX8_sightCount 1 = .ok (.getfield 32, 3) := by decide +kernel
theorem dX8_sightCount_4 : decode cX8_sightCount 4 = .ok (.ireturn, 1) := by decide +kernel
theorem dX8_leftOut_0 : decode cX8_leftOut 0 = .ok (.aload_n 0, 1) := by decide +kernel
theorem dX8_leftOut_1 : decode cX8_leftOut 1 = .ok (.getfield 36, 3) := by decide +kernel
theorem dX8_leftOut_4 : decode cX8_leftOut 4 = .ok (.ireturn, 1) := by decide +kernel
theorem dX8_leaveOut_0 : decode cX8_leaveOut 0 = .ok (.aload_n 0, 1) := by decide +kernel
theorem dX8_leaveOut_1 : decode cX8_leaveOut 1 = .ok (.getfield 36, 3) := by decide +kernel
theorem dX8_leaveOut_4 : decode cX8_leaveOut 4 = .ok (.istore_n 2, 1) := by decide +kernel
theorem dX8_leaveOut_5 : decode cX8_leaveOut 5 = .ok (.aload_n 0, 1) := by decide +kernel
theorem dX8_leaveOut_6 : decode cX8_leaveOut 6 = .ok (.iload_n 1, 1) := by decide +kernel
theorem dX8_leaveOut_7 : decode cX8_leaveOut 7 = .ok (.putfield 36, 3) := by decide +kernel
theorem dX8_leaveOut_10 : decode cX8_leaveOut 10 = .ok (.iload_n 2, 1) := by decide +kernel
theorem dX8_leaveOut_11 : decode cX8_leaveOut 11 = .ok (.ireturn, 1) := by decide +kernel
theorem dX8_dropSights_0 : decode cX8_dropSights 0 = .ok (.aload_n 0, 1) := by decide +kernel
theorem dX8_dropSights_1 : decode cX8_dropSights 1 = .ok (.getfield 32, 3) := by decide +kernel
theorem dX8_dropSights_4 : decode cX8_dropSights 4 = .ok (.istore_n 1, 1) := by decide +kernel
theorem dX8_dropSights_5 : decode cX8_dropSights 5 = .ok (.aload_n 0, 1) := by decide +kernel
theorem dX8_dropSights_6 : decode cX8_dropSights 6 = .ok (.iconst 0, 1) := by decide +kernel
theorem dX8_dropSights_7 : decode cX8_dropSights 7 = .ok (.putfield 32, 3) := by decide +kernel
theorem dX8_dropSights_10 : decode cX8_dropSights 10 = .ok (.iload_n 1, 1) := by decide +kernel
theorem dX8_dropSights_11 : decode cX8_dropSights 11 = .ok (.ireturn, 1) := by decide +kernel
theorem dX8_addSight_0 : decode cX8_addSight 0 = .ok (.aload_n 0, 1) := by decide +kernel
theorem dX8_addSight_1 : decode cX8_addSight 1 = .ok (.getfield 32, 3) := by decide +kernel
theorem dX8_addSight_4 : decode cX8_addSight 4 = .ok (.bipush 6, 2) := by decide +kernel
theorem dX8_addSight_6 : decode cX8_addSight 6 = .ok (.imul, 1) := by decide +kernel
theorem dX8_addSight_7 : decode cX8_addSight 7 = .ok (.istore 7, 2) := by decide +kernel
theorem dX8_addSight_9 : decode cX8_addSight 9 = .ok (.aload_n 0, 1) := by decide +kernel
theorem dX8_addSight_10 : decode cX8_addSight 10 = .ok (.getfield 32, 3) := by decide +kernel
theorem dX8_addSight_13 : decode cX8_addSight 13 = .ok (.bipush 30, 2) := by decide +kernel
theorem dX8_addSight_15 : decode cX8_addSight 15 = .ok (.if_icmp .ge 21, 3) := by decide +kernel
theorem dX8_addSight_18 : decode cX8_addSight 18 = .ok (.iload 7, 2) := by decide +kernel
theorem dX8_addSight_20 : decode cX8_addSight 20 = .ok (.ifCond .lt 16, 3) := by decide +kernel
theorem dX8_addSight_23 : decode cX8_addSight 23 = .ok (.iload 7, 2) := by decide +kernel
theorem dX8_addSight_25 : decode cX8_addSight 25 = .ok (.bipush 6, 2) := by decide +kernel
theorem dX8_addSight_27 : decode cX8_addSight 27 = .ok (.iadd, 1) := by decide +kernel
theorem dX8_addSight_28 : decode cX8_addSight 28 = .ok (.aload_n 0, 1) := by decide +kernel
theorem dX8_addSight_29 : decode cX8_addSight 29 = .ok (.getfield 15, 3) := by decide +kernel
theorem dX8_addSight_32 : decode cX8_addSight 32 = .ok (.arraylength, 1) := by decide +kernel
theorem dX8_addSight_33 : decode cX8_addSight 33 = .ok (.if_icmp .le 6, 3) := by decide +kernel
theorem dX8_addSight_36 : decode cX8_addSight 36 = .ok (.bipush (-3), 2) := by decide +kernel
theorem dX8_addSight_38 : decode cX8_addSight 38 = .ok (.ireturn, 1) := by decide +kernel
theorem dX8_addSight_39 : decode cX8_addSight 39 = .ok (.aload_n 0, 1) := by decide +kernel
theorem dX8_addSight_40 : decode cX8_addSight 40 = .ok (.getfield 15, 3) := by decide +kernel
theorem dX8_addSight_43 : decode cX8_addSight 43 = .ok (.iload 7, 2) := by decide +kernel
theorem dX8_addSight_45 : decode cX8_addSight 45 = .ok (.iload_n 1, 1) := by decide +kernel
theorem dX8_addSight_46 : decode cX8_addSight 46 = .ok (.iastore, 1) := by decide +kernel
theorem dX8_addSight_47 : decode cX8_addSight 47 = .ok (.aload_n 0, 1) := by decide +kernel
theorem dX8_addSight_48 : decode cX8_addSight 48 = .ok (.getfield 15, 3) := by decide +kernel
theorem dX8_addSight_51 : decode cX8_addSight 51 = .ok (.iload 7, 2) := by decide +kernel
theorem dX8_addSight_53 : decode cX8_addSight 53 = .ok (.iconst 1, 1) := by decide +kernel
theorem dX8_addSight_54 : decode cX8_addSight 54 = .ok (.iadd, 1) := by decide +kernel
theorem dX8_addSight_55 : decode cX8_addSight 55 = .ok (.iload_n 2, 1) := by decide +kernel
theorem dX8_addSight_56 : decode cX8_addSight 56 = .ok (.iastore, 1) := by decide +kernel
theorem dX8_addSight_57 : decode cX8_addSight 57 = .ok (.aload_n 0, 1) := by decide +kernel
theorem dX8_addSight_58 : decode cX8_addSight 58 = .ok (.getfield 15, 3) := by decide +kernel
theorem dX8_addSight_61 : decode cX8_addSight 61 = .ok (.iload 7, 2) := by decide +kernel
theorem dX8_addSight_63 : decode cX8_addSight 63 = .ok (.iconst 2, 1) := by decide +kernel
theorem dX8_addSight_64 : decode cX8_addSight 64 = .ok (.iadd, 1) := by decide +kernel
theorem dX8_addSight_65 : decode cX8_addSight 65 = .ok (.iload_n 3, 1) := by decide +kernel
theorem dX8_addSight_66 : decode cX8_addSight 66 = .ok (.iastore, 1) := by decide +kernel
theorem dX8_addSight_67 : decode cX8_addSight 67 = .ok (.aload_n 0, 1) := by decide +kernel
theorem dX8_addSight_68 : decode cX8_addSight 68 = .ok (.getfield 15, 3) := by decide +kernel
theorem dX8_addSight_71 : decode cX8_addSight 71 = .ok (.iload 7, 2) := by decide +kernel
theorem dX8_addSight_73 : decode cX8_addSight 73 = .ok (.iconst 3, 1) := by decide +kernel
theorem dX8_addSight_74 : decode cX8_addSight 74 = .ok (.iadd, 1) := by decide +kernel
theorem dX8_addSight_75 : decode cX8_addSight 75 = .ok (.iload 4, 2) := by decide +kernel
theorem dX8_addSight_77 : decode cX8_addSight 77 = .ok (.iastore, 1) := by decide +kernel
theorem dX8_addSight_78 : decode cX8_addSight 78 = .ok (.aload_n 0, 1) := by decide +kernel
theorem dX8_addSight_79 : decode cX8_addSight 79 = .ok (.getfield 15, 3) := by decide +kernel
theorem dX8_addSight_82 : decode cX8_addSight 82 = .ok (.iload 7, 2) := by decide +kernel
theorem dX8_addSight_84 : decode cX8_addSight 84 = .ok (.iconst 4, 1) := by decide +kernel
theorem dX8_addSight_85 : decode cX8_addSight 85 = .ok (.iadd, 1) := by decide +kernel
theorem dX8_addSight_86 : decode cX8_addSight 86 = .ok (.iload 5, 2) := by decide +kernel
theorem dX8_addSight_88 : decode cX8_addSight 88 = .ok (.iastore, 1) := by decide +kernel
theorem dX8_addSight_89 : decode cX8_addSight 89 = .ok (.aload_n 0, 1) := by decide +kernel
theorem dX8_addSight_90 : decode cX8_addSight 90 = .ok (.getfield 15, 3) := by decide +kernel
theorem dX8_addSight_93 : decode cX8_addSight 93 = .ok (.iload 7, 2) := by decide +kernel
theorem dX8_addSight_95 : decode cX8_addSight 95 = .ok (.iconst 5, 1) := by decide +kernel
theorem dX8_addSight_96 : decode cX8_addSight 96 = .ok (.iadd, 1) := by decide +kernel
theorem dX8_addSight_97 : decode cX8_addSight 97 = .ok (.iload 6, 2) := by decide +kernel
theorem dX8_addSight_99 : decode cX8_addSight 99 = .ok (.iastore, 1) := by decide +kernel
theorem dX8_addSight_100 : decode cX8_addSight 100 = .ok (.aload_n 0, 1) := by decide +kernel
theorem dX8_addSight_101 : decode cX8_addSight 101 = .ok (.dup, 1) := by decide +kernel
theorem dX8_addSight_102 : decode cX8_addSight 102 = .ok (.getfield 32, 3) := by decide +kernel
theorem dX8_addSight_105 : decode cX8_addSight 105 = .ok (.iconst 1, 1) := by decide +kernel
theorem dX8_addSight_106 : decode cX8_addSight 106 = .ok (.iadd, 1) := by decide +kernel
theorem dX8_addSight_107 : decode cX8_addSight 107 = .ok (.putfield 32, 3) := by decide +kernel
theorem dX8_addSight_110 : decode cX8_addSight 110 = .ok (.aload_n 0, 1) := by decide +kernel
theorem dX8_addSight_111 : decode cX8_addSight 111 = .ok (.getfield 32, 3) := by decide +kernel
theorem dX8_addSight_114 : decode cX8_addSight 114 = .ok (.iconst 1, 1) := by decide +kernel
theorem dX8_addSight_115 : decode cX8_addSight 115 = .ok (.isub, 1) := by decide +kernel
theorem dX8_addSight_116 : decode cX8_addSight 116 = .ok (.ireturn, 1) := by decide +kernel
set_option maxRecDepth 20000 in
theorem ggX8_isBlur_X8_part : GoodIn wsX8_isBlur wsX8_part := goodIn_r _ [5, 6, 7, 8, 9, 10, 11] (by decide +kernel) (by decide +kernel)
set_option maxRecDepth 20000 in
theorem gX8_isBlur_X8_part : GoodIn wsX8_isBlur (wsV RX8 39 RX8 yX8_part wsX8_part) := goodIn_app (goodIn_of _ (by decide +kernel)) ggX8_isBlur_X8_part
theorem dX8_isBlur_0 : decode cX8_isBlur 0 = .ok (.aload_n 0, 1) := by decide +kernel
theorem dX8_isBlur_1 : decode cX8_isBlur 1 = .ok (.iload_n 1, 1) := by decide +kernel
theorem dX8_isBlur_2 : decode cX8_isBlur 2 = .ok (.iconst 0, 1) := by decide +kernel
theorem dX8_isBlur_3 : decode cX8_isBlur 3 = .ok (.invokevirtual 39, 3) := by decide +kernel
theorem dX8_isBlur_6 : decode cX8_isBlur 6 = .ok (.ifCond .ne 7, 3) := by decide +kernel
theorem dX8_isBlur_9 : decode cX8_isBlur 9 = .ok (.iconst 1, 1) := by decide +kernel
theorem dX8_isBlur_10 : decode cX8_isBlur 10 = .ok (.goto 4, 3) := by decide +kernel
theorem dX8_isBlur_13 : decode cX8_isBlur 13 = .ok (.iconst 0, 1) := by decide +kernel
theorem dX8_isBlur_14 : decode cX8_isBlur 14 = .ok (.ireturn, 1) := by decide +kernel
set_option maxRecDepth 20000 in
theorem ggX8_kindOf_X8_part : GoodIn wsX8_kindOf wsX8_part := goodIn_r _ [5, 6, 7, 8, 9, 10, 11] (by decide +kernel) (by decide +kernel)
set_option maxRecDepth 20000 in
theorem gX8_kindOf_X8_part : GoodIn wsX8_kindOf (wsV RX8 39 RX8 yX8_part wsX8_part) := goodIn_app (goodIn_of _ (by decide +kernel)) ggX8_kindOf_X8_part
theorem dX8_kindOf_0 : decode cX8_kindOf 0 = .ok (.aload_n 0, 1) := by decide +kernel
theorem dX8_kindOf_1 : decode cX8_kindOf 1 = .ok (.iload_n 1, 1) := by decide +kernel
theorem dX8_kindOf_2 : decode cX8_kindOf 2 = .ok (.iconst 0, 1) := by decide +kernel
theorem dX8_kindOf_3 : decode cX8_kindOf 3 = .ok (.invokevirtual 39, 3) := by decide +kernel
theorem dX8_kindOf_6 : decode cX8_kindOf 6 = .ok (.ireturn, 1) := by decide +kernel
set_option maxRecDepth 20000 in
theorem ggX8_firstOf_X8_part : GoodIn wsX8_firstOf wsX8_part := goodIn_r _ [5, 6, 7, 8, 9, 10, 11] (by decide +kernel) (by decide +kernel)
set_option maxRecDepth 20000 in
theorem gX8_firstOf_X8_part : GoodIn wsX8_firstOf (wsV RX8 39 RX8 yX8_part wsX8_part) := goodIn_app (goodIn_of _ (by decide +kernel)) ggX8_firstOf_X8_part
theorem dX8_firstOf_0 : decode cX8_firstOf 0 = .ok (.aload_n 0, 1) := by decide +kernel
theorem dX8_firstOf_1 : decode cX8_firstOf 1 = .ok (.iload_n 1, 1) := by decide +kernel
theorem dX8_firstOf_2 : decode cX8_firstOf 2 = .ok (.iconst 1, 1) := by decide +kernel
theorem dX8_firstOf_3 : decode cX8_firstOf 3 = .ok (.invokevirtual 39, 3) := by decide +kernel
theorem dX8_firstOf_6 : decode cX8_firstOf 6 = .ok (.ireturn, 1) := by decide +kernel
set_option maxRecDepth 20000 in
theorem ggX8_secondOf_X8_part : GoodIn wsX8_secondOf wsX8_part := goodIn_r _ [5, 6, 7, 8, 9, 10, 11] (by decide +kernel) (by decide +kernel)
set_option maxRecDepth 20000 in
theorem gX8_secondOf_X8_part : GoodIn wsX8_secondOf (wsV RX8 39 RX8 yX8_part wsX8_part) := goodIn_app (goodIn_of _ (by decide +kernel)) ggX8_secondOf_X8_part
theorem dX8_secondOf_0 : decode cX8_secondOf 0 = .ok (.aload_n 0, 1) := by decide +kernel
theorem dX8_secondOf_1 : decode cX8_secondOf 1 = .ok (.iload_n 1, 1) := by decide +kernel
theorem dX8_secondOf_2 : decode cX8_secondOf 2 = .ok (.iconst 2, 1) := by decide +kernel
theorem dX8_secondOf_3 : decode cX8_secondOf 3 = .ok (.invokevirtual 39, 3) := by decide +kernel
theorem dX8_secondOf_6 : decode cX8_secondOf 6 = .ok (.ireturn, 1) := by decide +kernel
set_option maxRecDepth 20000 in
theorem ggX8_tickOf_X8_part : GoodIn wsX8_tickOf wsX8_part := goodIn_r _ [5, 6, 7, 8, 9, 10, 11] (by decide +kernel) (by decide +kernel)
set_option maxRecDepth 20000 in
theorem gX8_tickOf_X8_part : GoodIn wsX8_tickOf (wsV RX8 39 RX8 yX8_part wsX8_part) := goodIn_app (goodIn_of _ (by decide +kernel)) ggX8_tickOf_X8_part
theorem dX8_tickOf_0 : decode cX8_tickOf 0 = .ok (.aload_n 0, 1) := by decide +kernel
theorem dX8_tickOf_1 : decode cX8_tickOf 1 = .ok (.iload_n 1, 1) := by decide +kernel
theorem dX8_tickOf_2 : decode cX8_tickOf 2 = .ok (.iconst 3, 1) := by decide +kernel
theorem dX8_tickOf_3 : decode cX8_tickOf 3 = .ok (.invokevirtual 39, 3) := by decide +kernel
theorem dX8_tickOf_6 : decode cX8_tickOf 6 = .ok (.ireturn, 1) := by decide +kernel
set_option maxRecDepth 20000 in
theorem ggX8_doubtOf_X8_part : GoodIn wsX8_doubtOf wsX8_part := goodIn_r _ [5, 6, 7, 8, 9, 10, 11] (by decide +kernel) (by decide +kernel)
set_option maxRecDepth 20000 in
theorem gX8_doubtOf_X8_part : GoodIn wsX8_doubtOf (wsV RX8 39 RX8 yX8_part wsX8_part) := goodIn_app (goodIn_of _ (by decide +kernel)) ggX8_doubtOf_X8_part
theorem dX8_doubtOf_0 : decode cX8_doubtOf 0 = .ok (.aload_n 0, 1) := by decide +kernel
theorem dX8_doubtOf_1 : decode cX8_doubtOf 1 = .ok (.iload_n 1, 1) := by decide +kernel
theorem dX8_doubtOf_2 : decode cX8_doubtOf 2 = .ok (.iconst 4, 1) := by decide +kernel
theorem dX8_doubtOf_3 : decode cX8_doubtOf 3 = .ok (.invokevirtual 39, 3) := by decide +kernel
theorem dX8_doubtOf_6 : decode cX8_doubtOf 6 = .ok (.ireturn, 1) := by decide +kernel
set_option maxRecDepth 20000 in
theorem ggX8_speedOf_X8_part : GoodIn wsX8_speedOf wsX8_part := goodIn_r _ [5, 6, 7, 8, 9, 10, 11] (by decide +kernel) (by decide +kernel)
set_option maxRecDepth 20000 in
theorem gX8_speedOf_X8_part : GoodIn wsX8_speedOf (wsV RX8 39 RX8 yX8_part wsX8_part) := goodIn_app (goodIn_of _ (by decide +kernel)) ggX8_speedOf_X8_part
theorem dX8_speedOf_0 : decode cX8_speedOf 0 = .ok (.aload_n 0, 1) := by decide +kernel
theorem dX8_speedOf_1 : decode cX8_speedOf 1 = .ok (.iload_n 1, 1) := by decide +kernel
theorem dX8_speedOf_2 : decode cX8_speedOf 2 = .ok (.iconst 5, 1) := by decide +kernel
theorem dX8_speedOf_3 : decode cX8_speedOf 3 = .ok (.invokevirtual 39, 3) := by decide +kernel
theorem dX8_speedOf_6 : decode cX8_speedOf 6 = .ok (.ireturn, 1) := by decide +kernel
set_option maxRecDepth 20000 in
theorem ggX8_askedSights_X8_askedBlurs : GoodIn wsX8_askedSights wsX8_askedBlurs := goodIn_r _ [6, 1, 7, 8, 9, 5, 10, 11, 12, 13, 14, 15, 16, 17, 18, 19, 20, 21, 22, 23] (by decide +kernel) (by decide +kernel)
set_option maxRecDepth 20000 in
theorem gX8_askedSights_X8_askedBlurs : GoodIn wsX8_askedSights (wsV RX8 43 RX8 yX8_askedBlurs wsX8_askedBlurs) := goodIn_app (goodIn_of _ (by decide +kernel)) ggX8_askedSights_X8_askedBlurs
set_option maxRecDepth 20000 in
theorem ggX8_askedSights_X8_isBlur : GoodIn wsX8_askedSights wsX8_isBlur := goodIn_r _ [10, 11, 12, 13, 5, 14, 1, 15, 20, 21, 22, 23] (by decide +kernel) (by decide +kernel)
set_option maxRecDepth 20000 in
theorem gX8_askedSights_X8_isBlur : GoodIn wsX8_askedSights (wsV RX8 46 RX8 yX8_isBlur wsX8_isBlur) := goodIn_app (goodIn_of _ (by decide +kernel)) ggX8_askedSights_X8_isBlur
theorem dX8_askedSights_0 : decode cX8_askedSights 0 = .ok (.aload_n 0, 1) := by decide +kernel
theorem dX8_askedSights_1 : decode cX8_askedSights 1 = .ok (.iload_n 1, 1) := by decide +kernel
theorem dX8_askedSights_2 : decode cX8_askedSights 2 = .ok (.invokevirtual 43, 3) := by decide +kernel
theorem dX8_askedSights_5 : decode cX8_askedSights 5 = .ok (.istore_n 2, 1) := by decide +kernel
theorem dX8_askedSights_6 : decode cX8_askedSights 6 = .ok (.iconst 0, 1) := by decide +kernel
theorem dX8_askedSights_7 : decode cX8_askedSights 7 = .ok (.istore_n 3, 1) := by decide +kernel
theorem dX8_askedSights_8 : decode cX8_askedSights 8 = .ok (.iload_n 3, 1) := by decide +kernel
theorem dX8_askedSights_9 : decode cX8_askedSights 9 = .ok (.aload_n 0, 1) := by decide +kernel
theorem dX8_askedSights_10 : decode cX8_askedSights 10 = .ok (.getfield 32, 3) := by decide +kernel
theorem dX8_askedSights_13 : decode cX8_askedSights 13 = .ok (.if_icmp .ge 23, 3) := by decide +kernel
theorem dX8_askedSights_16 : decode cX8_askedSights 16 = .ok (.aload_n 0, 1) := by decide +kernel
theorem dX8_askedSights_17 : decode cX8_askedSights 17 = .ok (.iload_n 3, 1) := by decide +kernel
theorem dX8_askedSights_18 : decode cX8_askedSights 18 = .ok (.invokevirtual 46, 3) := by decide +kernel
theorem dX8_askedSights_21 : decode cX8_askedSights 21 = .ok (.ifCond .ne 9, 3) := by decide +kernel
theorem dX8_askedSights_24 : decode cX8_askedSights 24 = .ok (.iload_n 2, 1) := by decide +kernel
theorem dX8_askedSights_25 : decode cX8_askedSights 25 = .ok (.iconst 1, 1) := by decide +kernel
theorem dX8_askedSights_26 : decode cX8_askedSights 26 = .ok (.iload_n 3, 1) := by decide +kernel
theorem dX8_askedSights_27 : decode cX8_askedSights 27 = .ok (.ishl, 1) := by decide +kernel
theorem dX8_askedSights_28 : decode cX8_askedSights 28 = .ok (.ior, 1) := by decide +kernel
theorem dX8_askedSights_29 : decode cX8_askedSights 29 = .ok (.istore_n 2, 1) := by decide +kernel
theorem dX8_askedSights_30 : decode cX8_askedSights 30 = .ok (.iinc 3 1, 3) := by decide +kernel
theorem dX8_askedSights_33 : decode cX8_askedSights 33 = .ok (.goto (-25), 3) := by decide +kernel
theorem dX8_askedSights_36 : decode cX8_askedSights 36 = .ok (.iload_n 2, 1) := by decide +kernel
theorem dX8_askedSights_37 : decode cX8_askedSights 37 = .ok (.ireturn, 1) := by decide +kernel
set_option maxRecDepth 20000 in
theorem ggX8_askedBlurs_X8_isBlur : GoodIn wsX8_askedBlurs wsX8_isBlur := goodIn_r _ [6, 7, 8, 9, 5, 10, 1, 11, 16, 17, 18, 19] (by decide +kernel) (by decide +kernel)
set_option maxRecDepth 20000 in
theorem gX8_askedBlurs_X8_isBlur : GoodIn wsX8_askedBlurs (wsV RX8 46 RX8 yX8_isBlur wsX8_isBlur) := goodIn_app (goodIn_of _ (by decide +kernel)) ggX8_askedBlurs_X8_isBlur
set_option maxRecDepth 20000 in
theorem ggX8_askedBlurs_X8_firstOf : GoodIn wsX8_askedBlurs wsX8_firstOf := goodIn_r _ [15, 7, 8, 9, 5, 10, 1, 11, 16, 17, 18, 19] (by decide +kernel) (by decide +kernel)
set_option maxRecDepth 20000 in
theorem gX8_askedBlurs_X8_firstOf : GoodIn wsX8_askedBlurs (wsV RX8 50 RX8 yX8_firstOf wsX8_firstOf) := goodIn_app (goodIn_of _ (by decide +kernel)) ggX8_askedBlurs_X8_firstOf
theorem dX8_askedBlurs_0 : decode cX8_askedBlurs 0 = .ok (.iconst 0, 1) := by decide +kernel
theorem dX8_askedBlurs_1 : decode cX8_askedBlurs 1 = .ok (.istore_n 2, 1) := by decide +kernel
theorem dX8_askedBlurs_2 : decode cX8_askedBlurs 2 = .ok (.iconst 0, 1) := by decide +kernel
theorem dX8_askedBlurs_3 : decode cX8_askedBlurs 3 = .ok (.istore_n 3, 1) := by decide +kernel
theorem dX8_askedBlurs_4 : decode cX8_askedBlurs 4 = .ok (.iload_n 3, 1) := by decide +kernel
theorem dX8_askedBlurs_5 : decode cX8_askedBlurs 5 = .ok (.aload_n 0, 1) := by decide +kernel
theorem dX8_askedBlurs_6 : decode cX8_askedBlurs 6 = .ok (.getfield 32, 3) := by decide +kernel
theorem dX8_askedBlurs_9 : decode cX8_askedBlurs 9 = .ok (.if_icmp .ge 35, 3) := by decide +kernel
theorem dX8_askedBlurs_12 : decode cX8_askedBlurs 12 = .ok (.aload_n 0, 1) := by decide +kernel
theorem dX8_askedBlurs_13 : decode cX8_askedBlurs 13 = .ok (.iload_n 3, 1) := by decide +kernel
theorem dX8_askedBlurs_14 : decode cX8_askedBlurs 14 = .ok (.invokevirtual 46, 3) := by decide +kernel
theorem dX8_askedBlurs_17 : decode cX8_askedBlurs 17 = .ok (.ifCond .eq 21, 3) := by decide +kernel
theorem dX8_askedBlurs_20 : decode cX8_askedBlurs 20 = .ok (.iload_n 1, 1) := by decide +kernel
theorem dX8_askedBlurs_21 : decode cX8_askedBlurs 21 = .ok (.aload_n 0, 1) := by decide +kernel
theorem dX8_askedBlurs_22 : decode cX8_askedBlurs 22 = .ok (.iload_n 3, 1) := by decide +kernel
theorem dX8_askedBlurs_23 : decode cX8_askedBlurs 23 = .ok (.invokevirtual 50, 3) := by decide +kernel
theorem dX8_askedBlurs_26 : decode cX8_askedBlurs 26 = .ok (.ishr, 1) := by decide +kernel
theorem dX8_askedBlurs_27 : decode cX8_askedBlurs 27 = .ok (.iconst 1, 1) := by decide +kernel
theorem dX8_askedBlurs_28 : decode cX8_askedBlurs 28 = .ok (.iand, 1) := by decide +kernel
theorem dX8_askedBlurs_29 : decode cX8_askedBlurs 29 = .ok (.ifCond .ne 9, 3) := by decide +kernel
theorem dX8_askedBlurs_32 : decode cX8_askedBlurs 32 = .ok (.iload_n 2, 1) := by decide +kernel
theorem dX8_askedBlurs_33 : decode cX8_askedBlurs 33 = .ok (.iconst 1, 1) := by decide +kernel
theorem dX8_askedBlurs_34 : decode cX8_askedBlurs 34 = .ok (.iload_n 3, 1) := by decide +kernel
theorem dX8_askedBlurs_35 : decode cX8_askedBlurs 35 = .ok (.ishl, 1) := by decide +kernel
theorem dX8_askedBlurs_36 : decode cX8_askedBlurs 36 = .ok (.ior, 1) := by decide +kernel
theorem dX8_askedBlurs_37 : decode cX8_askedBlurs 37 = .ok (.istore_n 2, 1) := by decide +kernel
theorem dX8_askedBlurs_38 : decode cX8_askedBlurs 38 = .ok (.iinc 3 1, 3) := by decide +kernel
theorem dX8_askedBlurs_41 : decode cX8_askedBlurs 41 = .ok (.goto (-37), 3) := by decide +kernel
theorem dX8_askedBlurs_44 : decode cX8_askedBlurs 44 = .ok (.iload_n 2, 1) := by decide +kernel
theorem dX8_askedBlurs_45 : decode cX8_askedBlurs 45 = .ok (.ireturn, 1) := by decide +kernel
theorem dX8_copyOf_0 : decode cX8_copyOf 0 = .ok (.aload_n 1, 1) := by decide +kernel
theorem dX8_copyOf_1 : decode cX8_copyOf 1 = .ok (.getfield 9, 3) := by decide +kernel
theorem dX8_copyOf_4 : decode cX8_copyOf 4 = .ok (.iconst 0, 1) := by decide +kernel
theorem dX8_copyOf_5 : decode cX8_copyOf 5 = .ok (.aload_n 0, 1) := by decide +kernel
theorem dX8_copyOf_6 : decode cX8_copyOf 6 = .ok (.getfield 9, 3) := by decide +kernel
theorem dX8_copyOf_9 : decode cX8_copyOf 9 = .ok (.iconst 0, 1) := by decide +kernel
theorem dX8_copyOf_10 : decode cX8_copyOf 10 = .ok (.aload_n 0, 1) := by decide +kernel
theorem dX8_copyOf_11 : decode cX8_copyOf 11 = .ok (.getfield 9, 3) := by decide +kernel
theorem dX8_copyOf_14 : decode cX8_copyOf 14 = .ok (.arraylength, 1) := by decide +kernel
theorem dX8_copyOf_15 : decode cX8_copyOf 15 = .ok (.invokestatic 53, 3) := by decide +kernel
theorem dX8_copyOf_18 : decode cX8_copyOf 18 = .ok (.aload_n 1, 1) := by decide +kernel
theorem dX8_copyOf_19 : decode cX8_copyOf 19 = .ok (.getfield 15, 3) := by decide +kernel
theorem dX8_copyOf_22 : decode cX8_copyOf 22 = .ok (.iconst 0, 1) := by decide +kernel
theorem dX8_copyOf_23 : decode cX8_copyOf 23 = .ok (.aload_n 0, 1) := by decide +kernel
theorem dX8_copyOf_24 : decode cX8_copyOf 24 = .ok (.getfield 15, 3) := by decide +kernel
theorem dX8_copyOf_27 : decode cX8_copyOf 27 = .ok (.iconst 0, 1) := by decide +kernel
theorem dX8_copyOf_28 : decode cX8_copyOf 28 = .ok (.aload_n 0, 1) := by decide +kernel
theorem dX8_copyOf_29 : decode cX8_copyOf 29 = .ok (.getfield 15, 3) := by decide +kernel
theorem dX8_copyOf_32 : decode cX8_copyOf 32 = .ok (.arraylength, 1) := by decide +kernel
theorem dX8_copyOf_33 : decode cX8_copyOf 33 = .ok (.invokestatic 53, 3) := by decide +kernel
theorem dX8_copyOf_36 : decode cX8_copyOf 36 = .ok (.aload_n 0, 1) := by decide +kernel
theorem dX8_copyOf_37 : decode cX8_copyOf 37 = .ok (.aload_n 1, 1) := by decide +kernel
theorem dX8_copyOf_38 : decode cX8_copyOf 38 = .ok (.getfield 32, 3) := by decide +kernel
theorem dX8_copyOf_41 : decode cX8_copyOf 41 = .ok (.putfield 32, 3) := by decide +kernel
theorem dX8_copyOf_44 : decode cX8_copyOf 44 = .ok (.aload_n 0, 1) := by decide +kernel
theorem dX8_copyOf_45 : decode cX8_copyOf 45 = .ok (.aload_n 1, 1) := by decide +kernel
theorem dX8_copyOf_46 : decode cX8_copyOf 46 = .ok (.getfield 36, 3) := by decide +kernel
theorem dX8_copyOf_49 : decode cX8_copyOf 49 = .ok (.putfield 36, 3) := by decide +kernel
theorem dX8_copyOf_52 : decode cX8_copyOf 52 = .ok (.return_, 1) := by decide +kernel
theorem dX8_part_0 : decode cX8_part 0 = .ok (.iload_n 1, 1) := by decide +kernel
theorem dX8_part_1 : decode cX8_part 1 = .ok (.bipush 6, 2) := by decide +kernel
theorem dX8_part_3 : decode cX8_part 3 = .ok (.imul, 1) := by decide +kernel
theorem dX8_part_4 : decode cX8_part 4 = .ok (.iload_n 2, 1) := by decide +kernel
theorem dX8_part_5 : decode cX8_part 5 = .ok (.iadd, 1) := by decide +kernel
theorem dX8_part_6 : decode cX8_part 6 = .ok (.istore_n 3, 1) := by decide +kernel
theorem dX8_part_7 : decode cX8_part 7 = .ok (.iload_n 1, 1) := by decide +kernel
theorem dX8_part_8 : decode cX8_part 8 = .ok (.ifCond .lt 29, 3) := by decide +kernel
theorem dX8_part_11 : decode cX8_part 11 = .ok (.iload_n 1, 1) := by decide +kernel
theorem dX8_part_12 : decode cX8_part 12 = .ok (.aload_n 0, 1) := by decide +kernel
theorem dX8_part_13 : decode cX8_part 13 = .ok (.getfield 32, 3) := by decide +kernel
theorem dX8_part_16 : decode cX8_part 16 = .ok (.if_icmp .ge 21, 3) := by decide +kernel
theorem dX8_part_19 : decode cX8_part 19 = .ok (.iload_n 3, 1) := by decide +kernel
theorem dX8_part_20 : decode cX8_part 20 = .ok (.aload_n 0, 1) := by decide +kernel
theorem dX8_part_21 : decode cX8_part 21 = .ok (.getfield 15, 3) := by decide +kernel
theorem dX8_part_24 : decode cX8_part 24 = .ok (.arraylength, 1) := by decide +kernel
theorem dX8_part_25 : decode cX8_part 25 = .ok (.if_icmp .ge 12, 3) := by decide +kernel
theorem dX8_part_28 : decode cX8_part 28 = .ok (.aload_n 0, 1) := by decide +kernel
theorem dX8_part_29 : decode cX8_part 29 = .ok (.getfield 15, 3) := by decide +kernel
theorem dX8_part_32 : decode cX8_part 32 = .ok (.iload_n 3, 1) := by decide +kernel
theorem dX8_part_33 : decode cX8_part 33 = .ok (.iaload, 1) := by decide +kernel
theorem dX8_part_34 : decode cX8_part 34 = .ok (.goto 4, 3) := by decide +kernel
theorem dX8_part_37 : decode cX8_part 37 = .ok (.iconst 0, 1) := by decide +kernel
theorem dX8_part_38 : decode cX8_part 38 = .ok (.ireturn, 1) := by decide +kernel
set_option maxRecDepth 20000 in
theorem ggX9_init_X6_init : GoodIn wsX9_init wsX6_init := goodIn_r _ [42, 43, 2, 3, 18, 44, 45, 46, 47, 48, 49, 50, 51, 52, 116, 117, 118, 179, 180] (by decide +kernel) (by decide +kernel)
set_option maxRecDepth 20000 in
theorem gX9_init_X6_init_n9 : GoodIn wsX9_init (wsX6_init) := ggX9_init_X6_init
set_option maxRecDepth 20000 in
theorem ggX9_init_X5_init : GoodIn wsX9_init wsX5_init := goodIn_r _ [55, 56, 2, 3, 18, 57, 58, 59, 60, 46, 47, 61, 49, 50, 51, 52, 62, 63, 64, 10, 65, 66, 67, 68, 69, 131, 132, 133, 134, 135, 136, 137, 138, 139, 140, 179, 180] (by decide +kernel) (by decide +kernel)
set_option maxRecDepth 20000 in
theorem gX9_init_X5_init : GoodIn wsX9_init (wsX5_init) := ggX9_init_X5_init
set_option maxRecDepth 20000 in
theorem ggX9_init_X8_init : GoodIn wsX9_init wsX8_init := goodIn_r _ [71, 72, 2, 3, 18, 73, 74, 141, 142, 143, 144] (by decide +kernel) (by decide +kernel)
set_option maxRecDepth 20000 in
theorem gX9_init_X8_init_n25 : GoodIn wsX9_init (wsX8_init) := ggX9_init_X8_init
set_option maxRecDepth 20000 in
theorem ggX9_init_X2_init : GoodIn wsX9_init wsX2_init := goodIn_r _ [77, 78, 2, 3, 18, 79, 80, 81, 82, 83, 84, 85, 86, 145, 146, 147, 148, 149, 150, 151, 152, 153, 154, 155, 156, 157, 158, 159] (by decide +kernel) (by decide +kernel)
set_option maxRecDepth 20000 in
theorem gX9_init_X2_init : GoodIn wsX9_init (wsX2_init) := ggX9_init_X2_init
set_option maxRecDepth 20000 in
theorem ggX9_init_X7_init : GoodIn wsX9_init wsX7_init := goodIn_r _ [89, 90, 2, 3, 18, 91, 92, 93, 94, 95, 160, 161, 162, 163, 164, 165, 166] (by decide +kernel) (by decide +kernel)
set_option maxRecDepth 20000 in
theorem gX9_init_X7_init : GoodIn wsX9_init (wsX7_init) := ggX9_init_X7_init
set_option maxRecDepth 20000 in
theorem ggX9_init_X4_init : GoodIn wsX9_init wsX4_init := goodIn_r _ [97, 98, 2, 3, 18, 99, 100, 101, 102, 167, 168, 169, 170] (by decide +kernel) (by decide +kernel)
set_option maxRecDepth 20000 in
theorem gX9_init_X4_init_n60 : GoodIn wsX9_init (wsX4_init) := ggX9_init_X4_init
set_option maxRecDepth 20000 in
theorem ggX9_init_X0_init : GoodIn wsX9_init wsX0_init := goodIn_r _ [104, 105, 2, 3, 18, 106, 107, 108, 109, 110, 171, 172, 173, 174, 175] (by decide +kernel) (by decide +kernel)
set_option maxRecDepth 20000 in
theorem gX9_init_X0_init_n67 : GoodIn wsX9_init (wsX0_init) := ggX9_init_X0_init
set_option maxRecDepth 20000 in
theorem ggX9_init_X1_init : GoodIn wsX9_init wsX1_init := goodIn_r _ [112, 113, 2, 3, 18, 114, 101, 115, 176, 177, 178] (by decide +kernel) (by decide +kernel)
set_option maxRecDepth 20000 in
theorem gX9_init_X1_init_n74 : GoodIn wsX9_init (wsX1_init) := ggX9_init_X1_init
theorem dX9_init_0 : decode cX9_init 0 = .ok (.aload_n 0, 1) := by decide +kernel
theorem dX9_init_1 : decode cX9_init 1 = .ok (.invokespecial 1, 3) := by decide +kernel
theorem dX9_init_4 : decode cX9_init 4 = .ok (.aload_n 0, 1) := by decide +kernel
theorem dX9_init_5 : decode cX9_init 5 = .ok (.new 7, 3) := by decide +kernel
theorem dX9_init_8 : decode cX9_init 8 = .ok (.dup, 1) := by decide +kernel
theorem dX9_init_9 : decode cX9_init 9 = .ok (.invokespecial 9, 3) := by decide +kernel
theorem dX9_init_12 : decode cX9_init 12 = .ok (.putfield 10, 3) := by decide +kernel
theorem dX9_init_15 : decode cX9_init 15 = .ok (.aload_n 0, 1) := by decide +kernel
theorem dX9_init_16 : decode cX9_init 16 = .ok (.new 16, 3) := by decide +kernel
theorem dX9_init_19 : decode cX9_init 19 = .ok (.dup, 1) := by decide +kernel
theorem dX9_init_20 : decode cX9_init 20 = .ok (.invokespecial 18, 3) := by decide +kernel
theorem dX9_init_23 : decode cX9_init 23 = .ok (.putfield 19, 3) := by decide +kernel
theorem dX9_init_26 : decode cX9_init 26 = .ok (.aload_n 0, 1) := by decide +kernel
theorem dX9_init_27 : decode cX9_init 27 = .ok (.new 23, 3) := by decide +kernel
theorem dX9_init_30 : decode cX9_init 30 = .ok (.dup, 1) := by decide +kernel
theorem dX9_init_31 : decode cX9_init 31 = .ok (.invokespecial 25, 3) := by decide +kernel
theorem dX9_init_34 : decode cX9_init 34 = .ok (.putfield 26, 3) := by decide +kernel
theorem dX9_init_37 : decode cX9_init 37 = .ok (.aload_n 0, 1) := by decide +kernel
theorem dX9_init_38 : decode cX9_init 38 = .ok (.new 23, 3) := by decide +kernel
theorem dX9_init_41 : decode cX9_init 41 = .ok (.dup, 1) := by decide +kernel
theorem dX9_init_42 : decode cX9_init 42 = .ok (.invokespecial 25, 3) := by decide +kernel
theorem dX9_init_45 : decode cX9_init 45 = .ok (.putfield 30, 3) := by decide +kernel
theorem dX9_init_48 : decode cX9_init 48 = .ok (.aload_n 0, 1) := by decide +kernel
theorem dX9_init_49 : decode cX9_init 49 = .ok (.new 23, 3) := by decide +kernel
theorem dX9_init_52 : decode cX9_init 52 = .ok (.dup, 1) := by decide +kernel
theorem dX9_init_53 : decode cX9_init 53 = .ok (.invokespecial 25, 3) := by decide +kernel
theorem dX9_init_56 : decode cX9_init 56 = .ok (.putfield 33, 3) := by decide +kernel
theorem dX9_init_59 : decode cX9_init 59 = .ok (.aload_n 0, 1) := by decide +kernel
theorem dX9_init_60 : decode cX9_init 60 = .ok (.bipush 12, 2) := by decide +kernel
theorem dX9_init_62 : decode cX9_init 62 = .ok (.newarray .int, 2) := by decide +kernel
theorem dX9_init_64 : decode cX9_init 64 = .ok (.putfield 36, 3) := by decide +kernel
theorem dX9_init_67 : decode cX9_init 67 = .ok (.aload_n 0, 1) := by decide +kernel
theorem dX9_init_68 : decode cX9_init 68 = .ok (.new 40, 3) := by decide +kernel
theorem dX9_init_71 : decode cX9_init 71 = .ok (.dup, 1) := by decide +kernel
theorem dX9_init_72 : decode cX9_init 72 = .ok (.aload_n 0, 1) := by decide +kernel
theorem dX9_init_73 : decode cX9_init 73 = .ok (.getfield 19, 3) := by decide +kernel
theorem dX9_init_76 : decode cX9_init 76 = .ok (.aload_n 0, 1) := by decide +kernel
theorem dX9_init_77 : decode cX9_init 77 = .ok (.getfield 26, 3) := by decide +kernel
theorem dX9_init_80 : decode cX9_init 80 = .ok (.invokespecial 42, 3) := by decide +kernel
theorem dX9_init_83 : decode cX9_init 83 = .ok (.putfield 45, 3) := by decide +kernel
theorem dX9_init_86 : decode cX9_init 86 = .ok (.aload_n 0, 1) := by decide +kernel
theorem dX9_init_87 : decode cX9_init 87 = .ok (.new 49, 3) := by decide +kernel
theorem dX9_init_90 : decode cX9_init 90 = .ok (.dup, 1) := by decide +kernel
theorem dX9_init_91 : decode cX9_init 91 = .ok (.aload_n 0, 1) := by decide +kernel
theorem dX9_init_92 : decode cX9_init 92 = .ok (.getfield 26, 3) := by decide +kernel
theorem dX9_init_95 : decode cX9_init 95 = .ok (.aload_n 0, 1) := by decide +kernel
theorem dX9_init_96 : decode cX9_init 96 = .ok (.getfield 45, 3) := by decide +kernel
theorem dX9_init_99 : decode cX9_init 99 = .ok (.aload_n 0, 1) := by decide +kernel
theorem dX9_init_100 : decode cX9_init 100 = .ok (.getfield 36, 3) := by decide +kernel
theorem dX9_init_103 : decode cX9_init 103 = .ok (.invokespecial 51, 3) := by decide +kernel
theorem dX9_init_106 : decode cX9_init 106 = .ok (.putfield 54, 3) := by decide +kernel
theorem dX9_init_109 : decode cX9_init 109 = .ok (.aload_n 0, 1) := by decide +kernel
theorem dX9_init_110 : decode cX9_init 110 = .ok (.new 58, 3) := by decide +kernel
theorem dX9_init_113 : decode cX9_init 113 = .ok (.dup, 1) := by decide +kernel
theorem dX9_init_114 : decode cX9_init 114 = .ok (.invokespecial 60, 3) := by decide +kernel
theorem dX9_init_117 : decode cX9_init 117 = .ok (.putfield 61, 3) := by decide +kernel
theorem dX9_init_120 : decode cX9_init 120 = .ok (.aload_n 0, 1) := by decide +kernel
theorem dX9_init_121 : decode cX9_init 121 = .ok (.new 65, 3) := by decide +kernel
theorem dX9_init_124 : decode cX9_init 124 = .ok (.dup, 1) := by decide +kernel
theorem dX9_init_125 : decode cX9_init 125 = .ok (.invokespecial 67, 3) := by decide +kernel
theorem dX9_init_128 : decode cX9_init 128 = .ok (.putfield 68, 3) := by decide +kernel
theorem dX9_init_131 : decode cX9_init 131 = .ok (.aload_n 0, 1) := by decide +kernel
theorem dX9_init_132 : decode cX9_init 132 = .ok (.new 72, 3) := by decide +kernel
theorem dX9_init_135 : decode cX9_init 135 = .ok (.dup, 1) := by decide +kernel
theorem dX9_init_136 : decode cX9_init 136 = .ok (.invokespecial 74, 3) := by decide +kernel
theorem dX9_init_139 : decode cX9_init 139 = .ok (.putfield 75, 3) := by decide +kernel
theorem dX9_init_142 : decode cX9_init 142 = .ok (.aload_n 0, 1) := by decide +kernel
theorem dX9_init_143 : decode cX9_init 143 = .ok (.iconst 0, 1) := by decide +kernel
theorem dX9_init_144 : decode cX9_init 144 = .ok (.putfield 79, 3) := by decide +kernel
theorem dX9_init_147 : decode cX9_init 147 = .ok (.return_, 1) := by decide +kernel
set_option maxRecDepth 20000 in
theorem ggX9_write_X9_within : GoodIn wsX9_write wsX9_within := goodIn_r _ [5] (by decide +kernel) (by decide +kernel)
set_option maxRecDepth 20000 in
theorem gX9_write_X9_within : GoodIn wsX9_write (va_wsS RX9 83 yX9_within wsX9_within) := goodIn_app (goodIn_of _ (by decide +kernel)) ggX9_write_X9_within
set_option maxRecDepth 20000 in
theorem ggX9_write_X6_append : GoodIn wsX9_write wsX6_append := goodIn_r _ [10, 11, 12, 25, 26, 27] (by decide +kernel) (by decide +kernel)
set_option maxRecDepth 20000 in
theorem gX9_write_X6_append : GoodIn wsX9_write (wsV RX9 87 RX6 yX6_append wsX6_append) := goodIn_app (goodIn_of _ (by decide +kernel)) ggX9_write_X6_append
theorem dX9_write_0 : decode cX9_write 0 = .ok (.iload_n 1, 1) := by decide +kernel
theorem dX9_write_1 : decode cX9_write 1 = .ok (.iconst 1, 1) := by decide +kernel
theorem dX9_write_2 : decode cX9_write 2 = .ok (.bipush 8, 2) := by decide +kernel
theorem dX9_write_4 : decode cX9_write 4 = .ok (.invokestatic 83, 3) := by decide +kernel
theorem dX9_write_7 : decode cX9_write 7 = .ok (.ifCond .eq 15, 3) := by decide +kernel
theorem dX9_write_10 : decode cX9_write 10 = .ok (.aload_n 0, 1) := by decide +kernel
theorem dX9_write_11 : decode cX9_write 11 = .ok (.getfield 10, 3) := by decide +kernel
theorem dX9_write_14 : decode cX9_write 14 = .ok (.iload_n 1, 1) := by decide +kernel
theorem dX9_write_15 : decode cX9_write 15 = .ok (.lload_n 2, 1) := by decide +kernel
theorem dX9_write_16 : decode cX9_write 16 = .ok (.invokevirtual 87, 3) := by decide +kernel
theorem dX9_write_19 : decode cX9_write 19 = .ok (.goto 4, 3) := by decide +kernel
theorem dX9_write_22 : decode cX9_write 22 = .ok (.iconst (-1), 1) := by decide +kernel
theorem dX9_write_23 : decode cX9_write 23 = .ok (.ireturn, 1) := by decide +kernel
set_option maxRecDepth 20000 in
theorem ggX9_wipe_X6_clear : GoodIn wsX9_wipe wsX6_clear := goodIn_r _ [6, 7, 20, 21, 22] (by decide +kernel) (by decide +kernel)
set_option maxRecDepth 20000 in
theorem gX9_wipe_X6_clear : GoodIn wsX9_wipe (wsV RX9 91 RX6 yX6_clear wsX6_clear) := goodIn_app (goodIn_of _ (by decide +kernel)) ggX9_wipe_X6_clear
theorem dX9_wipe_0 : decode cX9_wipe 0 = .ok (.aload_n 0, 1) := by decide +kernel
theorem dX9_wipe_1 : decode cX9_wipe 1 = .ok (.getfield 10, 3) := by decide +kernel
theorem dX9_wipe_4 : decode cX9_wipe 4 = .ok (.invokevirtual 91, 3) := by decide +kernel
theorem dX9_wipe_7 : decode cX9_wipe 7 = .ok (.ireturn, 1) := by decide +kernel
set_option maxRecDepth 20000 in
theorem ggX9_fault_X6_firstFault : GoodIn wsX9_fault wsX6_firstFault := goodIn_r _ [6, 7, 8, 9, 10, 11, 12, 13, 14, 15, 16, 17, 18, 5, 19, 20, 21, 22, 23, 24, 25, 26, 27, 28, 29, 30, 31, 32, 33, 34, 35, 36, 37, 38, 39, 40, 41, 42, 43, 44, 45, 46, 59, 60, 61, 62, 63] (by decide +kernel) (by decide +kernel)
set_option maxRecDepth 20000 in
theorem gX9_fault_X6_firstFault : GoodIn wsX9_fault (wsV RX9 95 RX6 yX6_firstFault wsX6_firstFault) := goodIn_app (goodIn_of _ (by decide +kernel)) ggX9_fault_X6_firstFault
theorem dX9_fault_0 : decode cX9_fault 0 = .ok (.aload_n 0, 1) := by decide +kernel
theorem dX9_fault_1 : decode cX9_fault 1 = .ok (.getfield 10, 3) := by decide +kernel
theorem dX9_fault_4 : decode cX9_fault 4 = .ok (.invokevirtual 95, 3) := by decide +kernel
theorem dX9_fault_7 : decode cX9_fault 7 = .ok (.ireturn, 1) := by decide +kernel
set_option maxRecDepth 20000 in
theorem ggX9_lay_X6_firstFault : GoodIn wsX9_lay wsX6_firstFault := goodIn_r _ [7, 8, 9, 10, 11, 12, 13, 14, 15, 16, 17, 18, 19, 6, 20, 21, 22, 23, 24, 25, 26, 27, 28, 29, 30, 31, 32, 33, 34, 35, 36, 37, 38, 39, 40, 41, 42, 43, 44, 45, 46, 47, 122, 123, 124, 125, 126] (by decide +kernel) (by decide +kernel)
set_option maxRecDepth 20000 in
theorem gX9_lay_X6_firstFault : GoodIn wsX9_lay (wsV RX9 95 RX6 yX6_firstFault wsX6_firstFault) := goodIn_app (goodIn_of _ (by decide +kernel)) ggX9_lay_X6_firstFault
set_option maxRecDepth 20000 in
theorem ggX9_lay_X5_read : GoodIn wsX9_lay wsX5_read := goodIn_r _ [52, 53, 54, 55, 56, 57, 51, 58, 59, 60, 61, 62, 63, 64, 65, 6, 66, 8, 67, 11, 12, 13, 14, 15, 16, 17, 18, 19, 20, 21, 22, 23, 24, 25, 26, 27, 28, 29, 30, 31, 32, 33, 34, 35, 36, 37, 38, 39, 40, 41, 42, 43, 44, 45, 46, 47, 68, 69, 70, 71, 72, 73, 74, 75, 76, 77, 78, 79, 80, 81, 82, 83, 84, 85, 127, 128, 129, 130, 131, 132, 133, 134, 135, 136, 122, 123, 124, 125, 126] (by decide +kernel) (by decide +kernel)
set_option maxRecDepth 20000 in
theorem gX9_lay_X5_read : GoodIn wsX9_lay (wsV RX9 98 RX5 yX5_read wsX5_read) := goodIn_app (goodIn_of _ (by decide +kernel)) ggX9_lay_X5_read
set_option maxRecDepth 20000 in
theorem ggX9_lay_X9_forgetFlight : GoodIn wsX9_lay wsX9_forgetFlight := goodIn_r _ [89, 90, 91, 92, 93, 94, 95, 96, 97, 98, 99, 100, 101, 102, 103, 104, 105, 110, 111, 112, 113, 114, 115, 116, 117, 118, 119, 120, 121, 137, 138, 139, 140, 141, 142, 143, 144, 145, 146, 147, 148, 149, 150, 151, 152, 153, 154, 155, 156, 157, 158] (by decide +kernel) (by decide +kernel)
set_option maxRecDepth 20000 in
theorem gX9_lay_X9_forgetFlight : GoodIn wsX9_lay (wsV RX9 102 RX9 yX9_forgetFlight wsX9_forgetFlight) := goodIn_app (goodIn_of _ (by decide +kernel)) ggX9_lay_X9_forgetFlight
set_option maxRecDepth 20000 in
theorem ggX9_lay_X5_itemCount : GoodIn wsX9_lay wsX5_itemCount := goodIn_r _ [109, 54, 127, 128, 129, 130, 131, 132, 133, 134, 135, 136] (by decide +kernel) (by decide +kernel)
set_option maxRecDepth 20000 in
theorem gX9_lay_X5_itemCount : GoodIn wsX9_lay (wsV RX9 105 RX5 yX5_itemCount wsX5_itemCount) := goodIn_app (goodIn_of _ (by decide +kernel)) ggX9_lay_X5_itemCount
theorem dX9_lay_0 : decode cX9_lay 0 = .ok (.aload_n 0, 1) := by decide +kernel
theorem dX9_lay_1 : decode cX9_lay 1 = .ok (.getfield 10, 3) := by decide +kernel
theorem dX9_lay_4 : decode cX9_lay 4 = .ok (.invokevirtual 95, 3) := by decide +kernel
theorem dX9_lay_7 : decode cX9_lay 7 = .ok (.bipush (-4), 2) := by decide +kernel
theorem dX9_lay_9 : decode cX9_lay 9 = .ok (.if_icmp .eq 6, 3) := by decide +kernel
theorem dX9_lay_12 : decode cX9_lay 12 = .ok (.bipush (-2), 2) := by decide +kernel
theorem dX9_lay_14 : decode cX9_lay 14 = .ok (.ireturn, 1) := by decide +kernel
theorem dX9_lay_15 : decode cX9_lay 15 = .ok (.aload_n 0, 1) := by decide +kernel
theorem dX9_lay_16 : decode cX9_lay 16 = .ok (.getfield 19, 3) := by decide +kernel
theorem dX9_lay_19 : decode cX9_lay 19 = .ok (.aload_n 0, 1) := by decide +kernel
theorem dX9_lay_20 : decode cX9_lay 20 = .ok (.getfield 10, 3) := by decide +kernel
theorem dX9_lay_23 : decode cX9_lay 23 = .ok (.invokevirtual 98, 3) := by decide +kernel
theorem dX9_lay_26 : decode cX9_lay 26 = .ok (.aload_n 0, 1) := by decide +kernel
theorem dX9_lay_27 : decode cX9_lay 27 = .ok (.invokevirtual 102, 3) := by decide +kernel
theorem dX9_lay_30 : decode cX9_lay 30 = .ok (.aload_n 0, 1) := by decide +kernel
theorem dX9_lay_31 : decode cX9_lay 31 = .ok (.getfield 19, 3) := by decide +kernel
theorem dX9_lay_34 : decode cX9_lay 34 = .ok (.invokevirtual 105, 3) := by decide +kernel
theorem dX9_lay_37 : decode cX9_lay 37 = .ok (.ireturn, 1) := by decide +kernel
set_option maxRecDepth 20000 in
theorem ggX9_law_X9_within : GoodIn wsX9_law wsX9_within := goodIn_r _ [5] (by decide +kernel) (by decide +kernel)
set_option maxRecDepth 20000 in
theorem gX9_law_X9_within : GoodIn wsX9_law (va_wsS RX9 83 yX9_within wsX9_within) := goodIn_app (goodIn_of _ (by decide +kernel)) ggX9_law_X9_within
set_option maxRecDepth 20000 in
theorem ggX9_law_X5_number : GoodIn wsX9_law wsX5_number := goodIn_r _ [10, 11, 24, 25, 26, 27, 28, 29, 30, 31, 32, 33] (by decide +kernel) (by decide +kernel)
set_option maxRecDepth 20000 in
theorem gX9_law_X5_number : GoodIn wsX9_law (wsV RX9 108 RX5 yX5_number wsX5_number) := goodIn_app (goodIn_of _ (by decide +kernel)) ggX9_law_X5_number
theorem dX9_law_0 : decode cX9_law 0 = .ok (.iload_n 1, 1) := by decide +kernel
theorem dX9_law_1 : decode cX9_law 1 = .ok (.iconst 0, 1) := by decide +kernel
theorem dX9_law_2 : decode cX9_law 2 = .ok (.iconst 5, 1) := by decide +kernel
theorem dX9_law_3 : decode cX9_law 3 = .ok (.invokestatic 83, 3) := by decide +kernel
theorem dX9_law_6 : decode cX9_law 6 = .ok (.ifCond .eq 14, 3) := by decide +kernel
theorem dX9_law_9 : decode cX9_law 9 = .ok (.aload_n 0, 1) := by decide +kernel
theorem dX9_law_10 : decode cX9_law 10 = .ok (.getfield 19, 3) := by decide +kernel
theorem dX9_law_13 : decode cX9_law 13 = .ok (.iload_n 1, 1) := by decide +kernel
theorem dX9_law_14 : decode cX9_law 14 = .ok (.invokevirtual 108, 3) := by decide +kernel
theorem dX9_law_17 : decode cX9_law 17 = .ok (.goto 4, 3) := by decide +kernel
theorem dX9_law_20 : decode cX9_law 20 = .ok (.iconst (-1), 1) := by decide +kernel
theorem dX9_law_21 : decode cX9_law 21 = .ok (.ireturn, 1) := by decide +kernel
set_option maxRecDepth 20000 in
theorem ggX9_line_X9_onField : GoodIn wsX9_line wsX9_onField := goodIn_r _ [6, 2, 7, 8, 9, 5, 10] (by decide +kernel) (by decide +kernel)
set_option maxRecDepth 20000 in
theorem gX9_line_X9_onField : GoodIn wsX9_line (va_wsS RX9 112 yX9_onField wsX9_onField) := goodIn_app (goodIn_of _ (by decide +kernel)) ggX9_line_X9_onField
set_option maxRecDepth 20000 in
theorem ggX9_line_X5_paintedAt : GoodIn wsX9_line wsX5_paintedAt := goodIn_r _ [15, 16, 17, 18, 31, 32, 33, 34, 35, 36, 37, 38, 39, 40] (by decide +kernel) (by decide +kernel)
set_option maxRecDepth 20000 in
theorem gX9_line_X5_paintedAt : GoodIn wsX9_line (wsV RX9 116 RX5 yX5_paintedAt wsX5_paintedAt) := goodIn_app (goodIn_of _ (by decide +kernel)) ggX9_line_X5_paintedAt
theorem dX9_line_0 : decode cX9_line 0 = .ok (.iload_n 1, 1) := by decide +kernel
theorem dX9_line_1 : decode cX9_line 1 = .ok (.invokestatic 112, 3) := by decide +kernel
theorem dX9_line_4 : decode cX9_line 4 = .ok (.ifCond .eq 14, 3) := by decide +kernel
theorem dX9_line_7 : decode cX9_line 7 = .ok (.aload_n 0, 1) := by decide +kernel
theorem dX9_line_8 : decode cX9_line 8 = .ok (.getfield 19, 3) := by decide +kernel
theorem dX9_line_11 : decode cX9_line 11 = .ok (.iload_n 1, 1) := by decide +kernel
theorem dX9_line_12 : decode cX9_line 12 = .ok (.invokevirtual 116, 3) := by decide +kernel
theorem dX9_line_15 : decode cX9_line 15 = .ok (.goto 5, 3) := by decide +kernel
theorem dX9_line_18 : decode cX9_line 18 = .ok (.ldc 119, 2) := by decide +kernel
theorem dX9_line_20 : decode cX9_line 20 = .ok (.ireturn, 1) := by decide +kernel
set_option maxRecDepth 20000 in
theorem ggX9_ball_X8_mayBegin : GoodIn wsX9_ball wsX8_mayBegin := goodIn_r _ [6, 7, 8, 9, 10, 11] (by decide +kernel) (by decide +kernel)
set_option maxRecDepth 20000 in
theorem gX9_ball_X8_mayBegin : GoodIn wsX9_ball (va_wsS RX9 120 yX8_mayBegin wsX8_mayBegin) := goodIn_app (goodIn_of _ (by decide +kernel)) ggX9_ball_X8_mayBegin
set_option maxRecDepth 20000 in
theorem ggX9_ball_X8_begin : GoodIn wsX9_ball wsX8_begin := goodIn_r _ [15, 16, 17, 18, 19, 5, 20, 53, 54, 55, 56] (by decide +kernel) (by decide +kernel)
set_option maxRecDepth 20000 in
theorem gX9_ball_X8_begin : GoodIn wsX9_ball (wsV RX9 125 RX8 yX8_begin wsX8_begin) := goodIn_app (goodIn_of _ (by decide +kernel)) ggX9_ball_X8_begin
set_option maxRecDepth 20000 in
theorem ggX9_ball_X9_forgetFlight : GoodIn wsX9_ball wsX9_forgetFlight := goodIn_r _ [24, 25, 26, 27, 28, 29, 30, 31, 32, 33, 34, 35, 36, 37, 38, 39, 40, 41, 42, 43, 44, 45, 46, 47, 48, 49, 50, 51, 52, 57, 58, 59, 60, 61, 62, 63, 64, 65, 66, 67, 68, 69, 70, 71, 72, 73, 74, 75, 76, 77, 78] (by decide +kernel) (by decide +kernel)
set_option maxRecDepth 20000 in
theorem gX9_ball_X9_forgetFlight : GoodIn wsX9_ball (wsV RX9 102 RX9 yX9_forgetFlight wsX9_forgetFlight) := goodIn_app (goodIn_of _ (by decide +kernel)) ggX9_ball_X9_forgetFlight
theorem dX9_ball_0 : decode cX9_ball 0 = .ok (.iload_n 1, 1) := by decide +kernel
theorem dX9_ball_1 : decode cX9_ball 1 = .ok (.iload_n 2, 1) := by decide +kernel
theorem dX9_ball_2 : decode cX9_ball 2 = .ok (.invokestatic 120, 3) := by decide +kernel
theorem dX9_ball_5 : decode cX9_ball 5 = .ok (.ifCond .ne 6, 3) := by decide +kernel
theorem dX9_ball_8 : decode cX9_ball 8 = .ok (.ldc 124, 2) := by decide +kernel
theorem dX9_ball_10 : decode cX9_ball 10 = .ok (.ireturn, 1) := by decide +kernel
theorem dX9_ball_11 : decode cX9_ball 11 = .ok (.aload_n 0, 1) := by decide +kernel
theorem dX9_ball_12 : decode cX9_ball 12 = .ok (.getfield 26, 3) := by decide +kernel
theorem dX9_ball_15 : decode cX9_ball 15 = .ok (.iload_n 1, 1) := by decide +kernel
theorem dX9_ball_16 : decode cX9_ball 16 = .ok (.iload_n 2, 1) := by decide +kernel
theorem dX9_ball_17 : decode cX9_ball 17 = .ok (.invokevirtual 125, 3) := by decide +kernel
theorem dX9_ball_20 : decode cX9_ball 20 = .ok (.istore_n 3, 1) := by decide +kernel
theorem dX9_ball_21 : decode cX9_ball 21 = .ok (.aload_n 0, 1) := by decide +kernel
theorem dX9_ball_22 : decode cX9_ball 22 = .ok (.invokevirtual 102, 3) := by decide +kernel
theorem dX9_ball_25 : decode cX9_ball 25 = .ok (.iload_n 3, 1) := by decide +kernel
theorem dX9_ball_26 : decode cX9_ball 26 = .ok (.ireturn, 1) := by decide +kernel
set_option maxRecDepth 20000 in
theorem ggX9_at_X9_isCurve : GoodIn wsX9_at wsX9_isCurve := goodIn_r _ [6, 7, 8, 5, 9] (by decide +kernel) (by decide +kernel)
set_option maxRecDepth 20000 in
theorem gX9_at_X9_isCurve : GoodIn wsX9_at (va_wsS RX9 129 yX9_isCurve wsX9_isCurve) := goodIn_app (goodIn_of _ (by decide +kernel)) ggX9_at_X9_isCurve
set_option maxRecDepth 20000 in
theorem ggX9_at_X9_isTick : GoodIn wsX9_at wsX9_isTick := goodIn_r _ [12, 7, 8, 5, 9] (by decide +kernel) (by decide +kernel)
set_option maxRecDepth 20000 in
theorem gX9_at_X9_isTick : GoodIn wsX9_at (va_wsS RX9 132 yX9_isTick wsX9_isTick) := goodIn_app (goodIn_of _ (by decide +kernel)) ggX9_at_X9_isTick
set_option maxRecDepth 20000 in
theorem ggX9_at_X9_within : GoodIn wsX9_at wsX9_within := goodIn_r _ [9] (by decide +kernel) (by decide +kernel)
set_option maxRecDepth 20000 in
theorem gX9_at_X9_within : GoodIn wsX9_at (va_wsS RX9 83 yX9_within wsX9_within) := goodIn_app (goodIn_of _ (by decide +kernel)) ggX9_at_X9_within
set_option maxRecDepth 20000 in
theorem ggX9_at_X2_fly : GoodIn wsX9_at wsX2_fly := goodIn_r _ [17, 18, 19, 20, 21, 22, 23, 24, 25, 26, 27, 28, 29, 30, 31, 32, 33, 34, 35, 36, 16, 37, 38, 39, 40, 41, 42, 43, 44, 45, 46, 47, 48, 49, 50, 51, 52, 53, 54, 55, 81, 82, 83, 84, 85, 86, 87, 88, 89, 90, 91, 92, 93, 94, 95, 96, 97, 98, 99, 100, 101, 102, 103, 104, 105, 106, 107, 108, 109] (by decide +kernel) (by decide +kernel)
set_option maxRecDepth 20000 in
theorem gX9_at_X2_fly : GoodIn wsX9_at (wsV RX9 136 RX2 yX2_fly wsX2_fly) := goodIn_app (goodIn_of _ (by decide +kernel)) ggX9_at_X2_fly
set_option maxRecDepth 20000 in
theorem ggX9_at_X2_stateOf : GoodIn wsX9_at wsX2_stateOf := goodIn_r _ [59, 38, 39, 40, 41, 60, 61, 62, 63, 16, 64, 65, 66, 67, 68, 21, 20, 28, 29, 30, 31, 32, 33, 22, 23, 24, 25, 26, 27, 81, 82, 83, 84, 85, 86, 87, 88, 89, 90, 91, 92, 93, 94, 95, 106, 107, 108, 109, 96, 97, 98, 99, 100, 101, 102, 103, 104, 105] (by decide +kernel) (by decide +kernel)
set_option maxRecDepth 20000 in
theorem gX9_at_X2_stateOf : GoodIn wsX9_at (wsV RX9 139 RX2 yX2_stateOf wsX2_stateOf) := goodIn_app (goodIn_of _ (by decide +kernel)) ggX9_at_X2_stateOf
theorem dX9_at_0 : decode cX9_at 0 = .ok (.iload_n 1, 1) := by decide +kernel
theorem dX9_at_1 : decode cX9_at 1 = .ok (.invokestatic 129, 3) := by decide +kernel
theorem dX9_at_4 : decode cX9_at 4 = .ok (.ifCond .eq 19, 3) := by decide +kernel
theorem dX9_at_7 : decode cX9_at 7 = .ok (.iload_n 2, 1) := by decide +kernel
theorem dX9_at_8 : decode cX9_at 8 = .ok (.invokestatic 132, 3) := by decide +kernel
theorem dX9_at_11 : decode cX9_at 11 = .ok (.ifCond .eq 12, 3) := by decide +kernel
theorem dX9_at_14 : decode cX9_at 14 = .ok (.iload_n 3, 1) := by decide +kernel
theorem dX9_at_15 : decode cX9_at 15 = .ok (.iconst 0, 1) := by decide +kernel
theorem dX9_at_16 : decode cX9_at 16 = .ok (.iconst 5, 1) := by decide +kernel
theorem dX9_at_17 : decode cX9_at 17 = .ok (.invokestatic 83, 3) := by decide +kernel
theorem dX9_at_20 : decode cX9_at 20 = .ok (.ifCond .ne 6, 3) := by decide +kernel
theorem dX9_at_23 : decode cX9_at 23 = .ok (.ldc 135, 2) := by decide +kernel
theorem dX9_at_25 : decode cX9_at 25 = .ok (.ireturn, 1) := by decide +kernel
theorem dX9_at_26 : decode cX9_at 26 = .ok (.aload_n 0, 1) := by decide +kernel
theorem dX9_at_27 : decode cX9_at 27 = .ok (.getfield 45, 3) := by decide +kernel
theorem dX9_at_30 : decode cX9_at 30 = .ok (.invokevirtual 136, 3) := by decide +kernel
theorem dX9_at_33 : decode cX9_at 33 = .ok (.aload_n 0, 1) := by decide +kernel
theorem dX9_at_34 : decode cX9_at 34 = .ok (.getfield 45, 3) := by decide +kernel
theorem dX9_at_37 : decode cX9_at 37 = .ok (.iload_n 1, 1) := by decide +kernel
theorem dX9_at_38 : decode cX9_at 38 = .ok (.iload_n 2, 1) := by decide +kernel
theorem dX9_at_39 : decode cX9_at 39 = .ok (.iload_n 3, 1) := by decide +kernel
theorem dX9_at_40 : decode cX9_at 40 = .ok (.invokevirtual 139, 3) := by decide +kernel
theorem dX9_at_43 : decode cX9_at 43 = .ok (.ireturn, 1) := by decide +kernel
set_option maxRecDepth 20000 in
theorem ggX9_touch_X9_isCurve : GoodIn wsX9_touch wsX9_isCurve := goodIn_r _ [7, 8, 9, 6, 10] (by decide +kernel) (by decide +kernel)
set_option maxRecDepth 20000 in
theorem gX9_touch_X9_isCurve : GoodIn wsX9_touch (va_wsS RX9 129 yX9_isCurve wsX9_isCurve) := goodIn_app (goodIn_of _ (by decide +kernel)) ggX9_touch_X9_isCurve
set_option maxRecDepth 20000 in
theorem ggX9_touch_X9_within : GoodIn wsX9_touch wsX9_within := goodIn_r _ [10] (by decide +kernel) (by decide +kernel)
set_option maxRecDepth 20000 in
theorem gX9_touch_X9_within : GoodIn wsX9_touch (va_wsS RX9 83 yX9_within wsX9_within) := goodIn_app (goodIn_of _ (by decide +kernel)) ggX9_touch_X9_within
set_option maxRecDepth 20000 in
theorem ggX9_touch_X2_fly : GoodIn wsX9_touch wsX2_fly := goodIn_r _ [15, 16, 17, 18, 19, 20, 21, 22, 23, 24, 25, 26, 27, 28, 29, 30, 31, 32, 33, 34, 14, 35, 36, 37, 38, 39, 40, 41, 42, 43, 44, 45, 46, 47, 48, 49, 50, 51, 52, 53, 92, 93, 94, 95, 96, 97, 98, 99, 100, 101, 102, 103, 104, 105, 106, 107, 108, 109, 110, 111, 112, 113, 114, 115, 116, 117, 118, 119, 120] (by decide +kernel) (by decide +kernel)
set_option maxRecDepth 20000 in
theorem gX9_touch_X2_fly : GoodIn wsX9_touch (wsV RX9 136 RX2 yX2_fly wsX2_fly) := goodIn_app (goodIn_of _ (by decide +kernel)) ggX9_touch_X2_fly
set_option maxRecDepth 20000 in
theorem ggX9_touch_X2_touches : GoodIn wsX9_touch wsX2_touches := goodIn_r _ [57, 17, 92, 93, 94, 95, 96, 97, 98, 99, 100, 101, 102, 103, 104, 105, 106] (by decide +kernel) (by decide +kernel)
set_option maxRecDepth 20000 in
theorem gX9_touch_X2_touches : GoodIn wsX9_touch (wsV RX9 143 RX2 yX2_touches wsX2_touches) := goodIn_app (goodIn_of _ (by decide +kernel)) ggX9_touch_X2_touches
set_option maxRecDepth 20000 in
theorem ggX9_touch_X2_touchPart : GoodIn wsX9_touch wsX2_touchPart := goodIn_r _ [61, 17, 44, 46, 62, 63, 64, 14, 65, 66, 67, 68, 69, 70, 19, 18, 71, 26, 27, 28, 29, 30, 31, 20, 21, 22, 23, 24, 25, 72, 73, 74, 75, 76, 77, 78, 45, 79, 55, 56, 57, 92, 93, 94, 95, 96, 97, 98, 99, 100, 101, 102, 103, 104, 105, 106, 117, 118, 119, 120, 107, 108, 109, 110, 111, 112, 113, 114, 115, 116] (by decide +kernel) (by decide +kernel)
set_option maxRecDepth 20000 in
theorem gX9_touch_X2_touchPart : GoodIn wsX9_touch (wsV RX9 147 RX2 yX2_touchPart wsX2_touchPart) := goodIn_app (goodIn_of _ (by decide +kernel)) ggX9_touch_X2_touchPart
theorem dX9_touch_0 : decode cX9_touch 0 = .ok (.iload_n 1, 1) := by decide +kernel
theorem dX9_touch_1 : decode cX9_touch 1 = .ok (.invokestatic 129, 3) := by decide +kernel
theorem dX9_touch_4 : decode cX9_touch 4 = .ok (.ifCond .eq 12, 3) := by decide +kernel
theorem dX9_touch_7 : decode cX9_touch 7 = .ok (.iload_n 2, 1) := by decide +kernel
theorem dX9_touch_8 : decode cX9_touch 8 = .ok (.iconst 0, 1) := by decide +kernel
theorem dX9_touch_9 : decode cX9_touch 9 = .ok (.iconst 4, 1) := by decide +kernel
theorem dX9_touch_10 : decode cX9_touch 10 = .ok (.invokestatic 83, 3) := by decide +kernel
theorem dX9_touch_13 : decode cX9_touch 13 = .ok (.ifCond .ne 6, 3) := by decide +kernel
theorem dX9_touch_16 : decode cX9_touch 16 = .ok (.ldc 135, 2) := by decide +kernel
theorem dX9_touch_18 : decode cX9_touch 18 = .ok (.ireturn, 1) := by decide +kernel
theorem dX9_touch_19 : decode cX9_touch 19 = .ok (.aload_n 0, 1) := by decide +kernel
theorem dX9_touch_20 : decode cX9_touch 20 = .ok (.getfield 45, 3) := by decide +kernel
theorem dX9_touch_23 : decode cX9_touch 23 = .ok (.invokevirtual 136, 3) := by decide +kernel
theorem dX9_touch_26 : decode cX9_touch 26 = .ok (.aload_n 0, 1) := by decide +kernel
theorem dX9_touch_27 : decode cX9_touch 27 = .ok (.getfield 45, 3) := by decide +kernel
theorem dX9_touch_30 : decode cX9_touch 30 = .ok (.invokevirtual 143, 3) := by decide +kernel
theorem dX9_touch_33 : decode cX9_touch 33 = .ok (.ifCond .eq 15, 3) := by decide +kernel
theorem dX9_touch_36 : decode cX9_touch 36 = .ok (.aload_n 0, 1) := by decide +kernel
theorem dX9_touch_37 : decode cX9_touch 37 = .ok (.getfield 45, 3) := by decide +kernel
theorem dX9_touch_40 : decode cX9_touch 40 = .ok (.iload_n 1, 1) := by decide +kernel
theorem dX9_touch_41 : decode cX9_touch 41 = .ok (.iload_n 2, 1) := by decide +kernel
theorem dX9_touch_42 : decode cX9_touch 42 = .ok (.invokevirtual 147, 3) := by decide +kernel
theorem dX9_touch_45 : decode cX9_touch 45 = .ok (.goto 5, 3) := by decide +kernel
theorem dX9_touch_48 : decode cX9_touch 48 = .ok (.ldc 150, 2) := by decide +kernel
theorem dX9_touch_50 : decode cX9_touch 50 = .ok (.ireturn, 1) := by decide +kernel
set_option maxRecDepth 20000 in
theorem ggX9_camera_X9_isCamera : GoodIn wsX9_camera wsX9_isCamera := goodIn_r _ [6, 7, 8, 5, 9] (by decide +kernel) (by decide +kernel)
set_option maxRecDepth 20000 in
theorem gX9_camera_X9_isCamera : GoodIn wsX9_camera (va_wsS RX9 151 yX9_isCamera wsX9_isCamera) := goodIn_app (goodIn_of _ (by decide +kernel)) ggX9_camera_X9_isCamera
set_option maxRecDepth 20000 in
theorem ggX9_camera_X9_within : GoodIn wsX9_camera wsX9_within := goodIn_r _ [9] (by decide +kernel) (by decide +kernel)
set_option maxRecDepth 20000 in
theorem gX9_camera_X9_within : GoodIn wsX9_camera (va_wsS RX9 83 yX9_within wsX9_within) := goodIn_app (goodIn_of _ (by decide +kernel)) ggX9_camera_X9_within
set_option maxRecDepth 20000 in
theorem ggX9_camera_X7_forget : GoodIn wsX9_camera wsX7_forget := goodIn_r _ [14, 15, 16, 29, 30, 31, 32, 33, 34, 35] (by decide +kernel) (by decide +kernel)
set_option maxRecDepth 20000 in
theorem gX9_camera_X7_forget : GoodIn wsX9_camera (wsV RX9 154 RX7 yX7_forget wsX7_forget) := goodIn_app (goodIn_of _ (by decide +kernel)) ggX9_camera_X7_forget
theorem dX9_camera_0 : decode cX9_camera 0 = .ok (.iload_n 1, 1) := by decide +kernel
theorem dX9_camera_1 : decode cX9_camera 1 = .ok (.invokestatic 151, 3) := by decide +kernel
theorem dX9_camera_4 : decode cX9_camera 4 = .ok (.ifCond .eq 23, 3) := by decide +kernel
theorem dX9_camera_7 : decode cX9_camera 7 = .ok (.iload_n 2, 1) := by decide +kernel
theorem dX9_camera_8 : decode cX9_camera 8 = .ok (.iconst 0, 1) := by decide +kernel
theorem dX9_camera_9 : decode cX9_camera 9 = .ok (.iconst 2, 1) := by decide +kernel
theorem dX9_camera_10 : decode cX9_camera 10 = .ok (.invokestatic 83, 3) := by decide +kernel
theorem dX9_camera_13 : decode cX9_camera 13 = .ok (.ifCond .eq 14, 3) := by decide +kernel
theorem dX9_camera_16 : decode cX9_camera 16 = .ok (.iload_n 3, 1) := by decide +kernel
theorem dX9_camera_17 : decode cX9_camera 17 = .ok (.bipush (-10), 2) := by decide +kernel
theorem dX9_camera_19 : decode cX9_camera 19 = .ok (.bipush 10, 2) := by decide +kernel
theorem dX9_camera_21 : decode cX9_camera 21 = .ok (.invokestatic 83, 3) := by decide +kernel
theorem dX9_camera_24 : decode cX9_camera 24 = .ok (.ifCond .ne 6, 3) := by decide +kernel
theorem dX9_camera_27 : decode cX9_camera 27 = .ok (.bipush (-100), 2) := by decide +kernel
theorem dX9_camera_29 : decode cX9_camera 29 = .ok (.ireturn, 1) := by decide +kernel
theorem dX9_camera_30 : decode cX9_camera 30 = .ok (.iload_n 1, 1) := by decide +kernel
theorem dX9_camera_31 : decode cX9_camera 31 = .ok (.iconst 3, 1) := by decide +kernel
theorem dX9_camera_32 : decode cX9_camera 32 = .ok (.imul, 1) := by decide +kernel
theorem dX9_camera_33 : decode cX9_camera 33 = .ok (.iload_n 2, 1) := by decide +kernel
theorem dX9_camera_34 : decode cX9_camera 34 = .ok (.iadd, 1) := by decide +kernel
theorem dX9_camera_35 : decode cX9_camera 35 = .ok (.istore 4, 2) := by decide +kernel
theorem dX9_camera_37 : decode cX9_camera 37 = .ok (.iload 4, 2) := by decide +kernel
theorem dX9_camera_39 : decode cX9_camera 39 = .ok (.aload_n 0, 1) := by decide +kernel
theorem dX9_camera_40 : decode cX9_camera 40 = .ok (.getfield 36, 3) := by decide +kernel
theorem dX9_camera_43 : decode cX9_camera 43 = .ok (.arraylength, 1) := by decide +kernel
theorem dX9_camera_44 : decode cX9_camera 44 = .ok (.if_icmp .lt 6, 3) := by decide +kernel
theorem dX9_camera_47 : decode cX9_camera 47 = .ok (.bipush (-100), 2) := by decide +kernel
theorem dX9_camera_49 : decode cX9_camera 49 = .ok (.ireturn, 1) := by decide +kernel
theorem dX9_camera_50 : decode cX9_camera 50 = .ok (.aload_n 0, 1) := by decide +kernel
theorem dX9_camera_51 : decode cX9_camera 51 = .ok (.getfield 36, 3) := by decide +kernel
theorem dX9_camera_54 : decode cX9_camera 54 = .ok (.iload 4, 2) := by decide +kernel
theorem dX9_camera_56 : decode cX9_camera 56 = .ok (.iaload, 1) := by decide +kernel
theorem dX9_camera_57 : decode cX9_camera 57 = .ok (.istore 5, 2) := by decide +kernel
theorem dX9_camera_59 : decode cX9_camera 59 = .ok (.aload_n 0, 1) := by decide +kernel
theorem dX9_camera_60 : decode cX9_camera 60 = .ok (.getfield 36, 3) := by decide +kernel
theorem dX9_camera_63 : decode cX9_camera 63 = .ok (.iload 4, 2) := by decide +kernel
theorem dX9_camera_65 : decode cX9_camera 65 = .ok (.iload_n 3, 1) := by decide +kernel
theorem dX9_camera_66 : decode cX9_camera 66 = .ok (.iastore, 1) := by decide +kernel
theorem dX9_camera_67 : decode cX9_camera 67 = .ok (.aload_n 0, 1) := by decide +kernel
theorem dX9_camera_68 : decode cX9_camera 68 = .ok (.getfield 54, 3) := by decide +kernel
theorem dX9_camera_71 : decode cX9_camera 71 = .ok (.invokevirtual 154, 3) := by decide +kernel
theorem dX9_camera_74 : decode cX9_camera 74 = .ok (.iload 5, 2) := by decide +kernel
theorem dX9_camera_76 : decode cX9_camera 76 = .ok (.ireturn, 1) := by decide +kernel
set_option maxRecDepth 20000 in
theorem ggX9_blur_X9_isCamera : GoodIn wsX9_blur wsX9_isCamera := goodIn_r _ [7, 8, 9, 6, 10] (by decide +kernel) (by decide +kernel)
set_option maxRecDepth 20000 in
theorem gX9_blur_X9_isCamera : GoodIn wsX9_blur (va_wsS RX9 151 yX9_isCamera wsX9_isCamera) := goodIn_app (goodIn_of _ (by decide +kernel)) ggX9_blur_X9_isCamera
set_option maxRecDepth 20000 in
theorem ggX9_blur_X9_isTick : GoodIn wsX9_blur wsX9_isTick := goodIn_r _ [13, 8, 9, 6, 10] (by decide +kernel) (by decide +kernel)
set_option maxRecDepth 20000 in
theorem gX9_blur_X9_isTick : GoodIn wsX9_blur (va_wsS RX9 132 yX9_isTick wsX9_isTick) := goodIn_app (goodIn_of _ (by decide +kernel)) ggX9_blur_X9_isTick
set_option maxRecDepth 20000 in
theorem ggX9_blur_X9_within : GoodIn wsX9_blur wsX9_within := goodIn_r _ [10] (by decide +kernel) (by decide +kernel)
set_option maxRecDepth 20000 in
theorem gX9_blur_X9_within : GoodIn wsX9_blur (va_wsS RX9 83 yX9_within wsX9_within) := goodIn_app (goodIn_of _ (by decide +kernel)) ggX9_blur_X9_within
set_option maxRecDepth 20000 in
theorem ggX9_blur_X9_isDoubt : GoodIn wsX9_blur wsX9_isDoubt := goodIn_r _ [16, 8, 9, 6, 10] (by decide +kernel) (by decide +kernel)
set_option maxRecDepth 20000 in
theorem gX9_blur_X9_isDoubt : GoodIn wsX9_blur (va_wsS RX9 158 yX9_isDoubt wsX9_isDoubt) := goodIn_app (goodIn_of _ (by decide +kernel)) ggX9_blur_X9_isDoubt
set_option maxRecDepth 20000 in
theorem ggX9_blur_X8_addSight : GoodIn wsX9_blur wsX8_addSight := goodIn_r _ [21, 22, 23, 36, 37, 38, 39] (by decide +kernel) (by decide +kernel)
set_option maxRecDepth 20000 in
theorem gX9_blur_X8_addSight : GoodIn wsX9_blur (wsV RX9 161 RX8 yX8_addSight wsX8_addSight) := goodIn_app (goodIn_of _ (by decide +kernel)) ggX9_blur_X8_addSight
theorem dX9_blur_0 : decode cX9_blur 0 = .ok (.iload_n 1, 1) := by decide +kernel
theorem dX9_blur_1 : decode cX9_blur 1 = .ok (.invokestatic 151, 3) := by decide +kernel
theorem dX9_blur_4 : decode cX9_blur 4 = .ok (.ifCond .eq 29, 3) := by decide +kernel
theorem dX9_blur_7 : decode cX9_blur 7 = .ok (.iload_n 2, 1) := by decide +kernel
theorem dX9_blur_8 : decode cX9_blur 8 = .ok (.invokestatic 132, 3) := by decide +kernel
theorem dX9_blur_11 : decode cX9_blur 11 = .ok (.ifCond .eq 22, 3) := by decide +kernel
theorem dX9_blur_14 : decode cX9_blur 14 = .ok (.iload_n 3, 1) := by decide +kernel
theorem dX9_blur_15 : decode cX9_blur 15 = .ok (.ldc 124, 2) := by decide +kernel
theorem dX9_blur_17 : decode cX9_blur 17 = .ok (.ldc 157, 2) := by decide +kernel
theorem dX9_blur_19 : decode cX9_blur 19 = .ok (.invokestatic 83, 3) := by decide +kernel
theorem dX9_blur_22 : decode cX9_blur 22 = .ok (.ifCond .eq 11, 3) := by decide +kernel
theorem dX9_blur_25 : decode cX9_blur 25 = .ok (.iload 4, 2) := by decide +kernel
theorem dX9_blur_27 : decode cX9_blur 27 = .ok (.invokestatic 158, 3) := by decide +kernel
theorem dX9_blur_30 : decode cX9_blur 30 = .ok (.ifCond .ne 5, 3) := by decide +kernel
theorem dX9_blur_33 : decode cX9_blur 33 = .ok (.iconst (-1), 1) := by decide +kernel
theorem dX9_blur_34 : decode cX9_blur 34 = .ok (.ireturn, 1) := by decide +kernel
theorem dX9_blur_35 : decode cX9_blur 35 = .ok (.aload_n 0, 1) := by decide +kernel
theorem dX9_blur_36 : decode cX9_blur 36 = .ok (.getfield 26, 3) := by decide +kernel
theorem dX9_blur_39 : decode cX9_blur 39 = .ok (.iconst 0, 1) := by decide +kernel
theorem dX9_blur_40 : decode cX9_blur 40 = .ok (.iload_n 1, 1) := by decide +kernel
theorem dX9_blur_41 : decode cX9_blur 41 = .ok (.iload_n 3, 1) := by decide +kernel
theorem dX9_blur_42 : decode cX9_blur 42 = .ok (.iload_n 2, 1) := by decide +kernel
theorem dX9_blur_43 : decode cX9_blur 43 = .ok (.iload 4, 2) := by decide +kernel
theorem dX9_blur_45 : decode cX9_blur 45 = .ok (.iconst 1, 1) := by decide +kernel
theorem dX9_blur_46 : decode cX9_blur 46 = .ok (.invokevirtual 161, 3) := by decide +kernel
theorem dX9_blur_49 : decode cX9_blur 49 = .ok (.ireturn, 1) := by decide +kernel
set_option maxRecDepth 20000 in
theorem ggX9_mark_X9_onField : GoodIn wsX9_mark wsX9_onField := goodIn_r _ [5, 6, 7, 8, 9, 4, 10] (by decide +kernel) (by decide +kernel)
set_option maxRecDepth 20000 in
theorem gX9_mark_X9_onField : GoodIn wsX9_mark (va_wsS RX9 112 yX9_onField wsX9_onField) := goodIn_app (goodIn_of _ (by decide +kernel)) ggX9_mark_X9_onField
set_option maxRecDepth 20000 in
theorem ggX9_mark_X9_isDoubt : GoodIn wsX9_mark wsX9_isDoubt := goodIn_r _ [13, 8, 9, 4, 10] (by decide +kernel) (by decide +kernel)
set_option maxRecDepth 20000 in
theorem gX9_mark_X9_isDoubt : GoodIn wsX9_mark (va_wsS RX9 158 yX9_isDoubt wsX9_isDoubt) := goodIn_app (goodIn_of _ (by decide +kernel)) ggX9_mark_X9_isDoubt
set_option maxRecDepth 20000 in
theorem ggX9_mark_X8_addSight : GoodIn wsX9_mark wsX8_addSight := goodIn_r _ [18, 19, 20, 33, 34, 35, 36] (by decide +kernel) (by decide +kernel)
set_option maxRecDepth 20000 in
theorem gX9_mark_X8_addSight : GoodIn wsX9_mark (wsV RX9 161 RX8 yX8_addSight wsX8_addSight) := goodIn_app (goodIn_of _ (by decide +kernel)) ggX9_mark_X8_addSight
theorem dX9_mark_0 : decode cX9_mark 0 = .ok (.iload_n 1, 1) := by decide +kernel
theorem dX9_mark_1 : decode cX9_mark 1 = .ok (.invokestatic 112, 3) := by decide +kernel
theorem dX9_mark_4 : decode cX9_mark 4 = .ok (.ifCond .eq 17, 3) := by decide +kernel
theorem dX9_mark_7 : decode cX9_mark 7 = .ok (.iload_n 2, 1) := by decide +kernel
theorem dX9_mark_8 : decode cX9_mark 8 = .ok (.invokestatic 112, 3) := by decide +kernel
theorem dX9_mark_11 : decode cX9_mark 11 = .ok (.ifCond .eq 10, 3) := by decide +kernel
theorem dX9_mark_14 : decode cX9_mark 14 = .ok (.iload_n 3, 1) := by decide +kernel
theorem dX9_mark_15 : decode cX9_mark 15 = .ok (.invokestatic 158, 3) := by decide +kernel
theorem dX9_mark_18 : decode cX9_mark 18 = .ok (.ifCond .ne 5, 3) := by decide +kernel
theorem dX9_mark_21 : decode cX9_mark 21 = .ok (.iconst (-1), 1) := by decide +kernel
theorem dX9_mark_22 : decode cX9_mark 22 = .ok (.ireturn, 1) := by decide +kernel
theorem dX9_mark_23 : decode cX9_mark 23 = .ok (.aload_n 0, 1) := by decide +kernel
theorem dX9_mark_24 : decode cX9_mark 24 = .ok (.getfield 26, 3) := by decide +kernel
theorem dX9_mark_27 : decode cX9_mark 27 = .ok (.iconst 1, 1) := by decide +kernel
theorem dX9_mark_28 : decode cX9_mark 28 = .ok (.iload_n 1, 1) := by decide +kernel
theorem dX9_mark_29 : decode cX9_mark 29 = .ok (.iload_n 2, 1) := by decide +kernel
theorem dX9_mark_30 : decode cX9_mark 30 = .ok (.iconst 0, 1) := by decide +kernel
theorem dX9_mark_31 : decode cX9_mark 31 = .ok (.iload_n 3, 1) := by decide +kernel
theorem dX9_mark_32 : decode cX9_mark 32 = .ok (.iconst 1, 1) := by decide +kernel
theorem dX9_mark_33 : decode cX9_mark 33 = .ok (.invokevirtual 161, 3) := by decide +kernel
theorem dX9_mark_36 : decode cX9_mark 36 = .ok (.ireturn, 1) := by decide +kernel
set_option maxRecDepth 20000 in
theorem ggX9_heard_X9_onField : GoodIn wsX9_heard wsX9_onField := goodIn_r _ [5, 6, 7, 8, 9, 4, 10] (by decide +kernel) (by decide +kernel)
set_option maxRecDepth 20000 in
theorem gX9_heard_X9_onField : GoodIn wsX9_heard (va_wsS RX9 112 yX9_onField wsX9_onField) := goodIn_app (goodIn_of _ (by decide +kernel)) ggX9_heard_X9_onField
set_option maxRecDepth 20000 in
theorem ggX9_heard_X9_isTick : GoodIn wsX9_heard wsX9_isTick := goodIn_r _ [13, 8, 9, 4, 10] (by decide +kernel) (by decide +kernel)
set_option maxRecDepth 20000 in
theorem gX9_heard_X9_isTick : GoodIn wsX9_heard (va_wsS RX9 132 yX9_isTick wsX9_isTick) := goodIn_app (goodIn_of _ (by decide +kernel)) ggX9_heard_X9_isTick
set_option maxRecDepth 20000 in
theorem ggX9_heard_X9_isDoubt : GoodIn wsX9_heard wsX9_isDoubt := goodIn_r _ [16, 8, 9, 4, 10] (by decide +kernel) (by decide +kernel)
set_option maxRecDepth 20000 in
theorem gX9_heard_X9_isDoubt : GoodIn wsX9_heard (va_wsS RX9 158 yX9_isDoubt wsX9_isDoubt) := goodIn_app (goodIn_of _ (by decide +kernel)) ggX9_heard_X9_isDoubt
set_option maxRecDepth 20000 in
theorem ggX9_heard_X9_within : GoodIn wsX9_heard wsX9_within := goodIn_r _ [10] (by decide +kernel) (by decide +kernel)
set_option maxRecDepth 20000 in
theorem gX9_heard_X9_within : GoodIn wsX9_heard (va_wsS RX9 83 yX9_within wsX9_within) := goodIn_app (goodIn_of _ (by decide +kernel)) ggX9_heard_X9_within
set_option maxRecDepth 20000 in
theorem ggX9_heard_X8_addSight : GoodIn wsX9_heard wsX8_addSight := goodIn_r _ [21, 22, 23, 36, 37, 38, 39] (by decide +kernel) (by decide +kernel)
set_option maxRecDepth 20000 in
theorem gX9_heard_X8_addSight : GoodIn wsX9_heard (wsV RX9 161 RX8 yX8_addSight wsX8_addSight) := goodIn_app (goodIn_of _ (by decide +kernel)) ggX9_heard_X8_addSight
theorem dX9_heard_0 : decode cX9_heard 0 = .ok (.iload_n 1, 1) := by decide +kernel
theorem dX9_heard_1 : decode cX9_heard 1 = .ok (.invokestatic 112, 3) := by decide +kernel
theorem dX9_heard_4 : decode cX9_heard 4 = .ok (.ifCond .eq 37, 3) := by decide +kernel
theorem dX9_heard_7 : decode cX9_heard 7 = .ok (.iload_n 2, 1) := by decide +kernel
theorem dX9_heard_8 : decode cX9_heard 8 = .ok (.invokestatic 112, 3) := by decide +kernel
theorem dX9_heard_11 : decode cX9_heard 11 = .ok (.ifCond .eq 30, 3) := by decide +kernel
theorem dX9_heard_14 : decode cX9_heard 14 = .ok (.iload_n 3, 1) := by decide +kernel
theorem dX9_heard_15 : decode cX9_heard 15 = .ok (.invokestatic 132, 3) := by decide +kernel
theorem dX9_heard_18 : decode cX9_heard 18 = .ok (.ifCond .eq 23, 3) := by decide +kernel
theorem dX9_heard_21 : decode cX9_heard 21 = .ok (.iload 4, 2) := by decide +kernel
theorem dX9_heard_23 : decode cX9_heard 23 = .ok (.invokestatic 158, 3) := by decide +kernel
theorem dX9_heard_26 : decode cX9_heard 26 = .ok (.ifCond .eq 15, 3) := by decide +kernel
theorem dX9_heard_29 : decode cX9_heard 29 = .ok (.iload 5, 2) := by decide +kernel
theorem dX9_heard_31 : decode cX9_heard 31 = .ok (.iconst 1, 1) := by decide +kernel
theorem dX9_heard_32 : decode cX9_heard 32 = .ok (.sipush 500, 3) := by decide +kernel
theorem dX9_heard_35 : decode cX9_heard 35 = .ok (.invokestatic 83, 3) := by decide +kernel
theorem dX9_heard_38 : decode cX9_heard 38 = .ok (.ifCond .ne 5, 3) := by decide +kernel
theorem dX9_heard_41 : decode cX9_heard 41 = .ok (.iconst (-1), 1) := by decide +kernel
theorem dX9_heard_42 : decode cX9_heard 42 = .ok (.ireturn, 1) := by decide +kernel
theorem dX9_heard_43 : decode cX9_heard 43 = .ok (.aload_n 0, 1) := by decide +kernel
theorem dX9_heard_44 : decode cX9_heard 44 = .ok (.getfield 26, 3) := by decide +kernel
theorem dX9_heard_47 : decode cX9_heard 47 = .ok (.iconst 2, 1) := by decide +kernel
theorem dX9_heard_48 : decode cX9_heard 48 = .ok (.iload_n 1, 1) := by decide +kernel
theorem dX9_heard_49 : decode cX9_heard 49 = .ok (.iload_n 2, 1) := by decide +kernel
theorem dX9_heard_50 : decode cX9_heard 50 = .ok (.iload_n 3, 1) := by decide +kernel
theorem dX9_heard_51 : decode cX9_heard 51 = .ok (.iload 4, 2) := by decide +kernel
theorem dX9_heard_53 : decode cX9_heard 53 = .ok (.iload 5, 2) := by decide +kernel
theorem dX9_heard_55 : decode cX9_heard 55 = .ok (.invokevirtual 161, 3) := by decide +kernel
theorem dX9_heard_58 : decode cX9_heard 58 = .ok (.ireturn, 1) := by decide +kernel
set_option maxRecDepth 20000 in
theorem ggX9_noSights_X8_dropSights : GoodIn wsX9_noSights wsX8_dropSights := goodIn_r _ [7, 8, 28, 29, 30, 31] (by decide +kernel) (by decide +kernel)
set_option maxRecDepth 20000 in
theorem gX9_noSights_X8_dropSights : GoodIn wsX9_noSights (wsV RX9 165 RX8 yX8_dropSights wsX8_dropSights) := goodIn_app (goodIn_of _ (by decide +kernel)) ggX9_noSights_X8_dropSights
set_option maxRecDepth 20000 in
theorem ggX9_noSights_X7_forget : GoodIn wsX9_noSights wsX7_forget := goodIn_r _ [13, 14, 15, 32, 33, 34, 35, 36, 37, 38] (by decide +kernel) (by decide +kernel)
set_option maxRecDepth 20000 in
theorem gX9_noSights_X7_forget : GoodIn wsX9_noSights (wsV RX9 154 RX7 yX7_forget wsX7_forget) := goodIn_app (goodIn_of _ (by decide +kernel)) ggX9_noSights_X7_forget
theorem dX9_noSights_0 : decode cX9_noSights 0 = .ok (.aload_n 0, 1) := by decide +kernel
theorem dX9_noSights_1 : decode cX9_noSights 1 = .ok (.getfield 26, 3) := by decide +kernel
theorem dX9_noSights_4 : decode cX9_noSights 4 = .ok (.invokevirtual 165, 3) := by decide +kernel
theorem dX9_noSights_7 : decode cX9_noSights 7 = .ok (.istore_n 1, 1) := by decide +kernel
theorem dX9_noSights_8 : decode cX9_noSights 8 = .ok (.aload_n 0, 1) := by decide +kernel
theorem dX9_noSights_9 : decode cX9_noSights 9 = .ok (.getfield 54, 3) := by decide +kernel
theorem dX9_noSights_12 : decode cX9_noSights 12 = .ok (.invokevirtual 154, 3) := by decide +kernel
theorem dX9_noSights_15 : decode cX9_noSights 15 = .ok (.iload_n 1, 1) := by decide +kernel
theorem dX9_noSights_16 : decode cX9_noSights 16 = .ok (.ireturn, 1) := by decide +kernel
set_option maxRecDepth 20000 in
theorem ggX9_leave_X9_within : GoodIn wsX9_leave wsX9_within := goodIn_r _ [5] (by decide +kernel) (by decide +kernel)
set_option maxRecDepth 20000 in
theorem gX9_leave_X9_within : GoodIn wsX9_leave (va_wsS RX9 83 yX9_within wsX9_within) := goodIn_app (goodIn_of _ (by decide +kernel)) ggX9_leave_X9_within
set_option maxRecDepth 20000 in
theorem ggX9_leave_X8_leaveOut : GoodIn wsX9_leave wsX8_leaveOut := goodIn_r _ [10, 11, 24, 25, 26, 27] (by decide +kernel) (by decide +kernel)
set_option maxRecDepth 20000 in
theorem gX9_leave_X8_leaveOut : GoodIn wsX9_leave (wsV RX9 168 RX8 yX8_leaveOut wsX8_leaveOut) := goodIn_app (goodIn_of _ (by decide +kernel)) ggX9_leave_X8_leaveOut
theorem dX9_leave_0 : decode cX9_leave 0 = .ok (.iload_n 1, 1) := by decide +kernel
theorem dX9_leave_1 : decode cX9_leave 1 = .ok (.iconst 0, 1) := by decide +kernel
theorem dX9_leave_2 : decode cX9_leave 2 = .ok (.bipush 15, 2) := by decide +kernel
theorem dX9_leave_4 : decode cX9_leave 4 = .ok (.invokestatic 83, 3) := by decide +kernel
theorem dX9_leave_7 : decode cX9_leave 7 = .ok (.ifCond .eq 14, 3) := by decide +kernel
theorem dX9_leave_10 : decode cX9_leave 10 = .ok (.aload_n 0, 1) := by decide +kernel
theorem dX9_leave_11 : decode cX9_leave 11 = .ok (.getfield 26, 3) := by decide +kernel
theorem dX9_leave_14 : decode cX9_leave 14 = .ok (.iload_n 1, 1) := by decide +kernel
theorem dX9_leave_15 : decode cX9_leave 15 = .ok (.invokevirtual 168, 3) := by decide +kernel
theorem dX9_leave_18 : decode cX9_leave 18 = .ok (.goto 4, 3) := by decide +kernel
theorem dX9_leave_21 : decode cX9_leave 21 = .ok (.iconst (-1), 1) := by decide +kernel
theorem dX9_leave_22 : decode cX9_leave 22 = .ok (.ireturn, 1) := by decide +kernel
set_option maxRecDepth 20000 in
theorem ggX9_fits_X9_isCurve : GoodIn wsX9_fits wsX9_isCurve := goodIn_r _ [6, 7, 8, 5, 9] (by decide +kernel) (by decide +kernel)
set_option maxRecDepth 20000 in
theorem gX9_fits_X9_isCurve : GoodIn wsX9_fits (va_wsS RX9 129 yX9_isCurve wsX9_isCurve) := goodIn_app (goodIn_of _ (by decide +kernel)) ggX9_fits_X9_isCurve
set_option maxRecDepth 20000 in
theorem ggX9_fits_X8_sightCount : GoodIn wsX9_fits wsX8_sightCount := goodIn_r _ [14, 15, 223, 224, 225, 226] (by decide +kernel) (by decide +kernel)
set_option maxRecDepth 20000 in
theorem gX9_fits_X8_sightCount : GoodIn wsX9_fits (wsV RX9 171 RX8 yX8_sightCount wsX8_sightCount) := goodIn_app (goodIn_of _ (by decide +kernel)) ggX9_fits_X8_sightCount
set_option maxRecDepth 20000 in
theorem ggX9_fits_X9_within : GoodIn wsX9_fits wsX9_within := goodIn_r _ [9] (by decide +kernel) (by decide +kernel)
set_option maxRecDepth 20000 in
theorem gX9_fits_X9_within : GoodIn wsX9_fits (va_wsS RX9 83 yX9_within wsX9_within) := goodIn_app (goodIn_of _ (by decide +kernel)) ggX9_fits_X9_within
set_option maxRecDepth 20000 in
theorem ggX9_fits_X7_learn : GoodIn wsX9_fits wsX7_learn := goodIn_r _ [20, 21, 22, 23, 24, 25, 26, 27, 28, 29, 30, 31, 32, 33, 34, 35, 36, 37, 38, 39, 40, 41, 42, 43, 44, 13, 45, 46, 47, 48, 49, 50, 51, 52, 53, 54, 55, 56, 57, 58, 59, 60, 61, 62, 63, 64, 65, 66, 67, 68, 69, 70, 71, 72, 73, 11, 12, 14, 15, 74, 75, 76, 19, 77, 78, 79, 80, 81, 82, 83, 84, 85, 86, 87, 88, 89, 90, 91, 92, 93, 94, 95, 96, 97, 98, 99, 100, 101, 102, 103, 104, 105, 106, 107, 108, 109, 110, 111, 112, 113, 114, 115, 116, 117, 118, 119, 120, 121, 122, 123, 124, 125, 126, 127, 128, 129, 130, 131, 132, 133, 134, 135, 136, 137, 138, 139, 140, 141, 142, 143, 144, 145, 146, 147, 148, 149, 150, 151, 152, 153, 154, 155, 156, 157, 158, 159, 160, 161, 162, 163, 164, 165, 166, 167, 168, 169, 170, 171, 172, 173, 174, 175, 176, 177, 178, 179, 180, 181, 182, 183, 184, 185, 186, 187, 188, 189, 190, 191, 227, 228, 229, 230, 231, 232, 233, 234, 235, 236, 237, 238, 239, 240, 241, 242, 243, 244, 245, 246, 247, 248, 249, 250, 251, 252, 253, 254, 255, 256, 257, 258, 223, 224, 225, 226] (by decide +kernel) (by decide +kernel)
set_option maxRecDepth 20000 in
theorem gX9_fits_X7_learn : GoodIn wsX9_fits (wsV RX9 174 RX7 yX7_learn wsX7_learn) := goodIn_app (goodIn_of _ (by decide +kernel)) ggX9_fits_X7_learn
set_option maxRecDepth 20000 in
theorem ggX9_fits_X8_leftOut : GoodIn wsX9_fits wsX8_leftOut := goodIn_r _ [195, 196, 223, 224, 225, 226] (by decide +kernel) (by decide +kernel)
set_option maxRecDepth 20000 in
theorem gX9_fits_X8_leftOut : GoodIn wsX9_fits (wsV RX9 177 RX8 yX8_leftOut wsX8_leftOut) := goodIn_app (goodIn_of _ (by decide +kernel)) ggX9_fits_X8_leftOut
set_option maxRecDepth 20000 in
theorem ggX9_fits_X8_askedSights : GoodIn wsX9_fits wsX8_askedSights := goodIn_r _ [200, 15, 201, 202, 203, 13, 204, 205, 83, 84, 85, 86, 87, 88, 89, 90, 206, 132, 133, 134, 223, 224, 225, 226] (by decide +kernel) (by decide +kernel)
set_option maxRecDepth 20000 in
theorem gX9_fits_X8_askedSights : GoodIn wsX9_fits (wsV RX9 180 RX8 yX8_askedSights wsX8_askedSights) := goodIn_app (goodIn_of _ (by decide +kernel)) ggX9_fits_X8_askedSights
set_option maxRecDepth 20000 in
theorem ggX9_fits_X7_agrees : GoodIn wsX9_fits wsX7_agrees := goodIn_r _ [210, 23, 227, 228, 229, 230, 231, 232, 233] (by decide +kernel) (by decide +kernel)
set_option maxRecDepth 20000 in
theorem gX9_fits_X7_agrees : GoodIn wsX9_fits (wsV RX9 183 RX7 yX7_agrees wsX7_agrees) := goodIn_app (goodIn_of _ (by decide +kernel)) ggX9_fits_X7_agrees
theorem dX9_fits_0 : decode cX9_fits 0 = .ok (.iload_n 1, 1) := by decide +kernel
theorem dX9_fits_1 : decode cX9_fits 1 = .ok (.invokestatic 129, 3) := by decide +kernel
theorem dX9_fits_4 : decode cX9_fits 4 = .ok (.ifCond .eq 20, 3) := by decide +kernel
theorem dX9_fits_7 : decode cX9_fits 7 = .ok (.iload_n 2, 1) := by decide +kernel
theorem dX9_fits_8 : decode cX9_fits 8 = .ok (.iconst (-1), 1) := by decide +kernel
theorem dX9_fits_9 : decode cX9_fits 9 = .ok (.aload_n 0, 1) := by decide +kernel
theorem dX9_fits_10 : decode cX9_fits 10 = .ok (.getfield 26, 3) := by decide +kernel
theorem dX9_fits_13 : decode cX9_fits 13 = .ok (.invokevirtual 171, 3) := by decide +kernel
theorem dX9_fits_16 : decode cX9_fits 16 = .ok (.iconst 1, 1) := by decide +kernel
theorem dX9_fits_17 : decode cX9_fits 17 = .ok (.isub, 1) := by decide +kernel
theorem dX9_fits_18 : decode cX9_fits 18 = .ok (.invokestatic 83, 3) := by decide +kernel
theorem dX9_fits_21 : decode cX9_fits 21 = .ok (.ifCond .ne 5, 3) := by decide +kernel
theorem dX9_fits_24 : decode cX9_fits 24 = .ok (.iconst (-1), 1) := by decide +kernel
theorem dX9_fits_25 : decode cX9_fits 25 = .ok (.ireturn, 1) := by decide +kernel
theorem dX9_fits_26 : decode cX9_fits 26 = .ok (.aload_n 0, 1) := by decide +kernel
theorem dX9_fits_27 : decode cX9_fits 27 = .ok (.getfield 54, 3) := by decide +kernel
theorem dX9_fits_30 : decode cX9_fits 30 = .ok (.invokevirtual 174, 3) := by decide +kernel
theorem dX9_fits_33 : decode cX9_fits 33 = .ok (.iload_n 2, 1) := by decide +kernel
theorem dX9_fits_34 : decode cX9_fits 34 = .ok (.ifCond .ge 20, 3) := by decide +kernel
theorem dX9_fits_37 : decode cX9_fits 37 = .ok (.aload_n 0, 1) := by decide +kernel
theorem dX9_fits_38 : decode cX9_fits 38 = .ok (.getfield 26, 3) := by decide +kernel
theorem dX9_fits_41 : decode cX9_fits 41 = .ok (.aload_n 0, 1) := by decide +kernel
theorem dX9_fits_42 : decode cX9_fits 42 = .ok (.getfield 26, 3) := by decide +kernel
theorem dX9_fits_45 : decode cX9_fits 45 = .ok (.invokevirtual 177, 3) := by decide +kernel
theorem dX9_fits_48 : decode cX9_fits 48 = .ok (.invokevirtual 180, 3) := by decide +kernel
theorem dX9_fits_51 : decode cX9_fits 51 = .ok (.goto 6, 3) := by decide +kernel
theorem dX9_fits_54 : decode cX9_fits 54 = .ok (.iconst 1, 1) := by decide +kernel
theorem dX9_fits_55 : decode cX9_fits 55 = .ok (.iload_n 2, 1) := by decide +kernel
theorem dX9_fits_56 : decode cX9_fits 56 = .ok (.ishl, 1) := by decide +kernel
theorem dX9_fits_57 : decode cX9_fits 57 = .ok (.istore_n 3, 1) := by decide +kernel
theorem dX9_fits_58 : decode cX9_fits 58 = .ok (.aload_n 0, 1) := by decide +kernel
theorem dX9_fits_59 : decode cX9_fits 59 = .ok (.getfield 54, 3) := by decide +kernel
theorem dX9_fits_62 : decode cX9_fits 62 = .ok (.iload_n 1, 1) := by decide +kernel
theorem dX9_fits_63 : decode cX9_fits 63 = .ok (.iload_n 3, 1) := by decide +kernel
theorem dX9_fits_64 : decode cX9_fits 64 = .ok (.invokevirtual 183, 3) := by decide +kernel
theorem dX9_fits_67 : decode cX9_fits 67 = .ok (.ifCond .eq 7, 3) := by decide +kernel
theorem dX9_fits_70 : decode cX9_fits 70 = .ok (.iconst 1, 1) := by decide +kernel
theorem dX9_fits_71 : decode cX9_fits 71 = .ok (.goto 4, 3) := by decide +kernel
theorem dX9_fits_74 : decode cX9_fits 74 = .ok (.iconst 0, 1) := by decide +kernel
theorem dX9_fits_75 : decode cX9_fits 75 = .ok (.ireturn, 1) := by decide +kernel
set_option maxRecDepth 20000 in
theorem ggX9_fitting_X7_learn : GoodIn wsX9_fitting wsX7_learn := goodIn_r _ [7, 8, 9, 10, 11, 12, 13, 14, 15, 16, 17, 18, 19, 20, 21, 22, 23, 24, 25, 26, 27, 28, 29, 30, 31, 32, 33, 34, 35, 36, 37, 38, 39, 40, 41, 42, 43, 44, 45, 46, 47, 48, 49, 50, 51, 52, 53, 54, 55, 56, 57, 58, 59, 60, 61, 62, 63, 64, 65, 66, 67, 68, 6, 69, 70, 71, 72, 73, 74, 75, 76, 77, 78, 79, 80, 81, 82, 83, 84, 85, 86, 87, 88, 89, 90, 91, 92, 93, 94, 95, 96, 97, 98, 99, 100, 101, 102, 103, 104, 105, 106, 107, 108, 109, 110, 111, 112, 113, 114, 115, 116, 117, 118, 119, 120, 121, 122, 123, 124, 125, 126, 127, 128, 129, 130, 131, 132, 133, 134, 135, 136, 137, 138, 139, 140, 141, 142, 143, 144, 145, 146, 147, 148, 149, 150, 151, 152, 153, 154, 155, 156, 157, 158, 159, 160, 161, 162, 163, 164, 165, 166, 167, 168, 169, 170, 171, 172, 173, 174, 175, 176, 177, 178, 179, 180, 181, 182, 183, 223, 224, 225, 226, 227, 228, 229, 230, 231, 232, 233, 234, 235, 236, 237, 238, 239, 240, 241, 242, 243, 244, 245, 246, 247, 248, 249, 250, 251, 252, 253, 254, 255, 256, 257, 258] (by decide +kernel) (by decide +kernel)
set_option maxRecDepth 20000 in
theorem gX9_fitting_X7_learn : GoodIn wsX9_fitting (wsV RX9 174 RX7 yX7_learn wsX7_learn) := goodIn_app (goodIn_of _ (by decide +kernel)) ggX9_fitting_X7_learn
set_option maxRecDepth 20000 in
theorem ggX9_fitting_X8_leftOut : GoodIn wsX9_fitting wsX8_leftOut := goodIn_r _ [187, 188, 255, 256, 257, 258] (by decide +kernel) (by decide +kernel)
set_option maxRecDepth 20000 in
theorem gX9_fitting_X8_leftOut : GoodIn wsX9_fitting (wsV RX9 177 RX8 yX8_leftOut wsX8_leftOut) := goodIn_app (goodIn_of _ (by decide +kernel)) ggX9_fitting_X8_leftOut
set_option maxRecDepth 20000 in
theorem ggX9_fitting_X8_askedSights : GoodIn wsX9_fitting wsX8_askedSights := goodIn_r _ [192, 65, 193, 194, 195, 32, 196, 197, 75, 76, 77, 78, 79, 80, 81, 82, 198, 124, 125, 126, 255, 256, 257, 258] (by decide +kernel) (by decide +kernel)
set_option maxRecDepth 20000 in
theorem gX9_fitting_X8_askedSights : GoodIn wsX9_fitting (wsV RX9 180 RX8 yX8_askedSights wsX8_askedSights) := goodIn_app (goodIn_of _ (by decide +kernel)) ggX9_fitting_X8_askedSights
set_option maxRecDepth 20000 in
theorem ggX9_fitting_X7_agreeing : GoodIn wsX9_fitting wsX7_agreeing := goodIn_r _ [202, 203, 204, 205, 6, 206, 10, 223, 224, 225, 226, 227, 228, 229] (by decide +kernel) (by decide +kernel)
set_option maxRecDepth 20000 in
theorem gX9_fitting_X7_agreeing : GoodIn wsX9_fitting (wsV RX9 186 RX7 yX7_agreeing wsX7_agreeing) := goodIn_app (goodIn_of _ (by decide +kernel)) ggX9_fitting_X7_agreeing
set_option maxRecDepth 20000 in
theorem ggX9_fitting_X7_agreeingAt : GoodIn wsX9_fitting wsX7_agreeingAt := goodIn_r _ [210, 203, 204, 205, 6, 206, 10, 223, 224, 225, 226, 227, 228, 229] (by decide +kernel) (by decide +kernel)
set_option maxRecDepth 20000 in
theorem gX9_fitting_X7_agreeingAt : GoodIn wsX9_fitting (wsV RX9 189 RX7 yX7_agreeingAt wsX7_agreeingAt) := goodIn_app (goodIn_of _ (by decide +kernel)) ggX9_fitting_X7_agreeingAt
theorem dX9_fitting_0 : decode cX9_fitting 0 = .ok (.iload_n 1, 1) := by decide +kernel
theorem dX9_fitting_1 : decode cX9_fitting 1 = .ok (.iconst (-1), 1) := by decide +kernel
theorem dX9_fitting_2 : decode cX9_fitting 2 = .ok (.if_icmp .ge 5, 3) := by decide +kernel
theorem dX9_fitting_5 : decode cX9_fitting 5 = .ok (.iconst (-1), 1) := by decide +kernel
theorem dX9_fitting_6 : decode cX9_fitting 6 = .ok (.ireturn, 1) := by decide +kernel
theorem dX9_fitting_7 : decode cX9_fitting 7 = .ok (.aload_n 0, 1) := by decide +kernel
theorem dX9_fitting_8 : decode cX9_fitting 8 = .ok (.getfield 54, 3) := by decide +kernel
theorem dX9_fitting_11 : decode cX9_fitting 11 = .ok (.invokevirtual 174, 3) := by decide +kernel
theorem dX9_fitting_14 : decode cX9_fitting 14 = .ok (.aload_n 0, 1) := by decide +kernel
theorem dX9_fitting_15 : decode cX9_fitting 15 = .ok (.getfield 26, 3) := by decide +kernel
theorem dX9_fitting_18 : decode cX9_fitting 18 = .ok (.aload_n 0, 1) := by decide +kernel
theorem dX9_fitting_19 : decode cX9_fitting 19 = .ok (.getfield 26, 3) := by decide +kernel
theorem dX9_fitting_22 : decode cX9_fitting 22 = .ok (.invokevirtual 177, 3) := by decide +kernel
theorem dX9_fitting_25 : decode cX9_fitting 25 = .ok (.invokevirtual 180, 3) := by decide +kernel
theorem dX9_fitting_28 : decode cX9_fitting 28 = .ok (.istore_n 2, 1) := by decide +kernel
theorem dX9_fitting_29 : decode cX9_fitting 29 = .ok (.iload_n 1, 1) := by decide +kernel
theorem dX9_fitting_30 : decode cX9_fitting 30 = .ok (.ifCond .ge 14, 3) := by decide +kernel
theorem dX9_fitting_33 : decode cX9_fitting 33 = .ok (.aload_n 0, 1) := by decide +kernel
theorem dX9_fitting_34 : decode cX9_fitting 34 = .ok (.getfield 54, 3) := by decide +kernel
theorem dX9_fitting_37 : decode cX9_fitting 37 = .ok (.iload_n 2, 1) := by decide +kernel
theorem dX9_fitting_38 : decode cX9_fitting 38 = .ok (.invokevirtual 186, 3) := by decide +kernel
theorem dX9_fitting_41 : decode cX9_fitting 41 = .ok (.goto 12, 3) := by decide +kernel
theorem dX9_fitting_44 : decode cX9_fitting 44 = .ok (.aload_n 0, 1) := by decide +kernel
theorem dX9_fitting_45 : decode cX9_fitting 45 = .ok (.getfield 54, 3) := by decide +kernel
theorem dX9_fitting_48 : decode cX9_fitting 48 = .ok (.iload_n 2, 1) := by decide +kernel
theorem dX9_fitting_49 : decode cX9_fitting 49 = .ok (.iload_n 1, 1) := by decide +kernel
theorem dX9_fitting_50 : decode cX9_fitting 50 = .ok (.invokevirtual 189, 3) := by decide +kernel
theorem dX9_fitting_53 : decode cX9_fitting 53 = .ok (.ireturn, 1) := by decide +kernel
set_option maxRecDepth 20000 in
theorem ggX9_odds_X9_within : GoodIn wsX9_odds wsX9_within := goodIn_r _ [8] (by decide +kernel) (by decide +kernel)
set_option maxRecDepth 20000 in
theorem gX9_odds_X9_within : GoodIn wsX9_odds (va_wsS RX9 83 yX9_within wsX9_within) := goodIn_app (goodIn_of _ (by decide +kernel)) ggX9_odds_X9_within
set_option maxRecDepth 20000 in
theorem ggX9_odds_X7_learn : GoodIn wsX9_odds wsX7_learn := goodIn_r _ [13, 14, 15, 16, 17, 18, 19, 20, 21, 22, 23, 24, 25, 26, 27, 28, 29, 30, 31, 32, 33, 34, 35, 36, 37, 38, 39, 40, 41, 42, 43, 44, 45, 46, 47, 48, 49, 50, 51, 52, 53, 54, 55, 56, 57, 58, 59, 60, 61, 62, 63, 64, 65, 66, 67, 68, 69, 70, 71, 72, 73, 74, 12, 75, 76, 77, 78, 79, 80, 81, 82, 83, 84, 85, 86, 87, 88, 89, 90, 91, 92, 93, 94, 95, 96, 97, 98, 99, 100, 101, 102, 103, 104, 105, 106, 107, 108, 109, 110, 111, 112, 113, 114, 115, 116, 117, 118, 119, 120, 121, 122, 123, 124, 125, 126, 127, 128, 129, 130, 131, 132, 133, 134, 135, 136, 137, 138, 139, 140, 141, 142, 143, 144, 145, 146, 147, 148, 149, 150, 151, 152, 153, 154, 155, 156, 157, 158, 159, 160, 161, 162, 163, 164, 165, 166, 167, 168, 169, 170, 171, 172, 173, 174, 175, 176, 177, 178, 179, 180, 181, 182, 183, 184, 185, 186, 187, 188, 189, 239, 240, 241, 242, 243, 244, 245, 246, 247, 248, 249, 250, 251, 252, 253, 254, 255, 256, 257, 258, 259, 260, 261, 262, 263, 264, 265, 266, 267, 268, 269, 270, 271, 272, 273, 274] (by decide +kernel) (by decide +kernel)
set_option maxRecDepth 20000 in
theorem gX9_odds_X7_learn : GoodIn wsX9_odds (wsV RX9 174 RX7 yX7_learn wsX7_learn) := goodIn_app (goodIn_of _ (by decide +kernel)) ggX9_odds_X7_learn
set_option maxRecDepth 20000 in
theorem ggX9_odds_X8_leftOut : GoodIn wsX9_odds wsX8_leftOut := goodIn_r _ [193, 194, 271, 272, 273, 274] (by decide +kernel) (by decide +kernel)
set_option maxRecDepth 20000 in
theorem gX9_odds_X8_leftOut : GoodIn wsX9_odds (wsV RX9 177 RX8 yX8_leftOut wsX8_leftOut) := goodIn_app (goodIn_of _ (by decide +kernel)) ggX9_odds_X8_leftOut
set_option maxRecDepth 20000 in
theorem ggX9_odds_X8_askedSights : GoodIn wsX9_odds wsX8_askedSights := goodIn_r _ [198, 71, 199, 200, 201, 38, 202, 203, 81, 82, 83, 84, 85, 86, 87, 88, 204, 130, 131, 132, 271, 272, 273, 274] (by decide +kernel) (by decide +kernel)
set_option maxRecDepth 20000 in
theorem gX9_odds_X8_askedSights : GoodIn wsX9_odds (wsV RX9 180 RX8 yX8_askedSights wsX8_askedSights) := goodIn_app (goodIn_of _ (by decide +kernel)) ggX9_odds_X8_askedSights
set_option maxRecDepth 20000 in
theorem ggX9_odds_X7_agreeingOut : GoodIn wsX9_odds wsX7_agreeingOut := goodIn_r _ [208, 14, 101, 102, 103, 23, 104, 105, 106, 107, 108, 109, 110, 26, 111, 112, 113, 114, 115, 28, 27, 116, 35, 36, 37, 38, 39, 40, 29, 30, 31, 32, 33, 34, 117, 118, 119, 209, 210, 211, 12, 212, 16, 170, 171, 172, 173, 213, 214, 215, 216, 55, 54, 217, 98, 99, 100, 239, 240, 241, 242, 243, 244, 245, 246, 247, 248, 249, 250, 251, 252, 253, 254, 255, 256, 257, 258, 259, 260, 271, 272, 273, 274, 261, 262, 263, 264, 265, 266, 267, 268, 269, 270] (by decide +kernel) (by decide +kernel)
set_option maxRecDepth 20000 in
theorem gX9_odds_X7_agreeingOut : GoodIn wsX9_odds (wsV RX9 192 RX7 yX7_agreeingOut wsX7_agreeingOut) := goodIn_app (goodIn_of _ (by decide +kernel)) ggX9_odds_X7_agreeingOut
set_option maxRecDepth 20000 in
theorem ggX9_odds_X7_agreeing : GoodIn wsX9_odds wsX7_agreeing := goodIn_r _ [221, 209, 210, 211, 12, 212, 16, 239, 240, 241, 242, 243, 244, 245] (by decide +kernel) (by decide +kernel)
set_option maxRecDepth 20000 in
theorem gX9_odds_X7_agreeing : GoodIn wsX9_odds (wsV RX9 186 RX7 yX7_agreeing wsX7_agreeing) := goodIn_app (goodIn_of _ (by decide +kernel)) ggX9_odds_X7_agreeing
set_option maxRecDepth 20000 in
theorem ggX9_odds_X2_touches : GoodIn wsX9_odds wsX2_touches := goodIn_r _ [100, 26, 246, 247, 248, 249, 250, 251, 252, 253, 254, 255, 256, 257, 258, 259, 260] (by decide +kernel) (by decide +kernel)
set_option maxRecDepth 20000 in
theorem gX9_odds_X2_touches : GoodIn wsX9_odds (wsV RX9 143 RX2 yX2_touches wsX2_touches) := goodIn_app (goodIn_of _ (by decide +kernel)) ggX9_odds_X2_touches
set_option maxRecDepth 20000 in
theorem ggX9_odds_X5_number : GoodIn wsX9_odds wsX5_number := goodIn_r _ [33, 34, 261, 262, 263, 264, 265, 266, 267, 268, 269, 270] (by decide +kernel) (by decide +kernel)
set_option maxRecDepth 20000 in
theorem gX9_odds_X5_number : GoodIn wsX9_odds (wsV RX9 108 RX5 yX5_number wsX5_number) := goodIn_app (goodIn_of _ (by decide +kernel)) ggX9_odds_X5_number
set_option maxRecDepth 20000 in
theorem ggX9_odds_X9_calledBy : GoodIn wsX9_odds wsX9_calledBy := goodIn_r _ [226] (by decide +kernel) (by decide +kernel)
set_option maxRecDepth 20000 in
theorem gX9_odds_X9_calledBy : GoodIn wsX9_odds (va_wsS RX9 195 yX9_calledBy wsX9_calledBy) := goodIn_app (goodIn_of _ (by decide +kernel)) ggX9_odds_X9_calledBy
theorem dX9_odds_0 : decode cX9_odds 0 = .ok (.iload_n 1, 1) := by decide +kernel
theorem dX9_odds_1 : decode cX9_odds 1 = .ok (.iconst 0, 1) := by decide +kernel
theorem dX9_odds_2 : decode cX9_odds 2 = .ok (.iconst 2, 1) := by decide +kernel
theorem dX9_odds_3 : decode cX9_odds 3 = .ok (.invokestatic 83, 3) := by decide +kernel
theorem dX9_odds_6 : decode cX9_odds 6 = .ok (.ifCond .ne 5, 3) := by decide +kernel
theorem dX9_odds_9 : decode cX9_odds 9 = .ok (.iconst (-1), 1) := by decide +kernel
theorem dX9_odds_10 : decode cX9_odds 10 = .ok (.ireturn, 1) := by decide +kernel
theorem dX9_odds_11 : decode cX9_odds 11 = .ok (.aload_n 0, 1) := by decide +kernel
theorem dX9_odds_12 : decode cX9_odds 12 = .ok (.getfield 54, 3) := by decide +kernel
theorem dX9_odds_15 : decode cX9_odds 15 = .ok (.invokevirtual 174, 3) := by decide +kernel
theorem dX9_odds_18 : decode cX9_odds 18 = .ok (.aload_n 0, 1) := by decide +kernel
theorem dX9_odds_19 : decode cX9_odds 19 = .ok (.getfield 26, 3) := by decide +kernel
theorem dX9_odds_22 : decode cX9_odds 22 = .ok (.aload_n 0, 1) := by decide +kernel
theorem dX9_odds_23 : decode cX9_odds 23 = .ok (.getfield 26, 3) := by decide +kernel
theorem dX9_odds_26 : decode cX9_odds 26 = .ok (.invokevirtual 177, 3) := by decide +kernel
theorem dX9_odds_29 : decode cX9_odds 29 = .ok (.invokevirtual 180, 3) := by decide +kernel
theorem dX9_odds_32 : decode cX9_odds 32 = .ok (.istore_n 2, 1) := by decide +kernel
theorem dX9_odds_33 : decode cX9_odds 33 = .ok (.aload_n 0, 1) := by decide +kernel
theorem dX9_odds_34 : decode cX9_odds 34 = .ok (.getfield 54, 3) := by decide +kernel
theorem dX9_odds_37 : decode cX9_odds 37 = .ok (.iload_n 2, 1) := by decide +kernel
theorem dX9_odds_38 : decode cX9_odds 38 = .ok (.invokevirtual 192, 3) := by decide +kernel
theorem dX9_odds_41 : decode cX9_odds 41 = .ok (.istore_n 3, 1) := by decide +kernel
theorem dX9_odds_42 : decode cX9_odds 42 = .ok (.aload_n 0, 1) := by decide +kernel
theorem dX9_odds_43 : decode cX9_odds 43 = .ok (.getfield 54, 3) := by decide +kernel
theorem dX9_odds_46 : decode cX9_odds 46 = .ok (.iload_n 2, 1) := by decide +kernel
theorem dX9_odds_47 : decode cX9_odds 47 = .ok (.invokevirtual 186, 3) := by decide +kernel
theorem dX9_odds_50 : decode cX9_odds 50 = .ok (.istore 4, 2) := by decide +kernel
theorem dX9_odds_52 : decode cX9_odds 52 = .ok (.aload_n 0, 1) := by decide +kernel
theorem dX9_odds_53 : decode cX9_odds 53 = .ok (.getfield 45, 3) := by decide +kernel
theorem dX9_odds_56 : decode cX9_odds 56 = .ok (.invokevirtual 143, 3) := by decide +kernel
theorem dX9_odds_59 : decode cX9_odds 59 = .ok (.ifCond .eq 10, 3) := by decide +kernel
theorem dX9_odds_62 : decode cX9_odds 62 = .ok (.iload 4, 2) := by decide +kernel
theorem dX9_odds_64 : decode cX9_odds 64 = .ok (.iload_n 3, 1) := by decide +kernel
theorem dX9_odds_65 : decode cX9_odds 65 = .ok (.isub, 1) := by decide +kernel
theorem dX9_odds_66 : decode cX9_odds 66 = .ok (.goto 4, 3) := by decide +kernel
theorem dX9_odds_69 : decode cX9_odds 69 = .ok (.iconst 0, 1) := by decide +kernel
theorem dX9_odds_70 : decode cX9_odds 70 = .ok (.istore 5, 2) := by decide +kernel
theorem dX9_odds_72 : decode cX9_odds 72 = .ok (.iload_n 1, 1) := by decide +kernel
theorem dX9_odds_73 : decode cX9_odds 73 = .ok (.iconst 2, 1) := by decide +kernel
theorem dX9_odds_74 : decode cX9_odds 74 = .ok (.if_icmp .ge 14, 3) := by decide +kernel
theorem dX9_odds_77 : decode cX9_odds 77 = .ok (.iload_n 1, 1) := by decide +kernel
theorem dX9_odds_78 : decode cX9_odds 78 = .ok (.ifCond .ne 7, 3) := by decide +kernel
theorem dX9_odds_81 : decode cX9_odds 81 = .ok (.iload_n 3, 1) := by decide +kernel
theorem dX9_odds_82 : decode cX9_odds 82 = .ok (.goto 5, 3) := by decide +kernel
theorem dX9_odds_85 : decode cX9_odds 85 = .ok (.iload 5, 2) := by decide +kernel
theorem dX9_odds_87 : decode cX9_odds 87 = .ok (.ireturn, 1) := by decide +kernel
theorem dX9_odds_88 : decode cX9_odds 88 = .ok (.iload 4, 2) := by decide +kernel
theorem dX9_odds_90 : decode cX9_odds 90 = .ok (.ifCond .ne 8, 3) := by decide +kernel
theorem dX9_odds_93 : decode cX9_odds 93 = .ok (.bipush (-4), 2) := by decide +kernel
theorem dX9_odds_95 : decode cX9_odds 95 = .ok (.goto 20, 3) := by decide +kernel
theorem dX9_odds_98 : decode cX9_odds 98 = .ok (.iload_n 3, 1) := by decide +kernel
theorem dX9_odds_99 : decode cX9_odds 99 = .ok (.iload 5, 2) := by decide +kernel
theorem dX9_odds_101 : decode cX9_odds 101 = .ok (.aload_n 0, 1) := by decide +kernel
theorem dX9_odds_102 : decode cX9_odds 102 = .ok (.getfield 19, 3) := by decide +kernel
theorem dX9_odds_105 : decode cX9_odds 105 = .ok (.iconst 5, 1) := by decide +kernel
theorem dX9_odds_106 : decode cX9_odds 106 = .ok (.invokevirtual 108, 3) := by decide +kernel
theorem dX9_odds_109 : decode cX9_odds 109 = .ok (.iload 4, 2) := by decide +kernel
theorem dX9_odds_111 : decode cX9_odds 111 = .ok (.imul, 1) := by decide +kernel
theorem dX9_odds_112 : decode cX9_odds 112 = .ok (.invokestatic 195, 3) := by decide +kernel
theorem dX9_odds_115 : decode cX9_odds 115 = .ok (.ireturn, 1) := by decide +kernel
set_option maxRecDepth 20000 in
theorem ggX9_shown_X9_within : GoodIn wsX9_shown wsX9_within := goodIn_r _ [5] (by decide +kernel) (by decide +kernel)
set_option maxRecDepth 20000 in
theorem gX9_shown_X9_within : GoodIn wsX9_shown (va_wsS RX9 83 yX9_within wsX9_within) := goodIn_app (goodIn_of _ (by decide +kernel)) ggX9_shown_X9_within
set_option maxRecDepth 20000 in
theorem ggX9_shown_X7_learn : GoodIn wsX9_shown wsX7_learn := goodIn_r _ [10, 11, 12, 13, 14, 15, 16, 17, 18, 19, 20, 21, 22, 23, 24, 25, 26, 27, 28, 29, 30, 31, 32, 33, 34, 35, 36, 37, 38, 39, 40, 41, 42, 43, 44, 45, 46, 47, 48, 49, 50, 51, 52, 53, 54, 55, 56, 57, 58, 59, 60, 61, 62, 63, 64, 65, 66, 67, 68, 69, 70, 71, 9, 72, 73, 74, 75, 76, 77, 78, 79, 80, 81, 82, 83, 84, 85, 86, 87, 88, 89, 90, 91, 92, 93, 94, 95, 96, 97, 98, 99, 100, 101, 102, 103, 104, 105, 106, 107, 108, 109, 110, 111, 112, 113, 114, 115, 116, 117, 118, 119, 120, 121, 122, 123, 124, 125, 126, 127, 128, 129, 130, 131, 132, 133, 134, 135, 136, 137, 138, 139, 140, 141, 142, 143, 144, 145, 146, 147, 148, 149, 150, 151, 152, 153, 154, 155, 156, 157, 158, 159, 160, 161, 162, 163, 164, 165, 166, 167, 168, 169, 170, 171, 172, 173, 174, 175, 176, 177, 178, 179, 180, 181, 182, 183, 184, 185, 186, 213, 214, 215, 216, 217, 218, 219, 220, 221, 222, 223, 224, 225, 226, 227, 228, 229, 230, 231, 232, 233, 234, 235, 236, 237, 238, 239, 240, 241, 242, 243, 244, 245, 246, 247, 248] (by decide +kernel) (by decide +kernel)
set_option maxRecDepth 20000 in
theorem gX9_shown_X7_learn : GoodIn wsX9_shown (wsV RX9 174 RX7 yX7_learn wsX7_learn) := goodIn_app (goodIn_of _ (by decide +kernel)) ggX9_shown_X7_learn
set_option maxRecDepth 20000 in
theorem ggX9_shown_X7_nearest : GoodIn wsX9_shown wsX7_nearest := goodIn_r _ [190, 191, 192, 193, 9, 194, 16, 14, 195, 196, 197, 35, 198, 199, 213, 214, 215, 216, 217, 218, 219, 245, 246, 247, 248] (by decide +kernel) (by decide +kernel)
set_option maxRecDepth 20000 in
theorem gX9_shown_X7_nearest : GoodIn wsX9_shown (wsV RX9 198 RX7 yX7_nearest wsX7_nearest) := goodIn_app (goodIn_of _ (by decide +kernel)) ggX9_shown_X7_nearest
set_option maxRecDepth 20000 in
theorem ggX9_shown_X7_offSum : GoodIn wsX9_shown wsX7_offSum := goodIn_r _ [194, 16, 14, 195, 196, 197, 35, 198, 199, 213, 214, 215, 216, 217, 218, 219, 245, 246, 247, 248] (by decide +kernel) (by decide +kernel)
set_option maxRecDepth 20000 in
theorem gX9_shown_X7_offSum : GoodIn wsX9_shown (wsV RX9 201 RX7 yX7_offSum wsX7_offSum) := goodIn_app (goodIn_of _ (by decide +kernel)) ggX9_shown_X7_offSum
theorem dX9_shown_0 : decode cX9_shown 0 = .ok (.iload_n 1, 1) := by decide +kernel
theorem dX9_shown_1 : decode cX9_shown 1 = .ok (.iconst 0, 1) := by decide +kernel
theorem dX9_shown_2 : decode cX9_shown 2 = .ok (.iconst 1, 1) := by decide +kernel
theorem dX9_shown_3 : decode cX9_shown 3 = .ok (.invokestatic 83, 3) := by decide +kernel
theorem dX9_shown_6 : decode cX9_shown 6 = .ok (.ifCond .ne 5, 3) := by decide +kernel
theorem dX9_shown_9 : decode cX9_shown 9 = .ok (.iconst (-1), 1) := by decide +kernel
theorem dX9_shown_10 : decode cX9_shown 10 = .ok (.ireturn, 1) := by decide +kernel
theorem dX9_shown_11 : decode cX9_shown 11 = .ok (.aload_n 0, 1) := by decide +kernel
theorem dX9_shown_12 : decode cX9_shown 12 = .ok (.getfield 54, 3) := by decide +kernel
theorem dX9_shown_15 : decode cX9_shown 15 = .ok (.invokevirtual 174, 3) := by decide +kernel
theorem dX9_shown_18 : decode cX9_shown 18 = .ok (.aload_n 0, 1) := by decide +kernel
theorem dX9_shown_19 : decode cX9_shown 19 = .ok (.getfield 54, 3) := by decide +kernel
theorem dX9_shown_22 : decode cX9_shown 22 = .ok (.invokevirtual 198, 3) := by decide +kernel
theorem dX9_shown_25 : decode cX9_shown 25 = .ok (.istore_n 2, 1) := by decide +kernel
theorem dX9_shown_26 : decode cX9_shown 26 = .ok (.iload_n 1, 1) := by decide +kernel
theorem dX9_shown_27 : decode cX9_shown 27 = .ok (.ifCond .ne 7, 3) := by decide +kernel
theorem dX9_shown_30 : decode cX9_shown 30 = .ok (.iload_n 2, 1) := by decide +kernel
theorem dX9_shown_31 : decode cX9_shown 31 = .ok (.goto 11, 3) := by decide +kernel
theorem dX9_shown_34 : decode cX9_shown 34 = .ok (.aload_n 0, 1) := by decide +kernel
theorem dX9_shown_35 : decode cX9_shown 35 = .ok (.getfield 54, 3) := by decide +kernel
theorem dX9_shown_38 : decode cX9_shown 38 = .ok (.iload_n 2, 1) := by decide +kernel
theorem dX9_shown_39 : decode cX9_shown 39 = .ok (.invokevirtual 201, 3) := by decide +kernel
theorem dX9_shown_42 : decode cX9_shown 42 = .ok (.ireturn, 1) := by decide +kernel
set_option maxRecDepth 20000 in
theorem ggX9_apart_X9_isCurve : GoodIn wsX9_apart wsX9_isCurve := goodIn_r _ [5, 6, 7, 4, 8] (by decide +kernel) (by decide +kernel)
set_option maxRecDepth 20000 in
theorem gX9_apart_X9_isCurve : GoodIn wsX9_apart (va_wsS RX9 129 yX9_isCurve wsX9_isCurve) := goodIn_app (goodIn_of _ (by decide +kernel)) ggX9_apart_X9_isCurve
set_option maxRecDepth 20000 in
theorem ggX9_apart_X2_fly : GoodIn wsX9_apart wsX2_fly := goodIn_r _ [13, 14, 15, 16, 17, 18, 19, 20, 21, 22, 23, 24, 25, 26, 27, 28, 29, 30, 31, 32, 12, 33, 34, 35, 36, 37, 38, 39, 40, 41, 42, 43, 44, 45, 46, 47, 48, 49, 50, 51, 89, 90, 91, 92, 93, 94, 95, 96, 97, 98, 99, 100, 101, 102, 103, 104, 105, 106, 107, 108, 109, 110, 111, 112, 113, 114, 115, 116, 117] (by decide +kernel) (by decide +kernel)
set_option maxRecDepth 20000 in
theorem gX9_apart_X2_fly : GoodIn wsX9_apart (wsV RX9 136 RX2 yX2_fly wsX2_fly) := goodIn_app (goodIn_of _ (by decide +kernel)) ggX9_apart_X2_fly
set_option maxRecDepth 20000 in
theorem ggX9_apart_X2_touches : GoodIn wsX9_apart wsX2_touches := goodIn_r _ [55, 15, 89, 90, 91, 92, 93, 94, 95, 96, 97, 98, 99, 100, 101, 102, 103] (by decide +kernel) (by decide +kernel)
set_option maxRecDepth 20000 in
theorem gX9_apart_X2_touches : GoodIn wsX9_apart (wsV RX9 143 RX2 yX2_touches wsX2_touches) := goodIn_app (goodIn_of _ (by decide +kernel)) ggX9_apart_X2_touches
set_option maxRecDepth 20000 in
theorem ggX9_apart_X2_touchGap : GoodIn wsX9_apart wsX2_touchGap := goodIn_r _ [59, 60, 61, 62, 63, 64, 65, 66, 12, 67, 15, 68, 69, 70, 71, 72, 17, 16, 73, 24, 25, 26, 27, 28, 29, 18, 19, 20, 21, 22, 23, 74, 75, 76, 89, 90, 91, 92, 93, 94, 95, 96, 97, 98, 99, 100, 101, 102, 103, 114, 115, 116, 117, 104, 105, 106, 107, 108, 109, 110, 111, 112, 113] (by decide +kernel) (by decide +kernel)
set_option maxRecDepth 20000 in
theorem gX9_apart_X2_touchGap : GoodIn wsX9_apart (wsV RX9 204 RX2 yX2_touchGap wsX2_touchGap) := goodIn_app (goodIn_of _ (by decide +kernel)) ggX9_apart_X2_touchGap
theorem dX9_apart_0 : decode cX9_apart 0 = .ok (.iload_n 1, 1) := by decide +kernel
theorem dX9_apart_1 : decode cX9_apart 1 = .ok (.invokestatic 129, 3) := by decide +kernel
theorem dX9_apart_4 : decode cX9_apart 4 = .ok (.ifCond .eq 10, 3) := by decide +kernel
theorem dX9_apart_7 : decode cX9_apart 7 = .ok (.iload_n 2, 1) := by decide +kernel
theorem dX9_apart_8 : decode cX9_apart 8 = .ok (.invokestatic 129, 3) := by decide +kernel
theorem dX9_apart_11 : decode cX9_apart 11 = .ok (.ifCond .ne 5, 3) := by decide +kernel
theorem dX9_apart_14 : decode cX9_apart 14 = .ok (.iconst (-1), 1) := by decide +kernel
theorem dX9_apart_15 : decode cX9_apart 15 = .ok (.ireturn, 1) := by decide +kernel
theorem dX9_apart_16 : decode cX9_apart 16 = .ok (.aload_n 0, 1) := by decide +kernel
theorem dX9_apart_17 : decode cX9_apart 17 = .ok (.getfield 45, 3) := by decide +kernel
theorem dX9_apart_20 : decode cX9_apart 20 = .ok (.invokevirtual 136, 3) := by decide +kernel
theorem dX9_apart_23 : decode cX9_apart 23 = .ok (.aload_n 0, 1) := by decide +kernel
theorem dX9_apart_24 : decode cX9_apart 24 = .ok (.getfield 45, 3) := by decide +kernel
theorem dX9_apart_27 : decode cX9_apart 27 = .ok (.invokevirtual 143, 3) := by decide +kernel
theorem dX9_apart_30 : decode cX9_apart 30 = .ok (.ifCond .eq 15, 3) := by decide +kernel
theorem dX9_apart_33 : decode cX9_apart 33 = .ok (.aload_n 0, 1) := by decide +kernel
theorem dX9_apart_34 : decode cX9_apart 34 = .ok (.getfield 45, 3) := by decide +kernel
theorem dX9_apart_37 : decode cX9_apart 37 = .ok (.iload_n 1, 1) := by decide +kernel
theorem dX9_apart_38 : decode cX9_apart 38 = .ok (.iload_n 2, 1) := by decide +kernel
theorem dX9_apart_39 : decode cX9_apart 39 = .ok (.invokevirtual 204, 3) := by decide +kernel
theorem dX9_apart_42 : decode cX9_apart 42 = .ok (.goto 5, 3) := by decide +kernel
theorem dX9_apart_45 : decode cX9_apart 45 = .ok (.bipush (-4), 2) := by decide +kernel
theorem dX9_apart_47 : decode cX9_apart 47 = .ok (.ireturn, 1) := by decide +kernel
set_option maxRecDepth 20000 in
theorem ggX9_moved_X7_learn : GoodIn wsX9_moved wsX7_learn := goodIn_r _ [6, 7, 8, 9, 10, 11, 12, 13, 14, 15, 16, 17, 18, 19, 20, 21, 22, 23, 24, 25, 26, 27, 28, 29, 30, 31, 32, 33, 34, 35, 36, 37, 38, 39, 40, 41, 42, 43, 44, 45, 46, 47, 48, 49, 50, 51, 52, 53, 54, 55, 56, 57, 58, 59, 60, 61, 62, 63, 64, 65, 66, 67, 5, 68, 69, 70, 71, 72, 73, 74, 75, 76, 77, 78, 79, 80, 81, 82, 83, 84, 85, 86, 87, 88, 89, 90, 91, 92, 93, 94, 95, 96, 97, 98, 99, 100, 101, 102, 103, 104, 105, 106, 107, 108, 109, 110, 111, 112, 113, 114, 115, 116, 117, 118, 119, 120, 121, 122, 123, 124, 125, 126, 127, 128, 129, 130, 131, 132, 133, 134, 135, 136, 137, 138, 139, 140, 141, 142, 143, 144, 145, 146, 147, 148, 149, 150, 151, 152, 153, 154, 155, 156, 157, 158, 159, 160, 161, 162, 163, 164, 165, 166, 167, 168, 169, 170, 171, 172, 173, 174, 175, 176, 177, 178, 179, 180, 181, 182, 233, 234, 235, 236, 237, 238, 239, 240, 241, 242, 243, 244, 245, 246, 247, 248, 249, 250, 251, 252, 253, 254, 255, 256, 257, 258, 259, 260, 261, 262, 263, 264, 265, 266, 267, 268] (by decide +kernel) (by decide +kernel)
set_option maxRecDepth 20000 in
theorem gX9_moved_X7_learn : GoodIn wsX9_moved (wsV RX9 174 RX7 yX7_learn wsX7_learn) := goodIn_app (goodIn_of _ (by decide +kernel)) ggX9_moved_X7_learn
set_option maxRecDepth 20000 in
theorem ggX9_moved_X7_fewestToLeave : GoodIn wsX9_moved wsX7_fewestToLeave := goodIn_r _ [186, 12, 187, 188, 189, 31, 190, 191, 192, 193, 194, 195, 196, 197, 198, 199, 200, 201, 5, 202, 203, 204, 205, 206, 64, 207, 208, 209, 210, 211, 74, 75, 76, 77, 78, 79, 80, 81, 212, 123, 124, 125, 213, 214, 215, 216, 217, 218, 219, 220, 9, 233, 234, 235, 236, 237, 238, 239, 265, 266, 267, 268] (by decide +kernel) (by decide +kernel)
set_option maxRecDepth 20000 in
theorem gX9_moved_X7_fewestToLeave : GoodIn wsX9_moved (wsV RX9 207 RX7 yX7_fewestToLeave wsX7_fewestToLeave) := goodIn_app (goodIn_of _ (by decide +kernel)) ggX9_moved_X7_fewestToLeave
theorem dX9_moved_0 : decode cX9_moved 0 = .ok (.aload_n 0, 1) := by decide +kernel
theorem dX9_moved_1 : decode cX9_moved 1 = .ok (.getfield 54, 3) := by decide +kernel
theorem dX9_moved_4 : decode cX9_moved 4 = .ok (.invokevirtual 174, 3) := by decide +kernel
theorem dX9_moved_7 : decode cX9_moved 7 = .ok (.aload_n 0, 1) := by decide +kernel
theorem dX9_moved_8 : decode cX9_moved 8 = .ok (.getfield 54, 3) := by decide +kernel
theorem dX9_moved_11 : decode cX9_moved 11 = .ok (.invokevirtual 207, 3) := by decide +kernel
theorem dX9_moved_14 : decode cX9_moved 14 = .ok (.ireturn, 1) := by decide +kernel
set_option maxRecDepth 20000 in
theorem ggX9_whose_X8_sightCount : GoodIn wsX9_whose wsX8_sightCount := goodIn_r _ [7, 8, 221, 222, 223, 224] (by decide +kernel) (by decide +kernel)
set_option maxRecDepth 20000 in
theorem gX9_whose_X8_sightCount : GoodIn wsX9_whose (wsV RX9 171 RX8 yX8_sightCount wsX8_sightCount) := goodIn_app (goodIn_of _ (by decide +kernel)) ggX9_whose_X8_sightCount
set_option maxRecDepth 20000 in
theorem ggX9_whose_X9_within : GoodIn wsX9_whose wsX9_within := goodIn_r _ [12] (by decide +kernel) (by decide +kernel)
set_option maxRecDepth 20000 in
theorem gX9_whose_X9_within : GoodIn wsX9_whose (va_wsS RX9 83 yX9_within wsX9_within) := goodIn_app (goodIn_of _ (by decide +kernel)) ggX9_whose_X9_within
set_option maxRecDepth 20000 in
theorem ggX9_whose_X8_isBlur : GoodIn wsX9_whose wsX8_isBlur := goodIn_r _ [16, 17, 18, 19, 6, 20, 8, 21, 221, 222, 223, 224] (by decide +kernel) (by decide +kernel)
set_option maxRecDepth 20000 in
theorem gX9_whose_X8_isBlur : GoodIn wsX9_whose (wsV RX9 210 RX8 yX8_isBlur wsX8_isBlur) := goodIn_app (goodIn_of _ (by decide +kernel)) ggX9_whose_X8_isBlur
set_option maxRecDepth 20000 in
theorem ggX9_whose_X7_learn : GoodIn wsX9_whose wsX7_learn := goodIn_r _ [26, 27, 28, 29, 30, 31, 32, 33, 34, 35, 36, 37, 38, 39, 40, 41, 42, 43, 44, 45, 46, 47, 48, 49, 50, 6, 51, 52, 53, 54, 55, 56, 57, 58, 59, 60, 61, 62, 63, 64, 65, 66, 67, 68, 69, 70, 71, 72, 73, 74, 75, 76, 77, 78, 79, 4, 5, 7, 8, 80, 81, 82, 25, 83, 84, 85, 86, 87, 88, 14, 15, 16, 17, 18, 19, 20, 21, 89, 90, 91, 92, 93, 94, 95, 96, 97, 98, 99, 100, 101, 102, 103, 104, 105, 106, 107, 108, 109, 110, 111, 112, 113, 114, 115, 116, 117, 118, 119, 120, 121, 122, 123, 124, 125, 126, 127, 128, 129, 130, 131, 132, 133, 134, 135, 136, 137, 138, 139, 140, 141, 142, 143, 144, 145, 146, 147, 148, 149, 150, 151, 152, 153, 154, 155, 156, 157, 158, 159, 160, 161, 162, 163, 164, 165, 166, 167, 168, 169, 170, 171, 172, 173, 174, 175, 176, 177, 178, 179, 180, 181, 182, 183, 184, 185, 186, 187, 188, 189, 225, 226, 227, 228, 229, 230, 231, 232, 233, 234, 235, 236, 237, 238, 239, 240, 241, 242, 243, 244, 245, 246, 247, 248, 249, 250, 251, 252, 253, 254, 255, 256, 221, 222, 223, 224] (by decide +kernel) (by decide +kernel)
set_option maxRecDepth 20000 in
theorem gX9_whose_X7_learn : GoodIn wsX9_whose (wsV RX9 174 RX7 yX7_learn wsX7_learn) := goodIn_app (goodIn_of _ (by decide +kernel)) ggX9_whose_X7_learn
set_option maxRecDepth 20000 in
theorem ggX9_whose_X8_leftOut : GoodIn wsX9_whose wsX8_leftOut := goodIn_r _ [193, 194, 221, 222, 223, 224] (by decide +kernel) (by decide +kernel)
set_option maxRecDepth 20000 in
theorem gX9_whose_X8_leftOut : GoodIn wsX9_whose (wsV RX9 177 RX8 yX8_leftOut wsX8_leftOut) := goodIn_app (goodIn_of _ (by decide +kernel)) ggX9_whose_X8_leftOut
set_option maxRecDepth 20000 in
theorem ggX9_whose_X8_askedBlurs : GoodIn wsX9_whose wsX8_askedBlurs := goodIn_r _ [198, 8, 199, 14, 15, 6, 16, 17, 18, 19, 20, 21, 200, 130, 131, 132, 221, 222, 223, 224] (by decide +kernel) (by decide +kernel)
set_option maxRecDepth 20000 in
theorem gX9_whose_X8_askedBlurs : GoodIn wsX9_whose (wsV RX9 213 RX8 yX8_askedBlurs wsX8_askedBlurs) := goodIn_app (goodIn_of _ (by decide +kernel)) ggX9_whose_X8_askedBlurs
set_option maxRecDepth 20000 in
theorem ggX9_whose_X7_agreeing : GoodIn wsX9_whose wsX7_agreeing := goodIn_r _ [204, 205, 206, 207, 25, 208, 29, 225, 226, 227, 228, 229, 230, 231] (by decide +kernel) (by decide +kernel)
set_option maxRecDepth 20000 in
theorem gX9_whose_X7_agreeing : GoodIn wsX9_whose (wsV RX9 186 RX7 yX7_agreeing wsX7_agreeing) := goodIn_app (goodIn_of _ (by decide +kernel)) ggX9_whose_X7_agreeing
theorem dX9_whose_0 : decode cX9_whose 0 = .ok (.iload_n 1, 1) := by decide +kernel
theorem dX9_whose_1 : decode cX9_whose 1 = .ok (.iconst 0, 1) := by decide +kernel
theorem dX9_whose_2 : decode cX9_whose 2 = .ok (.aload_n 0, 1) := by decide +kernel
theorem dX9_whose_3 : decode cX9_whose 3 = .ok (.getfield 26, 3) := by decide +kernel
theorem dX9_whose_6 : decode cX9_whose 6 = .ok (.invokevirtual 171, 3) := by decide +kernel
theorem dX9_whose_9 : decode cX9_whose 9 = .ok (.iconst 1, 1) := by decide +kernel
theorem dX9_whose_10 : decode cX9_whose 10 = .ok (.isub, 1) := by decide +kernel
theorem dX9_whose_11 : decode cX9_whose 11 = .ok (.invokestatic 83, 3) := by decide +kernel
theorem dX9_whose_14 : decode cX9_whose 14 = .ok (.ifCond .eq 14, 3) := by decide +kernel
theorem dX9_whose_17 : decode cX9_whose 17 = .ok (.aload_n 0, 1) := by decide +kernel
theorem dX9_whose_18 : decode cX9_whose 18 = .ok (.getfield 26, 3) := by decide +kernel
theorem dX9_whose_21 : decode cX9_whose 21 = .ok (.iload_n 1, 1) := by decide +kernel
theorem dX9_whose_22 : decode cX9_whose 22 = .ok (.invokevirtual 210, 3) := by decide +kernel
theorem dX9_whose_25 : decode cX9_whose 25 = .ok (.ifCond .eq 5, 3) := by decide +kernel
theorem dX9_whose_28 : decode cX9_whose 28 = .ok (.iconst (-1), 1) := by decide +kernel
theorem dX9_whose_29 : decode cX9_whose 29 = .ok (.ireturn, 1) := by decide +kernel
theorem dX9_whose_30 : decode cX9_whose 30 = .ok (.aload_n 0, 1) := by decide +kernel
theorem dX9_whose_31 : decode cX9_whose 31 = .ok (.getfield 54, 3) := by decide +kernel
theorem dX9_whose_34 : decode cX9_whose 34 = .ok (.invokevirtual 174, 3) := by decide +kernel
theorem dX9_whose_37 : decode cX9_whose 37 = .ok (.aload_n 0, 1) := by decide +kernel
theorem dX9_whose_38 : decode cX9_whose 38 = .ok (.getfield 26, 3) := by decide +kernel
theorem dX9_whose_41 : decode cX9_whose 41 = .ok (.aload_n 0, 1) := by decide +kernel
theorem dX9_whose_42 : decode cX9_whose 42 = .ok (.getfield 26, 3) := by decide +kernel
theorem dX9_whose_45 : decode cX9_whose 45 = .ok (.invokevirtual 177, 3) := by decide +kernel
theorem dX9_whose_48 : decode cX9_whose 48 = .ok (.invokevirtual 213, 3) := by decide +kernel
theorem dX9_whose_51 : decode cX9_whose 51 = .ok (.istore_n 2, 1) := by decide +kernel
theorem dX9_whose_52 : decode cX9_whose 52 = .ok (.aload_n 0, 1) := by decide +kernel
theorem dX9_whose_53 : decode cX9_whose 53 = .ok (.getfield 54, 3) := by decide +kernel
theorem dX9_whose_56 : decode cX9_whose 56 = .ok (.iload_n 2, 1) := by decide +kernel
theorem dX9_whose_57 : decode cX9_whose 57 = .ok (.invokevirtual 186, 3) := by decide +kernel
theorem dX9_whose_60 : decode cX9_whose 60 = .ok (.istore_n 3, 1) := by decide +kernel
theorem dX9_whose_61 : decode cX9_whose 61 = .ok (.aload_n 0, 1) := by decide +kernel
theorem dX9_whose_62 : decode cX9_whose 62 = .ok (.getfield 54, 3) := by decide +kernel
theorem dX9_whose_65 : decode cX9_whose 65 = .ok (.iload_n 2, 1) := by decide +kernel
theorem dX9_whose_66 : decode cX9_whose 66 = .ok (.iconst 1, 1) := by decide +kernel
theorem dX9_whose_67 : decode cX9_whose 67 = .ok (.iload_n 1, 1) := by decide +kernel
theorem dX9_whose_68 : decode cX9_whose 68 = .ok (.ishl, 1) := by decide +kernel
theorem dX9_whose_69 : decode cX9_whose 69 = .ok (.ior, 1) := by decide +kernel
theorem dX9_whose_70 : decode cX9_whose 70 = .ok (.invokevirtual 186, 3) := by decide +kernel
theorem dX9_whose_73 : decode cX9_whose 73 = .ok (.istore 4, 2) := by decide +kernel
theorem dX9_whose_75 : decode cX9_whose 75 = .ok (.iload 4, 2) := by decide +kernel
theorem dX9_whose_77 : decode cX9_whose 77 = .ok (.ifCond .ne 5, 3) := by decide +kernel
theorem dX9_whose_80 : decode cX9_whose 80 = .ok (.iconst 0, 1) := by decide +kernel
theorem dX9_whose_81 : decode cX9_whose 81 = .ok (.ireturn, 1) := by decide +kernel
theorem dX9_whose_82 : decode cX9_whose 82 = .ok (.iload 4, 2) := by decide +kernel
theorem dX9_whose_84 : decode cX9_whose 84 = .ok (.iload_n 3, 1) := by decide +kernel
theorem dX9_whose_85 : decode cX9_whose 85 = .ok (.if_icmp .ne 7, 3) := by decide +kernel
theorem dX9_whose_88 : decode cX9_whose 88 = .ok (.iconst 2, 1) := by decide +kernel
theorem dX9_whose_89 : decode cX9_whose 89 = .ok (.goto 4, 3) := by decide +kernel
theorem dX9_whose_92 : decode cX9_whose 92 = .ok (.iconst 1, 1) := by decide +kernel
theorem dX9_whose_93 : decode cX9_whose 93 = .ok (.ireturn, 1) := by decide +kernel
set_option maxRecDepth 20000 in
theorem ggX9_would_X9_within : GoodIn wsX9_would wsX9_within := goodIn_r _ [7] (by decide +kernel) (by decide +kernel)
set_option maxRecDepth 20000 in
theorem gX9_would_X9_within : GoodIn wsX9_would (va_wsS RX9 83 yX9_within wsX9_within) := goodIn_app (goodIn_of _ (by decide +kernel)) ggX9_would_X9_within
set_option maxRecDepth 20000 in
theorem ggX9_would_X5_hasWicket : GoodIn wsX9_would wsX5_hasWicket := goodIn_r _ [12, 13, 252, 253, 254, 255, 256, 257, 258, 259, 260, 261] (by decide +kernel) (by decide +kernel)
set_option maxRecDepth 20000 in
theorem gX9_would_X5_hasWicket : GoodIn wsX9_would (wsV RX9 216 RX5 yX5_hasWicket wsX5_hasWicket) := goodIn_app (goodIn_of _ (by decide +kernel)) ggX9_would_X5_hasWicket
set_option maxRecDepth 20000 in
theorem ggX9_would_X7_learn : GoodIn wsX9_would wsX7_learn := goodIn_r _ [18, 19, 20, 21, 22, 23, 24, 25, 26, 27, 28, 29, 30, 31, 32, 33, 34, 35, 36, 11, 37, 38, 39, 40, 41, 42, 43, 44, 45, 46, 47, 48, 49, 50, 51, 52, 53, 54, 55, 56, 57, 58, 59, 60, 61, 62, 63, 64, 65, 66, 67, 68, 69, 70, 71, 72, 73, 74, 75, 76, 77, 78, 17, 79, 80, 81, 82, 83, 84, 85, 86, 87, 88, 89, 90, 91, 92, 93, 94, 95, 96, 97, 98, 99, 100, 101, 102, 103, 104, 105, 106, 107, 108, 109, 110, 111, 112, 113, 114, 115, 116, 117, 118, 119, 120, 121, 122, 123, 124, 125, 126, 127, 128, 129, 130, 131, 132, 133, 134, 135, 136, 137, 138, 139, 140, 141, 142, 143, 144, 145, 146, 147, 148, 149, 150, 151, 152, 153, 154, 155, 156, 157, 158, 159, 160, 161, 162, 163, 164, 165, 166, 167, 168, 169, 170, 171, 172, 173, 174, 175, 176, 177, 178, 179, 180, 181, 182, 183, 184, 185, 186, 187, 188, 189, 190, 191, 192, 193, 262, 263, 264, 265, 266, 267, 268, 269, 270, 271, 272, 273, 274, 275, 276, 277, 278, 279, 280, 281, 282, 283, 252, 253, 254, 255, 256, 257, 258, 259, 260, 261, 284, 285, 286, 287] (by decide +kernel) (by decide +kernel)
set_option maxRecDepth 20000 in
theorem gX9_would_X7_learn : GoodIn wsX9_would (wsV RX9 174 RX7 yX7_learn wsX7_learn) := goodIn_app (goodIn_of _ (by decide +kernel)) ggX9_would_X7_learn
set_option maxRecDepth 20000 in
theorem ggX9_would_X8_leftOut : GoodIn wsX9_would wsX8_leftOut := goodIn_r _ [197, 198, 284, 285, 286, 287] (by decide +kernel) (by decide +kernel)
set_option maxRecDepth 20000 in
theorem gX9_would_X8_leftOut : GoodIn wsX9_would (wsV RX9 177 RX8 yX8_leftOut wsX8_leftOut) := goodIn_app (goodIn_of _ (by decide +kernel)) ggX9_would_X8_leftOut
set_option maxRecDepth 20000 in
theorem ggX9_would_X8_askedSights : GoodIn wsX9_would wsX8_askedSights := goodIn_r _ [202, 75, 203, 204, 205, 42, 206, 207, 85, 86, 87, 88, 89, 90, 91, 92, 208, 134, 135, 136, 284, 285, 286, 287] (by decide +kernel) (by decide +kernel)
set_option maxRecDepth 20000 in
theorem gX9_would_X8_askedSights : GoodIn wsX9_would (wsV RX9 180 RX8 yX8_askedSights wsX8_askedSights) := goodIn_app (goodIn_of _ (by decide +kernel)) ggX9_would_X8_askedSights
set_option maxRecDepth 20000 in
theorem ggX9_would_X7_hitting : GoodIn wsX9_would wsX7_hitting := goodIn_r _ [212, 19, 130, 131, 82, 132, 213, 214, 215, 11, 216, 217, 218, 219, 220, 28, 221, 49, 121, 122, 123, 150, 151, 152, 153, 50, 222, 223, 224, 225, 226, 227, 228, 229, 17, 230, 21, 124, 117, 118, 119, 33, 32, 115, 120, 39, 40, 41, 42, 43, 44, 34, 35, 36, 37, 38, 146, 147, 148, 149, 231, 232, 233, 234, 235, 262, 263, 264, 265, 266, 267, 268, 252, 253, 254, 255, 256, 257, 258, 259, 260, 261, 269, 270, 271, 272, 273, 274, 275, 276, 277, 278, 279, 280, 281, 282, 283, 284, 285, 286, 287] (by decide +kernel) (by decide +kernel)
set_option maxRecDepth 20000 in
theorem gX9_would_X7_hitting : GoodIn wsX9_would (wsV RX9 219 RX7 yX7_hitting wsX7_hitting) := goodIn_app (goodIn_of _ (by decide +kernel)) ggX9_would_X7_hitting
set_option maxRecDepth 20000 in
theorem ggX9_would_X7_agreeing : GoodIn wsX9_would wsX7_agreeing := goodIn_r _ [239, 227, 228, 229, 17, 230, 21, 262, 263, 264, 265, 266, 267, 268] (by decide +kernel) (by decide +kernel)
set_option maxRecDepth 20000 in
theorem gX9_would_X7_agreeing : GoodIn wsX9_would (wsV RX9 186 RX7 yX7_agreeing wsX7_agreeing) := goodIn_app (goodIn_of _ (by decide +kernel)) ggX9_would_X7_agreeing
theorem dX9_would_0 : decode cX9_would 0 = .ok (.iload_n 1, 1) := by decide +kernel
theorem dX9_would_1 : decode cX9_would 1 = .ok (.iconst 0, 1) := by decide +kernel
theorem dX9_would_2 : decode cX9_would 2 = .ok (.iconst 1, 1) := by decide +kernel
theorem dX9_would_3 : decode cX9_would 3 = .ok (.invokestatic 83, 3) := by decide +kernel
theorem dX9_would_6 : decode cX9_would 6 = .ok (.ifCond .ne 5, 3) := by decide +kernel
theorem dX9_would_9 : decode cX9_would 9 = .ok (.iconst (-1), 1) := by decide +kernel
theorem dX9_would_10 : decode cX9_would 10 = .ok (.ireturn, 1) := by decide +kernel
theorem dX9_would_11 : decode cX9_would 11 = .ok (.aload_n 0, 1) := by decide +kernel
theorem dX9_would_12 : decode cX9_would 12 = .ok (.getfield 19, 3) := by decide +kernel
theorem dX9_would_15 : decode cX9_would 15 = .ok (.invokevirtual 216, 3) := by decide +kernel
theorem dX9_would_18 : decode cX9_would 18 = .ok (.ifCond .ne 6, 3) := by decide +kernel
theorem dX9_would_21 : decode cX9_would 21 = .ok (.bipush (-2), 2) := by decide +kernel
theorem dX9_would_23 : decode cX9_would 23 = .ok (.ireturn, 1) := by decide +kernel
theorem dX9_would_24 : decode cX9_would 24 = .ok (.aload_n 0, 1) := by decide +kernel
theorem dX9_would_25 : decode cX9_would 25 = .ok (.getfield 54, 3) := by decide +kernel
theorem dX9_would_28 : decode cX9_would 28 = .ok (.invokevirtual 174, 3) := by decide +kernel
theorem dX9_would_31 : decode cX9_would 31 = .ok (.aload_n 0, 1) := by decide +kernel
theorem dX9_would_32 : decode cX9_would 32 = .ok (.getfield 26, 3) := by decide +kernel
theorem dX9_would_35 : decode cX9_would 35 = .ok (.aload_n 0, 1) := by decide +kernel
theorem dX9_would_36 : decode cX9_would 36 = .ok (.getfield 26, 3) := by decide +kernel
theorem dX9_would_39 : decode cX9_would 39 = .ok (.invokevirtual 177, 3) := by decide +kernel
theorem dX9_would_42 : decode cX9_would 42 = .ok (.invokevirtual 180, 3) := by decide +kernel
theorem dX9_would_45 : decode cX9_would 45 = .ok (.istore_n 2, 1) := by decide +kernel
theorem dX9_would_46 : decode cX9_would 46 = .ok (.iload_n 1, 1) := by decide +kernel
theorem dX9_would_47 : decode cX9_would 47 = .ok (.ifCond .ne 18, 3) := by decide +kernel
theorem dX9_would_50 : decode cX9_would 50 = .ok (.aload_n 0, 1) := by decide +kernel
theorem dX9_would_51 : decode cX9_would 51 = .ok (.getfield 54, 3) := by decide +kernel
theorem dX9_would_54 : decode cX9_would 54 = .ok (.iload_n 2, 1) := by decide +kernel
theorem dX9_would_55 : decode cX9_would 55 = .ok (.aload_n 0, 1) := by decide +kernel
theorem dX9_would_56 : decode cX9_would 56 = .ok (.getfield 19, 3) := by decide +kernel
theorem dX9_would_59 : decode cX9_would 59 = .ok (.invokevirtual 219, 3) := by decide +kernel
theorem dX9_would_62 : decode cX9_would 62 = .ok (.goto 11, 3) := by decide +kernel
theorem dX9_would_65 : decode cX9_would 65 = .ok (.aload_n 0, 1) := by decide +kernel
theorem dX9_would_66 : decode cX9_would 66 = .ok (.getfield 54, 3) := by decide +kernel
theorem dX9_would_69 : decode cX9_would 69 = .ok (.iload_n 2, 1) := by decide +kernel
theorem dX9_would_70 : decode cX9_would 70 = .ok (.invokevirtual 186, 3) := by decide +kernel
theorem dX9_would_73 : decode cX9_would 73 = .ok (.ireturn, 1) := by decide +kernel
set_option maxRecDepth 20000 in
theorem ggX9_call_X9_within : GoodIn wsX9_call wsX9_within := goodIn_r _ [5] (by decide +kernel) (by decide +kernel)
set_option maxRecDepth 20000 in
theorem gX9_call_X9_within : GoodIn wsX9_call (va_wsS RX9 83 yX9_within wsX9_within) := goodIn_app (goodIn_of _ (by decide +kernel)) ggX9_call_X9_within
set_option maxRecDepth 20000 in
theorem ggX9_call_X4_hear : GoodIn wsX9_call wsX4_hear := goodIn_r _ [10, 11, 12, 13, 14, 27, 28, 29, 30] (by decide +kernel) (by decide +kernel)
set_option maxRecDepth 20000 in
theorem gX9_call_X4_hear : GoodIn wsX9_call (wsV RX9 223 RX4 yX4_hear wsX4_hear) := goodIn_app (goodIn_of _ (by decide +kernel)) ggX9_call_X4_hear
theorem dX9_call_0 : decode cX9_call 0 = .ok (.iload_n 1, 1) := by decide +kernel
theorem dX9_call_1 : decode cX9_call 1 = .ok (.bipush (-20), 2) := by decide +kernel
theorem dX9_call_3 : decode cX9_call 3 = .ok (.bipush 20, 2) := by decide +kernel
theorem dX9_call_5 : decode cX9_call 5 = .ok (.invokestatic 83, 3) := by decide +kernel
theorem dX9_call_8 : decode cX9_call 8 = .ok (.ifCond .eq 25, 3) := by decide +kernel
theorem dX9_call_11 : decode cX9_call 11 = .ok (.iload_n 2, 1) := by decide +kernel
theorem dX9_call_12 : decode cX9_call 12 = .ok (.iconst 0, 1) := by decide +kernel
theorem dX9_call_13 : decode cX9_call 13 = .ok (.iconst 1, 1) := by decide +kernel
theorem dX9_call_14 : decode cX9_call 14 = .ok (.invokestatic 83, 3) := by decide +kernel
theorem dX9_call_17 : decode cX9_call 17 = .ok (.ifCond .eq 16, 3) := by decide +kernel
theorem dX9_call_20 : decode cX9_call 20 = .ok (.aload_n 0, 1) := by decide +kernel
theorem dX9_call_21 : decode cX9_call 21 = .ok (.getfield 61, 3) := by decide +kernel
theorem dX9_call_24 : decode cX9_call 24 = .ok (.iload_n 1, 1) := by decide +kernel
theorem dX9_call_25 : decode cX9_call 25 = .ok (.iload_n 2, 1) := by decide +kernel
theorem dX9_call_26 : decode cX9_call 26 = .ok (.iload_n 3, 1) := by decide +kernel
theorem dX9_call_27 : decode cX9_call 27 = .ok (.invokevirtual 223, 3) := by decide +kernel
theorem dX9_call_30 : decode cX9_call 30 = .ok (.goto 4, 3) := by decide +kernel
theorem dX9_call_33 : decode cX9_call 33 = .ok (.iconst (-1), 1) := by decide +kernel
theorem dX9_call_34 : decode cX9_call 34 = .ok (.ireturn, 1) := by decide +kernel
set_option maxRecDepth 20000 in
theorem ggX9_lean_X9_within : GoodIn wsX9_lean wsX9_within := goodIn_r _ [5] (by decide +kernel) (by decide +kernel)
set_option maxRecDepth 20000 in
theorem gX9_lean_X9_within : GoodIn wsX9_lean (va_wsS RX9 83 yX9_within wsX9_within) := goodIn_app (goodIn_of _ (by decide +kernel)) ggX9_lean_X9_within
set_option maxRecDepth 20000 in
theorem ggX9_lean_X4_leaning : GoodIn wsX9_lean wsX4_leaning := goodIn_r _ [10, 11, 12, 13, 9, 14, 15, 16, 17, 18, 32, 33, 34, 35] (by decide +kernel) (by decide +kernel)
set_option maxRecDepth 20000 in
theorem gX9_lean_X4_leaning : GoodIn wsX9_lean (wsV RX9 227 RX4 yX4_leaning wsX4_leaning) := goodIn_app (goodIn_of _ (by decide +kernel)) ggX9_lean_X4_leaning
set_option maxRecDepth 20000 in
theorem ggX9_lean_X4_unlike : GoodIn wsX9_lean wsX4_unlike := goodIn_r _ [14, 15, 16, 17, 18, 32, 33, 34, 35] (by decide +kernel) (by decide +kernel)
set_option maxRecDepth 20000 in
theorem gX9_lean_X4_unlike : GoodIn wsX9_lean (wsV RX9 230 RX4 yX4_unlike wsX4_unlike) := goodIn_app (goodIn_of _ (by decide +kernel)) ggX9_lean_X4_unlike
theorem dX9_lean_0 : decode cX9_lean 0 = .ok (.iload_n 1, 1) := by decide +kernel
theorem dX9_lean_1 : decode cX9_lean 1 = .ok (.iconst 0, 1) := by decide +kernel
theorem dX9_lean_2 : decode cX9_lean 2 = .ok (.iconst 1, 1) := by decide +kernel
theorem dX9_lean_3 : decode cX9_lean 3 = .ok (.invokestatic 83, 3) := by decide +kernel
theorem dX9_lean_6 : decode cX9_lean 6 = .ok (.ifCond .eq 12, 3) := by decide +kernel
theorem dX9_lean_9 : decode cX9_lean 9 = .ok (.iload_n 2, 1) := by decide +kernel
theorem dX9_lean_10 : decode cX9_lean 10 = .ok (.iconst 0, 1) := by decide +kernel
theorem dX9_lean_11 : decode cX9_lean 11 = .ok (.iconst 1, 1) := by decide +kernel
theorem dX9_lean_12 : decode cX9_lean 12 = .ok (.invokestatic 83, 3) := by decide +kernel
theorem dX9_lean_15 : decode cX9_lean 15 = .ok (.ifCond .ne 6, 3) := by decide +kernel
theorem dX9_lean_18 : decode cX9_lean 18 = .ok (.bipush (-100), 2) := by decide +kernel
theorem dX9_lean_20 : decode cX9_lean 20 = .ok (.ireturn, 1) := by decide +kernel
theorem dX9_lean_21 : decode cX9_lean 21 = .ok (.aload_n 0, 1) := by decide +kernel
theorem dX9_lean_22 : decode cX9_lean 22 = .ok (.getfield 61, 3) := by decide +kernel
theorem dX9_lean_25 : decode cX9_lean 25 = .ok (.iload_n 1, 1) := by decide +kernel
theorem dX9_lean_26 : decode cX9_lean 26 = .ok (.invokevirtual 227, 3) := by decide +kernel
theorem dX9_lean_29 : decode cX9_lean 29 = .ok (.istore_n 3, 1) := by decide +kernel
theorem dX9_lean_30 : decode cX9_lean 30 = .ok (.iload_n 2, 1) := by decide +kernel
theorem dX9_lean_31 : decode cX9_lean 31 = .ok (.ifCond .ne 7, 3) := by decide +kernel
theorem dX9_lean_34 : decode cX9_lean 34 = .ok (.iload_n 3, 1) := by decide +kernel
theorem dX9_lean_35 : decode cX9_lean 35 = .ok (.goto 12, 3) := by decide +kernel
theorem dX9_lean_38 : decode cX9_lean 38 = .ok (.aload_n 0, 1) := by decide +kernel
theorem dX9_lean_39 : decode cX9_lean 39 = .ok (.getfield 61, 3) := by decide +kernel
theorem dX9_lean_42 : decode cX9_lean 42 = .ok (.iload_n 1, 1) := by decide +kernel
theorem dX9_lean_43 : decode cX9_lean 43 = .ok (.iload_n 3, 1) := by decide +kernel
theorem dX9_lean_44 : decode cX9_lean 44 = .ok (.invokevirtual 230, 3) := by decide +kernel
theorem dX9_lean_47 : decode cX9_lean 47 = .ok (.ireturn, 1) := by decide +kernel
set_option maxRecDepth 20000 in
theorem ggX9_sort_X9_within : GoodIn wsX9_sort wsX9_within := goodIn_r _ [5] (by decide +kernel) (by decide +kernel)
set_option maxRecDepth 20000 in
theorem gX9_sort_X9_within : GoodIn wsX9_sort (va_wsS RX9 83 yX9_within wsX9_within) := goodIn_app (goodIn_of _ (by decide +kernel)) ggX9_sort_X9_within
set_option maxRecDepth 20000 in
theorem ggX9_sort_X0_setTenths : GoodIn wsX9_sort wsX0_setTenths := goodIn_r _ [10, 11, 12, 13, 14, 15, 9, 16, 29, 30, 31, 32, 33] (by decide +kernel) (by decide +kernel)
set_option maxRecDepth 20000 in
theorem gX9_sort_X0_setTenths : GoodIn wsX9_sort (wsV RX9 233 RX0 yX0_setTenths wsX0_setTenths) := goodIn_app (goodIn_of _ (by decide +kernel)) ggX9_sort_X0_setTenths
theorem dX9_sort_0 : decode cX9_sort 0 = .ok (.iload_n 1, 1) := by decide +kernel
theorem dX9_sort_1 : decode cX9_sort 1 = .ok (.iconst 0, 1) := by decide +kernel
theorem dX9_sort_2 : decode cX9_sort 2 = .ok (.iconst 3, 1) := by decide +kernel
theorem dX9_sort_3 : decode cX9_sort 3 = .ok (.invokestatic 83, 3) := by decide +kernel
theorem dX9_sort_6 : decode cX9_sort 6 = .ok (.ifCond .eq 22, 3) := by decide +kernel
theorem dX9_sort_9 : decode cX9_sort 9 = .ok (.iload_n 2, 1) := by decide +kernel
theorem dX9_sort_10 : decode cX9_sort 10 = .ok (.iconst 0, 1) := by decide +kernel
theorem dX9_sort_11 : decode cX9_sort 11 = .ok (.iconst 1, 1) := by decide +kernel
theorem dX9_sort_12 : decode cX9_sort 12 = .ok (.invokestatic 83, 3) := by decide +kernel
theorem dX9_sort_15 : decode cX9_sort 15 = .ok (.ifCond .eq 13, 3) := by decide +kernel
theorem dX9_sort_18 : decode cX9_sort 18 = .ok (.iload_n 3, 1) := by decide +kernel
theorem dX9_sort_19 : decode cX9_sort 19 = .ok (.iconst 0, 1) := by decide +kernel
theorem dX9_sort_20 : decode cX9_sort 20 = .ok (.bipush 10, 2) := by decide +kernel
theorem dX9_sort_22 : decode cX9_sort 22 = .ok (.invokestatic 83, 3) := by decide +kernel
theorem dX9_sort_25 : decode cX9_sort 25 = .ok (.ifCond .ne 5, 3) := by decide +kernel
theorem dX9_sort_28 : decode cX9_sort 28 = .ok (.iconst (-1), 1) := by decide +kernel
theorem dX9_sort_29 : decode cX9_sort 29 = .ok (.ireturn, 1) := by decide +kernel
theorem dX9_sort_30 : decode cX9_sort 30 = .ok (.aload_n 0, 1) := by decide +kernel
theorem dX9_sort_31 : decode cX9_sort 31 = .ok (.getfield 68, 3) := by decide +kernel
theorem dX9_sort_34 : decode cX9_sort 34 = .ok (.iload_n 1, 1) := by decide +kernel
theorem dX9_sort_35 : decode cX9_sort 35 = .ok (.iload_n 2, 1) := by decide +kernel
theorem dX9_sort_36 : decode cX9_sort 36 = .ok (.iload_n 3, 1) := by decide +kernel
theorem dX9_sort_37 : decode cX9_sort 37 = .ok (.invokevirtual 233, 3) := by decide +kernel
theorem dX9_sort_40 : decode cX9_sort 40 = .ok (.ireturn, 1) := by decide +kernel
set_option maxRecDepth 20000 in
theorem ggX9_worth_X9_within : GoodIn wsX9_worth wsX9_within := goodIn_r _ [7] (by decide +kernel) (by decide +kernel)
set_option maxRecDepth 20000 in
theorem gX9_worth_X9_within : GoodIn wsX9_worth (va_wsS RX9 83 yX9_within wsX9_within) := goodIn_app (goodIn_of _ (by decide +kernel)) ggX9_worth_X9_within
set_option maxRecDepth 20000 in
theorem ggX9_worth_X0_isWhole : GoodIn wsX9_worth wsX0_isWhole := goodIn_r _ [12, 13, 66, 67, 68, 69, 70] (by decide +kernel) (by decide +kernel)
set_option maxRecDepth 20000 in
theorem gX9_worth_X0_isWhole : GoodIn wsX9_worth (wsV RX9 238 RX0 yX0_isWhole wsX0_isWhole) := goodIn_app (goodIn_of _ (by decide +kernel)) ggX9_worth_X0_isWhole
set_option maxRecDepth 20000 in
theorem ggX9_worth_X0_fraction : GoodIn wsX9_worth wsX0_fraction := goodIn_r _ [17, 18, 19, 20, 11, 21, 22, 23, 24, 25, 26, 27, 28, 29, 30, 31, 32, 33, 34, 13, 35, 36, 37, 38, 5, 6, 7, 39, 40, 41, 42, 43, 44, 45, 46, 47, 48, 49, 50, 51, 52, 53, 66, 67, 68, 69, 70] (by decide +kernel) (by decide +kernel)
set_option maxRecDepth 20000 in
theorem gX9_worth_X0_fraction : GoodIn wsX9_worth (wsV RX9 241 RX0 yX0_fraction wsX0_fraction) := goodIn_app (goodIn_of _ (by decide +kernel)) ggX9_worth_X0_fraction
theorem dX9_worth_0 : decode cX9_worth 0 = .ok (.iload_n 1, 1) := by decide +kernel
theorem dX9_worth_1 : decode cX9_worth 1 = .ok (.iconst 0, 1) := by decide +kernel
theorem dX9_worth_2 : decode cX9_worth 2 = .ok (.bipush 8, 2) := by decide +kernel
theorem dX9_worth_4 : decode cX9_worth 4 = .ok (.invokestatic 83, 3) := by decide +kernel
theorem dX9_worth_7 : decode cX9_worth 7 = .ok (.ifCond .eq 22, 3) := by decide +kernel
theorem dX9_worth_10 : decode cX9_worth 10 = .ok (.iload_n 2, 1) := by decide +kernel
theorem dX9_worth_11 : decode cX9_worth 11 = .ok (.iconst 0, 1) := by decide +kernel
theorem dX9_worth_12 : decode cX9_worth 12 = .ok (.bipush 8, 2) := by decide +kernel
theorem dX9_worth_14 : decode cX9_worth 14 = .ok (.invokestatic 83, 3) := by decide +kernel
theorem dX9_worth_17 : decode cX9_worth 17 = .ok (.ifCond .eq 12, 3) := by decide +kernel
theorem dX9_worth_20 : decode cX9_worth 20 = .ok (.iload_n 3, 1) := by decide +kernel
theorem dX9_worth_21 : decode cX9_worth 21 = .ok (.iconst 0, 1) := by decide +kernel
theorem dX9_worth_22 : decode cX9_worth 22 = .ok (.iconst 1, 1) := by decide +kernel
theorem dX9_worth_23 : decode cX9_worth 23 = .ok (.invokestatic 83, 3) := by decide +kernel
theorem dX9_worth_26 : decode cX9_worth 26 = .ok (.ifCond .ne 7, 3) := by decide +kernel
theorem dX9_worth_29 : decode cX9_worth 29 = .ok (.ldc2_w 236, 3) := by decide +kernel
theorem dX9_worth_32 : decode cX9_worth 32 = .ok (.lreturn, 1) := by decide +kernel
theorem dX9_worth_33 : decode cX9_worth 33 = .ok (.aload_n 0, 1) := by decide +kernel
theorem dX9_worth_34 : decode cX9_worth 34 = .ok (.getfield 68, 3) := by decide +kernel
theorem dX9_worth_37 : decode cX9_worth 37 = .ok (.invokevirtual 238, 3) := by decide +kernel
theorem dX9_worth_40 : decode cX9_worth 40 = .ok (.ifCond .eq 16, 3) := by decide +kernel
theorem dX9_worth_43 : decode cX9_worth 43 = .ok (.aload_n 0, 1) := by decide +kernel
theorem dX9_worth_44 : decode cX9_worth 44 = .ok (.getfield 68, 3) := by decide +kernel
theorem dX9_worth_47 : decode cX9_worth 47 = .ok (.iload_n 1, 1) := by decide +kernel
theorem dX9_worth_48 : decode cX9_worth 48 = .ok (.iload_n 2, 1) := by decide +kernel
theorem dX9_worth_49 : decode cX9_worth 49 = .ok (.iload_n 3, 1) := by decide +kernel
theorem dX9_worth_50 : decode cX9_worth 50 = .ok (.invokevirtual 241, 3) := by decide +kernel
theorem dX9_worth_53 : decode cX9_worth 53 = .ok (.goto 6, 3) := by decide +kernel
theorem dX9_worth_56 : decode cX9_worth 56 = .ok (.ldc2_w 245, 3) := by decide +kernel
theorem dX9_worth_59 : decode cX9_worth 59 = .ok (.lreturn, 1) := by decide +kernel
set_option maxRecDepth 20000 in
theorem ggX9_when_X9_within : GoodIn wsX9_when wsX9_within := goodIn_r _ [5] (by decide +kernel) (by decide +kernel)
set_option maxRecDepth 20000 in
theorem gX9_when_X9_within : GoodIn wsX9_when (va_wsS RX9 83 yX9_within wsX9_within) := goodIn_app (goodIn_of _ (by decide +kernel)) ggX9_when_X9_within
set_option maxRecDepth 20000 in
theorem ggX9_when_X0_isWhole : GoodIn wsX9_when wsX0_isWhole := goodIn_r _ [10, 11, 61, 62, 63, 64, 65] (by decide +kernel) (by decide +kernel)
set_option maxRecDepth 20000 in
theorem gX9_when_X0_isWhole : GoodIn wsX9_when (wsV RX9 238 RX0 yX0_isWhole wsX0_isWhole) := goodIn_app (goodIn_of _ (by decide +kernel)) ggX9_when_X0_isWhole
set_option maxRecDepth 20000 in
theorem ggX9_when_X0_shouldAsk : GoodIn wsX9_when wsX0_shouldAsk := goodIn_r _ [15, 16, 17, 18, 19, 9, 20, 21, 22, 23, 24, 25, 26, 27, 28, 29, 30, 31, 32, 11, 33, 34, 35, 36, 3, 4, 5, 37, 38, 39, 40, 41, 42, 43, 44, 45, 46, 47, 48, 61, 62, 63, 64, 65] (by decide +kernel) (by decide +kernel)
set_option maxRecDepth 20000 in
theorem gX9_when_X0_shouldAsk : GoodIn wsX9_when (wsV RX9 247 RX0 yX0_shouldAsk wsX0_shouldAsk) := goodIn_app (goodIn_of _ (by decide +kernel)) ggX9_when_X0_shouldAsk
theorem dX9_when_0 : decode cX9_when 0 = .ok (.iload_n 1, 1) := by decide +kernel
theorem dX9_when_1 : decode cX9_when 1 = .ok (.iconst 0, 1) := by decide +kernel
theorem dX9_when_2 : decode cX9_when 2 = .ok (.bipush 7, 2) := by decide +kernel
theorem dX9_when_4 : decode cX9_when 4 = .ok (.invokestatic 83, 3) := by decide +kernel
theorem dX9_when_7 : decode cX9_when 7 = .ok (.ifCond .eq 22, 3) := by decide +kernel
theorem dX9_when_10 : decode cX9_when 10 = .ok (.iload_n 2, 1) := by decide +kernel
theorem dX9_when_11 : decode cX9_when 11 = .ok (.iconst 0, 1) := by decide +kernel
theorem dX9_when_12 : decode cX9_when 12 = .ok (.bipush 8, 2) := by decide +kernel
theorem dX9_when_14 : decode cX9_when 14 = .ok (.invokestatic 83, 3) := by decide +kernel
theorem dX9_when_17 : decode cX9_when 17 = .ok (.ifCond .eq 12, 3) := by decide +kernel
theorem dX9_when_20 : decode cX9_when 20 = .ok (.iload_n 3, 1) := by decide +kernel
theorem dX9_when_21 : decode cX9_when 21 = .ok (.iconst 0, 1) := by decide +kernel
theorem dX9_when_22 : decode cX9_when 22 = .ok (.iconst 3, 1) := by decide +kernel
theorem dX9_when_23 : decode cX9_when 23 = .ok (.invokestatic 83, 3) := by decide +kernel
theorem dX9_when_26 : decode cX9_when 26 = .ok (.ifCond .ne 5, 3) := by decide +kernel
theorem dX9_when_29 : decode cX9_when 29 = .ok (.iconst (-1), 1) := by decide +kernel
theorem dX9_when_30 : decode cX9_when 30 = .ok (.ireturn, 1) := by decide +kernel
theorem dX9_when_31 : decode cX9_when 31 = .ok (.aload_n 0, 1) := by decide +kernel
theorem dX9_when_32 : decode cX9_when 32 = .ok (.getfield 68, 3) := by decide +kernel
theorem dX9_when_35 : decode cX9_when 35 = .ok (.invokevirtual 238, 3) := by decide +kernel
theorem dX9_when_38 : decode cX9_when 38 = .ok (.ifCond .ne 6, 3) := by decide +kernel
theorem dX9_when_41 : decode cX9_when 41 = .ok (.bipush (-2), 2) := by decide +kernel
theorem dX9_when_43 : decode cX9_when 43 = .ok (.ireturn, 1) := by decide +kernel
theorem dX9_when_44 : decode cX9_when 44 = .ok (.aload_n 0, 1) := by decide +kernel
theorem dX9_when_45 : decode cX9_when 45 = .ok (.getfield 68, 3) := by decide +kernel
theorem dX9_when_48 : decode cX9_when 48 = .ok (.iload_n 1, 1) := by decide +kernel
theorem dX9_when_49 : decode cX9_when 49 = .ok (.iload_n 2, 1) := by decide +kernel
theorem dX9_when_50 : decode cX9_when 50 = .ok (.iload_n 3, 1) := by decide +kernel
theorem dX9_when_51 : decode cX9_when 51 = .ok (.invokevirtual 247, 3) := by decide +kernel
theorem dX9_when_54 : decode cX9_when 54 = .ok (.ifCond .eq 7, 3) := by decide +kernel
theorem dX9_when_57 : decode cX9_when 57 = .ok (.iconst 1, 1) := by decide +kernel
theorem dX9_when_58 : decode cX9_when 58 = .ok (.goto 4, 3) := by decide +kernel
theorem dX9_when_61 : decode cX9_when 61 = .ok (.iconst 0, 1) := by decide +kernel
theorem dX9_when_62 : decode cX9_when 62 = .ok (.ireturn, 1) := by decide +kernel
set_option maxRecDepth 20000 in
theorem ggX9_truly_X9_within : GoodIn wsX9_truly wsX9_within := goodIn_r _ [5] (by decide +kernel) (by decide +kernel)
set_option maxRecDepth 20000 in
theorem gX9_truly_X9_within : GoodIn wsX9_truly (va_wsS RX9 83 yX9_within wsX9_within) := goodIn_app (goodIn_of _ (by decide +kernel)) ggX9_truly_X9_within
set_option maxRecDepth 20000 in
theorem ggX9_truly_X1_add : GoodIn wsX9_truly wsX1_add := goodIn_r _ [10, 11, 12, 13, 26, 27, 28] (by decide +kernel) (by decide +kernel)
set_option maxRecDepth 20000 in
theorem gX9_truly_X1_add : GoodIn wsX9_truly (wsV RX9 250 RX1 yX1_add wsX1_add) := goodIn_app (goodIn_of _ (by decide +kernel)) ggX9_truly_X1_add
theorem dX9_truly_0 : decode cX9_truly 0 = .ok (.iload_n 1, 1) := by decide +kernel
theorem dX9_truly_1 : decode cX9_truly 1 = .ok (.iconst 0, 1) := by decide +kernel
theorem dX9_truly_2 : decode cX9_truly 2 = .ok (.bipush 100, 2) := by decide +kernel
theorem dX9_truly_4 : decode cX9_truly 4 = .ok (.invokestatic 83, 3) := by decide +kernel
theorem dX9_truly_7 : decode cX9_truly 7 = .ok (.ifCond .eq 15, 3) := by decide +kernel
theorem dX9_truly_10 : decode cX9_truly 10 = .ok (.aload_n 0, 1) := by decide +kernel
theorem dX9_truly_11 : decode cX9_truly 11 = .ok (.getfield 75, 3) := by decide +kernel
theorem dX9_truly_14 : decode cX9_truly 14 = .ok (.iload_n 1, 1) := by decide +kernel
theorem dX9_truly_15 : decode cX9_truly 15 = .ok (.iload_n 2, 1) := by decide +kernel
theorem dX9_truly_16 : decode cX9_truly 16 = .ok (.invokevirtual 250, 3) := by decide +kernel
theorem dX9_truly_19 : decode cX9_truly 19 = .ok (.goto 4, 3) := by decide +kernel
theorem dX9_truly_22 : decode cX9_truly 22 = .ok (.iconst (-1), 1) := by decide +kernel
theorem dX9_truly_23 : decode cX9_truly 23 = .ok (.ireturn, 1) := by decide +kernel
set_option maxRecDepth 20000 in
theorem ggX9_bestSure_X9_within : GoodIn wsX9_bestSure wsX9_within := goodIn_r _ [5] (by decide +kernel) (by decide +kernel)
set_option maxRecDepth 20000 in
theorem gX9_bestSure_X9_within : GoodIn wsX9_bestSure (va_wsS RX9 83 yX9_within wsX9_within) := goodIn_app (goodIn_of _ (by decide +kernel)) ggX9_bestSure_X9_within
set_option maxRecDepth 20000 in
theorem ggX9_bestSure_X1_bestRule : GoodIn wsX9_bestSure wsX1_bestRule := goodIn_r _ [10, 11, 12, 13, 9, 14, 15, 16, 17, 18, 19, 20, 21, 36, 37, 38] (by decide +kernel) (by decide +kernel)
set_option maxRecDepth 20000 in
theorem gX9_bestSure_X1_bestRule : GoodIn wsX9_bestSure (wsV RX9 254 RX1 yX1_bestRule wsX1_bestRule) := goodIn_app (goodIn_of _ (by decide +kernel)) ggX9_bestSure_X1_bestRule
set_option maxRecDepth 20000 in
theorem ggX9_bestSure_X1_wrongUnder : GoodIn wsX9_bestSure wsX1_wrongUnder := goodIn_r _ [14, 15, 16, 17, 36, 37, 38] (by decide +kernel) (by decide +kernel)
set_option maxRecDepth 20000 in
theorem gX9_bestSure_X1_wrongUnder : GoodIn wsX9_bestSure (wsV RX9 257 RX1 yX1_wrongUnder wsX1_wrongUnder) := goodIn_app (goodIn_of _ (by decide +kernel)) ggX9_bestSure_X1_wrongUnder
set_option maxRecDepth 20000 in
theorem ggX9_bestSure_X1_untoldUnder : GoodIn wsX9_bestSure wsX1_untoldUnder := goodIn_r _ [21, 15, 17, 36, 37, 38] (by decide +kernel) (by decide +kernel)
set_option maxRecDepth 20000 in
theorem gX9_bestSure_X1_untoldUnder : GoodIn wsX9_bestSure (wsV RX9 260 RX1 yX1_untoldUnder wsX1_untoldUnder) := goodIn_app (goodIn_of _ (by decide +kernel)) ggX9_bestSure_X1_untoldUnder
theorem dX9_bestSure_0 : decode cX9_bestSure 0 = .ok (.iload_n 1, 1) := by decide +kernel
theorem dX9_bestSure_1 : decode cX9_bestSure 1 = .ok (.iconst 0, 1) := by decide +kernel
theorem dX9_bestSure_2 : decode cX9_bestSure 2 = .ok (.iconst 2, 1) := by decide +kernel
theorem dX9_bestSure_3 : decode cX9_bestSure 3 = .ok (.invokestatic 83, 3) := by decide +kernel
theorem dX9_bestSure_6 : decode cX9_bestSure 6 = .ok (.ifCond .ne 5, 3) := by decide +kernel
theorem dX9_bestSure_9 : decode cX9_bestSure 9 = .ok (.iconst (-1), 1) := by decide +kernel
theorem dX9_bestSure_10 : decode cX9_bestSure 10 = .ok (.ireturn, 1) := by decide +kernel
theorem dX9_bestSure_11 : decode cX9_bestSure 11 = .ok (.aload_n 0, 1) := by decide +kernel
theorem dX9_bestSure_12 : decode cX9_bestSure 12 = .ok (.getfield 75, 3) := by decide +kernel
theorem dX9_bestSure_15 : decode cX9_bestSure 15 = .ok (.invokevirtual 254, 3) := by decide +kernel
theorem dX9_bestSure_18 : decode cX9_bestSure 18 = .ok (.istore_n 2, 1) := by decide +kernel
theorem dX9_bestSure_19 : decode cX9_bestSure 19 = .ok (.iload_n 1, 1) := by decide +kernel
theorem dX9_bestSure_20 : decode cX9_bestSure 20 = .ok (.ifCond .ne 5, 3) := by decide +kernel
theorem dX9_bestSure_23 : decode cX9_bestSure 23 = .ok (.iload_n 2, 1) := by decide +kernel
theorem dX9_bestSure_24 : decode cX9_bestSure 24 = .ok (.ireturn, 1) := by decide +kernel
theorem dX9_bestSure_25 : decode cX9_bestSure 25 = .ok (.iload_n 1, 1) := by decide +kernel
theorem dX9_bestSure_26 : decode cX9_bestSure 26 = .ok (.iconst 1, 1) := by decide +kernel
theorem dX9_bestSure_27 : decode cX9_bestSure 27 = .ok (.if_icmp .ne 14, 3) := by decide +kernel
theorem dX9_bestSure_30 : decode cX9_bestSure 30 = .ok (.aload_n 0, 1) := by decide +kernel
theorem dX9_bestSure_31 : decode cX9_bestSure 31 = .ok (.getfield 75, 3) := by decide +kernel
theorem dX9_bestSure_34 : decode cX9_bestSure 34 = .ok (.iload_n 2, 1) := by decide +kernel
theorem dX9_bestSure_35 : decode cX9_bestSure 35 = .ok (.invokevirtual 257, 3) := by decide +kernel
theorem dX9_bestSure_38 : decode cX9_bestSure 38 = .ok (.goto 11, 3) := by decide +kernel
theorem dX9_bestSure_41 : decode cX9_bestSure 41 = .ok (.aload_n 0, 1) := by decide +kernel
theorem dX9_bestSure_42 : decode cX9_bestSure 42 = .ok (.getfield 75, 3) := by decide +kernel
theorem dX9_bestSure_45 : decode cX9_bestSure 45 = .ok (.iload_n 2, 1) := by decide +kernel
theorem dX9_bestSure_46 : decode cX9_bestSure 46 = .ok (.invokevirtual 260, 3) := by decide +kernel
theorem dX9_bestSure_49 : decode cX9_bestSure 49 = .ok (.ireturn, 1) := by decide +kernel
set_option maxRecDepth 20000 in
theorem ggX9_keep_X8_copyOf : GoodIn wsX9_keep wsX8_copyOf := goodIn_r _ [9, 10, 11, 12, 13, 14, 15, 16, 17, 30, 31, 32, 33] (by decide +kernel) (by decide +kernel)
set_option maxRecDepth 20000 in
theorem gX9_keep_X8_copyOf : GoodIn wsX9_keep (wsV RX9 263 RX8 yX8_copyOf wsX8_copyOf) := goodIn_app (goodIn_of _ (by decide +kernel)) ggX9_keep_X8_copyOf
theorem dX9_keep_0 : decode cX9_keep 0 = .ok (.aload_n 0, 1) := by decide +kernel
theorem dX9_keep_1 : decode cX9_keep 1 = .ok (.getfield 79, 3) := by decide +kernel
theorem dX9_keep_4 : decode cX9_keep 4 = .ok (.iconst 2, 1) := by decide +kernel
theorem dX9_keep_5 : decode cX9_keep 5 = .ok (.if_icmp .lt 6, 3) := by decide +kernel
theorem dX9_keep_8 : decode cX9_keep 8 = .ok (.bipush (-3), 2) := by decide +kernel
theorem dX9_keep_10 : decode cX9_keep 10 = .ok (.ireturn, 1) := by decide +kernel
theorem dX9_keep_11 : decode cX9_keep 11 = .ok (.aload_n 0, 1) := by decide +kernel
theorem dX9_keep_12 : decode cX9_keep 12 = .ok (.getfield 79, 3) := by decide +kernel
theorem dX9_keep_15 : decode cX9_keep 15 = .ok (.ifCond .ne 10, 3) := by decide +kernel
theorem dX9_keep_18 : decode cX9_keep 18 = .ok (.aload_n 0, 1) := by decide +kernel
theorem dX9_keep_19 : decode cX9_keep 19 = .ok (.getfield 30, 3) := by decide +kernel
theorem dX9_keep_22 : decode cX9_keep 22 = .ok (.goto 7, 3) := by decide +kernel
theorem dX9_keep_25 : decode cX9_keep 25 = .ok (.aload_n 0, 1) := by decide +kernel
theorem dX9_keep_26 : decode cX9_keep 26 = .ok (.getfield 33, 3) := by decide +kernel
theorem dX9_keep_29 : decode cX9_keep 29 = .ok (.astore_n 1, 1) := by decide +kernel
theorem dX9_keep_30 : decode cX9_keep 30 = .ok (.aload_n 1, 1) := by decide +kernel
theorem dX9_keep_31 : decode cX9_keep 31 = .ok (.aload_n 0, 1) := by decide +kernel
theorem dX9_keep_32 : decode cX9_keep 32 = .ok (.getfield 26, 3) := by decide +kernel
theorem dX9_keep_35 : decode cX9_keep 35 = .ok (.invokevirtual 263, 3) := by decide +kernel
theorem dX9_keep_38 : decode cX9_keep 38 = .ok (.aload_n 0, 1) := by decide +kernel
theorem dX9_keep_39 : decode cX9_keep 39 = .ok (.dup, 1) := by decide +kernel
theorem dX9_keep_40 : decode cX9_keep 40 = .ok (.getfield 79, 3) := by decide +kernel
theorem dX9_keep_43 : decode cX9_keep 43 = .ok (.iconst 1, 1) := by decide +kernel
theorem dX9_keep_44 : decode cX9_keep 44 = .ok (.iadd, 1) := by decide +kernel
theorem dX9_keep_45 : decode cX9_keep 45 = .ok (.putfield 79, 3) := by decide +kernel
theorem dX9_keep_48 : decode cX9_keep 48 = .ok (.aload_n 0, 1) := by decide +kernel
theorem dX9_keep_49 : decode cX9_keep 49 = .ok (.getfield 79, 3) := by decide +kernel
theorem dX9_keep_52 : decode cX9_keep 52 = .ok (.ireturn, 1) := by decide +kernel
set_option maxRecDepth 20000 in
theorem ggX9_back_X8_copyOf : GoodIn wsX9_back wsX8_copyOf := goodIn_r _ [9, 10, 11, 12, 13, 14, 15, 16, 17, 51, 52, 53, 54] (by decide +kernel) (by decide +kernel)
set_option maxRecDepth 20000 in
theorem gX9_back_X8_copyOf : GoodIn wsX9_back (wsV RX9 263 RX8 yX8_copyOf wsX8_copyOf) := goodIn_app (goodIn_of _ (by decide +kernel)) ggX9_back_X8_copyOf
set_option maxRecDepth 20000 in
theorem ggX9_back_X9_forgetFlight : GoodIn wsX9_back wsX9_forgetFlight := goodIn_r _ [22, 23, 24, 25, 26, 27, 28, 29, 30, 31, 32, 33, 34, 35, 36, 37, 38, 39, 40, 41, 42, 43, 44, 45, 46, 47, 48, 49, 50, 55, 56, 57, 58, 59, 60, 61, 62, 63, 64, 65, 66, 67, 68, 69, 70, 71, 72, 73, 74, 75, 76] (by decide +kernel) (by decide +kernel)
set_option maxRecDepth 20000 in
theorem gX9_back_X9_forgetFlight : GoodIn wsX9_back (wsV RX9 102 RX9 yX9_forgetFlight wsX9_forgetFlight) := goodIn_app (goodIn_of _ (by decide +kernel)) ggX9_back_X9_forgetFlight
theorem dX9_back_0 : decode cX9_back 0 = .ok (.aload_n 0, 1) := by decide +kernel
theorem dX9_back_1 : decode cX9_back 1 = .ok (.getfield 79, 3) := by decide +kernel
theorem dX9_back_4 : decode cX9_back 4 = .ok (.ifCond .gt 6, 3) := by decide +kernel
theorem dX9_back_7 : decode cX9_back 7 = .ok (.bipush (-2), 2) := by decide +kernel
theorem dX9_back_9 : decode cX9_back 9 = .ok (.ireturn, 1) := by decide +kernel
theorem dX9_back_10 : decode cX9_back 10 = .ok (.aload_n 0, 1) := by decide +kernel
theorem dX9_back_11 : decode cX9_back 11 = .ok (.dup, 1) := by decide +kernel
theorem dX9_back_12 : decode cX9_back 12 = .ok (.getfield 79, 3) := by decide +kernel
theorem dX9_back_15 : decode cX9_back 15 = .ok (.iconst 1, 1) := by decide +kernel
theorem dX9_back_16 : decode cX9_back 16 = .ok (.isub, 1) := by decide +kernel
theorem dX9_back_17 : decode cX9_back 17 = .ok (.putfield 79, 3) := by decide +kernel
theorem dX9_back_20 : decode cX9_back 20 = .ok (.aload_n 0, 1) := by decide +kernel
theorem dX9_back_21 : decode cX9_back 21 = .ok (.getfield 26, 3) := by decide +kernel
theorem dX9_back_24 : decode cX9_back 24 = .ok (.aload_n 0, 1) := by decide +kernel
theorem dX9_back_25 : decode cX9_back 25 = .ok (.getfield 79, 3) := by decide +kernel
theorem dX9_back_28 : decode cX9_back 28 = .ok (.ifCond .ne 10, 3) := by decide +kernel
theorem dX9_back_31 : decode cX9_back 31 = .ok (.aload_n 0, 1) := by decide +kernel
theorem dX9_back_32 : decode cX9_back 32 = .ok (.getfield 30, 3) := by decide +kernel
theorem dX9_back_35 : decode cX9_back 35 = .ok (.goto 7, 3) := by decide +kernel
theorem dX9_back_38 : decode cX9_back 38 = .ok (.aload_n 0, 1) := by decide +kernel
theorem dX9_back_39 : decode cX9_back 39 = .ok (.getfield 33, 3) := by decide +kernel
theorem dX9_back_42 : decode cX9_back 42 = .ok (.invokevirtual 263, 3) := by decide +kernel
theorem dX9_back_45 : decode cX9_back 45 = .ok (.aload_n 0, 1) := by decide +kernel
theorem dX9_back_46 : decode cX9_back 46 = .ok (.invokevirtual 102, 3) := by decide +kernel
theorem dX9_back_49 : decode cX9_back 49 = .ok (.aload_n 0, 1) := by decide +kernel
theorem dX9_back_50 : decode cX9_back 50 = .ok (.getfield 79, 3) := by decide +kernel
theorem dX9_back_53 : decode cX9_back 53 = .ok (.ireturn, 1) := by decide +kernel
set_option maxRecDepth 20000 in
theorem ggX9_count_X6_size : GoodIn wsX9_count wsX6_size := goodIn_r _ [11, 12, 49, 50, 51] (by decide +kernel) (by decide +kernel)
set_option maxRecDepth 20000 in
theorem gX9_count_X6_size : GoodIn wsX9_count (wsV RX9 267 RX6 yX6_size wsX6_size) := goodIn_app (goodIn_of _ (by decide +kernel)) ggX9_count_X6_size
set_option maxRecDepth 20000 in
theorem ggX9_count_X5_itemCount : GoodIn wsX9_count wsX5_itemCount := goodIn_r _ [17, 18, 52, 53, 54, 55, 56, 57, 58, 59, 60, 61] (by decide +kernel) (by decide +kernel)
set_option maxRecDepth 20000 in
theorem gX9_count_X5_itemCount : GoodIn wsX9_count (wsV RX9 105 RX5 yX5_itemCount wsX5_itemCount) := goodIn_app (goodIn_of _ (by decide +kernel)) ggX9_count_X5_itemCount
set_option maxRecDepth 20000 in
theorem ggX9_count_X8_sightCount : GoodIn wsX9_count wsX8_sightCount := goodIn_r _ [23, 24, 62, 63, 64, 65] (by decide +kernel) (by decide +kernel)
set_option maxRecDepth 20000 in
theorem gX9_count_X8_sightCount : GoodIn wsX9_count (wsV RX9 171 RX8 yX8_sightCount wsX8_sightCount) := goodIn_app (goodIn_of _ (by decide +kernel)) ggX9_count_X8_sightCount
set_option maxRecDepth 20000 in
theorem ggX9_count_X4_size : GoodIn wsX9_count wsX4_size := goodIn_r _ [29, 30, 66, 67, 68, 69] (by decide +kernel) (by decide +kernel)
set_option maxRecDepth 20000 in
theorem gX9_count_X4_size : GoodIn wsX9_count (wsV RX9 270 RX4 yX4_size wsX4_size) := goodIn_app (goodIn_of _ (by decide +kernel)) ggX9_count_X4_size
set_option maxRecDepth 20000 in
theorem ggX9_count_X1_size : GoodIn wsX9_count wsX1_size := goodIn_r _ [35, 36, 70, 71, 72] (by decide +kernel) (by decide +kernel)
set_option maxRecDepth 20000 in
theorem gX9_count_X1_size : GoodIn wsX9_count (wsV RX9 271 RX1 yX1_size wsX1_size) := goodIn_app (goodIn_of _ (by decide +kernel)) ggX9_count_X1_size
theorem dX9_count_0 : decode cX9_count 0 = .ok (.iload_n 1, 1) := by decide +kernel
theorem dX9_count_1 : decode cX9_count 1 = .ok (.tableswitch 84 0 5 #[39, 47, 55, 63, 71, 79], 39) := by decide +kernel
theorem dX9_count_40 : decode cX9_count 40 = .ok (.aload_n 0, 1) := by decide +kernel
theorem dX9_count_41 : decode cX9_count 41 = .ok (.getfield 10, 3) := by decide +kernel
theorem dX9_count_44 : decode cX9_count 44 = .ok (.invokevirtual 267, 3) := by decide +kernel
theorem dX9_count_47 : decode cX9_count 47 = .ok (.ireturn, 1) := by decide +kernel
theorem dX9_count_48 : decode cX9_count 48 = .ok (.aload_n 0, 1) := by decide +kernel
theorem dX9_count_49 : decode cX9_count 49 = .ok (.getfield 19, 3) := by decide +kernel
theorem dX9_count_52 : decode cX9_count 52 = .ok (.invokevirtual 105, 3) := by decide +kernel
theorem dX9_count_55 : decode cX9_count 55 = .ok (.ireturn, 1) := by decide +kernel
theorem dX9_count_56 : decode cX9_count 56 = .ok (.aload_n 0, 1) := by decide +kernel
theorem dX9_count_57 : decode cX9_count 57 = .ok (.getfield 26, 3) := by decide +kernel
theorem dX9_count_60 : decode cX9_count 60 = .ok (.invokevirtual 171, 3) := by decide +kernel
theorem dX9_count_63 : decode cX9_count 63 = .ok (.ireturn, 1) := by decide +kernel
theorem dX9_count_64 : decode cX9_count 64 = .ok (.aload_n 0, 1) := by decide +kernel
theorem dX9_count_65 : decode cX9_count 65 = .ok (.getfield 61, 3) := by decide +kernel
theorem dX9_count_68 : decode cX9_count 68 = .ok (.invokevirtual 270, 3) := by decide +kernel
theorem dX9_count_71 : decode cX9_count 71 = .ok (.ireturn, 1) := by decide +kernel
theorem dX9_count_72 : decode cX9_count 72 = .ok (.aload_n 0, 1) := by decide +kernel
theorem dX9_count_73 : decode cX9_count 73 = .ok (.getfield 75, 3) := by decide +kernel
theorem dX9_count_76 : decode cX9_count 76 = .ok (.invokevirtual 271, 3) := by decide +kernel
theorem dX9_count_79 : decode cX9_count 79 = .ok (.ireturn, 1) := by decide +kernel
theorem dX9_count_80 : decode cX9_count 80 = .ok (.aload_n 0, 1) := by decide +kernel
theorem dX9_count_81 : decode cX9_count 81 = .ok (.getfield 79, 3) := by decide +kernel
theorem dX9_count_84 : decode cX9_count 84 = .ok (.ireturn, 1) := by decide +kernel
theorem dX9_count_85 : decode cX9_count 85 = .ok (.iconst (-1), 1) := by decide +kernel
theorem dX9_count_86 : decode cX9_count 86 = .ok (.ireturn, 1) := by decide +kernel
set_option maxRecDepth 20000 in
theorem ggX9_forgetFlight_X2_forget : GoodIn wsX9_forgetFlight wsX2_forget := goodIn_r _ [7, 8, 9, 29, 30, 31, 32, 33, 34, 35, 36, 37, 38, 39, 40, 41, 42, 43] (by decide +kernel) (by decide +kernel)
set_option maxRecDepth 20000 in
theorem gX9_forgetFlight_X2_forget : GoodIn wsX9_forgetFlight (wsV RX9 272 RX2 yX2_forget wsX2_forget) := goodIn_app (goodIn_of _ (by decide +kernel)) ggX9_forgetFlight_X2_forget
set_option maxRecDepth 20000 in
theorem ggX9_forgetFlight_X7_forget : GoodIn wsX9_forgetFlight wsX7_forget := goodIn_r _ [14, 15, 16, 44, 45, 46, 47, 48, 49, 50] (by decide +kernel) (by decide +kernel)
set_option maxRecDepth 20000 in
theorem gX9_forgetFlight_X7_forget : GoodIn wsX9_forgetFlight (wsV RX9 154 RX7 yX7_forget wsX7_forget) := goodIn_app (goodIn_of _ (by decide +kernel)) ggX9_forgetFlight_X7_forget
theorem dX9_forgetFlight_0 : decode cX9_forgetFlight 0 = .ok (.aload_n 0, 1) := by decide +kernel
theorem dX9_forgetFlight_1 : decode cX9_forgetFlight 1 = .ok (.getfield 45, 3) := by decide +kernel
theorem dX9_forgetFlight_4 : decode cX9_forgetFlight 4 = .ok (.invokevirtual 272, 3) := by decide +kernel
theorem dX9_forgetFlight_7 : decode cX9_forgetFlight 7 = .ok (.aload_n 0, 1) := by decide +kernel
theorem dX9_forgetFlight_8 : decode cX9_forgetFlight 8 = .ok (.getfield 54, 3) := by decide +kernel
theorem dX9_forgetFlight_11 : decode cX9_forgetFlight 11 = .ok (.invokevirtual 154, 3) := by decide +kernel
theorem dX9_forgetFlight_14 : decode cX9_forgetFlight 14 = .ok (.return_, 1) := by decide +kernel
theorem dX9_calledBy_0 : decode cX9_calledBy 0 = .ok (.bipush 100, 2) := by decide +kernel
theorem dX9_calledBy_2 : decode cX9_calledBy 2 = .ok (.iload_n 0, 1) := by decide +kernel
theorem dX9_calledBy_3 : decode cX9_calledBy 3 = .ok (.imul, 1) := by decide +kernel
theorem dX9_calledBy_4 : decode cX9_calledBy 4 = .ok (.iload_n 2, 1) := by decide +kernel
theorem dX9_calledBy_5 : decode cX9_calledBy 5 = .ok (.if_icmp .lt 5, 3) := by decide +kernel
theorem dX9_calledBy_8 : decode cX9_calledBy 8 = .ok (.iconst 2, 1) := by decide +kernel
theorem dX9_calledBy_9 : decode cX9_calledBy 9 = .ok (.ireturn, 1) := by decide +kernel
theorem dX9_calledBy_10 : decode cX9_calledBy 10 = .ok (.bipush 100, 2) := by decide +kernel
theorem dX9_calledBy_12 : decode cX9_calledBy 12 = .ok (.iload_n 1, 1) := by decide +kernel
theorem dX9_calledBy_13 : decode cX9_calledBy 13 = .ok (.imul, 1) := by decide +kernel
theorem dX9_calledBy_14 : decode cX9_calledBy 14 = .ok (.iload_n 2, 1) := by decide +kernel
theorem dX9_calledBy_15 : decode cX9_calledBy 15 = .ok (.if_icmp .lt 7, 3) := by decide +kernel
theorem dX9_calledBy_18 : decode cX9_calledBy 18 = .ok (.iconst 0, 1) := by decide +kernel
theorem dX9_calledBy_19 : decode cX9_calledBy 19 = .ok (.goto 4, 3) := by decide +kernel
theorem dX9_calledBy_22 : decode cX9_calledBy 22 = .ok (.iconst 1, 1) := by decide +kernel
theorem dX9_calledBy_23 : decode cX9_calledBy 23 = .ok (.ireturn, 1) := by decide +kernel
theorem dX9_within_0 : decode cX9_within 0 = .ok (.iload_n 0, 1) := by decide +kernel
theorem dX9_within_1 : decode cX9_within 1 = .ok (.iload_n 1, 1) := by decide +kernel
theorem dX9_within_2 : decode cX9_within 2 = .ok (.if_icmp .lt 12, 3) := by decide +kernel
theorem dX9_within_5 : decode cX9_within 5 = .ok (.iload_n 0, 1) := by decide +kernel
theorem dX9_within_6 : decode cX9_within 6 = .ok (.iload_n 2, 1) := by decide +kernel
theorem dX9_within_7 : decode cX9_within 7 = .ok (.if_icmp .gt 7, 3) := by decide +kernel
theorem dX9_within_10 : decode cX9_within 10 = .ok (.iconst 1, 1) := by decide +kernel
theorem dX9_within_11 : decode cX9_within 11 = .ok (.goto 4, 3) := by decide +kernel
theorem dX9_within_14 : decode cX9_within 14 = .ok (.iconst 0, 1) := by decide +kernel
theorem dX9_within_15 : decode cX9_within 15 = .ok (.ireturn, 1) := by decide +kernel
set_option maxRecDepth 20000 in
theorem ggX9_onField_X9_within : GoodIn wsX9_onField wsX9_within := goodIn_r _ [6] (by decide +kernel) (by decide +kernel)
set_option maxRecDepth 20000 in
theorem gX9_onField_X9_within : GoodIn wsX9_onField (va_wsS RX9 83 yX9_within wsX9_within) := goodIn_app (goodIn_of _ (by decide +kernel)) ggX9_onField_X9_within
theorem dX9_onField_0 : decode cX9_onField 0 = .ok (.iload_n 0, 1) := by decide +kernel
theorem dX9_onField_1 : decode cX9_onField 1 = .ok (.ldc 119, 2) := by decide +kernel
theorem dX9_onField_3 : decode cX9_onField 3 = .ok (.ldc_w 273, 3) := by decide +kernel
theorem dX9_onField_6 : decode cX9_onField 6 = .ok (.invokestatic 83, 3) := by decide +kernel
theorem dX9_onField_9 : decode cX9_onField 9 = .ok (.ireturn, 1) := by decide +kernel
set_option maxRecDepth 20000 in
theorem ggX9_isCurve_X9_within : GoodIn wsX9_isCurve wsX9_within := goodIn_r _ [4] (by decide +kernel) (by decide +kernel)
set_option maxRecDepth 20000 in
theorem gX9_isCurve_X9_within : GoodIn wsX9_isCurve (va_wsS RX9 83 yX9_within wsX9_within) := goodIn_app (goodIn_of _ (by decide +kernel)) ggX9_isCurve_X9_within
theorem dX9_isCurve_0 : decode cX9_isCurve 0 = .ok (.iload_n 0, 1) := by decide +kernel
theorem dX9_isCurve_1 : decode cX9_isCurve 1 = .ok (.iconst 0, 1) := by decide +kernel
theorem dX9_isCurve_2 : decode cX9_isCurve 2 = .ok (.sipush 188, 3) := by decide +kernel
theorem dX9_isCurve_5 : decode cX9_isCurve 5 = .ok (.invokestatic 83, 3) := by decide +kernel
theorem dX9_isCurve_8 : decode cX9_isCurve 8 = .ok (.ireturn, 1) := by decide +kernel
set_option maxRecDepth 20000 in
theorem ggX9_isTick_X9_within : GoodIn wsX9_isTick wsX9_within := goodIn_r _ [4] (by decide +kernel) (by decide +kernel)
set_option maxRecDepth 20000 in
theorem gX9_isTick_X9_within : GoodIn wsX9_isTick (va_wsS RX9 83 yX9_within wsX9_within) := goodIn_app (goodIn_of _ (by decide +kernel)) ggX9_isTick_X9_within
theorem dX9_isTick_0 : decode cX9_isTick 0 = .ok (.iload_n 0, 1) := by decide +kernel
theorem dX9_isTick_1 : decode cX9_isTick 1 = .ok (.iconst 0, 1) := by decide +kernel
theorem dX9_isTick_2 : decode cX9_isTick 2 = .ok (.sipush 600, 3) := by decide +kernel
theorem dX9_isTick_5 : decode cX9_isTick 5 = .ok (.invokestatic 83, 3) := by decide +kernel
theorem dX9_isTick_8 : decode cX9_isTick 8 = .ok (.ireturn, 1) := by decide +kernel
set_option maxRecDepth 20000 in
theorem ggX9_isCamera_X9_within : GoodIn wsX9_isCamera wsX9_within := goodIn_r _ [4] (by decide +kernel) (by decide +kernel)
set_option maxRecDepth 20000 in
theorem gX9_isCamera_X9_within : GoodIn wsX9_isCamera (va_wsS RX9 83 yX9_within wsX9_within) := goodIn_app (goodIn_of _ (by decide +kernel)) ggX9_isCamera_X9_within
theorem dX9_isCamera_0 : decode cX9_isCamera 0 = .ok (.iload_n 0, 1) := by decide +kernel
theorem dX9_isCamera_1 : decode cX9_isCamera 1 = .ok (.iconst 0, 1) := by decide +kernel
theorem dX9_isCamera_2 : decode cX9_isCamera 2 = .ok (.iconst 3, 1) := by decide +kernel
theorem dX9_isCamera_3 : decode cX9_isCamera 3 = .ok (.invokestatic 83, 3) := by decide +kernel
