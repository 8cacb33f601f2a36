theorem dX10_whose_37 : decode cX10_whose 37 = .ok (.istore 4, 2) := by decide +kernel
theorem dX10_whose_39 : decode cX10_whose 39 = .ok (.iconst 0, 1) := by decide +kernel
theorem dX10_whose_40 : decode cX10_whose 40 = .ok (.istore 5, 2) := by decide +kernel
theorem dX10_whose_42 : decode cX10_whose 42 = .ok (.iload 5, 2) := by decide +kernel
theorem dX10_whose_44 : decode cX10_whose 44 = .ok (.sipush 189, 3) := by decide +kernel
theorem dX10_whose_47 : decode cX10_whose 47 = .ok (.if_icmp .ge 69, 3) := by decide +kernel
theorem dX10_whose_50 : decode cX10_whose 50 = .ok (.aload_n 0, 1) := by decide +kernel
theorem dX10_whose_51 : decode cX10_whose 51 = .ok (.iload 5, 2) := by decide +kernel
theorem dX10_whose_53 : decode cX10_whose 53 = .ok (.invokevirtual 154, 3) := by decide +kernel
theorem dX10_whose_56 : decode cX10_whose 56 = .ok (.aload_n 0, 1) := by decide +kernel
theorem dX10_whose_57 : decode cX10_whose 57 = .ok (.aload_n 0, 1) := by decide +kernel
theorem dX10_whose_58 : decode cX10_whose 58 = .ok (.getfield 22, 3) := by decide +kernel
theorem dX10_whose_61 : decode cX10_whose 61 = .ok (.iconst 0, 1) := by decide +kernel
theorem dX10_whose_62 : decode cX10_whose 62 = .ok (.iaload, 1) := by decide +kernel
theorem dX10_whose_63 : decode cX10_whose 63 = .ok (.iconst 1, 1) := by decide +kernel
theorem dX10_whose_64 : decode cX10_whose 64 = .ok (.invokevirtual 201, 3) := by decide +kernel
theorem dX10_whose_67 : decode cX10_whose 67 = .ok (.ifCond .eq 43, 3) := by decide +kernel
theorem dX10_whose_70 : decode cX10_whose 70 = .ok (.iconst 1, 1) := by decide +kernel
theorem dX10_whose_71 : decode cX10_whose 71 = .ok (.istore_n 2, 1) := by decide +kernel
theorem dX10_whose_72 : decode cX10_whose 72 = .ok (.iload_n 3, 1) := by decide +kernel
theorem dX10_whose_73 : decode cX10_whose 73 = .ok (.ifCond .ne 11, 3) := by decide +kernel
theorem dX10_whose_76 : decode cX10_whose 76 = .ok (.aload_n 0, 1) := by decide +kernel
theorem dX10_whose_77 : decode cX10_whose 77 = .ok (.iload_n 1, 1) := by decide +kernel
theorem dX10_whose_78 : decode cX10_whose 78 = .ok (.invokevirtual 196, 3) := by decide +kernel
theorem dX10_whose_81 : decode cX10_whose 81 = .ok (.ifCond .eq 7, 3) := by decide +kernel
theorem dX10_whose_84 : decode cX10_whose 84 = .ok (.iconst 1, 1) := by decide +kernel
theorem dX10_whose_85 : decode cX10_whose 85 = .ok (.goto 4, 3) := by decide +kernel
theorem dX10_whose_88 : decode cX10_whose 88 = .ok (.iconst 0, 1) := by decide +kernel
theorem dX10_whose_89 : decode cX10_whose 89 = .ok (.istore_n 3, 1) := by decide +kernel
theorem dX10_whose_90 : decode cX10_whose 90 = .ok (.iload 4, 2) := by decide +kernel
theorem dX10_whose_92 : decode cX10_whose 92 = .ok (.ifCond .eq 15, 3) := by decide +kernel
theorem dX10_whose_95 : decode cX10_whose 95 = .ok (.aload_n 0, 1) := by decide +kernel
theorem dX10_whose_96 : decode cX10_whose 96 = .ok (.iload_n 1, 1) := by decide +kernel
theorem dX10_whose_97 : decode cX10_whose 97 = .ok (.invokevirtual 196, 3) := by decide +kernel
theorem dX10_whose_100 : decode cX10_whose 100 = .ok (.ifCond .eq 7, 3) := by decide +kernel
theorem dX10_whose_103 : decode cX10_whose 103 = .ok (.iconst 1, 1) := by decide +kernel
theorem dX10_whose_104 : decode cX10_whose 104 = .ok (.goto 4, 3) := by decide +kernel
theorem dX10_whose_107 : decode cX10_whose 107 = .ok (.iconst 0, 1) := by decide +kernel
theorem dX10_whose_108 : decode cX10_whose 108 = .ok (.istore 4, 2) := by decide +kernel
theorem dX10_whose_110 : decode cX10_whose 110 = .ok (.iinc 5 1, 3) := by decide +kernel
theorem dX10_whose_113 : decode cX10_whose 113 = .ok (.goto (-71), 3) := by decide +kernel
theorem dX10_whose_116 : decode cX10_whose 116 = .ok (.iload_n 2, 1) := by decide +kernel
theorem dX10_whose_117 : decode cX10_whose 117 = .ok (.ifCond .eq 12, 3) := by decide +kernel
theorem dX10_whose_120 : decode cX10_whose 120 = .ok (.iload 4, 2) := by decide +kernel
theorem dX10_whose_122 : decode cX10_whose 122 = .ok (.ifCond .eq 7, 3) := by decide +kernel
theorem dX10_whose_125 : decode cX10_whose 125 = .ok (.iconst 2, 1) := by decide +kernel
theorem dX10_whose_126 : decode cX10_whose 126 = .ok (.goto 12, 3) := by decide +kernel
theorem dX10_whose_129 : decode cX10_whose 129 = .ok (.iload_n 3, 1) := by decide +kernel
theorem dX10_whose_130 : decode cX10_whose 130 = .ok (.ifCond .eq 7, 3) := by decide +kernel
theorem dX10_whose_133 : decode cX10_whose 133 = .ok (.iconst 1, 1) := by decide +kernel
theorem dX10_whose_134 : decode cX10_whose 134 = .ok (.goto 4, 3) := by decide +kernel
theorem dX10_whose_137 : decode cX10_whose 137 = .ok (.iconst 0, 1) := by decide +kernel
theorem dX10_whose_138 : decode cX10_whose 138 = .ok (.ireturn, 1) := by decide +kernel
set_option maxRecDepth 20000 in
theorem ggX10_wouldHit_X10_off : GoodIn wsX10_wouldHit wsX10_off := goodIn_r _ [8] (by decide +kernel) (by decide +kernel)
set_option maxRecDepth 20000 in
theorem gX10_wouldHit_X10_off : GoodIn wsX10_wouldHit (va_wsS RX10 187 yX10_off wsX10_off) := goodIn_app (goodIn_of _ (by decide +kernel)) ggX10_wouldHit_X10_off
theorem dX10_wouldHit_0 : decode cX10_wouldHit 0 = .ok (.iconst 1, 1) := by decide +kernel
theorem dX10_wouldHit_1 : decode cX10_wouldHit 1 = .ok (.istore_n 2, 1) := by decide +kernel
theorem dX10_wouldHit_2 : decode cX10_wouldHit 2 = .ok (.iload_n 2, 1) := by decide +kernel
theorem dX10_wouldHit_3 : decode cX10_wouldHit 3 = .ok (.sipush 600, 3) := by decide +kernel
theorem dX10_wouldHit_6 : decode cX10_wouldHit 6 = .ok (.if_icmp .gt 86, 3) := by decide +kernel
theorem dX10_wouldHit_9 : decode cX10_wouldHit 9 = .ok (.aload_n 0, 1) := by decide +kernel
theorem dX10_wouldHit_10 : decode cX10_wouldHit 10 = .ok (.getfield 49, 3) := by decide +kernel
theorem dX10_wouldHit_13 : decode cX10_wouldHit 13 = .ok (.iconst 0, 1) := by decide +kernel
theorem dX10_wouldHit_14 : decode cX10_wouldHit 14 = .ok (.iaload, 1) := by decide +kernel
theorem dX10_wouldHit_15 : decode cX10_wouldHit 15 = .ok (.aload_n 0, 1) := by decide +kernel
theorem dX10_wouldHit_16 : decode cX10_wouldHit 16 = .ok (.getfield 16, 3) := by decide +kernel
theorem dX10_wouldHit_19 : decode cX10_wouldHit 19 = .ok (.iload_n 1, 1) := by decide +kernel
theorem dX10_wouldHit_20 : decode cX10_wouldHit 20 = .ok (.iconst 1, 1) := by decide +kernel
theorem dX10_wouldHit_21 : decode cX10_wouldHit 21 = .ok (.iadd, 1) := by decide +kernel
theorem dX10_wouldHit_22 : decode cX10_wouldHit 22 = .ok (.iaload, 1) := by decide +kernel
theorem dX10_wouldHit_23 : decode cX10_wouldHit 23 = .ok (.if_icmp .ge 69, 3) := by decide +kernel
theorem dX10_wouldHit_26 : decode cX10_wouldHit 26 = .ok (.aload_n 0, 1) := by decide +kernel
theorem dX10_wouldHit_27 : decode cX10_wouldHit 27 = .ok (.getfield 49, 3) := by decide +kernel
theorem dX10_wouldHit_30 : decode cX10_wouldHit 30 = .ok (.iload_n 2, 1) := by decide +kernel
theorem dX10_wouldHit_31 : decode cX10_wouldHit 31 = .ok (.iaload, 1) := by decide +kernel
theorem dX10_wouldHit_32 : decode cX10_wouldHit 32 = .ok (.aload_n 0, 1) := by decide +kernel
theorem dX10_wouldHit_33 : decode cX10_wouldHit 33 = .ok (.getfield 16, 3) := by decide +kernel
theorem dX10_wouldHit_36 : decode cX10_wouldHit 36 = .ok (.iload_n 1, 1) := by decide +kernel
theorem dX10_wouldHit_37 : decode cX10_wouldHit 37 = .ok (.iconst 1, 1) := by decide +kernel
theorem dX10_wouldHit_38 : decode cX10_wouldHit 38 = .ok (.iadd, 1) := by decide +kernel
theorem dX10_wouldHit_39 : decode cX10_wouldHit 39 = .ok (.iaload, 1) := by decide +kernel
theorem dX10_wouldHit_40 : decode cX10_wouldHit 40 = .ok (.if_icmp .lt 46, 3) := by decide +kernel
theorem dX10_wouldHit_43 : decode cX10_wouldHit 43 = .ok (.aload_n 0, 1) := by decide +kernel
theorem dX10_wouldHit_44 : decode cX10_wouldHit 44 = .ok (.getfield 52, 3) := by decide +kernel
theorem dX10_wouldHit_47 : decode cX10_wouldHit 47 = .ok (.iload_n 2, 1) := by decide +kernel
theorem dX10_wouldHit_48 : decode cX10_wouldHit 48 = .ok (.iaload, 1) := by decide +kernel
theorem dX10_wouldHit_49 : decode cX10_wouldHit 49 = .ok (.invokestatic 187, 3) := by decide +kernel
theorem dX10_wouldHit_52 : decode cX10_wouldHit 52 = .ok (.aload_n 0, 1) := by decide +kernel
theorem dX10_wouldHit_53 : decode cX10_wouldHit 53 = .ok (.getfield 16, 3) := by decide +kernel
theorem dX10_wouldHit_56 : decode cX10_wouldHit 56 = .ok (.iload_n 1, 1) := by decide +kernel
theorem dX10_wouldHit_57 : decode cX10_wouldHit 57 = .ok (.iconst 2, 1) := by decide +kernel
theorem dX10_wouldHit_58 : decode cX10_wouldHit 58 = .ok (.iadd, 1) := by decide +kernel
theorem dX10_wouldHit_59 : decode cX10_wouldHit 59 = .ok (.iaload, 1) := by decide +kernel
theorem dX10_wouldHit_60 : decode cX10_wouldHit 60 = .ok (.if_icmp .gt 24, 3) := by decide +kernel
theorem dX10_wouldHit_63 : decode cX10_wouldHit 63 = .ok (.aload_n 0, 1) := by decide +kernel
theorem dX10_wouldHit_64 : decode cX10_wouldHit 64 = .ok (.getfield 55, 3) := by decide +kernel
theorem dX10_wouldHit_67 : decode cX10_wouldHit 67 = .ok (.iload_n 2, 1) := by decide +kernel
theorem dX10_wouldHit_68 : decode cX10_wouldHit 68 = .ok (.iaload, 1) := by decide +kernel
theorem dX10_wouldHit_69 : decode cX10_wouldHit 69 = .ok (.aload_n 0, 1) := by decide +kernel
theorem dX10_wouldHit_70 : decode cX10_wouldHit 70 = .ok (.getfield 16, 3) := by decide +kernel
theorem dX10_wouldHit_73 : decode cX10_wouldHit 73 = .ok (.iload_n 1, 1) := by decide +kernel
theorem dX10_wouldHit_74 : decode cX10_wouldHit 74 = .ok (.iconst 3, 1) := by decide +kernel
theorem dX10_wouldHit_75 : decode cX10_wouldHit 75 = .ok (.iadd, 1) := by decide +kernel
theorem dX10_wouldHit_76 : decode cX10_wouldHit 76 = .ok (.iaload, 1) := by decide +kernel
theorem dX10_wouldHit_77 : decode cX10_wouldHit 77 = .ok (.if_icmp .gt 7, 3) := by decide +kernel
theorem dX10_wouldHit_80 : decode cX10_wouldHit 80 = .ok (.iconst 1, 1) := by decide +kernel
theorem dX10_wouldHit_81 : decode cX10_wouldHit 81 = .ok (.goto 4, 3) := by decide +kernel
theorem dX10_wouldHit_84 : decode cX10_wouldHit 84 = .ok (.iconst 0, 1) := by decide +kernel
theorem dX10_wouldHit_85 : decode cX10_wouldHit 85 = .ok (.ireturn, 1) := by decide +kernel
theorem dX10_wouldHit_86 : decode cX10_wouldHit 86 = .ok (.iinc 2 1, 3) := by decide +kernel
theorem dX10_wouldHit_89 : decode cX10_wouldHit 89 = .ok (.goto (-87), 3) := by decide +kernel
theorem dX10_wouldHit_92 : decode cX10_wouldHit 92 = .ok (.iconst 0, 1) := by decide +kernel
theorem dX10_wouldHit_93 : decode cX10_wouldHit 93 = .ok (.ireturn, 1) := by decide +kernel
set_option maxRecDepth 20000 in
theorem ggX10_would_X10_in : GoodIn wsX10_would wsX10_in := goodIn_r _ [5] (by decide +kernel) (by decide +kernel)
set_option maxRecDepth 20000 in
theorem gX10_would_X10_in : GoodIn wsX10_would (va_wsS RX10 76 yX10_in wsX10_in) := goodIn_app (goodIn_of _ (by decide +kernel)) ggX10_would_X10_in
set_option maxRecDepth 20000 in
theorem ggX10_would_X10_last : GoodIn wsX10_would wsX10_last := goodIn_r _ [9, 10, 11, 55, 56, 57, 58, 59, 60, 61, 62, 63, 64, 65, 66, 67, 68, 69, 70, 71, 72, 73, 74, 75, 76, 77, 78, 79, 80, 81, 82] (by decide +kernel) (by decide +kernel)
set_option maxRecDepth 20000 in
theorem gX10_would_X10_last : GoodIn wsX10_would (wsV RX10 119 RX10 yX10_last wsX10_last) := goodIn_app (goodIn_of _ (by decide +kernel)) ggX10_would_X10_last
set_option maxRecDepth 20000 in
theorem ggX10_would_X10_layCurve : GoodIn wsX10_would wsX10_layCurve := goodIn_r _ [15, 16, 17, 18, 19, 20, 21, 22, 23, 24, 25, 26, 27, 4, 28, 11, 6, 7, 8, 9, 10, 55, 56, 57, 58, 59, 60, 61, 62, 63, 64, 65, 66, 67, 68, 69, 70, 71, 72, 73, 74, 75, 76, 77, 78, 79, 80, 81, 82] (by decide +kernel) (by decide +kernel)
set_option maxRecDepth 20000 in
theorem gX10_would_X10_layCurve : GoodIn wsX10_would (wsV RX10 154 RX10 yX10_layCurve wsX10_layCurve) := goodIn_app (goodIn_of _ (by decide +kernel)) ggX10_would_X10_layCurve
set_option maxRecDepth 20000 in
theorem ggX10_would_X10_fitsAll : GoodIn wsX10_would wsX10_fitsAll := goodIn_r _ [32, 33, 34, 35, 36, 37, 4, 38, 39, 40, 41, 42, 23, 16, 18, 43, 44, 45, 46, 47, 19, 48, 49, 50, 55, 56, 57, 58, 59, 60, 61, 62, 63, 64, 65, 66, 67, 68, 69, 70, 71, 72, 73, 74, 75, 76, 77, 78, 79, 80, 81, 82] (by decide +kernel) (by decide +kernel)
set_option maxRecDepth 20000 in
theorem gX10_would_X10_fitsAll : GoodIn wsX10_would (wsV RX10 201 RX10 yX10_fitsAll wsX10_fitsAll) := goodIn_app (goodIn_of _ (by decide +kernel)) ggX10_would_X10_fitsAll
set_option maxRecDepth 20000 in
theorem ggX10_would_X10_wouldHit : GoodIn wsX10_would wsX10_wouldHit := goodIn_r _ [54, 16, 11, 18, 19, 48, 49, 4, 50, 55, 56, 57, 58, 59, 60, 61, 62, 63, 64, 65, 66, 67, 68, 69, 70, 71, 72, 73, 74, 75, 76, 77, 78, 79, 80, 81, 82] (by decide +kernel) (by decide +kernel)
set_option maxRecDepth 20000 in
theorem gX10_would_X10_wouldHit : GoodIn wsX10_would (wsV RX10 211 RX10 yX10_wouldHit wsX10_wouldHit) := goodIn_app (goodIn_of _ (by decide +kernel)) ggX10_would_X10_wouldHit
theorem dX10_would_0 : decode cX10_would 0 = .ok (.iload_n 1, 1) := by decide +kernel
theorem dX10_would_1 : decode cX10_would 1 = .ok (.i2l, 1) := by decide +kernel
theorem dX10_would_2 : decode cX10_would 2 = .ok (.lconst 0, 1) := by decide +kernel
theorem dX10_would_3 : decode cX10_would 3 = .ok (.lconst 1, 1) := by decide +kernel
theorem dX10_would_4 : decode cX10_would 4 = .ok (.invokestatic 76, 3) := by decide +kernel
theorem dX10_would_7 : decode cX10_would 7 = .ok (.ifCond .ne 5, 3) := by decide +kernel
theorem dX10_would_10 : decode cX10_would 10 = .ok (.iconst (-1), 1) := by decide +kernel
theorem dX10_would_11 : decode cX10_would 11 = .ok (.ireturn, 1) := by decide +kernel
theorem dX10_would_12 : decode cX10_would 12 = .ok (.aload_n 0, 1) := by decide +kernel
theorem dX10_would_13 : decode cX10_would 13 = .ok (.bipush 107, 2) := by decide +kernel
theorem dX10_would_15 : decode cX10_would 15 = .ok (.invokevirtual 119, 3) := by decide +kernel
theorem dX10_would_18 : decode cX10_would 18 = .ok (.istore_n 2, 1) := by decide +kernel
theorem dX10_would_19 : decode cX10_would 19 = .ok (.iload_n 2, 1) := by decide +kernel
theorem dX10_would_20 : decode cX10_would 20 = .ok (.bipush (-4), 2) := by decide +kernel
theorem dX10_would_22 : decode cX10_would 22 = .ok (.if_icmp .ne 6, 3) := by decide +kernel
theorem dX10_would_25 : decode cX10_would 25 = .ok (.bipush (-2), 2) := by decide +kernel
theorem dX10_would_27 : decode cX10_would 27 = .ok (.ireturn, 1) := by decide +kernel
theorem dX10_would_28 : decode cX10_would 28 = .ok (.iconst 0, 1) := by decide +kernel
theorem dX10_would_29 : decode cX10_would 29 = .ok (.istore_n 3, 1) := by decide +kernel
theorem dX10_would_30 : decode cX10_would 30 = .ok (.iconst 0, 1) := by decide +kernel
theorem dX10_would_31 : decode cX10_would 31 = .ok (.istore 4, 2) := by decide +kernel
theorem dX10_would_33 : decode cX10_would 33 = .ok (.iconst 0, 1) := by decide +kernel
theorem dX10_would_34 : decode cX10_would 34 = .ok (.istore 5, 2) := by decide +kernel
theorem dX10_would_36 : decode cX10_would 36 = .ok (.iload 5, 2) := by decide +kernel
theorem dX10_would_38 : decode cX10_would 38 = .ok (.sipush 189, 3) := by decide +kernel
theorem dX10_would_41 : decode cX10_would 41 = .ok (.if_icmp .ge 50, 3) := by decide +kernel
theorem dX10_would_44 : decode cX10_would 44 = .ok (.aload_n 0, 1) := by decide +kernel
theorem dX10_would_45 : decode cX10_would 45 = .ok (.iload 5, 2) := by decide +kernel
theorem dX10_would_47 : decode cX10_would 47 = .ok (.invokevirtual 154, 3) := by decide +kernel
theorem dX10_would_50 : decode cX10_would 50 = .ok (.aload_n 0, 1) := by decide +kernel
theorem dX10_would_51 : decode cX10_would 51 = .ok (.aload_n 0, 1) := by decide +kernel
theorem dX10_would_52 : decode cX10_would 52 = .ok (.getfield 22, 3) := by decide +kernel
theorem dX10_would_55 : decode cX10_would 55 = .ok (.iconst 0, 1) := by decide +kernel
theorem dX10_would_56 : decode cX10_would 56 = .ok (.iaload, 1) := by decide +kernel
theorem dX10_would_57 : decode cX10_would 57 = .ok (.iconst 0, 1) := by decide +kernel
theorem dX10_would_58 : decode cX10_would 58 = .ok (.invokevirtual 201, 3) := by decide +kernel
theorem dX10_would_61 : decode cX10_would 61 = .ok (.ifCond .eq 24, 3) := by decide +kernel
theorem dX10_would_64 : decode cX10_would 64 = .ok (.iinc 3 1, 3) := by decide +kernel
theorem dX10_would_67 : decode cX10_would 67 = .ok (.iload 4, 2) := by decide +kernel
theorem dX10_would_69 : decode cX10_would 69 = .ok (.aload_n 0, 1) := by decide +kernel
theorem dX10_would_70 : decode cX10_would 70 = .ok (.iload_n 2, 1) := by decide +kernel
theorem dX10_would_71 : decode cX10_would 71 = .ok (.invokevirtual 211, 3) := by decide +kernel
theorem dX10_would_74 : decode cX10_would 74 = .ok (.ifCond .eq 7, 3) := by decide +kernel
theorem dX10_would_77 : decode cX10_would 77 = .ok (.iconst 1, 1) := by decide +kernel
theorem dX10_would_78 : decode cX10_would 78 = .ok (.goto 4, 3) := by decide +kernel
theorem dX10_would_81 : decode cX10_would 81 = .ok (.iconst 0, 1) := by decide +kernel
theorem dX10_would_82 : decode cX10_would 82 = .ok (.iadd, 1) := by decide +kernel
theorem dX10_would_83 : decode cX10_would 83 = .ok (.istore 4, 2) := by decide +kernel
theorem dX10_would_85 : decode cX10_would 85 = .ok (.iinc 5 1, 3) := by decide +kernel
theorem dX10_would_88 : decode cX10_would 88 = .ok (.goto (-52), 3) := by decide +kernel
theorem dX10_would_91 : decode cX10_would 91 = .ok (.iload_n 1, 1) := by decide +kernel
theorem dX10_would_92 : decode cX10_would 92 = .ok (.ifCond .ne 8, 3) := by decide +kernel
theorem dX10_would_95 : decode cX10_would 95 = .ok (.iload 4, 2) := by decide +kernel
theorem dX10_would_97 : decode cX10_would 97 = .ok (.goto 4, 3) := by decide +kernel
theorem dX10_would_100 : decode cX10_would 100 = .ok (.iload_n 3, 1) := by decide +kernel
theorem dX10_would_101 : decode cX10_would 101 = .ok (.ireturn, 1) := by decide +kernel
set_option maxRecDepth 20000 in
theorem ggX10_call_X10_in : GoodIn wsX10_call wsX10_in := goodIn_r _ [8] (by decide +kernel) (by decide +kernel)
set_option maxRecDepth 20000 in
theorem gX10_call_X10_in : GoodIn wsX10_call (va_wsS RX10 76 yX10_in wsX10_in) := goodIn_app (goodIn_of _ (by decide +kernel)) ggX10_call_X10_in
theorem dX10_call_0 : decode cX10_call 0 = .ok (.iload_n 1, 1) := by decide +kernel
theorem dX10_call_1 : decode cX10_call 1 = .ok (.i2l, 1) := by decide +kernel
theorem dX10_call_2 : decode cX10_call 2 = .ok (.ldc2_w 214, 3) := by decide +kernel
theorem dX10_call_5 : decode cX10_call 5 = .ok (.ldc2_w 216, 3) := by decide +kernel
theorem dX10_call_8 : decode cX10_call 8 = .ok (.invokestatic 76, 3) := by decide +kernel
theorem dX10_call_11 : decode cX10_call 11 = .ok (.ifCond .eq 13, 3) := by decide +kernel
theorem dX10_call_14 : decode cX10_call 14 = .ok (.iload_n 2, 1) := by decide +kernel
theorem dX10_call_15 : decode cX10_call 15 = .ok (.i2l, 1) := by decide +kernel
theorem dX10_call_16 : decode cX10_call 16 = .ok (.lconst 0, 1) := by decide +kernel
theorem dX10_call_17 : decode cX10_call 17 = .ok (.lconst 1, 1) := by decide +kernel
theorem dX10_call_18 : decode cX10_call 18 = .ok (.invokestatic 76, 3) := by decide +kernel
theorem dX10_call_21 : decode cX10_call 21 = .ok (.ifCond .ne 5, 3) := by decide +kernel
theorem dX10_call_24 : decode cX10_call 24 = .ok (.iconst (-1), 1) := by decide +kernel
theorem dX10_call_25 : decode cX10_call 25 = .ok (.ireturn, 1) := by decide +kernel
theorem dX10_call_26 : decode cX10_call 26 = .ok (.aload_n 0, 1) := by decide +kernel
theorem dX10_call_27 : decode cX10_call 27 = .ok (.getfield 218, 3) := by decide +kernel
theorem dX10_call_30 : decode cX10_call 30 = .ok (.bipush 60, 2) := by decide +kernel
theorem dX10_call_32 : decode cX10_call 32 = .ok (.if_icmp .ne 6, 3) := by decide +kernel
theorem dX10_call_35 : decode cX10_call 35 = .ok (.bipush (-3), 2) := by decide +kernel
theorem dX10_call_37 : decode cX10_call 37 = .ok (.ireturn, 1) := by decide +kernel
theorem dX10_call_38 : decode cX10_call 38 = .ok (.aload_n 0, 1) := by decide +kernel
theorem dX10_call_39 : decode cX10_call 39 = .ok (.getfield 34, 3) := by decide +kernel
theorem dX10_call_42 : decode cX10_call 42 = .ok (.iconst 3, 1) := by decide +kernel
theorem dX10_call_43 : decode cX10_call 43 = .ok (.aload_n 0, 1) := by decide +kernel
theorem dX10_call_44 : decode cX10_call 44 = .ok (.getfield 218, 3) := by decide +kernel
theorem dX10_call_47 : decode cX10_call 47 = .ok (.imul, 1) := by decide +kernel
theorem dX10_call_48 : decode cX10_call 48 = .ok (.iload_n 1, 1) := by decide +kernel
theorem dX10_call_49 : decode cX10_call 49 = .ok (.iastore, 1) := by decide +kernel
theorem dX10_call_50 : decode cX10_call 50 = .ok (.aload_n 0, 1) := by decide +kernel
theorem dX10_call_51 : decode cX10_call 51 = .ok (.getfield 34, 3) := by decide +kernel
theorem dX10_call_54 : decode cX10_call 54 = .ok (.iconst 3, 1) := by decide +kernel
theorem dX10_call_55 : decode cX10_call 55 = .ok (.aload_n 0, 1) := by decide +kernel
theorem dX10_call_56 : decode cX10_call 56 = .ok (.getfield 218, 3) := by decide +kernel
theorem dX10_call_59 : decode cX10_call 59 = .ok (.imul, 1) := by decide +kernel
theorem dX10_call_60 : decode cX10_call 60 = .ok (.iconst 1, 1) := by decide +kernel
theorem dX10_call_61 : decode cX10_call 61 = .ok (.iadd, 1) := by decide +kernel
theorem dX10_call_62 : decode cX10_call 62 = .ok (.iload_n 2, 1) := by decide +kernel
theorem dX10_call_63 : decode cX10_call 63 = .ok (.iastore, 1) := by decide +kernel
theorem dX10_call_64 : decode cX10_call 64 = .ok (.aload_n 0, 1) := by decide +kernel
theorem dX10_call_65 : decode cX10_call 65 = .ok (.getfield 34, 3) := by decide +kernel
theorem dX10_call_68 : decode cX10_call 68 = .ok (.iconst 3, 1) := by decide +kernel
theorem dX10_call_69 : decode cX10_call 69 = .ok (.aload_n 0, 1) := by decide +kernel
theorem dX10_call_70 : decode cX10_call 70 = .ok (.getfield 218, 3) := by decide +kernel
theorem dX10_call_73 : decode cX10_call 73 = .ok (.imul, 1) := by decide +kernel
theorem dX10_call_74 : decode cX10_call 74 = .ok (.iconst 2, 1) := by decide +kernel
theorem dX10_call_75 : decode cX10_call 75 = .ok (.iadd, 1) := by decide +kernel
theorem dX10_call_76 : decode cX10_call 76 = .ok (.iload_n 3, 1) := by decide +kernel
theorem dX10_call_77 : decode cX10_call 77 = .ok (.ifCond .eq 7, 3) := by decide +kernel
theorem dX10_call_80 : decode cX10_call 80 = .ok (.iconst 1, 1) := by decide +kernel
theorem dX10_call_81 : decode cX10_call 81 = .ok (.goto 4, 3) := by decide +kernel
theorem dX10_call_84 : decode cX10_call 84 = .ok (.iconst 0, 1) := by decide +kernel
theorem dX10_call_85 : decode cX10_call 85 = .ok (.iastore, 1) := by decide +kernel
theorem dX10_call_86 : decode cX10_call 86 = .ok (.aload_n 0, 1) := by decide +kernel
theorem dX10_call_87 : decode cX10_call 87 = .ok (.dup, 1) := by decide +kernel
theorem dX10_call_88 : decode cX10_call 88 = .ok (.getfield 218, 3) := by decide +kernel
theorem dX10_call_91 : decode cX10_call 91 = .ok (.iconst 1, 1) := by decide +kernel
theorem dX10_call_92 : decode cX10_call 92 = .ok (.iadd, 1) := by decide +kernel
theorem dX10_call_93 : decode cX10_call 93 = .ok (.putfield 218, 3) := by decide +kernel
theorem dX10_call_96 : decode cX10_call 96 = .ok (.aload_n 0, 1) := by decide +kernel
theorem dX10_call_97 : decode cX10_call 97 = .ok (.getfield 218, 3) := by decide +kernel
theorem dX10_call_100 : decode cX10_call 100 = .ok (.ireturn, 1) := by decide +kernel
theorem dX10_notSo_0 : decode cX10_notSo 0 = .ok (.iconst 0, 1) := by decide +kernel
theorem dX10_notSo_1 : decode cX10_notSo 1 = .ok (.istore_n 3, 1) := by decide +kernel
theorem dX10_notSo_2 : decode cX10_notSo 2 = .ok (.iconst 0, 1) := by decide +kernel
theorem dX10_notSo_3 : decode cX10_notSo 3 = .ok (.istore 4, 2) := by decide +kernel
theorem dX10_notSo_5 : decode cX10_notSo 5 = .ok (.iload 4, 2) := by decide +kernel
theorem dX10_notSo_7 : decode cX10_notSo 7 = .ok (.aload_n 0, 1) := by decide +kernel
theorem dX10_notSo_8 : decode cX10_notSo 8 = .ok (.getfield 218, 3) := by decide +kernel
theorem dX10_notSo_11 : decode cX10_notSo 11 = .ok (.if_icmp .ge 76, 3) := by decide +kernel
theorem dX10_notSo_14 : decode cX10_notSo 14 = .ok (.aload_n 0, 1) := by decide +kernel
theorem dX10_notSo_15 : decode cX10_notSo 15 = .ok (.getfield 34, 3) := by decide +kernel
theorem dX10_notSo_18 : decode cX10_notSo 18 = .ok (.iconst 3, 1) := by decide +kernel
theorem dX10_notSo_19 : decode cX10_notSo 19 = .ok (.iload 4, 2) := by decide +kernel
theorem dX10_notSo_21 : decode cX10_notSo 21 = .ok (.imul, 1) := by decide +kernel
theorem dX10_notSo_22 : decode cX10_notSo 22 = .ok (.iconst 2, 1) := by decide +kernel
theorem dX10_notSo_23 : decode cX10_notSo 23 = .ok (.iadd, 1) := by decide +kernel
theorem dX10_notSo_24 : decode cX10_notSo 24 = .ok (.iaload, 1) := by decide +kernel
theorem dX10_notSo_25 : decode cX10_notSo 25 = .ok (.aload_n 0, 1) := by decide +kernel
theorem dX10_notSo_26 : decode cX10_notSo 26 = .ok (.getfield 34, 3) := by decide +kernel
theorem dX10_notSo_29 : decode cX10_notSo 29 = .ok (.iconst 3, 1) := by decide +kernel
theorem dX10_notSo_30 : decode cX10_notSo 30 = .ok (.iload 4, 2) := by decide +kernel
theorem dX10_notSo_32 : decode cX10_notSo 32 = .ok (.imul, 1) := by decide +kernel
theorem dX10_notSo_33 : decode cX10_notSo 33 = .ok (.iaload, 1) := by decide +kernel
theorem dX10_notSo_34 : decode cX10_notSo 34 = .ok (.iload_n 2, 1) := by decide +kernel
theorem dX10_notSo_35 : decode cX10_notSo 35 = .ok (.if_icmp .le 7, 3) := by decide +kernel
theorem dX10_notSo_38 : decode cX10_notSo 38 = .ok (.iconst 1, 1) := by decide +kernel
theorem dX10_notSo_39 : decode cX10_notSo 39 = .ok (.goto 4, 3) := by decide +kernel
theorem dX10_notSo_42 : decode cX10_notSo 42 = .ok (.iconst 0, 1) := by decide +kernel
theorem dX10_notSo_43 : decode cX10_notSo 43 = .ok (.if_icmp .ne 7, 3) := by decide +kernel
theorem dX10_notSo_46 : decode cX10_notSo 46 = .ok (.iconst 1, 1) := by decide +kernel
theorem dX10_notSo_47 : decode cX10_notSo 47 = .ok (.goto 4, 3) := by decide +kernel
theorem dX10_notSo_50 : decode cX10_notSo 50 = .ok (.iconst 0, 1) := by decide +kernel
theorem dX10_notSo_51 : decode cX10_notSo 51 = .ok (.istore 5, 2) := by decide +kernel
theorem dX10_notSo_53 : decode cX10_notSo 53 = .ok (.iload_n 3, 1) := by decide +kernel
theorem dX10_notSo_54 : decode cX10_notSo 54 = .ok (.aload_n 0, 1) := by decide +kernel
theorem dX10_notSo_55 : decode cX10_notSo 55 = .ok (.getfield 34, 3) := by decide +kernel
theorem dX10_notSo_58 : decode cX10_notSo 58 = .ok (.iconst 3, 1) := by decide +kernel
theorem dX10_notSo_59 : decode cX10_notSo 59 = .ok (.iload 4, 2) := by decide +kernel
theorem dX10_notSo_61 : decode cX10_notSo 61 = .ok (.imul, 1) := by decide +kernel
theorem dX10_notSo_62 : decode cX10_notSo 62 = .ok (.iconst 1, 1) := by decide +kernel
theorem dX10_notSo_63 : decode cX10_notSo 63 = .ok (.iadd, 1) := by decide +kernel
theorem dX10_notSo_64 : decode cX10_notSo 64 = .ok (.iaload, 1) := by decide +kernel
theorem dX10_notSo_65 : decode cX10_notSo 65 = .ok (.iload_n 1, 1) := by decide +kernel
theorem dX10_notSo_66 : decode cX10_notSo 66 = .ok (.if_icmp .ne 12, 3) := by decide +kernel
theorem dX10_notSo_69 : decode cX10_notSo 69 = .ok (.iload 5, 2) := by decide +kernel
theorem dX10_notSo_71 : decode cX10_notSo 71 = .ok (.ifCond .ne 7, 3) := by decide +kernel
theorem dX10_notSo_74 : decode cX10_notSo 74 = .ok (.iconst 1, 1) := by decide +kernel
theorem dX10_notSo_75 : decode cX10_notSo 75 = .ok (.goto 4, 3) := by decide +kernel
theorem dX10_notSo_78 : decode cX10_notSo 78 = .ok (.iconst 0, 1) := by decide +kernel
theorem dX10_notSo_79 : decode cX10_notSo 79 = .ok (.iadd, 1) := by decide +kernel
theorem dX10_notSo_80 : decode cX10_notSo 80 = .ok (.istore_n 3, 1) := by decide +kernel
theorem dX10_notSo_81 : decode cX10_notSo 81 = .ok (.iinc 4 1, 3) := by decide +kernel
theorem dX10_notSo_84 : decode cX10_notSo 84 = .ok (.goto (-79), 3) := by decide +kernel
theorem dX10_notSo_87 : decode cX10_notSo 87 = .ok (.iload_n 3, 1) := by decide +kernel
theorem dX10_notSo_88 : decode cX10_notSo 88 = .ok (.ireturn, 1) := by decide +kernel
set_option maxRecDepth 20000 in
theorem ggX10_lean_X10_in : GoodIn wsX10_lean wsX10_in := goodIn_r _ [4] (by decide +kernel) (by decide +kernel)
set_option maxRecDepth 20000 in
theorem gX10_lean_X10_in : GoodIn wsX10_lean (va_wsS RX10 76 yX10_in wsX10_in) := goodIn_app (goodIn_of _ (by decide +kernel)) ggX10_lean_X10_in
set_option maxRecDepth 20000 in
theorem ggX10_lean_X10_notSo : GoodIn wsX10_lean wsX10_notSo := goodIn_r _ [8, 9, 10, 14, 15, 16, 17, 18, 19, 20, 21, 22, 23, 24, 25, 26, 27, 28, 29, 30, 31, 32, 33, 34, 35, 36, 37, 38, 39, 40, 41] (by decide +kernel) (by decide +kernel)
set_option maxRecDepth 20000 in
theorem gX10_lean_X10_notSo : GoodIn wsX10_lean (wsV RX10 221 RX10 yX10_notSo wsX10_notSo) := goodIn_app (goodIn_of _ (by decide +kernel)) ggX10_lean_X10_notSo
set_option maxRecDepth 20000 in
theorem ggX10_lean_X10_off : GoodIn wsX10_lean wsX10_off := goodIn_r _ [13] (by decide +kernel) (by decide +kernel)
set_option maxRecDepth 20000 in
theorem gX10_lean_X10_off : GoodIn wsX10_lean (va_wsS RX10 187 yX10_off wsX10_off) := goodIn_app (goodIn_of _ (by decide +kernel)) ggX10_lean_X10_off
theorem dX10_lean_0 : decode cX10_lean 0 = .ok (.iload_n 1, 1) := by decide +kernel
theorem dX10_lean_1 : decode cX10_lean 1 = .ok (.i2l, 1) := by decide +kernel
theorem dX10_lean_2 : decode cX10_lean 2 = .ok (.lconst 0, 1) := by decide +kernel
theorem dX10_lean_3 : decode cX10_lean 3 = .ok (.lconst 1, 1) := by decide +kernel
theorem dX10_lean_4 : decode cX10_lean 4 = .ok (.invokestatic 76, 3) := by decide +kernel
theorem dX10_lean_7 : decode cX10_lean 7 = .ok (.ifCond .eq 13, 3) := by decide +kernel
theorem dX10_lean_10 : decode cX10_lean 10 = .ok (.iload_n 2, 1) := by decide +kernel
theorem dX10_lean_11 : decode cX10_lean 11 = .ok (.i2l, 1) := by decide +kernel
theorem dX10_lean_12 : decode cX10_lean 12 = .ok (.lconst 0, 1) := by decide +kernel
theorem dX10_lean_13 : decode cX10_lean 13 = .ok (.lconst 1, 1) := by decide +kernel
theorem dX10_lean_14 : decode cX10_lean 14 = .ok (.invokestatic 76, 3) := by decide +kernel
theorem dX10_lean_17 : decode cX10_lean 17 = .ok (.ifCond .ne 6, 3) := by decide +kernel
theorem dX10_lean_20 : decode cX10_lean 20 = .ok (.bipush (-100), 2) := by decide +kernel
theorem dX10_lean_22 : decode cX10_lean 22 = .ok (.ireturn, 1) := by decide +kernel
theorem dX10_lean_23 : decode cX10_lean 23 = .ok (.iconst 0, 1) := by decide +kernel
theorem dX10_lean_24 : decode cX10_lean 24 = .ok (.istore_n 3, 1) := by decide +kernel
theorem dX10_lean_25 : decode cX10_lean 25 = .ok (.bipush (-20), 2) := by decide +kernel
theorem dX10_lean_27 : decode cX10_lean 27 = .ok (.istore 4, 2) := by decide +kernel
theorem dX10_lean_29 : decode cX10_lean 29 = .ok (.iload 4, 2) := by decide +kernel
theorem dX10_lean_31 : decode cX10_lean 31 = .ok (.bipush 20, 2) := by decide +kernel
theorem dX10_lean_33 : decode cX10_lean 33 = .ok (.if_icmp .gt 73, 3) := by decide +kernel
theorem dX10_lean_36 : decode cX10_lean 36 = .ok (.aload_n 0, 1) := by decide +kernel
theorem dX10_lean_37 : decode cX10_lean 37 = .ok (.iload_n 1, 1) := by decide +kernel
theorem dX10_lean_38 : decode cX10_lean 38 = .ok (.iload_n 3, 1) := by decide +kernel
theorem dX10_lean_39 : decode cX10_lean 39 = .ok (.invokevirtual 221, 3) := by decide +kernel
theorem dX10_lean_42 : decode cX10_lean 42 = .ok (.aload_n 0, 1) := by decide +kernel
theorem dX10_lean_43 : decode cX10_lean 43 = .ok (.iload_n 1, 1) := by decide +kernel
theorem dX10_lean_44 : decode cX10_lean 44 = .ok (.iload 4, 2) := by decide +kernel
theorem dX10_lean_46 : decode cX10_lean 46 = .ok (.invokevirtual 221, 3) := by decide +kernel
theorem dX10_lean_49 : decode cX10_lean 49 = .ok (.isub, 1) := by decide +kernel
theorem dX10_lean_50 : decode cX10_lean 50 = .ok (.istore 5, 2) := by decide +kernel
theorem dX10_lean_52 : decode cX10_lean 52 = .ok (.iload 5, 2) := by decide +kernel
theorem dX10_lean_54 : decode cX10_lean 54 = .ok (.ifCond .gt 43, 3) := by decide +kernel
theorem dX10_lean_57 : decode cX10_lean 57 = .ok (.iload 5, 2) := by decide +kernel
theorem dX10_lean_59 : decode cX10_lean 59 = .ok (.ifCond .ne 15, 3) := by decide +kernel
theorem dX10_lean_62 : decode cX10_lean 62 = .ok (.iload 4, 2) := by decide +kernel
theorem dX10_lean_64 : decode cX10_lean 64 = .ok (.invokestatic 187, 3) := by decide +kernel
theorem dX10_lean_67 : decode cX10_lean 67 = .ok (.iload_n 3, 1) := by decide +kernel
theorem dX10_lean_68 : decode cX10_lean 68 = .ok (.invokestatic 187, 3) := by decide +kernel
theorem dX10_lean_71 : decode cX10_lean 71 = .ok (.if_icmp .lt 26, 3) := by decide +kernel
theorem dX10_lean_74 : decode cX10_lean 74 = .ok (.iload 5, 2) := by decide +kernel
theorem dX10_lean_76 : decode cX10_lean 76 = .ok (.ifCond .ne 24, 3) := by decide +kernel
theorem dX10_lean_79 : decode cX10_lean 79 = .ok (.iload 4, 2) := by decide +kernel
theorem dX10_lean_81 : decode cX10_lean 81 = .ok (.invokestatic 187, 3) := by decide +kernel
theorem dX10_lean_84 : decode cX10_lean 84 = .ok (.iload_n 3, 1) := by decide +kernel
theorem dX10_lean_85 : decode cX10_lean 85 = .ok (.invokestatic 187, 3) := by decide +kernel
theorem dX10_lean_88 : decode cX10_lean 88 = .ok (.if_icmp .ne 12, 3) := by decide +kernel
theorem dX10_lean_91 : decode cX10_lean 91 = .ok (.iload 4, 2) := by decide +kernel
theorem dX10_lean_93 : decode cX10_lean 93 = .ok (.iload_n 3, 1) := by decide +kernel
theorem dX10_lean_94 : decode cX10_lean 94 = .ok (.if_icmp .ge 6, 3) := by decide +kernel
theorem dX10_lean_97 : decode cX10_lean 97 = .ok (.iload 4, 2) := by decide +kernel
theorem dX10_lean_99 : decode cX10_lean 99 = .ok (.istore_n 3, 1) := by decide +kernel
theorem dX10_lean_100 : decode cX10_lean 100 = .ok (.iinc 4 1, 3) := by decide +kernel
theorem dX10_lean_103 : decode cX10_lean 103 = .ok (.goto (-74), 3) := by decide +kernel
theorem dX10_lean_106 : decode cX10_lean 106 = .ok (.iload_n 2, 1) := by decide +kernel
theorem dX10_lean_107 : decode cX10_lean 107 = .ok (.ifCond .ne 7, 3) := by decide +kernel
theorem dX10_lean_110 : decode cX10_lean 110 = .ok (.iload_n 3, 1) := by decide +kernel
theorem dX10_lean_111 : decode cX10_lean 111 = .ok (.goto 9, 3) := by decide +kernel
theorem dX10_lean_114 : decode cX10_lean 114 = .ok (.aload_n 0, 1) := by decide +kernel
theorem dX10_lean_115 : decode cX10_lean 115 = .ok (.iload_n 1, 1) := by decide +kernel
theorem dX10_lean_116 : decode cX10_lean 116 = .ok (.iload_n 3, 1) := by decide +kernel
theorem dX10_lean_117 : decode cX10_lean 117 = .ok (.invokevirtual 221, 3) := by decide +kernel
theorem dX10_lean_120 : decode cX10_lean 120 = .ok (.ireturn, 1) := by decide +kernel
set_option maxRecDepth 20000 in
theorem ggX10_sort_X10_in : GoodIn wsX10_sort wsX10_in := goodIn_r _ [8] (by decide +kernel) (by decide +kernel)
set_option maxRecDepth 20000 in
theorem gX10_sort_X10_in : GoodIn wsX10_sort (va_wsS RX10 76 yX10_in wsX10_in) := goodIn_app (goodIn_of _ (by decide +kernel)) ggX10_sort_X10_in
theorem dX10_sort_0 : decode cX10_sort 0 = .ok (.iload_n 1, 1) := by decide +kernel
theorem dX10_sort_1 : decode cX10_sort 1 = .ok (.i2l, 1) := by decide +kernel
theorem dX10_sort_2 : decode cX10_sort 2 = .ok (.lconst 0, 1) := by decide +kernel
theorem dX10_sort_3 : decode cX10_sort 3 = .ok (.ldc2_w 162, 3) := by decide +kernel
theorem dX10_sort_6 : decode cX10_sort 6 = .ok (.invokestatic 76, 3) := by decide +kernel
theorem dX10_sort_9 : decode cX10_sort 9 = .ok (.ifCond .eq 25, 3) := by decide +kernel
theorem dX10_sort_12 : decode cX10_sort 12 = .ok (.iload_n 2, 1) := by decide +kernel
theorem dX10_sort_13 : decode cX10_sort 13 = .ok (.i2l, 1) := by decide +kernel
theorem dX10_sort_14 : decode cX10_sort 14 = .ok (.lconst 0, 1) := by decide +kernel
theorem dX10_sort_15 : decode cX10_sort 15 = .ok (.lconst 1, 1) := by decide +kernel
theorem dX10_sort_16 : decode cX10_sort 16 = .ok (.invokestatic 76, 3) := by decide +kernel
theorem dX10_sort_19 : decode cX10_sort 19 = .ok (.ifCond .eq 15, 3) := by decide +kernel
theorem dX10_sort_22 : decode cX10_sort 22 = .ok (.iload_n 3, 1) := by decide +kernel
theorem dX10_sort_23 : decode cX10_sort 23 = .ok (.i2l, 1) := by decide +kernel
theorem dX10_sort_24 : decode cX10_sort 24 = .ok (.lconst 0, 1) := by decide +kernel
theorem dX10_sort_25 : decode cX10_sort 25 = .ok (.ldc2_w 168, 3) := by decide +kernel
theorem dX10_sort_28 : decode cX10_sort 28 = .ok (.invokestatic 76, 3) := by decide +kernel
theorem dX10_sort_31 : decode cX10_sort 31 = .ok (.ifCond .ne 5, 3) := by decide +kernel
theorem dX10_sort_34 : decode cX10_sort 34 = .ok (.iconst (-1), 1) := by decide +kernel
theorem dX10_sort_35 : decode cX10_sort 35 = .ok (.ireturn, 1) := by decide +kernel
theorem dX10_sort_36 : decode cX10_sort 36 = .ok (.iload_n 2, 1) := by decide +kernel
theorem dX10_sort_37 : decode cX10_sort 37 = .ok (.ifCond .ne 12, 3) := by decide +kernel
theorem dX10_sort_40 : decode cX10_sort 40 = .ok (.aload_n 0, 1) := by decide +kernel
theorem dX10_sort_41 : decode cX10_sort 41 = .ok (.getfield 37, 3) := by decide +kernel
theorem dX10_sort_44 : decode cX10_sort 44 = .ok (.iload_n 1, 1) := by decide +kernel
theorem dX10_sort_45 : decode cX10_sort 45 = .ok (.iaload, 1) := by decide +kernel
theorem dX10_sort_46 : decode cX10_sort 46 = .ok (.goto 9, 3) := by decide +kernel
theorem dX10_sort_49 : decode cX10_sort 49 = .ok (.aload_n 0, 1) := by decide +kernel
theorem dX10_sort_50 : decode cX10_sort 50 = .ok (.getfield 40, 3) := by decide +kernel
theorem dX10_sort_53 : decode cX10_sort 53 = .ok (.iload_n 1, 1) := by decide +kernel
theorem dX10_sort_54 : decode cX10_sort 54 = .ok (.iaload, 1) := by decide +kernel
theorem dX10_sort_55 : decode cX10_sort 55 = .ok (.istore 4, 2) := by decide +kernel
theorem dX10_sort_57 : decode cX10_sort 57 = .ok (.iload_n 2, 1) := by decide +kernel
theorem dX10_sort_58 : decode cX10_sort 58 = .ok (.ifCond .ne 13, 3) := by decide +kernel
theorem dX10_sort_61 : decode cX10_sort 61 = .ok (.aload_n 0, 1) := by decide +kernel
theorem dX10_sort_62 : decode cX10_sort 62 = .ok (.getfield 37, 3) := by decide +kernel
theorem dX10_sort_65 : decode cX10_sort 65 = .ok (.iload_n 1, 1) := by decide +kernel
theorem dX10_sort_66 : decode cX10_sort 66 = .ok (.iload_n 3, 1) := by decide +kernel
theorem dX10_sort_67 : decode cX10_sort 67 = .ok (.iastore, 1) := by decide +kernel
theorem dX10_sort_68 : decode cX10_sort 68 = .ok (.goto 10, 3) := by decide +kernel
theorem dX10_sort_71 : decode cX10_sort 71 = .ok (.aload_n 0, 1) := by decide +kernel
theorem dX10_sort_72 : decode cX10_sort 72 = .ok (.getfield 40, 3) := by decide +kernel
theorem dX10_sort_75 : decode cX10_sort 75 = .ok (.iload_n 1, 1) := by decide +kernel
theorem dX10_sort_76 : decode cX10_sort 76 = .ok (.iload_n 3, 1) := by decide +kernel
theorem dX10_sort_77 : decode cX10_sort 77 = .ok (.iastore, 1) := by decide +kernel
theorem dX10_sort_78 : decode cX10_sort 78 = .ok (.iload 4, 2) := by decide +kernel
theorem dX10_sort_80 : decode cX10_sort 80 = .ok (.ireturn, 1) := by decide +kernel
theorem dX10_areShares_0 : decode cX10_areShares 0 = .ok (.aload_n 0, 1) := by decide +kernel
theorem dX10_areShares_1 : decode cX10_areShares 1 = .ok (.getfield 37, 3) := by decide +kernel
theorem dX10_areShares_4 : decode cX10_areShares 4 = .ok (.iconst 0, 1) := by decide +kernel
theorem dX10_areShares_5 : decode cX10_areShares 5 = .ok (.iaload, 1) := by decide +kernel
theorem dX10_areShares_6 : decode cX10_areShares 6 = .ok (.aload_n 0, 1) := by decide +kernel
theorem dX10_areShares_7 : decode cX10_areShares 7 = .ok (.getfield 37, 3) := by decide +kernel
theorem dX10_areShares_10 : decode cX10_areShares 10 = .ok (.iconst 1, 1) := by decide +kernel
theorem dX10_areShares_11 : decode cX10_areShares 11 = .ok (.iaload, 1) := by decide +kernel
theorem dX10_areShares_12 : decode cX10_areShares 12 = .ok (.iadd, 1) := by decide +kernel
theorem dX10_areShares_13 : decode cX10_areShares 13 = .ok (.aload_n 0, 1) := by decide +kernel
theorem dX10_areShares_14 : decode cX10_areShares 14 = .ok (.getfield 37, 3) := by decide +kernel
theorem dX10_areShares_17 : decode cX10_areShares 17 = .ok (.iconst 2, 1) := by decide +kernel
theorem dX10_areShares_18 : decode cX10_areShares 18 = .ok (.iaload, 1) := by decide +kernel
theorem dX10_areShares_19 : decode cX10_areShares 19 = .ok (.iadd, 1) := by decide +kernel
theorem dX10_areShares_20 : decode cX10_areShares 20 = .ok (.aload_n 0, 1) := by decide +kernel
theorem dX10_areShares_21 : decode cX10_areShares 21 = .ok (.getfield 37, 3) := by decide +kernel
theorem dX10_areShares_24 : decode cX10_areShares 24 = .ok (.iconst 3, 1) := by decide +kernel
theorem dX10_areShares_25 : decode cX10_areShares 25 = .ok (.iaload, 1) := by decide +kernel
theorem dX10_areShares_26 : decode cX10_areShares 26 = .ok (.iadd, 1) := by decide +kernel
theorem dX10_areShares_27 : decode cX10_areShares 27 = .ok (.bipush 10, 2) := by decide +kernel
theorem dX10_areShares_29 : decode cX10_areShares 29 = .ok (.if_icmp .ne 7, 3) := by decide +kernel
theorem dX10_areShares_32 : decode cX10_areShares 32 = .ok (.iconst 1, 1) := by decide +kernel
theorem dX10_areShares_33 : decode cX10_areShares 33 = .ok (.goto 4, 3) := by decide +kernel
theorem dX10_areShares_36 : decode cX10_areShares 36 = .ok (.iconst 0, 1) := by decide +kernel
theorem dX10_areShares_37 : decode cX10_areShares 37 = .ok (.ireturn, 1) := by decide +kernel
theorem dX10_asked_0 : decode cX10_asked 0 = .ok (.aload_n 0, 1) := by decide +kernel
theorem dX10_asked_1 : decode cX10_asked 1 = .ok (.getfield 40, 3) := by decide +kernel
theorem dX10_asked_4 : decode cX10_asked 4 = .ok (.iload_n 3, 1) := by decide +kernel
theorem dX10_asked_5 : decode cX10_asked 5 = .ok (.iaload, 1) := by decide +kernel
theorem dX10_asked_6 : decode cX10_asked 6 = .ok (.i2l, 1) := by decide +kernel
theorem dX10_asked_7 : decode cX10_asked 7 = .ok (.aload_n 0, 1) := by decide +kernel
theorem dX10_asked_8 : decode cX10_asked 8 = .ok (.getfield 67, 3) := by decide +kernel
theorem dX10_asked_11 : decode cX10_asked 11 = .ok (.iload_n 1, 1) := by decide +kernel
theorem dX10_asked_12 : decode cX10_asked 12 = .ok (.laload, 1) := by decide +kernel
theorem dX10_asked_13 : decode cX10_asked 13 = .ok (.aload_n 0, 1) := by decide +kernel
theorem dX10_asked_14 : decode cX10_asked 14 = .ok (.getfield 71, 3) := by decide +kernel
theorem dX10_asked_17 : decode cX10_asked 17 = .ok (.bipush 9, 2) := by decide +kernel
theorem dX10_asked_19 : decode cX10_asked 19 = .ok (.iload_n 1, 1) := by decide +kernel
theorem dX10_asked_20 : decode cX10_asked 20 = .ok (.imul, 1) := by decide +kernel
theorem dX10_asked_21 : decode cX10_asked 21 = .ok (.iload_n 2, 1) := by decide +kernel
theorem dX10_asked_22 : decode cX10_asked 22 = .ok (.iadd, 1) := by decide +kernel
theorem dX10_asked_23 : decode cX10_asked 23 = .ok (.laload, 1) := by decide +kernel
theorem dX10_asked_24 : decode cX10_asked 24 = .ok (.ladd, 1) := by decide +kernel
theorem dX10_asked_25 : decode cX10_asked 25 = .ok (.lmul, 1) := by decide +kernel
theorem dX10_asked_26 : decode cX10_asked 26 = .ok (.ldc2_w 168, 3) := by decide +kernel
theorem dX10_asked_29 : decode cX10_asked 29 = .ok (.aload_n 0, 1) := by decide +kernel
theorem dX10_asked_30 : decode cX10_asked 30 = .ok (.getfield 40, 3) := by decide +kernel
theorem dX10_asked_33 : decode cX10_asked 33 = .ok (.iload_n 3, 1) := by decide +kernel
theorem dX10_asked_34 : decode cX10_asked 34 = .ok (.iaload, 1) := by decide +kernel
theorem dX10_asked_35 : decode cX10_asked 35 = .ok (.i2l, 1) := by decide +kernel
theorem dX10_asked_36 : decode cX10_asked 36 = .ok (.lsub, 1) := by decide +kernel
theorem dX10_asked_37 : decode cX10_asked 37 = .ok (.aload_n 0, 1) := by decide +kernel
theorem dX10_asked_38 : decode cX10_asked 38 = .ok (.getfield 71, 3) := by decide +kernel
theorem dX10_asked_41 : decode cX10_asked 41 = .ok (.bipush 9, 2) := by decide +kernel
theorem dX10_asked_43 : decode cX10_asked 43 = .ok (.iload_n 1, 1) := by decide +kernel
theorem dX10_asked_44 : decode cX10_asked 44 = .ok (.imul, 1) := by decide +kernel
theorem dX10_asked_45 : decode cX10_asked 45 = .ok (.iload_n 2, 1) := by decide +kernel
theorem dX10_asked_46 : decode cX10_asked 46 = .ok (.iadd, 1) := by decide +kernel
theorem dX10_asked_47 : decode cX10_asked 47 = .ok (.iconst 1, 1) := by decide +kernel
theorem dX10_asked_48 : decode cX10_asked 48 = .ok (.isub, 1) := by decide +kernel
theorem dX10_asked_49 : decode cX10_asked 49 = .ok (.laload, 1) := by decide +kernel
theorem dX10_asked_50 : decode cX10_asked 50 = .ok (.lmul, 1) := by decide +kernel
theorem dX10_asked_51 : decode cX10_asked 51 = .ok (.ladd, 1) := by decide +kernel
theorem dX10_asked_52 : decode cX10_asked 52 = .ok (.lreturn, 1) := by decide +kernel
set_option maxRecDepth 20000 in
theorem ggX10_layWorths_X10_asked : GoodIn wsX10_layWorths wsX10_asked := goodIn_r _ [10, 11, 1, 2, 4, 12, 13, 14, 15, 16, 17, 18, 19, 20, 21, 22, 23, 24, 25, 26, 27, 28, 29, 30, 31, 32, 33, 34, 35, 36, 37, 38, 39] (by decide +kernel) (by decide +kernel)
set_option maxRecDepth 20000 in
theorem gX10_layWorths_X10_asked : GoodIn wsX10_layWorths (wsV RX10 225 RX10 yX10_asked wsX10_asked) := goodIn_app (goodIn_of _ (by decide +kernel)) ggX10_layWorths_X10_asked
theorem dX10_layWorths_0 : decode cX10_layWorths 0 = .ok (.aload_n 0, 1) := by decide +kernel
theorem dX10_layWorths_1 : decode cX10_layWorths 1 = .ok (.getfield 67, 3) := by decide +kernel
theorem dX10_layWorths_4 : decode cX10_layWorths 4 = .ok (.iconst 0, 1) := by decide +kernel
theorem dX10_layWorths_5 : decode cX10_layWorths 5 = .ok (.lconst 1, 1) := by decide +kernel
theorem dX10_layWorths_6 : decode cX10_layWorths 6 = .ok (.lastore, 1) := by decide +kernel
theorem dX10_layWorths_7 : decode cX10_layWorths 7 = .ok (.iconst 0, 1) := by decide +kernel
theorem dX10_layWorths_8 : decode cX10_layWorths 8 = .ok (.istore_n 1, 1) := by decide +kernel
theorem dX10_layWorths_9 : decode cX10_layWorths 9 = .ok (.iload_n 1, 1) := by decide +kernel
theorem dX10_layWorths_10 : decode cX10_layWorths 10 = .ok (.bipush 9, 2) := by decide +kernel
theorem dX10_layWorths_12 : decode cX10_layWorths 12 = .ok (.if_icmp .ge 16, 3) := by decide +kernel
theorem dX10_layWorths_15 : decode cX10_layWorths 15 = .ok (.aload_n 0, 1) := by decide +kernel
theorem dX10_layWorths_16 : decode cX10_layWorths 16 = .ok (.getfield 71, 3) := by decide +kernel
theorem dX10_layWorths_19 : decode cX10_layWorths 19 = .ok (.iload_n 1, 1) := by decide +kernel
theorem dX10_layWorths_20 : decode cX10_layWorths 20 = .ok (.lconst 0, 1) := by decide +kernel
theorem dX10_layWorths_21 : decode cX10_layWorths 21 = .ok (.lastore, 1) := by decide +kernel
theorem dX10_layWorths_22 : decode cX10_layWorths 22 = .ok (.iinc 1 1, 3) := by decide +kernel
theorem dX10_layWorths_25 : decode cX10_layWorths 25 = .ok (.goto (-16), 3) := by decide +kernel
theorem dX10_layWorths_28 : decode cX10_layWorths 28 = .ok (.iconst 1, 1) := by decide +kernel
theorem dX10_layWorths_29 : decode cX10_layWorths 29 = .ok (.istore_n 1, 1) := by decide +kernel
theorem dX10_layWorths_30 : decode cX10_layWorths 30 = .ok (.iload_n 1, 1) := by decide +kernel
theorem dX10_layWorths_31 : decode cX10_layWorths 31 = .ok (.bipush 8, 2) := by decide +kernel
theorem dX10_layWorths_33 : decode cX10_layWorths 33 = .ok (.if_icmp .gt 136, 3) := by decide +kernel
theorem dX10_layWorths_36 : decode cX10_layWorths 36 = .ok (.aload_n 0, 1) := by decide +kernel
theorem dX10_layWorths_37 : decode cX10_layWorths 37 = .ok (.getfield 67, 3) := by decide +kernel
theorem dX10_layWorths_40 : decode cX10_layWorths 40 = .ok (.iload_n 1, 1) := by decide +kernel
theorem dX10_layWorths_41 : decode cX10_layWorths 41 = .ok (.ldc2_w 105, 3) := by decide +kernel
theorem dX10_layWorths_44 : decode cX10_layWorths 44 = .ok (.aload_n 0, 1) := by decide +kernel
theorem dX10_layWorths_45 : decode cX10_layWorths 45 = .ok (.getfield 67, 3) := by decide +kernel
theorem dX10_layWorths_48 : decode cX10_layWorths 48 = .ok (.iload_n 1, 1) := by decide +kernel
theorem dX10_layWorths_49 : decode cX10_layWorths 49 = .ok (.iconst 1, 1) := by decide +kernel
theorem dX10_layWorths_50 : decode cX10_layWorths 50 = .ok (.isub, 1) := by decide +kernel
theorem dX10_layWorths_51 : decode cX10_layWorths 51 = .ok (.laload, 1) := by decide +kernel
theorem dX10_layWorths_52 : decode cX10_layWorths 52 = .ok (.lmul, 1) := by decide +kernel
theorem dX10_layWorths_53 : decode cX10_layWorths 53 = .ok (.lastore, 1) := by decide +kernel
theorem dX10_layWorths_54 : decode cX10_layWorths 54 = .ok (.iconst 0, 1) := by decide +kernel
theorem dX10_layWorths_55 : decode cX10_layWorths 55 = .ok (.istore_n 2, 1) := by decide +kernel
theorem dX10_layWorths_56 : decode cX10_layWorths 56 = .ok (.iload_n 2, 1) := by decide +kernel
theorem dX10_layWorths_57 : decode cX10_layWorths 57 = .ok (.bipush 9, 2) := by decide +kernel
theorem dX10_layWorths_59 : decode cX10_layWorths 59 = .ok (.if_icmp .ge 104, 3) := by decide +kernel
theorem dX10_layWorths_62 : decode cX10_layWorths 62 = .ok (.lconst 0, 1) := by decide +kernel
theorem dX10_layWorths_63 : decode cX10_layWorths 63 = .ok (.lstore_n 3, 1) := by decide +kernel
theorem dX10_layWorths_64 : decode cX10_layWorths 64 = .ok (.iconst 0, 1) := by decide +kernel
theorem dX10_layWorths_65 : decode cX10_layWorths 65 = .ok (.istore 5, 2) := by decide +kernel
theorem dX10_layWorths_67 : decode cX10_layWorths 67 = .ok (.iload 5, 2) := by decide +kernel
theorem dX10_layWorths_69 : decode cX10_layWorths 69 = .ok (.iconst 4, 1) := by decide +kernel
theorem dX10_layWorths_70 : decode cX10_layWorths 70 = .ok (.if_icmp .ge 75, 3) := by decide +kernel
theorem dX10_layWorths_73 : decode cX10_layWorths 73 = .ok (.ldc2_w 168, 3) := by decide +kernel
theorem dX10_layWorths_76 : decode cX10_layWorths 76 = .ok (.aload_n 0, 1) := by decide +kernel
theorem dX10_layWorths_77 : decode cX10_layWorths 77 = .ok (.getfield 71, 3) := by decide +kernel
theorem dX10_layWorths_80 : decode cX10_layWorths 80 = .ok (.bipush 9, 2) := by decide +kernel
theorem dX10_layWorths_82 : decode cX10_layWorths 82 = .ok (.iload_n 1, 1) := by decide +kernel
theorem dX10_layWorths_83 : decode cX10_layWorths 83 = .ok (.iconst 1, 1) := by decide +kernel
theorem dX10_layWorths_84 : decode cX10_layWorths 84 = .ok (.isub, 1) := by decide +kernel
theorem dX10_layWorths_85 : decode cX10_layWorths 85 = .ok (.imul, 1) := by decide +kernel
theorem dX10_layWorths_86 : decode cX10_layWorths 86 = .ok (.iload_n 2, 1) := by decide +kernel
theorem dX10_layWorths_87 : decode cX10_layWorths 87 = .ok (.iadd, 1) := by decide +kernel
theorem dX10_layWorths_88 : decode cX10_layWorths 88 = .ok (.laload, 1) := by decide +kernel
theorem dX10_layWorths_89 : decode cX10_layWorths 89 = .ok (.lmul, 1) := by decide +kernel
theorem dX10_layWorths_90 : decode cX10_layWorths 90 = .ok (.lstore 6, 2) := by decide +kernel
theorem dX10_layWorths_92 : decode cX10_layWorths 92 = .ok (.iload_n 2, 1) := by decide +kernel
theorem dX10_layWorths_93 : decode cX10_layWorths 93 = .ok (.ifCond .ne 7, 3) := by decide +kernel
theorem dX10_layWorths_96 : decode cX10_layWorths 96 = .ok (.lconst 0, 1) := by decide +kernel
theorem dX10_layWorths_97 : decode cX10_layWorths 97 = .ok (.goto 13, 3) := by decide +kernel
theorem dX10_layWorths_100 : decode cX10_layWorths 100 = .ok (.aload_n 0, 1) := by decide +kernel
theorem dX10_layWorths_101 : decode cX10_layWorths 101 = .ok (.iload_n 1, 1) := by decide +kernel
theorem dX10_layWorths_102 : decode cX10_layWorths 102 = .ok (.iconst 1, 1) := by decide +kernel
theorem dX10_layWorths_103 : decode cX10_layWorths 103 = .ok (.isub, 1) := by decide +kernel
theorem dX10_layWorths_104 : decode cX10_layWorths 104 = .ok (.iload_n 2, 1) := by decide +kernel
theorem dX10_layWorths_105 : decode cX10_layWorths 105 = .ok (.iload 5, 2) := by decide +kernel
theorem dX10_layWorths_107 : decode cX10_layWorths 107 = .ok (.invokevirtual 225, 3) := by decide +kernel
theorem dX10_layWorths_110 : decode cX10_layWorths 110 = .ok (.lstore 8, 2) := by decide +kernel
theorem dX10_layWorths_112 : decode cX10_layWorths 112 = .ok (.lload_n 3, 1) := by decide +kernel
theorem dX10_layWorths_113 : decode cX10_layWorths 113 = .ok (.aload_n 0, 1) := by decide +kernel
theorem dX10_layWorths_114 : decode cX10_layWorths 114 = .ok (.getfield 37, 3) := by decide +kernel
theorem dX10_layWorths_117 : decode cX10_layWorths 117 = .ok (.iload 5, 2) := by decide +kernel
theorem dX10_layWorths_119 : decode cX10_layWorths 119 = .ok (.iaload, 1) := by decide +kernel
theorem dX10_layWorths_120 : decode cX10_layWorths 120 = .ok (.i2l, 1) := by decide +kernel
theorem dX10_layWorths_121 : decode cX10_layWorths 121 = .ok (.lload 8, 2) := by decide +kernel
theorem dX10_layWorths_123 : decode cX10_layWorths 123 = .ok (.lload 6, 2) := by decide +kernel
theorem dX10_layWorths_125 : decode cX10_layWorths 125 = .ok (.lcmp, 1) := by decide +kernel
theorem dX10_layWorths_126 : decode cX10_layWorths 126 = .ok (.ifCond .le 8, 3) := by decide +kernel
theorem dX10_layWorths_129 : decode cX10_layWorths 129 = .ok (.lload 8, 2) := by decide +kernel
theorem dX10_layWorths_131 : decode cX10_layWorths 131 = .ok (.goto 5, 3) := by decide +kernel
theorem dX10_layWorths_134 : decode cX10_layWorths 134 = .ok (.lload 6, 2) := by decide +kernel
theorem dX10_layWorths_136 : decode cX10_layWorths 136 = .ok (.lmul, 1) := by decide +kernel
theorem dX10_layWorths_137 : decode cX10_layWorths 137 = .ok (.ladd, 1) := by decide +kernel
theorem dX10_layWorths_138 : decode cX10_layWorths 138 = .ok (.lstore_n 3, 1) := by decide +kernel
theorem dX10_layWorths_139 : decode cX10_layWorths 139 = .ok (.iinc 5 1, 3) := by decide +kernel
theorem dX10_layWorths_142 : decode cX10_layWorths 142 = .ok (.goto (-75), 3) := by decide +kernel
theorem dX10_layWorths_145 : decode cX10_layWorths 145 = .ok (.aload_n 0, 1) := by decide +kernel
theorem dX10_layWorths_146 : decode cX10_layWorths 146 = .ok (.getfield 71, 3) := by decide +kernel
theorem dX10_layWorths_149 : decode cX10_layWorths 149 = .ok (.bipush 9, 2) := by decide +kernel
theorem dX10_layWorths_151 : decode cX10_layWorths 151 = .ok (.iload_n 1, 1) := by decide +kernel
theorem dX10_layWorths_152 : decode cX10_layWorths 152 = .ok (.imul, 1) := by decide +kernel
theorem dX10_layWorths_153 : decode cX10_layWorths 153 = .ok (.iload_n 2, 1) := by decide +kernel
theorem dX10_layWorths_154 : decode cX10_layWorths 154 = .ok (.iadd, 1) := by decide +kernel
theorem dX10_layWorths_155 : decode cX10_layWorths 155 = .ok (.lload_n 3, 1) := by decide +kernel
theorem dX10_layWorths_156 : decode cX10_layWorths 156 = .ok (.lastore, 1) := by decide +kernel
theorem dX10_layWorths_157 : decode cX10_layWorths 157 = .ok (.iinc 2 1, 3) := by decide +kernel
theorem dX10_layWorths_160 : decode cX10_layWorths 160 = .ok (.goto (-104), 3) := by decide +kernel
theorem dX10_layWorths_163 : decode cX10_layWorths 163 = .ok (.iinc 1 1, 3) := by decide +kernel
theorem dX10_layWorths_166 : decode cX10_layWorths 166 = .ok (.goto (-136), 3) := by decide +kernel
theorem dX10_layWorths_169 : decode cX10_layWorths 169 = .ok (.return_, 1) := by decide +kernel
theorem dX10_common_0 : decode cX10_common 0 = .ok (.lload_n 0, 1) := by decide +kernel
theorem dX10_common_1 : decode cX10_common 1 = .ok (.lstore 4, 2) := by decide +kernel
theorem dX10_common_3 : decode cX10_common 3 = .ok (.lload_n 2, 1) := by decide +kernel
theorem dX10_common_4 : decode cX10_common 4 = .ok (.lstore 6, 2) := by decide +kernel
theorem dX10_common_6 : decode cX10_common 6 = .ok (.lload 6, 2) := by decide +kernel
theorem dX10_common_8 : decode cX10_common 8 = .ok (.lconst 0, 1) := by decide +kernel
theorem dX10_common_9 : decode cX10_common 9 = .ok (.lcmp, 1) := by decide +kernel
theorem dX10_common_10 : decode cX10_common 10 = .ok (.ifCond .eq 21, 3) := by decide +kernel
theorem dX10_common_13 : decode cX10_common 13 = .ok (.lload 4, 2) := by decide +kernel
theorem dX10_common_15 : decode cX10_common 15 = .ok (.lload 6, 2) := by decide +kernel
theorem dX10_common_17 : decode cX10_common 17 = .ok (.lrem, 1) := by decide +kernel
theorem dX10_common_18 : decode cX10_common 18 = .ok (.lstore 8, 2) := by decide +kernel
theorem dX10_common_20 : decode cX10_common 20 = .ok (.lload 6, 2) := by decide +kernel
theorem dX10_common_22 : decode cX10_common 22 = .ok (.lstore 4, 2) := by decide +kernel
theorem dX10_common_24 : decode cX10_common 24 = .ok (.lload 8, 2) := by decide +kernel
theorem dX10_common_26 : decode cX10_common 26 = .ok (.lstore 6, 2) := by decide +kernel
theorem dX10_common_28 : decode cX10_common 28 = .ok (.goto (-22), 3) := by decide +kernel
theorem dX10_common_31 : decode cX10_common 31 = .ok (.lload 4, 2) := by decide +kernel
theorem dX10_common_33 : decode cX10_common 33 = .ok (.lreturn, 1) := by decide +kernel
set_option maxRecDepth 20000 in
theorem ggX10_worth_X10_in : GoodIn wsX10_worth wsX10_in := goodIn_r _ [9] (by decide +kernel) (by decide +kernel)
set_option maxRecDepth 20000 in
theorem gX10_worth_X10_in : GoodIn wsX10_worth (va_wsS RX10 76 yX10_in wsX10_in) := goodIn_app (goodIn_of _ (by decide +kernel)) ggX10_worth_X10_in
set_option maxRecDepth 20000 in
theorem ggX10_worth_X10_areShares : GoodIn wsX10_worth wsX10_areShares := goodIn_r _ [13, 14, 29, 30, 31, 32, 33, 34, 35, 36, 37, 38, 39, 40, 41, 42, 43, 44, 45, 46, 47, 48, 49, 50, 51, 52, 53, 54, 55, 56] (by decide +kernel) (by decide +kernel)
set_option maxRecDepth 20000 in
theorem gX10_worth_X10_areShares : GoodIn wsX10_worth (wsV RX10 229 RX10 yX10_areShares wsX10_areShares) := goodIn_app (goodIn_of _ (by decide +kernel)) ggX10_worth_X10_areShares
set_option maxRecDepth 20000 in
theorem ggX10_worth_X10_layWorths : GoodIn wsX10_worth wsX10_layWorths := goodIn_r _ [18, 4, 5, 19, 20, 14, 21, 22, 23, 8, 24, 25, 29, 30, 31, 32, 33, 34, 35, 36, 37, 38, 39, 40, 41, 42, 43, 44, 45, 46, 47, 48, 49, 50, 51, 52, 53, 54, 55, 56] (by decide +kernel) (by decide +kernel)
set_option maxRecDepth 20000 in
theorem gX10_worth_X10_layWorths : GoodIn wsX10_worth (wsV RX10 234 RX10 yX10_layWorths wsX10_layWorths) := goodIn_app (goodIn_of _ (by decide +kernel)) ggX10_worth_X10_layWorths
set_option maxRecDepth 20000 in
theorem ggX10_worth_X10_common : GoodIn wsX10_worth wsX10_common := goodIn_r _ [28] (by decide +kernel) (by decide +kernel)
set_option maxRecDepth 20000 in
theorem gX10_worth_X10_common : GoodIn wsX10_worth (va_wsS RX10 237 yX10_common wsX10_common) := goodIn_app (goodIn_of _ (by decide +kernel)) ggX10_worth_X10_common
theorem dX10_worth_0 : decode cX10_worth 0 = .ok (.iload_n 1, 1) := by decide +kernel
theorem dX10_worth_1 : decode cX10_worth 1 = .ok (.i2l, 1) := by decide +kernel
theorem dX10_worth_2 : decode cX10_worth 2 = .ok (.lconst 0, 1) := by decide +kernel
theorem dX10_worth_3 : decode cX10_worth 3 = .ok (.ldc2_w 74, 3) := by decide +kernel
theorem dX10_worth_6 : decode cX10_worth 6 = .ok (.invokestatic 76, 3) := by decide +kernel
theorem dX10_worth_9 : decode cX10_worth 9 = .ok (.ifCond .eq 25, 3) := by decide +kernel
theorem dX10_worth_12 : decode cX10_worth 12 = .ok (.iload_n 2, 1) := by decide +kernel
theorem dX10_worth_13 : decode cX10_worth 13 = .ok (.i2l, 1) := by decide +kernel
theorem dX10_worth_14 : decode cX10_worth 14 = .ok (.lconst 0, 1) := by decide +kernel
theorem dX10_worth_15 : decode cX10_worth 15 = .ok (.ldc2_w 74, 3) := by decide +kernel
theorem dX10_worth_18 : decode cX10_worth 18 = .ok (.invokestatic 76, 3) := by decide +kernel
theorem dX10_worth_21 : decode cX10_worth 21 = .ok (.ifCond .eq 13, 3) := by decide +kernel
theorem dX10_worth_24 : decode cX10_worth 24 = .ok (.iload_n 3, 1) := by decide +kernel
theorem dX10_worth_25 : decode cX10_worth 25 = .ok (.i2l, 1) := by decide +kernel
theorem dX10_worth_26 : decode cX10_worth 26 = .ok (.lconst 0, 1) := by decide +kernel
theorem dX10_worth_27 : decode cX10_worth 27 = .ok (.lconst 1, 1) := by decide +kernel
theorem dX10_worth_28 : decode cX10_worth 28 = .ok (.invokestatic 76, 3) := by decide +kernel
theorem dX10_worth_31 : decode cX10_worth 31 = .ok (.ifCond .ne 7, 3) := by decide +kernel
theorem dX10_worth_34 : decode cX10_worth 34 = .ok (.ldc2_w 199, 3) := by decide +kernel
theorem dX10_worth_37 : decode cX10_worth 37 = .ok (.lreturn, 1) := by decide +kernel
theorem dX10_worth_38 : decode cX10_worth 38 = .ok (.aload_n 0, 1) := by decide +kernel
theorem dX10_worth_39 : decode cX10_worth 39 = .ok (.invokevirtual 229, 3) := by decide +kernel
theorem dX10_worth_42 : decode cX10_worth 42 = .ok (.ifCond .ne 7, 3) := by decide +kernel
theorem dX10_worth_45 : decode cX10_worth 45 = .ok (.ldc2_w 232, 3) := by decide +kernel
theorem dX10_worth_48 : decode cX10_worth 48 = .ok (.lreturn, 1) := by decide +kernel
theorem dX10_worth_49 : decode cX10_worth 49 = .ok (.aload_n 0, 1) := by decide +kernel
theorem dX10_worth_50 : decode cX10_worth 50 = .ok (.invokevirtual 234, 3) := by decide +kernel
theorem dX10_worth_53 : decode cX10_worth 53 = .ok (.aload_n 0, 1) := by decide +kernel
theorem dX10_worth_54 : decode cX10_worth 54 = .ok (.getfield 67, 3) := by decide +kernel
theorem dX10_worth_57 : decode cX10_worth 57 = .ok (.iload_n 1, 1) := by decide +kernel
theorem dX10_worth_58 : decode cX10_worth 58 = .ok (.laload, 1) := by decide +kernel
theorem dX10_worth_59 : decode cX10_worth 59 = .ok (.aload_n 0, 1) := by decide +kernel
theorem dX10_worth_60 : decode cX10_worth 60 = .ok (.getfield 71, 3) := by decide +kernel
theorem dX10_worth_63 : decode cX10_worth 63 = .ok (.bipush 9, 2) := by decide +kernel
theorem dX10_worth_65 : decode cX10_worth 65 = .ok (.iload_n 1, 1) := by decide +kernel
theorem dX10_worth_66 : decode cX10_worth 66 = .ok (.imul, 1) := by decide +kernel
theorem dX10_worth_67 : decode cX10_worth 67 = .ok (.iload_n 2, 1) := by decide +kernel
theorem dX10_worth_68 : decode cX10_worth 68 = .ok (.iadd, 1) := by decide +kernel
theorem dX10_worth_69 : decode cX10_worth 69 = .ok (.laload, 1) := by decide +kernel
theorem dX10_worth_70 : decode cX10_worth 70 = .ok (.invokestatic 237, 3) := by decide +kernel
theorem dX10_worth_73 : decode cX10_worth 73 = .ok (.lstore 4, 2) := by decide +kernel
theorem dX10_worth_75 : decode cX10_worth 75 = .ok (.iload_n 3, 1) := by decide +kernel
theorem dX10_worth_76 : decode cX10_worth 76 = .ok (.ifCond .ne 20, 3) := by decide +kernel
theorem dX10_worth_79 : decode cX10_worth 79 = .ok (.aload_n 0, 1) := by decide +kernel
theorem dX10_worth_80 : decode cX10_worth 80 = .ok (.getfield 71, 3) := by decide +kernel
theorem dX10_worth_83 : decode cX10_worth 83 = .ok (.bipush 9, 2) := by decide +kernel
theorem dX10_worth_85 : decode cX10_worth 85 = .ok (.iload_n 1, 1) := by decide +kernel
theorem dX10_worth_86 : decode cX10_worth 86 = .ok (.imul, 1) := by decide +kernel
theorem dX10_worth_87 : decode cX10_worth 87 = .ok (.iload_n 2, 1) := by decide +kernel
theorem dX10_worth_88 : decode cX10_worth 88 = .ok (.iadd, 1) := by decide +kernel
theorem dX10_worth_89 : decode cX10_worth 89 = .ok (.laload, 1) := by decide +kernel
theorem dX10_worth_90 : decode cX10_worth 90 = .ok (.lload 4, 2) := by decide +kernel
theorem dX10_worth_92 : decode cX10_worth 92 = .ok (.ldiv, 1) := by decide +kernel
theorem dX10_worth_93 : decode cX10_worth 93 = .ok (.goto 12, 3) := by decide +kernel
theorem dX10_worth_96 : decode cX10_worth 96 = .ok (.aload_n 0, 1) := by decide +kernel
theorem dX10_worth_97 : decode cX10_worth 97 = .ok (.getfield 67, 3) := by decide +kernel
theorem dX10_worth_100 : decode cX10_worth 100 = .ok (.iload_n 1, 1) := by decide +kernel
theorem dX10_worth_101 : decode cX10_worth 101 = .ok (.laload, 1) := by decide +kernel
theorem dX10_worth_102 : decode cX10_worth 102 = .ok (.lload 4, 2) := by decide +kernel
theorem dX10_worth_104 : decode cX10_worth 104 = .ok (.ldiv, 1) := by decide +kernel
theorem dX10_worth_105 : decode cX10_worth 105 = .ok (.lreturn, 1) := by decide +kernel
set_option maxRecDepth 20000 in
theorem ggX10_when_X10_in : GoodIn wsX10_when wsX10_in := goodIn_r _ [9] (by decide +kernel) (by decide +kernel)
set_option maxRecDepth 20000 in
theorem gX10_when_X10_in : GoodIn wsX10_when (va_wsS RX10 76 yX10_in wsX10_in) := goodIn_app (goodIn_of _ (by decide +kernel)) ggX10_when_X10_in
set_option maxRecDepth 20000 in
theorem ggX10_when_X10_areShares : GoodIn wsX10_when wsX10_areShares := goodIn_r _ [13, 14, 26, 27, 28, 29, 30, 31, 32, 33, 34, 35, 36, 37, 38, 39, 40, 41, 42, 43, 44, 45, 46, 47, 48, 49, 50, 51, 52, 53] (by decide +kernel) (by decide +kernel)
set_option maxRecDepth 20000 in
theorem gX10_when_X10_areShares : GoodIn wsX10_when (wsV RX10 229 RX10 yX10_areShares wsX10_areShares) := goodIn_app (goodIn_of _ (by decide +kernel)) ggX10_when_X10_areShares
set_option maxRecDepth 20000 in
theorem ggX10_when_X10_layWorths : GoodIn wsX10_when wsX10_layWorths := goodIn_r _ [18, 19, 5, 20, 4, 14, 21, 22, 23, 8, 24, 25, 26, 27, 28, 29, 30, 31, 32, 33, 34, 35, 36, 37, 38, 39, 40, 41, 42, 43, 44, 45, 46, 47, 48, 49, 50, 51, 52, 53] (by decide +kernel) (by decide +kernel)
set_option maxRecDepth 20000 in
theorem gX10_when_X10_layWorths : GoodIn wsX10_when (wsV RX10 234 RX10 yX10_layWorths wsX10_layWorths) := goodIn_app (goodIn_of _ (by decide +kernel)) ggX10_when_X10_layWorths
set_option maxRecDepth 20000 in
theorem ggX10_when_X10_asked : GoodIn wsX10_when wsX10_asked := goodIn_r _ [24, 25, 19, 5, 4, 26, 27, 28, 29, 30, 31, 32, 33, 34, 35, 36, 37, 38, 39, 40, 41, 42, 43, 44, 45, 46, 47, 48, 49, 50, 51, 52, 53] (by decide +kernel) (by decide +kernel)
set_option maxRecDepth 20000 in
theorem gX10_when_X10_asked : GoodIn wsX10_when (wsV RX10 225 RX10 yX10_asked wsX10_asked) := goodIn_app (goodIn_of _ (by decide +kernel)) ggX10_when_X10_asked
theorem dX10_when_0 : decode cX10_when 0 = .ok (.iload_n 1, 1) := by decide +kernel
theorem dX10_when_1 : decode cX10_when 1 = .ok (.i2l, 1) := by decide +kernel
theorem dX10_when_2 : decode cX10_when 2 = .ok (.lconst 0, 1) := by decide +kernel
theorem dX10_when_3 : decode cX10_when 3 = .ok (.ldc2_w 241, 3) := by decide +kernel
theorem dX10_when_6 : decode cX10_when 6 = .ok (.invokestatic 76, 3) := by decide +kernel
theorem dX10_when_9 : decode cX10_when 9 = .ok (.ifCond .eq 27, 3) := by decide +kernel
theorem dX10_when_12 : decode cX10_when 12 = .ok (.iload_n 2, 1) := by decide +kernel
theorem dX10_when_13 : decode cX10_when 13 = .ok (.i2l, 1) := by decide +kernel
theorem dX10_when_14 : decode cX10_when 14 = .ok (.lconst 0, 1) := by decide +kernel
theorem dX10_when_15 : decode cX10_when 15 = .ok (.ldc2_w 74, 3) := by decide +kernel
theorem dX10_when_18 : decode cX10_when 18 = .ok (.invokestatic 76, 3) := by decide +kernel
theorem dX10_when_21 : decode cX10_when 21 = .ok (.ifCond .eq 15, 3) := by decide +kernel
theorem dX10_when_24 : decode cX10_when 24 = .ok (.iload_n 3, 1) := by decide +kernel
theorem dX10_when_25 : decode cX10_when 25 = .ok (.i2l, 1) := by decide +kernel
theorem dX10_when_26 : decode cX10_when 26 = .ok (.lconst 0, 1) := by decide +kernel
theorem dX10_when_27 : decode cX10_when 27 = .ok (.ldc2_w 162, 3) := by decide +kernel
theorem dX10_when_30 : decode cX10_when 30 = .ok (.invokestatic 76, 3) := by decide +kernel
theorem dX10_when_33 : decode cX10_when 33 = .ok (.ifCond .ne 5, 3) := by decide +kernel
theorem dX10_when_36 : decode cX10_when 36 = .ok (.iconst (-1), 1) := by decide +kernel
theorem dX10_when_37 : decode cX10_when 37 = .ok (.ireturn, 1) := by decide +kernel
theorem dX10_when_38 : decode cX10_when 38 = .ok (.aload_n 0, 1) := by decide +kernel
theorem dX10_when_39 : decode cX10_when 39 = .ok (.invokevirtual 229, 3) := by decide +kernel
theorem dX10_when_42 : decode cX10_when 42 = .ok (.ifCond .ne 6, 3) := by decide +kernel
theorem dX10_when_45 : decode cX10_when 45 = .ok (.bipush (-2), 2) := by decide +kernel
theorem dX10_when_47 : decode cX10_when 47 = .ok (.ireturn, 1) := by decide +kernel
theorem dX10_when_48 : decode cX10_when 48 = .ok (.aload_n 0, 1) := by decide +kernel
theorem dX10_when_49 : decode cX10_when 49 = .ok (.invokevirtual 234, 3) := by decide +kernel
theorem dX10_when_52 : decode cX10_when 52 = .ok (.iload_n 2, 1) := by decide +kernel
theorem dX10_when_53 : decode cX10_when 53 = .ok (.ifCond .le 33, 3) := by decide +kernel
theorem dX10_when_56 : decode cX10_when 56 = .ok (.aload_n 0, 1) := by decide +kernel
theorem dX10_when_57 : decode cX10_when 57 = .ok (.iload_n 1, 1) := by decide +kernel
theorem dX10_when_58 : decode cX10_when 58 = .ok (.iload_n 2, 1) := by decide +kernel
theorem dX10_when_59 : decode cX10_when 59 = .ok (.iload_n 3, 1) := by decide +kernel
theorem dX10_when_60 : decode cX10_when 60 = .ok (.invokevirtual 225, 3) := by decide +kernel
theorem dX10_when_63 : decode cX10_when 63 = .ok (.ldc2_w 168, 3) := by decide +kernel
theorem dX10_when_66 : decode cX10_when 66 = .ok (.aload_n 0, 1) := by decide +kernel
theorem dX10_when_67 : decode cX10_when 67 = .ok (.getfield 71, 3) := by decide +kernel
theorem dX10_when_70 : decode cX10_when 70 = .ok (.bipush 9, 2) := by decide +kernel
theorem dX10_when_72 : decode cX10_when 72 = .ok (.iload_n 1, 1) := by decide +kernel
theorem dX10_when_73 : decode cX10_when 73 = .ok (.imul, 1) := by decide +kernel
theorem dX10_when_74 : decode cX10_when 74 = .ok (.iload_n 2, 1) := by decide +kernel
theorem dX10_when_75 : decode cX10_when 75 = .ok (.iadd, 1) := by decide +kernel
theorem dX10_when_76 : decode cX10_when 76 = .ok (.laload, 1) := by decide +kernel
theorem dX10_when_77 : decode cX10_when 77 = .ok (.lmul, 1) := by decide +kernel
theorem dX10_when_78 : decode cX10_when 78 = .ok (.lcmp, 1) := by decide +kernel
theorem dX10_when_79 : decode cX10_when 79 = .ok (.ifCond .le 7, 3) := by decide +kernel
theorem dX10_when_82 : decode cX10_when 82 = .ok (.iconst 1, 1) := by decide +kernel
theorem dX10_when_83 : decode cX10_when 83 = .ok (.goto 4, 3) := by decide +kernel
theorem dX10_when_86 : decode cX10_when 86 = .ok (.iconst 0, 1) := by decide +kernel
theorem dX10_when_87 : decode cX10_when 87 = .ok (.ireturn, 1) := by decide +kernel
set_option maxRecDepth 20000 in
theorem ggX10_truly_X10_in : GoodIn wsX10_truly wsX10_in := goodIn_r _ [7] (by decide +kernel) (by decide +kernel)
set_option maxRecDepth 20000 in
theorem gX10_truly_X10_in : GoodIn wsX10_truly (va_wsS RX10 76 yX10_in wsX10_in) := goodIn_app (goodIn_of _ (by decide +kernel)) ggX10_truly_X10_in
theorem dX10_truly_0 : decode cX10_truly 0 = .ok (.iload_n 1, 1) := by decide +kernel
theorem dX10_truly_1 : decode cX10_truly 1 = .ok (.i2l, 1) := by decide +kernel
theorem dX10_truly_2 : decode cX10_truly 2 = .ok (.lconst 0, 1) := by decide +kernel
theorem dX10_truly_3 : decode cX10_truly 3 = .ok (.ldc2_w 105, 3) := by decide +kernel
theorem dX10_truly_6 : decode cX10_truly 6 = .ok (.invokestatic 76, 3) := by decide +kernel
theorem dX10_truly_9 : decode cX10_truly 9 = .ok (.ifCond .ne 5, 3) := by decide +kernel
theorem dX10_truly_12 : decode cX10_truly 12 = .ok (.iconst (-1), 1) := by decide +kernel
theorem dX10_truly_13 : decode cX10_truly 13 = .ok (.ireturn, 1) := by decide +kernel
theorem dX10_truly_14 : decode cX10_truly 14 = .ok (.aload_n 0, 1) := by decide +kernel
theorem dX10_truly_15 : decode cX10_truly 15 = .ok (.getfield 243, 3) := by decide +kernel
theorem dX10_truly_18 : decode cX10_truly 18 = .ok (.bipush 30, 2) := by decide +kernel
theorem dX10_truly_20 : decode cX10_truly 20 = .ok (.if_icmp .ne 6, 3) := by decide +kernel
theorem dX10_truly_23 : decode cX10_truly 23 = .ok (.bipush (-3), 2) := by decide +kernel
theorem dX10_truly_25 : decode cX10_truly 25 = .ok (.ireturn, 1) := by decide +kernel
theorem dX10_truly_26 : decode cX10_truly 26 = .ok (.aload_n 0, 1) := by decide +kernel
theorem dX10_truly_27 : decode cX10_truly 27 = .ok (.getfield 43, 3) := by decide +kernel
theorem dX10_truly_30 : decode cX10_truly 30 = .ok (.iconst 2, 1) := by decide +kernel
theorem dX10_truly_31 : decode cX10_truly 31 = .ok (.aload_n 0, 1) := by decide +kernel
theorem dX10_truly_32 : decode cX10_truly 32 = .ok (.getfield 243, 3) := by decide +kernel
theorem dX10_truly_35 : decode cX10_truly 35 = .ok (.imul, 1) := by decide +kernel
theorem dX10_truly_36 : decode cX10_truly 36 = .ok (.iload_n 1, 1) := by decide +kernel
theorem dX10_truly_37 : decode cX10_truly 37 = .ok (.iastore, 1) := by decide +kernel
theorem dX10_truly_38 : decode cX10_truly 38 = .ok (.aload_n 0, 1) := by decide +kernel
theorem dX10_truly_39 : decode cX10_truly 39 = .ok (.getfield 43, 3) := by decide +kernel
theorem dX10_truly_42 : decode cX10_truly 42 = .ok (.iconst 2, 1) := by decide +kernel
theorem dX10_truly_43 : decode cX10_truly 43 = .ok (.aload_n 0, 1) := by decide +kernel
theorem dX10_truly_44 : decode cX10_truly 44 = .ok (.getfield 243, 3) := by decide +kernel
theorem dX10_truly_47 : decode cX10_truly 47 = .ok (.imul, 1) := by decide +kernel
theorem dX10_truly_48 : decode cX10_truly 48 = .ok (.iconst 1, 1) := by decide +kernel
theorem dX10_truly_49 : decode cX10_truly 49 = .ok (.iadd, 1) := by decide +kernel
theorem dX10_truly_50 : decode cX10_truly 50 = .ok (.iload_n 2, 1) := by decide +kernel
theorem dX10_truly_51 : decode cX10_truly 51 = .ok (.ifCond .eq 7, 3) := by decide +kernel
theorem dX10_truly_54 : decode cX10_truly 54 = .ok (.iconst 1, 1) := by decide +kernel
theorem dX10_truly_55 : decode cX10_truly 55 = .ok (.goto 4, 3) := by decide +kernel
theorem dX10_truly_58 : decode cX10_truly 58 = .ok (.iconst 0, 1) := by decide +kernel
theorem dX10_truly_59 : decode cX10_truly 59 = .ok (.iastore, 1) := by decide +kernel
theorem dX10_truly_60 : decode cX10_truly 60 = .ok (.aload_n 0, 1) := by decide +kernel
theorem dX10_truly_61 : decode cX10_truly 61 = .ok (.dup, 1) := by decide +kernel
theorem dX10_truly_62 : decode cX10_truly 62 = .ok (.getfield 243, 3) := by decide +kernel
theorem dX10_truly_65 : decode cX10_truly 65 = .ok (.iconst 1, 1) := by decide +kernel
theorem dX10_truly_66 : decode cX10_truly 66 = .ok (.iadd, 1) := by decide +kernel
theorem dX10_truly_67 : decode cX10_truly 67 = .ok (.putfield 243, 3) := by decide +kernel
theorem dX10_truly_70 : decode cX10_truly 70 = .ok (.aload_n 0, 1) := by decide +kernel
theorem dX10_truly_71 : decode cX10_truly 71 = .ok (.getfield 243, 3) := by decide +kernel
theorem dX10_truly_74 : decode cX10_truly 74 = .ok (.ireturn, 1) := by decide +kernel
theorem dX10_weigh_0 : decode cX10_weigh 0 = .ok (.iconst 0, 1) := by decide +kernel
theorem dX10_weigh_1 : decode cX10_weigh 1 = .ok (.istore_n 2, 1) := by decide +kernel
theorem dX10_weigh_2 : decode cX10_weigh 2 = .ok (.iconst 0, 1) := by decide +kernel
theorem dX10_weigh_3 : decode cX10_weigh 3 = .ok (.istore_n 3, 1) := by decide +kernel
theorem dX10_weigh_4 : decode cX10_weigh 4 = .ok (.iconst 0, 1) := by decide +kernel
theorem dX10_weigh_5 : decode cX10_weigh 5 = .ok (.istore 4, 2) := by decide +kernel
theorem dX10_weigh_7 : decode cX10_weigh 7 = .ok (.iload 4, 2) := by decide +kernel
theorem dX10_weigh_9 : decode cX10_weigh 9 = .ok (.aload_n 0, 1) := by decide +kernel
theorem dX10_weigh_10 : decode cX10_weigh 10 = .ok (.getfield 243, 3) := by decide +kernel
theorem dX10_weigh_13 : decode cX10_weigh 13 = .ok (.if_icmp .ge 117, 3) := by decide +kernel
theorem dX10_weigh_16 : decode cX10_weigh 16 = .ok (.aload_n 0, 1) := by decide +kernel
theorem dX10_weigh_17 : decode cX10_weigh 17 = .ok (.getfield 43, 3) := by decide +kernel
theorem dX10_weigh_20 : decode cX10_weigh 20 = .ok (.iconst 2, 1) := by decide +kernel
theorem dX10_weigh_21 : decode cX10_weigh 21 = .ok (.iload 4, 2) := by decide +kernel
theorem dX10_weigh_23 : decode cX10_weigh 23 = .ok (.imul, 1) := by decide +kernel
theorem dX10_weigh_24 : decode cX10_weigh 24 = .ok (.iaload, 1) := by decide +kernel
theorem dX10_weigh_25 : decode cX10_weigh 25 = .ok (.iload_n 1, 1) := by decide +kernel
theorem dX10_weigh_26 : decode cX10_weigh 26 = .ok (.if_icmp .lt 7, 3) := by decide +kernel
theorem dX10_weigh_29 : decode cX10_weigh 29 = .ok (.iconst 1, 1) := by decide +kernel
theorem dX10_weigh_30 : decode cX10_weigh 30 = .ok (.goto 4, 3) := by decide +kernel
theorem dX10_weigh_33 : decode cX10_weigh 33 = .ok (.iconst 0, 1) := by decide +kernel
theorem dX10_weigh_34 : decode cX10_weigh 34 = .ok (.istore 5, 2) := by decide +kernel
theorem dX10_weigh_36 : decode cX10_weigh 36 = .ok (.bipush 100, 2) := by decide +kernel
theorem dX10_weigh_38 : decode cX10_weigh 38 = .ok (.aload_n 0, 1) := by decide +kernel
theorem dX10_weigh_39 : decode cX10_weigh 39 = .ok (.getfield 43, 3) := by decide +kernel
theorem dX10_weigh_42 : decode cX10_weigh 42 = .ok (.iconst 2, 1) := by decide +kernel
theorem dX10_weigh_43 : decode cX10_weigh 43 = .ok (.iload 4, 2) := by decide +kernel
theorem dX10_weigh_45 : decode cX10_weigh 45 = .ok (.imul, 1) := by decide +kernel
theorem dX10_weigh_46 : decode cX10_weigh 46 = .ok (.iaload, 1) := by decide +kernel
theorem dX10_weigh_47 : decode cX10_weigh 47 = .ok (.isub, 1) := by decide +kernel
theorem dX10_weigh_48 : decode cX10_weigh 48 = .ok (.iload_n 1, 1) := by decide +kernel
theorem dX10_weigh_49 : decode cX10_weigh 49 = .ok (.if_icmp .lt 7, 3) := by decide +kernel
theorem dX10_weigh_52 : decode cX10_weigh 52 = .ok (.iconst 1, 1) := by decide +kernel
theorem dX10_weigh_53 : decode cX10_weigh 53 = .ok (.goto 4, 3) := by decide +kernel
theorem dX10_weigh_56 : decode cX10_weigh 56 = .ok (.iconst 0, 1) := by decide +kernel
theorem dX10_weigh_57 : decode cX10_weigh 57 = .ok (.istore 6, 2) := by decide +kernel
theorem dX10_weigh_59 : decode cX10_weigh 59 = .ok (.iload_n 2, 1) := by decide +kernel
theorem dX10_weigh_60 : decode cX10_weigh 60 = .ok (.iload 5, 2) := by decide +kernel
theorem dX10_weigh_62 : decode cX10_weigh 62 = .ok (.ifCond .eq 17, 3) := by decide +kernel
theorem dX10_weigh_65 : decode cX10_weigh 65 = .ok (.aload_n 0, 1) := by decide +kernel
theorem dX10_weigh_66 : decode cX10_weigh 66 = .ok (.getfield 43, 3) := by decide +kernel
theorem dX10_weigh_69 : decode cX10_weigh 69 = .ok (.iconst 2, 1) := by decide +kernel
theorem dX10_weigh_70 : decode cX10_weigh 70 = .ok (.iload 4, 2) := by decide +kernel
theorem dX10_weigh_72 : decode cX10_weigh 72 = .ok (.imul, 1) := by decide +kernel
theorem dX10_weigh_73 : decode cX10_weigh 73 = .ok (.iconst 1, 1) := by decide +kernel
theorem dX10_weigh_74 : decode cX10_weigh 74 = .ok (.iadd, 1) := by decide +kernel
theorem dX10_weigh_75 : decode cX10_weigh 75 = .ok (.iaload, 1) := by decide +kernel
theorem dX10_weigh_76 : decode cX10_weigh 76 = .ok (.ifCond .eq 23, 3) := by decide +kernel
theorem dX10_weigh_79 : decode cX10_weigh 79 = .ok (.iload 6, 2) := by decide +kernel
theorem dX10_weigh_81 : decode cX10_weigh 81 = .ok (.ifCond .eq 22, 3) := by decide +kernel
theorem dX10_weigh_84 : decode cX10_weigh 84 = .ok (.aload_n 0, 1) := by decide +kernel
theorem dX10_weigh_85 : decode cX10_weigh 85 = .ok (.getfield 43, 3) := by decide +kernel
theorem dX10_weigh_88 : decode cX10_weigh 88 = .ok (.iconst 2, 1) := by decide +kernel
theorem dX10_weigh_89 : decode cX10_weigh 89 = .ok (.iload 4, 2) := by decide +kernel
theorem dX10_weigh_91 : decode cX10_weigh 91 = .ok (.imul, 1) := by decide +kernel
theorem dX10_weigh_92 : decode cX10_weigh 92 = .ok (.iconst 1, 1) := by decide +kernel
theorem dX10_weigh_93 : decode cX10_weigh 93 = .ok (.iadd, 1) := by decide +kernel
theorem dX10_weigh_94 : decode cX10_weigh 94 = .ok (.iaload, 1) := by decide +kernel
theorem dX10_weigh_95 : decode cX10_weigh 95 = .ok (.iconst 1, 1) := by decide +kernel
theorem dX10_weigh_96 : decode cX10_weigh 96 = .ok (.if_icmp .ne 7, 3) := by decide +kernel
theorem dX10_weigh_99 : decode cX10_weigh 99 = .ok (.iconst 1, 1) := by decide +kernel
theorem dX10_weigh_100 : decode cX10_weigh 100 = .ok (.goto 4, 3) := by decide +kernel
theorem dX10_weigh_103 : decode cX10_weigh 103 = .ok (.iconst 0, 1) := by decide +kernel
theorem dX10_weigh_104 : decode cX10_weigh 104 = .ok (.iadd, 1) := by decide +kernel
theorem dX10_weigh_105 : decode cX10_weigh 105 = .ok (.istore_n 2, 1) := by decide +kernel
theorem dX10_weigh_106 : decode cX10_weigh 106 = .ok (.iload_n 3, 1) := by decide +kernel
theorem dX10_weigh_107 : decode cX10_weigh 107 = .ok (.iload 5, 2) := by decide +kernel
theorem dX10_weigh_109 : decode cX10_weigh 109 = .ok (.ifCond .ne 12, 3) := by decide +kernel
theorem dX10_weigh_112 : decode cX10_weigh 112 = .ok (.iload 6, 2) := by decide +kernel
theorem dX10_weigh_114 : decode cX10_weigh 114 = .ok (.ifCond .ne 7, 3) := by decide +kernel
theorem dX10_weigh_117 : decode cX10_weigh 117 = .ok (.iconst 1, 1) := by decide +kernel
theorem dX10_weigh_118 : decode cX10_weigh 118 = .ok (.goto 4, 3) := by decide +kernel
theorem dX10_weigh_121 : decode cX10_weigh 121 = .ok (.iconst 0, 1) := by decide +kernel
theorem dX10_weigh_122 : decode cX10_weigh 122 = .ok (.iadd, 1) := by decide +kernel
theorem dX10_weigh_123 : decode cX10_weigh 123 = .ok (.istore_n 3, 1) := by decide +kernel
theorem dX10_weigh_124 : decode cX10_weigh 124 = .ok (.iinc 4 1, 3) := by decide +kernel
theorem dX10_weigh_127 : decode cX10_weigh 127 = .ok (.goto (-120), 3) := by decide +kernel
theorem dX10_weigh_130 : decode cX10_weigh 130 = .ok (.bipush 100, 2) := by decide +kernel
theorem dX10_weigh_132 : decode cX10_weigh 132 = .ok (.iload_n 2, 1) := by decide +kernel
theorem dX10_weigh_133 : decode cX10_weigh 133 = .ok (.imul, 1) := by decide +kernel
theorem dX10_weigh_134 : decode cX10_weigh 134 = .ok (.iload_n 3, 1) := by decide +kernel
theorem dX10_weigh_135 : decode cX10_weigh 135 = .ok (.iadd, 1) := by decide +kernel
theorem dX10_weigh_136 : decode cX10_weigh 136 = .ok (.ireturn, 1) := by decide +kernel
set_option maxRecDepth 20000 in
theorem ggX10_bestSure_X10_in : GoodIn wsX10_bestSure wsX10_in := goodIn_r _ [5] (by decide +kernel) (by decide +kernel)
set_option maxRecDepth 20000 in
theorem gX10_bestSure_X10_in : GoodIn wsX10_bestSure (va_wsS RX10 76 yX10_in wsX10_in) := goodIn_app (goodIn_of _ (by decide +kernel)) ggX10_bestSure_X10_in
set_option maxRecDepth 20000 in
theorem ggX10_bestSure_X10_weigh : GoodIn wsX10_bestSure wsX10_weigh := goodIn_r _ [9, 10, 11, 12, 13, 14, 15, 16, 17, 18, 19, 20, 21, 22, 23, 24, 25, 26, 27, 28, 29, 30, 31, 32, 33, 34, 35, 36, 37, 38, 39] (by decide +kernel) (by decide +kernel)
set_option maxRecDepth 20000 in
theorem gX10_bestSure_X10_weigh : GoodIn wsX10_bestSure (wsV RX10 246 RX10 yX10_weigh wsX10_weigh) := goodIn_app (goodIn_of _ (by decide +kernel)) ggX10_bestSure_X10_weigh
theorem dX10_bestSure_0 : decode cX10_bestSure 0 = .ok (.iload_n 1, 1) := by decide +kernel
theorem dX10_bestSure_1 : decode cX10_bestSure 1 = .ok (.i2l, 1) := by decide +kernel
theorem dX10_bestSure_2 : decode cX10_bestSure 2 = .ok (.lconst 0, 1) := by decide +kernel
theorem dX10_bestSure_3 : decode cX10_bestSure 3 = .ok (.ldc2_w 164, 3) := by decide +kernel
theorem dX10_bestSure_6 : decode cX10_bestSure 6 = .ok (.invokestatic 76, 3) := by decide +kernel
theorem dX10_bestSure_9 : decode cX10_bestSure 9 = .ok (.ifCond .ne 5, 3) := by decide +kernel
theorem dX10_bestSure_12 : decode cX10_bestSure 12 = .ok (.iconst (-1), 1) := by decide +kernel
theorem dX10_bestSure_13 : decode cX10_bestSure 13 = .ok (.ireturn, 1) := by decide +kernel
theorem dX10_bestSure_14 : decode cX10_bestSure 14 = .ok (.bipush 51, 2) := by decide +kernel
theorem dX10_bestSure_16 : decode cX10_bestSure 16 = .ok (.istore_n 2, 1) := by decide +kernel
theorem dX10_bestSure_17 : decode cX10_bestSure 17 = .ok (.bipush 52, 2) := by decide +kernel
theorem dX10_bestSure_19 : decode cX10_bestSure 19 = .ok (.istore_n 3, 1) := by decide +kernel
theorem dX10_bestSure_20 : decode cX10_bestSure 20 = .ok (.iload_n 3, 1) := by decide +kernel
theorem dX10_bestSure_21 : decode cX10_bestSure 21 = .ok (.bipush 100, 2) := by decide +kernel
theorem dX10_bestSure_23 : decode cX10_bestSure 23 = .ok (.if_icmp .gt 28, 3) := by decide +kernel
theorem dX10_bestSure_26 : decode cX10_bestSure 26 = .ok (.aload_n 0, 1) := by decide +kernel
theorem dX10_bestSure_27 : decode cX10_bestSure 27 = .ok (.iload_n 3, 1) := by decide +kernel
theorem dX10_bestSure_28 : decode cX10_bestSure 28 = .ok (.invokevirtual 246, 3) := by decide +kernel
theorem dX10_bestSure_31 : decode cX10_bestSure 31 = .ok (.aload_n 0, 1) := by decide +kernel
theorem dX10_bestSure_32 : decode cX10_bestSure 32 = .ok (.iload_n 2, 1) := by decide +kernel
theorem dX10_bestSure_33 : decode cX10_bestSure 33 = .ok (.invokevirtual 246, 3) := by decide +kernel
theorem dX10_bestSure_36 : decode cX10_bestSure 36 = .ok (.if_icmp .ge 7, 3) := by decide +kernel
theorem dX10_bestSure_39 : decode cX10_bestSure 39 = .ok (.iload_n 3, 1) := by decide +kernel
theorem dX10_bestSure_40 : decode cX10_bestSure 40 = .ok (.goto 4, 3) := by decide +kernel
theorem dX10_bestSure_43 : decode cX10_bestSure 43 = .ok (.iload_n 2, 1) := by decide +kernel
theorem dX10_bestSure_44 : decode cX10_bestSure 44 = .ok (.istore_n 2, 1) := by decide +kernel
theorem dX10_bestSure_45 : decode cX10_bestSure 45 = .ok (.iinc 3 1, 3) := by decide +kernel
theorem dX10_bestSure_48 : decode cX10_bestSure 48 = .ok (.goto (-28), 3) := by decide +kernel
theorem dX10_bestSure_51 : decode cX10_bestSure 51 = .ok (.iload_n 1, 1) := by decide +kernel
theorem dX10_bestSure_52 : decode cX10_bestSure 52 = .ok (.ifCond .ne 7, 3) := by decide +kernel
theorem dX10_bestSure_55 : decode cX10_bestSure 55 = .ok (.iload_n 2, 1) := by decide +kernel
theorem dX10_bestSure_56 : decode cX10_bestSure 56 = .ok (.goto 27, 3) := by decide +kernel
theorem dX10_bestSure_59 : decode cX10_bestSure 59 = .ok (.iload_n 1, 1) := by decide +kernel
theorem dX10_bestSure_60 : decode cX10_bestSure 60 = .ok (.iconst 1, 1) := by decide +kernel
theorem dX10_bestSure_61 : decode cX10_bestSure 61 = .ok (.if_icmp .ne 14, 3) := by decide +kernel
theorem dX10_bestSure_64 : decode cX10_bestSure 64 = .ok (.aload_n 0, 1) := by decide +kernel
theorem dX10_bestSure_65 : decode cX10_bestSure 65 = .ok (.iload_n 2, 1) := by decide +kernel
theorem dX10_bestSure_66 : decode cX10_bestSure 66 = .ok (.invokevirtual 246, 3) := by decide +kernel
theorem dX10_bestSure_69 : decode cX10_bestSure 69 = .ok (.bipush 100, 2) := by decide +kernel
theorem dX10_bestSure_71 : decode cX10_bestSure 71 = .ok (.idiv, 1) := by decide +kernel
theorem dX10_bestSure_72 : decode cX10_bestSure 72 = .ok (.goto 11, 3) := by decide +kernel
theorem dX10_bestSure_75 : decode cX10_bestSure 75 = .ok (.aload_n 0, 1) := by decide +kernel
theorem dX10_bestSure_76 : decode cX10_bestSure 76 = .ok (.iload_n 2, 1) := by decide +kernel
theorem dX10_bestSure_77 : decode cX10_bestSure 77 = .ok (.invokevirtual 246, 3) := by decide +kernel
theorem dX10_bestSure_80 : decode cX10_bestSure 80 = .ok (.bipush 100, 2) := by decide +kernel
theorem dX10_bestSure_82 : decode cX10_bestSure 82 = .ok (.irem, 1) := by decide +kernel
theorem dX10_bestSure_83 : decode cX10_bestSure 83 = .ok (.ireturn, 1) := by decide +kernel
theorem dX10_copy_0 : decode cX10_copy 0 = .ok (.iconst 0, 1) := by decide +kernel
theorem dX10_copy_1 : decode cX10_copy 1 = .ok (.istore_n 3, 1) := by decide +kernel
theorem dX10_copy_2 : decode cX10_copy 2 = .ok (.iload_n 3, 1) := by decide +kernel
theorem dX10_copy_3 : decode cX10_copy 3 = .ok (.bipush 6, 2) := by decide +kernel
theorem dX10_copy_5 : decode cX10_copy 5 = .ok (.if_icmp .ge 31, 3) := by decide +kernel
theorem dX10_copy_8 : decode cX10_copy 8 = .ok (.aload_n 0, 1) := by decide +kernel
theorem dX10_copy_9 : decode cX10_copy 9 = .ok (.getfield 19, 3) := by decide +kernel
theorem dX10_copy_12 : decode cX10_copy 12 = .ok (.bipush 6, 2) := by decide +kernel
theorem dX10_copy_14 : decode cX10_copy 14 = .ok (.iload_n 2, 1) := by decide +kernel
theorem dX10_copy_15 : decode cX10_copy 15 = .ok (.imul, 1) := by decide +kernel
theorem dX10_copy_16 : decode cX10_copy 16 = .ok (.iload_n 3, 1) := by decide +kernel
theorem dX10_copy_17 : decode cX10_copy 17 = .ok (.iadd, 1) := by decide +kernel
theorem dX10_copy_18 : decode cX10_copy 18 = .ok (.aload_n 0, 1) := by decide +kernel
theorem dX10_copy_19 : decode cX10_copy 19 = .ok (.getfield 19, 3) := by decide +kernel
theorem dX10_copy_22 : decode cX10_copy 22 = .ok (.bipush 6, 2) := by decide +kernel
theorem dX10_copy_24 : decode cX10_copy 24 = .ok (.iload_n 1, 1) := by decide +kernel
theorem dX10_copy_25 : decode cX10_copy 25 = .ok (.imul, 1) := by decide +kernel
theorem dX10_copy_26 : decode cX10_copy 26 = .ok (.iload_n 3, 1) := by decide +kernel
theorem dX10_copy_27 : decode cX10_copy 27 = .ok (.iadd, 1) := by decide +kernel
theorem dX10_copy_28 : decode cX10_copy 28 = .ok (.iaload, 1) := by decide +kernel
theorem dX10_copy_29 : decode cX10_copy 29 = .ok (.iastore, 1) := by decide +kernel
theorem dX10_copy_30 : decode cX10_copy 30 = .ok (.iinc 3 1, 3) := by decide +kernel
theorem dX10_copy_33 : decode cX10_copy 33 = .ok (.goto (-31), 3) := by decide +kernel
theorem dX10_copy_36 : decode cX10_copy 36 = .ok (.aload_n 0, 1) := by decide +kernel
theorem dX10_copy_37 : decode cX10_copy 37 = .ok (.getfield 22, 3) := by decide +kernel
theorem dX10_copy_40 : decode cX10_copy 40 = .ok (.iload_n 2, 1) := by decide +kernel
theorem dX10_copy_41 : decode cX10_copy 41 = .ok (.aload_n 0, 1) := by decide +kernel
theorem dX10_copy_42 : decode cX10_copy 42 = .ok (.getfield 22, 3) := by decide +kernel
theorem dX10_copy_45 : decode cX10_copy 45 = .ok (.iload_n 1, 1) := by decide +kernel
theorem dX10_copy_46 : decode cX10_copy 46 = .ok (.iaload, 1) := by decide +kernel
theorem dX10_copy_47 : decode cX10_copy 47 = .ok (.iastore, 1) := by decide +kernel
theorem dX10_copy_48 : decode cX10_copy 48 = .ok (.aload_n 0, 1) := by decide +kernel
theorem dX10_copy_49 : decode cX10_copy 49 = .ok (.getfield 25, 3) := by decide +kernel
theorem dX10_copy_52 : decode cX10_copy 52 = .ok (.iload_n 2, 1) := by decide +kernel
theorem dX10_copy_53 : decode cX10_copy 53 = .ok (.aload_n 0, 1) := by decide +kernel
theorem dX10_copy_54 : decode cX10_copy 54 = .ok (.getfield 25, 3) := by decide +kernel
theorem dX10_copy_57 : decode cX10_copy 57 = .ok (.iload_n 1, 1) := by decide +kernel
theorem dX10_copy_58 : decode cX10_copy 58 = .ok (.iaload, 1) := by decide +kernel
theorem dX10_copy_59 : decode cX10_copy 59 = .ok (.iastore, 1) := by decide +kernel
theorem dX10_copy_60 : decode cX10_copy 60 = .ok (.iconst 0, 1) := by decide +kernel
theorem dX10_copy_61 : decode cX10_copy 61 = .ok (.istore_n 3, 1) := by decide +kernel
theorem dX10_copy_62 : decode cX10_copy 62 = .ok (.iload_n 3, 1) := by decide +kernel
theorem dX10_copy_63 : decode cX10_copy 63 = .ok (.sipush 180, 3) := by decide +kernel
theorem dX10_copy_66 : decode cX10_copy 66 = .ok (.if_icmp .ge 33, 3) := by decide +kernel
theorem dX10_copy_69 : decode cX10_copy 69 = .ok (.aload_n 0, 1) := by decide +kernel
theorem dX10_copy_70 : decode cX10_copy 70 = .ok (.getfield 28, 3) := by decide +kernel
theorem dX10_copy_73 : decode cX10_copy 73 = .ok (.sipush 180, 3) := by decide +kernel
theorem dX10_copy_76 : decode cX10_copy 76 = .ok (.iload_n 2, 1) := by decide +kernel
theorem dX10_copy_77 : decode cX10_copy 77 = .ok (.imul, 1) := by decide +kernel
theorem dX10_copy_78 : decode cX10_copy 78 = .ok (.iload_n 3, 1) := by decide +kernel
theorem dX10_copy_79 : decode cX10_copy 79 = .ok (.iadd, 1) := by decide +kernel
theorem dX10_copy_80 : decode cX10_copy 80 = .ok (.aload_n 0, 1) := by decide +kernel
theorem dX10_copy_81 : decode cX10_copy 81 = .ok (.getfield 28, 3) := by decide +kernel
theorem dX10_copy_84 : decode cX10_copy 84 = .ok (.sipush 180, 3) := by decide +kernel
theorem dX10_copy_87 : decode cX10_copy 87 = .ok (.iload_n 1, 1) := by decide +kernel
theorem dX10_copy_88 : decode cX10_copy 88 = .ok (.imul, 1) := by decide +kernel
theorem dX10_copy_89 : decode cX10_copy 89 = .ok (.iload_n 3, 1) := by decide +kernel
theorem dX10_copy_90 : decode cX10_copy 90 = .ok (.iadd, 1) := by decide +kernel
theorem dX10_copy_91 : decode cX10_copy 91 = .ok (.iaload, 1) := by decide +kernel
theorem dX10_copy_92 : decode cX10_copy 92 = .ok (.iastore, 1) := by decide +kernel
theorem dX10_copy_93 : decode cX10_copy 93 = .ok (.iinc 3 1, 3) := by decide +kernel
theorem dX10_copy_96 : decode cX10_copy 96 = .ok (.goto (-34), 3) := by decide +kernel
theorem dX10_copy_99 : decode cX10_copy 99 = .ok (.return_, 1) := by decide +kernel
set_option maxRecDepth 20000 in
theorem ggX10_keep_X10_copy : GoodIn wsX10_keep wsX10_copy := goodIn_r _ [6, 7, 8, 9, 10, 11, 12, 13, 14, 15, 16, 17, 18, 19, 20, 21, 22, 23, 24, 25, 26, 27, 28, 29, 30, 31, 32, 33, 34, 35, 36, 37, 38] (by decide +kernel) (by decide +kernel)
set_option maxRecDepth 20000 in
theorem gX10_keep_X10_copy : GoodIn wsX10_keep (wsV RX10 252 RX10 yX10_copy wsX10_copy) := goodIn_app (goodIn_of _ (by decide +kernel)) ggX10_keep_X10_copy
theorem dX10_keep_0 : decode cX10_keep 0 = .ok (.aload_n 0, 1) := by decide +kernel
theorem dX10_keep_1 : decode cX10_keep 1 = .ok (.getfield 249, 3) := by decide +kernel
theorem dX10_keep_4 : decode cX10_keep 4 = .ok (.iconst 2, 1) := by decide +kernel
theorem dX10_keep_5 : decode cX10_keep 5 = .ok (.if_icmp .ne 6, 3) := by decide +kernel
theorem dX10_keep_8 : decode cX10_keep 8 = .ok (.bipush (-3), 2) := by decide +kernel
theorem dX10_keep_10 : decode cX10_keep 10 = .ok (.ireturn, 1) := by decide +kernel
theorem dX10_keep_11 : decode cX10_keep 11 = .ok (.aload_n 0, 1) := by decide +kernel
theorem dX10_keep_12 : decode cX10_keep 12 = .ok (.iconst 0, 1) := by decide +kernel
theorem dX10_keep_13 : decode cX10_keep 13 = .ok (.iconst 1, 1) := by decide +kernel
theorem dX10_keep_14 : decode cX10_keep 14 = .ok (.aload_n 0, 1) := by decide +kernel
theorem dX10_keep_15 : decode cX10_keep 15 = .ok (.getfield 249, 3) := by decide +kernel
theorem dX10_keep_18 : decode cX10_keep 18 = .ok (.iadd, 1) := by decide +kernel
theorem dX10_keep_19 : decode cX10_keep 19 = .ok (.invokevirtual 252, 3) := by decide +kernel
theorem dX10_keep_22 : decode cX10_keep 22 = .ok (.aload_n 0, 1) := by decide +kernel
theorem dX10_keep_23 : decode cX10_keep 23 = .ok (.dup, 1) := by decide +kernel
theorem dX10_keep_24 : decode cX10_keep 24 = .ok (.getfield 249, 3) := by decide +kernel
theorem dX10_keep_27 : decode cX10_keep 27 = .ok (.iconst 1, 1) := by decide +kernel
theorem dX10_keep_28 : decode cX10_keep 28 = .ok (.iadd, 1) := by decide +kernel
theorem dX10_keep_29 : decode cX10_keep 29 = .ok (.putfield 249, 3) := by decide +kernel
theorem dX10_keep_32 : decode cX10_keep 32 = .ok (.aload_n 0, 1) := by decide +kernel
theorem dX10_keep_33 : decode cX10_keep 33 = .ok (.getfield 249, 3) := by decide +kernel
theorem dX10_keep_36 : decode cX10_keep 36 = .ok (.ireturn, 1) := by decide +kernel
set_option maxRecDepth 20000 in
theorem ggX10_back_X10_copy : GoodIn wsX10_back wsX10_copy := goodIn_r _ [6, 7, 8, 9, 10, 11, 12, 13, 14, 15, 16, 17, 18, 19, 20, 21, 22, 23, 24, 25, 26, 27, 28, 29, 30, 31, 32, 33, 34, 35, 36, 37, 38] (by decide +kernel) (by decide +kernel)
set_option maxRecDepth 20000 in
theorem gX10_back_X10_copy : GoodIn wsX10_back (wsV RX10 252 RX10 yX10_copy wsX10_copy) := goodIn_app (goodIn_of _ (by decide +kernel)) ggX10_back_X10_copy
theorem dX10_back_0 : decode cX10_back 0 = .ok (.aload_n 0, 1) := by decide +kernel
theorem dX10_back_1 : decode cX10_back 1 = .ok (.getfield 249, 3) := by decide +kernel
theorem dX10_back_4 : decode cX10_back 4 = .ok (.ifCond .ne 6, 3) := by decide +kernel
theorem dX10_back_7 : decode cX10_back 7 = .ok (.bipush (-2), 2) := by decide +kernel
theorem dX10_back_9 : decode cX10_back 9 = .ok (.ireturn, 1) := by decide +kernel
theorem dX10_back_10 : decode cX10_back 10 = .ok (.aload_n 0, 1) := by decide +kernel
theorem dX10_back_11 : decode cX10_back 11 = .ok (.dup, 1) := by decide +kernel
theorem dX10_back_12 : decode cX10_back 12 = .ok (.getfield 249, 3) := by decide +kernel
theorem dX10_back_15 : decode cX10_back 15 = .ok (.iconst 1, 1) := by decide +kernel
theorem dX10_back_16 : decode cX10_back 16 = .ok (.isub, 1) := by decide +kernel
theorem dX10_back_17 : decode cX10_back 17 = .ok (.putfield 249, 3) := by decide +kernel
theorem dX10_back_20 : decode cX10_back 20 = .ok (.aload_n 0, 1) := by decide +kernel
theorem dX10_back_21 : decode cX10_back 21 = .ok (.iconst 1, 1) := by decide +kernel
theorem dX10_back_22 : decode cX10_back 22 = .ok (.aload_n 0, 1) := by decide +kernel
theorem dX10_back_23 : decode cX10_back 23 = .ok (.getfield 249, 3) := by decide +kernel
theorem dX10_back_26 : decode cX10_back 26 = .ok (.iadd, 1) := by decide +kernel
theorem dX10_back_27 : decode cX10_back 27 = .ok (.iconst 0, 1) := by decide +kernel
theorem dX10_back_28 : decode cX10_back 28 = .ok (.invokevirtual 252, 3) := by decide +kernel
theorem dX10_back_31 : decode cX10_back 31 = .ok (.aload_n 0, 1) := by decide +kernel
theorem dX10_back_32 : decode cX10_back 32 = .ok (.getfield 249, 3) := by decide +kernel
theorem dX10_back_35 : decode cX10_back 35 = .ok (.ireturn, 1) := by decide +kernel
theorem dX10_count_0 : decode cX10_count 0 = .ok (.iload_n 1, 1) := by decide +kernel
theorem dX10_count_1 : decode cX10_count 1 = .ok (.tableswitch 73 0 5 #[39, 44, 51, 58, 63, 68], 39) := by decide +kernel
theorem dX10_count_40 : decode cX10_count 40 = .ok (.aload_n 0, 1) := by decide +kernel
theorem dX10_count_41 : decode cX10_count 41 = .ok (.getfield 80, 3) := by decide +kernel
theorem dX10_count_44 : decode cX10_count 44 = .ok (.ireturn, 1) := by decide +kernel
theorem dX10_count_45 : decode cX10_count 45 = .ok (.aload_n 0, 1) := by decide +kernel
theorem dX10_count_46 : decode cX10_count 46 = .ok (.getfield 13, 3) := by decide +kernel
theorem dX10_count_49 : decode cX10_count 49 = .ok (.iconst 0, 1) := by decide +kernel
theorem dX10_count_50 : decode cX10_count 50 = .ok (.iaload, 1) := by decide +kernel
theorem dX10_count_51 : decode cX10_count 51 = .ok (.ireturn, 1) := by decide +kernel
theorem dX10_count_52 : decode cX10_count 52 = .ok (.aload_n 0, 1) := by decide +kernel
theorem dX10_count_53 : decode cX10_count 53 = .ok (.getfield 25, 3) := by decide +kernel
theorem dX10_count_56 : decode cX10_count 56 = .ok (.iconst 0, 1) := by decide +kernel
theorem dX10_count_57 : decode cX10_count 57 = .ok (.iaload, 1) := by decide +kernel
theorem dX10_count_58 : decode cX10_count 58 = .ok (.ireturn, 1) := by decide +kernel
theorem dX10_count_59 : decode cX10_count 59 = .ok (.aload_n 0, 1) := by decide +kernel
theorem dX10_count_60 : decode cX10_count 60 = .ok (.getfield 218, 3) := by decide +kernel
theorem dX10_count_63 : decode cX10_count 63 = .ok (.ireturn, 1) := by decide +kernel
theorem dX10_count_64 : decode cX10_count 64 = .ok (.aload_n 0, 1) := by decide +kernel
theorem dX10_count_65 : decode cX10_count 65 = .ok (.getfield 243, 3) := by decide +kernel
theorem dX10_count_68 : decode cX10_count 68 = .ok (.ireturn, 1) := by decide +kernel
theorem dX10_count_69 : decode cX10_count 69 = .ok (.aload_n 0, 1) := by decide +kernel
theorem dX10_count_70 : decode cX10_count 70 = .ok (.getfield 249, 3) := by decide +kernel
theorem dX10_count_73 : decode cX10_count 73 = .ok (.ireturn, 1) := by decide +kernel
theorem dX10_count_74 : decode cX10_count 74 = .ok (.iconst (-1), 1) := by decide +kernel
theorem dX10_count_75 : decode cX10_count 75 = .ok (.ireturn, 1) := by decide +kernel
theorem dJ6_bitCount_0f7a4_0 : decode cJ6_bitCount_0f7a4 0 = .ok (.iload_n 0, 1) := by decide +kernel
theorem dJ6_bitCount_0f7a4_1 : decode cJ6_bitCount_0f7a4 1 = .ok (.iload_n 0, 1) := by decide +kernel
theorem dJ6_bitCount_0f7a4_2 : decode cJ6_bitCount_0f7a4 2 = .ok (.iconst 1, 1) := by decide +kernel
theorem dJ6_bitCount_0f7a4_3 : decode cJ6_bitCount_0f7a4 3 = .ok (.iushr, 1) := by decide +kernel
theorem dJ6_bitCount_0f7a4_4 : decode cJ6_bitCount_0f7a4 4 = .ok (.ldc_w 265, 3) := by decide +kernel
theorem dJ6_bitCount_0f7a4_7 : decode cJ6_bitCount_0f7a4 7 = .ok (.iand, 1) := by decide +kernel
theorem dJ6_bitCount_0f7a4_8 : decode cJ6_bitCount_0f7a4 8 = .ok (.isub, 1) := by decide +kernel
theorem dJ6_bitCount_0f7a4_9 : decode cJ6_bitCount_0f7a4 9 = .ok (.istore_n 0, 1) := by decide +kernel
theorem dJ6_bitCount_0f7a4_10 : decode cJ6_bitCount_0f7a4 10 = .ok (.iload_n 0, 1) := by decide +kernel
theorem dJ6_bitCount_0f7a4_11 : decode cJ6_bitCount_0f7a4 11 = .ok (.ldc_w 266, 3) := by decide +kernel
theorem dJ6_bitCount_0f7a4_14 : decode cJ6_bitCount_0f7a4 14 = .ok (.iand, 1) := by decide +kernel
theorem dJ6_bitCount_0f7a4_15 : decode cJ6_bitCount_0f7a4 15 = .ok (.iload_n 0, 1) := by decide +kernel
theorem dJ6_bitCount_0f7a4_16 : decode cJ6_bitCount_0f7a4 16 = .ok (.iconst 2, 1) := by decide +kernel
theorem dJ6_bitCount_0f7a4_17 : decode cJ6_bitCount_0f7a4 17 = .ok (.iushr, 1) := by decide +kernel
theorem dJ6_bitCount_0f7a4_18 : decode cJ6_bitCount_0f7a4 18 = .ok (.ldc_w 266, 3) := by decide +kernel
theorem dJ6_bitCount_0f7a4_21 : decode cJ6_bitCount_0f7a4 21 = .ok (.iand, 1) := by decide +kernel
theorem dJ6_bitCount_0f7a4_22 : decode cJ6_bitCount_0f7a4 22 = .ok (.iadd, 1) := by decide +kernel
theorem dJ6_bitCount_0f7a4_23 : decode cJ6_bitCount_0f7a4 23 = .ok (.istore_n 0, 1) := by decide +kernel
theorem dJ6_bitCount_0f7a4_24 : decode cJ6_bitCount_0f7a4 24 = .ok (.iload_n 0, 1) := by decide +kernel
theorem dJ6_bitCount_0f7a4_25 : decode cJ6_bitCount_0f7a4 25 = .ok (.iload_n 0, 1) := by decide +kernel
theorem dJ6_bitCount_0f7a4_26 : decode cJ6_bitCount_0f7a4 26 = .ok (.iconst 4, 1) := by decide +kernel
theorem dJ6_bitCount_0f7a4_27 : decode cJ6_bitCount_0f7a4 27 = .ok (.iushr, 1) := by decide +kernel
theorem dJ6_bitCount_0f7a4_28 : decode cJ6_bitCount_0f7a4 28 = .ok (.iadd, 1) := by decide +kernel
theorem dJ6_bitCount_0f7a4_29 : decode cJ6_bitCount_0f7a4 29 = .ok (.ldc_w 267, 3) := by decide +kernel
theorem dJ6_bitCount_0f7a4_32 : decode cJ6_bitCount_0f7a4 32 = .ok (.iand, 1) := by decide +kernel
theorem dJ6_bitCount_0f7a4_33 : decode cJ6_bitCount_0f7a4 33 = .ok (.istore_n 0, 1) := by decide +kernel
theorem dJ6_bitCount_0f7a4_34 : decode cJ6_bitCount_0f7a4 34 = .ok (.iload_n 0, 1) := by decide +kernel
theorem dJ6_bitCount_0f7a4_35 : decode cJ6_bitCount_0f7a4 35 = .ok (.iload_n 0, 1) := by decide +kernel
theorem dJ6_bitCount_0f7a4_36 : decode cJ6_bitCount_0f7a4 36 = .ok (.bipush 8, 2) := by decide +kernel
theorem dJ6_bitCount_0f7a4_38 : decode cJ6_bitCount_0f7a4 38 = .ok (.iushr, 1) := by decide +kernel
theorem dJ6_bitCount_0f7a4_39 : decode cJ6_bitCount_0f7a4 39 = .ok (.iadd, 1) := by decide +kernel
theorem dJ6_bitCount_0f7a4_40 : decode cJ6_bitCount_0f7a4 40 = .ok (.istore_n 0, 1) := by decide +kernel
theorem dJ6_bitCount_0f7a4_41 : decode cJ6_bitCount_0f7a4 41 = .ok (.iload_n 0, 1) := by decide +kernel
theorem dJ6_bitCount_0f7a4_42 : decode cJ6_bitCount_0f7a4 42 = .ok (.iload_n 0, 1) := by decide +kernel
theorem dJ6_bitCount_0f7a4_43 : decode cJ6_bitCount_0f7a4 43 = .ok (.bipush 16, 2) := by decide +kernel
theorem dJ6_bitCount_0f7a4_45 : decode cJ6_bitCount_0f7a4 45 = .ok (.iushr, 1) := by decide +kernel
theorem dJ6_bitCount_0f7a4_46 : decode cJ6_bitCount_0f7a4 46 = .ok (.iadd, 1) := by decide +kernel
theorem dJ6_bitCount_0f7a4_47 : decode cJ6_bitCount_0f7a4 47 = .ok (.istore_n 0, 1) := by decide +kernel
theorem dJ6_bitCount_0f7a4_48 : decode cJ6_bitCount_0f7a4 48 = .ok (.iload_n 0, 1) := by decide +kernel
theorem dJ6_bitCount_0f7a4_49 : decode cJ6_bitCount_0f7a4 49 = .ok (.bipush 63, 2) := by decide +kernel
theorem dJ6_bitCount_0f7a4_51 : decode cJ6_bitCount_0f7a4 51 = .ok (.iand, 1) := by decide +kernel
theorem dJ6_bitCount_0f7a4_52 : decode cJ6_bitCount_0f7a4 52 = .ok (.ireturn, 1) := by decide +kernel
theorem dJ9_abs_0f7a4_0 : decode cJ9_abs_0f7a4 0 = .ok (.iload_n 0, 1) := by decide +kernel
theorem dJ9_abs_0f7a4_1 : decode cJ9_abs_0f7a4 1 = .ok (.ifCond .ge 8, 3) := by decide +kernel
theorem dJ9_abs_0f7a4_4 : decode cJ9_abs_0f7a4 4 = .ok (.iload_n 0, 1) := by decide +kernel
theorem dJ9_abs_0f7a4_5 : decode cJ9_abs_0f7a4 5 = .ok (.ineg, 1) := by decide +kernel
theorem dJ9_abs_0f7a4_6 : decode cJ9_abs_0f7a4 6 = .ok (.goto 4, 3) := by decide +kernel
theorem dJ9_abs_0f7a4_9 : decode cJ9_abs_0f7a4 9 = .ok (.iload_n 0, 1) := by decide +kernel
theorem dJ9_abs_0f7a4_10 : decode cJ9_abs_0f7a4 10 = .ok (.ireturn, 1) := by decide +kernel
theorem dJ9_max_7cf53_0 : decode cJ9_max_7cf53 0 = .ok (.iload_n 0, 1) := by decide +kernel
theorem dJ9_max_7cf53_1 : decode cJ9_max_7cf53 1 = .ok (.iload_n 1, 1) := by decide +kernel
theorem dJ9_max_7cf53_2 : decode cJ9_max_7cf53 2 = .ok (.if_icmp .lt 7, 3) := by decide +kernel
theorem dJ9_max_7cf53_5 : decode cJ9_max_7cf53 5 = .ok (.iload_n 0, 1) := by decide +kernel
theorem dJ9_max_7cf53_6 : decode cJ9_max_7cf53 6 = .ok (.goto 4, 3) := by decide +kernel
theorem dJ9_max_7cf53_9 : decode cJ9_max_7cf53 9 = .ok (.iload_n 1, 1) := by decide +kernel
theorem dJ9_max_7cf53_10 : decode cJ9_max_7cf53 10 = .ok (.ireturn, 1) := by decide +kernel
theorem dJ9_max_f86c9_0 : decode cJ9_max_f86c9 0 = .ok (.lload_n 0, 1) := by decide +kernel
theorem dJ9_max_f86c9_1 : decode cJ9_max_f86c9 1 = .ok (.lload_n 2, 1) := by decide +kernel
theorem dJ9_max_f86c9_2 : decode cJ9_max_f86c9 2 = .ok (.lcmp, 1) := by decide +kernel
theorem dJ9_max_f86c9_3 : decode cJ9_max_f86c9 3 = .ok (.ifCond .lt 7, 3) := by decide +kernel
theorem dJ9_max_f86c9_6 : decode cJ9_max_f86c9 6 = .ok (.lload_n 0, 1) := by decide +kernel
theorem dJ9_max_f86c9_7 : decode cJ9_max_f86c9 7 = .ok (.goto 4, 3) := by decide +kernel
theorem dJ9_max_f86c9_10 : decode cJ9_max_f86c9 10 = .ok (.lload_n 2, 1) := by decide +kernel
theorem dJ9_max_f86c9_11 : decode cJ9_max_f86c9 11 = .ok (.lreturn, 1) := by decide +kernel
theorem dJ7_fill_53178_0 : decode cJ7_fill_53178 0 = .ok (.iconst 0, 1) := by decide +kernel
theorem dJ7_fill_53178_1 : decode cJ7_fill_53178 1 = .ok (.istore_n 2, 1) := by decide +kernel
theorem dJ7_fill_53178_2 : decode cJ7_fill_53178 2 = .ok (.aload_n 0, 1) := by decide +kernel
theorem dJ7_fill_53178_3 : decode cJ7_fill_53178 3 = .ok (.arraylength, 1) := by decide +kernel
theorem dJ7_fill_53178_4 : decode cJ7_fill_53178 4 = .ok (.istore_n 3, 1) := by decide +kernel
theorem dJ7_fill_53178_5 : decode cJ7_fill_53178 5 = .ok (.iload_n 2, 1) := by decide +kernel
theorem dJ7_fill_53178_6 : decode cJ7_fill_53178 6 = .ok (.iload_n 3, 1) := by decide +kernel
theorem dJ7_fill_53178_7 : decode cJ7_fill_53178 7 = .ok (.if_icmp .ge 13, 3) := by decide +kernel
theorem dJ7_fill_53178_10 : decode cJ7_fill_53178 10 = .ok (.aload_n 0, 1) := by decide +kernel
theorem dJ7_fill_53178_11 : decode cJ7_fill_53178 11 = .ok (.iload_n 2, 1) := by decide +kernel
theorem dJ7_fill_53178_12 : decode cJ7_fill_53178 12 = .ok (.iload_n 1, 1) := by decide +kernel
theorem dJ7_fill_53178_13 : decode cJ7_fill_53178 13 = .ok (.iastore, 1) := by decide +kernel
theorem dJ7_fill_53178_14 : decode cJ7_fill_53178 14 = .ok (.iinc 2 1, 3) := by decide +kernel
theorem dJ7_fill_53178_17 : decode cJ7_fill_53178 17 = .ok (.goto (-12), 3) := by decide +kernel
theorem dJ7_fill_53178_20 : decode cJ7_fill_53178 20 = .ok (.return_, 1) := by decide +kernel
abbrev vwCl : List vw_C := [(RX0, TX0, 5), (RX1, TX1, 3), (RX2, TX2, 15), (RX3, TX3, 2), (RX4, TX4, 4), (RX5, TX5, 10), (RX6, TX6, 3), (RX7, TX7, 7), (RX8, TX8, 4), (RX9, TX9, 12), (RX10, TX10, 28)]
