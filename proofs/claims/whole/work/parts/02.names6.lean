theorem dX10_whose_37 : decode cX10_whose 37 = .ok (.istore 4, 2) := by decide +kernel
theorem dX10_whose_39 : decode cX10_whose 39 = .ok (.iconst 0, 1) := by decide +kernel
theorem dX10_whose_40 : decode cX10_whose 40 = .ok (.istore 5, 2) := by decide +kernel
theorem dX10_whose_42 : decode cX10_whose 42 = .ok (.iload 5, 2) := by decide +kernel
theorem dX10_whose_44 : decode cX10_whose 44 = .ok (.sipush 189, 3) := by decide +kernel
theorem dX10_whose_47 : decode cX10_whose 47 = .ok (.if_icmp .ge 69, 3) := by decide +kernel
theorem dX10_whose_50 : decode cX10_whose 50 = .ok (.aload_n 0, 1) := by decide +kernel
theorem dX10_whose_51 : decode cX10_whose 51 = .ok (.iload 5, 2) := by decide +kernel
theorem dX10_whose_53 : decode cX10_whose 53 = .ok (.invokevirtual 154, 3) := by decide +kernel
theorem dX10_whose_56 : decode cX10_whose 56 = .ok (.aload_n 0, 1) := by decide +kernel
theorem dX10_whose_57 : decode cX10_whose 57 = .ok (.aload_n 0, 1) := by decide +kernel
theorem dX10_whose_58 : decode cX10_whose 58 = .ok (.getfield 22, 3) := by decide +kernel
theorem dX10_whose_61 : decode cX10_whose 61 = .ok (.iconst 0, 1) := by decide +kernel
theorem dX10_whose_62 : decode cX10_whose 62 = .ok (.iaload, 1) := by decide +kernel
theorem dX10_whose_63 : decode cX10_whose 63 = .ok (.iconst 1, 1) := by decide +kernel
theorem dX10_whose_64 : decode cX10_whose 64 = .ok (.invokevirtual 201, 3) := by decide +kernel
theorem dX10_whose_67 : decode cX10_whose 67 = .ok (.ifCond .eq 43, 3) := by decide +kernel
theorem dX10_whose_70 : decode cX10_whose 70 = .ok (.iconst 1, 1) := by decide +kernel
theorem dX10_whose_71 : decode cX10_whose 71 = .ok (.istore_n 2, 1) := by decide +kernel
theorem dX10_whose_72 : decode cX10_whose 72 = .ok (.iload_n 3, 1) := by decide +kernel
theorem dX10_whose_73 : decode cX10_whose 73 = .ok (.ifCond .ne 11, 3) := by decide +kernel
theorem dX10_whose_76 : decode cX10_whose 76 = .ok (.aload_n 0, 1) := by decide +kernel
theorem dX10_whose_77 : decode cX10_whose 77 = .ok (.iload_n 1, 1) := by decide +kernel
theorem dX10_whose_78 : decode cX10_whose 78 = .ok (.invokevirtual 196, 3) := by decide +kernel
theorem dX10_whose_81 : decode cX10_whose 81 = .ok (.ifCond .eq 7, 3) := by decide +kernel
theorem dX10_whose_84 : decode cX10_whose 84 = .ok (.iconst 1, 1) := by decide +kernel
theorem dX10_whose_85 : decode cX10_whose 85 = .ok (.goto 4, 3) := by decide +kernel
theorem dX10_whose_88 : decode cX10_whose 88 = .ok (.iconst 0, 1) := by decide +kernel
theorem dX10_whose_89 : decode cX10_whose 89 = .ok (.istore_n 3, 1) := by decide +kernel
theorem dX10_whose_90 : decode cX10_whose 90 = .ok (.iload 4, 2) := by decide +kernel
theorem dX10_whose_92 : decode cX10_whose 92 = .ok (.ifCond .eq 15, 3) := by decide +kernel
theorem dX10_whose_95 : decode cX10_whose 95 = .ok (.aload_n 0, 1) := by decide +kernel
theorem dX10_whose_96 : decode cX10_whose 96 = .ok (.iload_n 1, 1) := by decide +kernel
theorem dX10_whose_97 : decode cX10_whose 97 = .ok (.invokevirtual 196, 3) := by decide +kernel
theorem dX10_whose_100 : decode cX10_whose 100 = .ok (.ifCond .eq 7, 3) := by decide +kernel
theorem dX10_whose_103 : decode cX10_whose 103 = .ok (.iconst 1, 1) := by decide +kernel
theorem dX10_whose_104 : decode cX10_whose 104 = .ok (.goto 4, 3) := by decide +kernel
theorem dX10_whose_107 : decode cX10_whose 107 = .ok (.iconst 0, 1) := by decide +kernel
theorem dX10_whose_108 : decode cX10_whose 108 = .ok (.istore 4, 2) := by decide +kernel
theorem dX10_whose_110 : decode cX10_whose 110 = .ok (.iinc 5 1, 3) := by decide +kernel
theorem dX10_whose_113 : decode cX10_whose 113 = .ok (.goto (-71), 3) := by decide +kernel
theorem dX10_whose_116 : decode cX10_whose 116 = .ok (.iload_n 2, 1) := by decide +kernel
theorem dX10_whose_117 : decode cX10_whose 117 = .ok (.ifCond .eq 12, 3) := by decide +kernel
theorem dX10_whose_120 : decode cX10_whose 120 = .ok (.iload 4, 2) := by decide +kernel
theorem dX10_whose_122 : decode cX10_whose 122 = .ok (.ifCond .eq 7, 3) := by decide +kernel
theorem dX10_whose_125 : decode cX10_whose 125 = .ok (.iconst 2, 1) := by decide +kernel
theorem dX10_whose_126 : decode cX10_whose 126 = .ok (.goto 12, 3) := by decide +kernel
theorem dX10_whose_129 : decode cX10_whose 129 = .ok (.iload_n 3, 1) := by decide +kernel
theorem dX10_whose_130 : decode cX10_whose 130 = .ok (.ifCond .eq 7, 3) := by decide +kernel
theorem dX10_whose_133 : decode cX10_whose 133 = .ok (.iconst 1, 1) := by decide +kernel
theorem dX10_whose_134 : decode cX10_whose 134 = .ok (.goto 4, 3) := by decide +kernel
theorem dX10_whose_137 : decode cX10_whose 137 = .ok (.iconst 0, 1) := by decide +kernel
theorem dX10_whose_138 : decode cX10_whose 138 = .ok (.ireturn, 1) := by decide +kernel
set_option maxRecDepth 20000 in
theorem ggX10_wouldHit_X10_off : GoodIn wsX10_wouldHit wsX10_off := goodIn_r _ [8] (by decide +kernel) (by decide +kernel)
set_option maxRecDepth 20000 in
theorem gX10_wouldHit_X10_off : GoodIn wsX10_wouldHit (va_wsS RX10 187 yX10_off wsX10_off) := goodIn_app (goodIn_of _ (by decide +kernel)) ggX10_wouldHit_X10_off
theorem dX10_wouldHit_0 : decode cX10_wouldHit 0 = .ok (.iconst 1, 1) := by decide +kernel
theorem dX10_wouldHit_1 : decode cX10_wouldHit 1 = .ok (.istore_n 2, 1) := by decide +kernel
theorem dX10_wouldHit_2 : decode cX10_wouldHit 2 = .ok (.iload_n 2, 1) := by decide +kernel
theorem dX10_wouldHit_3 : decode cX10_wouldHit 3 = .ok (.sipush 600, 3) := by decide +kernel
theorem dX10_wouldHit_6 : decode cX10_wouldHit 6 = .ok (.if_icmp .gt 86, 3) := by decide +kernel
theorem dX10_wouldHit_9 : decode cX10_wouldHit 9 = .ok (.aload_n 0, 1) := by decide +kernel
theorem dX10_wouldHit_10 : decode cX10_wouldHit 10 = .ok (.getfield 49, 3) := by decide +kernel
theorem dX10_wouldHit_13 : decode cX10_wouldHit 13 = .ok (.iconst 0, 1) := by decide +kernel
theorem dX10_wouldHit_14 : decode cX10_wouldHit 14 = .ok (.iaload, 1) := by decide +kernel
theorem dX10_wouldHit_15 : decode cX10_wouldHit 15 = .ok (.aload_n 0, 1) := by decide +kernel
theorem dX10_wouldHit_16 : decode cX10_wouldHit 16 = .ok (.getfield 16, 3) := by decide +kernel
theorem dX10_wouldHit_19 : decode cX10_wouldHit 19 = .ok (.iload_n 1, 1) := by decide +kernel
theorem dX10_wouldHit_20 : decode cX10_wouldHit 20 = .ok (.iconst 1, 1) := by decide +kernel
theorem dX10_wouldHit_21 : decode cX10_wouldHit 21 = .ok (.iadd, 1) := by decide +kernel
theorem dX10_wouldHit_22 : decode cX10_wouldHit 22 = .ok (.iaload, 1) := by decide +kernel
theorem dX10_wouldHit_23 : decode cX10_wouldHit 23 = .ok (.if_icmp .ge 69, 3) := by decide +kernel
theorem dX10_wouldHit_26 : decode cX10_wouldHit 26 = .ok (.aload_n 0, 1) := by decide +kernel
theorem dX10_wouldHit_27 : decode cX10_wouldHit 27 = .ok (.getfield 49, 3) := by decide +kernel
theorem dX10_wouldHit_30 : decode cX10_wouldHit 30 = .ok (.iload_n 2, 1) := by decide +kernel
theorem dX10_wouldHit_31 : decode cX10_wouldHit 31 = .ok (.iaload, 1) := by decide +kernel
theorem dX10_wouldHit_32 : decode cX10_wouldHit 32 = .ok (.aload_n 0, 1) := by decide +kernel
theorem dX10_wouldHit_33 : decode cX10_wouldHit 33 = .ok (.getfield 16, 3) := by decide +kernel
theorem dX10_wouldHit_36 : decode cX10_wouldHit 36 = .ok (.iload_n 1, 1) := by decide +kernel
theorem dX10_wouldHit_37 : decode cX10_wouldHit 37 = .ok (.iconst 1, 1) := by decide +kernel
theorem dX10_wouldHit_38 : decode cX10_wouldHit 38 = .ok (.iadd, 1) := by decide +kernel
theorem dX10_wouldHit_39 : decode cX10_wouldHit 39 = .ok (.iaload, 1) := by decide +kernel
theorem dX10_wouldHit_40 : decode cX10_wouldHit 40 = .ok (.if_icmp .lt 46, 3) := by decide +kernel
theorem dX10_wouldHit_43 : decode cX10_wouldHit 43 = .ok (.aload_n 0, 1) := by decide +kernel
theorem dX10_wouldHit_44 : decode cX10_wouldHit 44 = .ok (.getfield 52, 3) := by decide +kernel
theorem dX10_wouldHit_47 : decode cX10_wouldHit 47 = .ok (.iload_n 2, 1) := by decide +kernel
theorem dX10_wouldHit_48 : decode cX10_wouldHit 48 = .ok (.iaload, 1) := by decide +kernel
theorem dX10_wouldHit_49 : decode cX10_wouldHit 49 = .ok (.invokestatic 187, 3) := by decide +kernel
theorem dX10_wouldHit_52 : decode cX10_wouldHit 52 = .ok (.aload_n 0, 1) := by decide +kernel
theorem dX10_wouldHit_53 : decode cX10_wouldHit 53 = .ok (.getfield 16, 3) := by decide +kernel
theorem dX10_wouldHit_56 : decode cX10_wouldHit 56 = .ok (.iload_n 1, 1) := by decide +kernel
theorem dX10_wouldHit_57 : decode cX10_wouldHit 57 = .ok (.iconst 2, 1) := by decide +kernel
theorem dX10_wouldHit_58 : decode cX10_wouldHit 58 = .ok (.iadd, 1) := by decide +kernel
theorem dX10_wouldHit_59 : decode cX10_wouldHit 59 = .ok (.iaload, 1) := by decide +kernel
theorem dX10_wouldHit_60 : decode cX10_wouldHit 60 = .ok (.if_icmp .gt 24, 3) := by decide +kernel
theorem dX10_wouldHit_63 : decode cX10_wouldHit 63 = .ok (.aload_n 0, 1) := by decide +kernel
theorem dX10_wouldHit_64 : decode cX10_wouldHit 64 = .ok (.getfield 55, 3) := by decide +kernel
theorem dX10_wouldHit_67 : decode cX10_wouldHit 67 = .ok (.iload_n 2, 1) := by decide +kernel
theorem dX10_wouldHit_68 : decode cX10_wouldHit 68 = .ok (.iaload, 1) := by decide +kernel
theorem dX10_wouldHit_69 : decode cX10_wouldHit 69 = .ok (.aload_n 0, 1) := by decide +kernel
theorem dX10_wouldHit_70 : decode cX10_wouldHit 70 = .ok (.getfield 16, 3) := by decide +kernel
theorem dX10_wouldHit_73 : decode cX10_wouldHit 73 = .ok (.iload_n 1, 1) := by decide +kernel
theorem dX10_wouldHit_74 : decode cX10_wouldHit 74 = .ok (.iconst 3, 1) := by decide +kernel
theorem dX10_wouldHit_75 : decode cX10_wouldHit 75 = .ok (.iadd, 1) := by decide +kernel
theorem dX10_wouldHit_76 : decode cX10_wouldHit 76 = .ok (.iaload, 1) := by decide +kernel
theorem dX10_wouldHit_77 : decode cX10_wouldHit 77 = .ok (.if_icmp .gt 7, 3) := by decide +kernel
theorem dX10_wouldHit_80 : decode cX10_wouldHit 80 = .ok (.iconst 1, 1) := by decide +kernel
theorem dX10_wouldHit_81 : decode cX10_wouldHit 81 = .ok (.goto 4, 3) := by decide +kernel
theorem dX10_wouldHit_84 : decode cX10_wouldHit 84 = .ok (.iconst 0, 1) := by decide +kernel
theorem dX10_wouldHit_85 : decode cX10_wouldHit 85 = .ok (.ireturn, 1) := by decide +kernel
theorem dX10_wouldHit_86 : decode cX10_wouldHit 86 = .ok (.iinc 2 1, 3) := by decide +kernel
theorem dX10_wouldHit_89 : decode cX10_wouldHit 89 = .ok (.goto (-87), 3) := by decide +kernel
theorem dX10_wouldHit_92 : decode cX10_wouldHit 92 = .ok (.iconst 0, 1) := by decide +kernel
theorem dX10_wouldHit_93 : decode cX10_wouldHit 93 = .ok (.ireturn, 1) := by decide +kernel
set_option maxRecDepth 20000 in
theorem ggX10_would_X10_in : GoodIn wsX10_would wsX10_in := goodIn_r _ [5] (by decide +kernel) (by decide +kernel)
set_option maxRecDepth 20000 in
theorem gX10_would_X10_in : GoodIn wsX10_would (va_wsS RX10 76 yX10_in wsX10_in) := goodIn_app (goodIn_of _ (by decide +kernel)) ggX10_would_X10_in
set_option maxRecDepth 20000 in
theorem ggX10_would_X10_last : GoodIn wsX10_would wsX10_last := goodIn_r _ [9, 10, 11, 55, 56, 57, 58, 59, 60, 61, 62, 63, 64, 65, 66, 67, 68, 69, 70, 71, 72, 73, 74, 75, 76, 77, 78, 79, 80, 81, 82] (by decide +kernel) (by decide +kernel)
set_option maxRecDepth 20000 in
theorem gX10_would_X10_last : GoodIn wsX10_would (wsV RX10 119 RX10 yX10_last wsX10_last) := goodIn_app (goodIn_of _ (by decide +kernel)) ggX10_would_X10_last
set_option maxRecDepth 20000 in
theorem ggX10_would_X10_layCurve : GoodIn wsX10_would wsX10_layCurve := goodIn_r _ [15, 16, 17, 18, 19, 20, 21, 22, 23, 24, 25, 26, 27, 4, 28, 11, 6, 7, 8, 9, 10, 55, 56, 57, 58, 59, 60, 61, 62, 63, 64, 65, 66, 67, 68, 69, 70, 71, 72, 73, 74, 75, 76, 77, 78, 79, 80, 81, 82] (by decide +kernel) (by decide +kernel)
set_option maxRecDepth 20000 in
theorem gX10_would_X10_layCurve : GoodIn wsX10_would (wsV RX10 154 RX10 yX10_layCurve wsX10_layCurve) := goodIn_app (goodIn_of _ (by decide +kernel)) ggX10_would_X10_layCurve
set_option maxRecDepth 20000 in
theorem ggX10_would_X10_fitsAll : GoodIn wsX10_would wsX10_fitsAll := goodIn_r _ [32, 33, 34, 35, 36, 37, 4, 38, 39, 40, 41, 42, 23, 16, 18, 43, 44, 45, 46, 47, 19, 48, 49, 50, 55, 56, 57, 58, 59, 60, 61, 62, 63, 64, 65, 66, 67, 68, 69, 70, 71, 72, 73, 74, 75, 76, 77, 78, 79, 80, 81, 82] (by decide +kernel) (by decide +kernel)
set_option maxRecDepth 20000 in
theorem gX10_would_X10_fitsAll : GoodIn wsX10_would (wsV RX10 201 RX10 yX10_fitsAll wsX10_fitsAll) := goodIn_app (goodIn_of _ (by decide +kernel)) ggX10_would_X10_fitsAll
set_option maxRecDepth 20000 in
theorem ggX10_would_X10_wouldHit : GoodIn wsX10_would wsX10_wouldHit := goodIn_r _ [54, 16, 11, 18, 19, 48, 49, 4, 50, 55, 56, 57, 58, 59, 60, 61, 62, 63, 64, 65, 66, 67, 68, 69, 70, 71, 72, 73, 74, 75, 76, 77, 78, 79, 80, 81, 82] (by decide +kernel) (by decide +kernel)
set_option maxRecDepth 20000 in
theorem gX10_would_X10_wouldHit : GoodIn wsX10_would (wsV RX10 211 RX10 yX10_wouldHit wsX10_wouldHit) := goodIn_app (goodIn_of _ (by decide +kernel)) ggX10_would_X10_wouldHit
theorem dX10_would_0 : decode cX10_would 0 = .ok (.iload_n 1, 1) := by decide +kernel
theorem dX10_would_1 : decode cX10_would 1 = .ok (.i2l, 1) := by decide +kernel
theorem dX10_would_2 : decode cX10_would 2 = .ok (.lconst 0, 1) := by decide +kernel
theorem dX10_would_3 : decode cX10_would 3 = .ok (.lconst 1, 1) := by decide +kernel
theorem dX10_would_4 : decode cX10_would 4 = .ok (.invokestatic 76, 3) := by decide +kernel
theorem dX10_would_7 : decode cX10_would 7 = .ok (.ifCond .ne 5, 3) := by decide +kernel
theorem dX10_would_10 : decode cX10_would 10 = .ok (.iconst (-1), 1) := by decide +kernel
theorem dX10_would_11 : decode cX10_would 11 = .ok (.ireturn, 1) := by decide +kernel
theorem dX10_would_12 : decode cX10_would 12 = .ok (.aload_n 0, 1) := by decide +kernel
theorem dX10_would_13 : decode cX10_would 13 = .ok (.bipush 107, 2) := by decide +kernel
theorem dX10_would_15 : decode cX10_would 15 = .ok (.invokevirtual 119, 3) := by decide +kernel
theorem dX10_would_18 : decode cX10_would 18 = .ok (.istore_n 2, 1) := by decide +kernel
theorem dX10_would_19 : decode cX10_would 19 = .ok (.iload_n 2, 1) := by decide +kernel
theorem dX10_would_20 : decode cX10_would 20 = .ok (.bipush (-4), 2) := by decide +kernel
theorem dX10_would_22 : decode cX10_would 22 = .ok (.if_icmp .ne 6, 3) := by decide +kernel
theorem dX10_would_25 : decode cX10_would 25 = .ok (.bipush (-2), 2) := by decide +kernel
theorem dX10_would_27 : decode cX10_would 27 = .ok (.ireturn, 1) := by decide +kernel
theorem dX10_would_28 : decode cX10_would 28 = .ok (.iconst 0, 1) := by decide +kernel
theorem dX10_would_29 : decode cX10_would 29 = .ok (.istore_n 3, 1) := by decide +kernel
theorem dX10_would_30 : decode cX10_would 30 = .ok (.iconst 0, 1) := by decide +kernel
theorem dX10_would_31 : decode cX10_would 31 = .ok (.istore 4, 2) := by decide +kernel
theorem dX10_would_33 : decode cX10_would 33 = .ok (.iconst 0, 1) := by decide +kernel
theorem dX10_would_34 : decode cX10_would 34 = .ok (.istore 5, 2) := by decide +kernel
theorem dX10_would_36 : decode cX10_would 36 = .ok (.iload 5, 2) := by decide +kernel
theorem dX10_would_38 : decode cX10_would 38 = .ok (.sipush 189, 3) := by decide +kernel
theorem dX10_would_41 : decode cX10_would 41 = .ok (.if_icmp .ge 50, 3) := by decide +kernel
theorem dX10_would_44 : decode cX10_would 44 = .ok (.aload_n 0, 1) := by decide +kernel
theorem dX10_would_45 : decode cX10_would 45 = .ok (.iload 5, 2) := by decide +kernel
theorem dX10_would_47 : decode cX10_would 47 = .ok (.invokevirtual 154, 3) := by decide +kernel
theorem dX10_would_50 : decode cX10_would 50 = .ok (.aload_n 0, 1) := by decide +kernel
theorem dX10_would_51 : decode cX10_would 51 = .ok (.aload_n 0, 1) := by decide +kernel
theorem dX10_would_52 : decode cX10_would 52 = .ok (.getfield 22, 3) := by decide +kernel
theorem dX10_would_55 : decode cX10_would 55 = .ok (.iconst 0, 1) := by decide +kernel
theorem dX10_would_56 : decode cX10_would 56 = .ok (.iaload, 1) := by decide +kernel
theorem dX10_would_57 : decode cX10_would 57 = .ok (.iconst 0, 1) := by decide +kernel
theorem dX10_would_58 : decode cX10_would 58 = .ok (.invokevirtual 201, 3) := by decide +kernel
theorem dX10_would_61 : decode cX10_would 61 = .ok (.ifCond .eq 24, 3) := by decide +kernel
theorem dX10_would_64 : decode cX10_would 64 = .ok (.iinc 3 1, 3) := by decide +kernel
theorem dX10_would_67 : decode cX10_would 67 = .ok (.iload 4, 2) := by decide +kernel
theorem dX10_would_69 : decode cX10_would 69 = .ok (.aload_n 0, 1) := by decide +kernel
theorem dX10_would_70 : decode cX10_would 70 = .ok (.iload_n 2, 1) := by decide +kernel
theorem dX10_would_71 : decode cX10_would 71 = .ok (.invokevirtual 211, 3) := by decide +kernel
theorem dX10_would_74 : decode cX10_would 74 = .ok (.ifCond .eq 7, 3) := by decide +kernel
theorem dX10_would_77 : decode cX10_would 77 = .ok (.iconst 1, 1) := by decide +kernel
theorem dX10_would_78 : decode cX10_would 78 = .ok (.goto 4, 3) := by decide +kernel
theorem dX10_would_81 : decode cX10_would 81 = .ok (.iconst 0, 1) := by decide +kernel
theorem dX10_would_82 : decode cX10_would 82 = .ok (.iadd, 1) := by decide +kernel
theorem dX10_would_83 : decode cX10_would 83 = .ok (.istore 4, 2) := by decide +kernel
theorem dX10_would_85 : decode cX10_would 85 = .ok (.iinc 5 1, 3) := by decide +kernel
theorem dX10_would_88 : decode cX10_would 88 = .ok (.goto (-52), 3) := by decide +kernel
theorem dX10_would_91 : decode cX10_would 91 = .ok (.iload_n 1, 1) := by decide +kernel
theorem dX10_would_92 : decode cX10_would 92 = .ok (.ifCond .ne 8, 3) := by decide +kernel
theorem dX10_would_95 : decode cX10_would 95 = .ok (.iload 4, 2) := by decide +kernel
theorem dX10_would_97 : decode cX10_would 97 = .ok (.goto 4, 3) := by decide +kernel
theorem dX10_would_100 : decode cX10_would 100 = .ok (.iload_n 3, 1) := by decide +kernel
theorem dX10_would_101 : decode cX10_would 101 = .ok (.ireturn, 1) := by decide +kernel
set_option maxRecDepth 20000 in
theorem ggX10_call_X10_in : GoodIn wsX10_call wsX10_in := goodIn_r _ [8] (by decide +kernel) (by decide +kernel)
set_option maxRecDepth 20000 in
theorem gX10_call_X10_in : GoodIn wsX10_call (va_wsS RX10 76 yX10_in wsX10_in) := goodIn_app (goodIn_of _ (by decide +kernel)) ggX10_call_X10_in
theorem dX10_call_0 : decode cX10_call 0 = .ok (.iload_n 1, 1) := by decide +kernel
theorem dX10_call_1 : decode cX10_call 1 = .ok (.i2l, 1) := by decide +kernel
theorem dX10_call_2 : decode cX10_call 2 = .ok (.ldc2_w 214, 3) := by decide +kernel
theorem dX10_call_5 : decode cX10_call 5 = .ok (.ldc2_w 216, 3) := by decide +kernel
theorem dX10_call_8 : decode cX10_call 8 = .ok (.invokestatic 76, 3) := by decide +kernel
theorem dX10_call_11 : decode cX10_call 11 = .ok (.ifCond .eq 13, 3) := by decide +kernel
theorem dX10_call_14 : decode cX10_call 14 = .ok (.iload_n 2, 1) := by decide +kernel
theorem dX10_call_15 : decode cX10_call 15 = .ok (.i2l, 1) := by decide +kernel
theorem dX10_call_16 : decode cX10_call 16 = .ok (.lconst 0, 1) := by decide +kernel
theorem dX10_call_17 : decode cX10_call 17 = .ok (.lconst 1, 1) := by decide +kernel
theorem dX10_call_18 : decode cX10_call 18 = .ok (.invokestatic 76, 3) := by decide +kernel
theorem dX10_call_21 : decode cX10_call 21 = .ok (.ifCond .ne 5, 3) := by decide +kernel
theorem dX10_call_24 : decode cX10_call 24 = .ok (.iconst (-1), 1) := by decide +kernel
theorem dX10_call_25 : decode cX10_call 25 = .ok (.ireturn, 1) := by decide +kernel
theorem dX10_call_26 : decode cX10_call 26 = .ok (.aload_n 0, 1) := by decide +kernel
theorem dX10_call_27 : decode cX10_call 27 = .ok (.getfield 218, 3) := by decide +kernel
theorem dX10_call_30 : decode cX10_call 30 = .ok (.bipush 60, 2) := by decide +kernel
theorem dX10_call_32 : decode cX10_call 32 = .ok (.if_icmp .ne 6, 3) := by decide +kernel
theorem dX10_call_35 : decode cX10_call 35 = .ok (.bipush (-3), 2) := by decide +kernel
theorem dX10_call_37 : decode cX10_call 37 = .ok (.ireturn, 1) := by decide +kernel
theorem dX10_call_38 : decode cX10_call 38 = .ok (.aload_n 0, 1) := by decide +kernel
theorem dX10_call_39 : decode cX10_call 39 = .ok (.getfield 34, 3) := by decide +kernel
theorem dX10_call_42 : decode cX10_call 42 = .ok (.iconst 3, 1) := by decide +kernel
theorem dX10_call_43 : decode cX10_call 43 = .ok (.aload_n 0, 1) := by decide +kernel
theorem dX10_call_44 : decode cX10_call 44 = .ok (.getfield 218, 3) := by decide +kernel
theorem dX10_call_47 : decode cX10_call 47 = .ok (.imul, 1) := by decide +kernel
theorem dX10_call_48 : decode cX10_call 48 = .ok (.iload_n 1, 1) := by decide +kernel
theorem dX10_call_49 : decode cX10_call 49 = .ok (.iastore, 1) := by decide +kernel
theorem dX10_call_50 : decode cX10_call 50 = .ok (.aload_n 0, 1) := by decide +kernel
theorem dX10_call_51 : decode cX10_call 51 = .ok (.getfield 34, 3) := by decide +kernel
theorem dX10_call_54 : decode cX10_call 54 = .ok (.iconst 3, 1) := by decide +kernel
theorem dX10_call_55 : decode cX10_call 55 = .ok (.aload_n 0, 1) := by decide +kernel
theorem dX10_call_56 : decode cX10_call 56 = .ok (.getfield 218, 3) := by decide +kernel
theorem dX10_call_59 : decode cX10_call 59 = .ok (.imul, 1) := by decide +kernel
theorem dX10_call_60 : decode cX10_call 60 = .ok (.iconst 1, 1) := by decide +kernel
theorem dX10_call_61 : decode cX10_call 61 = .ok (.iadd, 1) := by decide +kernel
theorem dX10_call_62 : decode cX10_call 62 = .ok (.iload_n 2, 1) := by decide +kernel
theorem dX10_call_63 : decode cX10_call 63 = .ok (.iastore, 1) := by decide +kernel
theorem dX10_call_64 : decode cX10_call 64 = .ok (.aload_n 0, 1) := by decide +kernel
theorem dX10_call_65 : decode cX10_call 65 = .ok (.getfield 34, 3) := by decide +kernel
theorem dX10_call_68 : decode cX10_call 68 = .ok (.iconst 3, 1) := by decide +kernel
theorem dX10_call_69 : decode cX10_call 69 = .ok (.aload_n 0, 1) := by decide +kernel
theorem dX10_call_70 : decode cX10_call 70 = .ok (.getfield 218, 3) := by decide +kernel
theorem dX10_call_73 : decode cX10_call 73 = .ok (.imul, 1) := by decide +kernel
theorem dX10_call_74 : decode cX10_call 74 = .ok (.iconst 2, 1) := by decide +kernel
theorem dX10_call_75 : decode cX10_call 75 = .ok (.iadd, 1) := by decide +kernel
theorem dX10_call_76 : decode cX10_call 76 = .ok (.iload_n 3, 1) := by decide +kernel
theorem dX10_call_77 : decode cX10_call 77 = .ok (.ifCond .eq 7, 3) := by decide +kernel
theorem dX10_call_80 : decode cX10_call 80 = .ok (.iconst 1, 1) := by decide +kernel
theorem dX10_call_81 : decode cX10_call 81 = .ok (.goto 4, 3) := by decide +kernel
theorem dX10_call_84 : decode cX10_call 84 = .ok (.iconst 0, 1) := by decide +kernel
theorem dX10_call_85 : decode cX10_call 85 = .ok (.iastore, 1) := by decide +kernel
theorem dX10_call_86 : decode cX10_call 86 = .ok (.aload_n 0, 1) := by decide +kernel
theorem dX10_call_87 : decode cX10_call 87 = .ok (.dup, 1) := by decide +kernel
theorem dX10_call_88 : decode cX10_call 88 = .ok (.getfield 218, 3) := by decide +kernel
theorem dX10_call_91 : decode cX10_call 91 = .ok (.iconst 1, 1) := by decide +kernel
theorem dX10_call_92 : decode cX10_call 92 = .ok (.iadd, 1) := by decide +kernel
theorem dX10_call_93 : decode cX10_call 93 = .ok (.putfield 218, 3) := by decide +kernel
theorem dX10_call_96 : decode cX10_call 96 = .ok (.aload_n 0, 1) := by decide +kernel
theorem dX10_call_97 : decode cX10_call 97 = .ok (.getfield 218, 3) := by decide +kernel
theorem dX10_call_100 : decode cX10_call 100 = .ok (.ireturn, 1) := by decide +kernel
theorem dX10_notSo_0 : decode cX10_notSo 0 = .ok (.iconst 0, 1) := by decide +kernel
theorem dX10_notSo_1 : decode cX10_notSo 1 = .ok (.istore_n 3, 1) := by decide +kernel
theorem dX10_notSo_2 : decode cX10_notSo 2 = .ok (.iconst 0, 1) := by decide +kernel
theorem dX10_notSo_3 : decode cX10_notSo 3 = .ok (.istore 4, 2) := by decide +kernel
theorem dX10_notSo_5 : decode cX10_notSo 5 = .ok (.iload 4, 2) := by decide +kernel
theorem dX10_notSo_7 : decode cX10_notSo 7 = .ok (.aload_n 0, 1) := by decide +kernel
theorem dX10_notSo_8 : decode cX10_notSo 8 = .ok (.getfield 218, 3) := by decide +kernel
theorem dX10_notSo_11 : decode cX10_notSo 11 = .ok (.if_icmp .ge 76, 3) := by decide +kernel
theorem dX10_notSo_14 : decode cX10_notSo 14 = .ok (.aload_n 0, 1) := by decide +kernel
theorem dX10_notSo_15 : decode cX10_notSo 15 = .ok (.getfield 34, 3) := by decide +kernel
theorem dX10_notSo_18 : decode cX10_notSo 18 = .ok (.iconst 3, 1) := by decide +kernel
theorem dX10_notSo_19 : decode cX10_notSo 19 = .ok (.iload 4, 2) := by decide +kernel
theorem dX10_notSo_21 : decode cX10_notSo 21 = .ok (.imul, 1) := by decide +kernel
theorem dX10_notSo_22 : decode cX10_notSo 22 = .ok (.iconst 2, 1) := by decide +kernel
theorem dX10_notSo_23 : decode cX10_notSo 23 = .ok (.iadd, 1) := by decide +kernel
theorem dX10_notSo_24 : decode cX10_notSo 24 = .ok (.iaload, 1) := by decide +kernel
theorem dX10_notSo_25 : decode cX10_notSo 25 = .ok (.aload_n 0, 1) := by decide +kernel
theorem dX10_notSo_26 : decode cX10_notSo 26 = .ok (.getfield 34, 3) := by decide +kernel
theorem dX10_notSo_29 : decode cX10_notSo 29 = .ok (.iconst 3, 1) := by decide +kernel
theorem dX10_notSo_30 : decode cX10_notSo 30 = .ok (.iload 4, 2) := by decide +kernel
theorem dX10_notSo_32 : decode cX10_notSo 32 = .ok (.imul, 1) := by decide +kernel
theorem dX10_notSo_33 : decode cX10_notSo 33 = .ok (.iaload, 1) := by decide +kernel
theorem dX10_notSo_34 : decode cX10_notSo 34 = .ok (.iload_n 2, 1) := by decide +kernel
theorem dX10_notSo_35 : decode cX10_notSo 35 = .ok (.if_icmp .le 7, 3) := by decide +kernel
theorem dX10_notSo_38 : decode cX10_notSo 38 = .ok (.iconst 1, 1) := by decide +kernel
theorem dX10_notSo_39 : decode cX10_notSo 39 = .ok (.goto 4, 3) := by decide +kernel
theorem dX10_notSo_42 : decode cX10_notSo 42 = .ok (.iconst 0, 1) := by decide +kernel
theorem dX10_notSo_43 : decode cX10_notSo 43 = .ok (.if_icmp .ne 7, 3) := by decide +kernel
theorem dX10_notSo_46 : decode cX10_notSo 46 = .ok (.iconst 1, 1) := by decide +kernel
theorem dX10_notSo_47 : decode cX10_notSo 47 = .ok (.goto 4, 3) := by decide +kernel
theorem dX10_notSo_50 : decode cX10_notSo 50 = .ok (.iconst 0, 1) := by decide +kernel
theorem dX10_notSo_51 : decode cX10_notSo 51 = .ok (.istore 5, 2) := by decide +kernel
theorem dX10_notSo_53 : decode cX10_notSo 53 = .ok (.iload_n 3, 1) := by decide +kernel
theorem dX10_notSo_54 : decode cX10_notSo 54 = .ok (.aload_n 0, 1) := by decide +kernel
theorem dX10_notSo_55 : decode cX10_notSo 55 = .ok (.getfield 34, 3) := by decide +kernel
theorem dX10_notSo_58 : decode cX10_notSo 58 = .ok (.iconst 3, 1) := by decide +kernel
theorem dX10_notSo_59 : decode cX10_notSo 59 = .ok (.iload 4, 2) := by decide +kernel
theorem dX10_notSo_61 : decode cX10_notSo 61 = .ok (.imul, 1) := by decide +kernel
theorem dX10_notSo_62 : decode cX10_notSo 62 = .ok (.iconst 1, 1) := by decide +kernel
theorem dX10_notSo_63 : decode cX10_notSo 63 = .ok (.iadd, 1) := by decide +kernel
theorem dX10_notSo_64 : decode cX10_notSo 64 = .ok (.iaload, 1) := by decide +kernel
theorem dX10_notSo_65 : decode cX10_notSo 65 = .ok (.iload_n 1, 1) := by decide +kernel
theorem dX10_notSo_66 : decode cX10_notSo 66 = .ok (.if_icmp .ne 12, 3) := by decide +kernel
theorem dX10_notSo_69 : decode cX10_notSo 69 = .ok (.iload 5, 2) := by decide +kernel
theorem dX10_notSo_71 : decode cX10_notSo 71 = .ok (.ifCond .ne 7, 3) := by decide +kernel
theorem dX10_notSo_74 : decode cX10_notSo 74 = .ok (.iconst 1, 1) := by decide +kernel
theorem dX10_notSo_75 : decode cX10_notSo 75 = .ok (.goto 4, 3) := by decide +kernel
theorem dX10_notSo_78 : decode cX10_notSo 78 = .ok (.iconst 0, 1) := by decide +kernel
theorem dX10_notSo_79 : decode cX10_notSo 79 = .ok (.iadd, 1) := by decide +kernel
theorem dX10_notSo_80 : decode cX10_notSo 80 = .ok (.istore_n 3, 1) := by decide +kernel
theorem dX10_notSo_81 : decode cX10_notSo 81 = .ok (.iinc 4 1, 3) := by decide +kernel
theorem dX10_notSo_84 : decode cX10_notSo 84 = .ok (.goto (-79), 3) := by decide +kernel
theorem dX10_notSo_87 : decode cX10_notSo 87 = .ok (.iload_n 3, 1) := by decide +kernel
theorem dX10_notSo_88 : decode cX10_notSo 88 = .ok (.ireturn, 1) := by decide +kernel
set_option maxRecDepth 20000 in
theorem ggX10_lean_X10_in : GoodIn wsX10_lean wsX10_in := goodIn_r _ [4] (by decide +kernel) (by decide +kernel)
set_option maxRecDepth 20000 in
theorem gX10_lean_X10_in : GoodIn wsX10_lean (va_wsS RX10 76 yX10_in wsX10_in) := goodIn_app (goodIn_of _ (by decide +kernel)) ggX10_lean_X10_in
set_option maxRecDepth 20000 in
theorem ggX10_lean_X10_notSo : GoodIn wsX10_lean wsX10_notSo := goodIn_r _ [8, 9, 10, 14, 15, 16, 17, 18, 19, 20, 21, 22, 23, 24, 25, 26, 27, 28, 29, 30, 31, 32, 33, 34, 35, 36, 37, 38, 39, 40, 41] (by decide +kernel) (by decide +kernel)
set_option maxRecDepth 20000 in
theorem gX10_lean_X10_notSo : GoodIn wsX10_lean (wsV RX10 221 RX10 yX10_notSo wsX10_notSo) := goodIn_app (goodIn_of _ (by decide +kernel)) ggX10_lean_X10_notSo
set_option maxRecDepth 20000 in
theorem ggX10_lean_X10_off : GoodIn wsX10_lean wsX10_off := goodIn_r _ [13] (by decide +kernel) (by decide +kernel)
set_option maxRecDepth 20000 in
theorem gX10_lean_X10_off : GoodIn wsX10_lean (va_wsS RX10 187 yX10_off wsX10_off) := goodIn_app (goodIn_of _ (by decide +kernel)) ggX10_lean_X10_off
theorem dX10_lean_0 : decode cX10_lean 0 = .ok (.iload_n 1, 1) := by decide +kernel
theorem dX10_lean_1 : decode cX10_lean 1 = .ok (.i2l, 1) := by decide +kernel
theorem dX10_lean_2 : decode cX10_lean 2 = .ok (.lconst 0, 1) := by decide +kernel
theorem dX10_lean_3 : decode cX10_lean 3 = .ok (.lconst 1, 1) := by decide +kernel
theorem dX10_lean_4 : decode cX10_lean 4 = .ok (.invokestatic 76, 3) := by decide +kernel
theorem dX10_lean_7 : decode cX10_lean 7 = .ok (.ifCond .eq 13, 3) := by decide +kernel
theorem dX10_lean_10 : decode cX10_lean 10 = .ok (.iload_n 2, 1) := by decide +kernel
theorem dX10_lean_11 : decode cX10_lean 11 = .ok (.i2l, 1) := by decide +kernel
theorem dX10_lean_12 : decode cX10_lean 12 = .ok (.lconst 0, 1) := by decide +kernel
theorem dX10_lean_13 : decode cX10_lean 13 = .ok (.lconst 1, 1) := by decide +kernel
theorem dX10_lean_14 : decode cX10_lean 14 = .ok (.invokestatic 76, 3) := by decide +kernel
theorem dX10_lean_17 : decode cX10_lean 17 = .ok (.ifCond .ne 6, 3) := by decide +kernel
theorem dX10_lean_20 : decode cX10_lean 20 = .ok (.bipush (-100), 2) := by decide +kernel
theorem dX10_lean_22 : decode cX10_lean 22 = .ok (.ireturn, 1) := by decide +kernel
theorem dX10_lean_23 : decode cX10_lean 23 = .ok (.iconst 0, 1) := by decide +kernel
theorem dX10_lean_24 : decode cX10_lean 24 = .ok (.istore_n 3, 1) := by decide +kernel
theorem dX10_lean_25 : decode cX10_lean 25 = .ok (.bipush (-20), 2) := by decide +kernel
theorem dX10_lean_27 : decode cX10_lean 27 = .ok (.istore 4, 2) := by decide +kernel
theorem dX10_lean_29 : decode cX10_lean 29 = .ok (.iload 4, 2) := by decide +kernel
theorem dX10_lean_31 : decode cX10_lean 31 = .ok (.bipush 20, 2) := by decide +kernel
theorem dX10_lean_33 : decode cX10_lean 33 = .ok (.if_icmp .gt 73, 3) := by decide +kernel
theorem dX10_lean_36 : decode cX10_lean 36 = .ok (.aload_n 0, 1) := by decide +kernel
theorem dX10_lean_37 : decode cX10_lean 37 = .ok (.iload_n 1, 1) := by decide +kernel
theorem dX10_lean_38 : decode cX10_lean 38 = .ok (.iload_n 3, 1) := by decide +kernel
theorem dX10_lean_39 : decode cX10_lean 39 = .ok (.invokevirtual 221, 3) := by decide +kernel
theorem dX10_lean_42 : decode cX10_lean 42 = .ok (.aload_n 0, 1) := by decide +kernel
theorem dX10_lean_43 : decode cX10_lean 43 = .ok (.iload_n 1, 1) := by decide +kernel
theorem dX10_lean_44 : decode cX10_lean 44 = .ok (.iload 4, 2) := by decide +kernel
theorem dX10_lean_46 : decode cX10_lean 46 = .ok (.invokevirtual 221, 3) := by decide +kernel
theorem dX10_lean_49 : decode cX10_lean 49 = .ok (.isub, 1) := by decide +kernel
theorem dX10_lean_50 : decode cX10_lean 50 = .ok (.istore 5, 2) := by decide +kernel
theorem dX10_lean_52 : decode cX10_lean 52 = .ok (.iload 5, 2) := by decide +kernel
theorem dX10_lean_54 : decode cX10_lean 54 = .ok (.ifCond .gt 43, 3) := by decide +kernel
theorem dX10_lean_57 : decode cX10_lean 57 = .ok (.iload 5, 2) := by decide +kernel
theorem dX10_lean_59 : decode cX10_lean 59 = .ok (.ifCond .ne 15, 3) := by decide +kernel
theorem dX10_lean_62 : decode cX10_lean 62 = .ok (.iload 4, 2) := by decide +kernel
theorem dX10_lean_64 : decode cX10_lean 64 = .ok (.invokestatic 187, 3) := by decide +kernel
theorem dX10_lean_67 : decode cX10_lean 67 = .ok (.iload_n 3, 1) := by decide +kernel
theorem dX10_lean_68 : decode cX10_lean 68 = .ok (.invokestatic 187, 3) := by decide +kernel
theorem dX10_lean_71 : decode cX10_lean 71 = .ok (.if_icmp .lt 26, 3) := by decide +kernel
theorem dX10_lean_74 : decode cX10_lean 74 = .ok (.iload 5, 2) := by decide +kernel
theorem dX10_lean_76 : decode cX10_lean 76 = .ok (.ifCond .ne 24, 3) := by decide +kernel
theorem dX10_lean_79 : decode cX10_lean 79 = .ok (.iload 4, 2) := by decide +kernel
theorem dX10_lean_81 : decode cX10_lean 81 = .ok (.invokestatic 187, 3) := by decide +kernel
theorem dX10_lean_84 : decode cX10_lean 84 = .ok (.iload_n 3, 1) := by decide +kernel
theorem dX10_lean_85 : decode cX10_lean 85 = .ok (.invokestatic 187, 3) := by decide +kernel
theorem dX10_lean_88 : decode cX10_lean 88 = .ok (.if_icmp .ne 12, 3) := by decide +kernel
theorem dX10_lean_91 : decode cX10_lean 91 = .ok (.iload 4, 2) := by decide +kernel
theorem dX10_lean_93 : decode cX10_lean 93 = .ok (.iload_n 3, 1) := by decide +kernel
theorem dX10_lean_94 : decode cX10_lean 94 = .ok (.if_icmp .ge 6, 3) := by decide +kernel
theorem dX10_lean_97 : decode cX10_lean 97 = .ok (.iload 4, 2) := by decide +kernel
theorem dX10_lean_99 : decode cX10_lean 99 = .ok (.istore_n 3, 1) := by decide +kernel
theorem dX10_lean_100 : decode cX10_lean 100 = .ok (.iinc 4 1, 3) := by decide +kernel
theorem dX10_lean_103 : decode cX10_lean 103 = .ok (.goto (-74), 3) := by decide +kernel
theorem dX10_lean_106 : decode cX10_lean 106 = .ok (.iload_n 2, 1) := by decide +kernel
theorem dX10_lean_107 : decode cX10_lean 107 = .ok (.ifCond .ne 7, 3) := by decide +kernel
theorem dX10_lean_110 : decode cX10_lean 110 = .ok (.iload_n 3, 1) := by decide +kernel
theorem dX10_lean_111 : decode cX10_lean 111 = .ok (.goto 9, 3) := by decide +kernel
theorem dX10_lean_114 : decode cX10_lean 114 = .ok (.aload_n 0, 1) := by decide +kernel
theorem dX10_lean_115 : decode cX10_lean 115 = .ok (.iload_n 1, 1) := by decide +kernel
theorem dX10_lean_116 : decode cX10_lean 116 = .ok (.iload_n 3, 1) := by decide +kernel
theorem dX10_lean_117 : decode cX10_lean 117 = .ok (.invokevirtual 221, 3) := by decide +kernel
theorem dX10_lean_120 : decode cX10_lean 120 = .ok (.ireturn, 1) := by decide +kernel
set_option maxRecDepth 20000 in
theorem ggX10_sort_X10_in : GoodIn wsX10_sort wsX10_in := goodIn_r _ [8] (by decide +kernel) (by decide +kernel)
set_option maxRecDepth 20000 in
theorem gX10_sort_X10_in : GoodIn wsX10_sort (va_wsS RX10 76 yX10_in wsX10_in) := goodIn_app (goodIn_of _ (by decide +kernel)) ggX10_sort_X10_in
theorem dX10_sort_0 : decode cX10_sort 0 = .ok (.iload_n 1, 1) := by decide +kernel
theorem dX10_sort_1 : decode cX10_sort 1 = .ok (.i2l, 1) := by decide +kernel
theorem dX10_sort_2 : decode cX10_sort 2 = .ok (.lconst 0, 1) := by decide +kernel
theorem dX10_sort_3 : decode cX10_sort 3 = .ok (.ldc2_w 162, 3) := by decide +kernel
theorem dX10_sort_6 : decode cX10_sort 6 = .ok (.invokestatic 76, 3) := by decide +kernel
theorem dX10_sort_9 : decode cX10_sort 9 = .ok (.ifCond .eq 25, 3) := by decide +kernel
theorem dX10_sort_12 : decode cX10_sort 12 = .ok (.iload_n 2, 1) := by decide +kernel
theorem dX10_sort_13 : decode cX10_sort 13 = .ok (.i2l, 1) := by decide +kernel
theorem dX10_sort_14 : decode cX10_sort 14 = .ok (.lconst 0, 1) := by decide +kernel
theorem dX10_sort_15 : decode cX10_sort 15 = .ok (.lconst 1, 1) := by decide +kernel
theorem dX10_sort_16 : decode cX10_sort 16 = .ok (.invokestatic 76, 3) := by decide +kernel
theorem dX10_sort_19 : decode cX10_sort 19 = .ok (.ifCond .eq 15, 3) := by decide +kernel
theorem dX10_sort_22 : decode cX10_sort 22 = .ok (.iload_n 3, 1) := by decide +kernel
theorem dX10_sort_23 : decode cX10_sort 23 = .ok (.i2l, 1) := by decide +kernel
theorem dX10_sort_24 : decode cX10_sort 24 = .ok (.lconst 0, 1) := by decide +kernel
theorem dX10_sort_25 : decode cX10_sort 25 = .ok (.ldc2_w 168, 3) := by decide +kernel
theorem dX10_sort_28 : decode cX10_sort 28 = .ok (.invokestatic 76, 3) := by decide +kernel
theorem dX10_sort_31 : decode cX10_sort 31 = .ok (.ifCond .ne 5, 3) := by decide +kernel
theorem dX10_sort_34 : decode cX10_sort 34 = .ok (.iconst (-1), 1) := by decide +kernel
theorem dX10_sort_35 : decode cX10_sort 35 = .ok (.ireturn, 1) := by decide +kernel
theorem dX10_sort_36 : decode cX10_sort 36 = .ok (.iload_n 2, 1) := by decide +kernel
theorem dX10_sort_37 : decode cX10_sort 37 = .ok (.ifCond .ne 12, 3) := by decide +kernel
theorem dX10_sort_40 : decode cX10_sort 40 = .ok (.aload_n 0, 1) := by decide +kernel
theorem dX10_sort_41 : decode cX10_sort 41 = .ok (.getfield 37, 3) := by decide +kernel
theorem dX10_sort_44 : decode cX10_sort 44 = .ok (.iload_n 1, 1) := by decide +kernel
theorem dX10_sort_45 : decode cX10_sort 45 = .ok (.iaload, 1) := by decide +kernel
theorem dX10_sort_46 : decode cX10_sort 46 = .ok (.goto 9, 3) := by decide +kernel
theorem dX10_sort_49 : decode cX10_sort 49 = .ok (.aload_n 0, 1) := by decide +kernel
theorem dX10_sort_50 : decode cX10_sort 50 = .ok (.getfield 40, 3) := by decide +kernel
theorem dX10_sort_53 : decode cX10_sort 53 = .ok (.iload_n 1, 1) := by decide +kernel
theorem dX10_sort_54 : decode cX10_sort 54 = .ok (.iaload, 1) := by decide +kernel
theorem dX10_sort_55 : decode cX10_sort 55 = .ok (.istore 4, 2) := by decide +kernel
theorem dX10_sort_57 : decode cX10_sort 57 = .ok (.iload_n 2, 1) := by decide +kernel
theorem dX10_sort_58 : decode cX10_sort 58 = .ok (.ifCond .ne 13, 3) := by decide +kernel
theorem dX10_sort_61 : decode cX10_sort 61 = .ok (.aload_n 0, 1) := by decide +kernel
theorem dX10_sort_62 : decode cX10_sort 62 = .ok (.getfield 37, 3) := by decide +kernel
theorem dX10_sort_65 : decode cX10_sort 65 = .ok (.iload_n 1, 1) := by decide +kernel
theorem dX10_sort_66 : decode cX10_sort 66 = .ok (.iload_n 3, 1) := by decide +kernel
theorem dX10_sort_67 : decode cX10_sort 67 = .ok (.iastore, 1) := by decide +kernel
theorem dX10_sort_68 : decode cX10_sort 68 = .ok (.goto 10, 3) := by decide +kernel
theorem dX10_sort_71 : decode cX10_sort 71 = .ok (.aload_n 0, 1) := by decide +kernel
theorem dX10_sort_72 : decode cX10_sort 72 = .ok (.getfield 40, 3) := by decide +kernel
theorem dX10_sort_75 : decode cX10_sort 75 = .ok (.iload_n 1, 1) := by decide +kernel
theorem dX10_sort_76 : decode cX10_sort 76 = .ok (.iload_n 3, 1) := by decide +kernel
theorem dX10_sort_77 : decode cX10_sort 77 = .ok (.iastore, 1) := by decide +kernel
theorem dX10_sort_78 : decode cX10_sort 78 = .ok (.iload 4, 2) := by decide +kernel
theorem dX10_sort_80 : decode cX10_sort 80 = .ok (.ireturn, 1) := by decide +kernel
theorem dX10_areShares_0 : decode cX10_areShares 0 = .ok (.aload_n 0, 1) := by decide +kernel
theorem dX10_areShares_1 : decode cX10_areShares 1 = .ok (.getfield 37, 3) := by decide +kernel
theorem dX10_areShares_4 : decode cX10_areShares 4 = .ok (.iconst 0, 1) := by decide +kernel
theorem dX10_areShares_5 : decode cX10_areShares 5 = .ok (.iaload, 1) := by decide +kernel
theorem dX10_areShares_6 : decode cX10_areShares 6 = .ok (.aload_n 0, 1) := by decide +kernel
theorem dX10_areShares_7 : decode cX10_areShares 7 = .ok (.getfield 37, 3) := by decide +kernel
theorem dX10_areShares_10 : decode cX10_areShares 10 = .ok (.iconst 1, 1) := by decide +kernel
theorem dX10_areShares_11 : decode cX10_areShares 11 = .ok (.iaload, 1) := by decide +kernel
theorem dX10_areShares_12 : decode cX10_areShares 12 = .ok (.iadd, 1) := by decide +kernel
theorem dX10_areShares_13 : decode cX10_areShares 13 = .ok (.aload_n 0, 1) := by decide +kernel
theorem dX10_areShares_14 : decode cX10_areShares 14 = .ok (.getfield 37, 3) := by decide +kernel
theorem dX10_areShares_17 : decode cX10_areShares 17 = .ok (.iconst 2, 1) := by decide +kernel
theorem dX10_areShares_18 : decode cX10_areShares 18 = .ok (.iaload, 1) := by decide +kernel
theorem dX10_areShares_19 : decode cX10_areShares 19 = .ok (.iadd, 1) := by decide +kernel
theorem dX10_areShares_20 : decode cX10_areShares 20 = .ok (.aload_n 0, 1) := by decide +kernel
theorem dX10_areShares_21 : decode cX10_areShares 21 = .ok (.getfield 37, 3) := by decide +kernel
theorem dX10_areShares_24 : decode cX10_areShares 24 = .ok (.iconst 3, 1) := by decide +kernel
theorem dX10_areShares_25 : decode cX10_areShares 25 = .ok (.iaload, 1) := by decide +kernel
theorem dX10_areShares_26 : decode cX10_areShares 26 = .ok (.iadd, 1) := by decide +kernel
theorem dX10_areShares_27 : decode cX10_areShares 27 = .ok (.bipush 10, 2) := by decide +kernel
theorem dX10_areShares_29 : decode cX10_areShares 29 = .ok (.if_icmp .ne 7, 3) := by decide +kernel
theorem dX10_areShares_32 : decode cX10_areShares 32 = .ok (.iconst 1, 1) := by decide +kernel
theorem dX10_areShares_33 : decode cX10_areShares 33 = .ok (.goto 4, 3) := by decide +kernel
theorem dX10_areShares_36 : decode cX10_areShares 36 = .ok (.iconst 0, 1) := by decide +kernel
theorem dX10_areShares_37 : decode cX10_areShares 37 = .ok (.ireturn, 1) := by decide +kernel
theorem dX10_asked_0 : decode cX10_asked 0 = .ok (.aload_n 0, 1) := by decide +kernel
theorem dX10_asked_1 : decode cX10_asked 1 = .ok (.getfield 40, 3) := by decide +kernel
theorem dX10_asked_4 : decode cX10_asked 4 = .ok (.iload_n 3, 1) := by decide +kernel
theorem dX10_asked_5 : decode cX10_asked 5 = .ok (.iaload, 1) := by decide +kernel
theorem dX10_asked_6 : decode cX10_asked 6 = .ok (.i2l, 1) := by decide +kernel
theorem dX10_asked_7 : decode cX10_asked 7 = .ok (.aload_n 0, 1) := by decide +kernel
theorem dX10_asked_8 : decode cX10_asked 8 = .ok (.getfield 67, 3) := by decide +kernel
theorem dX10_asked_11 : decode cX10_asked 11 = .ok (.iload_n 1, 1) := by decide +kernel
theorem dX10_asked_12 : decode cX10_asked 12 = .ok (.laload, 1) := by decide +kernel
theorem dX10_asked_13 : decode cX10_asked 13 = .ok (.aload_n 0, 1) := by decide +kernel
theorem dX10_asked_14 : decode cX10_asked 14 = .ok (.getfield 71, 3) := by decide +kernel
theorem dX10_asked_17 : decode cX10_asked 17 = .ok (.bipush 9, 2) := by decide +kernel
theorem dX10_asked_19 : decode cX10_asked 19 = .ok (.iload_n 1, 1) := by decide +kernel
theorem dX10_asked_20 : decode cX10_asked 20 = .ok (.imul, 1) := by decide +kernel
theorem dX10_asked_21 : decode cX10_asked 21 = .ok (.iload_n 2, 1) := by decide +kernel
theorem dX10_asked_22 : decode cX10_asked 22 = .ok (.iadd, 1) := by decide +kernel
theorem dX10_asked_23 : decode cX10_asked 23 = .ok (.laload, 1) := by decide +kernel
theorem dX10_asked_24 : decode cX10_asked 24 = .ok (.ladd, 1) := by decide +kernel
theorem dX10_asked_25 : decode cX10_asked 25 = .ok (.lmul, 1) := by decide +kernel
theorem dX10_asked_26 : decode cX10_asked 26 = .ok (.ldc2_w 168, 3) := by decide +kernel
theorem dX10_asked_29 : decode cX10_asked 29 = .ok (.aload_n 0, 1) := by decide +kernel
theorem dX10_asked_30 : decode cX10_asked 30 = .ok (.getfield 40, 3) := by decide +kernel
theorem dX10_asked_33 : decode cX10_asked 33 = .ok (.iload_n 3, 1) := by decide +kernel
theorem dX10_asked_34 : decode cX10_asked 34 = .ok (.iaload, 1) := by decide +kernel
theorem dX10_asked_35 : decode cX10_asked 35 = .ok (.i2l, 1) := by decide +kernel
theorem dX10_asked_36 : decode cX10_asked 36 = .ok (.lsub, 1) := by decide +kernel
theorem dX10_asked_37 : decode cX10_asked 37 = .ok (.aload_n 0, 1) := by decide +kernel
theorem dX10_asked_38 : decode cX10_asked 38 = .ok (.getfield 71, 3) := by decide +kernel
theorem dX10_asked_41 : decode cX10_asked 41 = .ok (.bipush 9, 2) := by decide +kernel
theorem dX10_asked_43 : decode cX10_asked 43 = .ok (.iload_n 1, 1) := by decide +kernel
theorem dX10_asked_44 : decode cX10_asked 44 = .ok (.imul, 1) := by decide +kernel
theorem dX10_asked_45 : decode cX10_asked 45 = .ok (.iload_n 2, 1) := by decide +kernel
theorem dX10_asked_46 : decode cX10_asked 46 = .ok (.iadd, 1) := by decide +kernel
theorem dX10_asked_47 : decode cX10_asked 47 = .ok (.iconst 1, 1) := by decide +kernel
theorem dX10_asked_48 : decode cX10_asked 48 = .ok (.isub, 1) := by decide +kernel
theorem dX10_asked_49 : decode cX10_asked 49 = .ok (.laload, 1) := by decide +kernel
theorem dX10_asked_50 : decode cX10_asked 50 = .ok (.lmul, 1) := by decide +kernel
theorem dX10_asked_51 : decode cX10_asked 51 = .ok (.ladd, 1) := by decide +kernel
theorem dX10_asked_52 : decode cX10_asked 52 = .ok (.lreturn, 1) := by decide +kernel
set_option maxRecDepth 20000 in
theorem ggX10_layWorths_X10_asked : GoodIn wsX10_layWorths wsX10_asked := goodIn_r _ [10, 11, 1, 2, 4, 12, 13, 14, 15, 16, 17, 18, 19, 20, 21, 22, 23, 24, 25, 26, 27, 28, 29, 30, 31, 32, 33, 34, 35, 36, 37, 38, 39] (by decide +kernel) (by decide +kernel)
set_option maxRecDepth 20000 in
theorem gX10_layWorths_X10_asked : GoodIn wsX10_layWorths (wsV RX10 225 RX10 yX10_asked wsX10_asked) := goodIn_app (goodIn_of _ (by decide +kernel)) ggX10_layWorths_X10_asked
theorem dX10_layWorths_0 : decode cX10_layWorths 0 = .ok (.aload_n 0, 1) := by decide +kernel
theorem dX10_layWorths_1 : decode cX10_layWorths 1 = .ok (.getfield 67, 3) := by decide +kernel
theorem dX10_layWorths_4 : decode cX10_layWorths 4 = .ok (.iconst 0, 1) := by decide +kernel
theorem dX10_layWorths_5 : decode cX10_layWorths 5 = .ok (.lconst 1, 1) := by decide +kernel
theorem dX10_layWorths_6 : decode cX10_layWorths 6 = .ok (.lastore, 1) := by decide +kernel
theorem dX10_layWorths_7 : decode cX10_layWorths 7 = .ok (.iconst 0, 1) := by decide +kernel
theorem dX10_layWorths_8 : decode cX10_layWorths 8 = .ok (.istore_n 1, 1) := by decide +kernel
theorem dX10_layWorths_9 : decode cX10_layWorths 9 = .ok (.iload_n 1, 1) := by decide +kernel
theorem dX10_layWorths_10 : decode cX10_layWorths 10 = .ok (.bipush 9, 2) := by decide +kernel
theorem dX10_layWorths_12 : decode cX10_layWorths 12 = .ok (.if_icmp .ge 16, 3) := by decide +kernel
theorem dX10_layWorths_15 : decode cX10_layWorths 15 = .ok (.aload_n 0, 1) := by decide +kernel
theorem dX10_layWorths_16 : decode cX10_layWorths 16 = .ok (.getfield 71, 3) := by decide +kernel
theorem dX10_layWorths_19 : decode cX10_layWorths 19 = .ok (.iload_n 1, 1) := by decide +kernel
theorem dX10_layWorths_20 : decode cX10_layWorths 20 = .ok (.lconst 0, 1) := by decide +kernel
theorem dX10_layWorths_21 : decode cX10_layWorths 21 = .ok (.lastore, 1) := by decide +kernel
theorem dX10_layWorths_22 : decode cX10_layWorths 22 = .ok (.iinc 1 1, 3) := by decide +kernel
theorem dX10_layWorths_25 : decode cX10_layWorths 25 = .ok (.goto (-16), 3) := by decide +kernel
theorem dX10_layWorths_28 : decode cX10_layWorths 28 = .ok (.iconst 1, 1) := by decide +kernel
theorem dX10_layWorths_29 : decode cX10_layWorths 29 = .ok (.istore_n 1, 1) := by decide +kernel
theorem dX10_layWorths_30 : decode cX10_layWorths 30 = .ok (.iload_n 1, 1) := by decide +kernel
theorem dX10_layWorths_31 : decode cX10_layWorths 31 = .ok (.bipush 8, 2) := by decide +kernel
theorem dX10_layWorths_33 : decode cX10_layWorths 33 = .ok (.if_icmp .gt 136, 3) := by decide +kernel
theorem dX10_layWorths_36 : decode cX10_layWorths 36 = .ok (.aload_n 0, 1) := by decide +kernel
theorem dX10_layWorths_37 : decode cX10_layWorths 37 = .ok (.getfield 67, 3) := by decide +kernel
theorem dX10_layWorths_40 : decode cX10_layWorths 40 = .ok (.iload_n 1, 1) := by decide +kernel
theorem dX10_layWorths_41 : decode cX10_layWorths 41 = .ok (.ldc2_w 105, 3) := by decide +kernel
theorem dX10_layWorths_44 : decode cX10_layWorths 44 = .ok (.aload_n 0, 1) := by decide +kernel
theorem dX10_layWorths_45 : decode cX10_layWorths 45 = .ok (.getfield 67, 3) := by decide +kernel
theorem dX10_layWorths_48 : decode cX10_layWorths 48 = .ok (.iload_n 1, 1) := by decide +kernel
theorem dX10_layWorths_49 : decode cX10_layWorths 49 = .ok (.iconst 1, 1) := by decide +kernel
theorem dX10_layWorths_50 : decode cX10_layWorths 50 = .ok (.isub, 1) := by decide +kernel
theorem dX10_layWorths_51 : decode cX10_layWorths 51 = .ok (.laload, 1) := by decide +kernel
theorem dX10_layWorths_52 : decode cX10_layWorths 52 = .ok (.lmul, 1) := by decide +kernel
theorem dX10_layWorths_53 : decode cX10_layWorths 53 = .ok (.lastore, 1) := by decide +kernel
theorem dX10_layWorths_54 : decode cX10_layWorths 54 = .ok (.iconst 0, 1) := by decide +kernel
theorem dX10_layWorths_55 : decode cX10_layWorths 55 = .ok (.istore_n 2, 1) := by decide +kernel
theorem dX10_layWorths_56 : decode cX10_layWorths 56 = .ok (.iload_n 2, 1) := by decide +kernel
theorem dX10_layWorths_57 : decode cX10_layWorths 57 = .ok (.bipush 9, 2) := by decide +kernel
theorem dX10_layWorths_59 : decode cX10_layWorths 59 = .ok (.if_icmp .ge 104, 3) := by decide +kernel
theorem dX10_layWorths_62 : decode cX10_layWorths 62 = .ok (.lconst 0, 1) := by decide +kernel
theorem dX10_layWorths_63 : decode cX10_layWorths 63 = .ok (.lstore_n 3, 1) := by decide +kernel
theorem dX10_layWorths_64 : decode cX10_layWorths 64 = .ok (.iconst 0, 1) := by decide +kernel
theorem dX10_layWorths_65 : decode cX10_layWorths 65 = .ok (.istore 5, 2) := by decide +kernel
theorem dX10_layWorths_67 : decode cX10_layWorths 67 = .ok (.iload 5, 2) := by decide +kernel
theorem dX10_layWorths_69 : decode cX10_layWorths 69 = .ok (.iconst 4, 1) := by decide +kernel
theorem dX10_layWorths_70 : decode cX10_layWorths 70 = .ok (.if_icmp .ge 75, 3) := by decide +kernel
theorem dX10_layWorths_73 : decode cX10_layWorths 73 = .ok (.ldc2_w 168, 3) := by decide +kernel
theorem dX10_layWorths_76 : decode cX10_layWorths 76 = .ok (.aload_n 0, 1) := by decide +kernel
theorem dX10_layWorths_77 : decode cX10_layWorths 77 = .ok (.getfield 71, 3) := by decide +kernel
theorem dX10_layWorths_80 : decode cX10_layWorths 80 = .ok (.bipush 9, 2) := by decide +kernel
theorem dX10_layWorths_82 : decode cX10_layWorths 82 = .ok (.iload_n 1, 1) := by decide +kernel
theorem dX10_layWorths_83 : decode cX10_layWorths 83 = .ok (.iconst 1, 1) := by decide +kernel
theorem dX10_layWorths_84 : decode cX10_layWorths 84 = .ok (.isub, 1) := by decide +kernel
theorem dX10_layWorths_85 : decode cX10_layWorths 85 = .ok (.imul, 1) := by decide +kernel
theorem dX10_layWorths_86 : decode cX10_layWorths 86 = .ok (.iload_n 2, 1) := by decide +kernel
theorem dX10_layWorths_87 : decode cX10_layWorths 87 = .ok (.iadd, 1) := by decide +kernel
theorem dX10_layWorths_88 : decode cX10_layWorths 88 = .ok (.laload, 1) := by decide +kernel
theorem dX10_layWorths_89 : decode cX10_layWorths 89 = .ok (.lmul, 1) := by decide +kernel
theorem dX10_layWorths_90 : decode cX10_layWorths 90 = .ok (.lstore 6, 2) := by decide +kernel
theorem dX10_layWorths_92 : decode cX10_layWorths 92 = .ok (.iload_n 2, 1) := by decide +kernel
theorem dX10_layWorths_93 : decode cX10_layWorths 93 = .ok (.ifCond .ne 7, 3) := by decide +kernel
theorem dX10_layWorths_96 : decode cX10_layWorths 96 = .ok (.lconst 0, 1) := by decide +kernel
theorem dX10_layWorths_97 : decode cX10_layWorths 97 = .ok (.goto 13, 3) := by decide +kernel
theorem dX10_layWorths_100 : decode cX10_layWorths 100 = .ok (.aload_n 0, 1) := by decide +kernel
theorem dX10_layWorths_101 : decode cX10_layWorths 101 = .ok (.iload_n 1, 1) := by decide +kernel
theorem dX10_layWorths_102 : decode cX10_layWorths 102 = .ok (.iconst 1, 1) := by decide +kernel
theorem dX10_layWorths_103 : decode cX10_layWorths 103 = .ok (.isub, 1) := by decide +kernel
theorem dX10_layWorths_104 : decode cX10_layWorths 104 = .ok (.iload_n 2, 1) := by decide +kernel
theorem dX10_layWorths_105 : decode cX10_layWorths 105 = .ok (.iload 5, 2) := by decide +kernel
theorem dX10_layWorths_107 : decode cX10_layWorths 107 = .ok (.invokevirtual 225, 3) := by decide +kernel
theorem dX10_layWorths_110 : decode cX10_layWorths 110 = .ok (.lstore 8, 2) := by decide +kernel
theorem dX10_layWorths_112 : decode cX10_layWorths 112 = .ok (.lload_n 3, 1) := by decide +kernel
theorem dX10_layWorths_113 : decode cX10_layWorths 113 = .ok (.aload_n 0, 1) := by decide +kernel
theorem dX10_layWorths_114 : decode cX10_layWorths 114 = .ok (.getfield 37, 3) := by decide +kernel
theorem dX10_layWorths_117 : decode cX10_layWorths 117 = .ok (.iload 5, 2) := by decide +kernel
theorem dX10_layWorths_119 : decode cX10_layWorths 119 = .ok (.iaload, 1) := by decide +kernel
theorem dX10_layWorths_120 : decode cX10_layWorths 120 = .ok (.i2l, 1) := by decide +kernel
theorem dX10_layWorths_121 : decode cX10_layWorths 121 = .ok (.lload 8, 2) := by decide +kernel
theorem dX10_layWorths_123 : decode cX10_layWorths 123 = .ok (.lload 6, 2) := by decide +kernel
theorem dX10_layWorths_125 : decode cX10_layWorths 125 = .ok (.lcmp, 1) := by decide +kernel
theorem dX10_layWorths_126 : decode cX10_layWorths 126 = .ok (.ifCond .le 8, 3) := by decide +kernel
theorem dX10_layWorths_129 : decode cX10_layWorths 129 = .ok (.lload 8, 2) := by decide +kernel
theorem dX10_layWorths_131 : decode cX10_layWorths 131 = .ok (.goto 5, 3) := by decide +kernel
theorem dX10_layWorths_134 : decode cX10_layWorths 134 = .ok (.lload 6, 2) := by decide +kernel
theorem dX10_layWorths_136 : decode cX10_layWorths 136 = .ok (.lmul, 1) := by decide +kernel
theorem dX10_layWorths_137 : decode cX10_layWorths 137 = .ok (.ladd, 1) := by decide +kernel
theorem dX10_layWorths_138 : decode cX10_layWorths 138 = .ok (.lstore_n 3, 1) := by decide +kernel
theorem dX10_layWorths_139 : decode cX10_layWorths 139 = .ok (.iinc 5 1, 3) := by decide +kernel
theorem dX10_layWorths_142 : decode cX10_layWorths 142 = .ok (.goto (-75), 3) := by decide +kernel
theorem dX10_layWorths_145 : decode cX10_layWorths 145 = .ok (.aload_n 0, 1) := by decide +kernel
theorem dX10_layWorths_146 : decode cX10_layWorths 146 = .ok (.getfield 71, 3) := by decide +kernel
theorem dX10_layWorths_149 : decode cX10_layWorths 149 = .ok (.bipush 9, 2) := by decide +kernel
theorem dX10_layWorths_151 : decode cX10_layWorths 151 = .ok (.iload_n 1, 1) := by decide +kernel
theorem dX10_layWorths_152 : decode cX10_layWorths 152 = .ok (.imul, 1) := by decide +kernel
theorem dX10_layWorths_153 : decode cX10_layWorths 153 = .ok (.iload_n 2, 1) := by decide +kernel
theorem dX10_layWorths_154 : decode cX10_layWorths 154 = .ok (.iadd, 1) := by decide +kernel
theorem dX10_layWorths_155 : decode cX10_layWorths 155 = .ok (.lload_n 3, 1) := by decide +kernel
theorem dX10_layWorths_156 : decode cX10_layWorths 156 = .ok (.lastore, 1) := by decide +kernel
theorem dX10_layWorths_157 : decode cX10_layWorths 157 = .ok (.iinc 2 1, 3) := by decide +kernel
theorem dX10_layWorths_160 : decode cX10_layWorths 160 = .ok (.goto (-104), 3) := by decide +kernel
theorem dX10_layWorths_163 : decode cX10_layWorths 163 = .ok (.iinc 1 1, 3) := by decide +kernel
theorem dX10_layWorths_166 : decode cX10_layWorths 166 = .ok (.goto (-136), 3) := by decide +kernel
theorem dX10_layWorths_169 : decode cX10_layWorths 169 = .ok (.return_, 1) := by decide +kernel
theorem dX10_common_0 : decode cX10_common 0 = .ok (.lload_n 0, 1) := by decide +kernel
theorem dX10_common_1 : decode cX10_common 1 = .ok (.lstore 4, 2) := by decide +kernel
theorem dX10_common_3 : decode cX10_common 3 = .ok (.lload_n 2, 1) := by decide +kernel
theorem dX10_common_4 : decode cX10_common 4 = .ok (.lstore 6, 2) := by decide +kernel
theorem dX10_common_6 : decode cX10_common 6 = .ok (.lload 6, 2) := by decide +kernel
theorem dX10_common_8 : decode cX10_common 8 = .ok (.lconst 0, 1) := by decide +kernel
theorem dX10_common_9 : decode cX10_common 9 = .ok (.lcmp, 1) := by decide +kernel
theorem dX10_common_10 : decode cX10_common 10 = .ok (.ifCond .eq 21, 3) := by decide +kernel
theorem dX10_common_13 : decode cX10_common 13 = .ok (.lload 4, 2) := by decide +kernel
theorem dX10_common_15 : decode cX10_common 15 = .ok (.lload 6, 2) := by decide +kernel
theorem dX10_common_17 : decode cX10_common 17 = .ok (.lrem, 1) := by decide +kernel
theorem dX10_common_18 : decode cX10_common 18 = .ok (.lstore 8, 2) := by decide +kernel
theorem dX10_common_20 : decode cX10_common 20 = .ok (.lload 6, 2) := by decide +kernel
theorem dX10_common_22 : decode cX10_common 22 = .ok (.lstore 4, 2) := by decide +kernel
theorem dX10_common_24 : decode cX10_common 24 = .ok (.lload 8, 2) := by decide +kernel
theorem dX10_common_26 : decode cX10_common 26 = .ok (.lstore 6, 2) := by decide +kernel
theorem dX10_common_28 : decode cX10_common 28 = .ok (.goto (-22), 3) := by decide +kernel
theorem dX10_common_31 : decode cX10_common 31 = .ok (.lload 4, 2) := by decide +kernel
theorem dX10_common_33 : decode cX10_common 33 = .ok (.lreturn, 1) := by decide +kernel
set_option maxRecDepth 20000 in
theorem ggX10_worth_X10_in : GoodIn wsX10_worth wsX10_in := goodIn_r _ [9] (by decide +kernel) (by decide +kernel)
set_option maxRecDepth 20000 in
theorem gX10_worth_X10_in : GoodIn wsX10_worth (va_wsS RX10 76 yX10_in wsX10_in) := goodIn_app (goodIn_of _ (by decide +kernel)) ggX10_worth_X10_in
set_option maxRecDepth 20000 in
theorem ggX10_worth_X10_areShares : GoodIn wsX10_worth wsX10_areShares := goodIn_r _ [13, 14, 29, 30, 31, 32, 33, 34, 35, 36, 37, 38, 39, 40, 41, 42, 43, 44, 45, 46, 47, 48, 49, 50, 51, 52, 53, 54, 55, 56] (by decide +kernel) (by decide +kernel)
set_option maxRecDepth 20000 in
theorem gX10_worth_X10_areShares : GoodIn wsX10_worth (wsV RX10 229 RX10 yX10_areShares wsX10_areShares) := goodIn_app (goodIn_of _ (by decide +kernel)) ggX10_worth_X10_areShares
set_option maxRecDepth 20000 in
theorem ggX10_worth_X10_layWorths : GoodIn wsX10_worth wsX10_layWorths := goodIn_r _ [18, 4, 5, 19, 20, 14, 21, 22, 23, 8, 24, 25, 29, 30, 31, 32, 33, 34, 35, 36, 37, 38, 39, 40, 41, 42, 43, 44, 45, 46, 47, 48, 49, 50, 51, 52, 53, 54, 55, 56] (by decide +kernel) (by decide +kernel)
set_option maxRecDepth 20000 in
theorem gX10_worth_X10_layWorths : GoodIn wsX10_worth (wsV RX10 234 RX10 yX10_layWorths wsX10_layWorths) := goodIn_app (goodIn_of _ (by decide +kernel)) ggX10_worth_X10_layWorths
set_option maxRecDepth 20000 in
theorem ggX10_worth_X10_common : GoodIn wsX10_worth wsX10_common := goodIn_r _ [28] (by decide +kernel) (by decide +kernel)
set_option maxRecDepth 20000 in
theorem gX10_worth_X10_common : GoodIn wsX10_worth (va_wsS RX10 237 yX10_common wsX10_common) := goodIn_app (goodIn_of _ (by decide +kernel)) ggX10_worth_X10_common
theorem dX10_worth_0 : decode cX10_worth 0 = .ok (.iload_n 1, 1) := by decide +kernel
theorem dX10_worth_1 : decode cX10_worth 1 = .ok (.i2l, 1) := by decide +kernel
theorem dX10_worth_2 : decode cX10_worth 2 = .ok (.lconst 0, 1) := by decide +kernel
theorem dX10_worth_3 : decode cX10_worth 3 = .ok (.ldc2_w 74, 3) := by decide +kernel
theorem dX10_worth_6 : decode cX10_worth 6 = .ok (.invokestatic 76, 3) := by decide +kernel
theorem dX10_worth_9 : decode cX10_worth 9 = .ok (.ifCond .eq 25, 3) := by decide +kernel
theorem dX10_worth_12 : decode cX10_worth 12 = .ok (.iload_n 2, 1) := by decide +kernel
theorem dX10_worth_13 : decode cX10_worth 13 = .ok (.i2l, 1) := by decide +kernel
theorem dX10_worth_14 : decode cX10_worth 14 = .ok (.lconst 0, 1) := by decide +kernel
theorem dX10_worth_15 : decode cX10_worth 15 = .ok (.ldc2_w 74, 3) := by decide +kernel
theorem dX10_worth_18 : decode cX10_worth 18 = .ok (.invokestatic 76, 3) := by decide +kernel
theorem dX10_worth_21 : decode cX10_worth 21 = .ok (.ifCond .eq 13, 3) := by decide +kernel
theorem dX10_worth_24 : decode cX10_worth 24 = .ok (.iload_n 3, 1) := by decide +kernel
theorem dX10_worth_25 : decode cX10_worth 25 = .ok (.i2l, 1) := by decide +kernel
theorem dX10_worth_26 : decode cX10_worth 26 = .ok (.lconst 0, 1) := by decide +kernel
theorem dX10_worth_27 : decode cX10_worth 27 = .ok (.lconst 1, 1) := by decide +kernel
theorem dX10_worth_28 : decode cX10_worth 28 = .ok (.invokestatic 76, 3) := by decide +kernel
theorem dX10_worth_31 : decode cX10_worth 31 = .ok (.ifCond .ne 7, 3) := by decide +kernel
theorem dX10_worth_34 : decode cX10_worth 34 = .ok (.ldc2_w 199, 3) := by decide +kernel
theorem dX10_worth_37 : decode cX10_worth 37 = .ok (.lreturn, 1) := by decide +kernel
theorem dX10_worth_38 : decode cX10_worth 38 = .ok (.aload_n 0, 1) := by decide +kernel
theorem dX10_worth_39 : decode cX10_worth 39 = .ok (.invokevirtual 229, 3) := by decide +kernel
theorem dX10_worth_42 : decode cX10_worth 42 = .ok (.ifCond .ne 7, 3) := by decide +kernel
theorem dX10_worth_45 : decode cX10_worth 45 = .ok (.ldc2_w 232, 3) := by decide +kernel
theorem dX10_worth_48 : decode cX10_worth 48 = .ok (.lreturn, 1) := by decide +kernel
theorem dX10_worth_49 : decode cX10_worth 49 = .ok (.aload_n 0, 1) := by decide +kernel
theorem dX10_worth_50 : decode cX10_worth 50 = .ok (.invokevirtual 234, 3) := by decide +kernel
theorem dX10_worth_53 : decode cX10_worth 53 = .ok (.aload_n 0, 1) := by decide +kernel
theorem dX10_worth_54 : decode cX10_worth 54 = .ok (.getfield 67, 3) := by decide +kernel
theorem dX10_worth_57 : decode cX10_worth 57 = .ok (.iload_n 1, 1) := by decide +kernel
theorem dX10_worth_58 : decode cX10_worth 58 = .ok (.laload, 1) := by decide +kernel
theorem dX10_worth_59 : decode cX10_worth 59 = .ok (.aload_n 0, 1) := by decide +kernel
theorem dX10_worth_60 : decode cX10_worth 60 = .ok (.getfield 71, 3) := by decide +kernel
theorem dX10_worth_63 : decode cX10_worth 63 = .ok (.bipush 9, 2) := by decide +kernel
theorem dX10_worth_65 : decode cX10_worth 65 = .ok (.iload_n 1, 1) := by decide +kernel
theorem dX10_worth_66 : decode cX10_worth 66 = .ok (.imul, 1) := by decide +kernel
theorem dX10_worth_67 : decode cX10_worth 67 = .ok (.iload_n 2, 1) := by decide +kernel
theorem dX10_worth_68 : decode cX10_worth 68 = .ok (.iadd, 1) := by decide +kernel
theorem dX10_worth_69 : decode cX10_worth 69 = .ok (.laload, 1) := by decide +kernel
theorem dX10_worth_70 : decode cX10_worth 70 = .ok (.invokestatic 237, 3) := by decide +kernel
theorem dX10_worth_73 : decode cX10_worth 73 = .ok (.lstore 4, 2) := by decide +kernel
theorem dX10_worth_75 : decode cX10_worth 75 = .ok (.iload_n 3, 1) := by decide +kernel
theorem dX10_worth_76 : decode cX10_worth 76 = .ok (.ifCond .ne 20, 3) := by decide +kernel
theorem dX10_worth_79 : decode cX10_worth 79 = .ok (.aload_n 0, 1) := by decide +kernel
theorem dX10_worth_80 : decode cX10_worth 80 = .ok (.getfield 71, 3) := by decide +kernel
theorem dX10_worth_83 : decode cX10_worth 83 = .ok (.bipush 9, 2) := by decide +kernel
theorem dX10_worth_85 : decode cX10_worth 85 = .ok (.iload_n 1, 1) := by decide +kernel
theorem dX10_worth_86 : decode cX10_worth 86 = .ok (.imul, 1) := by decide +kernel
theorem dX10_worth_87 : decode cX10_worth 87 = .ok (.iload_n 2, 1) := by decide +kernel
theorem dX10_worth_88 : decode cX10_worth 88 = .ok (.iadd, 1) := by decide +kernel
theorem dX10_worth_89 : decode cX10_worth 89 = .ok (.laload, 1) := by decide +kernel
theorem dX10_worth_90 : decode cX10_worth 90 = .ok (.lload 4, 2) := by decide +kernel
theorem dX10_worth_92 : decode cX10_worth 92 = .ok (.ldiv, 1) := by decide +kernel
theorem dX10_worth_93 : decode cX10_worth 93 = .ok (.goto 12, 3) := by decide +kernel
theorem dX10_worth_96 : decode cX10_worth 96 = .ok (.aload_n 0, 1) := by decide +kernel
theorem dX10_worth_97 : decode cX10_worth 97 = .ok (.getfield 67, 3) := by decide +kernel
theorem dX10_worth_100 : decode cX10_worth 100 = .ok (.iload_n 1, 1) := by decide +kernel
theorem dX10_worth_101 : decode cX10_worth 101 = .ok (.laload, 1) := by decide +kernel
theorem dX10_worth_102 : decode cX10_worth 102 = .ok (.lload 4, 2) := by decide +kernel
theorem dX10_worth_104 : decode cX10_worth 104 = .ok (.ldiv, 1) := by decide +kernel
theorem dX10_worth_105 : decode cX10_worth 105 = .ok (.lreturn, 1) := by decide +kernel
set_option maxRecDepth 20000 in
theorem ggX10_when_X10_in : GoodIn wsX10_when wsX10_in := goodIn_r _ [9] (by decide +kernel) (by decide +kernel)
set_option maxRecDepth 20000 in
theorem gX10_when_X10_in : GoodIn wsX10_when (va_wsS RX10 76 yX10_in wsX10_in) := goodIn_app (goodIn_of _ (by decide +kernel)) ggX10_when_X10_in
set_option maxRecDepth 20000 in
theorem ggX10_when_X10_areShares : GoodIn wsX10_when wsX10_areShares := goodIn_r _ [13, 14, 26, 27, 28, 29, 30, 31, 32, 33, 34, 35, 36, 37, 38, 39, 40, 41, 42, 43, 44, 45, 46, 47, 48, 49, 50, 51, 52, 53] (by decide +kernel) (by decide +kernel)
set_option maxRecDepth 20000 in
theorem gX10_when_X10_areShares : GoodIn wsX10_when (wsV RX10 229 RX10 yX10_areShares wsX10_areShares) := goodIn_app (goodIn_of _ (by decide +kernel)) ggX10_when_X10_areShares
set_option maxRecDepth 20000 in
theorem ggX10_when_X10_layWorths : GoodIn wsX10_when wsX10_layWorths := goodIn_r _ [18, 19, 5, 20, 4, 14, 21, 22, 23, 8, 24, 25, 26, 27, 28, 29, 30, 31, 32, 33, 34, 35, 36, 37, 38, 39, 40, 41, 42, 43, 44, 45, 46, 47, 48, 49, 50, 51, 52, 53] (by decide +kernel) (by decide +kernel)
set_option maxRecDepth 20000 in
theorem gX10_when_X10_layWorths : GoodIn wsX10_when (wsV RX10 234 RX10 yX10_layWorths wsX10_layWorths) := goodIn_app (goodIn_of _ (by decide +kernel)) ggX10_when_X10_layWorths
set_option maxRecDepth 20000 in
theorem ggX10_when_X10_asked : GoodIn wsX10_when wsX10_asked := goodIn_r _ [24, 25, 19, 5, 4, 26, 27, 28, 29, 30, 31, 32, 33, 34, 35, 36, 37, 38, 39, 40, 41, 42, 43, 44, 45, 46, 47, 48, 49, 50, 51, 52, 53] (by decide +kernel) (by decide +kernel)
set_option maxRecDepth 20000 in
theorem gX10_when_X10_asked : GoodIn wsX10_when (wsV RX10 225 RX10 yX10_asked wsX10_asked) := goodIn_app (goodIn_of _ (by decide +kernel)) ggX10_when_X10_asked
theorem dX10_when_0 : decode cX10_when 0 = .ok (.iload_n 1, 1) := by decide +kernel
theorem dX10_when_1 : decode cX10_when 1 = .ok (.i2l, 1) := by decide +kernel
theorem dX10_when_2 : decode cX10_when 2 = .ok (.lconst 0, 1) := by decide +kernel
theorem dX10_when_3 : decode cX10_when 3 = .ok (.ldc2_w 241, 3) := by decide +kernel
theorem dX10_when_6 : decode cX10_when 6 = .ok (.invokestatic 76, 3) := by decide +kernel
theorem dX10_when_9 : decode cX10_when 9 = .ok (.ifCond .eq 27, 3) := by decide +kernel
theorem dX10_when_12 : decode cX10_when 12 = .ok (.iload_n 2, 1) := by decide +kernel
theorem dX10_when_13 : decode cX10_when 13 = .ok (.i2l, 1) := by decide +kernel
theorem dX10_when_14 : decode cX10_when 14 = .ok (.lconst 0, 1) := by decide +kernel
theorem dX10_when_15 : decode cX10_when 15 = .ok (.ldc2_w 74, 3) := by decide +kernel
theorem dX10_when_18 : decode cX10_when 18 = .ok (.invokestatic 76, 3) := by decide +kernel
theorem dX10_when_21 : decode cX10_when 21 = .ok (.ifCond .eq 15, 3) := by decide +kernel
theorem dX10_when_24 : decode cX10_when 24 = .ok (.iload_n 3, 1) := by decide +kernel
theorem dX10_when_25 : decode cX10_when 25 = .ok (.i2l, 1) := by decide +kernel
theorem dX10_when_26 : decode cX10_when 26 = .ok (.lconst 0, 1) := by decide +kernel
theorem dX10_when_27 : decode cX10_when 27 = .ok (.ldc2_w 162, 3) := by decide +kernel
theorem dX10_when_30 : decode cX10_when 30 = .ok (.invokestatic 76, 3) := by decide +kernel
theorem dX10_when_33 : decode cX10_when 33 = .ok (.ifCond .ne 5, 3) := by decide +kernel
theorem dX10_when_36 : decode cX10_when 36 = .ok (.iconst (-1), 1) := by decide +kernel
theorem dX10_when_37 : decode cX10_when 37 = .ok (.ireturn, 1) := by decide +kernel
theorem dX10_when_38 : decode cX10_when 38 = .ok (.aload_n 0, 1) := by decide +kernel
theorem dX10_when_39 : decode cX10_when 39 = .ok (.invokevirtual 229, 3) := by decide +kernel
theorem dX10_when_42 : decode cX10_when 42 = .ok (.ifCond .ne 6, 3) := by decide +kernel
theorem dX10_when_45 : decode cX10_when 45 = .ok (.bipush (-2), 2) := by decide +kernel
theorem dX10_when_47 : decode cX10_when 47 = .ok (.ireturn, 1) := by decide +kernel
theorem dX10_when_48 : decode cX10_when 48 = .ok (.aload_n 0, 1) := by decide +kernel
theorem dX10_when_49 : decode cX10_when 49 = .ok (.invokevirtual 234, 3) := by decide +kernel
theorem dX10_when_52 : decode cX10_when 52 = .ok (.iload_n 2, 1) := by decide +kernel
theorem dX10_when_53 : decode cX10_when 53 = .ok (.ifCond .le 33, 3) := by decide +kernel
theorem dX10_when_56 : decode cX10_when 56 = .ok (.aload_n 0, 1) := by decide +kernel
theorem dX10_when_57 : decode cX10_when 57 = .ok (.iload_n 1, 1) := by decide +kernel
theorem dX10_when_58 : decode cX10_when 58 = .ok (.iload_n 2, 1) := by decide +kernel
theorem dX10_when_59 : decode cX10_when 59 = .ok (.iload_n 3, 1) := by decide +kernel
theorem dX10_when_60 : decode cX10_when 60 = .ok (.invokevirtual 225, 3) := by decide +kernel
theorem dX10_when_63 : decode cX10_when 63 = .ok (.ldc2_w 168, 3) := by decide +kernel
theorem dX10_when_66 : decode cX10_when 66 = .ok (.aload_n 0, 1) := by decide +kernel
theorem dX10_when_67 : decode cX10_when 67 = .ok (.getfield 71, 3) := by decide +kernel
theorem dX10_when_70 : decode cX10_when 70 = .ok (.bipush 9, 2) := by decide +kernel
theorem dX10_when_72 : decode cX10_when 72 = .ok (.iload_n 1, 1) := by decide +kernel
theorem dX10_when_73 : decode cX10_when 73 = .ok (.imul, 1) := by decide +kernel
theorem dX10_when_74 : decode cX10_when 74 = .ok (.iload_n 2, 1) := by decide +kernel
theorem dX10_when_75 : decode cX10_when 75 = .ok (.iadd, 1) := by decide +kernel
theorem dX10_when_76 : decode cX10_when 76 = .ok (.laload, 1) := by decide +kernel
theorem dX10_when_77 : decode cX10_when 77 = .ok (.lmul, 1) := by decide +kernel
theorem dX10_when_78 : decode cX10_when 78 = .ok (.lcmp, 1) := by decide +kernel
theorem dX10_when_79 : decode cX10_when 79 = .ok (.ifCond .le 7, 3) := by decide +kernel
theorem dX10_when_82 : decode cX10_when 82 = .ok (.iconst 1, 1) := by decide +kernel
theorem dX10_when_83 : decode cX10_when 83 = .ok (.goto 4, 3) := by decide +kernel
theorem dX10_when_86 : decode cX10_when 86 = .ok (.iconst 0, 1) := by decide +kernel
theorem dX10_when_87 : decode cX10_when 87 = .ok (.ireturn, 1) := by decide +kernel
set_option maxRecDepth 20000 in
theorem ggX10_truly_X10_in : GoodIn wsX10_truly wsX10_in := goodIn_r _ [7] (by decide +kernel) (by decide +kernel)
set_option maxRecDepth 20000 in
theorem gX10_truly_X10_in : GoodIn wsX10_truly (va_wsS RX10 76 yX10_in wsX10_in) := goodIn_app (goodIn_of _ (by decide +kernel)) ggX10_truly_X10_in
theorem dX10_truly_0 : decode cX10_truly 0 = .ok (.iload_n 1, 1) := by decide +kernel
theorem dX10_truly_1 : decode cX10_truly 1 = .ok (.i2l, 1) := by decide +kernel
theorem dX10_truly_2 : decode cX10_truly 2 = .ok (.lconst 0, 1) := by decide +kernel
theorem dX10_truly_3 : decode cX10_truly 3 = .ok (.ldc2_w 105, 3) := by decide +kernel
theorem dX10_truly_6 : decode cX10_truly 6 = .ok (.invokestatic 76, 3) := by decide +kernel
theorem dX10_truly_9 : decode cX10_truly 9 = .ok (.ifCond .ne 5, 3) := by decide +kernel
theorem dX10_truly_12 : decode cX10_truly 12 = .ok (.iconst (-1), 1) := by decide +kernel
theorem dX10_truly_13 : decode cX10_truly 13 = .ok (.ireturn, 1) := by decide +kernel
theorem dX10_truly_14 : decode cX10_truly 14 = .ok (.aload_n 0, 1) := by decide +kernel
theorem dX10_truly_15 : decode cX10_truly 15 = .ok (.getfield 243, 3) := by decide +kernel
theorem dX10_truly_18 : decode cX10_truly 18 = .ok (.bipush 30, 2) := by decide +kernel
theorem dX10_truly_20 : decode cX10_truly 20 = .ok (.if_icmp .ne 6, 3) := by decide +kernel
theorem dX10_truly_23 : decode cX10_truly 23 = .ok (.bipush (-3), 2) := by decide +kernel
theorem dX10_truly_25 : decode cX10_truly 25 = .ok (.ireturn, 1) := by decide +kernel
theorem dX10_truly_26 : decode cX10_truly 26 = .ok (.aload_n 0, 1) := by decide +kernel
theorem dX10_truly_27 : decode cX10_truly 27 = .ok (.getfield 43, 3) := by decide +kernel
theorem dX10_truly_30 : decode cX10_truly 30 = .ok (.iconst 2, 1) := by decide +kernel
theorem dX10_truly_31 : decode cX10_truly 31 = .ok (.aload_n 0, 1) := by decide +kernel
theorem dX10_truly_32 : decode cX10_truly 32 = .ok (.getfield 243, 3) := by decide +kernel
theorem dX10_truly_35 : decode cX10_truly 35 = .ok (.imul, 1) := by decide +kernel
theorem dX10_truly_36 : decode cX10_truly 36 = .ok (.iload_n 1, 1) := by decide +kernel
theorem dX10_truly_37 : decode cX10_truly 37 = .ok (.iastore, 1) := by decide +kernel
theorem dX10_truly_38 : decode cX10_truly 38 = .ok (.aload_n 0, 1) := by decide +kernel
theorem dX10_truly_39 : decode cX10_truly 39 = .ok (.getfield 43, 3) := by decide +kernel
theorem dX10_truly_42 : decode cX10_truly 42 = .ok (.iconst 2, 1) := by decide +kernel
theorem dX10_truly_43 : decode cX10_truly 43 = .ok (.aload_n 0, 1) := by decide +kernel
theorem dX10_truly_44 : decode cX10_truly 44 = .ok (.getfield 243, 3) := by decide +kernel
theorem dX10_truly_47 : decode cX10_truly 47 = .ok (.imul, 1) := by decide +kernel
theorem dX10_truly_48 : decode cX10_truly 48 = .ok (.iconst 1, 1) := by decide +kernel
theorem dX10_truly_49 : decode cX10_truly 49 = .ok (.iadd, 1) := by decide +kernel
theorem dX10_truly_50 : decode cX10_truly 50 = .ok (.iload_n 2, 1) := by decide +kernel
theorem dX10_truly_51 : decode cX10_truly 51 = .ok (.ifCond .eq 7, 3) := by decide +kernel
theorem dX10_truly_54 : decode cX10_truly 54 = .ok (.iconst 1, 1) := by decide +kernel
theorem dX10_truly_55 : decode cX10_truly 55 = .ok (.goto 4, 3) := by decide +kernel
theorem dX10_truly_58 : decode cX10_truly 58 = .ok (.iconst 0, 1) := by decide +kernel
theorem dX10_truly_59 : decode cX10_truly 59 = .ok (.iastore, 1) := by decide +kernel
theorem dX10_truly_60 : decode cX10_truly 60 = .ok (.aload_n 0, 1) := by decide +kernel
theorem dX10_truly_61 : decode cX10_truly 61 = .ok (.dup, 1) := by decide +kernel
theorem dX10_truly_62 : decode cX10_truly 62 = .ok (.getfield 243, 3) := by decide +kernel
theorem dX10_truly_65 : decode cX10_truly 65 = .ok (.iconst 1, 1) := by decide +kernel
theorem dX10_truly_66 : decode cX10_truly 66 = .ok (.iadd, 1) := by decide +kernel
theorem dX10_truly_67 : decode cX10_truly 67 = .ok (.putfield 243, 3) := by decide +kernel
theorem dX10_truly_70 : decode cX10_truly 70 = .ok (.aload_n 0, 1) := by decide +kernel
theorem dX10_truly_71 : decode cX10_truly 71 = .ok (.getfield 243, 3) := by decide +kernel
theorem dX10_truly_74 : decode cX10_truly 74 = .ok (.ireturn, 1) := by decide +kernel
theorem dX10_weigh_0 : decode cX10_weigh 0 = .ok (.iconst 0, 1) := by decide +kernel
theorem dX10_weigh_1 : decode cX10_weigh 1 = .ok (.istore_n 2, 1) := by decide +kernel
theorem dX10_weigh_2 : decode cX10_weigh 2 = .ok (.iconst 0, 1) := by decide +kernel
theorem dX10_weigh_3 : decode cX10_weigh 3 = .ok (.istore_n 3, 1) := by decide +kernel
theorem dX10_weigh_4 : decode cX10_weigh 4 = .ok (.iconst 0, 1) := by decide +kernel
theorem dX10_weigh_5 : decode cX10_weigh 5 = .ok (.istore 4, 2) := by decide +kernel
theorem dX10_weigh_7 : decode cX10_weigh 7 = .ok (.iload 4, 2) := by decide +kernel
theorem dX10_weigh_9 : decode cX10_weigh 9 = .ok (.aload_n 0, 1) := by decide +kernel
theorem dX10_weigh_10 : decode cX10_weigh 10 = .ok (.getfield 243, 3) := by decide +kernel
theorem dX10_weigh_13 : decode cX10_weigh 13 = .ok (.if_icmp .ge 117, 3) := by decide +kernel
theorem dX10_weigh_16 : decode cX10_weigh 16 = .ok (.aload_n 0, 1) := by decide +kernel
theorem dX10_weigh_17 : decode cX10_weigh 17 = .ok (.getfield 43, 3) := by decide +kernel
theorem dX10_weigh_20 : decode cX10_weigh 20 = .ok (.iconst 2, 1) := by decide +kernel
theorem dX10_weigh_21 : decode cX10_weigh 21 = .ok (.iload 4, 2) := by decide +kernel
theorem dX10_weigh_23 : decode cX10_weigh 23 = .ok (.imul, 1) := by decide +kernel
theorem dX10_weigh_24 : decode cX10_weigh 24 = .ok (.iaload, 1) := by decide +kernel
theorem dX10_weigh_25 : decode cX10_weigh 25 = .ok (.iload_n 1, 1) := by decide +kernel
theorem dX10_weigh_26 : decode cX10_weigh 26 = .ok (.if_icmp .lt 7, 3) := by decide +kernel
theorem dX10_weigh_29 : decode cX10_weigh 29 = .ok (.iconst 1, 1) := by decide +kernel
theorem dX10_weigh_30 : decode cX10_weigh 30 = .ok (.goto 4, 3) := by decide +kernel
theorem dX10_weigh_33 : decode cX10_weigh 33 = .ok (.iconst 0, 1) := by decide +kernel
theorem dX10_weigh_34 : decode cX10_weigh 34 = .ok (.istore 5, 2) := by decide +kernel
theorem dX10_weigh_36 : decode cX10_weigh 36 = .ok (.bipush 100, 2) := by decide +kernel
theorem dX10_weigh_38 : decode cX10_weigh 38 = .ok (.aload_n 0, 1) := by decide +kernel
theorem dX10_weigh_39 : decode cX10_weigh 39 = .ok (.getfield 43, 3) := by decide +kernel
theorem dX10_weigh_42 : decode cX10_weigh 42 = .ok (.iconst 2, 1) := by decide +kernel
theorem dX10_weigh_43 : decode cX10_weigh 43 = .ok (.iload 4, 2) := by decide +kernel
theorem dX10_weigh_45 : decode cX10_weigh 45 = .ok (.imul, 1) := by decide +kernel
theorem dX10_weigh_46 : decode cX10_weigh 46 = .ok (.iaload, 1) := by decide +kernel
theorem dX10_weigh_47 : decode cX10_weigh 47 = .ok (.isub, 1) := by decide +kernel
theorem dX10_weigh_48 : decode cX10_weigh 48 = .ok (.iload_n 1, 1) := by decide +kernel
theorem dX10_weigh_49 : decode cX10_weigh 49 = .ok (.if_icmp .lt 7, 3) := by decide +kernel
theorem dX10_weigh_52 : decode cX10_weigh 52 = .ok (.iconst 1, 1) := by decide +kernel
theorem dX10_weigh_53 : decode cX10_weigh 53 = .ok (.goto 4, 3) := by decide +kernel
theorem dX10_weigh_56 : decode cX10_weigh 56 = .ok (.iconst 0, 1) := by decide +kernel
theorem dX10_weigh_57 : decode cX10_weigh 57 = .ok (.istore 6, 2) := by decide +kernel
theorem dX10_weigh_59 : decode cX10_weigh 59 = .ok (.iload_n 2, 1) := by decide +kernel
theorem dX10_weigh_60 : decode cX10_weigh 60 = .ok (.iload 5, 2) := by decide +kernel
theorem dX10_weigh_62 : decode cX10_weigh 62 = .ok (.ifCond .eq 17, 3) := by decide +kernel
theorem dX10_weigh_65 : decode cX10_weigh 65 = .ok (.aload_n 0, 1) := by decide +kernel
theorem dX10_weigh_66 : decode cX10_weigh 66 = .ok (.getfield 43, 3) := by decide +kernel
theorem dX10_weigh_69 : decode cX10_weigh 69 = .ok (.iconst 2, 1) := by decide +kernel
theorem dX10_weigh_70 : decode cX10_weigh 70 = .ok (.iload 4, 2) := by decide +kernel
theorem dX10_weigh_72 : decode cX10_weigh 72 = .ok (.imul, 1) := by decide +kernel
theorem dX10_weigh_73 : decode cX10_weigh 73 = .ok (.iconst 1, 1) := by decide +kernel
theorem dX10_weigh_74 : decode cX10_weigh 74 = .ok (.iadd, 1) := by decide +kernel
theorem dX10_weigh_75 : decode cX10_weigh 75 = .ok (.iaload, 1) := by decide +kernel
theorem dX10_weigh_76 : decode cX10_weigh 76 = .ok (.ifCond .eq 23, 3) := by decide +kernel
theorem dX10_weigh_79 : decode cX10_weigh 79 = .ok (.iload 6, 2) := by decide +kernel
theorem dX10_weigh_81 : decode cX10_weigh 81 = .ok (.ifCond .eq 22, 3) := by decide +kernel
theorem dX10_weigh_84 : decode cX10_weigh 84 = .ok (.aload_n 0, 1) := by decide +kernel
theorem dX10_weigh_85 : decode cX10_weigh 85 = .ok (.getfield 43, 3) := by decide +kernel
theorem dX10_weigh_88 : decode cX10_weigh 88 = .ok (.iconst 2, 1) := by decide +kernel
theorem dX10_weigh_89 : decode cX10_weigh 89 = .ok (.iload 4, 2) := by decide +kernel
theorem dX10_weigh_91 : decode cX10_weigh 91 = .ok (.imul, 1) := by decide +kernel
theorem dX10_weigh_92 : decode cX10_weigh 92 = .ok (.iconst 1, 1) := by decide +kernel
theorem dX10_weigh_93 : decode cX10_weigh 93 = .ok (.iadd, 1) := by decide +kernel
theorem dX10_weigh_94 : decode cX10_weigh 94 = .ok (.iaload, 1) := by decide +kernel
theorem dX10_weigh_95 : decode cX10_weigh 95 = .ok (.iconst 1, 1) := by decide +kernel
theorem dX10_weigh_96 : decode cX10_weigh 96 = .ok (.if_icmp .ne 7, 3) := by decide +kernel
theorem dX10_weigh_99 : decode cX10_weigh 99 = .ok (.iconst 1, 1) := by decide +kernel
theorem dX10_weigh_100 : decode cX10_weigh 100 = .ok (.goto 4, 3) := by decide +kernel
theorem dX10_weigh_103 : decode cX10_weigh 103 = .ok (.iconst 0, 1) := by decide +kernel
theorem dX10_weigh_104 : decode cX10_weigh 104 = .ok (.iadd, 1) := by decide +kernel
theorem dX10_weigh_105 : decode cX10_weigh 105 = .ok (.istore_n 2, 1) := by decide +kernel
theorem dX10_weigh_106 : decode cX10_weigh 106 = .ok (.iload_n 3, 1) := by decide +kernel
theorem dX10_weigh_107 : decode cX10_weigh 107 = .ok (.iload 5, 2) := by decide +kernel
theorem dX10_weigh_109 : decode cX10_weigh 109 = .ok (.ifCond .ne 12, 3) := by decide +kernel
theorem dX10_weigh_112 : decode cX10_weigh 112 = .ok (.iload 6, 2) := by decide +kernel
theorem dX10_weigh_114 : decode cX10_weigh 114 = .ok (.ifCond .ne 7, 3) := by decide +kernel
theorem dX10_weigh_117 : decode cX10_weigh 117 = .ok (.iconst 1, 1) := by decide +kernel
theorem dX10_weigh_118 : decode cX10_weigh 118 = .ok (.goto 4, 3) := by decide +kernel
theorem dX10_weigh_121 : decode cX10_weigh 121 = .ok (.iconst 0, 1) := by decide +kernel
theorem dX10_weigh_122 : decode cX10_weigh 122 = .ok (.iadd, 1) := by decide +kernel
theorem dX10_weigh_123 : decode cX10_weigh 123 = .ok (.istore_n 3, 1) := by decide +kernel
theorem dX10_weigh_124 : decode cX10_weigh 124 = .ok (.iinc 4 1, 3) := by decide +kernel
theorem dX10_weigh_127 : decode cX10_weigh 127 = .ok (.goto (-120), 3) := by decide +kernel
theorem dX10_weigh_130 : decode cX10_weigh 130 = .ok (.bipush 100, 2) := by decide +kernel
theorem dX10_weigh_132 : decode cX10_weigh 132 = .ok (.iload_n 2, 1) := by decide +kernel
theorem dX10_weigh_133 : decode cX10_weigh 133 = .ok (.imul, 1) := by decide +kernel
theorem dX10_weigh_134 : decode cX10_weigh 134 = .ok (.iload_n 3, 1) := by decide +kernel
theorem dX10_weigh_135 : decode cX10_weigh 135 = .ok (.iadd, 1) := by decide +kernel
theorem dX10_weigh_136 : decode cX10_weigh 136 = .ok (.ireturn, 1) := by decide +kernel
set_option maxRecDepth 20000 in
theorem ggX10_bestSure_X10_in : GoodIn wsX10_bestSure wsX10_in := goodIn_r _ [5] (by decide +kernel) (by decide +kernel)
set_option maxRecDepth 20000 in
theorem gX10_bestSure_X10_in : GoodIn wsX10_bestSure (va_wsS RX10 76 yX10_in wsX10_in) := goodIn_app (goodIn_of _ (by decide +kernel)) ggX10_bestSure_X10_in
set_option maxRecDepth 20000 in
theorem ggX10_bestSure_X10_weigh : GoodIn wsX10_bestSure wsX10_weigh := goodIn_r _ [9, 10, 11, 12, 13, 14, 15, 16, 17, 18, 19, 20, 21, 22, 23, 24, 25, 26, 27, 28, 29, 30, 31, 32, 33, 34, 35, 36, 37, 38, 39] (by decide +kernel) (by decide +kernel)
set_option maxRecDepth 20000 in
theorem gX10_bestSure_X10_weigh : GoodIn wsX10_bestSure (wsV RX10 246 RX10 yX10_weigh wsX10_weigh) := goodIn_app (goodIn_of _ (by decide +kernel)) ggX10_bestSure_X10_weigh
theorem dX10_bestSure_0 : decode cX10_bestSure 0 = .ok (.iload_n 1, 1) := by decide +kernel
theorem dX10_bestSure_1 : decode cX10_bestSure 1 = .ok (.i2l, 1) := by decide +kernel
theorem dX10_bestSure_2 : decode cX10_bestSure 2 = .ok (.lconst 0, 1) := by decide +kernel
theorem dX10_bestSure_3 : decode cX10_bestSure 3 = .ok (.ldc2_w 164, 3) := by decide +kernel
theorem dX10_bestSure_6 : decode cX10_bestSure 6 = .ok (.invokestatic 76, 3) := by decide +kernel
theorem dX10_bestSure_9 : decode cX10_bestSure 9 = .ok (.ifCond .ne 5, 3) := by decide +kernel
theorem dX10_bestSure_12 : decode cX10_bestSure 12 = .ok (.iconst (-1), 1) := by decide +kernel
theorem dX10_bestSure_13 : decode cX10_bestSure 13 = .ok (.ireturn, 1) := by decide +kernel
theorem dX10_bestSure_14 : decode cX10_bestSure 14 = .ok (.bipush 51, 2) := by decide +kernel
theorem dX10_bestSure_16 : decode cX10_bestSure 16 = .ok (.istore_n 2, 1) := by decide +kernel
theorem dX10_bestSure_17 : decode cX10_bestSure 17 = .ok (.bipush 52, 2) := by decide +kernel
theorem dX10_bestSure_19 : decode cX10_bestSure 19 = .ok (.istore_n 3, 1) := by decide +kernel
theorem dX10_bestSure_20 : decode cX10_bestSure 20 = .ok (.iload_n 3, 1) := by decide +kernel
theorem dX10_bestSure_21 : decode cX10_bestSure 21 = .ok (.bipush 100, 2) := by decide +kernel
theorem dX10_bestSure_23 : decode cX10_bestSure 23 = .ok (.if_icmp .gt 28, 3) := by decide +kernel
theorem dX10_bestSure_26 : decode cX10_bestSure 26 = .ok (.aload_n 0, 1) := by decide +kernel
theorem dX10_bestSure_27 : decode cX10_bestSure 27 = .ok (.iload_n 3, 1) := by decide +kernel
theorem dX10_bestSure_28 : decode cX10_bestSure 28 = .ok (.invokevirtual 246, 3) := by decide +kernel
theorem dX10_bestSure_31 : decode cX10_bestSure 31 = .ok (.aload_n 0, 1) := by decide +kernel
theorem dX10_bestSure_32 : decode cX10_bestSure 32 = .ok (.iload_n 2, 1) := by decide +kernel
theorem dX10_bestSure_33 : decode cX10_bestSure 33 = .ok (.invokevirtual 246, 3) := by decide +kernel
theorem dX10_bestSure_36 : decode cX10_bestSure 36 = .ok (.if_icmp .ge 7, 3) := by decide +kernel
theorem dX10_bestSure_39 : decode cX10_bestSure 39 = .ok (.iload_n 3, 1) := by decide +kernel
theorem dX10_bestSure_40 : decode cX10_bestSure 40 = .ok (.goto 4, 3) := by decide +kernel
theorem dX10_bestSure_43 : decode cX10_bestSure 43 = .ok (.iload_n 2, 1) := by decide +kernel
theorem dX10_bestSure_44 : decode cX10_bestSure 44 = .ok (.istore_n 2, 1) := by decide +kernel
theorem dX10_bestSure_45 : decode cX10_bestSure 45 = .ok (.iinc 3 1, 3) := by decide +kernel
theorem dX10_bestSure_48 : decode cX10_bestSure 48 = .ok (.goto (-28), 3) := by decide +kernel
theorem dX10_bestSure_51 : decode cX10_bestSure 51 = .ok (.iload_n 1, 1) := by decide +kernel
theorem dX10_bestSure_52 : decode cX10_bestSure 52 = .ok (.ifCond .ne 7, 3) := by decide +kernel
theorem dX10_bestSure_55 : decode cX10_bestSure 55 = .ok (.iload_n 2, 1) := by decide +kernel
theorem dX10_bestSure_56 : decode cX10_bestSure 56 = .ok (.goto 27, 3) := by decide +kernel
theorem dX10_bestSure_59 : decode cX10_bestSure 59 = .ok (.iload_n 1, 1) := by decide +kernel
theorem dX10_bestSure_60 : decode cX10_bestSure 60 = .ok (.iconst 1, 1) := by decide +kernel
theorem dX10_bestSure_61 : decode cX10_bestSure 61 = .ok (.if_icmp .ne 14, 3) := by decide +kernel
theorem dX10_bestSure_64 : decode cX10_bestSure 64 = .ok (.aload_n 0, 1) := by decide +kernel
theorem dX10_bestSure_65 : decode cX10_bestSure 65 = .ok (.iload_n 2, 1) := by decide +kernel
theorem dX10_bestSure_66 : decode cX10_bestSure 66 = .ok (.invokevirtual 246, 3) := by decide +kernel
theorem dX10_bestSure_69 : decode cX10_bestSure 69 = .ok (.bipush 100, 2) := by decide +kernel
theorem dX10_bestSure_71 : decode cX10_bestSure 71 = .ok (.idiv, 1) := by decide +kernel
theorem dX10_bestSure_72 : decode cX10_bestSure 72 = .ok (.goto 11, 3) := by decide +kernel
theorem dX10_bestSure_75 : decode cX10_bestSure 75 = .ok (.aload_n 0, 1) := by decide +kernel
theorem dX10_bestSure_76 : decode cX10_bestSure 76 = .ok (.iload_n 2, 1) := by decide +kernel
theorem dX10_bestSure_77 : decode cX10_bestSure 77 = .ok (.invokevirtual 246, 3) := by decide +kernel
theorem dX10_bestSure_80 : decode cX10_bestSure 80 = .ok (.bipush 100, 2) := by decide +kernel
theorem dX10_bestSure_82 : decode cX10_bestSure 82 = .ok (.irem, 1) := by decide +kernel
theorem dX10_bestSure_83 : decode cX10_bestSure 83 = .ok (.ireturn, 1) := by decide +kernel
theorem dX10_copy_0 : decode cX10_copy 0 = .ok (.iconst 0, 1) := by decide +kernel
theorem dX10_copy_1 : decode cX10_copy 1 = .ok (.istore_n 3, 1) := by decide +kernel
theorem dX10_copy_2 : decode cX10_copy 2 = .ok (.iload_n 3, 1) := by decide +kernel
theorem dX10_copy_3 : decode cX10_copy 3 = .ok (.bipush 6, 2) := by decide +kernel
theorem dX10_copy_5 : decode cX10_copy 5 = .ok (.if_icmp .ge 31, 3) := by decide +kernel
theorem dX10_copy_8 : decode cX10_copy 8 = .ok (.aload_n 0, 1) := by decide +kernel
theorem dX10_copy_9 : decode cX10_copy 9 = .ok (.getfield 19, 3) := by decide +kernel
theorem dX10_copy_12 : decode cX10_copy 12 = .ok (.bipush 6, 2) := by decide +kernel
theorem dX10_copy_14 : decode cX10_copy 14 = .ok (.iload_n 2, 1) := by decide +kernel
theorem dX10_copy_15 : decode cX10_copy 15 = .ok (.imul, 1) := by decide +kernel
theorem dX10_copy_16 : decode cX10_copy 16 = .ok (.iload_n 3, 1) := by decide +kernel
theorem dX10_copy_17 : decode cX10_copy 17 = .ok (.iadd, 1) := by decide +kernel
theorem dX10_copy_18 : decode cX10_copy 18 = .ok (.aload_n 0, 1) := by decide +kernel
theorem dX10_copy_19 : decode cX10_copy 19 = .ok (.getfield 19, 3) := by decide +kernel
theorem dX10_copy_22 : decode cX10_copy 22 = .ok (.bipush 6, 2) := by decide +kernel
theorem dX10_copy_24 : decode cX10_copy 24 = .ok (.iload_n 1, 1) := by decide +kernel
theorem dX10_copy_25 : decode cX10_copy 25 = .ok (.imul, 1) := by decide +kernel
theorem dX10_copy_26 : decode cX10_copy 26 = .ok (.iload_n 3, 1) := by decide +kernel
theorem dX10_copy_27 : decode cX10_copy 27 = .ok (.iadd, 1) := by decide +kernel
theorem dX10_copy_28 : decode cX10_copy 28 = .ok (.iaload, 1) := by decide +kernel
theorem dX10_copy_29 : decode cX10_copy 29 = .ok (.iastore, 1) := by decide +kernel
theorem dX10_copy_30 : decode cX10_copy 30 = .ok (.iinc 3 1, 3) := by decide +kernel
theorem dX10_copy_33 : decode cX10_copy 33 = .ok (.goto (-31), 3) := by decide +kernel
theorem dX10_copy_36 : decode cX10_copy 36 = .ok (.aload_n 0, 1) := by decide +kernel
theorem dX10_copy_37 : decode cX10_copy 37 = .ok (.getfield 22, 3) := by decide +kernel
theorem dX10_copy_40 : decode cX10_copy 40 = .ok (.iload_n 2, 1) := by decide +kernel
theorem dX10_copy_41 : decode cX10_copy 41 = .ok (.aload_n 0, 1) := by decide +kernel
theorem dX10_copy_42 : decode cX10_copy 42 = .ok (.getfield 22, 3) := by decide +kernel
theorem dX10_copy_45 : decode cX10_copy 45 = .ok (.iload_n 1, 1) := by decide +kernel
theorem dX10_copy_46 : decode cX10_copy 46 = .ok (.iaload, 1) := by decide +kernel
theorem dX10_copy_47 : decode cX10_copy 47 = .ok (.iastore, 1) := by decide +kernel
theorem dX10_copy_48 : decode cX10_copy 48 = .ok (.aload_n 0, 1) := by decide +kernel
theorem dX10_copy_49 : decode cX10_copy 49 = .ok (.getfield 25, 3) := by decide +kernel
theorem dX10_copy_52 : decode cX10_copy 52 = .ok (.iload_n 2, 1) := by decide +kernel
theorem dX10_copy_53 : decode cX10_copy 53 = .ok (.aload_n 0, 1) := by decide +kernel
theorem dX10_copy_54 : decode cX10_copy 54 = .ok (.getfield 25, 3) := by decide +kernel
theorem dX10_copy_57 : decode cX10_copy 57 = .ok (.iload_n 1, 1) := by decide +kernel
theorem dX10_copy_58 : decode cX10_copy 58 = .ok (.iaload, 1) := by decide +kernel
theorem dX10_copy_59 : decode cX10_copy 59 = .ok (.iastore, 1) := by decide +kernel
theorem dX10_copy_60 : decode cX10_copy 60 = .ok (.iconst 0, 1) := by decide +kernel
theorem dX10_copy_61 : decode cX10_copy 61 = .ok (.istore_n 3, 1) := by decide +kernel
theorem dX10_copy_62 : decode cX10_copy 62 = .ok (.iload_n 3, 1) := by decide +kernel
theorem dX10_copy_63 : decode cX10_copy 63 = .ok (.sipush 180, 3) := by decide +kernel
theorem dX10_copy_66 : decode cX10_copy 66 = .ok (.if_icmp .ge 33, 3) := by decide +kernel
theorem dX10_copy_69 : decode cX10_copy 69 = .ok (.aload_n 0, 1) := by decide +kernel
theorem dX10_copy_70 : decode cX10_copy 70 = .ok (.getfield 28, 3) := by decide +kernel
theorem dX10_copy_73 : decode cX10_copy 73 = .ok (.sipush 180, 3) := by decide +kernel
theorem dX10_copy_76 : decode cX10_copy 76 = .ok (.iload_n 2, 1) := by decide +kernel
theorem dX10_copy_77 : decode cX10_copy 77 = .ok (.imul, 1) := by decide +kernel
theorem dX10_copy_78 : decode cX10_copy 78 = .ok (.iload_n 3, 1) := by decide +kernel
theorem dX10_copy_79 : decode cX10_copy 79 = .ok (.iadd, 1) := by decide +kernel
theorem dX10_copy_80 : decode cX10_copy 80 = .ok (.aload_n 0, 1) := by decide +kernel
theorem dX10_copy_81 : decode cX10_copy 81 = .ok (.getfield 28, 3) := by decide +kernel
theorem dX10_copy_84 : decode cX10_copy 84 = .ok (.sipush 180, 3) := by decide +kernel
theorem dX10_copy_87 : decode cX10_copy 87 = .ok (.iload_n 1, 1) := by decide +kernel
theorem dX10_copy_88 : decode cX10_copy 88 = .ok (.imul, 1) := by decide +kernel
theorem dX10_copy_89 : decode cX10_copy 89 = .ok (.iload_n 3, 1) := by decide +kernel
theorem dX10_copy_90 : decode cX10_copy 90 = .ok (.iadd, 1) := by decide +kernel
theorem dX10_copy_91 : decode cX10_copy 91 = .ok (.iaload, 1) := by decide +kernel
theorem dX10_copy_92 : decode cX10_copy 92 = .ok (.iastore, 1) := by decide +kernel
theorem dX10_copy_93 : decode cX10_copy 93 = .ok (.iinc 3 1, 3) := by decide +kernel
theorem dX10_copy_96 : decode cX10_copy 96 = .ok (.goto (-34), 3) := by decide +kernel
theorem dX10_copy_99 : decode cX10_copy 99 = .ok (.return_, 1) := by decide +kernel
set_option maxRecDepth 20000 in
theorem ggX10_keep_X10_copy : GoodIn wsX10_keep wsX10_copy := goodIn_r _ [6, 7, 8, 9, 10, 11, 12, 13, 14, 15, 16, 17, 18, 19, 20, 21, 22, 23, 24, 25, 26, 27, 28, 29, 30, 31, 32, 33, 34, 35, 36, 37, 38] (by decide +kernel) (by decide +kernel)
set_option maxRecDepth 20000 in
theorem gX10_keep_X10_copy : GoodIn wsX10_keep (wsV RX10 252 RX10 yX10_copy wsX10_copy) := goodIn_app (goodIn_of _ (by decide +kernel)) ggX10_keep_X10_copy
theorem dX10_keep_0 : decode cX10_keep 0 = .ok (.aload_n 0, 1) := by decide +kernel
theorem dX10_keep_1 : decode cX10_keep 1 = .ok (.getfield 249, 3) := by decide +kernel
theorem dX10_keep_4 : decode cX10_keep 4 = .ok (.iconst 2, 1) := by decide +kernel
theorem dX10_keep_5 : decode cX10_keep 5 = .ok (.if_icmp .ne 6, 3) := by decide +kernel
theorem dX10_keep_8 : decode cX10_keep 8 = .ok (.bipush (-3), 2) := by decide +kernel
theorem dX10_keep_10 : decode cX10_keep 10 = .ok (.ireturn, 1) := by decide +kernel
theorem dX10_keep_11 : decode cX10_keep 11 = .ok (.aload_n 0, 1) := by decide +kernel
theorem dX10_keep_12 : decode cX10_keep 12 = .ok (.iconst 0, 1) := by decide +kernel
theorem dX10_keep_13 : decode cX10_keep 13 = .ok (.iconst 1, 1) := by decide +kernel
theorem dX10_keep_14 : decode cX10_keep 14 = .ok (.aload_n 0, 1) := by decide +kernel
theorem dX10_keep_15 : decode cX10_keep 15 = .ok (.getfield 249, 3) := by decide +kernel
theorem dX10_keep_18 : decode cX10_keep 18 = .ok (.iadd, 1) := by decide +kernel
theorem dX10_keep_19 : decode cX10_keep 19 = .ok (.invokevirtual 252, 3) := by decide +kernel
theorem dX10_keep_22 : decode cX10_keep 22 = .ok (.aload_n 0, 1) := by decide +kernel
theorem dX10_keep_23 : decode cX10_keep 23 = .ok (.dup, 1) := by decide +kernel
theorem dX10_keep_24 : decode cX10_keep 24 = .ok (.getfield 249, 3) := by decide +kernel
theorem dX10_keep_27 : decode cX10_keep 27 = .ok (.iconst 1, 1) := by decide +kernel
theorem dX10_keep_28 : decode cX10_keep 28 = .ok (.iadd, 1) := by decide +kernel
theorem dX10_keep_29 : decode cX10_keep 29 = .ok (.putfield 249, 3) := by decide +kernel
theorem dX10_keep_32 : decode cX10_keep 32 = .ok (.aload_n 0, 1) := by decide +kernel
theorem dX10_keep_33 : decode cX10_keep 33 = .ok (.getfield 249, 3) := by decide +kernel
theorem dX10_keep_36 : decode cX10_keep 36 = .ok (.ireturn, 1) := by decide +kernel
set_option maxRecDepth 20000 in
theorem ggX10_back_X10_copy : GoodIn wsX10_back wsX10_copy := goodIn_r _ [6, 7, 8, 9, 10, 11, 12, 13, 14, 15, 16, 17, 18, 19, 20, 21, 22, 23, 24, 25, 26, 27, 28, 29, 30, 31, 32, 33, 34, 35, 36, 37, 38] (by decide +kernel) (by decide +kernel)
set_option maxRecDepth 20000 in
theorem gX10_back_X10_copy : GoodIn wsX10_back (wsV RX10 252 RX10 yX10_copy wsX10_copy) := goodIn_app (goodIn_of _ (by decide +kernel)) ggX10_back_X10_copy
theorem dX10_back_0 : decode cX10_back 0 = .ok (.aload_n 0, 1) := by decide +kernel
theorem dX10_back_1 : decode cX10_back 1 = .ok (.getfield 249, 3) := by decide +kernel
theorem dX10_back_4 : decode cX10_back 4 = .ok (.ifCond .ne 6, 3) := by decide +kernel
theorem dX10_back_7 : decode cX10_back 7 = .ok (.bipush (-2), 2) := by decide +kernel
theorem dX10_back_9 : decode cX10_back 9 = .ok (.ireturn, 1) := by decide +kernel
theorem dX10_back_10 : decode cX10_back 10 = .ok (.aload_n 0, 1) := by decide +kernel
theorem dX10_back_11 : decode cX10_back 11 = .ok (.dup, 1) := by decide +kernel
theorem dX10_back_12 : decode cX10_back 12 = .ok (.getfield 249, 3) := by decide +kernel
theorem dX10_back_15 : decode cX10_back 15 = .ok (.iconst 1, 1) := by decide +kernel
theorem dX10_back_16 : decode cX10_back 16 = .ok (.isub, 1) := by decide +kernel
theorem dX10_back_17 : decode cX10_back 17 = .ok (.putfield 249, 3) := by decide +kernel
theorem dX10_back_20 : decode cX10_back 20 = .ok (.aload_n 0, 1) := by decide +kernel
theorem dX10_back_21 : decode cX10_back 21 = .ok (.iconst 1, 1) := by decide +kernel
theorem dX10_back_22 : decode cX10_back 22 = .ok (.aload_n 0, 1) := by decide +kernel
theorem dX10_back_23 : decode cX10_back 23 = .ok (.getfield 249, 3) := by decide +kernel
theorem dX10_back_26 : decode cX10_back 26 = .ok (.iadd, 1) := by decide +kernel
theorem dX10_back_27 : decode cX10_back 27 = .ok (.iconst 0, 1) := by decide +kernel
theorem dX10_back_28 : decode cX10_back 28 = .ok (.invokevirtual 252, 3) := by decide +kernel
theorem dX10_back_31 : decode cX10_back 31 = .ok (.aload_n 0, 1) := by decide +kernel
theorem dX10_back_32 : decode cX10_back 32 = .ok (.getfield 249, 3) := by decide +kernel
theorem dX10_back_35 : decode cX10_back 35 = .ok (.ireturn, 1) := by decide +kernel
theorem dX10_count_0 : decode cX10_count 0 = .ok (.iload_n 1, 1) := by decide +kernel
theorem dX10_count_1 : decode cX10_count 1 = .ok (.tableswitch 73 0 5 #[39, 44, 51, 58, 63, 68], 39) := by decide +kernel
theorem dX10_count_40 : decode cX10_count 40 = .ok (.aload_n 0, 1) := by decide +kernel
theorem dX10_count_41 : decode cX10_count 41 = .ok (.getfield 80, 3) := by decide +kernel
theorem dX10_count_44 : decode cX10_count 44 = .ok (.ireturn, 1) := by decide +kernel
theorem dX10_count_45 : decode cX10_count 45 = .ok (.aload_n 0, 1) := by decide +kernel
theorem dX10_count_46 : decode cX10_count 46 = .ok (.getfield 13, 3) := by decide +kernel
theorem dX10_count_49 : decode cX10_count 49 = .ok (.iconst 0, 1) := by decide +kernel
theorem dX10_count_50 : decode cX10_count 50 = .ok (.iaload, 1) := by decide +kernel
theorem dX10_count_51 : decode cX10_count 51 = .ok (.ireturn, 1) := by decide +kernel
theorem dX10_count_52 : decode cX10_count 52 = .ok (.aload_n 0, 1) := by decide +kernel
theorem dX10_count_53 : decode cX10_count 53 = .ok (.getfield 25, 3) := by decide +kernel
theorem dX10_count_56 : decode cX10_count 56 = .ok (.iconst 0, 1) := by decide +kernel
theorem dX10_count_57 : decode cX10_count 57 = .ok (.iaload, 1) := by decide +kernel
theorem dX10_count_58 : decode cX10_count 58 = .ok (.ireturn, 1) := by decide +kernel
theorem dX10_count_59 : decode cX10_count 59 = .ok (.aload_n 0, 1) := by decide +kernel
theorem dX10_count_60 : decode cX10_count 60 = .ok (.getfield 218, 3) := by decide +kernel
theorem dX10_count_63 : decode cX10_count 63 = .ok (.ireturn, 1) := by decide +kernel
theorem dX10_count_64 : decode cX10_count 64 = .ok (.aload_n 0, 1) := by decide +kernel
theorem dX10_count_65 : decode cX10_count 65 = .ok (.getfield 243, 3) := by decide +kernel
theorem dX10_count_68 : decode cX10_count 68 = .ok (.ireturn, 1) := by decide +kernel
theorem dX10_count_69 : decode cX10_count 69 = .ok (.aload_n 0, 1) := by decide +kernel
theorem dX10_count_70 : decode cX10_count 70 = .ok (.getfield 249, 3) := by decide +kernel
theorem dX10_count_73 : decode cX10_count 73 = .ok (.ireturn, 1) := by decide +kernel
theorem dX10_count_74 : decode cX10_count 74 = .ok (.iconst (-1), 1) := by decide +kernel
theorem dX10_count_75 : decode cX10_count 75 = .ok (.ireturn, 1) := by decide +kernel
theorem dJ6_bitCount_0f7a4_0 : decode cJ6_bitCount_0f7a4 0 = .ok (.iload_n 0, 1) := by decide +kernel
theorem dJ6_bitCount_0f7a4_1 : decode cJ6_bitCount_0f7a4 1 = .ok (.iload_n 0, 1) := by decide +kernel
theorem dJ6_bitCount_0f7a4_2 : decode cJ6_bitCount_0f7a4 2 = .ok (.iconst 1, 1) := by decide +kernel
theorem dJ6_bitCount_0f7a4_3 : decode cJ6_bitCount_0f7a4 3 = .ok (.iushr, 1) := by decide +kernel
theorem dJ6_bitCount_0f7a4_4 : decode cJ6_bitCount_0f7a4 4 = .ok (.ldc_w 265, 3) := by decide +kernel
theorem dJ6_bitCount_0f7a4_7 : decode cJ6_bitCount_0f7a4 7 = .ok (.iand, 1) := by decide +kernel
theorem dJ6_bitCount_0f7a4_8 : decode cJ6_bitCount_0f7a4 8 = .ok (.isub, 1) := by decide +kernel
theorem dJ6_bitCount_0f7a4_9 : decode cJ6_bitCount_0f7a4 9 = .ok (.istore_n 0, 1) := by decide +kernel
theorem dJ6_bitCount_0f7a4_10 : decode cJ6_bitCount_0f7a4 10 = .ok (.iload_n 0, 1) := by decide +kernel
theorem dJ6_bitCount_0f7a4_11 : decode cJ6_bitCount_0f7a4 11 = .ok (.ldc_w 266, 3) := by decide +kernel
theorem dJ6_bitCount_0f7a4_14 : decode cJ6_bitCount_0f7a4 14 = .ok (.iand, 1) := by decide +kernel
theorem dJ6_bitCount_0f7a4_15 : decode cJ6_bitCount_0f7a4 15 = .ok (.iload_n 0, 1) := by decide +kernel
theorem dJ6_bitCount_0f7a4_16 : decode cJ6_bitCount_0f7a4 16 = .ok (.iconst 2, 1) := by decide +kernel
theorem dJ6_bitCount_0f7a4_17 : decode cJ6_bitCount_0f7a4 17 = .ok (.iushr, 1) := by decide +kernel
theorem dJ6_bitCount_0f7a4_18 : decode cJ6_bitCount_0f7a4 18 = .ok (.ldc_w 266, 3) := by decide +kernel
theorem dJ6_bitCount_0f7a4_21 : decode cJ6_bitCount_0f7a4 21 = .ok (.iand, 1) := by decide +kernel
theorem dJ6_bitCount_0f7a4_22 : decode cJ6_bitCount_0f7a4 22 = .ok (.iadd, 1) := by decide +kernel
theorem dJ6_bitCount_0f7a4_23 : decode cJ6_bitCount_0f7a4 23 = .ok (.istore_n 0, 1) := by decide +kernel
theorem dJ6_bitCount_0f7a4_24 : decode cJ6_bitCount_0f7a4 24 = .ok (.iload_n 0, 1) := by decide +kernel
theorem dJ6_bitCount_0f7a4_25 : decode cJ6_bitCount_0f7a4 25 = .ok (.iload_n 0, 1) := by decide +kernel
theorem dJ6_bitCount_0f7a4_26 : decode cJ6_bitCount_0f7a4 26 = .ok (.iconst 4, 1) := by decide +kernel
theorem dJ6_bitCount_0f7a4_27 : decode cJ6_bitCount_0f7a4 27 = .ok (.iushr, 1) := by decide +kernel
theorem dJ6_bitCount_0f7a4_28 : decode cJ6_bitCount_0f7a4 28 = .ok (.iadd, 1) := by decide +kernel
theorem dJ6_bitCount_0f7a4_29 : decode cJ6_bitCount_0f7a4 29 = .ok (.ldc_w 267, 3) := by decide +kernel
theorem dJ6_bitCount_0f7a4_32 : decode cJ6_bitCount_0f7a4 32 = .ok (.iand, 1) := by decide +kernel
theorem dJ6_bitCount_0f7a4_33 : decode cJ6_bitCount_0f7a4 33 = .ok (.istore_n 0, 1) := by decide +kernel
theorem dJ6_bitCount_0f7a4_34 : decode cJ6_bitCount_0f7a4 34 = .ok (.iload_n 0, 1) := by decide +kernel
theorem dJ6_bitCount_0f7a4_35 : decode cJ6_bitCount_0f7a4 35 = .ok (.iload_n 0, 1) := by decide +kernel
theorem dJ6_bitCount_0f7a4_36 : decode cJ6_bitCount_0f7a4 36 = .ok (.bipush 8, 2) := by decide +kernel
theorem dJ6_bitCount_0f7a4_38 : decode cJ6_bitCount_0f7a4 38 = .ok (.iushr, 1) := by decide +kernel
theorem dJ6_bitCount_0f7a4_39 : decode cJ6_bitCount_0f7a4 39 = .ok (.iadd, 1) := by decide +kernel
theorem dJ6_bitCount_0f7a4_40 : decode cJ6_bitCount_0f7a4 40 = .ok (.istore_n 0, 1) := by decide +kernel
theorem dJ6_bitCount_0f7a4_41 : decode cJ6_bitCount_0f7a4 41 = .ok (.iload_n 0, 1) := by decide +kernel
theorem dJ6_bitCount_0f7a4_42 : decode cJ6_bitCount_0f7a4 42 = .ok (.iload_n 0, 1) := by decide +kernel
theorem dJ6_bitCount_0f7a4_43 : decode cJ6_bitCount_0f7a4 43 = .ok (.bipush 16, 2) := by decide +kernel
theorem dJ6_bitCount_0f7a4_45 : decode cJ6_bitCount_0f7a4 45 = .ok (.iushr, 1) := by decide +kernel
theorem dJ6_bitCount_0f7a4_46 : decode cJ6_bitCount_0f7a4 46 = .ok (.iadd, 1) := by decide +kernel
theorem dJ6_bitCount_0f7a4_47 : decode cJ6_bitCount_0f7a4 47 = .ok (.istore_n 0, 1) := by decide +kernel
theorem dJ6_bitCount_0f7a4_48 : decode cJ6_bitCount_0f7a4 48 = .ok (.iload_n 0, 1) := by decide +kernel
theorem dJ6_bitCount_0f7a4_49 : decode cJ6_bitCount_0f7a4 49 = .ok (.bipush 63, 2) := by decide +kernel
theorem dJ6_bitCount_0f7a4_51 : decode cJ6_bitCount_0f7a4 51 = .ok (.iand, 1) := by decide +kernel
theorem dJ6_bitCount_0f7a4_52 : decode cJ6_bitCount_0f7a4 52 = .ok (.ireturn, 1) := by decide +kernel
theorem dJ9_abs_0f7a4_0 : decode cJ9_abs_0f7a4 0 = .ok (.iload_n 0, 1) := by decide +kernel
theorem dJ9_abs_0f7a4_1 : decode cJ9_abs_0f7a4 1 = .ok (.ifCond .ge 8, 3) := by decide +kernel
theorem dJ9_abs_0f7a4_4 : decode cJ9_abs_0f7a4 4 = .ok (.iload_n 0, 1) := by decide +kernel
theorem dJ9_abs_0f7a4_5 : decode cJ9_abs_0f7a4 5 = .ok (.ineg, 1) := by decide +kernel
theorem dJ9_abs_0f7a4_6 : decode cJ9_abs_0f7a4 6 = .ok (.goto 4, 3) := by decide +kernel
theorem dJ9_abs_0f7a4_9 : decode cJ9_abs_0f7a4 9 = .ok (.iload_n 0, 1) := by decide +kernel
theorem dJ9_abs_0f7a4_10 : decode cJ9_abs_0f7a4 10 = .ok (.ireturn, 1) := by decide +kernel
theorem dJ9_max_7cf53_0 : decode cJ9_max_7cf53 0 = .ok (.iload_n 0, 1) := by decide +kernel
theorem dJ9_max_7cf53_1 : decode cJ9_max_7cf53 1 = .ok (.iload_n 1, 1) := by decide +kernel
theorem dJ9_max_7cf53_2 : decode cJ9_max_7cf53 2 = .ok (.if_icmp .lt 7, 3) := by decide +kernel
theorem dJ9_max_7cf53_5 : decode cJ9_max_7cf53 5 = .ok (.iload_n 0, 1) := by decide +kernel
theorem dJ9_max_7cf53_6 : decode cJ9_max_7cf53 6 = .ok (.goto 4, 3) := by decide +kernel
theorem dJ9_max_7cf53_9 : decode cJ9_max_7cf53 9 = .ok (.iload_n 1, 1) := by decide +kernel
theorem dJ9_max_7cf53_10 : decode cJ9_max_7cf53 10 = .ok (.ireturn, 1) := by decide +kernel
theorem dJ9_max_f86c9_0 : decode cJ9_max_f86c9 0 = .ok (.lload_n 0, 1) := by decide +kernel
theorem dJ9_max_f86c9_1 : decode cJ9_max_f86c9 1 = .ok (.lload_n 2, 1) := by decide +kernel
theorem dJ9_max_f86c9_2 : decode cJ9_max_f86c9 2 = .ok (.lcmp, 1) := by decide +kernel
theorem dJ9_max_f86c9_3 : decode cJ9_max_f86c9 3 = .ok (.ifCond .lt 7, 3) := by decide +kernel
theorem dJ9_max_f86c9_6 : decode cJ9_max_f86c9 6 = .ok (.lload_n 0, 1) := by decide +kernel
theorem dJ9_max_f86c9_7 : decode cJ9_max_f86c9 7 = .ok (.goto 4, 3) := by decide +kernel
theorem dJ9_max_f86c9_10 : decode cJ9_max_f86c9 10 = .ok (.lload_n 2, 1) := by decide +kernel
theorem dJ9_max_f86c9_11 : decode cJ9_max_f86c9 11 = .ok (.lreturn, 1) := by decide +kernel
theorem dJ7_fill_53178_0 : decode cJ7_fill_53178 0 = .ok (.iconst 0, 1) := by decide +kernel
theorem dJ7_fill_53178_1 : decode cJ7_fill_53178 1 = .ok (.istore_n 2, 1) := by decide +kernel
theorem dJ7_fill_53178_2 : decode cJ7_fill_53178 2 = .ok (.aload_n 0, 1) := by decide +kernel
theorem dJ7_fill_53178_3 : decode cJ7_fill_53178 3 = .ok (.arraylength, 1) := by decide +kernel
theorem dJ7_fill_53178_4 : decode cJ7_fill_53178 4 = .ok (.istore_n 3, 1) := by decide +kernel
theorem dJ7_fill_53178_5 : decode cJ7_fill_53178 5 = .ok (.iload_n 2, 1) := by decide +kernel
theorem dJ7_fill_53178_6 : decode cJ7_fill_53178 6 = .ok (.iload_n 3, 1) := by decide +kernel
theorem dJ7_fill_53178_7 : decode cJ7_fill_53178 7 = .ok (.if_icmp .ge 13, 3) := by decide +kernel
theorem dJ7_fill_53178_10 : decode cJ7_fill_53178 10 = .ok (.aload_n 0, 1) := by decide +kernel
theorem dJ7_fill_53178_11 : decode cJ7_fill_53178 11 = .ok (.iload_n 2, 1) := by decide +kernel
theorem dJ7_fill_53178_12 : decode cJ7_fill_53178 12 = .ok (.iload_n 1, 1) := by decide +kernel
theorem dJ7_fill_53178_13 : decode cJ7_fill_53178 13 = .ok (.iastore, 1) := by decide +kernel
theorem dJ7_fill_53178_14 : decode cJ7_fill_53178 14 = .ok (.iinc 2 1, 3) := by decide +kernel
theorem dJ7_fill_53178_17 : decode cJ7_fill_53178 17 = .ok (.goto (-12), 3) := by decide +kernel
theorem dJ7_fill_53178_20 : decode cJ7_fill_53178 20 = .ok (.return_, 1) := by decide +kernel
set_option maxRecDepth 20000 in
theorem ggL_law_X9_init : GoodIn wsL_law wsX9_init := goodIn_r _ [9, 10, 11, 12, 13, 14, 15, 16, 17, 18, 19, 20, 21, 22, 23, 24, 25, 26, 27, 28, 29, 30, 31, 32, 33, 34, 35, 36, 37, 38, 39, 40, 41, 42, 43, 44, 45, 46, 47, 48, 49, 50, 51, 52, 53, 54, 55, 56, 57, 58, 59, 60, 61, 62, 63, 64, 65, 66, 67, 68, 69, 70, 71, 72, 73, 74, 75, 76, 77, 78, 79, 80, 81, 82, 83, 84, 85, 86, 87, 88, 89, 90, 91, 92, 93, 94, 95, 96, 97, 98, 99, 100, 101, 102, 103, 104, 105, 106, 107, 108, 109, 110, 111, 112, 113, 114, 115, 116, 117, 118, 119, 120, 121, 122, 123, 124, 1104, 1105, 1106, 1064, 1065, 1066, 1067, 1068, 1069, 1070, 1071, 1072, 1073, 1074, 1075, 1107, 1108, 1109, 1110, 1111, 1112, 1113, 1114, 1115, 1116, 1117, 1118, 1119, 1120, 1121, 1122, 1123, 1124, 1125, 1126, 1127, 1128, 1129, 1130, 1131, 1132, 1133, 1134, 1135, 1136, 1137, 1138, 1139, 1140, 1141, 1142, 1143, 1144, 1145, 1146, 1147, 1148, 1149, 1150, 1151, 1152, 1153, 1154, 1155, 1156] (by decide +kernel) (by decide +kernel)
set_option maxRecDepth 20000 in
theorem gL_law_X9_init : GoodIn wsL_law (wsX9_init) := ggL_law_X9_init
set_option maxRecDepth 20000 in
theorem ggL_law_X10_init : GoodIn wsL_law wsX10_init := goodIn_r _ [127, 128, 11, 12, 27, 129, 130, 131, 132, 133, 134, 135, 136, 137, 138, 139, 140, 141, 142, 143, 144, 145, 146, 147, 117, 148, 149, 1076, 1077, 1078, 1079, 1080, 1081, 1082, 1083, 1084, 1085, 1086, 1087, 1088, 1089, 1090, 1091, 1092, 1093, 1094, 1095, 1096, 1097, 1098, 1099, 1100, 1101, 1102, 1103] (by decide +kernel) (by decide +kernel)
set_option maxRecDepth 20000 in
theorem gL_law_X10_init : GoodIn wsL_law (wsX10_init) := ggL_law_X10_init
set_option maxRecDepth 20000 in
theorem ggL_law_X9_write : GoodIn wsL_law wsX9_write := goodIn_r _ [153, 16, 154, 155, 2, 156, 157, 158, 159, 15, 160, 161, 53, 1064, 1065, 1066, 1067, 1068, 1069, 1070, 1071, 1072, 1073, 1074, 1075, 1104, 1105, 1106] (by decide +kernel) (by decide +kernel)
set_option maxRecDepth 20000 in
theorem gL_law_X9_write : GoodIn wsL_law (wsV RL 15 RX9 yX9_write wsX9_write) := goodIn_app (goodIn_of _ (by decide +kernel)) ggL_law_X9_write
set_option maxRecDepth 20000 in
theorem ggL_law_X10_write : GoodIn wsL_law wsX10_write := goodIn_r _ [165, 166, 167, 129, 168, 169, 170, 5, 171, 1076, 1077, 1078, 1079, 1080, 1081, 1082, 1083, 1084, 1085, 1086, 1087, 1088, 1089, 1090, 1091, 1092, 1093, 1094, 1095, 1096, 1097, 1098, 1099, 1100, 1101, 1102, 1103] (by decide +kernel) (by decide +kernel)
set_option maxRecDepth 20000 in
theorem gL_law_X10_write : GoodIn wsL_law (wsV RL 19 RX10 yX10_write wsX10_write) := goodIn_app (goodIn_of _ (by decide +kernel)) ggL_law_X10_write
set_option maxRecDepth 20000 in
theorem ggL_law_X9_wipe : GoodIn wsL_law wsX9_wipe := goodIn_r _ [175, 16, 176, 177, 178, 15, 179, 161, 1064, 1065, 1066, 1067, 1068, 1069, 1070, 1071, 1072, 1073, 1074, 1075, 1104, 1105, 1106] (by decide +kernel) (by decide +kernel)
set_option maxRecDepth 20000 in
theorem gL_law_X9_wipe : GoodIn wsL_law (wsV RL 20 RX9 yX9_wipe wsX9_wipe) := goodIn_app (goodIn_of _ (by decide +kernel)) ggL_law_X9_wipe
set_option maxRecDepth 20000 in
theorem ggL_law_X10_wipe : GoodIn wsL_law wsX10_wipe := goodIn_r _ [183, 167, 1076, 1077, 1078, 1079, 1080, 1081, 1082, 1083, 1084, 1085, 1086, 1087, 1088, 1089, 1090, 1091, 1092, 1093, 1094, 1095, 1096, 1097, 1098, 1099, 1100, 1101, 1102, 1103] (by decide +kernel) (by decide +kernel)
set_option maxRecDepth 20000 in
theorem gL_law_X10_wipe : GoodIn wsL_law (wsV RL 24 RX10 yX10_wipe wsX10_wipe) := goodIn_app (goodIn_of _ (by decide +kernel)) ggL_law_X10_wipe
set_option maxRecDepth 20000 in
theorem ggL_law_X9_fault : GoodIn wsL_law wsX9_fault := goodIn_r _ [187, 16, 188, 189, 190, 15, 191, 161, 57, 192, 193, 194, 56, 195, 196, 197, 198, 199, 200, 201, 53, 202, 203, 204, 205, 206, 207, 208, 209, 61, 210, 211, 212, 213, 214, 215, 216, 217, 218, 219, 220, 221, 222, 223, 155, 2, 156, 1064, 1065, 1066, 1067, 1068, 1069, 1070, 1071, 1072, 1073, 1074, 1075, 1104, 1105, 1106, 1155, 1156] (by decide +kernel) (by decide +kernel)
set_option maxRecDepth 20000 in
theorem gL_law_X9_fault : GoodIn wsL_law (wsV RL 25 RX9 yX9_fault wsX9_fault) := goodIn_app (goodIn_of _ (by decide +kernel)) ggL_law_X9_fault
set_option maxRecDepth 20000 in
theorem ggL_law_X10_fault : GoodIn wsL_law wsX10_fault := goodIn_r _ [227, 228, 229, 230, 5, 231, 130, 232, 167, 131, 129, 141, 233, 234, 235, 236, 237, 238, 239, 240, 241, 242, 243, 244, 245, 246, 247, 248, 249, 250, 251, 169, 170, 171, 1076, 1077, 1078, 1079, 1080, 1081, 1082, 1083, 1084, 1085, 1086, 1087, 1088, 1089, 1090, 1091, 1092, 1093, 1094, 1095, 1096, 1097, 1098, 1099, 1100, 1101, 1102, 1103] (by decide +kernel) (by decide +kernel)
set_option maxRecDepth 20000 in
theorem gL_law_X10_fault : GoodIn wsL_law (wsV RL 28 RX10 yX10_fault wsX10_fault) := goodIn_app (goodIn_of _ (by decide +kernel)) ggL_law_X10_fault
set_option maxRecDepth 20000 in
theorem ggL_law_X9_lay : GoodIn wsL_law wsX9_lay := goodIn_r _ [255, 16, 20, 188, 189, 190, 15, 191, 161, 57, 192, 193, 194, 56, 195, 196, 197, 198, 199, 200, 201, 53, 202, 203, 204, 205, 206, 207, 208, 209, 61, 210, 211, 212, 213, 214, 215, 216, 217, 218, 219, 220, 221, 222, 223, 155, 2, 156, 256, 257, 258, 19, 259, 70, 78, 71, 72, 73, 74, 66, 75, 76, 77, 260, 261, 262, 263, 264, 265, 266, 267, 268, 269, 270, 271, 272, 273, 274, 275, 276, 277, 278, 279, 280, 67, 68, 281, 282, 283, 284, 32, 36, 285, 286, 287, 31, 288, 289, 290, 291, 292, 293, 35, 294, 295, 296, 297, 298, 299, 300, 1064, 1065, 1066, 1067, 1068, 1069, 1070, 1071, 1072, 1073, 1074, 1075, 1104, 1105, 1106, 1155, 1156, 1107, 1108, 1109, 1110, 1111, 1112, 1113, 1114, 1115, 1116, 1121, 1122, 1123, 1124, 1125, 1126, 1127, 1128, 1129, 1130, 1131, 1132, 1133, 1134, 1135, 1136, 1137, 1138, 1139, 1140, 1141, 1142] (by decide +kernel) (by decide +kernel)
set_option maxRecDepth 20000 in
theorem gL_law_X9_lay : GoodIn wsL_law (wsV RL 29 RX9 yX9_lay wsX9_lay) := goodIn_app (goodIn_of _ (by decide +kernel)) ggL_law_X9_lay
set_option maxRecDepth 20000 in
theorem ggL_law_X10_lay : GoodIn wsL_law wsX10_lay := goodIn_r _ [304, 130, 131, 228, 229, 230, 5, 231, 232, 167, 129, 141, 233, 234, 235, 236, 237, 238, 239, 240, 241, 242, 243, 244, 245, 246, 247, 248, 249, 250, 251, 169, 170, 171, 1076, 1077, 1078, 1079, 1080, 1081, 1082, 1083, 1084, 1085, 1086, 1087, 1088, 1089, 1090, 1091, 1092, 1093, 1094, 1095, 1096, 1097, 1098, 1099, 1100, 1101, 1102, 1103] (by decide +kernel) (by decide +kernel)
set_option maxRecDepth 20000 in
theorem gL_law_X10_lay : GoodIn wsL_law (wsV RL 32 RX10 yX10_lay wsX10_lay) := goodIn_app (goodIn_of _ (by decide +kernel)) ggL_law_X10_lay
set_option maxRecDepth 20000 in
theorem ggL_law_X9_law : GoodIn wsL_law wsX9_law := goodIn_r _ [308, 20, 154, 155, 2, 156, 309, 310, 311, 19, 312, 66, 1064, 1065, 1066, 1067, 1068, 1069, 1070, 1071, 1072, 1073, 1074, 1075, 1107, 1108, 1109, 1110, 1111, 1112, 1113, 1114, 1115, 1116] (by decide +kernel) (by decide +kernel)
set_option maxRecDepth 20000 in
theorem gL_law_X9_law : GoodIn wsL_law (wsV RL 33 RX9 yX9_law wsX9_law) := goodIn_app (goodIn_of _ (by decide +kernel)) ggL_law_X9_law
set_option maxRecDepth 20000 in
theorem ggL_law_X10_law : GoodIn wsL_law wsX10_law := goodIn_r _ [316, 317, 169, 170, 5, 171, 318, 319, 320, 321, 131, 322, 323, 324, 325, 130, 1076, 1077, 1078, 1079, 1080, 1081, 1082, 1083, 1084, 1085, 1086, 1087, 1088, 1089, 1090, 1091, 1092, 1093, 1094, 1095, 1096, 1097, 1098, 1099, 1100, 1101, 1102, 1103] (by decide +kernel) (by decide +kernel)
set_option maxRecDepth 20000 in
theorem gL_law_X10_law : GoodIn wsL_law (wsV RL 37 RX10 yX10_law wsX10_law) := goodIn_app (goodIn_of _ (by decide +kernel)) ggL_law_X10_law
set_option maxRecDepth 20000 in
theorem ggL_law_X9_line : GoodIn wsL_law wsX9_line := goodIn_r _ [329, 20, 330, 331, 332, 2, 333, 334, 154, 155, 156, 335, 336, 337, 19, 338, 76, 67, 68, 1064, 1065, 1066, 1067, 1068, 1069, 1070, 1071, 1072, 1073, 1074, 1075, 1107, 1108, 1109, 1110, 1111, 1112, 1113, 1114, 1115, 1116] (by decide +kernel) (by decide +kernel)
set_option maxRecDepth 20000 in
theorem gL_law_X9_line : GoodIn wsL_law (wsV RL 38 RX9 yX9_line wsX9_line) := goodIn_app (goodIn_of _ (by decide +kernel)) ggL_law_X9_line
set_option maxRecDepth 20000 in
theorem ggL_law_X10_line : GoodIn wsL_law wsX10_line := goodIn_r _ [342, 343, 344, 345, 169, 170, 5, 171, 346, 347, 348, 349, 130, 131, 1076, 1077, 1078, 1079, 1080, 1081, 1082, 1083, 1084, 1085, 1086, 1087, 1088, 1089, 1090, 1091, 1092, 1093, 1094, 1095, 1096, 1097, 1098, 1099, 1100, 1101, 1102, 1103] (by decide +kernel) (by decide +kernel)
set_option maxRecDepth 20000 in
theorem gL_law_X10_line : GoodIn wsL_law (wsV RL 41 RX10 yX10_line wsX10_line) := goodIn_app (goodIn_of _ (by decide +kernel)) ggL_law_X10_line
set_option maxRecDepth 20000 in
theorem ggL_law_X9_ball : GoodIn wsL_law wsX9_ball := goodIn_r _ [353, 354, 24, 355, 356, 23, 357, 358, 359, 155, 2, 156, 360, 361, 362, 363, 82, 364, 365, 366, 367, 281, 282, 283, 284, 32, 36, 285, 286, 287, 31, 288, 289, 290, 291, 292, 293, 35, 294, 295, 296, 1064, 1065, 1066, 1067, 1068, 1069, 1070, 1071, 1072, 1073, 1074, 1075, 1117, 1118, 1119, 1120, 1121, 1122, 1123, 1124, 1125, 1126, 1127, 1128, 1129, 1130, 1131, 1132, 1133, 1134, 1135, 1136, 1137, 1138, 1139, 1140, 1141, 1142] (by decide +kernel) (by decide +kernel)
set_option maxRecDepth 20000 in
theorem gL_law_X9_ball : GoodIn wsL_law (wsV RL 42 RX9 yX9_ball wsX9_ball) := goodIn_app (goodIn_of _ (by decide +kernel)) ggL_law_X9_ball
set_option maxRecDepth 20000 in
theorem ggL_law_X10_ball : GoodIn wsL_law wsX10_ball := goodIn_r _ [371, 343, 344, 372, 373, 317, 374, 132, 169, 170, 5, 171, 1076, 1077, 1078, 1079, 1080, 1081, 1082, 1083, 1084, 1085, 1086, 1087, 1088, 1089, 1090, 1091, 1092, 1093, 1094, 1095, 1096, 1097, 1098, 1099, 1100, 1101, 1102, 1103] (by decide +kernel) (by decide +kernel)
set_option maxRecDepth 20000 in
theorem gL_law_X10_ball : GoodIn wsL_law (wsV RL 46 RX10 yX10_ball wsX10_ball) := goodIn_app (goodIn_of _ (by decide +kernel)) ggL_law_X10_ball
set_option maxRecDepth 20000 in
theorem ggL_law_X9_at : GoodIn wsL_law wsX9_at := goodIn_r _ [378, 379, 32, 380, 381, 2, 382, 154, 155, 156, 383, 384, 385, 386, 387, 388, 31, 389, 289, 390, 94, 95, 391, 310, 311, 19, 312, 66, 392, 365, 366, 23, 367, 82, 393, 394, 395, 396, 88, 89, 90, 91, 397, 398, 399, 400, 401, 402, 403, 404, 336, 337, 338, 76, 67, 68, 405, 406, 407, 408, 92, 409, 410, 411, 412, 413, 414, 415, 416, 1064, 1065, 1066, 1067, 1068, 1069, 1070, 1071, 1072, 1073, 1074, 1075, 1121, 1122, 1123, 1124, 1125, 1126, 1127, 1128, 1129, 1130, 1131, 1132, 1133, 1134, 1135, 1107, 1108, 1109, 1110, 1111, 1112, 1113, 1114, 1115, 1116, 1117, 1118, 1119, 1120] (by decide +kernel) (by decide +kernel)
set_option maxRecDepth 20000 in
theorem gL_law_X9_at : GoodIn wsL_law (wsV RL 47 RX9 yX9_at wsX9_at) := goodIn_app (goodIn_of _ (by decide +kernel)) ggL_law_X9_at
set_option maxRecDepth 20000 in
theorem ggL_law_X10_at : GoodIn wsL_law wsX10_at := goodIn_r _ [420, 421, 317, 422, 142, 143, 144, 145, 146, 147, 423, 424, 5, 425, 426, 169, 170, 171, 427, 428, 429, 430, 132, 431, 432, 318, 319, 320, 321, 131, 322, 323, 324, 325, 130, 1076, 1077, 1078, 1079, 1080, 1081, 1082, 1083, 1084, 1085, 1086, 1087, 1088, 1089, 1090, 1091, 1092, 1093, 1094, 1095, 1096, 1097, 1098, 1099, 1100, 1101, 1102, 1103] (by decide +kernel) (by decide +kernel)
set_option maxRecDepth 20000 in
theorem gL_law_X10_at : GoodIn wsL_law (wsV RL 51 RX10 yX10_at wsX10_at) := goodIn_app (goodIn_of _ (by decide +kernel)) ggL_law_X10_at
set_option maxRecDepth 20000 in
theorem ggL_law_X9_touch : GoodIn wsL_law wsX9_touch := goodIn_r _ [436, 379, 32, 437, 380, 381, 2, 382, 154, 155, 156, 386, 387, 388, 31, 389, 289, 390, 94, 95, 391, 310, 311, 19, 312, 66, 392, 365, 366, 23, 367, 82, 393, 394, 395, 396, 88, 89, 90, 91, 397, 398, 399, 400, 401, 402, 403, 404, 336, 337, 338, 76, 67, 68, 438, 439, 440, 441, 442, 443, 444, 445, 446, 447, 448, 449, 92, 413, 414, 415, 416, 409, 410, 411, 412, 450, 451, 452, 453, 454, 1064, 1065, 1066, 1067, 1068, 1069, 1070, 1071, 1072, 1073, 1074, 1075, 1121, 1122, 1123, 1124, 1125, 1126, 1127, 1128, 1129, 1130, 1131, 1132, 1133, 1134, 1135, 1107, 1108, 1109, 1110, 1111, 1112, 1113, 1114, 1115, 1116, 1117, 1118, 1119, 1120] (by decide +kernel) (by decide +kernel)
set_option maxRecDepth 20000 in
theorem gL_law_X9_touch : GoodIn wsL_law (wsV RL 52 RX9 yX9_touch wsX9_touch) := goodIn_app (goodIn_of _ (by decide +kernel)) ggL_law_X9_touch
set_option maxRecDepth 20000 in
theorem ggL_law_X10_touch : GoodIn wsL_law wsX10_touch := goodIn_r _ [458, 251, 422, 431, 459, 142, 143, 432, 423, 424, 5, 425, 426, 169, 170, 171, 427, 428, 429, 430, 132, 144, 145, 146, 147, 318, 319, 320, 321, 131, 322, 323, 324, 325, 130, 460, 461, 462, 463, 346, 347, 348, 349, 1076, 1077, 1078, 1079, 1080, 1081, 1082, 1083, 1084, 1085, 1086, 1087, 1088, 1089, 1090, 1091, 1092, 1093, 1094, 1095, 1096, 1097, 1098, 1099, 1100, 1101, 1102, 1103] (by decide +kernel) (by decide +kernel)
set_option maxRecDepth 20000 in
theorem gL_law_X10_touch : GoodIn wsL_law (wsV RL 55 RX10 yX10_touch wsX10_touch) := goodIn_app (goodIn_of _ (by decide +kernel)) ggL_law_X10_touch
set_option maxRecDepth 20000 in
theorem ggL_law_X9_camera : GoodIn wsL_law wsX9_camera := goodIn_r _ [467, 28, 36, 468, 469, 2, 470, 154, 155, 156, 291, 292, 293, 35, 294, 295, 296, 1064, 1065, 1066, 1067, 1068, 1069, 1070, 1071, 1072, 1073, 1074, 1075, 1136, 1137, 1138, 1139, 1140, 1141, 1142] (by decide +kernel) (by decide +kernel)
set_option maxRecDepth 20000 in
theorem gL_law_X9_camera : GoodIn wsL_law (wsV RL 56 RX9 yX9_camera wsX9_camera) := goodIn_app (goodIn_of _ (by decide +kernel)) ggL_law_X9_camera
set_option maxRecDepth 20000 in
theorem ggL_law_X10_camera : GoodIn wsL_law wsX10_camera := goodIn_r _ [474, 475, 476, 477, 478, 136, 169, 170, 5, 171, 1076, 1077, 1078, 1079, 1080, 1081, 1082, 1083, 1084, 1085, 1086, 1087, 1088, 1089, 1090, 1091, 1092, 1093, 1094, 1095, 1096, 1097, 1098, 1099, 1100, 1101, 1102, 1103] (by decide +kernel) (by decide +kernel)
set_option maxRecDepth 20000 in
theorem gL_law_X10_camera : GoodIn wsL_law (wsV RL 59 RX10 yX10_camera wsX10_camera) := goodIn_app (goodIn_of _ (by decide +kernel)) ggL_law_X10_camera
set_option maxRecDepth 20000 in
theorem ggL_law_X9_blur : GoodIn wsL_law wsX9_blur := goodIn_r _ [482, 354, 483, 24, 468, 469, 2, 470, 154, 155, 156, 383, 384, 385, 484, 485, 486, 487, 488, 489, 23, 490, 491, 83, 1064, 1065, 1066, 1067, 1068, 1069, 1070, 1071, 1072, 1073, 1074, 1075, 1117, 1118, 1119, 1120] (by decide +kernel) (by decide +kernel)
set_option maxRecDepth 20000 in
theorem gL_law_X9_blur : GoodIn wsL_law (wsV RL 60 RX9 yX9_blur wsX9_blur) := goodIn_app (goodIn_of _ (by decide +kernel)) ggL_law_X9_blur
set_option maxRecDepth 20000 in
theorem ggL_law_X10_blur : GoodIn wsL_law wsX10_blur := goodIn_r _ [495, 475, 421, 496, 497, 169, 170, 5, 171, 498, 499, 500, 239, 501, 502, 503, 504, 134, 135, 1076, 1077, 1078, 1079, 1080, 1081, 1082, 1083, 1084, 1085, 1086, 1087, 1088, 1089, 1090, 1091, 1092, 1093, 1094, 1095, 1096, 1097, 1098, 1099, 1100, 1101, 1102, 1103] (by decide +kernel) (by decide +kernel)
set_option maxRecDepth 20000 in
theorem gL_law_X10_blur : GoodIn wsL_law (wsV RL 64 RX10 yX10_blur wsX10_blur) := goodIn_app (goodIn_of _ (by decide +kernel)) ggL_law_X10_blur
set_option maxRecDepth 20000 in
theorem ggL_law_X9_mark : GoodIn wsL_law wsX9_mark := goodIn_r _ [508, 24, 331, 332, 2, 333, 330, 334, 154, 155, 156, 484, 485, 486, 487, 488, 489, 23, 490, 491, 83, 1064, 1065, 1066, 1067, 1068, 1069, 1070, 1071, 1072, 1073, 1074, 1075, 1117, 1118, 1119, 1120] (by decide +kernel) (by decide +kernel)
set_option maxRecDepth 20000 in
theorem gL_law_X9_mark : GoodIn wsL_law (wsV RL 65 RX9 yX9_mark wsX9_mark) := goodIn_app (goodIn_of _ (by decide +kernel)) ggL_law_X9_mark
set_option maxRecDepth 20000 in
theorem ggL_law_X10_mark : GoodIn wsL_law wsX10_mark := goodIn_r _ [512, 513, 514, 5, 515, 343, 344, 169, 170, 171, 498, 499, 500, 239, 501, 502, 503, 504, 134, 135, 1076, 1077, 1078, 1079, 1080, 1081, 1082, 1083, 1084, 1085, 1086, 1087, 1088, 1089, 1090, 1091, 1092, 1093, 1094, 1095, 1096, 1097, 1098, 1099, 1100, 1101, 1102, 1103] (by decide +kernel) (by decide +kernel)
set_option maxRecDepth 20000 in
theorem gL_law_X10_mark : GoodIn wsL_law (wsV RL 68 RX10 yX10_mark wsX10_mark) := goodIn_app (goodIn_of _ (by decide +kernel)) ggL_law_X10_mark
set_option maxRecDepth 20000 in
theorem ggL_law_X9_heard : GoodIn wsL_law wsX9_heard := goodIn_r _ [519, 24, 331, 332, 2, 333, 330, 334, 154, 155, 156, 383, 384, 385, 484, 485, 486, 487, 488, 489, 23, 490, 491, 83, 1064, 1065, 1066, 1067, 1068, 1069, 1070, 1071, 1072, 1073, 1074, 1075, 1117, 1118, 1119, 1120] (by decide +kernel) (by decide +kernel)
set_option maxRecDepth 20000 in
theorem gL_law_X9_heard : GoodIn wsL_law (wsV RL 69 RX9 yX9_heard wsX9_heard) := goodIn_app (goodIn_of _ (by decide +kernel)) ggL_law_X9_heard
set_option maxRecDepth 20000 in
theorem ggL_law_X10_heard : GoodIn wsL_law wsX10_heard := goodIn_r _ [523, 421, 237, 513, 514, 5, 515, 343, 344, 169, 170, 171, 498, 499, 500, 239, 501, 502, 503, 504, 134, 135, 1076, 1077, 1078, 1079, 1080, 1081, 1082, 1083, 1084, 1085, 1086, 1087, 1088, 1089, 1090, 1091, 1092, 1093, 1094, 1095, 1096, 1097, 1098, 1099, 1100, 1101, 1102, 1103] (by decide +kernel) (by decide +kernel)
set_option maxRecDepth 20000 in
theorem gL_law_X10_heard : GoodIn wsL_law (wsV RL 73 RX10 yX10_heard wsX10_heard) := goodIn_app (goodIn_of _ (by decide +kernel)) ggL_law_X10_heard
set_option maxRecDepth 20000 in
theorem ggL_law_X9_noSights : GoodIn wsL_law wsX9_noSights := goodIn_r _ [527, 24, 36, 528, 529, 530, 23, 531, 491, 291, 292, 293, 35, 294, 295, 296, 1064, 1065, 1066, 1067, 1068, 1069, 1070, 1071, 1072, 1073, 1074, 1075, 1117, 1118, 1119, 1120, 1136, 1137, 1138, 1139, 1140, 1141, 1142] (by decide +kernel) (by decide +kernel)
set_option maxRecDepth 20000 in
theorem gL_law_X9_noSights : GoodIn wsL_law (wsV RL 74 RX9 yX9_noSights wsX9_noSights) := goodIn_app (goodIn_of _ (by decide +kernel)) ggL_law_X9_noSights
set_option maxRecDepth 20000 in
theorem ggL_law_X10_noSights : GoodIn wsL_law wsX10_noSights := goodIn_r _ [535, 134, 1076, 1077, 1078, 1079, 1080, 1081, 1082, 1083, 1084, 1085, 1086, 1087, 1088, 1089, 1090, 1091, 1092, 1093, 1094, 1095, 1096, 1097, 1098, 1099, 1100, 1101, 1102, 1103] (by decide +kernel) (by decide +kernel)
set_option maxRecDepth 20000 in
theorem gL_law_X10_noSights : GoodIn wsL_law (wsV RL 77 RX10 yX10_noSights wsX10_noSights) := goodIn_app (goodIn_of _ (by decide +kernel)) ggL_law_X10_noSights
set_option maxRecDepth 20000 in
theorem ggL_law_X9_leave : GoodIn wsL_law wsX9_leave := goodIn_r _ [539, 24, 154, 155, 2, 156, 540, 541, 542, 23, 543, 544, 1064, 1065, 1066, 1067, 1068, 1069, 1070, 1071, 1072, 1073, 1074, 1075, 1117, 1118, 1119, 1120] (by decide +kernel) (by decide +kernel)
set_option maxRecDepth 20000 in
theorem gL_law_X9_leave : GoodIn wsL_law (wsV RL 78 RX9 yX9_leave wsX9_leave) := goodIn_app (goodIn_of _ (by decide +kernel)) ggL_law_X9_leave
set_option maxRecDepth 20000 in
theorem ggL_law_X10_leave : GoodIn wsL_law wsX10_leave := goodIn_r _ [548, 549, 133, 169, 170, 5, 171, 1076, 1077, 1078, 1079, 1080, 1081, 1082, 1083, 1084, 1085, 1086, 1087, 1088, 1089, 1090, 1091, 1092, 1093, 1094, 1095, 1096, 1097, 1098, 1099, 1100, 1101, 1102, 1103] (by decide +kernel) (by decide +kernel)
set_option maxRecDepth 20000 in
theorem gL_law_X10_leave : GoodIn wsL_law (wsV RL 81 RX10 yX10_leave wsX10_leave) := goodIn_app (goodIn_of _ (by decide +kernel)) ggL_law_X10_leave
set_option maxRecDepth 20000 in
theorem ggL_law_X9_fits : GoodIn wsL_law wsX9_fits := goodIn_r _ [553, 24, 36, 380, 381, 2, 382, 154, 155, 156, 554, 555, 556, 23, 557, 491, 558, 559, 560, 35, 561, 103, 296, 100, 101, 295, 102, 562, 387, 388, 31, 389, 289, 390, 94, 95, 391, 310, 311, 19, 312, 66, 392, 365, 366, 367, 82, 393, 394, 395, 396, 88, 89, 90, 91, 397, 398, 399, 400, 401, 402, 403, 404, 336, 337, 338, 76, 67, 68, 563, 564, 565, 566, 567, 568, 569, 570, 571, 572, 573, 574, 575, 576, 577, 578, 579, 580, 581, 582, 583, 83, 584, 585, 586, 587, 588, 589, 590, 591, 592, 439, 440, 441, 593, 594, 595, 596, 290, 93, 446, 447, 448, 449, 92, 413, 414, 415, 416, 409, 410, 411, 412, 597, 598, 599, 600, 601, 602, 603, 604, 605, 606, 607, 608, 609, 610, 611, 612, 613, 104, 614, 615, 616, 617, 618, 619, 620, 621, 622, 623, 624, 625, 626, 627, 628, 629, 630, 631, 632, 633, 634, 635, 636, 637, 638, 639, 640, 641, 642, 643, 644, 645, 646, 647, 648, 649, 650, 651, 652, 653, 654, 655, 656, 657, 658, 659, 660, 661, 662, 663, 664, 665, 666, 667, 668, 669, 544, 670, 671, 672, 673, 674, 675, 676, 677, 678, 679, 680, 681, 682, 683, 1064, 1065, 1066, 1067, 1068, 1069, 1070, 1071, 1072, 1073, 1074, 1075, 1117, 1118, 1119, 1120, 1136, 1137, 1138, 1139, 1140, 1141, 1142, 1121, 1122, 1123, 1124, 1125, 1126, 1127, 1128, 1129, 1130, 1131, 1132, 1133, 1134, 1135, 1107, 1108, 1109, 1110, 1111, 1112, 1113, 1114, 1115, 1116] (by decide +kernel) (by decide +kernel)
set_option maxRecDepth 20000 in
theorem gL_law_X9_fits : GoodIn wsL_law (wsV RL 82 RX9 yX9_fits wsX9_fits) := goodIn_app (goodIn_of _ (by decide +kernel)) ggL_law_X9_fits
set_option maxRecDepth 20000 in
theorem ggL_law_X10_fits : GoodIn wsL_law wsX10_fits := goodIn_r _ [687, 688, 134, 133, 423, 424, 5, 425, 426, 169, 170, 171, 427, 428, 429, 430, 142, 132, 143, 144, 145, 146, 147, 431, 432, 318, 319, 320, 321, 131, 322, 323, 324, 325, 130, 689, 690, 691, 692, 135, 693, 694, 695, 696, 697, 698, 699, 700, 701, 702, 703, 704, 136, 705, 706, 707, 1076, 1077, 1078, 1079, 1080, 1081, 1082, 1083, 1084, 1085, 1086, 1087, 1088, 1089, 1090, 1091, 1092, 1093, 1094, 1095, 1096, 1097, 1098, 1099, 1100, 1101, 1102, 1103] (by decide +kernel) (by decide +kernel)
set_option maxRecDepth 20000 in
theorem gL_law_X10_fits : GoodIn wsL_law (wsV RL 85 RX10 yX10_fits wsX10_fits) := goodIn_app (goodIn_of _ (by decide +kernel)) ggL_law_X10_fits
set_option maxRecDepth 20000 in
theorem ggL_law_X9_fitting : GoodIn wsL_law wsX9_fitting := goodIn_r _ [711, 36, 24, 558, 559, 560, 35, 561, 103, 296, 100, 101, 295, 102, 562, 387, 388, 31, 389, 289, 390, 94, 95, 391, 310, 311, 19, 312, 66, 392, 365, 366, 23, 367, 82, 393, 394, 395, 396, 88, 89, 90, 91, 397, 398, 399, 400, 401, 402, 403, 404, 336, 337, 338, 76, 67, 68, 563, 564, 565, 566, 567, 555, 556, 557, 491, 568, 569, 570, 571, 572, 573, 574, 575, 576, 577, 578, 579, 580, 581, 582, 583, 83, 584, 585, 586, 587, 588, 589, 590, 591, 592, 439, 440, 441, 593, 594, 595, 596, 290, 93, 446, 447, 448, 449, 92, 413, 414, 415, 416, 409, 410, 411, 412, 597, 598, 599, 600, 601, 602, 603, 604, 605, 606, 607, 608, 609, 610, 611, 612, 613, 104, 614, 615, 616, 617, 618, 619, 620, 621, 622, 623, 624, 625, 626, 627, 628, 629, 630, 631, 632, 633, 634, 635, 636, 637, 638, 639, 640, 641, 642, 643, 644, 645, 646, 647, 648, 649, 650, 651, 652, 653, 654, 655, 656, 657, 658, 659, 660, 661, 662, 663, 664, 665, 666, 667, 668, 669, 544, 670, 671, 672, 673, 674, 675, 676, 677, 678, 679, 712, 713, 714, 715, 716, 681, 682, 683, 717, 718, 719, 720, 1064, 1065, 1066, 1067, 1068, 1069, 1070, 1071, 1072, 1073, 1074, 1075, 1136, 1137, 1138, 1139, 1140, 1141, 1142, 1121, 1122, 1123, 1124, 1125, 1126, 1127, 1128, 1129, 1130, 1131, 1132, 1133, 1134, 1135, 1107, 1108, 1109, 1110, 1111, 1112, 1113, 1114, 1115, 1116, 1117, 1118, 1119, 1120] (by decide +kernel) (by decide +kernel)
set_option maxRecDepth 20000 in
theorem gL_law_X9_fitting : GoodIn wsL_law (wsV RL 86 RX9 yX9_fitting wsX9_fitting) := goodIn_app (goodIn_of _ (by decide +kernel)) ggL_law_X9_fitting
set_option maxRecDepth 20000 in
theorem ggL_law_X10_fitting : GoodIn wsL_law wsX10_fitting := goodIn_r _ [724, 133, 427, 428, 429, 5, 430, 142, 132, 143, 144, 145, 146, 147, 431, 432, 318, 319, 320, 321, 131, 322, 323, 324, 325, 130, 689, 690, 691, 692, 134, 135, 693, 694, 695, 696, 697, 698, 699, 700, 701, 702, 703, 704, 136, 705, 706, 707, 1076, 1077, 1078, 1079, 1080, 1081, 1082, 1083, 1084, 1085, 1086, 1087, 1088, 1089, 1090, 1091, 1092, 1093, 1094, 1095, 1096, 1097, 1098, 1099, 1100, 1101, 1102, 1103] (by decide +kernel) (by decide +kernel)
set_option maxRecDepth 20000 in
theorem gL_law_X10_fitting : GoodIn wsL_law (wsV RL 89 RX10 yX10_fitting wsX10_fitting) := goodIn_app (goodIn_of _ (by decide +kernel)) ggL_law_X10_fitting
set_option maxRecDepth 20000 in
theorem ggL_law_X9_odds : GoodIn wsL_law wsX9_odds := goodIn_r _ [728, 36, 24, 32, 20, 154, 155, 2, 156, 558, 559, 560, 35, 561, 103, 296, 100, 101, 295, 102, 562, 387, 388, 31, 389, 289, 390, 94, 95, 391, 310, 311, 19, 312, 66, 392, 365, 366, 23, 367, 82, 393, 394, 395, 396, 88, 89, 90, 91, 397, 398, 399, 400, 401, 402, 403, 404, 336, 337, 338, 76, 67, 68, 563, 564, 565, 566, 567, 555, 556, 557, 491, 568, 569, 570, 571, 572, 573, 574, 575, 576, 577, 578, 579, 580, 581, 582, 583, 83, 584, 585, 586, 587, 588, 589, 590, 591, 592, 439, 440, 441, 593, 594, 595, 596, 290, 93, 446, 447, 448, 449, 92, 413, 414, 415, 416, 409, 410, 411, 412, 597, 598, 599, 600, 601, 602, 603, 604, 605, 606, 607, 608, 609, 610, 611, 612, 613, 104, 614, 615, 616, 617, 618, 619, 620, 621, 622, 623, 624, 625, 626, 627, 628, 629, 630, 631, 632, 633, 634, 635, 636, 637, 638, 639, 640, 641, 642, 643, 644, 645, 646, 647, 648, 649, 650, 651, 652, 653, 654, 655, 656, 657, 658, 659, 660, 661, 662, 663, 664, 665, 666, 667, 668, 669, 544, 670, 671, 672, 673, 674, 675, 676, 677, 678, 679, 729, 730, 731, 732, 716, 681, 682, 683, 733, 451, 452, 453, 454, 712, 713, 714, 715, 438, 309, 734, 735, 736, 1064, 1065, 1066, 1067, 1068, 1069, 1070, 1071, 1072, 1073, 1074, 1075, 1136, 1137, 1138, 1139, 1140, 1141, 1142, 1121, 1122, 1123, 1124, 1125, 1126, 1127, 1128, 1129, 1130, 1131, 1132, 1133, 1134, 1135, 1107, 1108, 1109, 1110, 1111, 1112, 1113, 1114, 1115, 1116, 1117, 1118, 1119, 1120] (by decide +kernel) (by decide +kernel)
set_option maxRecDepth 20000 in
theorem gL_law_X9_odds : GoodIn wsL_law (wsV RL 90 RX9 yX9_odds wsX9_odds) := goodIn_app (goodIn_of _ (by decide +kernel)) ggL_law_X9_odds
set_option maxRecDepth 20000 in
theorem ggL_law_X10_odds : GoodIn wsL_law wsX10_odds := goodIn_r _ [740, 476, 133, 431, 169, 170, 5, 171, 427, 428, 429, 430, 142, 132, 143, 144, 145, 146, 147, 432, 318, 319, 320, 321, 131, 322, 323, 324, 325, 130, 689, 690, 691, 692, 134, 135, 693, 694, 695, 696, 697, 698, 699, 700, 701, 702, 703, 704, 136, 705, 706, 707, 460, 461, 462, 463, 346, 347, 348, 349, 1076, 1077, 1078, 1079, 1080, 1081, 1082, 1083, 1084, 1085, 1086, 1087, 1088, 1089, 1090, 1091, 1092, 1093, 1094, 1095, 1096, 1097, 1098, 1099, 1100, 1101, 1102, 1103] (by decide +kernel) (by decide +kernel)
set_option maxRecDepth 20000 in
theorem gL_law_X10_odds : GoodIn wsL_law (wsV RL 93 RX10 yX10_odds wsX10_odds) := goodIn_app (goodIn_of _ (by decide +kernel)) ggL_law_X10_odds
set_option maxRecDepth 20000 in
theorem ggL_law_X9_shown : GoodIn wsL_law wsX9_shown := goodIn_r _ [744, 36, 154, 155, 2, 156, 558, 559, 560, 35, 561, 103, 296, 100, 101, 295, 102, 562, 387, 388, 31, 389, 289, 390, 94, 95, 391, 310, 311, 19, 312, 66, 392, 365, 366, 23, 367, 82, 393, 394, 395, 396, 88, 89, 90, 91, 397, 398, 399, 400, 401, 402, 403, 404, 336, 337, 338, 76, 67, 68, 563, 564, 565, 566, 567, 555, 556, 557, 491, 568, 569, 570, 571, 572, 573, 574, 575, 576, 577, 578, 579, 580, 581, 582, 583, 83, 584, 585, 586, 587, 588, 589, 590, 591, 592, 439, 440, 441, 593, 594, 595, 596, 290, 93, 446, 447, 448, 449, 92, 413, 414, 415, 416, 409, 410, 411, 412, 597, 598, 599, 600, 601, 602, 603, 604, 605, 606, 607, 608, 609, 610, 611, 612, 613, 104, 614, 615, 616, 617, 618, 619, 620, 621, 622, 623, 624, 625, 626, 627, 628, 629, 630, 631, 632, 633, 634, 635, 636, 637, 638, 639, 640, 641, 642, 643, 644, 645, 646, 647, 648, 649, 650, 651, 652, 653, 654, 655, 656, 657, 658, 659, 660, 661, 662, 663, 664, 665, 745, 746, 747, 748, 749, 750, 751, 752, 753, 667, 668, 669, 544, 754, 1064, 1065, 1066, 1067, 1068, 1069, 1070, 1071, 1072, 1073, 1074, 1075, 1136, 1137, 1138, 1139, 1140, 1141, 1142, 1121, 1122, 1123, 1124, 1125, 1126, 1127, 1128, 1129, 1130, 1131, 1132, 1133, 1134, 1135, 1107, 1108, 1109, 1110, 1111, 1112, 1113, 1114, 1115, 1116, 1117, 1118, 1119, 1120] (by decide +kernel) (by decide +kernel)
set_option maxRecDepth 20000 in
theorem gL_law_X9_shown : GoodIn wsL_law (wsV RL 94 RX9 yX9_shown wsX9_shown) := goodIn_app (goodIn_of _ (by decide +kernel)) ggL_law_X9_shown
set_option maxRecDepth 20000 in
theorem ggL_law_X10_shown : GoodIn wsL_law wsX10_shown := goodIn_r _ [758, 134, 135, 133, 169, 170, 5, 171, 427, 428, 429, 430, 142, 132, 143, 144, 145, 146, 147, 431, 432, 318, 319, 320, 321, 131, 322, 323, 324, 325, 130, 693, 694, 695, 696, 701, 702, 703, 704, 136, 705, 706, 707, 1076, 1077, 1078, 1079, 1080, 1081, 1082, 1083, 1084, 1085, 1086, 1087, 1088, 1089, 1090, 1091, 1092, 1093, 1094, 1095, 1096, 1097, 1098, 1099, 1100, 1101, 1102, 1103] (by decide +kernel) (by decide +kernel)
set_option maxRecDepth 20000 in
theorem gL_law_X10_shown : GoodIn wsL_law (wsV RL 97 RX10 yX10_shown wsX10_shown) := goodIn_app (goodIn_of _ (by decide +kernel)) ggL_law_X10_shown
set_option maxRecDepth 20000 in
theorem ggL_law_X9_apart : GoodIn wsL_law wsX9_apart := goodIn_r _ [762, 32, 380, 381, 2, 382, 154, 155, 156, 386, 387, 388, 31, 389, 289, 390, 94, 95, 391, 310, 311, 19, 312, 66, 392, 365, 366, 23, 367, 82, 393, 394, 395, 396, 88, 89, 90, 91, 397, 398, 399, 400, 401, 402, 403, 404, 336, 337, 338, 76, 67, 68, 438, 439, 440, 441, 763, 764, 765, 766, 767, 604, 574, 605, 446, 447, 448, 449, 92, 413, 414, 415, 416, 409, 410, 411, 412, 1064, 1065, 1066, 1067, 1068, 1069, 1070, 1071, 1072, 1073, 1074, 1075, 1121, 1122, 1123, 1124, 1125, 1126, 1127, 1128, 1129, 1130, 1131, 1132, 1133, 1134, 1135, 1107, 1108, 1109, 1110, 1111, 1112, 1113, 1114, 1115, 1116, 1117, 1118, 1119, 1120] (by decide +kernel) (by decide +kernel)
set_option maxRecDepth 20000 in
theorem gL_law_X9_apart : GoodIn wsL_law (wsV RL 98 RX9 yX9_apart wsX9_apart) := goodIn_app (goodIn_of _ (by decide +kernel)) ggL_law_X9_apart
set_option maxRecDepth 20000 in
theorem ggL_law_X10_apart : GoodIn wsL_law wsX10_apart := goodIn_r _ [771, 431, 142, 143, 423, 424, 5, 425, 426, 169, 170, 171, 427, 428, 429, 430, 132, 144, 145, 146, 147, 432, 318, 319, 320, 321, 131, 322, 323, 324, 325, 130, 705, 706, 707, 1076, 1077, 1078, 1079, 1080, 1081, 1082, 1083, 1084, 1085, 1086, 1087, 1088, 1089, 1090, 1091, 1092, 1093, 1094, 1095, 1096, 1097, 1098, 1099, 1100, 1101, 1102, 1103] (by decide +kernel) (by decide +kernel)
set_option maxRecDepth 20000 in
theorem gL_law_X10_apart : GoodIn wsL_law (wsV RL 101 RX10 yX10_apart wsX10_apart) := goodIn_app (goodIn_of _ (by decide +kernel)) ggL_law_X10_apart
set_option maxRecDepth 20000 in
theorem ggL_law_X9_moved : GoodIn wsL_law wsX9_moved := goodIn_r _ [775, 36, 558, 559, 560, 35, 561, 103, 296, 100, 101, 295, 102, 562, 387, 388, 31, 389, 289, 390, 94, 95, 391, 310, 311, 19, 312, 66, 392, 365, 366, 23, 367, 82, 393, 394, 395, 396, 88, 89, 90, 91, 397, 398, 399, 400, 401, 402, 403, 404, 336, 337, 338, 76, 67, 68, 563, 564, 565, 566, 567, 555, 556, 557, 491, 568, 569, 570, 571, 572, 573, 574, 575, 576, 577, 578, 579, 580, 581, 582, 583, 83, 584, 585, 586, 587, 588, 589, 590, 591, 592, 439, 440, 441, 593, 594, 595, 596, 290, 93, 446, 447, 448, 449, 92, 413, 414, 415, 416, 409, 410, 411, 412, 597, 598, 599, 600, 601, 602, 603, 604, 605, 606, 607, 608, 609, 610, 611, 612, 613, 104, 614, 615, 616, 617, 618, 619, 620, 621, 622, 623, 624, 625, 626, 627, 628, 629, 630, 631, 632, 633, 634, 635, 636, 637, 638, 639, 640, 641, 642, 643, 644, 645, 646, 647, 648, 649, 650, 651, 652, 653, 654, 655, 656, 657, 658, 659, 660, 661, 662, 663, 664, 665, 776, 777, 778, 779, 753, 667, 668, 669, 544, 780, 781, 782, 783, 784, 785, 786, 787, 788, 789, 790, 791, 671, 672, 673, 674, 675, 676, 677, 678, 679, 792, 718, 719, 720, 716, 681, 682, 683, 1064, 1065, 1066, 1067, 1068, 1069, 1070, 1071, 1072, 1073, 1074, 1075, 1136, 1137, 1138, 1139, 1140, 1141, 1142, 1121, 1122, 1123, 1124, 1125, 1126, 1127, 1128, 1129, 1130, 1131, 1132, 1133, 1134, 1135, 1107, 1108, 1109, 1110, 1111, 1112, 1113, 1114, 1115, 1116, 1117, 1118, 1119, 1120] (by decide +kernel) (by decide +kernel)
set_option maxRecDepth 20000 in
theorem gL_law_X9_moved : GoodIn wsL_law (wsV RL 102 RX9 yX9_moved wsX9_moved) := goodIn_app (goodIn_of _ (by decide +kernel)) ggL_law_X9_moved
set_option maxRecDepth 20000 in
theorem ggL_law_X10_moved : GoodIn wsL_law wsX10_moved := goodIn_r _ [796, 133, 797, 798, 5, 799, 800, 801, 802, 803, 427, 428, 429, 430, 142, 132, 143, 144, 145, 146, 147, 431, 432, 318, 319, 320, 321, 131, 322, 323, 324, 325, 130, 689, 690, 691, 692, 134, 135, 693, 694, 695, 696, 697, 698, 699, 700, 701, 702, 703, 704, 136, 705, 706, 707, 1076, 1077, 1078, 1079, 1080, 1081, 1082, 1083, 1084, 1085, 1086, 1087, 1088, 1089, 1090, 1091, 1092, 1093, 1094, 1095, 1096, 1097, 1098, 1099, 1100, 1101, 1102, 1103] (by decide +kernel) (by decide +kernel)
set_option maxRecDepth 20000 in
theorem gL_law_X10_moved : GoodIn wsL_law (wsV RL 105 RX10 yX10_moved wsX10_moved) := goodIn_app (goodIn_of _ (by decide +kernel)) ggL_law_X10_moved
set_option maxRecDepth 20000 in
theorem ggL_law_X9_whose : GoodIn wsL_law wsX9_whose := goodIn_r _ [807, 24, 36, 554, 555, 556, 23, 557, 491, 154, 155, 2, 156, 808, 577, 578, 579, 580, 581, 582, 583, 83, 558, 559, 560, 35, 561, 103, 296, 100, 101, 295, 102, 562, 387, 388, 31, 389, 289, 390, 94, 95, 391, 310, 311, 19, 312, 66, 392, 365, 366, 367, 82, 393, 394, 395, 396, 88, 89, 90, 91, 397, 398, 399, 400, 401, 402, 403, 404, 336, 337, 338, 76, 67, 68, 563, 564, 565, 566, 567, 568, 569, 570, 571, 572, 573, 574, 575, 576, 584, 585, 586, 587, 588, 589, 590, 591, 592, 439, 440, 441, 593, 594, 595, 596, 290, 93, 446, 447, 448, 449, 92, 413, 414, 415, 416, 409, 410, 411, 412, 597, 598, 599, 600, 601, 602, 603, 604, 605, 606, 607, 608, 609, 610, 611, 612, 613, 104, 614, 615, 616, 617, 618, 619, 620, 621, 622, 623, 624, 625, 626, 627, 628, 629, 630, 631, 632, 633, 634, 635, 636, 637, 638, 639, 640, 641, 642, 643, 644, 645, 646, 647, 648, 649, 650, 651, 652, 653, 654, 655, 656, 657, 658, 659, 660, 661, 662, 663, 664, 665, 666, 667, 668, 669, 544, 809, 675, 676, 677, 678, 679, 712, 713, 714, 715, 716, 681, 682, 683, 1064, 1065, 1066, 1067, 1068, 1069, 1070, 1071, 1072, 1073, 1074, 1075, 1117, 1118, 1119, 1120, 1136, 1137, 1138, 1139, 1140, 1141, 1142, 1121, 1122, 1123, 1124, 1125, 1126, 1127, 1128, 1129, 1130, 1131, 1132, 1133, 1134, 1135, 1107, 1108, 1109, 1110, 1111, 1112, 1113, 1114, 1115, 1116] (by decide +kernel) (by decide +kernel)
set_option maxRecDepth 20000 in
theorem gL_law_X9_whose : GoodIn wsL_law (wsV RL 106 RX9 yX9_whose wsX9_whose) := goodIn_app (goodIn_of _ (by decide +kernel)) ggL_law_X9_whose
set_option maxRecDepth 20000 in
theorem ggL_law_X10_whose : GoodIn wsL_law wsX10_whose := goodIn_r _ [813, 134, 135, 133, 169, 170, 5, 171, 427, 428, 429, 430, 142, 132, 143, 144, 145, 146, 147, 431, 432, 318, 319, 320, 321, 131, 322, 323, 324, 325, 130, 689, 690, 691, 692, 693, 694, 695, 696, 697, 698, 699, 700, 701, 702, 703, 704, 136, 705, 706, 707, 1076, 1077, 1078, 1079, 1080, 1081, 1082, 1083, 1084, 1085, 1086, 1087, 1088, 1089, 1090, 1091, 1092, 1093, 1094, 1095, 1096, 1097, 1098, 1099, 1100, 1101, 1102, 1103] (by decide +kernel) (by decide +kernel)
set_option maxRecDepth 20000 in
theorem gL_law_X10_whose : GoodIn wsL_law (wsV RL 109 RX10 yX10_whose wsX10_whose) := goodIn_app (goodIn_of _ (by decide +kernel)) ggL_law_X10_whose
set_option maxRecDepth 20000 in
theorem ggL_law_X9_would : GoodIn wsL_law wsX9_would := goodIn_r _ [817, 20, 36, 24, 154, 155, 2, 156, 818, 819, 820, 19, 821, 77, 558, 559, 560, 35, 561, 103, 296, 100, 101, 295, 102, 562, 387, 388, 31, 389, 289, 390, 94, 95, 391, 310, 311, 312, 66, 392, 365, 366, 23, 367, 82, 393, 394, 395, 396, 88, 89, 90, 91, 397, 398, 399, 400, 401, 402, 403, 404, 336, 337, 338, 76, 67, 68, 563, 564, 565, 566, 567, 555, 556, 557, 491, 568, 569, 570, 571, 572, 573, 574, 575, 576, 577, 578, 579, 580, 581, 582, 583, 83, 584, 585, 586, 587, 588, 589, 590, 591, 592, 439, 440, 441, 593, 594, 595, 596, 290, 93, 446, 447, 448, 449, 92, 413, 414, 415, 416, 409, 410, 411, 412, 597, 598, 599, 600, 601, 602, 603, 604, 605, 606, 607, 608, 609, 610, 611, 612, 613, 104, 614, 615, 616, 617, 618, 619, 620, 621, 622, 623, 624, 625, 626, 627, 628, 629, 630, 631, 632, 633, 634, 635, 636, 637, 638, 639, 640, 641, 642, 643, 644, 645, 646, 647, 648, 649, 650, 651, 652, 653, 654, 655, 656, 657, 658, 659, 660, 661, 662, 663, 664, 665, 666, 667, 668, 669, 544, 670, 671, 672, 673, 674, 675, 676, 677, 678, 679, 822, 823, 824, 825, 826, 827, 828, 829, 269, 830, 831, 832, 833, 834, 835, 836, 837, 271, 716, 681, 682, 683, 838, 839, 840, 841, 270, 712, 713, 714, 715, 1064, 1065, 1066, 1067, 1068, 1069, 1070, 1071, 1072, 1073, 1074, 1075, 1107, 1108, 1109, 1110, 1111, 1112, 1113, 1114, 1115, 1116, 1136, 1137, 1138, 1139, 1140, 1141, 1142, 1121, 1122, 1123, 1124, 1125, 1126, 1127, 1128, 1129, 1130, 1131, 1132, 1133, 1134, 1135, 1117, 1118, 1119, 1120] (by decide +kernel) (by decide +kernel)
set_option maxRecDepth 20000 in
theorem gL_law_X9_would : GoodIn wsL_law (wsV RL 110 RX9 yX9_would wsX9_would) := goodIn_app (goodIn_of _ (by decide +kernel)) ggL_law_X9_would
set_option maxRecDepth 20000 in
theorem ggL_law_X10_would : GoodIn wsL_law wsX10_would := goodIn_r _ [845, 133, 169, 170, 5, 171, 322, 323, 324, 325, 130, 131, 427, 428, 429, 430, 142, 132, 143, 144, 145, 146, 147, 431, 432, 318, 319, 320, 321, 689, 690, 691, 692, 134, 135, 693, 694, 695, 696, 697, 698, 699, 700, 701, 702, 703, 704, 136, 705, 706, 707, 846, 847, 848, 849, 1076, 1077, 1078, 1079, 1080, 1081, 1082, 1083, 1084, 1085, 1086, 1087, 1088, 1089, 1090, 1091, 1092, 1093, 1094, 1095, 1096, 1097, 1098, 1099, 1100, 1101, 1102, 1103] (by decide +kernel) (by decide +kernel)
set_option maxRecDepth 20000 in
theorem gL_law_X10_would : GoodIn wsL_law (wsV RL 113 RX10 yX10_would wsX10_would) := goodIn_app (goodIn_of _ (by decide +kernel)) ggL_law_X10_would
set_option maxRecDepth 20000 in
theorem ggL_law_X9_call : GoodIn wsL_law wsX9_call := goodIn_r _ [853, 40, 154, 155, 2, 156, 854, 855, 856, 39, 857, 858, 108, 109, 111, 1064, 1065, 1066, 1067, 1068, 1069, 1070, 1071, 1072, 1073, 1074, 1075, 1143, 1144, 1145, 1146] (by decide +kernel) (by decide +kernel)
set_option maxRecDepth 20000 in
theorem gL_law_X9_call : GoodIn wsL_law (wsV RL 114 RX9 yX9_call wsX9_call) := goodIn_app (goodIn_of _ (by decide +kernel)) ggL_law_X9_call
set_option maxRecDepth 20000 in
theorem ggL_law_X10_call : GoodIn wsL_law wsX10_call := goodIn_r _ [862, 863, 864, 865, 137, 169, 170, 5, 171, 1076, 1077, 1078, 1079, 1080, 1081, 1082, 1083, 1084, 1085, 1086, 1087, 1088, 1089, 1090, 1091, 1092, 1093, 1094, 1095, 1096, 1097, 1098, 1099, 1100, 1101, 1102, 1103] (by decide +kernel) (by decide +kernel)
set_option maxRecDepth 20000 in
theorem gL_law_X10_call : GoodIn wsL_law (wsV RL 118 RX10 yX10_call wsX10_call) := goodIn_app (goodIn_of _ (by decide +kernel)) ggL_law_X10_call
set_option maxRecDepth 20000 in
theorem ggL_law_X9_lean : GoodIn wsL_law wsX9_lean := goodIn_r _ [869, 40, 154, 155, 2, 156, 870, 871, 872, 39, 873, 874, 875, 876, 877, 858, 109, 111, 108, 878, 1064, 1065, 1066, 1067, 1068, 1069, 1070, 1071, 1072, 1073, 1074, 1075, 1143, 1144, 1145, 1146] (by decide +kernel) (by decide +kernel)
set_option maxRecDepth 20000 in
theorem gL_law_X9_lean : GoodIn wsL_law (wsV RL 119 RX9 yX9_lean wsX9_lean) := goodIn_app (goodIn_of _ (by decide +kernel)) ggL_law_X9_lean
set_option maxRecDepth 20000 in
theorem ggL_law_X10_lean : GoodIn wsL_law wsX10_lean := goodIn_r _ [882, 169, 170, 5, 171, 883, 884, 885, 886, 865, 137, 705, 706, 707, 1076, 1077, 1078, 1079, 1080, 1081, 1082, 1083, 1084, 1085, 1086, 1087, 1088, 1089, 1090, 1091, 1092, 1093, 1094, 1095, 1096, 1097, 1098, 1099, 1100, 1101, 1102, 1103] (by decide +kernel) (by decide +kernel)
set_option maxRecDepth 20000 in
theorem gL_law_X10_lean : GoodIn wsL_law (wsV RL 122 RX10 yX10_lean wsX10_lean) := goodIn_app (goodIn_of _ (by decide +kernel)) ggL_law_X10_lean
set_option maxRecDepth 20000 in
theorem ggL_law_X9_sort : GoodIn wsL_law wsX9_sort := goodIn_r _ [890, 44, 154, 155, 2, 156, 891, 892, 893, 43, 894, 115, 116, 895, 896, 897, 898, 1064, 1065, 1066, 1067, 1068, 1069, 1070, 1071, 1072, 1073, 1074, 1075, 1147, 1148, 1149, 1150, 1151] (by decide +kernel) (by decide +kernel)
set_option maxRecDepth 20000 in
theorem gL_law_X9_sort : GoodIn wsL_law (wsV RL 123 RX9 yX9_sort wsX9_sort) := goodIn_app (goodIn_of _ (by decide +kernel)) ggL_law_X9_sort
set_option maxRecDepth 20000 in
theorem ggL_law_X10_sort : GoodIn wsL_law wsX10_sort := goodIn_r _ [902, 475, 478, 138, 139, 169, 170, 5, 171, 1076, 1077, 1078, 1079, 1080, 1081, 1082, 1083, 1084, 1085, 1086, 1087, 1088, 1089, 1090, 1091, 1092, 1093, 1094, 1095, 1096, 1097, 1098, 1099, 1100, 1101, 1102, 1103] (by decide +kernel) (by decide +kernel)
set_option maxRecDepth 20000 in
theorem gL_law_X10_sort : GoodIn wsL_law (wsV RL 126 RX10 yX10_sort wsX10_sort) := goodIn_app (goodIn_of _ (by decide +kernel)) ggL_law_X10_sort
set_option maxRecDepth 20000 in
theorem ggL_law_X9_worth : GoodIn wsL_law wsX9_worth := goodIn_r _ [906, 907, 44, 908, 154, 155, 2, 156, 909, 910, 911, 43, 912, 115, 913, 914, 915, 916, 917, 918, 919, 920, 895, 119, 921, 118, 922, 923, 924, 925, 926, 927, 928, 574, 929, 930, 931, 932, 933, 934, 935, 936, 937, 116, 896, 897, 898, 938, 939, 940, 941, 942, 943, 944, 1064, 1065, 1066, 1067, 1068, 1069, 1070, 1071, 1072, 1073, 1074, 1075, 1147, 1148, 1149, 1150, 1151] (by decide +kernel) (by decide +kernel)
set_option maxRecDepth 20000 in
theorem gL_law_X9_worth : GoodIn wsL_law (wsV RL 127 RX9 yX9_worth wsX9_worth) := goodIn_app (goodIn_of _ (by decide +kernel)) ggL_law_X9_worth
set_option maxRecDepth 20000 in
theorem ggL_law_X10_worth : GoodIn wsL_law wsX10_worth := goodIn_r _ [948, 166, 688, 949, 148, 149, 169, 170, 5, 171, 950, 951, 952, 953, 138, 954, 955, 956, 957, 238, 478, 958, 959, 960, 961, 139, 962, 963, 964, 1076, 1077, 1078, 1079, 1080, 1081, 1082, 1083, 1084, 1085, 1086, 1087, 1088, 1089, 1090, 1091, 1092, 1093, 1094, 1095, 1096, 1097, 1098, 1099, 1100, 1101, 1102, 1103] (by decide +kernel) (by decide +kernel)
set_option maxRecDepth 20000 in
theorem gL_law_X10_worth : GoodIn wsL_law (wsV RL 131 RX10 yX10_worth wsX10_worth) := goodIn_app (goodIn_of _ (by decide +kernel)) ggL_law_X10_worth
set_option maxRecDepth 20000 in
theorem ggL_law_X9_when : GoodIn wsL_law wsX9_when := goodIn_r _ [968, 44, 154, 155, 2, 156, 909, 910, 911, 43, 912, 115, 969, 970, 971, 972, 926, 917, 918, 919, 920, 895, 119, 921, 118, 922, 923, 924, 925, 927, 928, 574, 929, 930, 931, 932, 933, 934, 935, 936, 937, 116, 896, 897, 898, 938, 939, 940, 941, 1064, 1065, 1066, 1067, 1068, 1069, 1070, 1071, 1072, 1073, 1074, 1075, 1147, 1148, 1149, 1150, 1151] (by decide +kernel) (by decide +kernel)
set_option maxRecDepth 20000 in
theorem gL_law_X9_when : GoodIn wsL_law (wsV RL 132 RX9 yX9_when wsX9_when) := goodIn_app (goodIn_of _ (by decide +kernel)) ggL_law_X9_when
set_option maxRecDepth 20000 in
theorem ggL_law_X10_when : GoodIn wsL_law wsX10_when := goodIn_r _ [976, 977, 166, 475, 478, 149, 169, 170, 5, 171, 950, 951, 952, 953, 138, 954, 955, 956, 957, 148, 238, 958, 959, 960, 961, 139, 1076, 1077, 1078, 1079, 1080, 1081, 1082, 1083, 1084, 1085, 1086, 1087, 1088, 1089, 1090, 1091, 1092, 1093, 1094, 1095, 1096, 1097, 1098, 1099, 1100, 1101, 1102, 1103] (by decide +kernel) (by decide +kernel)
set_option maxRecDepth 20000 in
theorem gL_law_X10_when : GoodIn wsL_law (wsV RL 135 RX10 yX10_when wsX10_when) := goodIn_app (goodIn_of _ (by decide +kernel)) ggL_law_X10_when
set_option maxRecDepth 20000 in
theorem ggL_law_X9_truly : GoodIn wsL_law wsX9_truly := goodIn_r _ [981, 48, 154, 155, 2, 156, 982, 983, 984, 47, 985, 986, 123, 124, 1064, 1065, 1066, 1067, 1068, 1069, 1070, 1071, 1072, 1073, 1074, 1075, 1152, 1153, 1154] (by decide +kernel) (by decide +kernel)
set_option maxRecDepth 20000 in
theorem gL_law_X9_truly : GoodIn wsL_law (wsV RL 136 RX9 yX9_truly wsX9_truly) := goodIn_app (goodIn_of _ (by decide +kernel)) ggL_law_X9_truly
set_option maxRecDepth 20000 in
theorem ggL_law_X10_truly : GoodIn wsL_law wsX10_truly := goodIn_r _ [990, 238, 991, 140, 169, 170, 5, 171, 1076, 1077, 1078, 1079, 1080, 1081, 1082, 1083, 1084, 1085, 1086, 1087, 1088, 1089, 1090, 1091, 1092, 1093, 1094, 1095, 1096, 1097, 1098, 1099, 1100, 1101, 1102, 1103] (by decide +kernel) (by decide +kernel)
set_option maxRecDepth 20000 in
theorem gL_law_X10_truly : GoodIn wsL_law (wsV RL 140 RX10 yX10_truly wsX10_truly) := goodIn_app (goodIn_of _ (by decide +kernel)) ggL_law_X10_truly
set_option maxRecDepth 20000 in
theorem ggL_law_X9_bestSure : GoodIn wsL_law wsX9_bestSure := goodIn_r _ [995, 48, 154, 155, 2, 156, 996, 997, 998, 47, 999, 1000, 1001, 1002, 1003, 986, 124, 123, 1004, 1005, 1006, 1007, 1008, 1009, 1064, 1065, 1066, 1067, 1068, 1069, 1070, 1071, 1072, 1073, 1074, 1075, 1152, 1153, 1154] (by decide +kernel) (by decide +kernel)
set_option maxRecDepth 20000 in
theorem gL_law_X9_bestSure : GoodIn wsL_law (wsV RL 141 RX9 yX9_bestSure wsX9_bestSure) := goodIn_app (goodIn_of _ (by decide +kernel)) ggL_law_X9_bestSure
set_option maxRecDepth 20000 in
theorem ggL_law_X10_bestSure : GoodIn wsL_law wsX10_bestSure := goodIn_r _ [1013, 476, 169, 170, 5, 171, 1014, 1015, 1016, 1017, 991, 140, 1076, 1077, 1078, 1079, 1080, 1081, 1082, 1083, 1084, 1085, 1086, 1087, 1088, 1089, 1090, 1091, 1092, 1093, 1094, 1095, 1096, 1097, 1098, 1099, 1100, 1101, 1102, 1103] (by decide +kernel) (by decide +kernel)
set_option maxRecDepth 20000 in
theorem gL_law_X10_bestSure : GoodIn wsL_law (wsV RL 144 RX10 yX10_bestSure wsX10_bestSure) := goodIn_app (goodIn_of _ (by decide +kernel)) ggL_law_X10_bestSure
set_option maxRecDepth 20000 in
theorem ggL_law_X9_keep : GoodIn wsL_law wsX9_keep := goodIn_r _ [1021, 49, 25, 26, 24, 1022, 1023, 1024, 23, 1025, 82, 1026, 1027, 1028, 1029, 83, 491, 544, 1064, 1065, 1066, 1067, 1068, 1069, 1070, 1071, 1072, 1073, 1074, 1075, 1117, 1118, 1119, 1120] (by decide +kernel) (by decide +kernel)
set_option maxRecDepth 20000 in
theorem gL_law_X9_keep : GoodIn wsL_law (wsV RL 145 RX9 yX9_keep wsX9_keep) := goodIn_app (goodIn_of _ (by decide +kernel)) ggL_law_X9_keep
set_option maxRecDepth 20000 in
theorem ggL_law_X10_keep : GoodIn wsL_law wsX10_keep := goodIn_r _ [1033, 1034, 1035, 1036, 1037, 5, 1038, 132, 133, 134, 135, 1076, 1077, 1078, 1079, 1080, 1081, 1082, 1083, 1084, 1085, 1086, 1087, 1088, 1089, 1090, 1091, 1092, 1093, 1094, 1095, 1096, 1097, 1098, 1099, 1100, 1101, 1102, 1103] (by decide +kernel) (by decide +kernel)
set_option maxRecDepth 20000 in
theorem gL_law_X10_keep : GoodIn wsL_law (wsV RL 148 RX10 yX10_keep wsX10_keep) := goodIn_app (goodIn_of _ (by decide +kernel)) ggL_law_X10_keep
set_option maxRecDepth 20000 in
theorem ggL_law_X9_back : GoodIn wsL_law wsX9_back := goodIn_r _ [1042, 49, 24, 25, 26, 1022, 1023, 1024, 23, 1025, 82, 1026, 1027, 1028, 1029, 83, 491, 544, 281, 282, 283, 2, 284, 32, 36, 285, 286, 287, 31, 288, 289, 290, 291, 292, 293, 35, 294, 295, 296, 1064, 1065, 1066, 1067, 1068, 1069, 1070, 1071, 1072, 1073, 1074, 1075, 1117, 1118, 1119, 1120, 1121, 1122, 1123, 1124, 1125, 1126, 1127, 1128, 1129, 1130, 1131, 1132, 1133, 1134, 1135, 1136, 1137, 1138, 1139, 1140, 1141, 1142] (by decide +kernel) (by decide +kernel)
set_option maxRecDepth 20000 in
theorem gL_law_X9_back : GoodIn wsL_law (wsV RL 149 RX9 yX9_back wsX9_back) := goodIn_app (goodIn_of _ (by decide +kernel)) ggL_law_X9_back
set_option maxRecDepth 20000 in
theorem ggL_law_X10_back : GoodIn wsL_law wsX10_back := goodIn_r _ [1046, 1034, 1035, 1036, 1037, 5, 1038, 132, 133, 134, 135, 1076, 1077, 1078, 1079, 1080, 1081, 1082, 1083, 1084, 1085, 1086, 1087, 1088, 1089, 1090, 1091, 1092, 1093, 1094, 1095, 1096, 1097, 1098, 1099, 1100, 1101, 1102, 1103] (by decide +kernel) (by decide +kernel)
set_option maxRecDepth 20000 in
theorem gL_law_X10_back : GoodIn wsL_law (wsV RL 152 RX10 yX10_back wsX10_back) := goodIn_app (goodIn_of _ (by decide +kernel)) ggL_law_X10_back
set_option maxRecDepth 20000 in
theorem ggL_law_X9_count : GoodIn wsL_law wsX9_count := goodIn_r _ [1050, 16, 20, 24, 40, 48, 49, 1051, 261, 262, 15, 263, 161, 297, 298, 299, 19, 300, 78, 554, 555, 556, 23, 557, 491, 1052, 1053, 1054, 39, 1055, 858, 1056, 1057, 1058, 47, 1059, 986, 1064, 1065, 1066, 1067, 1068, 1069, 1070, 1071, 1072, 1073, 1074, 1075, 1104, 1105, 1106, 1107, 1108, 1109, 1110, 1111, 1112, 1113, 1114, 1115, 1116, 1117, 1118, 1119, 1120, 1143, 1144, 1145, 1146, 1152, 1153, 1154] (by decide +kernel) (by decide +kernel)
set_option maxRecDepth 20000 in
theorem gL_law_X9_count : GoodIn wsL_law (wsV RL 153 RX9 yX9_count wsX9_count) := goodIn_app (goodIn_of _ (by decide +kernel)) ggL_law_X9_count
set_option maxRecDepth 20000 in
theorem ggL_law_X10_count : GoodIn wsL_law wsX10_count := goodIn_r _ [1063, 167, 130, 134, 865, 991, 1034, 1076, 1077, 1078, 1079, 1080, 1081, 1082, 1083, 1084, 1085, 1086, 1087, 1088, 1089, 1090, 1091, 1092, 1093, 1094, 1095, 1096, 1097, 1098, 1099, 1100, 1101, 1102, 1103] (by decide +kernel) (by decide +kernel)
set_option maxRecDepth 20000 in
theorem gL_law_X10_count : GoodIn wsL_law (wsV RL 156 RX10 yX10_count wsX10_count) := goodIn_app (goodIn_of _ (by decide +kernel)) ggL_law_X10_count
theorem dL_law_0 : decode cL_law 0 = .ok (.new 7, 3) := by decide +kernel
theorem dL_law_3 : decode cL_law 3 = .ok (.dup, 1) := by decide +kernel
theorem dL_law_4 : decode cL_law 4 = .ok (.invokespecial 9, 3) := by decide +kernel
theorem dL_law_7 : decode cL_law 7 = .ok (.astore_n 1, 1) := by decide +kernel
theorem dL_law_8 : decode cL_law 8 = .ok (.new 10, 3) := by decide +kernel
theorem dL_law_11 : decode cL_law 11 = .ok (.dup, 1) := by decide +kernel
theorem dL_law_12 : decode cL_law 12 = .ok (.invokespecial 12, 3) := by decide +kernel
theorem dL_law_15 : decode cL_law 15 = .ok (.astore_n 2, 1) := by decide +kernel
theorem dL_law_16 : decode cL_law 16 = .ok (.iconst 0, 1) := by decide +kernel
theorem dL_law_17 : decode cL_law 17 = .ok (.istore_n 3, 1) := by decide +kernel
theorem dL_law_18 : decode cL_law 18 = .ok (.iload_n 3, 1) := by decide +kernel
theorem dL_law_19 : decode cL_law 19 = .ok (.aload_n 0, 1) := by decide +kernel
theorem dL_law_20 : decode cL_law 20 = .ok (.arraylength, 1) := by decide +kernel
theorem dL_law_21 : decode cL_law 21 = .ok (.bipush 6, 2) := by decide +kernel
theorem dL_law_23 : decode cL_law 23 = .ok (.isub, 1) := by decide +kernel
theorem dL_law_24 : decode cL_law 24 = .ok (.if_icmp .gt 1194, 3) := by decide +kernel
theorem dL_law_27 : decode cL_law 27 = .ok (.aload_n 0, 1) := by decide +kernel
theorem dL_law_28 : decode cL_law 28 = .ok (.iload_n 3, 1) := by decide +kernel
theorem dL_law_29 : decode cL_law 29 = .ok (.iaload, 1) := by decide +kernel
theorem dL_law_30 : decode cL_law 30 = .ok (.bipush 63, 2) := by decide +kernel
theorem dL_law_32 : decode cL_law 32 = .ok (.iand, 1) := by decide +kernel
theorem dL_law_33 : decode cL_law 33 = .ok (.tableswitch 1179 0 32 #[147, 210, 223, 236, 249, 272, 295, 328, 371, 404, 447, 500, 543, 606, 619, 642, 675, 698, 721, 744, 777, 790, 813, 836, 895, 928, 971, 1015, 1058, 1107, 1130, 1143, 1156], 147) := by decide +kernel
theorem dL_law_180 : decode cL_law 180 = .ok (.aload_n 1, 1) := by decide +kernel
theorem dL_law_181 : decode cL_law 181 = .ok (.aload_n 0, 1) := by decide +kernel
theorem dL_law_182 : decode cL_law 182 = .ok (.iload_n 3, 1) := by decide +kernel
theorem dL_law_183 : decode cL_law 183 = .ok (.iconst 1, 1) := by decide +kernel
theorem dL_law_184 : decode cL_law 184 = .ok (.iadd, 1) := by decide +kernel
theorem dL_law_185 : decode cL_law 185 = .ok (.iaload, 1) := by decide +kernel
theorem dL_law_186 : decode cL_law 186 = .ok (.aload_n 0, 1) := by decide +kernel
theorem dL_law_187 : decode cL_law 187 = .ok (.iload_n 3, 1) := by decide +kernel
theorem dL_law_188 : decode cL_law 188 = .ok (.iconst 2, 1) := by decide +kernel
theorem dL_law_189 : decode cL_law 189 = .ok (.iadd, 1) := by decide +kernel
theorem dL_law_190 : decode cL_law 190 = .ok (.iaload, 1) := by decide +kernel
theorem dL_law_191 : decode cL_law 191 = .ok (.i2l, 1) := by decide +kernel
theorem dL_law_192 : decode cL_law 192 = .ok (.bipush 32, 2) := by decide +kernel
theorem dL_law_194 : decode cL_law 194 = .ok (.lshl, 1) := by decide +kernel
theorem dL_law_195 : decode cL_law 195 = .ok (.aload_n 0, 1) := by decide +kernel
theorem dL_law_196 : decode cL_law 196 = .ok (.iload_n 3, 1) := by decide +kernel
theorem dL_law_197 : decode cL_law 197 = .ok (.iconst 3, 1) := by decide +kernel
theorem dL_law_198 : decode cL_law 198 = .ok (.iadd, 1) := by decide +kernel
theorem dL_law_199 : decode cL_law 199 = .ok (.iaload, 1) := by decide +kernel
theorem dL_law_200 : decode cL_law 200 = .ok (.i2l, 1) := by decide +kernel
theorem dL_law_201 : decode cL_law 201 = .ok (.ldc2_w 13, 3) := by decide +kernel
theorem dL_law_204 : decode cL_law 204 = .ok (.land, 1) := by decide +kernel
theorem dL_law_205 : decode cL_law 205 = .ok (.lor, 1) := by decide +kernel
theorem dL_law_206 : decode cL_law 206 = .ok (.invokevirtual 15, 3) := by decide +kernel
theorem dL_law_209 : decode cL_law 209 = .ok (.aload_n 2, 1) := by decide +kernel
theorem dL_law_210 : decode cL_law 210 = .ok (.aload_n 0, 1) := by decide +kernel
theorem dL_law_211 : decode cL_law 211 = .ok (.iload_n 3, 1) := by decide +kernel
theorem dL_law_212 : decode cL_law 212 = .ok (.iconst 1, 1) := by decide +kernel
theorem dL_law_213 : decode cL_law 213 = .ok (.iadd, 1) := by decide +kernel
theorem dL_law_214 : decode cL_law 214 = .ok (.iaload, 1) := by decide +kernel
theorem dL_law_215 : decode cL_law 215 = .ok (.aload_n 0, 1) := by decide +kernel
theorem dL_law_216 : decode cL_law 216 = .ok (.iload_n 3, 1) := by decide +kernel
theorem dL_law_217 : decode cL_law 217 = .ok (.iconst 2, 1) := by decide +kernel
theorem dL_law_218 : decode cL_law 218 = .ok (.iadd, 1) := by decide +kernel
theorem dL_law_219 : decode cL_law 219 = .ok (.iaload, 1) := by decide +kernel
theorem dL_law_220 : decode cL_law 220 = .ok (.i2l, 1) := by decide +kernel
theorem dL_law_221 : decode cL_law 221 = .ok (.bipush 32, 2) := by decide +kernel
theorem dL_law_223 : decode cL_law 223 = .ok (.lshl, 1) := by decide +kernel
theorem dL_law_224 : decode cL_law 224 = .ok (.aload_n 0, 1) := by decide +kernel
theorem dL_law_225 : decode cL_law 225 = .ok (.iload_n 3, 1) := by decide +kernel
theorem dL_law_226 : decode cL_law 226 = .ok (.iconst 3, 1) := by decide +kernel
theorem dL_law_227 : decode cL_law 227 = .ok (.iadd, 1) := by decide +kernel
theorem dL_law_228 : decode cL_law 228 = .ok (.iaload, 1) := by decide +kernel
theorem dL_law_229 : decode cL_law 229 = .ok (.i2l, 1) := by decide +kernel
theorem dL_law_230 : decode cL_law 230 = .ok (.ldc2_w 13, 3) := by decide +kernel
theorem dL_law_233 : decode cL_law 233 = .ok (.land, 1) := by decide +kernel
theorem dL_law_234 : decode cL_law 234 = .ok (.lor, 1) := by decide +kernel
theorem dL_law_235 : decode cL_law 235 = .ok (.invokevirtual 19, 3) := by decide +kernel
theorem dL_law_238 : decode cL_law 238 = .ok (.if_icmp .eq 974, 3) := by decide +kernel
theorem dL_law_241 : decode cL_law 241 = .ok (.iconst 0, 1) := by decide +kernel
theorem dL_law_242 : decode cL_law 242 = .ok (.ireturn, 1) := by decide +kernel
theorem dL_law_243 : decode cL_law 243 = .ok (.aload_n 1, 1) := by decide +kernel
theorem dL_law_244 : decode cL_law 244 = .ok (.invokevirtual 20, 3) := by decide +kernel
theorem dL_law_247 : decode cL_law 247 = .ok (.aload_n 2, 1) := by decide +kernel
theorem dL_law_248 : decode cL_law 248 = .ok (.invokevirtual 24, 3) := by decide +kernel
theorem dL_law_251 : decode cL_law 251 = .ok (.if_icmp .eq 961, 3) := by decide +kernel
theorem dL_law_254 : decode cL_law 254 = .ok (.iconst 0, 1) := by decide +kernel
theorem dL_law_255 : decode cL_law 255 = .ok (.ireturn, 1) := by decide +kernel
theorem dL_law_256 : decode cL_law 256 = .ok (.aload_n 1, 1) := by decide +kernel
theorem dL_law_257 : decode cL_law 257 = .ok (.invokevirtual 25, 3) := by decide +kernel
theorem dL_law_260 : decode cL_law 260 = .ok (.aload_n 2, 1) := by decide +kernel
theorem dL_law_261 : decode cL_law 261 = .ok (.invokevirtual 28, 3) := by decide +kernel
theorem dL_law_264 : decode cL_law 264 = .ok (.if_icmp .eq 948, 3) := by decide +kernel
theorem dL_law_267 : decode cL_law 267 = .ok (.iconst 0, 1) := by decide +kernel
theorem dL_law_268 : decode cL_law 268 = .ok (.ireturn, 1) := by decide +kernel
theorem dL_law_269 : decode cL_law 269 = .ok (.aload_n 1, 1) := by decide +kernel
theorem dL_law_270 : decode cL_law 270 = .ok (.invokevirtual 29, 3) := by decide +kernel
theorem dL_law_273 : decode cL_law 273 = .ok (.aload_n 2, 1) := by decide +kernel
theorem dL_law_274 : decode cL_law 274 = .ok (.invokevirtual 32, 3) := by decide +kernel
theorem dL_law_277 : decode cL_law 277 = .ok (.if_icmp .eq 935, 3) := by decide +kernel
theorem dL_law_280 : decode cL_law 280 = .ok (.iconst 0, 1) := by decide +kernel
theorem dL_law_281 : decode cL_law 281 = .ok (.ireturn, 1) := by decide +kernel
theorem dL_law_282 : decode cL_law 282 = .ok (.aload_n 1, 1) := by decide +kernel
theorem dL_law_283 : decode cL_law 283 = .ok (.aload_n 0, 1) := by decide +kernel
theorem dL_law_284 : decode cL_law 284 = .ok (.iload_n 3, 1) := by decide +kernel
theorem dL_law_285 : decode cL_law 285 = .ok (.iconst 1, 1) := by decide +kernel
theorem dL_law_286 : decode cL_law 286 = .ok (.iadd, 1) := by decide +kernel
theorem dL_law_287 : decode cL_law 287 = .ok (.iaload, 1) := by decide +kernel
theorem dL_law_288 : decode cL_law 288 = .ok (.invokevirtual 33, 3) := by decide +kernel
theorem dL_law_291 : decode cL_law 291 = .ok (.aload_n 2, 1) := by decide +kernel
theorem dL_law_292 : decode cL_law 292 = .ok (.aload_n 0, 1) := by decide +kernel
theorem dL_law_293 : decode cL_law 293 = .ok (.iload_n 3, 1) := by decide +kernel
theorem dL_law_294 : decode cL_law 294 = .ok (.iconst 1, 1) := by decide +kernel
theorem dL_law_295 : decode cL_law 295 = .ok (.iadd, 1) := by decide +kernel
theorem dL_law_296 : decode cL_law 296 = .ok (.iaload, 1) := by decide +kernel
theorem dL_law_297 : decode cL_law 297 = .ok (.invokevirtual 37, 3) := by decide +kernel
theorem dL_law_300 : decode cL_law 300 = .ok (.if_icmp .eq 912, 3) := by decide +kernel
theorem dL_law_303 : decode cL_law 303 = .ok (.iconst 0, 1) := by decide +kernel
theorem dL_law_304 : decode cL_law 304 = .ok (.ireturn, 1) := by decide +kernel
theorem dL_law_305 : decode cL_law 305 = .ok (.aload_n 1, 1) := by decide +kernel
theorem dL_law_306 : decode cL_law 306 = .ok (.aload_n 0, 1) := by decide +kernel
theorem dL_law_307 : decode cL_law 307 = .ok (.iload_n 3, 1) := by decide +kernel
theorem dL_law_308 : decode cL_law 308 = .ok (.iconst 1, 1) := by decide +kernel
theorem dL_law_309 : decode cL_law 309 = .ok (.iadd, 1) := by decide +kernel
theorem dL_law_310 : decode cL_law 310 = .ok (.iaload, 1) := by decide +kernel
theorem dL_law_311 : decode cL_law 311 = .ok (.invokevirtual 38, 3) := by decide +kernel
theorem dL_law_314 : decode cL_law 314 = .ok (.aload_n 2, 1) := by decide +kernel
theorem dL_law_315 : decode cL_law 315 = .ok (.aload_n 0, 1) := by decide +kernel
theorem dL_law_316 : decode cL_law 316 = .ok (.iload_n 3, 1) := by decide +kernel
theorem dL_law_317 : decode cL_law 317 = .ok (.iconst 1, 1) := by decide +kernel
theorem dL_law_318 : decode cL_law 318 = .ok (.iadd, 1) := by decide +kernel
theorem dL_law_319 : decode cL_law 319 = .ok (.iaload, 1) := by decide +kernel
theorem dL_law_320 : decode cL_law 320 = .ok (.invokevirtual 41, 3) := by decide +kernel
theorem dL_law_323 : decode cL_law 323 = .ok (.if_icmp .eq 889, 3) := by decide +kernel
theorem dL_law_326 : decode cL_law 326 = .ok (.iconst 0, 1) := by decide +kernel
theorem dL_law_327 : decode cL_law 327 = .ok (.ireturn, 1) := by decide +kernel
theorem dL_law_328 : decode cL_law 328 = .ok (.aload_n 1, 1) := by decide +kernel
theorem dL_law_329 : decode cL_law 329 = .ok (.aload_n 0, 1) := by decide +kernel
theorem dL_law_330 : decode cL_law 330 = .ok (.iload_n 3, 1) := by decide +kernel
theorem dL_law_331 : decode cL_law 331 = .ok (.iconst 1, 1) := by decide +kernel
theorem dL_law_332 : decode cL_law 332 = .ok (.iadd, 1) := by decide +kernel
theorem dL_law_333 : decode cL_law 333 = .ok (.iaload, 1) := by decide +kernel
theorem dL_law_334 : decode cL_law 334 = .ok (.aload_n 0, 1) := by decide +kernel
theorem dL_law_335 : decode cL_law 335 = .ok (.iload_n 3, 1) := by decide +kernel
theorem dL_law_336 : decode cL_law 336 = .ok (.iconst 2, 1) := by decide +kernel
theorem dL_law_337 : decode cL_law 337 = .ok (.iadd, 1) := by decide +kernel
theorem dL_law_338 : decode cL_law 338 = .ok (.iaload, 1) := by decide +kernel
theorem dL_law_339 : decode cL_law 339 = .ok (.invokevirtual 42, 3) := by decide +kernel
theorem dL_law_342 : decode cL_law 342 = .ok (.aload_n 2, 1) := by decide +kernel
theorem dL_law_343 : decode cL_law 343 = .ok (.aload_n 0, 1) := by decide +kernel
theorem dL_law_344 : decode cL_law 344 = .ok (.iload_n 3, 1) := by decide +kernel
theorem dL_law_345 : decode cL_law 345 = .ok (.iconst 1, 1) := by decide +kernel
theorem dL_law_346 : decode cL_law 346 = .ok (.iadd, 1) := by decide +kernel
theorem dL_law_347 : decode cL_law 347 = .ok (.iaload, 1) := by decide +kernel
theorem dL_law_348 : decode cL_law 348 = .ok (.aload_n 0, 1) := by decide +kernel
theorem dL_law_349 : decode cL_law 349 = .ok (.iload_n 3, 1) := by decide +kernel
theorem dL_law_350 : decode cL_law 350 = .ok (.iconst 2, 1) := by decide +kernel
theorem dL_law_351 : decode cL_law 351 = .ok (.iadd, 1) := by decide +kernel
theorem dL_law_352 : decode cL_law 352 = .ok (.iaload, 1) := by decide +kernel
theorem dL_law_353 : decode cL_law 353 = .ok (.invokevirtual 46, 3) := by decide +kernel
theorem dL_law_356 : decode cL_law 356 = .ok (.if_icmp .eq 856, 3) := by decide +kernel
theorem dL_law_359 : decode cL_law 359 = .ok (.iconst 0, 1) := by decide +kernel
theorem dL_law_360 : decode cL_law 360 = .ok (.ireturn, 1) := by decide +kernel
theorem dL_law_361 : decode cL_law 361 = .ok (.aload_n 1, 1) := by decide +kernel
theorem dL_law_362 : decode cL_law 362 = .ok (.aload_n 0, 1) := by decide +kernel
theorem dL_law_363 : decode cL_law 363 = .ok (.iload_n 3, 1) := by decide +kernel
theorem dL_law_364 : decode cL_law 364 = .ok (.iconst 1, 1) := by decide +kernel
theorem dL_law_365 : decode cL_law 365 = .ok (.iadd, 1) := by decide +kernel
theorem dL_law_366 : decode cL_law 366 = .ok (.iaload, 1) := by decide +kernel
theorem dL_law_367 : decode cL_law 367 = .ok (.aload_n 0, 1) := by decide +kernel
theorem dL_law_368 : decode cL_law 368 = .ok (.iload_n 3, 1) := by decide +kernel
theorem dL_law_369 : decode cL_law 369 = .ok (.iconst 2, 1) := by decide +kernel
theorem dL_law_370 : decode cL_law 370 = .ok (.iadd, 1) := by decide +kernel
theorem dL_law_371 : decode cL_law 371 = .ok (.iaload, 1) := by decide +kernel
theorem dL_law_372 : decode cL_law 372 = .ok (.aload_n 0, 1) := by decide +kernel
theorem dL_law_373 : decode cL_law 373 = .ok (.iload_n 3, 1) := by decide +kernel
theorem dL_law_374 : decode cL_law 374 = .ok (.iconst 3, 1) := by decide +kernel
theorem dL_law_375 : decode cL_law 375 = .ok (.iadd, 1) := by decide +kernel
theorem dL_law_376 : decode cL_law 376 = .ok (.iaload, 1) := by decide +kernel
theorem dL_law_377 : decode cL_law 377 = .ok (.invokevirtual 47, 3) := by decide +kernel
theorem dL_law_380 : decode cL_law 380 = .ok (.aload_n 2, 1) := by decide +kernel
theorem dL_law_381 : decode cL_law 381 = .ok (.aload_n 0, 1) := by decide +kernel
theorem dL_law_382 : decode cL_law 382 = .ok (.iload_n 3, 1) := by decide +kernel
theorem dL_law_383 : decode cL_law 383 = .ok (.iconst 1, 1) := by decide +kernel
theorem dL_law_384 : decode cL_law 384 = .ok (.iadd, 1) := by decide +kernel
theorem dL_law_385 : decode cL_law 385 = .ok (.iaload, 1) := by decide +kernel
theorem dL_law_386 : decode cL_law 386 = .ok (.aload_n 0, 1) := by decide +kernel
theorem dL_law_387 : decode cL_law 387 = .ok (.iload_n 3, 1) := by decide +kernel
theorem dL_law_388 : decode cL_law 388 = .ok (.iconst 2, 1) := by decide +kernel
theorem dL_law_389 : decode cL_law 389 = .ok (.iadd, 1) := by decide +kernel
theorem dL_law_390 : decode cL_law 390 = .ok (.iaload, 1) := by decide +kernel
theorem dL_law_391 : decode cL_law 391 = .ok (.aload_n 0, 1) := by decide +kernel
theorem dL_law_392 : decode cL_law 392 = .ok (.iload_n 3, 1) := by decide +kernel
theorem dL_law_393 : decode cL_law 393 = .ok (.iconst 3, 1) := by decide +kernel
theorem dL_law_394 : decode cL_law 394 = .ok (.iadd, 1) := by decide +kernel
theorem dL_law_395 : decode cL_law 395 = .ok (.iaload, 1) := by decide +kernel
theorem dL_law_396 : decode cL_law 396 = .ok (.invokevirtual 51, 3) := by decide +kernel
theorem dL_law_399 : decode cL_law 399 = .ok (.if_icmp .eq 813, 3) := by decide +kernel
theorem dL_law_402 : decode cL_law 402 = .ok (.iconst 0, 1) := by decide +kernel
theorem dL_law_403 : decode cL_law 403 = .ok (.ireturn, 1) := by decide +kernel
theorem dL_law_404 : decode cL_law 404 = .ok (.aload_n 1, 1) := by decide +kernel
theorem dL_law_405 : decode cL_law 405 = .ok (.aload_n 0, 1) := by decide +kernel
theorem dL_law_406 : decode cL_law 406 = .ok (.iload_n 3, 1) := by decide +kernel
theorem dL_law_407 : decode cL_law 407 = .ok (.iconst 1, 1) := by decide +kernel
theorem dL_law_408 : decode cL_law 408 = .ok (.iadd, 1) := by decide +kernel
theorem dL_law_409 : decode cL_law 409 = .ok (.iaload, 1) := by decide +kernel
theorem dL_law_410 : decode cL_law 410 = .ok (.aload_n 0, 1) := by decide +kernel
theorem dL_law_411 : decode cL_law 411 = .ok (.iload_n 3, 1) := by decide +kernel
theorem dL_law_412 : decode cL_law 412 = .ok (.iconst 2, 1) := by decide +kernel
theorem dL_law_413 : decode cL_law 413 = .ok (.iadd, 1) := by decide +kernel
theorem dL_law_414 : decode cL_law 414 = .ok (.iaload, 1) := by decide +kernel
theorem dL_law_415 : decode cL_law 415 = .ok (.invokevirtual 52, 3) := by decide +kernel
theorem dL_law_418 : decode cL_law 418 = .ok (.aload_n 2, 1) := by decide +kernel
theorem dL_law_419 : decode cL_law 419 = .ok (.aload_n 0, 1) := by decide +kernel
theorem dL_law_420 : decode cL_law 420 = .ok (.iload_n 3, 1) := by decide +kernel
theorem dL_law_421 : decode cL_law 421 = .ok (.iconst 1, 1) := by decide +kernel
theorem dL_law_422 : decode cL_law 422 = .ok (.iadd, 1) := by decide +kernel
theorem dL_law_423 : decode cL_law 423 = .ok (.iaload, 1) := by decide +kernel
theorem dL_law_424 : decode cL_law 424 = .ok (.aload_n 0, 1) := by decide +kernel
theorem dL_law_425 : decode cL_law 425 = .ok (.iload_n 3, 1) := by decide +kernel
theorem dL_law_426 : decode cL_law 426 = .ok (.iconst 2, 1) := by decide +kernel
theorem dL_law_427 : decode cL_law 427 = .ok (.iadd, 1) := by decide +kernel
theorem dL_law_428 : decode cL_law 428 = .ok (.iaload, 1) := by decide +kernel
theorem dL_law_429 : decode cL_law 429 = .ok (.invokevirtual 55, 3) := by decide +kernel
theorem dL_law_432 : decode cL_law 432 = .ok (.if_icmp .eq 780, 3) := by decide +kernel
theorem dL_law_435 : decode cL_law 435 = .ok (.iconst 0, 1) := by decide +kernel
theorem dL_law_436 : decode cL_law 436 = .ok (.ireturn, 1) := by decide +kernel
theorem dL_law_437 : decode cL_law 437 = .ok (.aload_n 1, 1) := by decide +kernel
theorem dL_law_438 : decode cL_law 438 = .ok (.aload_n 0, 1) := by decide +kernel
theorem dL_law_439 : decode cL_law 439 = .ok (.iload_n 3, 1) := by decide +kernel
theorem dL_law_440 : decode cL_law 440 = .ok (.iconst 1, 1) := by decide +kernel
theorem dL_law_441 : decode cL_law 441 = .ok (.iadd, 1) := by decide +kernel
theorem dL_law_442 : decode cL_law 442 = .ok (.iaload, 1) := by decide +kernel
theorem dL_law_443 : decode cL_law 443 = .ok (.aload_n 0, 1) := by decide +kernel
theorem dL_law_444 : decode cL_law 444 = .ok (.iload_n 3, 1) := by decide +kernel
theorem dL_law_445 : decode cL_law 445 = .ok (.iconst 2, 1) := by decide +kernel
theorem dL_law_446 : decode cL_law 446 = .ok (.iadd, 1) := by decide +kernel
theorem dL_law_447 : decode cL_law 447 = .ok (.iaload, 1) := by decide +kernel
theorem dL_law_448 : decode cL_law 448 = .ok (.aload_n 0, 1) := by decide +kernel
theorem dL_law_449 : decode cL_law 449 = .ok (.iload_n 3, 1) := by decide +kernel
theorem dL_law_450 : decode cL_law 450 = .ok (.iconst 3, 1) := by decide +kernel
theorem dL_law_451 : decode cL_law 451 = .ok (.iadd, 1) := by decide +kernel
theorem dL_law_452 : decode cL_law 452 = .ok (.iaload, 1) := by decide +kernel
theorem dL_law_453 : decode cL_law 453 = .ok (.invokevirtual 56, 3) := by decide +kernel
theorem dL_law_456 : decode cL_law 456 = .ok (.aload_n 2, 1) := by decide +kernel
theorem dL_law_457 : decode cL_law 457 = .ok (.aload_n 0, 1) := by decide +kernel
theorem dL_law_458 : decode cL_law 458 = .ok (.iload_n 3, 1) := by decide +kernel
theorem dL_law_459 : decode cL_law 459 = .ok (.iconst 1, 1) := by decide +kernel
theorem dL_law_460 : decode cL_law 460 = .ok (.iadd, 1) := by decide +kernel
theorem dL_law_461 : decode cL_law 461 = .ok (.iaload, 1) := by decide +kernel
theorem dL_law_462 : decode cL_law 462 = .ok (.aload_n 0, 1) := by decide +kernel
theorem dL_law_463 : decode cL_law 463 = .ok (.iload_n 3, 1) := by decide +kernel
theorem dL_law_464 : decode cL_law 464 = .ok (.iconst 2, 1) := by decide +kernel
theorem dL_law_465 : decode cL_law 465 = .ok (.iadd, 1) := by decide +kernel
theorem dL_law_466 : decode cL_law 466 = .ok (.iaload, 1) := by decide +kernel
theorem dL_law_467 : decode cL_law 467 = .ok (.aload_n 0, 1) := by decide +kernel
theorem dL_law_468 : decode cL_law 468 = .ok (.iload_n 3, 1) := by decide +kernel
theorem dL_law_469 : decode cL_law 469 = .ok (.iconst 3, 1) := by decide +kernel
theorem dL_law_470 : decode cL_law 470 = .ok (.iadd, 1) := by decide +kernel
theorem dL_law_471 : decode cL_law 471 = .ok (.iaload, 1) := by decide +kernel
theorem dL_law_472 : decode cL_law 472 = .ok (.invokevirtual 59, 3) := by decide +kernel
theorem dL_law_475 : decode cL_law 475 = .ok (.if_icmp .eq 737, 3) := by decide +kernel
theorem dL_law_478 : decode cL_law 478 = .ok (.iconst 0, 1) := by decide +kernel
theorem dL_law_479 : decode cL_law 479 = .ok (.ireturn, 1) := by decide +kernel
theorem dL_law_480 : decode cL_law 480 = .ok (.aload_n 1, 1) := by decide +kernel
theorem dL_law_481 : decode cL_law 481 = .ok (.aload_n 0, 1) := by decide +kernel
theorem dL_law_482 : decode cL_law 482 = .ok (.iload_n 3, 1) := by decide +kernel
theorem dL_law_483 : decode cL_law 483 = .ok (.iconst 1, 1) := by decide +kernel
theorem dL_law_484 : decode cL_law 484 = .ok (.iadd, 1) := by decide +kernel
theorem dL_law_485 : decode cL_law 485 = .ok (.iaload, 1) := by decide +kernel
theorem dL_law_486 : decode cL_law 486 = .ok (.aload_n 0, 1) := by decide +kernel
theorem dL_law_487 : decode cL_law 487 = .ok (.iload_n 3, 1) := by decide +kernel
theorem dL_law_488 : decode cL_law 488 = .ok (.iconst 2, 1) := by decide +kernel
theorem dL_law_489 : decode cL_law 489 = .ok (.iadd, 1) := by decide +kernel
theorem dL_law_490 : decode cL_law 490 = .ok (.iaload, 1) := by decide +kernel
theorem dL_law_491 : decode cL_law 491 = .ok (.aload_n 0, 1) := by decide +kernel
theorem dL_law_492 : decode cL_law 492 = .ok (.iload_n 3, 1) := by decide +kernel
theorem dL_law_493 : decode cL_law 493 = .ok (.iconst 3, 1) := by decide +kernel
theorem dL_law_494 : decode cL_law 494 = .ok (.iadd, 1) := by decide +kernel
theorem dL_law_495 : decode cL_law 495 = .ok (.iaload, 1) := by decide +kernel
theorem dL_law_496 : decode cL_law 496 = .ok (.aload_n 0, 1) := by decide +kernel
theorem dL_law_497 : decode cL_law 497 = .ok (.iload_n 3, 1) := by decide +kernel
theorem dL_law_498 : decode cL_law 498 = .ok (.iconst 4, 1) := by decide +kernel
theorem dL_law_499 : decode cL_law 499 = .ok (.iadd, 1) := by decide +kernel
theorem dL_law_500 : decode cL_law 500 = .ok (.iaload, 1) := by decide +kernel
theorem dL_law_501 : decode cL_law 501 = .ok (.invokevirtual 60, 3) := by decide +kernel
theorem dL_law_504 : decode cL_law 504 = .ok (.aload_n 2, 1) := by decide +kernel
theorem dL_law_505 : decode cL_law 505 = .ok (.aload_n 0, 1) := by decide +kernel
theorem dL_law_506 : decode cL_law 506 = .ok (.iload_n 3, 1) := by decide +kernel
theorem dL_law_507 : decode cL_law 507 = .ok (.iconst 1, 1) := by decide +kernel
theorem dL_law_508 : decode cL_law 508 = .ok (.iadd, 1) := by decide +kernel
theorem dL_law_509 : decode cL_law 509 = .ok (.iaload, 1) := by decide +kernel
theorem dL_law_510 : decode cL_law 510 = .ok (.aload_n 0, 1) := by decide +kernel
theorem dL_law_511 : decode cL_law 511 = .ok (.iload_n 3, 1) := by decide +kernel
theorem dL_law_512 : decode cL_law 512 = .ok (.iconst 2, 1) := by decide +kernel
theorem dL_law_513 : decode cL_law 513 = .ok (.iadd, 1) := by decide +kernel
theorem dL_law_514 : decode cL_law 514 = .ok (.iaload, 1) := by decide +kernel
theorem dL_law_515 : decode cL_law 515 = .ok (.aload_n 0, 1) := by decide +kernel
theorem dL_law_516 : decode cL_law 516 = .ok (.iload_n 3, 1) := by decide +kernel
theorem dL_law_517 : decode cL_law 517 = .ok (.iconst 3, 1) := by decide +kernel
theorem dL_law_518 : decode cL_law 518 = .ok (.iadd, 1) := by decide +kernel
theorem dL_law_519 : decode cL_law 519 = .ok (.iaload, 1) := by decide +kernel
theorem dL_law_520 : decode cL_law 520 = .ok (.aload_n 0, 1) := by decide +kernel
theorem dL_law_521 : decode cL_law 521 = .ok (.iload_n 3, 1) := by decide +kernel
theorem dL_law_522 : decode cL_law 522 = .ok (.iconst 4, 1) := by decide +kernel
theorem dL_law_523 : decode cL_law 523 = .ok (.iadd, 1) := by decide +kernel
theorem dL_law_524 : decode cL_law 524 = .ok (.iaload, 1) := by decide +kernel
theorem dL_law_525 : decode cL_law 525 = .ok (.invokevirtual 64, 3) := by decide +kernel
theorem dL_law_528 : decode cL_law 528 = .ok (.if_icmp .eq 684, 3) := by decide +kernel
theorem dL_law_531 : decode cL_law 531 = .ok (.iconst 0, 1) := by decide +kernel
theorem dL_law_532 : decode cL_law 532 = .ok (.ireturn, 1) := by decide +kernel
theorem dL_law_533 : decode cL_law 533 = .ok (.aload_n 1, 1) := by decide +kernel
theorem dL_law_534 : decode cL_law 534 = .ok (.aload_n 0, 1) := by decide +kernel
theorem dL_law_535 : decode cL_law 535 = .ok (.iload_n 3, 1) := by decide +kernel
theorem dL_law_536 : decode cL_law 536 = .ok (.iconst 1, 1) := by decide +kernel
theorem dL_law_537 : decode cL_law 537 = .ok (.iadd, 1) := by decide +kernel
theorem dL_law_538 : decode cL_law 538 = .ok (.iaload, 1) := by decide +kernel
theorem dL_law_539 : decode cL_law 539 = .ok (.aload_n 0, 1) := by decide +kernel
theorem dL_law_540 : decode cL_law 540 = .ok (.iload_n 3, 1) := by decide +kernel
theorem dL_law_541 : decode cL_law 541 = .ok (.iconst 2, 1) := by decide +kernel
theorem dL_law_542 : decode cL_law 542 = .ok (.iadd, 1) := by decide +kernel
theorem dL_law_543 : decode cL_law 543 = .ok (.iaload, 1) := by decide +kernel
theorem dL_law_544 : decode cL_law 544 = .ok (.aload_n 0, 1) := by decide +kernel
theorem dL_law_545 : decode cL_law 545 = .ok (.iload_n 3, 1) := by decide +kernel
theorem dL_law_546 : decode cL_law 546 = .ok (.iconst 3, 1) := by decide +kernel
theorem dL_law_547 : decode cL_law 547 = .ok (.iadd, 1) := by decide +kernel
theorem dL_law_548 : decode cL_law 548 = .ok (.iaload, 1) := by decide +kernel
theorem dL_law_549 : decode cL_law 549 = .ok (.invokevirtual 65, 3) := by decide +kernel
theorem dL_law_552 : decode cL_law 552 = .ok (.aload_n 2, 1) := by decide +kernel
theorem dL_law_553 : decode cL_law 553 = .ok (.aload_n 0, 1) := by decide +kernel
theorem dL_law_554 : decode cL_law 554 = .ok (.iload_n 3, 1) := by decide +kernel
theorem dL_law_555 : decode cL_law 555 = .ok (.iconst 1, 1) := by decide +kernel
theorem dL_law_556 : decode cL_law 556 = .ok (.iadd, 1) := by decide +kernel
theorem dL_law_557 : decode cL_law 557 = .ok (.iaload, 1) := by decide +kernel
theorem dL_law_558 : decode cL_law 558 = .ok (.aload_n 0, 1) := by decide +kernel
theorem dL_law_559 : decode cL_law 559 = .ok (.iload_n 3, 1) := by decide +kernel
theorem dL_law_560 : decode cL_law 560 = .ok (.iconst 2, 1) := by decide +kernel
theorem dL_law_561 : decode cL_law 561 = .ok (.iadd, 1) := by decide +kernel
theorem dL_law_562 : decode cL_law 562 = .ok (.iaload, 1) := by decide +kernel
theorem dL_law_563 : decode cL_law 563 = .ok (.aload_n 0, 1) := by decide +kernel
theorem dL_law_564 : decode cL_law 564 = .ok (.iload_n 3, 1) := by decide +kernel
theorem dL_law_565 : decode cL_law 565 = .ok (.iconst 3, 1) := by decide +kernel
theorem dL_law_566 : decode cL_law 566 = .ok (.iadd, 1) := by decide +kernel
theorem dL_law_567 : decode cL_law 567 = .ok (.iaload, 1) := by decide +kernel
theorem dL_law_568 : decode cL_law 568 = .ok (.invokevirtual 68, 3) := by decide +kernel
theorem dL_law_571 : decode cL_law 571 = .ok (.if_icmp .eq 641, 3) := by decide +kernel
theorem dL_law_574 : decode cL_law 574 = .ok (.iconst 0, 1) := by decide +kernel
theorem dL_law_575 : decode cL_law 575 = .ok (.ireturn, 1) := by decide +kernel
theorem dL_law_576 : decode cL_law 576 = .ok (.aload_n 1, 1) := by decide +kernel
theorem dL_law_577 : decode cL_law 577 = .ok (.aload_n 0, 1) := by decide +kernel
theorem dL_law_578 : decode cL_law 578 = .ok (.iload_n 3, 1) := by decide +kernel
theorem dL_law_579 : decode cL_law 579 = .ok (.iconst 1, 1) := by decide +kernel
theorem dL_law_580 : decode cL_law 580 = .ok (.iadd, 1) := by decide +kernel
theorem dL_law_581 : decode cL_law 581 = .ok (.iaload, 1) := by decide +kernel
theorem dL_law_582 : decode cL_law 582 = .ok (.aload_n 0, 1) := by decide +kernel
theorem dL_law_583 : decode cL_law 583 = .ok (.iload_n 3, 1) := by decide +kernel
theorem dL_law_584 : decode cL_law 584 = .ok (.iconst 2, 1) := by decide +kernel
theorem dL_law_585 : decode cL_law 585 = .ok (.iadd, 1) := by decide +kernel
theorem dL_law_586 : decode cL_law 586 = .ok (.iaload, 1) := by decide +kernel
theorem dL_law_587 : decode cL_law 587 = .ok (.aload_n 0, 1) := by decide +kernel
theorem dL_law_588 : decode cL_law 588 = .ok (.iload_n 3, 1) := by decide +kernel
theorem dL_law_589 : decode cL_law 589 = .ok (.iconst 3, 1) := by decide +kernel
theorem dL_law_590 : decode cL_law 590 = .ok (.iadd, 1) := by decide +kernel
theorem dL_law_591 : decode cL_law 591 = .ok (.iaload, 1) := by decide +kernel
theorem dL_law_592 : decode cL_law 592 = .ok (.aload_n 0, 1) := by decide +kernel
theorem dL_law_593 : decode cL_law 593 = .ok (.iload_n 3, 1) := by decide +kernel
theorem dL_law_594 : decode cL_law 594 = .ok (.iconst 4, 1) := by decide +kernel
theorem dL_law_595 : decode cL_law 595 = .ok (.iadd, 1) := by decide +kernel
theorem dL_law_596 : decode cL_law 596 = .ok (.iaload, 1) := by decide +kernel
theorem dL_law_597 : decode cL_law 597 = .ok (.aload_n 0, 1) := by decide +kernel
theorem dL_law_598 : decode cL_law 598 = .ok (.iload_n 3, 1) := by decide +kernel
theorem dL_law_599 : decode cL_law 599 = .ok (.iconst 5, 1) := by decide +kernel
theorem dL_law_600 : decode cL_law 600 = .ok (.iadd, 1) := by decide +kernel
theorem dL_law_601 : decode cL_law 601 = .ok (.iaload, 1) := by decide +kernel
theorem dL_law_602 : decode cL_law 602 = .ok (.invokevirtual 69, 3) := by decide +kernel
theorem dL_law_605 : decode cL_law 605 = .ok (.aload_n 2, 1) := by decide +kernel
theorem dL_law_606 : decode cL_law 606 = .ok (.aload_n 0, 1) := by decide +kernel
theorem dL_law_607 : decode cL_law 607 = .ok (.iload_n 3, 1) := by decide +kernel
theorem dL_law_608 : decode cL_law 608 = .ok (.iconst 1, 1) := by decide +kernel
theorem dL_law_609 : decode cL_law 609 = .ok (.iadd, 1) := by decide +kernel
theorem dL_law_610 : decode cL_law 610 = .ok (.iaload, 1) := by decide +kernel
theorem dL_law_611 : decode cL_law 611 = .ok (.aload_n 0, 1) := by decide +kernel
theorem dL_law_612 : decode cL_law 612 = .ok (.iload_n 3, 1) := by decide +kernel
theorem dL_law_613 : decode cL_law 613 = .ok (.iconst 2, 1) := by decide +kernel
theorem dL_law_614 : decode cL_law 614 = .ok (.iadd, 1) := by decide +kernel
theorem dL_law_615 : decode cL_law 615 = .ok (.iaload, 1) := by decide +kernel
theorem dL_law_616 : decode cL_law 616 = .ok (.aload_n 0, 1) := by decide +kernel
theorem dL_law_617 : decode cL_law 617 = .ok (.iload_n 3, 1) := by decide +kernel
theorem dL_law_618 : decode cL_law 618 = .ok (.iconst 3, 1) := by decide +kernel
theorem dL_law_619 : decode cL_law 619 = .ok (.iadd, 1) := by decide +kernel
theorem dL_law_620 : decode cL_law 620 = .ok (.iaload, 1) := by decide +kernel
theorem dL_law_621 : decode cL_law 621 = .ok (.aload_n 0, 1) := by decide +kernel
theorem dL_law_622 : decode cL_law 622 = .ok (.iload_n 3, 1) := by decide +kernel
theorem dL_law_623 : decode cL_law 623 = .ok (.iconst 4, 1) := by decide +kernel
theorem dL_law_624 : decode cL_law 624 = .ok (.iadd, 1) := by decide +kernel
theorem dL_law_625 : decode cL_law 625 = .ok (.iaload, 1) := by decide +kernel
theorem dL_law_626 : decode cL_law 626 = .ok (.aload_n 0, 1) := by decide +kernel
theorem dL_law_627 : decode cL_law 627 = .ok (.iload_n 3, 1) := by decide +kernel
theorem dL_law_628 : decode cL_law 628 = .ok (.iconst 5, 1) := by decide +kernel
theorem dL_law_629 : decode cL_law 629 = .ok (.iadd, 1) := by decide +kernel
theorem dL_law_630 : decode cL_law 630 = .ok (.iaload, 1) := by decide +kernel
theorem dL_law_631 : decode cL_law 631 = .ok (.invokevirtual 73, 3) := by decide +kernel
theorem dL_law_634 : decode cL_law 634 = .ok (.if_icmp .eq 578, 3) := by decide +kernel
theorem dL_law_637 : decode cL_law 637 = .ok (.iconst 0, 1) := by decide +kernel
theorem dL_law_638 : decode cL_law 638 = .ok (.ireturn, 1) := by decide +kernel
theorem dL_law_639 : decode cL_law 639 = .ok (.aload_n 1, 1) := by decide +kernel
theorem dL_law_640 : decode cL_law 640 = .ok (.invokevirtual 74, 3) := by decide +kernel
theorem dL_law_643 : decode cL_law 643 = .ok (.aload_n 2, 1) := by decide +kernel
theorem dL_law_644 : decode cL_law 644 = .ok (.invokevirtual 77, 3) := by decide +kernel
theorem dL_law_647 : decode cL_law 647 = .ok (.if_icmp .eq 565, 3) := by decide +kernel
theorem dL_law_650 : decode cL_law 650 = .ok (.iconst 0, 1) := by decide +kernel
theorem dL_law_651 : decode cL_law 651 = .ok (.ireturn, 1) := by decide +kernel
theorem dL_law_652 : decode cL_law 652 = .ok (.aload_n 1, 1) := by decide +kernel
theorem dL_law_653 : decode cL_law 653 = .ok (.aload_n 0, 1) := by decide +kernel
theorem dL_law_654 : decode cL_law 654 = .ok (.iload_n 3, 1) := by decide +kernel
theorem dL_law_655 : decode cL_law 655 = .ok (.iconst 1, 1) := by decide +kernel
theorem dL_law_656 : decode cL_law 656 = .ok (.iadd, 1) := by decide +kernel
theorem dL_law_657 : decode cL_law 657 = .ok (.iaload, 1) := by decide +kernel
theorem dL_law_658 : decode cL_law 658 = .ok (.invokevirtual 78, 3) := by decide +kernel
theorem dL_law_661 : decode cL_law 661 = .ok (.aload_n 2, 1) := by decide +kernel
theorem dL_law_662 : decode cL_law 662 = .ok (.aload_n 0, 1) := by decide +kernel
theorem dL_law_663 : decode cL_law 663 = .ok (.iload_n 3, 1) := by decide +kernel
theorem dL_law_664 : decode cL_law 664 = .ok (.iconst 1, 1) := by decide +kernel
theorem dL_law_665 : decode cL_law 665 = .ok (.iadd, 1) := by decide +kernel
theorem dL_law_666 : decode cL_law 666 = .ok (.iaload, 1) := by decide +kernel
theorem dL_law_667 : decode cL_law 667 = .ok (.invokevirtual 81, 3) := by decide +kernel
theorem dL_law_670 : decode cL_law 670 = .ok (.if_icmp .eq 542, 3) := by decide +kernel
theorem dL_law_673 : decode cL_law 673 = .ok (.iconst 0, 1) := by decide +kernel
theorem dL_law_674 : decode cL_law 674 = .ok (.ireturn, 1) := by decide +kernel
theorem dL_law_675 : decode cL_law 675 = .ok (.aload_n 1, 1) := by decide +kernel
theorem dL_law_676 : decode cL_law 676 = .ok (.aload_n 0, 1) := by decide +kernel
theorem dL_law_677 : decode cL_law 677 = .ok (.iload_n 3, 1) := by decide +kernel
theorem dL_law_678 : decode cL_law 678 = .ok (.iconst 1, 1) := by decide +kernel
theorem dL_law_679 : decode cL_law 679 = .ok (.iadd, 1) := by decide +kernel
theorem dL_law_680 : decode cL_law 680 = .ok (.iaload, 1) := by decide +kernel
theorem dL_law_681 : decode cL_law 681 = .ok (.aload_n 0, 1) := by decide +kernel
theorem dL_law_682 : decode cL_law 682 = .ok (.iload_n 3, 1) := by decide +kernel
theorem dL_law_683 : decode cL_law 683 = .ok (.iconst 2, 1) := by decide +kernel
theorem dL_law_684 : decode cL_law 684 = .ok (.iadd, 1) := by decide +kernel
theorem dL_law_685 : decode cL_law 685 = .ok (.iaload, 1) := by decide +kernel
theorem dL_law_686 : decode cL_law 686 = .ok (.invokevirtual 82, 3) := by decide +kernel
theorem dL_law_689 : decode cL_law 689 = .ok (.aload_n 2, 1) := by decide +kernel
theorem dL_law_690 : decode cL_law 690 = .ok (.aload_n 0, 1) := by decide +kernel
theorem dL_law_691 : decode cL_law 691 = .ok (.iload_n 3, 1) := by decide +kernel
theorem dL_law_692 : decode cL_law 692 = .ok (.iconst 1, 1) := by decide +kernel
theorem dL_law_693 : decode cL_law 693 = .ok (.iadd, 1) := by decide +kernel
theorem dL_law_694 : decode cL_law 694 = .ok (.iaload, 1) := by decide +kernel
theorem dL_law_695 : decode cL_law 695 = .ok (.aload_n 0, 1) := by decide +kernel
theorem dL_law_696 : decode cL_law 696 = .ok (.iload_n 3, 1) := by decide +kernel
theorem dL_law_697 : decode cL_law 697 = .ok (.iconst 2, 1) := by decide +kernel
theorem dL_law_698 : decode cL_law 698 = .ok (.iadd, 1) := by decide +kernel
theorem dL_law_699 : decode cL_law 699 = .ok (.iaload, 1) := by decide +kernel
theorem dL_law_700 : decode cL_law 700 = .ok (.invokevirtual 85, 3) := by decide +kernel
theorem dL_law_703 : decode cL_law 703 = .ok (.if_icmp .eq 509, 3) := by decide +kernel
theorem dL_law_706 : decode cL_law 706 = .ok (.iconst 0, 1) := by decide +kernel
theorem dL_law_707 : decode cL_law 707 = .ok (.ireturn, 1) := by decide +kernel
theorem dL_law_708 : decode cL_law 708 = .ok (.aload_n 1, 1) := by decide +kernel
theorem dL_law_709 : decode cL_law 709 = .ok (.aload_n 0, 1) := by decide +kernel
theorem dL_law_710 : decode cL_law 710 = .ok (.iload_n 3, 1) := by decide +kernel
theorem dL_law_711 : decode cL_law 711 = .ok (.iconst 1, 1) := by decide +kernel
theorem dL_law_712 : decode cL_law 712 = .ok (.iadd, 1) := by decide +kernel
theorem dL_law_713 : decode cL_law 713 = .ok (.iaload, 1) := by decide +kernel
theorem dL_law_714 : decode cL_law 714 = .ok (.invokevirtual 86, 3) := by decide +kernel
theorem dL_law_717 : decode cL_law 717 = .ok (.aload_n 2, 1) := by decide +kernel
theorem dL_law_718 : decode cL_law 718 = .ok (.aload_n 0, 1) := by decide +kernel
theorem dL_law_719 : decode cL_law 719 = .ok (.iload_n 3, 1) := by decide +kernel
theorem dL_law_720 : decode cL_law 720 = .ok (.iconst 1, 1) := by decide +kernel
theorem dL_law_721 : decode cL_law 721 = .ok (.iadd, 1) := by decide +kernel
theorem dL_law_722 : decode cL_law 722 = .ok (.iaload, 1) := by decide +kernel
theorem dL_law_723 : decode cL_law 723 = .ok (.invokevirtual 89, 3) := by decide +kernel
theorem dL_law_726 : decode cL_law 726 = .ok (.if_icmp .eq 486, 3) := by decide +kernel
theorem dL_law_729 : decode cL_law 729 = .ok (.iconst 0, 1) := by decide +kernel
theorem dL_law_730 : decode cL_law 730 = .ok (.ireturn, 1) := by decide +kernel
theorem dL_law_731 : decode cL_law 731 = .ok (.aload_n 1, 1) := by decide +kernel
theorem dL_law_732 : decode cL_law 732 = .ok (.aload_n 0, 1) := by decide +kernel
theorem dL_law_733 : decode cL_law 733 = .ok (.iload_n 3, 1) := by decide +kernel
theorem dL_law_734 : decode cL_law 734 = .ok (.iconst 1, 1) := by decide +kernel
theorem dL_law_735 : decode cL_law 735 = .ok (.iadd, 1) := by decide +kernel
theorem dL_law_736 : decode cL_law 736 = .ok (.iaload, 1) := by decide +kernel
theorem dL_law_737 : decode cL_law 737 = .ok (.invokevirtual 90, 3) := by decide +kernel
theorem dL_law_740 : decode cL_law 740 = .ok (.aload_n 2, 1) := by decide +kernel
theorem dL_law_741 : decode cL_law 741 = .ok (.aload_n 0, 1) := by decide +kernel
theorem dL_law_742 : decode cL_law 742 = .ok (.iload_n 3, 1) := by decide +kernel
theorem dL_law_743 : decode cL_law 743 = .ok (.iconst 1, 1) := by decide +kernel
theorem dL_law_744 : decode cL_law 744 = .ok (.iadd, 1) := by decide +kernel
theorem dL_law_745 : decode cL_law 745 = .ok (.iaload, 1) := by decide +kernel
theorem dL_law_746 : decode cL_law 746 = .ok (.invokevirtual 93, 3) := by decide +kernel
theorem dL_law_749 : decode cL_law 749 = .ok (.if_icmp .eq 463, 3) := by decide +kernel
theorem dL_law_752 : decode cL_law 752 = .ok (.iconst 0, 1) := by decide +kernel
theorem dL_law_753 : decode cL_law 753 = .ok (.ireturn, 1) := by decide +kernel
theorem dL_law_754 : decode cL_law 754 = .ok (.aload_n 1, 1) := by decide +kernel
theorem dL_law_755 : decode cL_law 755 = .ok (.aload_n 0, 1) := by decide +kernel
theorem dL_law_756 : decode cL_law 756 = .ok (.iload_n 3, 1) := by decide +kernel
theorem dL_law_757 : decode cL_law 757 = .ok (.iconst 1, 1) := by decide +kernel
theorem dL_law_758 : decode cL_law 758 = .ok (.iadd, 1) := by decide +kernel
theorem dL_law_759 : decode cL_law 759 = .ok (.iaload, 1) := by decide +kernel
theorem dL_law_760 : decode cL_law 760 = .ok (.invokevirtual 94, 3) := by decide +kernel
theorem dL_law_763 : decode cL_law 763 = .ok (.aload_n 2, 1) := by decide +kernel
theorem dL_law_764 : decode cL_law 764 = .ok (.aload_n 0, 1) := by decide +kernel
theorem dL_law_765 : decode cL_law 765 = .ok (.iload_n 3, 1) := by decide +kernel
theorem dL_law_766 : decode cL_law 766 = .ok (.iconst 1, 1) := by decide +kernel
theorem dL_law_767 : decode cL_law 767 = .ok (.iadd, 1) := by decide +kernel
theorem dL_law_768 : decode cL_law 768 = .ok (.iaload, 1) := by decide +kernel
theorem dL_law_769 : decode cL_law 769 = .ok (.invokevirtual 97, 3) := by decide +kernel
theorem dL_law_772 : decode cL_law 772 = .ok (.if_icmp .eq 440, 3) := by decide +kernel
theorem dL_law_775 : decode cL_law 775 = .ok (.iconst 0, 1) := by decide +kernel
theorem dL_law_776 : decode cL_law 776 = .ok (.ireturn, 1) := by decide +kernel
theorem dL_law_777 : decode cL_law 777 = .ok (.aload_n 1, 1) := by decide +kernel
theorem dL_law_778 : decode cL_law 778 = .ok (.aload_n 0, 1) := by decide +kernel
theorem dL_law_779 : decode cL_law 779 = .ok (.iload_n 3, 1) := by decide +kernel
theorem dL_law_780 : decode cL_law 780 = .ok (.iconst 1, 1) := by decide +kernel
theorem dL_law_781 : decode cL_law 781 = .ok (.iadd, 1) := by decide +kernel
theorem dL_law_782 : decode cL_law 782 = .ok (.iaload, 1) := by decide +kernel
theorem dL_law_783 : decode cL_law 783 = .ok (.aload_n 0, 1) := by decide +kernel
theorem dL_law_784 : decode cL_law 784 = .ok (.iload_n 3, 1) := by decide +kernel
theorem dL_law_785 : decode cL_law 785 = .ok (.iconst 2, 1) := by decide +kernel
theorem dL_law_786 : decode cL_law 786 = .ok (.iadd, 1) := by decide +kernel
theorem dL_law_787 : decode cL_law 787 = .ok (.iaload, 1) := by decide +kernel
theorem dL_law_788 : decode cL_law 788 = .ok (.invokevirtual 98, 3) := by decide +kernel
theorem dL_law_791 : decode cL_law 791 = .ok (.aload_n 2, 1) := by decide +kernel
theorem dL_law_792 : decode cL_law 792 = .ok (.aload_n 0, 1) := by decide +kernel
theorem dL_law_793 : decode cL_law 793 = .ok (.iload_n 3, 1) := by decide +kernel
theorem dL_law_794 : decode cL_law 794 = .ok (.iconst 1, 1) := by decide +kernel
theorem dL_law_795 : decode cL_law 795 = .ok (.iadd, 1) := by decide +kernel
theorem dL_law_796 : decode cL_law 796 = .ok (.iaload, 1) := by decide +kernel
theorem dL_law_797 : decode cL_law 797 = .ok (.aload_n 0, 1) := by decide +kernel
theorem dL_law_798 : decode cL_law 798 = .ok (.iload_n 3, 1) := by decide +kernel
theorem dL_law_799 : decode cL_law 799 = .ok (.iconst 2, 1) := by decide +kernel
theorem dL_law_800 : decode cL_law 800 = .ok (.iadd, 1) := by decide +kernel
theorem dL_law_801 : decode cL_law 801 = .ok (.iaload, 1) := by decide +kernel
theorem dL_law_802 : decode cL_law 802 = .ok (.invokevirtual 101, 3) := by decide +kernel
theorem dL_law_805 : decode cL_law 805 = .ok (.if_icmp .eq 407, 3) := by decide +kernel
theorem dL_law_808 : decode cL_law 808 = .ok (.iconst 0, 1) := by decide +kernel
theorem dL_law_809 : decode cL_law 809 = .ok (.ireturn, 1) := by decide +kernel
theorem dL_law_810 : decode cL_law 810 = .ok (.aload_n 1, 1) := by decide +kernel
theorem dL_law_811 : decode cL_law 811 = .ok (.invokevirtual 102, 3) := by decide +kernel
theorem dL_law_814 : decode cL_law 814 = .ok (.aload_n 2, 1) := by decide +kernel
theorem dL_law_815 : decode cL_law 815 = .ok (.invokevirtual 105, 3) := by decide +kernel
theorem dL_law_818 : decode cL_law 818 = .ok (.if_icmp .eq 394, 3) := by decide +kernel
theorem dL_law_821 : decode cL_law 821 = .ok (.iconst 0, 1) := by decide +kernel
theorem dL_law_822 : decode cL_law 822 = .ok (.ireturn, 1) := by decide +kernel
theorem dL_law_823 : decode cL_law 823 = .ok (.aload_n 1, 1) := by decide +kernel
theorem dL_law_824 : decode cL_law 824 = .ok (.aload_n 0, 1) := by decide +kernel
theorem dL_law_825 : decode cL_law 825 = .ok (.iload_n 3, 1) := by decide +kernel
theorem dL_law_826 : decode cL_law 826 = .ok (.iconst 1, 1) := by decide +kernel
theorem dL_law_827 : decode cL_law 827 = .ok (.iadd, 1) := by decide +kernel
theorem dL_law_828 : decode cL_law 828 = .ok (.iaload, 1) := by decide +kernel
theorem dL_law_829 : decode cL_law 829 = .ok (.invokevirtual 106, 3) := by decide +kernel
theorem dL_law_832 : decode cL_law 832 = .ok (.aload_n 2, 1) := by decide +kernel
theorem dL_law_833 : decode cL_law 833 = .ok (.aload_n 0, 1) := by decide +kernel
theorem dL_law_834 : decode cL_law 834 = .ok (.iload_n 3, 1) := by decide +kernel
theorem dL_law_835 : decode cL_law 835 = .ok (.iconst 1, 1) := by decide +kernel
theorem dL_law_836 : decode cL_law 836 = .ok (.iadd, 1) := by decide +kernel
theorem dL_law_837 : decode cL_law 837 = .ok (.iaload, 1) := by decide +kernel
theorem dL_law_838 : decode cL_law 838 = .ok (.invokevirtual 109, 3) := by decide +kernel
theorem dL_law_841 : decode cL_law 841 = .ok (.if_icmp .eq 371, 3) := by decide +kernel
theorem dL_law_844 : decode cL_law 844 = .ok (.iconst 0, 1) := by decide +kernel
theorem dL_law_845 : decode cL_law 845 = .ok (.ireturn, 1) := by decide +kernel
theorem dL_law_846 : decode cL_law 846 = .ok (.aload_n 1, 1) := by decide +kernel
theorem dL_law_847 : decode cL_law 847 = .ok (.aload_n 0, 1) := by decide +kernel
theorem dL_law_848 : decode cL_law 848 = .ok (.iload_n 3, 1) := by decide +kernel
theorem dL_law_849 : decode cL_law 849 = .ok (.iconst 1, 1) := by decide +kernel
theorem dL_law_850 : decode cL_law 850 = .ok (.iadd, 1) := by decide +kernel
theorem dL_law_851 : decode cL_law 851 = .ok (.iaload, 1) := by decide +kernel
theorem dL_law_852 : decode cL_law 852 = .ok (.invokevirtual 110, 3) := by decide +kernel
theorem dL_law_855 : decode cL_law 855 = .ok (.aload_n 2, 1) := by decide +kernel
theorem dL_law_856 : decode cL_law 856 = .ok (.aload_n 0, 1) := by decide +kernel
theorem dL_law_857 : decode cL_law 857 = .ok (.iload_n 3, 1) := by decide +kernel
theorem dL_law_858 : decode cL_law 858 = .ok (.iconst 1, 1) := by decide +kernel
theorem dL_law_859 : decode cL_law 859 = .ok (.iadd, 1) := by decide +kernel
theorem dL_law_860 : decode cL_law 860 = .ok (.iaload, 1) := by decide +kernel
theorem dL_law_861 : decode cL_law 861 = .ok (.invokevirtual 113, 3) := by decide +kernel
theorem dL_law_864 : decode cL_law 864 = .ok (.if_icmp .eq 348, 3) := by decide +kernel
theorem dL_law_867 : decode cL_law 867 = .ok (.iconst 0, 1) := by decide +kernel
theorem dL_law_868 : decode cL_law 868 = .ok (.ireturn, 1) := by decide +kernel
theorem dL_law_869 : decode cL_law 869 = .ok (.aload_n 1, 1) := by decide +kernel
theorem dL_law_870 : decode cL_law 870 = .ok (.aload_n 0, 1) := by decide +kernel
theorem dL_law_871 : decode cL_law 871 = .ok (.iload_n 3, 1) := by decide +kernel
theorem dL_law_872 : decode cL_law 872 = .ok (.iconst 1, 1) := by decide +kernel
theorem dL_law_873 : decode cL_law 873 = .ok (.iadd, 1) := by decide +kernel
theorem dL_law_874 : decode cL_law 874 = .ok (.iaload, 1) := by decide +kernel
theorem dL_law_875 : decode cL_law 875 = .ok (.aload_n 0, 1) := by decide +kernel
theorem dL_law_876 : decode cL_law 876 = .ok (.iload_n 3, 1) := by decide +kernel
theorem dL_law_877 : decode cL_law 877 = .ok (.iconst 2, 1) := by decide +kernel
theorem dL_law_878 : decode cL_law 878 = .ok (.iadd, 1) := by decide +kernel
theorem dL_law_879 : decode cL_law 879 = .ok (.iaload, 1) := by decide +kernel
theorem dL_law_880 : decode cL_law 880 = .ok (.aload_n 0, 1) := by decide +kernel
theorem dL_law_881 : decode cL_law 881 = .ok (.iload_n 3, 1) := by decide +kernel
theorem dL_law_882 : decode cL_law 882 = .ok (.iconst 3, 1) := by decide +kernel
theorem dL_law_883 : decode cL_law 883 = .ok (.iadd, 1) := by decide +kernel
theorem dL_law_884 : decode cL_law 884 = .ok (.iaload, 1) := by decide +kernel
theorem dL_law_885 : decode cL_law 885 = .ok (.ifCond .eq 7, 3) := by decide +kernel
theorem dL_law_888 : decode cL_law 888 = .ok (.iconst 1, 1) := by decide +kernel
theorem dL_law_889 : decode cL_law 889 = .ok (.goto 4, 3) := by decide +kernel
theorem dL_law_892 : decode cL_law 892 = .ok (.iconst 0, 1) := by decide +kernel
theorem dL_law_893 : decode cL_law 893 = .ok (.invokevirtual 114, 3) := by decide +kernel
theorem dL_law_896 : decode cL_law 896 = .ok (.aload_n 2, 1) := by decide +kernel
theorem dL_law_897 : decode cL_law 897 = .ok (.aload_n 0, 1) := by decide +kernel
theorem dL_law_898 : decode cL_law 898 = .ok (.iload_n 3, 1) := by decide +kernel
theorem dL_law_899 : decode cL_law 899 = .ok (.iconst 1, 1) := by decide +kernel
theorem dL_law_900 : decode cL_law 900 = .ok (.iadd, 1) := by decide +kernel
theorem dL_law_901 : decode cL_law 901 = .ok (.iaload, 1) := by decide +kernel
theorem dL_law_902 : decode cL_law 902 = .ok (.aload_n 0, 1) := by decide +kernel
theorem dL_law_903 : decode cL_law 903 = .ok (.iload_n 3, 1) := by decide +kernel
theorem dL_law_904 : decode cL_law 904 = .ok (.iconst 2, 1) := by decide +kernel
theorem dL_law_905 : decode cL_law 905 = .ok (.iadd, 1) := by decide +kernel
theorem dL_law_906 : decode cL_law 906 = .ok (.iaload, 1) := by decide +kernel
theorem dL_law_907 : decode cL_law 907 = .ok (.aload_n 0, 1) := by decide +kernel
theorem dL_law_908 : decode cL_law 908 = .ok (.iload_n 3, 1) := by decide +kernel
theorem dL_law_909 : decode cL_law 909 = .ok (.iconst 3, 1) := by decide +kernel
theorem dL_law_910 : decode cL_law 910 = .ok (.iadd, 1) := by decide +kernel
theorem dL_law_911 : decode cL_law 911 = .ok (.iaload, 1) := by decide +kernel
theorem dL_law_912 : decode cL_law 912 = .ok (.ifCond .eq 7, 3) := by decide +kernel
theorem dL_law_915 : decode cL_law 915 = .ok (.iconst 1, 1) := by decide +kernel
theorem dL_law_916 : decode cL_law 916 = .ok (.goto 4, 3) := by decide +kernel
theorem dL_law_919 : decode cL_law 919 = .ok (.iconst 0, 1) := by decide +kernel
theorem dL_law_920 : decode cL_law 920 = .ok (.invokevirtual 118, 3) := by decide +kernel
theorem dL_law_923 : decode cL_law 923 = .ok (.if_icmp .eq 289, 3) := by decide +kernel
theorem dL_law_926 : decode cL_law 926 = .ok (.iconst 0, 1) := by decide +kernel
theorem dL_law_927 : decode cL_law 927 = .ok (.ireturn, 1) := by decide +kernel
theorem dL_law_928 : decode cL_law 928 = .ok (.aload_n 1, 1) := by decide +kernel
theorem dL_law_929 : decode cL_law 929 = .ok (.aload_n 0, 1) := by decide +kernel
theorem dL_law_930 : decode cL_law 930 = .ok (.iload_n 3, 1) := by decide +kernel
theorem dL_law_931 : decode cL_law 931 = .ok (.iconst 1, 1) := by decide +kernel
theorem dL_law_932 : decode cL_law 932 = .ok (.iadd, 1) := by decide +kernel
theorem dL_law_933 : decode cL_law 933 = .ok (.iaload, 1) := by decide +kernel
theorem dL_law_934 : decode cL_law 934 = .ok (.aload_n 0, 1) := by decide +kernel
theorem dL_law_935 : decode cL_law 935 = .ok (.iload_n 3, 1) := by decide +kernel
theorem dL_law_936 : decode cL_law 936 = .ok (.iconst 2, 1) := by decide +kernel
theorem dL_law_937 : decode cL_law 937 = .ok (.iadd, 1) := by decide +kernel
theorem dL_law_938 : decode cL_law 938 = .ok (.iaload, 1) := by decide +kernel
theorem dL_law_939 : decode cL_law 939 = .ok (.invokevirtual 119, 3) := by decide +kernel
theorem dL_law_942 : decode cL_law 942 = .ok (.aload_n 2, 1) := by decide +kernel
theorem dL_law_943 : decode cL_law 943 = .ok (.aload_n 0, 1) := by decide +kernel
theorem dL_law_944 : decode cL_law 944 = .ok (.iload_n 3, 1) := by decide +kernel
theorem dL_law_945 : decode cL_law 945 = .ok (.iconst 1, 1) := by decide +kernel
theorem dL_law_946 : decode cL_law 946 = .ok (.iadd, 1) := by decide +kernel
theorem dL_law_947 : decode cL_law 947 = .ok (.iaload, 1) := by decide +kernel
theorem dL_law_948 : decode cL_law 948 = .ok (.aload_n 0, 1) := by decide +kernel
theorem dL_law_949 : decode cL_law 949 = .ok (.iload_n 3, 1) := by decide +kernel
theorem dL_law_950 : decode cL_law 950 = .ok (.iconst 2, 1) := by decide +kernel
theorem dL_law_951 : decode cL_law 951 = .ok (.iadd, 1) := by decide +kernel
theorem dL_law_952 : decode cL_law 952 = .ok (.iaload, 1) := by decide +kernel
theorem dL_law_953 : decode cL_law 953 = .ok (.invokevirtual 122, 3) := by decide +kernel
theorem dL_law_956 : decode cL_law 956 = .ok (.if_icmp .eq 256, 3) := by decide +kernel
theorem dL_law_959 : decode cL_law 959 = .ok (.iconst 0, 1) := by decide +kernel
theorem dL_law_960 : decode cL_law 960 = .ok (.ireturn, 1) := by decide +kernel
theorem dL_law_961 : decode cL_law 961 = .ok (.aload_n 1, 1) := by decide +kernel
theorem dL_law_962 : decode cL_law 962 = .ok (.aload_n 0, 1) := by decide +kernel
theorem dL_law_963 : decode cL_law 963 = .ok (.iload_n 3, 1) := by decide +kernel
theorem dL_law_964 : decode cL_law 964 = .ok (.iconst 1, 1) := by decide +kernel
theorem dL_law_965 : decode cL_law 965 = .ok (.iadd, 1) := by decide +kernel
theorem dL_law_966 : decode cL_law 966 = .ok (.iaload, 1) := by decide +kernel
theorem dL_law_967 : decode cL_law 967 = .ok (.aload_n 0, 1) := by decide +kernel
theorem dL_law_968 : decode cL_law 968 = .ok (.iload_n 3, 1) := by decide +kernel
theorem dL_law_969 : decode cL_law 969 = .ok (.iconst 2, 1) := by decide +kernel
theorem dL_law_970 : decode cL_law 970 = .ok (.iadd, 1) := by decide +kernel
theorem dL_law_971 : decode cL_law 971 = .ok (.iaload, 1) := by decide +kernel
theorem dL_law_972 : decode cL_law 972 = .ok (.aload_n 0, 1) := by decide +kernel
theorem dL_law_973 : decode cL_law 973 = .ok (.iload_n 3, 1) := by decide +kernel
theorem dL_law_974 : decode cL_law 974 = .ok (.iconst 3, 1) := by decide +kernel
theorem dL_law_975 : decode cL_law 975 = .ok (.iadd, 1) := by decide +kernel
theorem dL_law_976 : decode cL_law 976 = .ok (.iaload, 1) := by decide +kernel
theorem dL_law_977 : decode cL_law 977 = .ok (.invokevirtual 123, 3) := by decide +kernel
theorem dL_law_980 : decode cL_law 980 = .ok (.aload_n 2, 1) := by decide +kernel
theorem dL_law_981 : decode cL_law 981 = .ok (.aload_n 0, 1) := by decide +kernel
theorem dL_law_982 : decode cL_law 982 = .ok (.iload_n 3, 1) := by decide +kernel
theorem dL_law_983 : decode cL_law 983 = .ok (.iconst 1, 1) := by decide +kernel
theorem dL_law_984 : decode cL_law 984 = .ok (.iadd, 1) := by decide +kernel
theorem dL_law_985 : decode cL_law 985 = .ok (.iaload, 1) := by decide +kernel
theorem dL_law_986 : decode cL_law 986 = .ok (.aload_n 0, 1) := by decide +kernel
theorem dL_law_987 : decode cL_law 987 = .ok (.iload_n 3, 1) := by decide +kernel
theorem dL_law_988 : decode cL_law 988 = .ok (.iconst 2, 1) := by decide +kernel
theorem dL_law_989 : decode cL_law 989 = .ok (.iadd, 1) := by decide +kernel
theorem dL_law_990 : decode cL_law 990 = .ok (.iaload, 1) := by decide +kernel
theorem dL_law_991 : decode cL_law 991 = .ok (.aload_n 0, 1) := by decide +kernel
theorem dL_law_992 : decode cL_law 992 = .ok (.iload_n 3, 1) := by decide +kernel
theorem dL_law_993 : decode cL_law 993 = .ok (.iconst 3, 1) := by decide +kernel
theorem dL_law_994 : decode cL_law 994 = .ok (.iadd, 1) := by decide +kernel
theorem dL_law_995 : decode cL_law 995 = .ok (.iaload, 1) := by decide +kernel
theorem dL_law_996 : decode cL_law 996 = .ok (.invokevirtual 126, 3) := by decide +kernel
theorem dL_law_999 : decode cL_law 999 = .ok (.if_icmp .eq 213, 3) := by decide +kernel
theorem dL_law_1002 : decode cL_law 1002 = .ok (.iconst 0, 1) := by decide +kernel
theorem dL_law_1003 : decode cL_law 1003 = .ok (.ireturn, 1) := by decide +kernel
theorem dL_law_1004 : decode cL_law 1004 = .ok (.aload_n 1, 1) := by decide +kernel
theorem dL_law_1005 : decode cL_law 1005 = .ok (.aload_n 0, 1) := by decide +kernel
theorem dL_law_1006 : decode cL_law 1006 = .ok (.iload_n 3, 1) := by decide +kernel
theorem dL_law_1007 : decode cL_law 1007 = .ok (.iconst 1, 1) := by decide +kernel
theorem dL_law_1008 : decode cL_law 1008 = .ok (.iadd, 1) := by decide +kernel
theorem dL_law_1009 : decode cL_law 1009 = .ok (.iaload, 1) := by decide +kernel
theorem dL_law_1010 : decode cL_law 1010 = .ok (.aload_n 0, 1) := by decide +kernel
theorem dL_law_1011 : decode cL_law 1011 = .ok (.iload_n 3, 1) := by decide +kernel
theorem dL_law_1012 : decode cL_law 1012 = .ok (.iconst 2, 1) := by decide +kernel
theorem dL_law_1013 : decode cL_law 1013 = .ok (.iadd, 1) := by decide +kernel
theorem dL_law_1014 : decode cL_law 1014 = .ok (.iaload, 1) := by decide +kernel
theorem dL_law_1015 : decode cL_law 1015 = .ok (.aload_n 0, 1) := by decide +kernel
theorem dL_law_1016 : decode cL_law 1016 = .ok (.iload_n 3, 1) := by decide +kernel
theorem dL_law_1017 : decode cL_law 1017 = .ok (.iconst 3, 1) := by decide +kernel
theorem dL_law_1018 : decode cL_law 1018 = .ok (.iadd, 1) := by decide +kernel
theorem dL_law_1019 : decode cL_law 1019 = .ok (.iaload, 1) := by decide +kernel
theorem dL_law_1020 : decode cL_law 1020 = .ok (.invokevirtual 127, 3) := by decide +kernel
theorem dL_law_1023 : decode cL_law 1023 = .ok (.aload_n 2, 1) := by decide +kernel
theorem dL_law_1024 : decode cL_law 1024 = .ok (.aload_n 0, 1) := by decide +kernel
theorem dL_law_1025 : decode cL_law 1025 = .ok (.iload_n 3, 1) := by decide +kernel
theorem dL_law_1026 : decode cL_law 1026 = .ok (.iconst 1, 1) := by decide +kernel
theorem dL_law_1027 : decode cL_law 1027 = .ok (.iadd, 1) := by decide +kernel
theorem dL_law_1028 : decode cL_law 1028 = .ok (.iaload, 1) := by decide +kernel
theorem dL_law_1029 : decode cL_law 1029 = .ok (.aload_n 0, 1) := by decide +kernel
theorem dL_law_1030 : decode cL_law 1030 = .ok (.iload_n 3, 1) := by decide +kernel
theorem dL_law_1031 : decode cL_law 1031 = .ok (.iconst 2, 1) := by decide +kernel
theorem dL_law_1032 : decode cL_law 1032 = .ok (.iadd, 1) := by decide +kernel
theorem dL_law_1033 : decode cL_law 1033 = .ok (.iaload, 1) := by decide +kernel
theorem dL_law_1034 : decode cL_law 1034 = .ok (.aload_n 0, 1) := by decide +kernel
theorem dL_law_1035 : decode cL_law 1035 = .ok (.iload_n 3, 1) := by decide +kernel
theorem dL_law_1036 : decode cL_law 1036 = .ok (.iconst 3, 1) := by decide +kernel
theorem dL_law_1037 : decode cL_law 1037 = .ok (.iadd, 1) := by decide +kernel
theorem dL_law_1038 : decode cL_law 1038 = .ok (.iaload, 1) := by decide +kernel
theorem dL_law_1039 : decode cL_law 1039 = .ok (.invokevirtual 131, 3) := by decide +kernel
theorem dL_law_1042 : decode cL_law 1042 = .ok (.lcmp, 1) := by decide +kernel
theorem dL_law_1043 : decode cL_law 1043 = .ok (.ifCond .eq 169, 3) := by decide +kernel
theorem dL_law_1046 : decode cL_law 1046 = .ok (.iconst 0, 1) := by decide +kernel
theorem dL_law_1047 : decode cL_law 1047 = .ok (.ireturn, 1) := by decide +kernel
theorem dL_law_1048 : decode cL_law 1048 = .ok (.aload_n 1, 1) := by decide +kernel
theorem dL_law_1049 : decode cL_law 1049 = .ok (.aload_n 0, 1) := by decide +kernel
theorem dL_law_1050 : decode cL_law 1050 = .ok (.iload_n 3, 1) := by decide +kernel
theorem dL_law_1051 : decode cL_law 1051 = .ok (.iconst 1, 1) := by decide +kernel
theorem dL_law_1052 : decode cL_law 1052 = .ok (.iadd, 1) := by decide +kernel
theorem dL_law_1053 : decode cL_law 1053 = .ok (.iaload, 1) := by decide +kernel
theorem dL_law_1054 : decode cL_law 1054 = .ok (.aload_n 0, 1) := by decide +kernel
theorem dL_law_1055 : decode cL_law 1055 = .ok (.iload_n 3, 1) := by decide +kernel
theorem dL_law_1056 : decode cL_law 1056 = .ok (.iconst 2, 1) := by decide +kernel
theorem dL_law_1057 : decode cL_law 1057 = .ok (.iadd, 1) := by decide +kernel
theorem dL_law_1058 : decode cL_law 1058 = .ok (.iaload, 1) := by decide +kernel
theorem dL_law_1059 : decode cL_law 1059 = .ok (.aload_n 0, 1) := by decide +kernel
theorem dL_law_1060 : decode cL_law 1060 = .ok (.iload_n 3, 1) := by decide +kernel
theorem dL_law_1061 : decode cL_law 1061 = .ok (.iconst 3, 1) := by decide +kernel
theorem dL_law_1062 : decode cL_law 1062 = .ok (.iadd, 1) := by decide +kernel
theorem dL_law_1063 : decode cL_law 1063 = .ok (.iaload, 1) := by decide +kernel
theorem dL_law_1064 : decode cL_law 1064 = .ok (.invokevirtual 132, 3) := by decide +kernel
theorem dL_law_1067 : decode cL_law 1067 = .ok (.aload_n 2, 1) := by decide +kernel
theorem dL_law_1068 : decode cL_law 1068 = .ok (.aload_n 0, 1) := by decide +kernel
theorem dL_law_1069 : decode cL_law 1069 = .ok (.iload_n 3, 1) := by decide +kernel
theorem dL_law_1070 : decode cL_law 1070 = .ok (.iconst 1, 1) := by decide +kernel
theorem dL_law_1071 : decode cL_law 1071 = .ok (.iadd, 1) := by decide +kernel
theorem dL_law_1072 : decode cL_law 1072 = .ok (.iaload, 1) := by decide +kernel
theorem dL_law_1073 : decode cL_law 1073 = .ok (.aload_n 0, 1) := by decide +kernel
theorem dL_law_1074 : decode cL_law 1074 = .ok (.iload_n 3, 1) := by decide +kernel
theorem dL_law_1075 : decode cL_law 1075 = .ok (.iconst 2, 1) := by decide +kernel
theorem dL_law_1076 : decode cL_law 1076 = .ok (.iadd, 1) := by decide +kernel
theorem dL_law_1077 : decode cL_law 1077 = .ok (.iaload, 1) := by decide +kernel
theorem dL_law_1078 : decode cL_law 1078 = .ok (.aload_n 0, 1) := by decide +kernel
theorem dL_law_1079 : decode cL_law 1079 = .ok (.iload_n 3, 1) := by decide +kernel
theorem dL_law_1080 : decode cL_law 1080 = .ok (.iconst 3, 1) := by decide +kernel
theorem dL_law_1081 : decode cL_law 1081 = .ok (.iadd, 1) := by decide +kernel
theorem dL_law_1082 : decode cL_law 1082 = .ok (.iaload, 1) := by decide +kernel
theorem dL_law_1083 : decode cL_law 1083 = .ok (.invokevirtual 135, 3) := by decide +kernel
theorem dL_law_1086 : decode cL_law 1086 = .ok (.if_icmp .eq 126, 3) := by decide +kernel
theorem dL_law_1089 : decode cL_law 1089 = .ok (.iconst 0, 1) := by decide +kernel
theorem dL_law_1090 : decode cL_law 1090 = .ok (.ireturn, 1) := by decide +kernel
theorem dL_law_1091 : decode cL_law 1091 = .ok (.aload_n 1, 1) := by decide +kernel
theorem dL_law_1092 : decode cL_law 1092 = .ok (.aload_n 0, 1) := by decide +kernel
theorem dL_law_1093 : decode cL_law 1093 = .ok (.iload_n 3, 1) := by decide +kernel
theorem dL_law_1094 : decode cL_law 1094 = .ok (.iconst 1, 1) := by decide +kernel
theorem dL_law_1095 : decode cL_law 1095 = .ok (.iadd, 1) := by decide +kernel
theorem dL_law_1096 : decode cL_law 1096 = .ok (.iaload, 1) := by decide +kernel
theorem dL_law_1097 : decode cL_law 1097 = .ok (.aload_n 0, 1) := by decide +kernel
theorem dL_law_1098 : decode cL_law 1098 = .ok (.iload_n 3, 1) := by decide +kernel
theorem dL_law_1099 : decode cL_law 1099 = .ok (.iconst 2, 1) := by decide +kernel
theorem dL_law_1100 : decode cL_law 1100 = .ok (.iadd, 1) := by decide +kernel
theorem dL_law_1101 : decode cL_law 1101 = .ok (.iaload, 1) := by decide +kernel
theorem dL_law_1102 : decode cL_law 1102 = .ok (.ifCond .eq 7, 3) := by decide +kernel
theorem dL_law_1105 : decode cL_law 1105 = .ok (.iconst 1, 1) := by decide +kernel
theorem dL_law_1106 : decode cL_law 1106 = .ok (.goto 4, 3) := by decide +kernel
theorem dL_law_1109 : decode cL_law 1109 = .ok (.iconst 0, 1) := by decide +kernel
theorem dL_law_1110 : decode cL_law 1110 = .ok (.invokevirtual 136, 3) := by decide +kernel
theorem dL_law_1113 : decode cL_law 1113 = .ok (.aload_n 2, 1) := by decide +kernel
theorem dL_law_1114 : decode cL_law 1114 = .ok (.aload_n 0, 1) := by decide +kernel
theorem dL_law_1115 : decode cL_law 1115 = .ok (.iload_n 3, 1) := by decide +kernel
theorem dL_law_1116 : decode cL_law 1116 = .ok (.iconst 1, 1) := by decide +kernel
theorem dL_law_1117 : decode cL_law 1117 = .ok (.iadd, 1) := by decide +kernel
theorem dL_law_1118 : decode cL_law 1118 = .ok (.iaload, 1) := by decide +kernel
theorem dL_law_1119 : decode cL_law 1119 = .ok (.aload_n 0, 1) := by decide +kernel
theorem dL_law_1120 : decode cL_law 1120 = .ok (.iload_n 3, 1) := by decide +kernel
theorem dL_law_1121 : decode cL_law 1121 = .ok (.iconst 2, 1) := by decide +kernel
theorem dL_law_1122 : decode cL_law 1122 = .ok (.iadd, 1) := by decide +kernel
theorem dL_law_1123 : decode cL_law 1123 = .ok (.iaload, 1) := by decide +kernel
theorem dL_law_1124 : decode cL_law 1124 = .ok (.ifCond .eq 7, 3) := by decide +kernel
theorem dL_law_1127 : decode cL_law 1127 = .ok (.iconst 1, 1) := by decide +kernel
theorem dL_law_1128 : decode cL_law 1128 = .ok (.goto 4, 3) := by decide +kernel
theorem dL_law_1131 : decode cL_law 1131 = .ok (.iconst 0, 1) := by decide +kernel
theorem dL_law_1132 : decode cL_law 1132 = .ok (.invokevirtual 140, 3) := by decide +kernel
theorem dL_law_1135 : decode cL_law 1135 = .ok (.if_icmp .eq 77, 3) := by decide +kernel
theorem dL_law_1138 : decode cL_law 1138 = .ok (.iconst 0, 1) := by decide +kernel
theorem dL_law_1139 : decode cL_law 1139 = .ok (.ireturn, 1) := by decide +kernel
theorem dL_law_1140 : decode cL_law 1140 = .ok (.aload_n 1, 1) := by decide +kernel
theorem dL_law_1141 : decode cL_law 1141 = .ok (.aload_n 0, 1) := by decide +kernel
theorem dL_law_1142 : decode cL_law 1142 = .ok (.iload_n 3, 1) := by decide +kernel
theorem dL_law_1143 : decode cL_law 1143 = .ok (.iconst 1, 1) := by decide +kernel
theorem dL_law_1144 : decode cL_law 1144 = .ok (.iadd, 1) := by decide +kernel
theorem dL_law_1145 : decode cL_law 1145 = .ok (.iaload, 1) := by decide +kernel
theorem dL_law_1146 : decode cL_law 1146 = .ok (.invokevirtual 141, 3) := by decide +kernel
theorem dL_law_1149 : decode cL_law 1149 = .ok (.aload_n 2, 1) := by decide +kernel
theorem dL_law_1150 : decode cL_law 1150 = .ok (.aload_n 0, 1) := by decide +kernel
theorem dL_law_1151 : decode cL_law 1151 = .ok (.iload_n 3, 1) := by decide +kernel
theorem dL_law_1152 : decode cL_law 1152 = .ok (.iconst 1, 1) := by decide +kernel
theorem dL_law_1153 : decode cL_law 1153 = .ok (.iadd, 1) := by decide +kernel
theorem dL_law_1154 : decode cL_law 1154 = .ok (.iaload, 1) := by decide +kernel
theorem dL_law_1155 : decode cL_law 1155 = .ok (.invokevirtual 144, 3) := by decide +kernel
theorem dL_law_1158 : decode cL_law 1158 = .ok (.if_icmp .eq 54, 3) := by decide +kernel
theorem dL_law_1161 : decode cL_law 1161 = .ok (.iconst 0, 1) := by decide +kernel
theorem dL_law_1162 : decode cL_law 1162 = .ok (.ireturn, 1) := by decide +kernel
theorem dL_law_1163 : decode cL_law 1163 = .ok (.aload_n 1, 1) := by decide +kernel
theorem dL_law_1164 : decode cL_law 1164 = .ok (.invokevirtual 145, 3) := by decide +kernel
theorem dL_law_1167 : decode cL_law 1167 = .ok (.aload_n 2, 1) := by decide +kernel
theorem dL_law_1168 : decode cL_law 1168 = .ok (.invokevirtual 148, 3) := by decide +kernel
theorem dL_law_1171 : decode cL_law 1171 = .ok (.if_icmp .eq 41, 3) := by decide +kernel
theorem dL_law_1174 : decode cL_law 1174 = .ok (.iconst 0, 1) := by decide +kernel
theorem dL_law_1175 : decode cL_law 1175 = .ok (.ireturn, 1) := by decide +kernel
theorem dL_law_1176 : decode cL_law 1176 = .ok (.aload_n 1, 1) := by decide +kernel
theorem dL_law_1177 : decode cL_law 1177 = .ok (.invokevirtual 149, 3) := by decide +kernel
theorem dL_law_1180 : decode cL_law 1180 = .ok (.aload_n 2, 1) := by decide +kernel
theorem dL_law_1181 : decode cL_law 1181 = .ok (.invokevirtual 152, 3) := by decide +kernel
theorem dL_law_1184 : decode cL_law 1184 = .ok (.if_icmp .eq 28, 3) := by decide +kernel
theorem dL_law_1187 : decode cL_law 1187 = .ok (.iconst 0, 1) := by decide +kernel
theorem dL_law_1188 : decode cL_law 1188 = .ok (.ireturn, 1) := by decide +kernel
theorem dL_law_1189 : decode cL_law 1189 = .ok (.aload_n 1, 1) := by decide +kernel
theorem dL_law_1190 : decode cL_law 1190 = .ok (.aload_n 0, 1) := by decide +kernel
theorem dL_law_1191 : decode cL_law 1191 = .ok (.iload_n 3, 1) := by decide +kernel
theorem dL_law_1192 : decode cL_law 1192 = .ok (.iconst 1, 1) := by decide +kernel
theorem dL_law_1193 : decode cL_law 1193 = .ok (.iadd, 1) := by decide +kernel
theorem dL_law_1194 : decode cL_law 1194 = .ok (.iaload, 1) := by decide +kernel
theorem dL_law_1195 : decode cL_law 1195 = .ok (.invokevirtual 153, 3) := by decide +kernel
theorem dL_law_1198 : decode cL_law 1198 = .ok (.aload_n 2, 1) := by decide +kernel
theorem dL_law_1199 : decode cL_law 1199 = .ok (.aload_n 0, 1) := by decide +kernel
theorem dL_law_1200 : decode cL_law 1200 = .ok (.iload_n 3, 1) := by decide +kernel
theorem dL_law_1201 : decode cL_law 1201 = .ok (.iconst 1, 1) := by decide +kernel
theorem dL_law_1202 : decode cL_law 1202 = .ok (.iadd, 1) := by decide +kernel
theorem dL_law_1203 : decode cL_law 1203 = .ok (.iaload, 1) := by decide +kernel
theorem dL_law_1204 : decode cL_law 1204 = .ok (.invokevirtual 156, 3) := by decide +kernel
theorem dL_law_1207 : decode cL_law 1207 = .ok (.if_icmp .eq 5, 3) := by decide +kernel
theorem dL_law_1210 : decode cL_law 1210 = .ok (.iconst 0, 1) := by decide +kernel
theorem dL_law_1211 : decode cL_law 1211 = .ok (.ireturn, 1) := by decide +kernel
theorem dL_law_1212 : decode cL_law 1212 = .ok (.iinc 3 6, 3) := by decide +kernel
theorem dL_law_1215 : decode cL_law 1215 = .ok (.goto (-1197), 3) := by decide +kernel
theorem dL_law_1218 : decode cL_law 1218 = .ok (.iconst 1, 1) := by decide +kernel
theorem dL_law_1219 : decode cL_law 1219 = .ok (.ireturn, 1) := by decide +kernel
abbrev vwCl : List vw_C := [(RX0, TX0, 5), (RX1, TX1, 3), (RX2, TX2, 15), (RX3, TX3, 2), (RX4, TX4, 4), (RX5, TX5, 10), (RX6, TX6, 3), (RX7, TX7, 7), (RX8, TX8, 4), (RX9, TX9, 12), (RX10, TX10, 28)]
