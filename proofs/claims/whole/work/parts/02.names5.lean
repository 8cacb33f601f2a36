theorem dX9_isCamera_6 : decode cX9_isCamera 6 = .ok (.ireturn, 1) := by decide +kernel
set_option maxRecDepth 20000 in
theorem ggX9_isDoubt_X9_within : GoodIn wsX9_isDoubt wsX9_within := goodIn_r _ [4] (by decide +kernel) (by decide +kernel)
set_option maxRecDepth 20000 in
theorem gX9_isDoubt_X9_within : GoodIn wsX9_isDoubt (va_wsS RX9 83 yX9_within wsX9_within) := goodIn_app (goodIn_of _ (by decide +kernel)) ggX9_isDoubt_X9_within
theorem dX9_isDoubt_0 : decode cX9_isDoubt 0 = .ok (.iload_n 0, 1) := by decide +kernel
theorem dX9_isDoubt_1 : decode cX9_isDoubt 1 = .ok (.iconst 0, 1) := by decide +kernel
theorem dX9_isDoubt_2 : decode cX9_isDoubt 2 = .ok (.sipush 1000, 3) := by decide +kernel
theorem dX9_isDoubt_5 : decode cX9_isDoubt 5 = .ok (.invokestatic 83, 3) := by decide +kernel
theorem dX9_isDoubt_8 : decode cX9_isDoubt 8 = .ok (.ireturn, 1) := by decide +kernel
theorem dX10_init_0 : decode cX10_init 0 = .ok (.aload_n 0, 1) := by decide +kernel
theorem dX10_init_1 : decode cX10_init 1 = .ok (.invokespecial 1, 3) := by decide +kernel
theorem dX10_init_4 : decode cX10_init 4 = .ok (.aload_n 0, 1) := by decide +kernel
theorem dX10_init_5 : decode cX10_init 5 = .ok (.sipush 200, 3) := by decide +kernel
theorem dX10_init_8 : decode cX10_init 8 = .ok (.newarray .int, 2) := by decide +kernel
theorem dX10_init_10 : decode cX10_init 10 = .ok (.putfield 7, 3) := by decide +kernel
theorem dX10_init_13 : decode cX10_init 13 = .ok (.aload_n 0, 1) := by decide +kernel
theorem dX10_init_14 : decode cX10_init 14 = .ok (.iconst 2, 1) := by decide +kernel
theorem dX10_init_15 : decode cX10_init 15 = .ok (.newarray .int, 2) := by decide +kernel
theorem dX10_init_17 : decode cX10_init 17 = .ok (.putfield 13, 3) := by decide +kernel
theorem dX10_init_20 : decode cX10_init 20 = .ok (.aload_n 0, 1) := by decide +kernel
theorem dX10_init_21 : decode cX10_init 21 = .ok (.sipush 536, 3) := by decide +kernel
theorem dX10_init_24 : decode cX10_init 24 = .ok (.newarray .int, 2) := by decide +kernel
theorem dX10_init_26 : decode cX10_init 26 = .ok (.putfield 16, 3) := by decide +kernel
theorem dX10_init_29 : decode cX10_init 29 = .ok (.aload_n 0, 1) := by decide +kernel
theorem dX10_init_30 : decode cX10_init 30 = .ok (.bipush 18, 2) := by decide +kernel
theorem dX10_init_32 : decode cX10_init 32 = .ok (.newarray .int, 2) := by decide +kernel
theorem dX10_init_34 : decode cX10_init 34 = .ok (.putfield 19, 3) := by decide +kernel
theorem dX10_init_37 : decode cX10_init 37 = .ok (.aload_n 0, 1) := by decide +kernel
theorem dX10_init_38 : decode cX10_init 38 = .ok (.iconst 3, 1) := by decide +kernel
theorem dX10_init_39 : decode cX10_init 39 = .ok (.newarray .int, 2) := by decide +kernel
theorem dX10_init_41 : decode cX10_init 41 = .ok (.putfield 22, 3) := by decide +kernel
theorem dX10_init_44 : decode cX10_init 44 = .ok (.aload_n 0, 1) := by decide +kernel
theorem dX10_init_45 : decode cX10_init 45 = .ok (.iconst 3, 1) := by decide +kernel
theorem dX10_init_46 : decode cX10_init 46 = .ok (.newarray .int, 2) := by decide +kernel
theorem dX10_init_48 : decode cX10_init 48 = .ok (.putfield 25, 3) := by decide +kernel
theorem dX10_init_51 : decode cX10_init 51 = .ok (.aload_n 0, 1) := by decide +kernel
theorem dX10_init_52 : decode cX10_init 52 = .ok (.sipush 540, 3) := by decide +kernel
theorem dX10_init_55 : decode cX10_init 55 = .ok (.newarray .int, 2) := by decide +kernel
theorem dX10_init_57 : decode cX10_init 57 = .ok (.putfield 28, 3) := by decide +kernel
theorem dX10_init_60 : decode cX10_init 60 = .ok (.aload_n 0, 1) := by decide +kernel
theorem dX10_init_61 : decode cX10_init 61 = .ok (.bipush 12, 2) := by decide +kernel
theorem dX10_init_63 : decode cX10_init 63 = .ok (.newarray .int, 2) := by decide +kernel
theorem dX10_init_65 : decode cX10_init 65 = .ok (.putfield 31, 3) := by decide +kernel
theorem dX10_init_68 : decode cX10_init 68 = .ok (.aload_n 0, 1) := by decide +kernel
theorem dX10_init_69 : decode cX10_init 69 = .ok (.sipush 180, 3) := by decide +kernel
theorem dX10_init_72 : decode cX10_init 72 = .ok (.newarray .int, 2) := by decide +kernel
theorem dX10_init_74 : decode cX10_init 74 = .ok (.putfield 34, 3) := by decide +kernel
theorem dX10_init_77 : decode cX10_init 77 = .ok (.aload_n 0, 1) := by decide +kernel
theorem dX10_init_78 : decode cX10_init 78 = .ok (.iconst 4, 1) := by decide +kernel
theorem dX10_init_79 : decode cX10_init 79 = .ok (.newarray .int, 2) := by decide +kernel
theorem dX10_init_81 : decode cX10_init 81 = .ok (.dup, 1) := by decide +kernel
theorem dX10_init_82 : decode cX10_init 82 = .ok (.iconst 0, 1) := by decide +kernel
theorem dX10_init_83 : decode cX10_init 83 = .ok (.bipush 10, 2) := by decide +kernel
theorem dX10_init_85 : decode cX10_init 85 = .ok (.iastore, 1) := by decide +kernel
theorem dX10_init_86 : decode cX10_init 86 = .ok (.dup, 1) := by decide +kernel
theorem dX10_init_87 : decode cX10_init 87 = .ok (.iconst 1, 1) := by decide +kernel
theorem dX10_init_88 : decode cX10_init 88 = .ok (.iconst 0, 1) := by decide +kernel
theorem dX10_init_89 : decode cX10_init 89 = .ok (.iastore, 1) := by decide +kernel
theorem dX10_init_90 : decode cX10_init 90 = .ok (.dup, 1) := by decide +kernel
theorem dX10_init_91 : decode cX10_init 91 = .ok (.iconst 2, 1) := by decide +kernel
theorem dX10_init_92 : decode cX10_init 92 = .ok (.iconst 0, 1) := by decide +kernel
theorem dX10_init_93 : decode cX10_init 93 = .ok (.iastore, 1) := by decide +kernel
theorem dX10_init_94 : decode cX10_init 94 = .ok (.dup, 1) := by decide +kernel
theorem dX10_init_95 : decode cX10_init 95 = .ok (.iconst 3, 1) := by decide +kernel
theorem dX10_init_96 : decode cX10_init 96 = .ok (.iconst 0, 1) := by decide +kernel
theorem dX10_init_97 : decode cX10_init 97 = .ok (.iastore, 1) := by decide +kernel
theorem dX10_init_98 : decode cX10_init 98 = .ok (.putfield 37, 3) := by decide +kernel
theorem dX10_init_101 : decode cX10_init 101 = .ok (.aload_n 0, 1) := by decide +kernel
theorem dX10_init_102 : decode cX10_init 102 = .ok (.iconst 4, 1) := by decide +kernel
theorem dX10_init_103 : decode cX10_init 103 = .ok (.newarray .int, 2) := by decide +kernel
theorem dX10_init_105 : decode cX10_init 105 = .ok (.putfield 40, 3) := by decide +kernel
theorem dX10_init_108 : decode cX10_init 108 = .ok (.aload_n 0, 1) := by decide +kernel
theorem dX10_init_109 : decode cX10_init 109 = .ok (.bipush 60, 2) := by decide +kernel
theorem dX10_init_111 : decode cX10_init 111 = .ok (.newarray .int, 2) := by decide +kernel
theorem dX10_init_113 : decode cX10_init 113 = .ok (.putfield 43, 3) := by decide +kernel
theorem dX10_init_116 : decode cX10_init 116 = .ok (.aload_n 0, 1) := by decide +kernel
theorem dX10_init_117 : decode cX10_init 117 = .ok (.iconst 3, 1) := by decide +kernel
theorem dX10_init_118 : decode cX10_init 118 = .ok (.newarray .int, 2) := by decide +kernel
theorem dX10_init_120 : decode cX10_init 120 = .ok (.putfield 46, 3) := by decide +kernel
theorem dX10_init_123 : decode cX10_init 123 = .ok (.aload_n 0, 1) := by decide +kernel
theorem dX10_init_124 : decode cX10_init 124 = .ok (.sipush 601, 3) := by decide +kernel
theorem dX10_init_127 : decode cX10_init 127 = .ok (.newarray .int, 2) := by decide +kernel
theorem dX10_init_129 : decode cX10_init 129 = .ok (.putfield 49, 3) := by decide +kernel
theorem dX10_init_132 : decode cX10_init 132 = .ok (.aload_n 0, 1) := by decide +kernel
theorem dX10_init_133 : decode cX10_init 133 = .ok (.sipush 601, 3) := by decide +kernel
theorem dX10_init_136 : decode cX10_init 136 = .ok (.newarray .int, 2) := by decide +kernel
theorem dX10_init_138 : decode cX10_init 138 = .ok (.putfield 52, 3) := by decide +kernel
theorem dX10_init_141 : decode cX10_init 141 = .ok (.aload_n 0, 1) := by decide +kernel
theorem dX10_init_142 : decode cX10_init 142 = .ok (.sipush 601, 3) := by decide +kernel
theorem dX10_init_145 : decode cX10_init 145 = .ok (.newarray .int, 2) := by decide +kernel
theorem dX10_init_147 : decode cX10_init 147 = .ok (.putfield 55, 3) := by decide +kernel
theorem dX10_init_150 : decode cX10_init 150 = .ok (.aload_n 0, 1) := by decide +kernel
theorem dX10_init_151 : decode cX10_init 151 = .ok (.sipush 601, 3) := by decide +kernel
theorem dX10_init_154 : decode cX10_init 154 = .ok (.newarray .int, 2) := by decide +kernel
theorem dX10_init_156 : decode cX10_init 156 = .ok (.putfield 58, 3) := by decide +kernel
theorem dX10_init_159 : decode cX10_init 159 = .ok (.aload_n 0, 1) := by decide +kernel
theorem dX10_init_160 : decode cX10_init 160 = .ok (.sipush 601, 3) := by decide +kernel
theorem dX10_init_163 : decode cX10_init 163 = .ok (.newarray .int, 2) := by decide +kernel
theorem dX10_init_165 : decode cX10_init 165 = .ok (.putfield 61, 3) := by decide +kernel
theorem dX10_init_168 : decode cX10_init 168 = .ok (.aload_n 0, 1) := by decide +kernel
theorem dX10_init_169 : decode cX10_init 169 = .ok (.sipush 601, 3) := by decide +kernel
theorem dX10_init_172 : decode cX10_init 172 = .ok (.newarray .int, 2) := by decide +kernel
theorem dX10_init_174 : decode cX10_init 174 = .ok (.putfield 64, 3) := by decide +kernel
theorem dX10_init_177 : decode cX10_init 177 = .ok (.aload_n 0, 1) := by decide +kernel
theorem dX10_init_178 : decode cX10_init 178 = .ok (.bipush 9, 2) := by decide +kernel
theorem dX10_init_180 : decode cX10_init 180 = .ok (.newarray .long, 2) := by decide +kernel
theorem dX10_init_182 : decode cX10_init 182 = .ok (.putfield 67, 3) := by decide +kernel
theorem dX10_init_185 : decode cX10_init 185 = .ok (.aload_n 0, 1) := by decide +kernel
theorem dX10_init_186 : decode cX10_init 186 = .ok (.bipush 81, 2) := by decide +kernel
theorem dX10_init_188 : decode cX10_init 188 = .ok (.newarray .long, 2) := by decide +kernel
theorem dX10_init_190 : decode cX10_init 190 = .ok (.putfield 71, 3) := by decide +kernel
theorem dX10_init_193 : decode cX10_init 193 = .ok (.return_, 1) := by decide +kernel
theorem dX10_in_0 : decode cX10_in 0 = .ok (.lload_n 0, 1) := by decide +kernel
theorem dX10_in_1 : decode cX10_in 1 = .ok (.lload_n 2, 1) := by decide +kernel
theorem dX10_in_2 : decode cX10_in 2 = .ok (.lcmp, 1) := by decide +kernel
theorem dX10_in_3 : decode cX10_in 3 = .ok (.ifCond .lt 14, 3) := by decide +kernel
theorem dX10_in_6 : decode cX10_in 6 = .ok (.lload_n 0, 1) := by decide +kernel
theorem dX10_in_7 : decode cX10_in 7 = .ok (.lload 4, 2) := by decide +kernel
theorem dX10_in_9 : decode cX10_in 9 = .ok (.lcmp, 1) := by decide +kernel
theorem dX10_in_10 : decode cX10_in 10 = .ok (.ifCond .gt 7, 3) := by decide +kernel
theorem dX10_in_13 : decode cX10_in 13 = .ok (.iconst 1, 1) := by decide +kernel
theorem dX10_in_14 : decode cX10_in 14 = .ok (.goto 4, 3) := by decide +kernel
theorem dX10_in_17 : decode cX10_in 17 = .ok (.iconst 0, 1) := by decide +kernel
theorem dX10_in_18 : decode cX10_in 18 = .ok (.ireturn, 1) := by decide +kernel
theorem dX10_off_0 : decode cX10_off 0 = .ok (.iload_n 0, 1) := by decide +kernel
theorem dX10_off_1 : decode cX10_off 1 = .ok (.ifCond .ge 8, 3) := by decide +kernel
theorem dX10_off_4 : decode cX10_off 4 = .ok (.iload_n 0, 1) := by decide +kernel
theorem dX10_off_5 : decode cX10_off 5 = .ok (.ineg, 1) := by decide +kernel
theorem dX10_off_6 : decode cX10_off 6 = .ok (.goto 4, 3) := by decide +kernel
theorem dX10_off_9 : decode cX10_off 9 = .ok (.iload_n 0, 1) := by decide +kernel
theorem dX10_off_10 : decode cX10_off 10 = .ok (.ireturn, 1) := by decide +kernel
set_option maxRecDepth 20000 in
theorem ggX10_write_X10_in : GoodIn wsX10_write wsX10_in := goodIn_r _ [8] (by decide +kernel) (by decide +kernel)
set_option maxRecDepth 20000 in
theorem gX10_write_X10_in : GoodIn wsX10_write (va_wsS RX10 76 yX10_in wsX10_in) := goodIn_app (goodIn_of _ (by decide +kernel)) ggX10_write_X10_in
theorem dX10_write_0 : decode cX10_write 0 = .ok (.iload_n 1, 1) := by decide +kernel
theorem dX10_write_1 : decode cX10_write 1 = .ok (.i2l, 1) := by decide +kernel
theorem dX10_write_2 : decode cX10_write 2 = .ok (.lconst 1, 1) := by decide +kernel
theorem dX10_write_3 : decode cX10_write 3 = .ok (.ldc2_w 74, 3) := by decide +kernel
theorem dX10_write_6 : decode cX10_write 6 = .ok (.invokestatic 76, 3) := by decide +kernel
theorem dX10_write_9 : decode cX10_write 9 = .ok (.ifCond .ne 5, 3) := by decide +kernel
theorem dX10_write_12 : decode cX10_write 12 = .ok (.iconst (-1), 1) := by decide +kernel
theorem dX10_write_13 : decode cX10_write 13 = .ok (.ireturn, 1) := by decide +kernel
theorem dX10_write_14 : decode cX10_write 14 = .ok (.aload_n 0, 1) := by decide +kernel
theorem dX10_write_15 : decode cX10_write 15 = .ok (.getfield 80, 3) := by decide +kernel
theorem dX10_write_18 : decode cX10_write 18 = .ok (.iload_n 1, 1) := by decide +kernel
theorem dX10_write_19 : decode cX10_write 19 = .ok (.iadd, 1) := by decide +kernel
theorem dX10_write_20 : decode cX10_write 20 = .ok (.sipush 200, 3) := by decide +kernel
theorem dX10_write_23 : decode cX10_write 23 = .ok (.if_icmp .le 6, 3) := by decide +kernel
theorem dX10_write_26 : decode cX10_write 26 = .ok (.bipush (-3), 2) := by decide +kernel
theorem dX10_write_28 : decode cX10_write 28 = .ok (.ireturn, 1) := by decide +kernel
theorem dX10_write_29 : decode cX10_write 29 = .ok (.iload_n 1, 1) := by decide +kernel
theorem dX10_write_30 : decode cX10_write 30 = .ok (.iconst 1, 1) := by decide +kernel
theorem dX10_write_31 : decode cX10_write 31 = .ok (.isub, 1) := by decide +kernel
theorem dX10_write_32 : decode cX10_write 32 = .ok (.istore 4, 2) := by decide +kernel
theorem dX10_write_34 : decode cX10_write 34 = .ok (.iload 4, 2) := by decide +kernel
theorem dX10_write_36 : decode cX10_write 36 = .ok (.ifCond .lt 40, 3) := by decide +kernel
theorem dX10_write_39 : decode cX10_write 39 = .ok (.aload_n 0, 1) := by decide +kernel
theorem dX10_write_40 : decode cX10_write 40 = .ok (.getfield 7, 3) := by decide +kernel
theorem dX10_write_43 : decode cX10_write 43 = .ok (.aload_n 0, 1) := by decide +kernel
theorem dX10_write_44 : decode cX10_write 44 = .ok (.getfield 80, 3) := by decide +kernel
theorem dX10_write_47 : decode cX10_write 47 = .ok (.lload_n 2, 1) := by decide +kernel
theorem dX10_write_48 : decode cX10_write 48 = .ok (.bipush 8, 2) := by decide +kernel
theorem dX10_write_50 : decode cX10_write 50 = .ok (.iload 4, 2) := by decide +kernel
theorem dX10_write_52 : decode cX10_write 52 = .ok (.imul, 1) := by decide +kernel
theorem dX10_write_53 : decode cX10_write 53 = .ok (.lshr, 1) := by decide +kernel
theorem dX10_write_54 : decode cX10_write 54 = .ok (.ldc2_w 84, 3) := by decide +kernel
theorem dX10_write_57 : decode cX10_write 57 = .ok (.land, 1) := by decide +kernel
theorem dX10_write_58 : decode cX10_write 58 = .ok (.l2i, 1) := by decide +kernel
theorem dX10_write_59 : decode cX10_write 59 = .ok (.iastore, 1) := by decide +kernel
theorem dX10_write_60 : decode cX10_write 60 = .ok (.aload_n 0, 1) := by decide +kernel
theorem dX10_write_61 : decode cX10_write 61 = .ok (.dup, 1) := by decide +kernel
theorem dX10_write_62 : decode cX10_write 62 = .ok (.getfield 80, 3) := by decide +kernel
theorem dX10_write_65 : decode cX10_write 65 = .ok (.iconst 1, 1) := by decide +kernel
theorem dX10_write_66 : decode cX10_write 66 = .ok (.iadd, 1) := by decide +kernel
theorem dX10_write_67 : decode cX10_write 67 = .ok (.putfield 80, 3) := by decide +kernel
theorem dX10_write_70 : decode cX10_write 70 = .ok (.iinc 4 (-1), 3) := by decide +kernel
theorem dX10_write_73 : decode cX10_write 73 = .ok (.goto (-39), 3) := by decide +kernel
theorem dX10_write_76 : decode cX10_write 76 = .ok (.aload_n 0, 1) := by decide +kernel
theorem dX10_write_77 : decode cX10_write 77 = .ok (.getfield 80, 3) := by decide +kernel
theorem dX10_write_80 : decode cX10_write 80 = .ok (.ireturn, 1) := by decide +kernel
theorem dX10_wipe_0 : decode cX10_wipe 0 = .ok (.aload_n 0, 1) := by decide +kernel
theorem dX10_wipe_1 : decode cX10_wipe 1 = .ok (.getfield 80, 3) := by decide +kernel
theorem dX10_wipe_4 : decode cX10_wipe 4 = .ok (.istore_n 1, 1) := by decide +kernel
theorem dX10_wipe_5 : decode cX10_wipe 5 = .ok (.aload_n 0, 1) := by decide +kernel
theorem dX10_wipe_6 : decode cX10_wipe 6 = .ok (.iconst 0, 1) := by decide +kernel
theorem dX10_wipe_7 : decode cX10_wipe 7 = .ok (.putfield 80, 3) := by decide +kernel
theorem dX10_wipe_10 : decode cX10_wipe 10 = .ok (.iload_n 1, 1) := by decide +kernel
theorem dX10_wipe_11 : decode cX10_wipe 11 = .ok (.ireturn, 1) := by decide +kernel
theorem dX10_byteAt_0 : decode cX10_byteAt 0 = .ok (.iload_n 1, 1) := by decide +kernel
theorem dX10_byteAt_1 : decode cX10_byteAt 1 = .ok (.aload_n 0, 1) := by decide +kernel
theorem dX10_byteAt_2 : decode cX10_byteAt 2 = .ok (.getfield 80, 3) := by decide +kernel
theorem dX10_byteAt_5 : decode cX10_byteAt 5 = .ok (.if_icmp .ge 12, 3) := by decide +kernel
theorem dX10_byteAt_8 : decode cX10_byteAt 8 = .ok (.aload_n 0, 1) := by decide +kernel
theorem dX10_byteAt_9 : decode cX10_byteAt 9 = .ok (.getfield 7, 3) := by decide +kernel
theorem dX10_byteAt_12 : decode cX10_byteAt 12 = .ok (.iload_n 1, 1) := by decide +kernel
theorem dX10_byteAt_13 : decode cX10_byteAt 13 = .ok (.iaload, 1) := by decide +kernel
theorem dX10_byteAt_14 : decode cX10_byteAt 14 = .ok (.goto 4, 3) := by decide +kernel
theorem dX10_byteAt_17 : decode cX10_byteAt 17 = .ok (.iconst 0, 1) := by decide +kernel
theorem dX10_byteAt_18 : decode cX10_byteAt 18 = .ok (.ireturn, 1) := by decide +kernel
set_option maxRecDepth 20000 in
theorem ggX10_figures_X10_byteAt : GoodIn wsX10_figures wsX10_byteAt := goodIn_r _ [10, 11, 12, 16, 17, 18, 19, 20, 21, 22, 23, 24, 25, 26, 27, 28, 29, 30, 31, 32, 33, 34, 35, 36, 37, 38, 39, 40, 41, 42, 43] (by decide +kernel) (by decide +kernel)
set_option maxRecDepth 20000 in
theorem gX10_figures_X10_byteAt : GoodIn wsX10_figures (wsV RX10 89 RX10 yX10_byteAt wsX10_byteAt) := goodIn_app (goodIn_of _ (by decide +kernel)) ggX10_figures_X10_byteAt
set_option maxRecDepth 20000 in
theorem ggX10_figures_X10_in : GoodIn wsX10_figures wsX10_in := goodIn_r _ [15] (by decide +kernel) (by decide +kernel)
set_option maxRecDepth 20000 in
theorem gX10_figures_X10_in : GoodIn wsX10_figures (va_wsS RX10 76 yX10_in wsX10_in) := goodIn_app (goodIn_of _ (by decide +kernel)) ggX10_figures_X10_in
theorem dX10_figures_0 : decode cX10_figures 0 = .ok (.iconst 0, 1) := by decide +kernel
theorem dX10_figures_1 : decode cX10_figures 1 = .ok (.istore_n 2, 1) := by decide +kernel
theorem dX10_figures_2 : decode cX10_figures 2 = .ok (.iload_n 2, 1) := by decide +kernel
theorem dX10_figures_3 : decode cX10_figures 3 = .ok (.iload_n 1, 1) := by decide +kernel
theorem dX10_figures_4 : decode cX10_figures 4 = .ok (.if_icmp .ge 191, 3) := by decide +kernel
theorem dX10_figures_7 : decode cX10_figures 7 = .ok (.aload_n 0, 1) := by decide +kernel
theorem dX10_figures_8 : decode cX10_figures 8 = .ok (.aload_n 0, 1) := by decide +kernel
theorem dX10_figures_9 : decode cX10_figures 9 = .ok (.getfield 86, 3) := by decide +kernel
theorem dX10_figures_12 : decode cX10_figures 12 = .ok (.invokevirtual 89, 3) := by decide +kernel
theorem dX10_figures_15 : decode cX10_figures 15 = .ok (.bipush 45, 2) := by decide +kernel
theorem dX10_figures_17 : decode cX10_figures 17 = .ok (.if_icmp .ne 7, 3) := by decide +kernel
theorem dX10_figures_20 : decode cX10_figures 20 = .ok (.iconst 1, 1) := by decide +kernel
theorem dX10_figures_21 : decode cX10_figures 21 = .ok (.goto 4, 3) := by decide +kernel
theorem dX10_figures_24 : decode cX10_figures 24 = .ok (.iconst 0, 1) := by decide +kernel
theorem dX10_figures_25 : decode cX10_figures 25 = .ok (.istore_n 3, 1) := by decide +kernel
theorem dX10_figures_26 : decode cX10_figures 26 = .ok (.aload_n 0, 1) := by decide +kernel
theorem dX10_figures_27 : decode cX10_figures 27 = .ok (.dup, 1) := by decide +kernel
theorem dX10_figures_28 : decode cX10_figures 28 = .ok (.getfield 86, 3) := by decide +kernel
theorem dX10_figures_31 : decode cX10_figures 31 = .ok (.iload_n 3, 1) := by decide +kernel
theorem dX10_figures_32 : decode cX10_figures 32 = .ok (.ifCond .eq 7, 3) := by decide +kernel
theorem dX10_figures_35 : decode cX10_figures 35 = .ok (.iconst 1, 1) := by decide +kernel
theorem dX10_figures_36 : decode cX10_figures 36 = .ok (.goto 4, 3) := by decide +kernel
theorem dX10_figures_39 : decode cX10_figures 39 = .ok (.iconst 0, 1) := by decide +kernel
theorem dX10_figures_40 : decode cX10_figures 40 = .ok (.iadd, 1) := by decide +kernel
theorem dX10_figures_41 : decode cX10_figures 41 = .ok (.putfield 86, 3) := by decide +kernel
theorem dX10_figures_44 : decode cX10_figures 44 = .ok (.iconst 0, 1) := by decide +kernel
theorem dX10_figures_45 : decode cX10_figures 45 = .ok (.istore 4, 2) := by decide +kernel
theorem dX10_figures_47 : decode cX10_figures 47 = .ok (.iconst 0, 1) := by decide +kernel
theorem dX10_figures_48 : decode cX10_figures 48 = .ok (.istore 5, 2) := by decide +kernel
theorem dX10_figures_50 : decode cX10_figures 50 = .ok (.aload_n 0, 1) := by decide +kernel
theorem dX10_figures_51 : decode cX10_figures 51 = .ok (.aload_n 0, 1) := by decide +kernel
theorem dX10_figures_52 : decode cX10_figures 52 = .ok (.getfield 86, 3) := by decide +kernel
theorem dX10_figures_55 : decode cX10_figures 55 = .ok (.invokevirtual 89, 3) := by decide +kernel
theorem dX10_figures_58 : decode cX10_figures 58 = .ok (.i2l, 1) := by decide +kernel
theorem dX10_figures_59 : decode cX10_figures 59 = .ok (.ldc2_w 93, 3) := by decide +kernel
theorem dX10_figures_62 : decode cX10_figures 62 = .ok (.ldc2_w 95, 3) := by decide +kernel
theorem dX10_figures_65 : decode cX10_figures 65 = .ok (.invokestatic 76, 3) := by decide +kernel
theorem dX10_figures_68 : decode cX10_figures 68 = .ok (.ifCond .eq 44, 3) := by decide +kernel
theorem dX10_figures_71 : decode cX10_figures 71 = .ok (.iload 4, 2) := by decide +kernel
theorem dX10_figures_73 : decode cX10_figures 73 = .ok (.iconst 5, 1) := by decide +kernel
theorem dX10_figures_74 : decode cX10_figures 74 = .ok (.if_icmp .ge 38, 3) := by decide +kernel
theorem dX10_figures_77 : decode cX10_figures 77 = .ok (.bipush 10, 2) := by decide +kernel
theorem dX10_figures_79 : decode cX10_figures 79 = .ok (.iload 5, 2) := by decide +kernel
theorem dX10_figures_81 : decode cX10_figures 81 = .ok (.imul, 1) := by decide +kernel
theorem dX10_figures_82 : decode cX10_figures 82 = .ok (.aload_n 0, 1) := by decide +kernel
theorem dX10_figures_83 : decode cX10_figures 83 = .ok (.aload_n 0, 1) := by decide +kernel
theorem dX10_figures_84 : decode cX10_figures 84 = .ok (.getfield 86, 3) := by decide +kernel
theorem dX10_figures_87 : decode cX10_figures 87 = .ok (.invokevirtual 89, 3) := by decide +kernel
theorem dX10_figures_90 : decode cX10_figures 90 = .ok (.iadd, 1) := by decide +kernel
theorem dX10_figures_91 : decode cX10_figures 91 = .ok (.bipush 48, 2) := by decide +kernel
theorem dX10_figures_93 : decode cX10_figures 93 = .ok (.isub, 1) := by decide +kernel
theorem dX10_figures_94 : decode cX10_figures 94 = .ok (.istore 5, 2) := by decide +kernel
theorem dX10_figures_96 : decode cX10_figures 96 = .ok (.iinc 4 1, 3) := by decide +kernel
theorem dX10_figures_99 : decode cX10_figures 99 = .ok (.aload_n 0, 1) := by decide +kernel
theorem dX10_figures_100 : decode cX10_figures 100 = .ok (.dup, 1) := by decide +kernel
theorem dX10_figures_101 : decode cX10_figures 101 = .ok (.getfield 86, 3) := by decide +kernel
theorem dX10_figures_104 : decode cX10_figures 104 = .ok (.iconst 1, 1) := by decide +kernel
theorem dX10_figures_105 : decode cX10_figures 105 = .ok (.iadd, 1) := by decide +kernel
theorem dX10_figures_106 : decode cX10_figures 106 = .ok (.putfield 86, 3) := by decide +kernel
theorem dX10_figures_109 : decode cX10_figures 109 = .ok (.goto (-59), 3) := by decide +kernel
theorem dX10_figures_112 : decode cX10_figures 112 = .ok (.iload 4, 2) := by decide +kernel
theorem dX10_figures_114 : decode cX10_figures 114 = .ok (.i2l, 1) := by decide +kernel
theorem dX10_figures_115 : decode cX10_figures 115 = .ok (.lconst 1, 1) := by decide +kernel
theorem dX10_figures_116 : decode cX10_figures 116 = .ok (.ldc2_w 97, 3) := by decide +kernel
theorem dX10_figures_119 : decode cX10_figures 119 = .ok (.invokestatic 76, 3) := by decide +kernel
theorem dX10_figures_122 : decode cX10_figures 122 = .ok (.ifCond .eq 37, 3) := by decide +kernel
theorem dX10_figures_125 : decode cX10_figures 125 = .ok (.iload_n 3, 1) := by decide +kernel
theorem dX10_figures_126 : decode cX10_figures 126 = .ok (.ifCond .eq 8, 3) := by decide +kernel
theorem dX10_figures_129 : decode cX10_figures 129 = .ok (.iload 5, 2) := by decide +kernel
theorem dX10_figures_131 : decode cX10_figures 131 = .ok (.ifCond .eq 28, 3) := by decide +kernel
theorem dX10_figures_134 : decode cX10_figures 134 = .ok (.aload_n 0, 1) := by decide +kernel
theorem dX10_figures_135 : decode cX10_figures 135 = .ok (.aload_n 0, 1) := by decide +kernel
theorem dX10_figures_136 : decode cX10_figures 136 = .ok (.getfield 86, 3) := by decide +kernel
theorem dX10_figures_139 : decode cX10_figures 139 = .ok (.invokevirtual 89, 3) := by decide +kernel
theorem dX10_figures_142 : decode cX10_figures 142 = .ok (.iload_n 2, 1) := by decide +kernel
theorem dX10_figures_143 : decode cX10_figures 143 = .ok (.iload_n 1, 1) := by decide +kernel
theorem dX10_figures_144 : decode cX10_figures 144 = .ok (.iconst 1, 1) := by decide +kernel
theorem dX10_figures_145 : decode cX10_figures 145 = .ok (.isub, 1) := by decide +kernel
theorem dX10_figures_146 : decode cX10_figures 146 = .ok (.if_icmp .ge 8, 3) := by decide +kernel
theorem dX10_figures_149 : decode cX10_figures 149 = .ok (.bipush 44, 2) := by decide +kernel
theorem dX10_figures_151 : decode cX10_figures 151 = .ok (.goto 5, 3) := by decide +kernel
theorem dX10_figures_154 : decode cX10_figures 154 = .ok (.bipush 59, 2) := by decide +kernel
theorem dX10_figures_156 : decode cX10_figures 156 = .ok (.if_icmp .eq 5, 3) := by decide +kernel
theorem dX10_figures_159 : decode cX10_figures 159 = .ok (.iconst 0, 1) := by decide +kernel
theorem dX10_figures_160 : decode cX10_figures 160 = .ok (.ireturn, 1) := by decide +kernel
theorem dX10_figures_161 : decode cX10_figures 161 = .ok (.aload_n 0, 1) := by decide +kernel
theorem dX10_figures_162 : decode cX10_figures 162 = .ok (.getfield 46, 3) := by decide +kernel
theorem dX10_figures_165 : decode cX10_figures 165 = .ok (.iload_n 2, 1) := by decide +kernel
theorem dX10_figures_166 : decode cX10_figures 166 = .ok (.iload_n 3, 1) := by decide +kernel
theorem dX10_figures_167 : decode cX10_figures 167 = .ok (.ifCond .eq 9, 3) := by decide +kernel
theorem dX10_figures_170 : decode cX10_figures 170 = .ok (.iload 5, 2) := by decide +kernel
theorem dX10_figures_172 : decode cX10_figures 172 = .ok (.ineg, 1) := by decide +kernel
theorem dX10_figures_173 : decode cX10_figures 173 = .ok (.goto 5, 3) := by decide +kernel
theorem dX10_figures_176 : decode cX10_figures 176 = .ok (.iload 5, 2) := by decide +kernel
theorem dX10_figures_178 : decode cX10_figures 178 = .ok (.iastore, 1) := by decide +kernel
theorem dX10_figures_179 : decode cX10_figures 179 = .ok (.aload_n 0, 1) := by decide +kernel
theorem dX10_figures_180 : decode cX10_figures 180 = .ok (.dup, 1) := by decide +kernel
theorem dX10_figures_181 : decode cX10_figures 181 = .ok (.getfield 86, 3) := by decide +kernel
theorem dX10_figures_184 : decode cX10_figures 184 = .ok (.iconst 1, 1) := by decide +kernel
theorem dX10_figures_185 : decode cX10_figures 185 = .ok (.iadd, 1) := by decide +kernel
theorem dX10_figures_186 : decode cX10_figures 186 = .ok (.putfield 86, 3) := by decide +kernel
theorem dX10_figures_189 : decode cX10_figures 189 = .ok (.iinc 2 1, 3) := by decide +kernel
theorem dX10_figures_192 : decode cX10_figures 192 = .ok (.goto (-190), 3) := by decide +kernel
theorem dX10_figures_195 : decode cX10_figures 195 = .ok (.iconst 1, 1) := by decide +kernel
theorem dX10_figures_196 : decode cX10_figures 196 = .ok (.ireturn, 1) := by decide +kernel
set_option maxRecDepth 20000 in
theorem ggX10_item_X10_byteAt : GoodIn wsX10_item wsX10_byteAt := goodIn_r _ [11, 12, 13, 24, 25, 26, 27, 28, 29, 30, 31, 32, 33, 34, 35, 36, 37, 38, 39, 40, 41, 42, 43, 44, 45, 46, 47, 48, 49, 50, 51] (by decide +kernel) (by decide +kernel)
set_option maxRecDepth 20000 in
theorem gX10_item_X10_byteAt : GoodIn wsX10_item (wsV RX10 89 RX10 yX10_byteAt wsX10_byteAt) := goodIn_app (goodIn_of _ (by decide +kernel)) ggX10_item_X10_byteAt
set_option maxRecDepth 20000 in
theorem ggX10_item_X10_figures : GoodIn wsX10_item wsX10_figures := goodIn_r _ [17, 1, 18, 19, 20, 2, 7, 8, 9, 10, 11, 12, 13, 21, 22, 23, 24, 25, 26, 27, 28, 29, 30, 31, 32, 33, 34, 35, 36, 37, 38, 39, 40, 41, 42, 43, 44, 45, 46, 47, 48, 49, 50, 51] (by decide +kernel) (by decide +kernel)
set_option maxRecDepth 20000 in
theorem gX10_item_X10_figures : GoodIn wsX10_item (wsV RX10 99 RX10 yX10_figures wsX10_figures) := goodIn_app (goodIn_of _ (by decide +kernel)) ggX10_item_X10_figures
set_option maxRecDepth 20000 in
theorem ggX10_item_X10_in : GoodIn wsX10_item wsX10_in := goodIn_r _ [23] (by decide +kernel) (by decide +kernel)
set_option maxRecDepth 20000 in
theorem gX10_item_X10_in : GoodIn wsX10_item (va_wsS RX10 76 yX10_in wsX10_in) := goodIn_app (goodIn_of _ (by decide +kernel)) ggX10_item_X10_in
theorem dX10_item_0 : decode cX10_item 0 = .ok (.aload_n 0, 1) := by decide +kernel
theorem dX10_item_1 : decode cX10_item 1 = .ok (.aload_n 0, 1) := by decide +kernel
theorem dX10_item_2 : decode cX10_item 2 = .ok (.getfield 86, 3) := by decide +kernel
theorem dX10_item_5 : decode cX10_item 5 = .ok (.invokevirtual 89, 3) := by decide +kernel
theorem dX10_item_8 : decode cX10_item 8 = .ok (.istore_n 1, 1) := by decide +kernel
theorem dX10_item_9 : decode cX10_item 9 = .ok (.aload_n 0, 1) := by decide +kernel
theorem dX10_item_10 : decode cX10_item 10 = .ok (.dup, 1) := by decide +kernel
theorem dX10_item_11 : decode cX10_item 11 = .ok (.getfield 86, 3) := by decide +kernel
theorem dX10_item_14 : decode cX10_item 14 = .ok (.iconst 1, 1) := by decide +kernel
theorem dX10_item_15 : decode cX10_item 15 = .ok (.iadd, 1) := by decide +kernel
theorem dX10_item_16 : decode cX10_item 16 = .ok (.putfield 86, 3) := by decide +kernel
theorem dX10_item_19 : decode cX10_item 19 = .ok (.aload_n 0, 1) := by decide +kernel
theorem dX10_item_20 : decode cX10_item 20 = .ok (.getfield 46, 3) := by decide +kernel
theorem dX10_item_23 : decode cX10_item 23 = .ok (.iconst 1, 1) := by decide +kernel
theorem dX10_item_24 : decode cX10_item 24 = .ok (.iconst 0, 1) := by decide +kernel
theorem dX10_item_25 : decode cX10_item 25 = .ok (.iastore, 1) := by decide +kernel
theorem dX10_item_26 : decode cX10_item 26 = .ok (.aload_n 0, 1) := by decide +kernel
theorem dX10_item_27 : decode cX10_item 27 = .ok (.getfield 46, 3) := by decide +kernel
theorem dX10_item_30 : decode cX10_item 30 = .ok (.iconst 2, 1) := by decide +kernel
theorem dX10_item_31 : decode cX10_item 31 = .ok (.iconst 0, 1) := by decide +kernel
theorem dX10_item_32 : decode cX10_item 32 = .ok (.iastore, 1) := by decide +kernel
theorem dX10_item_33 : decode cX10_item 33 = .ok (.iload_n 1, 1) := by decide +kernel
theorem dX10_item_34 : decode cX10_item 34 = .ok (.tableswitch 258 97 116 #[94, 156, 258, 258, 258, 258, 125, 258, 258, 258, 226, 220, 258, 258, 258, 258, 125, 156, 258, 187], 94) := by decide +kernel
theorem dX10_item_128 : decode cX10_item 128 = .ok (.aload_n 0, 1) := by decide +kernel
theorem dX10_item_129 : decode cX10_item 129 = .ok (.iconst 1, 1) := by decide +kernel
theorem dX10_item_130 : decode cX10_item 130 = .ok (.invokevirtual 99, 3) := by decide +kernel
theorem dX10_item_133 : decode cX10_item 133 = .ok (.ifCond .eq 24, 3) := by decide +kernel
theorem dX10_item_136 : decode cX10_item 136 = .ok (.aload_n 0, 1) := by decide +kernel
theorem dX10_item_137 : decode cX10_item 137 = .ok (.getfield 46, 3) := by decide +kernel
theorem dX10_item_140 : decode cX10_item 140 = .ok (.iconst 0, 1) := by decide +kernel
theorem dX10_item_141 : decode cX10_item 141 = .ok (.iaload, 1) := by decide +kernel
theorem dX10_item_142 : decode cX10_item 142 = .ok (.i2l, 1) := by decide +kernel
theorem dX10_item_143 : decode cX10_item 143 = .ok (.lconst 0, 1) := by decide +kernel
theorem dX10_item_144 : decode cX10_item 144 = .ok (.ldc2_w 103, 3) := by decide +kernel
theorem dX10_item_147 : decode cX10_item 147 = .ok (.invokestatic 76, 3) := by decide +kernel
theorem dX10_item_150 : decode cX10_item 150 = .ok (.ifCond .eq 7, 3) := by decide +kernel
theorem dX10_item_153 : decode cX10_item 153 = .ok (.iconst 1, 1) := by decide +kernel
theorem dX10_item_154 : decode cX10_item 154 = .ok (.goto 4, 3) := by decide +kernel
theorem dX10_item_157 : decode cX10_item 157 = .ok (.iconst 0, 1) := by decide +kernel
theorem dX10_item_158 : decode cX10_item 158 = .ok (.ireturn, 1) := by decide +kernel
theorem dX10_item_159 : decode cX10_item 159 = .ok (.aload_n 0, 1) := by decide +kernel
theorem dX10_item_160 : decode cX10_item 160 = .ok (.iconst 1, 1) := by decide +kernel
theorem dX10_item_161 : decode cX10_item 161 = .ok (.invokevirtual 99, 3) := by decide +kernel
theorem dX10_item_164 : decode cX10_item 164 = .ok (.ifCond .eq 24, 3) := by decide +kernel
theorem dX10_item_167 : decode cX10_item 167 = .ok (.aload_n 0, 1) := by decide +kernel
theorem dX10_item_168 : decode cX10_item 168 = .ok (.getfield 46, 3) := by decide +kernel
theorem dX10_item_171 : decode cX10_item 171 = .ok (.iconst 0, 1) := by decide +kernel
theorem dX10_item_172 : decode cX10_item 172 = .ok (.iaload, 1) := by decide +kernel
theorem dX10_item_173 : decode cX10_item 173 = .ok (.i2l, 1) := by decide +kernel
theorem dX10_item_174 : decode cX10_item 174 = .ok (.lconst 0, 1) := by decide +kernel
theorem dX10_item_175 : decode cX10_item 175 = .ok (.ldc2_w 105, 3) := by decide +kernel
theorem dX10_item_178 : decode cX10_item 178 = .ok (.invokestatic 76, 3) := by decide +kernel
theorem dX10_item_181 : decode cX10_item 181 = .ok (.ifCond .eq 7, 3) := by decide +kernel
theorem dX10_item_184 : decode cX10_item 184 = .ok (.iconst 1, 1) := by decide +kernel
theorem dX10_item_185 : decode cX10_item 185 = .ok (.goto 4, 3) := by decide +kernel
theorem dX10_item_188 : decode cX10_item 188 = .ok (.iconst 0, 1) := by decide +kernel
theorem dX10_item_189 : decode cX10_item 189 = .ok (.ireturn, 1) := by decide +kernel
theorem dX10_item_190 : decode cX10_item 190 = .ok (.aload_n 0, 1) := by decide +kernel
theorem dX10_item_191 : decode cX10_item 191 = .ok (.iconst 1, 1) := by decide +kernel
theorem dX10_item_192 : decode cX10_item 192 = .ok (.invokevirtual 99, 3) := by decide +kernel
theorem dX10_item_195 : decode cX10_item 195 = .ok (.ifCond .eq 24, 3) := by decide +kernel
theorem dX10_item_198 : decode cX10_item 198 = .ok (.aload_n 0, 1) := by decide +kernel
theorem dX10_item_199 : decode cX10_item 199 = .ok (.getfield 46, 3) := by decide +kernel
theorem dX10_item_202 : decode cX10_item 202 = .ok (.iconst 0, 1) := by decide +kernel
theorem dX10_item_203 : decode cX10_item 203 = .ok (.iaload, 1) := by decide +kernel
theorem dX10_item_204 : decode cX10_item 204 = .ok (.i2l, 1) := by decide +kernel
theorem dX10_item_205 : decode cX10_item 205 = .ok (.lconst 0, 1) := by decide +kernel
theorem dX10_item_206 : decode cX10_item 206 = .ok (.ldc2_w 107, 3) := by decide +kernel
theorem dX10_item_209 : decode cX10_item 209 = .ok (.invokestatic 76, 3) := by decide +kernel
theorem dX10_item_212 : decode cX10_item 212 = .ok (.ifCond .eq 7, 3) := by decide +kernel
theorem dX10_item_215 : decode cX10_item 215 = .ok (.iconst 1, 1) := by decide +kernel
theorem dX10_item_216 : decode cX10_item 216 = .ok (.goto 4, 3) := by decide +kernel
theorem dX10_item_219 : decode cX10_item 219 = .ok (.iconst 0, 1) := by decide +kernel
theorem dX10_item_220 : decode cX10_item 220 = .ok (.ireturn, 1) := by decide +kernel
theorem dX10_item_221 : decode cX10_item 221 = .ok (.aload_n 0, 1) := by decide +kernel
theorem dX10_item_222 : decode cX10_item 222 = .ok (.iconst 1, 1) := by decide +kernel
theorem dX10_item_223 : decode cX10_item 223 = .ok (.invokevirtual 99, 3) := by decide +kernel
theorem dX10_item_226 : decode cX10_item 226 = .ok (.ifCond .eq 26, 3) := by decide +kernel
theorem dX10_item_229 : decode cX10_item 229 = .ok (.aload_n 0, 1) := by decide +kernel
theorem dX10_item_230 : decode cX10_item 230 = .ok (.getfield 46, 3) := by decide +kernel
theorem dX10_item_233 : decode cX10_item 233 = .ok (.iconst 0, 1) := by decide +kernel
theorem dX10_item_234 : decode cX10_item 234 = .ok (.iaload, 1) := by decide +kernel
theorem dX10_item_235 : decode cX10_item 235 = .ok (.i2l, 1) := by decide +kernel
theorem dX10_item_236 : decode cX10_item 236 = .ok (.ldc2_w 109, 3) := by decide +kernel
theorem dX10_item_239 : decode cX10_item 239 = .ok (.ldc2_w 105, 3) := by decide +kernel
theorem dX10_item_242 : decode cX10_item 242 = .ok (.invokestatic 76, 3) := by decide +kernel
theorem dX10_item_245 : decode cX10_item 245 = .ok (.ifCond .eq 7, 3) := by decide +kernel
theorem dX10_item_248 : decode cX10_item 248 = .ok (.iconst 1, 1) := by decide +kernel
theorem dX10_item_249 : decode cX10_item 249 = .ok (.goto 4, 3) := by decide +kernel
theorem dX10_item_252 : decode cX10_item 252 = .ok (.iconst 0, 1) := by decide +kernel
theorem dX10_item_253 : decode cX10_item 253 = .ok (.ireturn, 1) := by decide +kernel
theorem dX10_item_254 : decode cX10_item 254 = .ok (.aload_n 0, 1) := by decide +kernel
theorem dX10_item_255 : decode cX10_item 255 = .ok (.iconst 2, 1) := by decide +kernel
theorem dX10_item_256 : decode cX10_item 256 = .ok (.invokevirtual 99, 3) := by decide +kernel
theorem dX10_item_259 : decode cX10_item 259 = .ok (.ireturn, 1) := by decide +kernel
theorem dX10_item_260 : decode cX10_item 260 = .ok (.aload_n 0, 1) := by decide +kernel
theorem dX10_item_261 : decode cX10_item 261 = .ok (.iconst 3, 1) := by decide +kernel
theorem dX10_item_262 : decode cX10_item 262 = .ok (.invokevirtual 99, 3) := by decide +kernel
theorem dX10_item_265 : decode cX10_item 265 = .ok (.ifCond .eq 25, 3) := by decide +kernel
theorem dX10_item_268 : decode cX10_item 268 = .ok (.aload_n 0, 1) := by decide +kernel
theorem dX10_item_269 : decode cX10_item 269 = .ok (.getfield 46, 3) := by decide +kernel
theorem dX10_item_272 : decode cX10_item 272 = .ok (.iconst 1, 1) := by decide +kernel
theorem dX10_item_273 : decode cX10_item 273 = .ok (.iaload, 1) := by decide +kernel
theorem dX10_item_274 : decode cX10_item 274 = .ok (.ifCond .lt 16, 3) := by decide +kernel
theorem dX10_item_277 : decode cX10_item 277 = .ok (.aload_n 0, 1) := by decide +kernel
theorem dX10_item_278 : decode cX10_item 278 = .ok (.getfield 46, 3) := by decide +kernel
theorem dX10_item_281 : decode cX10_item 281 = .ok (.iconst 2, 1) := by decide +kernel
theorem dX10_item_282 : decode cX10_item 282 = .ok (.iaload, 1) := by decide +kernel
theorem dX10_item_283 : decode cX10_item 283 = .ok (.ifCond .lt 7, 3) := by decide +kernel
theorem dX10_item_286 : decode cX10_item 286 = .ok (.iconst 1, 1) := by decide +kernel
theorem dX10_item_287 : decode cX10_item 287 = .ok (.goto 4, 3) := by decide +kernel
theorem dX10_item_290 : decode cX10_item 290 = .ok (.iconst 0, 1) := by decide +kernel
theorem dX10_item_291 : decode cX10_item 291 = .ok (.ireturn, 1) := by decide +kernel
theorem dX10_item_292 : decode cX10_item 292 = .ok (.iconst 0, 1) := by decide +kernel
theorem dX10_item_293 : decode cX10_item 293 = .ok (.ireturn, 1) := by decide +kernel
set_option maxRecDepth 20000 in
theorem ggX10_readAll_X10_item : GoodIn wsX10_readAll wsX10_item := goodIn_r _ [11, 2, 6, 12, 13, 14, 15, 16, 17, 18, 10, 19, 3, 5, 20, 21, 22, 23, 24, 25, 26, 27, 28, 29, 30, 31, 32, 33, 34, 35, 36, 37, 38, 39, 40, 41, 42, 43, 44, 45, 46, 47, 48, 49, 50, 51, 52, 53, 54, 55, 56, 57] (by decide +kernel) (by decide +kernel)
set_option maxRecDepth 20000 in
theorem gX10_readAll_X10_item : GoodIn wsX10_readAll (wsV RX10 111 RX10 yX10_item wsX10_item) := goodIn_app (goodIn_of _ (by decide +kernel)) ggX10_readAll_X10_item
theorem dX10_readAll_0 : decode cX10_readAll 0 = .ok (.aload_n 0, 1) := by decide +kernel
theorem dX10_readAll_1 : decode cX10_readAll 1 = .ok (.getfield 13, 3) := by decide +kernel
theorem dX10_readAll_4 : decode cX10_readAll 4 = .ok (.iconst 1, 1) := by decide +kernel
theorem dX10_readAll_5 : decode cX10_readAll 5 = .ok (.iconst 0, 1) := by decide +kernel
theorem dX10_readAll_6 : decode cX10_readAll 6 = .ok (.iastore, 1) := by decide +kernel
theorem dX10_readAll_7 : decode cX10_readAll 7 = .ok (.aload_n 0, 1) := by decide +kernel
theorem dX10_readAll_8 : decode cX10_readAll 8 = .ok (.iconst 0, 1) := by decide +kernel
theorem dX10_readAll_9 : decode cX10_readAll 9 = .ok (.putfield 86, 3) := by decide +kernel
theorem dX10_readAll_12 : decode cX10_readAll 12 = .ok (.aload_n 0, 1) := by decide +kernel
theorem dX10_readAll_13 : decode cX10_readAll 13 = .ok (.getfield 86, 3) := by decide +kernel
theorem dX10_readAll_16 : decode cX10_readAll 16 = .ok (.aload_n 0, 1) := by decide +kernel
theorem dX10_readAll_17 : decode cX10_readAll 17 = .ok (.getfield 80, 3) := by decide +kernel
theorem dX10_readAll_20 : decode cX10_readAll 20 = .ok (.if_icmp .ge 84, 3) := by decide +kernel
theorem dX10_readAll_23 : decode cX10_readAll 23 = .ok (.aload_n 0, 1) := by decide +kernel
theorem dX10_readAll_24 : decode cX10_readAll 24 = .ok (.getfield 86, 3) := by decide +kernel
theorem dX10_readAll_27 : decode cX10_readAll 27 = .ok (.istore_n 1, 1) := by decide +kernel
theorem dX10_readAll_28 : decode cX10_readAll 28 = .ok (.aload_n 0, 1) := by decide +kernel
theorem dX10_readAll_29 : decode cX10_readAll 29 = .ok (.invokevirtual 111, 3) := by decide +kernel
theorem dX10_readAll_32 : decode cX10_readAll 32 = .ok (.ifCond .ne 5, 3) := by decide +kernel
theorem dX10_readAll_35 : decode cX10_readAll 35 = .ok (.iload_n 1, 1) := by decide +kernel
theorem dX10_readAll_36 : decode cX10_readAll 36 = .ok (.ireturn, 1) := by decide +kernel
theorem dX10_readAll_37 : decode cX10_readAll 37 = .ok (.sipush 268, 3) := by decide +kernel
theorem dX10_readAll_40 : decode cX10_readAll 40 = .ok (.iconst 4, 1) := by decide +kernel
theorem dX10_readAll_41 : decode cX10_readAll 41 = .ok (.aload_n 0, 1) := by decide +kernel
theorem dX10_readAll_42 : decode cX10_readAll 42 = .ok (.getfield 13, 3) := by decide +kernel
theorem dX10_readAll_45 : decode cX10_readAll 45 = .ok (.iconst 1, 1) := by decide +kernel
theorem dX10_readAll_46 : decode cX10_readAll 46 = .ok (.iaload, 1) := by decide +kernel
theorem dX10_readAll_47 : decode cX10_readAll 47 = .ok (.imul, 1) := by decide +kernel
theorem dX10_readAll_48 : decode cX10_readAll 48 = .ok (.iadd, 1) := by decide +kernel
theorem dX10_readAll_49 : decode cX10_readAll 49 = .ok (.istore_n 2, 1) := by decide +kernel
theorem dX10_readAll_50 : decode cX10_readAll 50 = .ok (.aload_n 0, 1) := by decide +kernel
theorem dX10_readAll_51 : decode cX10_readAll 51 = .ok (.getfield 16, 3) := by decide +kernel
theorem dX10_readAll_54 : decode cX10_readAll 54 = .ok (.iload_n 2, 1) := by decide +kernel
theorem dX10_readAll_55 : decode cX10_readAll 55 = .ok (.aload_n 0, 1) := by decide +kernel
theorem dX10_readAll_56 : decode cX10_readAll 56 = .ok (.getfield 7, 3) := by decide +kernel
theorem dX10_readAll_59 : decode cX10_readAll 59 = .ok (.iload_n 1, 1) := by decide +kernel
theorem dX10_readAll_60 : decode cX10_readAll 60 = .ok (.iaload, 1) := by decide +kernel
theorem dX10_readAll_61 : decode cX10_readAll 61 = .ok (.iastore, 1) := by decide +kernel
theorem dX10_readAll_62 : decode cX10_readAll 62 = .ok (.iconst 0, 1) := by decide +kernel
theorem dX10_readAll_63 : decode cX10_readAll 63 = .ok (.istore_n 3, 1) := by decide +kernel
theorem dX10_readAll_64 : decode cX10_readAll 64 = .ok (.iload_n 3, 1) := by decide +kernel
theorem dX10_readAll_65 : decode cX10_readAll 65 = .ok (.iconst 3, 1) := by decide +kernel
theorem dX10_readAll_66 : decode cX10_readAll 66 = .ok (.if_icmp .ge 25, 3) := by decide +kernel
theorem dX10_readAll_69 : decode cX10_readAll 69 = .ok (.aload_n 0, 1) := by decide +kernel
theorem dX10_readAll_70 : decode cX10_readAll 70 = .ok (.getfield 16, 3) := by decide +kernel
theorem dX10_readAll_73 : decode cX10_readAll 73 = .ok (.iload_n 2, 1) := by decide +kernel
theorem dX10_readAll_74 : decode cX10_readAll 74 = .ok (.iconst 1, 1) := by decide +kernel
theorem dX10_readAll_75 : decode cX10_readAll 75 = .ok (.iadd, 1) := by decide +kernel
theorem dX10_readAll_76 : decode cX10_readAll 76 = .ok (.iload_n 3, 1) := by decide +kernel
theorem dX10_readAll_77 : decode cX10_readAll 77 = .ok (.iadd, 1) := by decide +kernel
theorem dX10_readAll_78 : decode cX10_readAll 78 = .ok (.aload_n 0, 1) := by decide +kernel
theorem dX10_readAll_79 : decode cX10_readAll 79 = .ok (.getfield 46, 3) := by decide +kernel
theorem dX10_readAll_82 : decode cX10_readAll 82 = .ok (.iload_n 3, 1) := by decide +kernel
theorem dX10_readAll_83 : decode cX10_readAll 83 = .ok (.iaload, 1) := by decide +kernel
theorem dX10_readAll_84 : decode cX10_readAll 84 = .ok (.iastore, 1) := by decide +kernel
theorem dX10_readAll_85 : decode cX10_readAll 85 = .ok (.iinc 3 1, 3) := by decide +kernel
theorem dX10_readAll_88 : decode cX10_readAll 88 = .ok (.goto (-24), 3) := by decide +kernel
theorem dX10_readAll_91 : decode cX10_readAll 91 = .ok (.aload_n 0, 1) := by decide +kernel
theorem dX10_readAll_92 : decode cX10_readAll 92 = .ok (.getfield 13, 3) := by decide +kernel
theorem dX10_readAll_95 : decode cX10_readAll 95 = .ok (.iconst 1, 1) := by decide +kernel
theorem dX10_readAll_96 : decode cX10_readAll 96 = .ok (.dup2, 1) := by decide +kernel
theorem dX10_readAll_97 : decode cX10_readAll 97 = .ok (.iaload, 1) := by decide +kernel
theorem dX10_readAll_98 : decode cX10_readAll 98 = .ok (.iconst 1, 1) := by decide +kernel
theorem dX10_readAll_99 : decode cX10_readAll 99 = .ok (.iadd, 1) := by decide +kernel
theorem dX10_readAll_100 : decode cX10_readAll 100 = .ok (.iastore, 1) := by decide +kernel
theorem dX10_readAll_101 : decode cX10_readAll 101 = .ok (.goto (-89), 3) := by decide +kernel
theorem dX10_readAll_104 : decode cX10_readAll 104 = .ok (.bipush (-4), 2) := by decide +kernel
theorem dX10_readAll_106 : decode cX10_readAll 106 = .ok (.ireturn, 1) := by decide +kernel
set_option maxRecDepth 20000 in
theorem ggX10_fault_X10_readAll : GoodIn wsX10_fault wsX10_readAll := goodIn_r _ [5, 6, 7, 8, 9, 10, 11, 12, 13, 14, 4, 15, 16, 17, 18, 19, 20, 21, 22, 23, 24, 25, 26, 27, 28, 29, 30, 31, 32, 33, 34, 35, 36, 37, 38, 39, 40, 41, 42, 43, 44, 45, 46, 47, 48, 49, 50, 51, 52, 53, 54, 55, 56, 57, 58, 59, 60, 61] (by decide +kernel) (by decide +kernel)
set_option maxRecDepth 20000 in
theorem gX10_fault_X10_readAll : GoodIn wsX10_fault (wsV RX10 115 RX10 yX10_readAll wsX10_readAll) := goodIn_app (goodIn_of _ (by decide +kernel)) ggX10_fault_X10_readAll
theorem dX10_fault_0 : decode cX10_fault 0 = .ok (.aload_n 0, 1) := by decide +kernel
theorem dX10_fault_1 : decode cX10_fault 1 = .ok (.invokevirtual 115, 3) := by decide +kernel
theorem dX10_fault_4 : decode cX10_fault 4 = .ok (.ireturn, 1) := by decide +kernel
set_option maxRecDepth 20000 in
theorem ggX10_lay_X10_readAll : GoodIn wsX10_lay wsX10_readAll := goodIn_r _ [7, 1, 8, 9, 2, 10, 11, 12, 13, 14, 6, 15, 16, 17, 18, 19, 20, 21, 22, 23, 24, 25, 26, 27, 28, 29, 30, 31, 32, 33, 34, 35, 36, 37, 38, 39, 40, 41, 42, 43, 44, 45, 46, 47, 48, 49, 50, 51, 52, 53, 54, 55, 56, 57, 58, 59, 60, 61] (by decide +kernel) (by decide +kernel)
set_option maxRecDepth 20000 in
theorem gX10_lay_X10_readAll : GoodIn wsX10_lay (wsV RX10 115 RX10 yX10_readAll wsX10_readAll) := goodIn_app (goodIn_of _ (by decide +kernel)) ggX10_lay_X10_readAll
theorem dX10_lay_0 : decode cX10_lay 0 = .ok (.aload_n 0, 1) := by decide +kernel
theorem dX10_lay_1 : decode cX10_lay 1 = .ok (.invokevirtual 115, 3) := by decide +kernel
theorem dX10_lay_4 : decode cX10_lay 4 = .ok (.bipush (-4), 2) := by decide +kernel
theorem dX10_lay_6 : decode cX10_lay 6 = .ok (.if_icmp .eq 6, 3) := by decide +kernel
theorem dX10_lay_9 : decode cX10_lay 9 = .ok (.bipush (-2), 2) := by decide +kernel
theorem dX10_lay_11 : decode cX10_lay 11 = .ok (.ireturn, 1) := by decide +kernel
theorem dX10_lay_12 : decode cX10_lay 12 = .ok (.aload_n 0, 1) := by decide +kernel
theorem dX10_lay_13 : decode cX10_lay 13 = .ok (.getfield 13, 3) := by decide +kernel
theorem dX10_lay_16 : decode cX10_lay 16 = .ok (.iconst 0, 1) := by decide +kernel
theorem dX10_lay_17 : decode cX10_lay 17 = .ok (.aload_n 0, 1) := by decide +kernel
theorem dX10_lay_18 : decode cX10_lay 18 = .ok (.getfield 13, 3) := by decide +kernel
theorem dX10_lay_21 : decode cX10_lay 21 = .ok (.iconst 1, 1) := by decide +kernel
theorem dX10_lay_22 : decode cX10_lay 22 = .ok (.iaload, 1) := by decide +kernel
theorem dX10_lay_23 : decode cX10_lay 23 = .ok (.iastore, 1) := by decide +kernel
theorem dX10_lay_24 : decode cX10_lay 24 = .ok (.iconst 0, 1) := by decide +kernel
theorem dX10_lay_25 : decode cX10_lay 25 = .ok (.istore_n 1, 1) := by decide +kernel
theorem dX10_lay_26 : decode cX10_lay 26 = .ok (.iload_n 1, 1) := by decide +kernel
theorem dX10_lay_27 : decode cX10_lay 27 = .ok (.sipush 268, 3) := by decide +kernel
theorem dX10_lay_30 : decode cX10_lay 30 = .ok (.if_icmp .ge 25, 3) := by decide +kernel
theorem dX10_lay_33 : decode cX10_lay 33 = .ok (.aload_n 0, 1) := by decide +kernel
theorem dX10_lay_34 : decode cX10_lay 34 = .ok (.getfield 16, 3) := by decide +kernel
theorem dX10_lay_37 : decode cX10_lay 37 = .ok (.iload_n 1, 1) := by decide +kernel
theorem dX10_lay_38 : decode cX10_lay 38 = .ok (.aload_n 0, 1) := by decide +kernel
theorem dX10_lay_39 : decode cX10_lay 39 = .ok (.getfield 16, 3) := by decide +kernel
theorem dX10_lay_42 : decode cX10_lay 42 = .ok (.sipush 268, 3) := by decide +kernel
theorem dX10_lay_45 : decode cX10_lay 45 = .ok (.iload_n 1, 1) := by decide +kernel
theorem dX10_lay_46 : decode cX10_lay 46 = .ok (.iadd, 1) := by decide +kernel
theorem dX10_lay_47 : decode cX10_lay 47 = .ok (.iaload, 1) := by decide +kernel
theorem dX10_lay_48 : decode cX10_lay 48 = .ok (.iastore, 1) := by decide +kernel
theorem dX10_lay_49 : decode cX10_lay 49 = .ok (.iinc 1 1, 3) := by decide +kernel
theorem dX10_lay_52 : decode cX10_lay 52 = .ok (.goto (-26), 3) := by decide +kernel
theorem dX10_lay_55 : decode cX10_lay 55 = .ok (.aload_n 0, 1) := by decide +kernel
theorem dX10_lay_56 : decode cX10_lay 56 = .ok (.getfield 13, 3) := by decide +kernel
theorem dX10_lay_59 : decode cX10_lay 59 = .ok (.iconst 0, 1) := by decide +kernel
theorem dX10_lay_60 : decode cX10_lay 60 = .ok (.iaload, 1) := by decide +kernel
theorem dX10_lay_61 : decode cX10_lay 61 = .ok (.ireturn, 1) := by decide +kernel
theorem dX10_last_0 : decode cX10_last 0 = .ok (.bipush (-4), 2) := by decide +kernel
theorem dX10_last_2 : decode cX10_last 2 = .ok (.istore_n 2, 1) := by decide +kernel
theorem dX10_last_3 : decode cX10_last 3 = .ok (.iconst 0, 1) := by decide +kernel
theorem dX10_last_4 : decode cX10_last 4 = .ok (.istore_n 3, 1) := by decide +kernel
theorem dX10_last_5 : decode cX10_last 5 = .ok (.iload_n 3, 1) := by decide +kernel
theorem dX10_last_6 : decode cX10_last 6 = .ok (.aload_n 0, 1) := by decide +kernel
theorem dX10_last_7 : decode cX10_last 7 = .ok (.getfield 13, 3) := by decide +kernel
theorem dX10_last_10 : decode cX10_last 10 = .ok (.iconst 0, 1) := by decide +kernel
theorem dX10_last_11 : decode cX10_last 11 = .ok (.iaload, 1) := by decide +kernel
theorem dX10_last_12 : decode cX10_last 12 = .ok (.if_icmp .ge 29, 3) := by decide +kernel
theorem dX10_last_15 : decode cX10_last 15 = .ok (.aload_n 0, 1) := by decide +kernel
theorem dX10_last_16 : decode cX10_last 16 = .ok (.getfield 16, 3) := by decide +kernel
theorem dX10_last_19 : decode cX10_last 19 = .ok (.iconst 4, 1) := by decide +kernel
theorem dX10_last_20 : decode cX10_last 20 = .ok (.iload_n 3, 1) := by decide +kernel
theorem dX10_last_21 : decode cX10_last 21 = .ok (.imul, 1) := by decide +kernel
theorem dX10_last_22 : decode cX10_last 22 = .ok (.iaload, 1) := by decide +kernel
theorem dX10_last_23 : decode cX10_last 23 = .ok (.iload_n 1, 1) := by decide +kernel
theorem dX10_last_24 : decode cX10_last 24 = .ok (.if_icmp .ne 9, 3) := by decide +kernel
theorem dX10_last_27 : decode cX10_last 27 = .ok (.iconst 4, 1) := by decide +kernel
theorem dX10_last_28 : decode cX10_last 28 = .ok (.iload_n 3, 1) := by decide +kernel
theorem dX10_last_29 : decode cX10_last 29 = .ok (.imul, 1) := by decide +kernel
theorem dX10_last_30 : decode cX10_last 30 = .ok (.goto 4, 3) := by decide +kernel
theorem dX10_last_33 : decode cX10_last 33 = .ok (.iload_n 2, 1) := by decide +kernel
theorem dX10_last_34 : decode cX10_last 34 = .ok (.istore_n 2, 1) := by decide +kernel
theorem dX10_last_35 : decode cX10_last 35 = .ok (.iinc 3 1, 3) := by decide +kernel
theorem dX10_last_38 : decode cX10_last 38 = .ok (.goto (-33), 3) := by decide +kernel
theorem dX10_last_41 : decode cX10_last 41 = .ok (.iload_n 2, 1) := by decide +kernel
theorem dX10_last_42 : decode cX10_last 42 = .ok (.ireturn, 1) := by decide +kernel
set_option maxRecDepth 20000 in
theorem ggX10_lawOf_X10_last : GoodIn wsX10_lawOf wsX10_last := goodIn_r _ [6, 7, 1, 8, 9, 10, 11, 12, 13, 14, 15, 16, 17, 18, 19, 20, 21, 22, 23, 24, 25, 26, 27, 28, 29, 30, 31, 32, 33, 34, 35] (by decide +kernel) (by decide +kernel)
set_option maxRecDepth 20000 in
theorem gX10_lawOf_X10_last : GoodIn wsX10_lawOf (wsV RX10 119 RX10 yX10_last wsX10_last) := goodIn_app (goodIn_of _ (by decide +kernel)) ggX10_lawOf_X10_last
theorem dX10_lawOf_0 : decode cX10_lawOf 0 = .ok (.iload_n 1, 1) := by decide +kernel
theorem dX10_lawOf_1 : decode cX10_lawOf 1 = .ok (.ifCond .ne 8, 3) := by decide +kernel
theorem dX10_lawOf_4 : decode cX10_lawOf 4 = .ok (.bipush 97, 2) := by decide +kernel
theorem dX10_lawOf_6 : decode cX10_lawOf 6 = .ok (.goto 45, 3) := by decide +kernel
theorem dX10_lawOf_9 : decode cX10_lawOf 9 = .ok (.iload_n 1, 1) := by decide +kernel
theorem dX10_lawOf_10 : decode cX10_lawOf 10 = .ok (.iconst 1, 1) := by decide +kernel
theorem dX10_lawOf_11 : decode cX10_lawOf 11 = .ok (.if_icmp .ne 8, 3) := by decide +kernel
theorem dX10_lawOf_14 : decode cX10_lawOf 14 = .ok (.bipush 103, 2) := by decide +kernel
theorem dX10_lawOf_16 : decode cX10_lawOf 16 = .ok (.goto 35, 3) := by decide +kernel
theorem dX10_lawOf_19 : decode cX10_lawOf 19 = .ok (.iload_n 1, 1) := by decide +kernel
theorem dX10_lawOf_20 : decode cX10_lawOf 20 = .ok (.iconst 2, 1) := by decide +kernel
theorem dX10_lawOf_21 : decode cX10_lawOf 21 = .ok (.if_icmp .ne 8, 3) := by decide +kernel
theorem dX10_lawOf_24 : decode cX10_lawOf 24 = .ok (.bipush 98, 2) := by decide +kernel
theorem dX10_lawOf_26 : decode cX10_lawOf 26 = .ok (.goto 25, 3) := by decide +kernel
theorem dX10_lawOf_29 : decode cX10_lawOf 29 = .ok (.iload_n 1, 1) := by decide +kernel
theorem dX10_lawOf_30 : decode cX10_lawOf 30 = .ok (.iconst 3, 1) := by decide +kernel
theorem dX10_lawOf_31 : decode cX10_lawOf 31 = .ok (.if_icmp .ne 8, 3) := by decide +kernel
theorem dX10_lawOf_34 : decode cX10_lawOf 34 = .ok (.bipush 114, 2) := by decide +kernel
theorem dX10_lawOf_36 : decode cX10_lawOf 36 = .ok (.goto 15, 3) := by decide +kernel
theorem dX10_lawOf_39 : decode cX10_lawOf 39 = .ok (.iload_n 1, 1) := by decide +kernel
theorem dX10_lawOf_40 : decode cX10_lawOf 40 = .ok (.iconst 4, 1) := by decide +kernel
theorem dX10_lawOf_41 : decode cX10_lawOf 41 = .ok (.if_icmp .ne 8, 3) := by decide +kernel
theorem dX10_lawOf_44 : decode cX10_lawOf 44 = .ok (.bipush 113, 2) := by decide +kernel
theorem dX10_lawOf_46 : decode cX10_lawOf 46 = .ok (.goto 5, 3) := by decide +kernel
theorem dX10_lawOf_49 : decode cX10_lawOf 49 = .ok (.bipush 116, 2) := by decide +kernel
theorem dX10_lawOf_51 : decode cX10_lawOf 51 = .ok (.istore_n 2, 1) := by decide +kernel
theorem dX10_lawOf_52 : decode cX10_lawOf 52 = .ok (.aload_n 0, 1) := by decide +kernel
theorem dX10_lawOf_53 : decode cX10_lawOf 53 = .ok (.iload_n 2, 1) := by decide +kernel
theorem dX10_lawOf_54 : decode cX10_lawOf 54 = .ok (.invokevirtual 119, 3) := by decide +kernel
theorem dX10_lawOf_57 : decode cX10_lawOf 57 = .ok (.istore_n 3, 1) := by decide +kernel
theorem dX10_lawOf_58 : decode cX10_lawOf 58 = .ok (.iload_n 3, 1) := by decide +kernel
theorem dX10_lawOf_59 : decode cX10_lawOf 59 = .ok (.ifCond .lt 12, 3) := by decide +kernel
theorem dX10_lawOf_62 : decode cX10_lawOf 62 = .ok (.aload_n 0, 1) := by decide +kernel
theorem dX10_lawOf_63 : decode cX10_lawOf 63 = .ok (.getfield 16, 3) := by decide +kernel
theorem dX10_lawOf_66 : decode cX10_lawOf 66 = .ok (.iload_n 3, 1) := by decide +kernel
theorem dX10_lawOf_67 : decode cX10_lawOf 67 = .ok (.iconst 1, 1) := by decide +kernel
theorem dX10_lawOf_68 : decode cX10_lawOf 68 = .ok (.iadd, 1) := by decide +kernel
theorem dX10_lawOf_69 : decode cX10_lawOf 69 = .ok (.iaload, 1) := by decide +kernel
theorem dX10_lawOf_70 : decode cX10_lawOf 70 = .ok (.ireturn, 1) := by decide +kernel
theorem dX10_lawOf_71 : decode cX10_lawOf 71 = .ok (.iload_n 1, 1) := by decide +kernel
theorem dX10_lawOf_72 : decode cX10_lawOf 72 = .ok (.iconst 1, 1) := by decide +kernel
theorem dX10_lawOf_73 : decode cX10_lawOf 73 = .ok (.if_icmp .ne 7, 3) := by decide +kernel
theorem dX10_lawOf_76 : decode cX10_lawOf 76 = .ok (.iconst 1, 1) := by decide +kernel
theorem dX10_lawOf_77 : decode cX10_lawOf 77 = .ok (.goto 36, 3) := by decide +kernel
theorem dX10_lawOf_80 : decode cX10_lawOf 80 = .ok (.iload_n 1, 1) := by decide +kernel
theorem dX10_lawOf_81 : decode cX10_lawOf 81 = .ok (.iconst 2, 1) := by decide +kernel
theorem dX10_lawOf_82 : decode cX10_lawOf 82 = .ok (.if_icmp .ne 9, 3) := by decide +kernel
theorem dX10_lawOf_85 : decode cX10_lawOf 85 = .ok (.sipush 500, 3) := by decide +kernel
theorem dX10_lawOf_88 : decode cX10_lawOf 88 = .ok (.goto 25, 3) := by decide +kernel
theorem dX10_lawOf_91 : decode cX10_lawOf 91 = .ok (.iload_n 1, 1) := by decide +kernel
theorem dX10_lawOf_92 : decode cX10_lawOf 92 = .ok (.iconst 3, 1) := by decide +kernel
theorem dX10_lawOf_93 : decode cX10_lawOf 93 = .ok (.if_icmp .ne 9, 3) := by decide +kernel
theorem dX10_lawOf_96 : decode cX10_lawOf 96 = .ok (.sipush 1000, 3) := by decide +kernel
theorem dX10_lawOf_99 : decode cX10_lawOf 99 = .ok (.goto 14, 3) := by decide +kernel
theorem dX10_lawOf_102 : decode cX10_lawOf 102 = .ok (.iload_n 1, 1) := by decide +kernel
theorem dX10_lawOf_103 : decode cX10_lawOf 103 = .ok (.iconst 5, 1) := by decide +kernel
theorem dX10_lawOf_104 : decode cX10_lawOf 104 = .ok (.if_icmp .ne 8, 3) := by decide +kernel
theorem dX10_lawOf_107 : decode cX10_lawOf 107 = .ok (.bipush 90, 2) := by decide +kernel
theorem dX10_lawOf_109 : decode cX10_lawOf 109 = .ok (.goto 4, 3) := by decide +kernel
theorem dX10_lawOf_112 : decode cX10_lawOf 112 = .ok (.iconst 0, 1) := by decide +kernel
theorem dX10_lawOf_113 : decode cX10_lawOf 113 = .ok (.ireturn, 1) := by decide +kernel
set_option maxRecDepth 20000 in
theorem ggX10_law_X10_in : GoodIn wsX10_law wsX10_in := goodIn_r _ [5] (by decide +kernel) (by decide +kernel)
set_option maxRecDepth 20000 in
theorem gX10_law_X10_in : GoodIn wsX10_law (va_wsS RX10 76 yX10_in wsX10_in) := goodIn_app (goodIn_of _ (by decide +kernel)) ggX10_law_X10_in
set_option maxRecDepth 20000 in
theorem ggX10_law_X10_lawOf : GoodIn wsX10_law wsX10_lawOf := goodIn_r _ [9, 10, 11, 12, 13, 4, 14, 15, 16, 17, 18, 19, 20, 21, 22, 23, 24, 25, 26, 27, 28, 29, 30, 31, 32, 33, 34, 35, 36, 37, 38, 39, 40, 41, 42, 43] (by decide +kernel) (by decide +kernel)
set_option maxRecDepth 20000 in
theorem gX10_law_X10_lawOf : GoodIn wsX10_law (wsV RX10 124 RX10 yX10_lawOf wsX10_lawOf) := goodIn_app (goodIn_of _ (by decide +kernel)) ggX10_law_X10_lawOf
theorem dX10_law_0 : decode cX10_law 0 = .ok (.iload_n 1, 1) := by decide +kernel
theorem dX10_law_1 : decode cX10_law 1 = .ok (.i2l, 1) := by decide +kernel
theorem dX10_law_2 : decode cX10_law 2 = .ok (.lconst 0, 1) := by decide +kernel
theorem dX10_law_3 : decode cX10_law 3 = .ok (.ldc2_w 122, 3) := by decide +kernel
theorem dX10_law_6 : decode cX10_law 6 = .ok (.invokestatic 76, 3) := by decide +kernel
theorem dX10_law_9 : decode cX10_law 9 = .ok (.ifCond .eq 11, 3) := by decide +kernel
theorem dX10_law_12 : decode cX10_law 12 = .ok (.aload_n 0, 1) := by decide +kernel
theorem dX10_law_13 : decode cX10_law 13 = .ok (.iload_n 1, 1) := by decide +kernel
theorem dX10_law_14 : decode cX10_law 14 = .ok (.invokevirtual 124, 3) := by decide +kernel
theorem dX10_law_17 : decode cX10_law 17 = .ok (.goto 4, 3) := by decide +kernel
theorem dX10_law_20 : decode cX10_law 20 = .ok (.iconst (-1), 1) := by decide +kernel
theorem dX10_law_21 : decode cX10_law 21 = .ok (.ireturn, 1) := by decide +kernel
theorem dX10_lineAt_0 : decode cX10_lineAt 0 = .ok (.bipush (-4), 2) := by decide +kernel
theorem dX10_lineAt_2 : decode cX10_lineAt 2 = .ok (.istore_n 2, 1) := by decide +kernel
theorem dX10_lineAt_3 : decode cX10_lineAt 3 = .ok (.iconst 0, 1) := by decide +kernel
theorem dX10_lineAt_4 : decode cX10_lineAt 4 = .ok (.istore_n 3, 1) := by decide +kernel
theorem dX10_lineAt_5 : decode cX10_lineAt 5 = .ok (.iload_n 3, 1) := by decide +kernel
theorem dX10_lineAt_6 : decode cX10_lineAt 6 = .ok (.aload_n 0, 1) := by decide +kernel
theorem dX10_lineAt_7 : decode cX10_lineAt 7 = .ok (.getfield 13, 3) := by decide +kernel
theorem dX10_lineAt_10 : decode cX10_lineAt 10 = .ok (.iconst 0, 1) := by decide +kernel
theorem dX10_lineAt_11 : decode cX10_lineAt 11 = .ok (.iaload, 1) := by decide +kernel
theorem dX10_lineAt_12 : decode cX10_lineAt 12 = .ok (.if_icmp .ge 68, 3) := by decide +kernel
theorem dX10_lineAt_15 : decode cX10_lineAt 15 = .ok (.iconst 4, 1) := by decide +kernel
theorem dX10_lineAt_16 : decode cX10_lineAt 16 = .ok (.iload_n 3, 1) := by decide +kernel
theorem dX10_lineAt_17 : decode cX10_lineAt 17 = .ok (.imul, 1) := by decide +kernel
theorem dX10_lineAt_18 : decode cX10_lineAt 18 = .ok (.istore 4, 2) := by decide +kernel
theorem dX10_lineAt_20 : decode cX10_lineAt 20 = .ok (.aload_n 0, 1) := by decide +kernel
theorem dX10_lineAt_21 : decode cX10_lineAt 21 = .ok (.getfield 16, 3) := by decide +kernel
theorem dX10_lineAt_24 : decode cX10_lineAt 24 = .ok (.iload 4, 2) := by decide +kernel
theorem dX10_lineAt_26 : decode cX10_lineAt 26 = .ok (.iaload, 1) := by decide +kernel
theorem dX10_lineAt_27 : decode cX10_lineAt 27 = .ok (.bipush 108, 2) := by decide +kernel
theorem dX10_lineAt_29 : decode cX10_lineAt 29 = .ok (.if_icmp .ne 45, 3) := by decide +kernel
theorem dX10_lineAt_32 : decode cX10_lineAt 32 = .ok (.aload_n 0, 1) := by decide +kernel
theorem dX10_lineAt_33 : decode cX10_lineAt 33 = .ok (.getfield 16, 3) := by decide +kernel
theorem dX10_lineAt_36 : decode cX10_lineAt 36 = .ok (.iload 4, 2) := by decide +kernel
theorem dX10_lineAt_38 : decode cX10_lineAt 38 = .ok (.iconst 1, 1) := by decide +kernel
theorem dX10_lineAt_39 : decode cX10_lineAt 39 = .ok (.iadd, 1) := by decide +kernel
theorem dX10_lineAt_40 : decode cX10_lineAt 40 = .ok (.iaload, 1) := by decide +kernel
theorem dX10_lineAt_41 : decode cX10_lineAt 41 = .ok (.iload_n 1, 1) := by decide +kernel
theorem dX10_lineAt_42 : decode cX10_lineAt 42 = .ok (.if_icmp .gt 32, 3) := by decide +kernel
theorem dX10_lineAt_45 : decode cX10_lineAt 45 = .ok (.iload_n 2, 1) := by decide +kernel
theorem dX10_lineAt_46 : decode cX10_lineAt 46 = .ok (.bipush (-4), 2) := by decide +kernel
theorem dX10_lineAt_48 : decode cX10_lineAt 48 = .ok (.if_icmp .eq 23, 3) := by decide +kernel
theorem dX10_lineAt_51 : decode cX10_lineAt 51 = .ok (.aload_n 0, 1) := by decide +kernel
theorem dX10_lineAt_52 : decode cX10_lineAt 52 = .ok (.getfield 16, 3) := by decide +kernel
theorem dX10_lineAt_55 : decode cX10_lineAt 55 = .ok (.iload 4, 2) := by decide +kernel
theorem dX10_lineAt_57 : decode cX10_lineAt 57 = .ok (.iconst 1, 1) := by decide +kernel
theorem dX10_lineAt_58 : decode cX10_lineAt 58 = .ok (.iadd, 1) := by decide +kernel
theorem dX10_lineAt_59 : decode cX10_lineAt 59 = .ok (.iaload, 1) := by decide +kernel
theorem dX10_lineAt_60 : decode cX10_lineAt 60 = .ok (.aload_n 0, 1) := by decide +kernel
theorem dX10_lineAt_61 : decode cX10_lineAt 61 = .ok (.getfield 16, 3) := by decide +kernel
theorem dX10_lineAt_64 : decode cX10_lineAt 64 = .ok (.iload_n 2, 1) := by decide +kernel
theorem dX10_lineAt_65 : decode cX10_lineAt 65 = .ok (.iconst 1, 1) := by decide +kernel
theorem dX10_lineAt_66 : decode cX10_lineAt 66 = .ok (.iadd, 1) := by decide +kernel
theorem dX10_lineAt_67 : decode cX10_lineAt 67 = .ok (.iaload, 1) := by decide +kernel
theorem dX10_lineAt_68 : decode cX10_lineAt 68 = .ok (.if_icmp .lt 6, 3) := by decide +kernel
theorem dX10_lineAt_71 : decode cX10_lineAt 71 = .ok (.iload 4, 2) := by decide +kernel
theorem dX10_lineAt_73 : decode cX10_lineAt 73 = .ok (.istore_n 2, 1) := by decide +kernel
theorem dX10_lineAt_74 : decode cX10_lineAt 74 = .ok (.iinc 3 1, 3) := by decide +kernel
theorem dX10_lineAt_77 : decode cX10_lineAt 77 = .ok (.goto (-72), 3) := by decide +kernel
theorem dX10_lineAt_80 : decode cX10_lineAt 80 = .ok (.iload_n 2, 1) := by decide +kernel
theorem dX10_lineAt_81 : decode cX10_lineAt 81 = .ok (.bipush (-4), 2) := by decide +kernel
theorem dX10_lineAt_83 : decode cX10_lineAt 83 = .ok (.if_icmp .ne 7, 3) := by decide +kernel
theorem dX10_lineAt_86 : decode cX10_lineAt 86 = .ok (.iconst 0, 1) := by decide +kernel
theorem dX10_lineAt_87 : decode cX10_lineAt 87 = .ok (.goto 11, 3) := by decide +kernel
theorem dX10_lineAt_90 : decode cX10_lineAt 90 = .ok (.aload_n 0, 1) := by decide +kernel
theorem dX10_lineAt_91 : decode cX10_lineAt 91 = .ok (.getfield 16, 3) := by decide +kernel
theorem dX10_lineAt_94 : decode cX10_lineAt 94 = .ok (.iload_n 2, 1) := by decide +kernel
theorem dX10_lineAt_95 : decode cX10_lineAt 95 = .ok (.iconst 2, 1) := by decide +kernel
theorem dX10_lineAt_96 : decode cX10_lineAt 96 = .ok (.iadd, 1) := by decide +kernel
theorem dX10_lineAt_97 : decode cX10_lineAt 97 = .ok (.iaload, 1) := by decide +kernel
theorem dX10_lineAt_98 : decode cX10_lineAt 98 = .ok (.ireturn, 1) := by decide +kernel
set_option maxRecDepth 20000 in
theorem ggX10_line_X10_in : GoodIn wsX10_line wsX10_in := goodIn_r _ [7] (by decide +kernel) (by decide +kernel)
set_option maxRecDepth 20000 in
theorem gX10_line_X10_in : GoodIn wsX10_line (va_wsS RX10 76 yX10_in wsX10_in) := goodIn_app (goodIn_of _ (by decide +kernel)) ggX10_line_X10_in
set_option maxRecDepth 20000 in
theorem ggX10_line_X10_lineAt : GoodIn wsX10_line wsX10_lineAt := goodIn_r _ [11, 12, 13, 14, 15, 16, 17, 18, 19, 20, 21, 22, 23, 24, 25, 26, 27, 28, 29, 30, 31, 32, 33, 34, 35, 36, 37, 38, 39, 40, 41] (by decide +kernel) (by decide +kernel)
set_option maxRecDepth 20000 in
theorem gX10_line_X10_lineAt : GoodIn wsX10_line (wsV RX10 131 RX10 yX10_lineAt wsX10_lineAt) := goodIn_app (goodIn_of _ (by decide +kernel)) ggX10_line_X10_lineAt
theorem dX10_line_0 : decode cX10_line 0 = .ok (.iload_n 1, 1) := by decide +kernel
theorem dX10_line_1 : decode cX10_line 1 = .ok (.i2l, 1) := by decide +kernel
theorem dX10_line_2 : decode cX10_line 2 = .ok (.ldc2_w 127, 3) := by decide +kernel
theorem dX10_line_5 : decode cX10_line 5 = .ok (.ldc2_w 129, 3) := by decide +kernel
theorem dX10_line_8 : decode cX10_line 8 = .ok (.invokestatic 76, 3) := by decide +kernel
theorem dX10_line_11 : decode cX10_line 11 = .ok (.ifCond .eq 11, 3) := by decide +kernel
theorem dX10_line_14 : decode cX10_line 14 = .ok (.aload_n 0, 1) := by decide +kernel
theorem dX10_line_15 : decode cX10_line 15 = .ok (.iload_n 1, 1) := by decide +kernel
theorem dX10_line_16 : decode cX10_line 16 = .ok (.invokevirtual 131, 3) := by decide +kernel
theorem dX10_line_19 : decode cX10_line 19 = .ok (.goto 5, 3) := by decide +kernel
theorem dX10_line_22 : decode cX10_line 22 = .ok (.ldc 134, 2) := by decide +kernel
theorem dX10_line_24 : decode cX10_line 24 = .ok (.ireturn, 1) := by decide +kernel
set_option maxRecDepth 20000 in
theorem ggX10_ball_X10_in : GoodIn wsX10_ball wsX10_in := goodIn_r _ [11] (by decide +kernel) (by decide +kernel)
set_option maxRecDepth 20000 in
theorem gX10_ball_X10_in : GoodIn wsX10_ball (va_wsS RX10 76 yX10_in wsX10_in) := goodIn_app (goodIn_of _ (by decide +kernel)) ggX10_ball_X10_in
theorem dX10_ball_0 : decode cX10_ball 0 = .ok (.iload_n 1, 1) := by decide +kernel
theorem dX10_ball_1 : decode cX10_ball 1 = .ok (.iconst 2, 1) := by decide +kernel
theorem dX10_ball_2 : decode cX10_ball 2 = .ok (.if_icmp .ge 17, 3) := by decide +kernel
theorem dX10_ball_5 : decode cX10_ball 5 = .ok (.iload_n 2, 1) := by decide +kernel
theorem dX10_ball_6 : decode cX10_ball 6 = .ok (.i2l, 1) := by decide +kernel
theorem dX10_ball_7 : decode cX10_ball 7 = .ok (.ldc2_w 127, 3) := by decide +kernel
theorem dX10_ball_10 : decode cX10_ball 10 = .ok (.ldc2_w 129, 3) := by decide +kernel
theorem dX10_ball_13 : decode cX10_ball 13 = .ok (.invokestatic 76, 3) := by decide +kernel
theorem dX10_ball_16 : decode cX10_ball 16 = .ok (.goto 31, 3) := by decide +kernel
theorem dX10_ball_19 : decode cX10_ball 19 = .ok (.iload_n 1, 1) := by decide +kernel
theorem dX10_ball_20 : decode cX10_ball 20 = .ok (.iconst 2, 1) := by decide +kernel
theorem dX10_ball_21 : decode cX10_ball 21 = .ok (.if_icmp .ne 15, 3) := by decide +kernel
theorem dX10_ball_24 : decode cX10_ball 24 = .ok (.iload_n 2, 1) := by decide +kernel
theorem dX10_ball_25 : decode cX10_ball 25 = .ok (.i2l, 1) := by decide +kernel
theorem dX10_ball_26 : decode cX10_ball 26 = .ok (.lconst 0, 1) := by decide +kernel
theorem dX10_ball_27 : decode cX10_ball 27 = .ok (.ldc2_w 129, 3) := by decide +kernel
theorem dX10_ball_30 : decode cX10_ball 30 = .ok (.invokestatic 76, 3) := by decide +kernel
theorem dX10_ball_33 : decode cX10_ball 33 = .ok (.goto 14, 3) := by decide +kernel
theorem dX10_ball_36 : decode cX10_ball 36 = .ok (.iload_n 2, 1) := by decide +kernel
theorem dX10_ball_37 : decode cX10_ball 37 = .ok (.i2l, 1) := by decide +kernel
theorem dX10_ball_38 : decode cX10_ball 38 = .ok (.ldc2_w 135, 3) := by decide +kernel
theorem dX10_ball_41 : decode cX10_ball 41 = .ok (.ldc2_w 137, 3) := by decide +kernel
theorem dX10_ball_44 : decode cX10_ball 44 = .ok (.invokestatic 76, 3) := by decide +kernel
theorem dX10_ball_47 : decode cX10_ball 47 = .ok (.istore_n 3, 1) := by decide +kernel
theorem dX10_ball_48 : decode cX10_ball 48 = .ok (.iload_n 1, 1) := by decide +kernel
theorem dX10_ball_49 : decode cX10_ball 49 = .ok (.i2l, 1) := by decide +kernel
theorem dX10_ball_50 : decode cX10_ball 50 = .ok (.lconst 0, 1) := by decide +kernel
theorem dX10_ball_51 : decode cX10_ball 51 = .ok (.ldc2_w 122, 3) := by decide +kernel
theorem dX10_ball_54 : decode cX10_ball 54 = .ok (.invokestatic 76, 3) := by decide +kernel
theorem dX10_ball_57 : decode cX10_ball 57 = .ok (.ifCond .eq 7, 3) := by decide +kernel
theorem dX10_ball_60 : decode cX10_ball 60 = .ok (.iload_n 3, 1) := by decide +kernel
theorem dX10_ball_61 : decode cX10_ball 61 = .ok (.ifCond .ne 6, 3) := by decide +kernel
theorem dX10_ball_64 : decode cX10_ball 64 = .ok (.ldc 139, 2) := by decide +kernel
theorem dX10_ball_66 : decode cX10_ball 66 = .ok (.ireturn, 1) := by decide +kernel
theorem dX10_ball_67 : decode cX10_ball 67 = .ok (.aload_n 0, 1) := by decide +kernel
theorem dX10_ball_68 : decode cX10_ball 68 = .ok (.getfield 19, 3) := by decide +kernel
theorem dX10_ball_71 : decode cX10_ball 71 = .ok (.iload_n 1, 1) := by decide +kernel
theorem dX10_ball_72 : decode cX10_ball 72 = .ok (.iaload, 1) := by decide +kernel
theorem dX10_ball_73 : decode cX10_ball 73 = .ok (.istore 4, 2) := by decide +kernel
theorem dX10_ball_75 : decode cX10_ball 75 = .ok (.aload_n 0, 1) := by decide +kernel
theorem dX10_ball_76 : decode cX10_ball 76 = .ok (.getfield 19, 3) := by decide +kernel
theorem dX10_ball_79 : decode cX10_ball 79 = .ok (.iload_n 1, 1) := by decide +kernel
theorem dX10_ball_80 : decode cX10_ball 80 = .ok (.iload_n 2, 1) := by decide +kernel
theorem dX10_ball_81 : decode cX10_ball 81 = .ok (.iastore, 1) := by decide +kernel
theorem dX10_ball_82 : decode cX10_ball 82 = .ok (.iload 4, 2) := by decide +kernel
theorem dX10_ball_84 : decode cX10_ball 84 = .ok (.ireturn, 1) := by decide +kernel
set_option maxRecDepth 20000 in
theorem ggX10_layCurve_X10_lawOf : GoodIn wsX10_layCurve wsX10_lawOf := goodIn_r _ [14, 15, 16, 17, 18, 13, 19, 20, 21, 22, 23, 24, 25, 26, 27, 28, 29, 30, 31, 32, 33, 34, 35, 36, 37, 38, 39, 40, 41, 42, 43, 44, 45, 46, 47, 48] (by decide +kernel) (by decide +kernel)
set_option maxRecDepth 20000 in
theorem gX10_layCurve_X10_lawOf : GoodIn wsX10_layCurve (wsV RX10 124 RX10 yX10_lawOf wsX10_lawOf) := goodIn_app (goodIn_of _ (by decide +kernel)) ggX10_layCurve_X10_lawOf
theorem dX10_layCurve_0 : decode cX10_layCurve 0 = .ok (.aload_n 0, 1) := by decide +kernel
theorem dX10_layCurve_1 : decode cX10_layCurve 1 = .ok (.iconst 0, 1) := by decide +kernel
theorem dX10_layCurve_2 : decode cX10_layCurve 2 = .ok (.invokevirtual 124, 3) := by decide +kernel
theorem dX10_layCurve_5 : decode cX10_layCurve 5 = .ok (.istore_n 2, 1) := by decide +kernel
theorem dX10_layCurve_6 : decode cX10_layCurve 6 = .ok (.aload_n 0, 1) := by decide +kernel
theorem dX10_layCurve_7 : decode cX10_layCurve 7 = .ok (.iconst 1, 1) := by decide +kernel
theorem dX10_layCurve_8 : decode cX10_layCurve 8 = .ok (.invokevirtual 124, 3) := by decide +kernel
theorem dX10_layCurve_11 : decode cX10_layCurve 11 = .ok (.istore_n 3, 1) := by decide +kernel
theorem dX10_layCurve_12 : decode cX10_layCurve 12 = .ok (.aload_n 0, 1) := by decide +kernel
theorem dX10_layCurve_13 : decode cX10_layCurve 13 = .ok (.iconst 2, 1) := by decide +kernel
theorem dX10_layCurve_14 : decode cX10_layCurve 14 = .ok (.invokevirtual 124, 3) := by decide +kernel
theorem dX10_layCurve_17 : decode cX10_layCurve 17 = .ok (.istore 4, 2) := by decide +kernel
theorem dX10_layCurve_19 : decode cX10_layCurve 19 = .ok (.aload_n 0, 1) := by decide +kernel
theorem dX10_layCurve_20 : decode cX10_layCurve 20 = .ok (.iconst 3, 1) := by decide +kernel
theorem dX10_layCurve_21 : decode cX10_layCurve 21 = .ok (.invokevirtual 124, 3) := by decide +kernel
theorem dX10_layCurve_24 : decode cX10_layCurve 24 = .ok (.istore 5, 2) := by decide +kernel
theorem dX10_layCurve_26 : decode cX10_layCurve 26 = .ok (.aload_n 0, 1) := by decide +kernel
theorem dX10_layCurve_27 : decode cX10_layCurve 27 = .ok (.iconst 4, 1) := by decide +kernel
theorem dX10_layCurve_28 : decode cX10_layCurve 28 = .ok (.invokevirtual 124, 3) := by decide +kernel
theorem dX10_layCurve_31 : decode cX10_layCurve 31 = .ok (.istore 6, 2) := by decide +kernel
theorem dX10_layCurve_33 : decode cX10_layCurve 33 = .ok (.iload_n 1, 1) := by decide +kernel
theorem dX10_layCurve_34 : decode cX10_layCurve 34 = .ok (.bipush 9, 2) := by decide +kernel
theorem dX10_layCurve_36 : decode cX10_layCurve 36 = .ok (.irem, 1) := by decide +kernel
theorem dX10_layCurve_37 : decode cX10_layCurve 37 = .ok (.iconst 4, 1) := by decide +kernel
theorem dX10_layCurve_38 : decode cX10_layCurve 38 = .ok (.isub, 1) := by decide +kernel
theorem dX10_layCurve_39 : decode cX10_layCurve 39 = .ok (.istore 7, 2) := by decide +kernel
theorem dX10_layCurve_41 : decode cX10_layCurve 41 = .ok (.aload_n 0, 1) := by decide +kernel
theorem dX10_layCurve_42 : decode cX10_layCurve 42 = .ok (.getfield 49, 3) := by decide +kernel
theorem dX10_layCurve_45 : decode cX10_layCurve 45 = .ok (.iconst 0, 1) := by decide +kernel
theorem dX10_layCurve_46 : decode cX10_layCurve 46 = .ok (.aload_n 0, 1) := by decide +kernel
theorem dX10_layCurve_47 : decode cX10_layCurve 47 = .ok (.getfield 19, 3) := by decide +kernel
theorem dX10_layCurve_50 : decode cX10_layCurve 50 = .ok (.iconst 0, 1) := by decide +kernel
theorem dX10_layCurve_51 : decode cX10_layCurve 51 = .ok (.iaload, 1) := by decide +kernel
theorem dX10_layCurve_52 : decode cX10_layCurve 52 = .ok (.iastore, 1) := by decide +kernel
theorem dX10_layCurve_53 : decode cX10_layCurve 53 = .ok (.aload_n 0, 1) := by decide +kernel
theorem dX10_layCurve_54 : decode cX10_layCurve 54 = .ok (.getfield 52, 3) := by decide +kernel
theorem dX10_layCurve_57 : decode cX10_layCurve 57 = .ok (.iconst 0, 1) := by decide +kernel
theorem dX10_layCurve_58 : decode cX10_layCurve 58 = .ok (.aload_n 0, 1) := by decide +kernel
theorem dX10_layCurve_59 : decode cX10_layCurve 59 = .ok (.getfield 19, 3) := by decide +kernel
theorem dX10_layCurve_62 : decode cX10_layCurve 62 = .ok (.iconst 1, 1) := by decide +kernel
theorem dX10_layCurve_63 : decode cX10_layCurve 63 = .ok (.iaload, 1) := by decide +kernel
theorem dX10_layCurve_64 : decode cX10_layCurve 64 = .ok (.iastore, 1) := by decide +kernel
theorem dX10_layCurve_65 : decode cX10_layCurve 65 = .ok (.aload_n 0, 1) := by decide +kernel
theorem dX10_layCurve_66 : decode cX10_layCurve 66 = .ok (.getfield 55, 3) := by decide +kernel
theorem dX10_layCurve_69 : decode cX10_layCurve 69 = .ok (.iconst 0, 1) := by decide +kernel
theorem dX10_layCurve_70 : decode cX10_layCurve 70 = .ok (.aload_n 0, 1) := by decide +kernel
theorem dX10_layCurve_71 : decode cX10_layCurve 71 = .ok (.getfield 19, 3) := by decide +kernel
theorem dX10_layCurve_74 : decode cX10_layCurve 74 = .ok (.iconst 2, 1) := by decide +kernel
theorem dX10_layCurve_75 : decode cX10_layCurve 75 = .ok (.iaload, 1) := by decide +kernel
theorem dX10_layCurve_76 : decode cX10_layCurve 76 = .ok (.iastore, 1) := by decide +kernel
theorem dX10_layCurve_77 : decode cX10_layCurve 77 = .ok (.aload_n 0, 1) := by decide +kernel
theorem dX10_layCurve_78 : decode cX10_layCurve 78 = .ok (.getfield 58, 3) := by decide +kernel
theorem dX10_layCurve_81 : decode cX10_layCurve 81 = .ok (.iconst 0, 1) := by decide +kernel
theorem dX10_layCurve_82 : decode cX10_layCurve 82 = .ok (.aload_n 0, 1) := by decide +kernel
theorem dX10_layCurve_83 : decode cX10_layCurve 83 = .ok (.getfield 19, 3) := by decide +kernel
theorem dX10_layCurve_86 : decode cX10_layCurve 86 = .ok (.iconst 3, 1) := by decide +kernel
theorem dX10_layCurve_87 : decode cX10_layCurve 87 = .ok (.iaload, 1) := by decide +kernel
theorem dX10_layCurve_88 : decode cX10_layCurve 88 = .ok (.iastore, 1) := by decide +kernel
theorem dX10_layCurve_89 : decode cX10_layCurve 89 = .ok (.aload_n 0, 1) := by decide +kernel
theorem dX10_layCurve_90 : decode cX10_layCurve 90 = .ok (.getfield 61, 3) := by decide +kernel
theorem dX10_layCurve_93 : decode cX10_layCurve 93 = .ok (.iconst 0, 1) := by decide +kernel
theorem dX10_layCurve_94 : decode cX10_layCurve 94 = .ok (.aload_n 0, 1) := by decide +kernel
theorem dX10_layCurve_95 : decode cX10_layCurve 95 = .ok (.getfield 19, 3) := by decide +kernel
theorem dX10_layCurve_98 : decode cX10_layCurve 98 = .ok (.iconst 4, 1) := by decide +kernel
theorem dX10_layCurve_99 : decode cX10_layCurve 99 = .ok (.iaload, 1) := by decide +kernel
theorem dX10_layCurve_100 : decode cX10_layCurve 100 = .ok (.iload_n 1, 1) := by decide +kernel
theorem dX10_layCurve_101 : decode cX10_layCurve 101 = .ok (.bipush 9, 2) := by decide +kernel
theorem dX10_layCurve_103 : decode cX10_layCurve 103 = .ok (.idiv, 1) := by decide +kernel
theorem dX10_layCurve_104 : decode cX10_layCurve 104 = .ok (.iadd, 1) := by decide +kernel
theorem dX10_layCurve_105 : decode cX10_layCurve 105 = .ok (.bipush 10, 2) := by decide +kernel
theorem dX10_layCurve_107 : decode cX10_layCurve 107 = .ok (.isub, 1) := by decide +kernel
theorem dX10_layCurve_108 : decode cX10_layCurve 108 = .ok (.iastore, 1) := by decide +kernel
theorem dX10_layCurve_109 : decode cX10_layCurve 109 = .ok (.aload_n 0, 1) := by decide +kernel
theorem dX10_layCurve_110 : decode cX10_layCurve 110 = .ok (.getfield 64, 3) := by decide +kernel
theorem dX10_layCurve_113 : decode cX10_layCurve 113 = .ok (.iconst 0, 1) := by decide +kernel
theorem dX10_layCurve_114 : decode cX10_layCurve 114 = .ok (.aload_n 0, 1) := by decide +kernel
theorem dX10_layCurve_115 : decode cX10_layCurve 115 = .ok (.getfield 19, 3) := by decide +kernel
theorem dX10_layCurve_118 : decode cX10_layCurve 118 = .ok (.iconst 5, 1) := by decide +kernel
theorem dX10_layCurve_119 : decode cX10_layCurve 119 = .ok (.iaload, 1) := by decide +kernel
theorem dX10_layCurve_120 : decode cX10_layCurve 120 = .ok (.iastore, 1) := by decide +kernel
theorem dX10_layCurve_121 : decode cX10_layCurve 121 = .ok (.aload_n 0, 1) := by decide +kernel
theorem dX10_layCurve_122 : decode cX10_layCurve 122 = .ok (.bipush (-4), 2) := by decide +kernel
theorem dX10_layCurve_124 : decode cX10_layCurve 124 = .ok (.putfield 140, 3) := by decide +kernel
theorem dX10_layCurve_127 : decode cX10_layCurve 127 = .ok (.aload_n 0, 1) := by decide +kernel
theorem dX10_layCurve_128 : decode cX10_layCurve 128 = .ok (.iconst 0, 1) := by decide +kernel
theorem dX10_layCurve_129 : decode cX10_layCurve 129 = .ok (.putfield 143, 3) := by decide +kernel
theorem dX10_layCurve_132 : decode cX10_layCurve 132 = .ok (.iconst 1, 1) := by decide +kernel
theorem dX10_layCurve_133 : decode cX10_layCurve 133 = .ok (.istore 8, 2) := by decide +kernel
theorem dX10_layCurve_135 : decode cX10_layCurve 135 = .ok (.iload 8, 2) := by decide +kernel
theorem dX10_layCurve_137 : decode cX10_layCurve 137 = .ok (.sipush 600, 3) := by decide +kernel
theorem dX10_layCurve_140 : decode cX10_layCurve 140 = .ok (.if_icmp .gt 247, 3) := by decide +kernel
theorem dX10_layCurve_143 : decode cX10_layCurve 143 = .ok (.aload_n 0, 1) := by decide +kernel
theorem dX10_layCurve_144 : decode cX10_layCurve 144 = .ok (.getfield 58, 3) := by decide +kernel
theorem dX10_layCurve_147 : decode cX10_layCurve 147 = .ok (.iload 8, 2) := by decide +kernel
theorem dX10_layCurve_149 : decode cX10_layCurve 149 = .ok (.iconst 1, 1) := by decide +kernel
theorem dX10_layCurve_150 : decode cX10_layCurve 150 = .ok (.isub, 1) := by decide +kernel
theorem dX10_layCurve_151 : decode cX10_layCurve 151 = .ok (.iaload, 1) := by decide +kernel
theorem dX10_layCurve_152 : decode cX10_layCurve 152 = .ok (.aload_n 0, 1) := by decide +kernel
theorem dX10_layCurve_153 : decode cX10_layCurve 153 = .ok (.getfield 58, 3) := by decide +kernel
theorem dX10_layCurve_156 : decode cX10_layCurve 156 = .ok (.iload 8, 2) := by decide +kernel
theorem dX10_layCurve_158 : decode cX10_layCurve 158 = .ok (.iconst 1, 1) := by decide +kernel
theorem dX10_layCurve_159 : decode cX10_layCurve 159 = .ok (.isub, 1) := by decide +kernel
theorem dX10_layCurve_160 : decode cX10_layCurve 160 = .ok (.iaload, 1) := by decide +kernel
theorem dX10_layCurve_161 : decode cX10_layCurve 161 = .ok (.iload_n 2, 1) := by decide +kernel
theorem dX10_layCurve_162 : decode cX10_layCurve 162 = .ok (.imul, 1) := by decide +kernel
theorem dX10_layCurve_163 : decode cX10_layCurve 163 = .ok (.sipush 1000, 3) := by decide +kernel
theorem dX10_layCurve_166 : decode cX10_layCurve 166 = .ok (.idiv, 1) := by decide +kernel
theorem dX10_layCurve_167 : decode cX10_layCurve 167 = .ok (.isub, 1) := by decide +kernel
theorem dX10_layCurve_168 : decode cX10_layCurve 168 = .ok (.istore 9, 2) := by decide +kernel
theorem dX10_layCurve_170 : decode cX10_layCurve 170 = .ok (.aload_n 0, 1) := by decide +kernel
theorem dX10_layCurve_171 : decode cX10_layCurve 171 = .ok (.getfield 61, 3) := by decide +kernel
theorem dX10_layCurve_174 : decode cX10_layCurve 174 = .ok (.iload 8, 2) := by decide +kernel
theorem dX10_layCurve_176 : decode cX10_layCurve 176 = .ok (.iconst 1, 1) := by decide +kernel
theorem dX10_layCurve_177 : decode cX10_layCurve 177 = .ok (.isub, 1) := by decide +kernel
theorem dX10_layCurve_178 : decode cX10_layCurve 178 = .ok (.iaload, 1) := by decide +kernel
theorem dX10_layCurve_179 : decode cX10_layCurve 179 = .ok (.aload_n 0, 1) := by decide +kernel
theorem dX10_layCurve_180 : decode cX10_layCurve 180 = .ok (.getfield 61, 3) := by decide +kernel
theorem dX10_layCurve_183 : decode cX10_layCurve 183 = .ok (.iload 8, 2) := by decide +kernel
theorem dX10_layCurve_185 : decode cX10_layCurve 185 = .ok (.iconst 1, 1) := by decide +kernel
theorem dX10_layCurve_186 : decode cX10_layCurve 186 = .ok (.isub, 1) := by decide +kernel
theorem dX10_layCurve_187 : decode cX10_layCurve 187 = .ok (.iaload, 1) := by decide +kernel
theorem dX10_layCurve_188 : decode cX10_layCurve 188 = .ok (.iload_n 2, 1) := by decide +kernel
theorem dX10_layCurve_189 : decode cX10_layCurve 189 = .ok (.imul, 1) := by decide +kernel
theorem dX10_layCurve_190 : decode cX10_layCurve 190 = .ok (.sipush 1000, 3) := by decide +kernel
theorem dX10_layCurve_193 : decode cX10_layCurve 193 = .ok (.idiv, 1) := by decide +kernel
theorem dX10_layCurve_194 : decode cX10_layCurve 194 = .ok (.isub, 1) := by decide +kernel
theorem dX10_layCurve_195 : decode cX10_layCurve 195 = .ok (.iload 7, 2) := by decide +kernel
theorem dX10_layCurve_197 : decode cX10_layCurve 197 = .ok (.iadd, 1) := by decide +kernel
theorem dX10_layCurve_198 : decode cX10_layCurve 198 = .ok (.istore 10, 2) := by decide +kernel
theorem dX10_layCurve_200 : decode cX10_layCurve 200 = .ok (.aload_n 0, 1) := by decide +kernel
theorem dX10_layCurve_201 : decode cX10_layCurve 201 = .ok (.getfield 64, 3) := by decide +kernel
theorem dX10_layCurve_204 : decode cX10_layCurve 204 = .ok (.iload 8, 2) := by decide +kernel
theorem dX10_layCurve_206 : decode cX10_layCurve 206 = .ok (.iconst 1, 1) := by decide +kernel
theorem dX10_layCurve_207 : decode cX10_layCurve 207 = .ok (.isub, 1) := by decide +kernel
theorem dX10_layCurve_208 : decode cX10_layCurve 208 = .ok (.iaload, 1) := by decide +kernel
theorem dX10_layCurve_209 : decode cX10_layCurve 209 = .ok (.aload_n 0, 1) := by decide +kernel
theorem dX10_layCurve_210 : decode cX10_layCurve 210 = .ok (.getfield 64, 3) := by decide +kernel
theorem dX10_layCurve_213 : decode cX10_layCurve 213 = .ok (.iload 8, 2) := by decide +kernel
theorem dX10_layCurve_215 : decode cX10_layCurve 215 = .ok (.iconst 1, 1) := by decide +kernel
theorem dX10_layCurve_216 : decode cX10_layCurve 216 = .ok (.isub, 1) := by decide +kernel
theorem dX10_layCurve_217 : decode cX10_layCurve 217 = .ok (.iaload, 1) := by decide +kernel
theorem dX10_layCurve_218 : decode cX10_layCurve 218 = .ok (.iload_n 2, 1) := by decide +kernel
theorem dX10_layCurve_219 : decode cX10_layCurve 219 = .ok (.imul, 1) := by decide +kernel
theorem dX10_layCurve_220 : decode cX10_layCurve 220 = .ok (.sipush 1000, 3) := by decide +kernel
theorem dX10_layCurve_223 : decode cX10_layCurve 223 = .ok (.idiv, 1) := by decide +kernel
theorem dX10_layCurve_224 : decode cX10_layCurve 224 = .ok (.isub, 1) := by decide +kernel
theorem dX10_layCurve_225 : decode cX10_layCurve 225 = .ok (.iload_n 3, 1) := by decide +kernel
theorem dX10_layCurve_226 : decode cX10_layCurve 226 = .ok (.isub, 1) := by decide +kernel
theorem dX10_layCurve_227 : decode cX10_layCurve 227 = .ok (.istore 11, 2) := by decide +kernel
theorem dX10_layCurve_229 : decode cX10_layCurve 229 = .ok (.aload_n 0, 1) := by decide +kernel
theorem dX10_layCurve_230 : decode cX10_layCurve 230 = .ok (.getfield 55, 3) := by decide +kernel
theorem dX10_layCurve_233 : decode cX10_layCurve 233 = .ok (.iload 8, 2) := by decide +kernel
theorem dX10_layCurve_235 : decode cX10_layCurve 235 = .ok (.iconst 1, 1) := by decide +kernel
theorem dX10_layCurve_236 : decode cX10_layCurve 236 = .ok (.isub, 1) := by decide +kernel
theorem dX10_layCurve_237 : decode cX10_layCurve 237 = .ok (.iaload, 1) := by decide +kernel
theorem dX10_layCurve_238 : decode cX10_layCurve 238 = .ok (.iload 11, 2) := by decide +kernel
theorem dX10_layCurve_240 : decode cX10_layCurve 240 = .ok (.iadd, 1) := by decide +kernel
theorem dX10_layCurve_241 : decode cX10_layCurve 241 = .ok (.istore 12, 2) := by decide +kernel
theorem dX10_layCurve_243 : decode cX10_layCurve 243 = .ok (.aload_n 0, 1) := by decide +kernel
theorem dX10_layCurve_244 : decode cX10_layCurve 244 = .ok (.getfield 49, 3) := by decide +kernel
theorem dX10_layCurve_247 : decode cX10_layCurve 247 = .ok (.iload 8, 2) := by decide +kernel
theorem dX10_layCurve_249 : decode cX10_layCurve 249 = .ok (.aload_n 0, 1) := by decide +kernel
theorem dX10_layCurve_250 : decode cX10_layCurve 250 = .ok (.getfield 49, 3) := by decide +kernel
theorem dX10_layCurve_253 : decode cX10_layCurve 253 = .ok (.iload 8, 2) := by decide +kernel
theorem dX10_layCurve_255 : decode cX10_layCurve 255 = .ok (.iconst 1, 1) := by decide +kernel
theorem dX10_layCurve_256 : decode cX10_layCurve 256 = .ok (.isub, 1) := by decide +kernel
theorem dX10_layCurve_257 : decode cX10_layCurve 257 = .ok (.iaload, 1) := by decide +kernel
theorem dX10_layCurve_258 : decode cX10_layCurve 258 = .ok (.iload 9, 2) := by decide +kernel
theorem dX10_layCurve_260 : decode cX10_layCurve 260 = .ok (.iadd, 1) := by decide +kernel
theorem dX10_layCurve_261 : decode cX10_layCurve 261 = .ok (.iastore, 1) := by decide +kernel
theorem dX10_layCurve_262 : decode cX10_layCurve 262 = .ok (.aload_n 0, 1) := by decide +kernel
theorem dX10_layCurve_263 : decode cX10_layCurve 263 = .ok (.getfield 52, 3) := by decide +kernel
theorem dX10_layCurve_266 : decode cX10_layCurve 266 = .ok (.iload 8, 2) := by decide +kernel
theorem dX10_layCurve_268 : decode cX10_layCurve 268 = .ok (.aload_n 0, 1) := by decide +kernel
theorem dX10_layCurve_269 : decode cX10_layCurve 269 = .ok (.getfield 52, 3) := by decide +kernel
theorem dX10_layCurve_272 : decode cX10_layCurve 272 = .ok (.iload 8, 2) := by decide +kernel
theorem dX10_layCurve_274 : decode cX10_layCurve 274 = .ok (.iconst 1, 1) := by decide +kernel
theorem dX10_layCurve_275 : decode cX10_layCurve 275 = .ok (.isub, 1) := by decide +kernel
theorem dX10_layCurve_276 : decode cX10_layCurve 276 = .ok (.iaload, 1) := by decide +kernel
theorem dX10_layCurve_277 : decode cX10_layCurve 277 = .ok (.iload 10, 2) := by decide +kernel
theorem dX10_layCurve_279 : decode cX10_layCurve 279 = .ok (.iadd, 1) := by decide +kernel
theorem dX10_layCurve_280 : decode cX10_layCurve 280 = .ok (.iastore, 1) := by decide +kernel
theorem dX10_layCurve_281 : decode cX10_layCurve 281 = .ok (.iload 12, 2) := by decide +kernel
theorem dX10_layCurve_283 : decode cX10_layCurve 283 = .ok (.ifCond .gt 62, 3) := by decide +kernel
theorem dX10_layCurve_286 : decode cX10_layCurve 286 = .ok (.iload 11, 2) := by decide +kernel
theorem dX10_layCurve_288 : decode cX10_layCurve 288 = .ok (.ifCond .ge 57, 3) := by decide +kernel
theorem dX10_layCurve_291 : decode cX10_layCurve 291 = .ok (.aload_n 0, 1) := by decide +kernel
theorem dX10_layCurve_292 : decode cX10_layCurve 292 = .ok (.getfield 140, 3) := by decide +kernel
theorem dX10_layCurve_295 : decode cX10_layCurve 295 = .ok (.bipush (-4), 2) := by decide +kernel
theorem dX10_layCurve_297 : decode cX10_layCurve 297 = .ok (.if_icmp .ne 22, 3) := by decide +kernel
theorem dX10_layCurve_300 : decode cX10_layCurve 300 = .ok (.aload_n 0, 1) := by decide +kernel
theorem dX10_layCurve_301 : decode cX10_layCurve 301 = .ok (.iload 8, 2) := by decide +kernel
theorem dX10_layCurve_303 : decode cX10_layCurve 303 = .ok (.putfield 140, 3) := by decide +kernel
theorem dX10_layCurve_306 : decode cX10_layCurve 306 = .ok (.aload_n 0, 1) := by decide +kernel
theorem dX10_layCurve_307 : decode cX10_layCurve 307 = .ok (.iload 6, 2) := by decide +kernel
theorem dX10_layCurve_309 : decode cX10_layCurve 309 = .ok (.iload 11, 2) := by decide +kernel
theorem dX10_layCurve_311 : decode cX10_layCurve 311 = .ok (.ineg, 1) := by decide +kernel
theorem dX10_layCurve_312 : decode cX10_layCurve 312 = .ok (.imul, 1) := by decide +kernel
theorem dX10_layCurve_313 : decode cX10_layCurve 313 = .ok (.bipush 10, 2) := by decide +kernel
theorem dX10_layCurve_315 : decode cX10_layCurve 315 = .ok (.idiv, 1) := by decide +kernel
theorem dX10_layCurve_316 : decode cX10_layCurve 316 = .ok (.putfield 143, 3) := by decide +kernel
theorem dX10_layCurve_319 : decode cX10_layCurve 319 = .ok (.iconst 0, 1) := by decide +kernel
theorem dX10_layCurve_320 : decode cX10_layCurve 320 = .ok (.istore 12, 2) := by decide +kernel
theorem dX10_layCurve_322 : decode cX10_layCurve 322 = .ok (.iload 11, 2) := by decide +kernel
theorem dX10_layCurve_324 : decode cX10_layCurve 324 = .ok (.ineg, 1) := by decide +kernel
theorem dX10_layCurve_325 : decode cX10_layCurve 325 = .ok (.iload 4, 2) := by decide +kernel
theorem dX10_layCurve_327 : decode cX10_layCurve 327 = .ok (.imul, 1) := by decide +kernel
theorem dX10_layCurve_328 : decode cX10_layCurve 328 = .ok (.sipush 1000, 3) := by decide +kernel
theorem dX10_layCurve_331 : decode cX10_layCurve 331 = .ok (.idiv, 1) := by decide +kernel
theorem dX10_layCurve_332 : decode cX10_layCurve 332 = .ok (.istore 11, 2) := by decide +kernel
theorem dX10_layCurve_334 : decode cX10_layCurve 334 = .ok (.iload 9, 2) := by decide +kernel
theorem dX10_layCurve_336 : decode cX10_layCurve 336 = .ok (.iload 5, 2) := by decide +kernel
theorem dX10_layCurve_338 : decode cX10_layCurve 338 = .ok (.imul, 1) := by decide +kernel
theorem dX10_layCurve_339 : decode cX10_layCurve 339 = .ok (.sipush 1000, 3) := by decide +kernel
theorem dX10_layCurve_342 : decode cX10_layCurve 342 = .ok (.idiv, 1) := by decide +kernel
theorem dX10_layCurve_343 : decode cX10_layCurve 343 = .ok (.istore 9, 2) := by decide +kernel
theorem dX10_layCurve_345 : decode cX10_layCurve 345 = .ok (.aload_n 0, 1) := by decide +kernel
theorem dX10_layCurve_346 : decode cX10_layCurve 346 = .ok (.getfield 55, 3) := by decide +kernel
theorem dX10_layCurve_349 : decode cX10_layCurve 349 = .ok (.iload 8, 2) := by decide +kernel
theorem dX10_layCurve_351 : decode cX10_layCurve 351 = .ok (.iload 12, 2) := by decide +kernel
theorem dX10_layCurve_353 : decode cX10_layCurve 353 = .ok (.iastore, 1) := by decide +kernel
theorem dX10_layCurve_354 : decode cX10_layCurve 354 = .ok (.aload_n 0, 1) := by decide +kernel
theorem dX10_layCurve_355 : decode cX10_layCurve 355 = .ok (.getfield 58, 3) := by decide +kernel
theorem dX10_layCurve_358 : decode cX10_layCurve 358 = .ok (.iload 8, 2) := by decide +kernel
theorem dX10_layCurve_360 : decode cX10_layCurve 360 = .ok (.iload 9, 2) := by decide +kernel
theorem dX10_layCurve_362 : decode cX10_layCurve 362 = .ok (.iastore, 1) := by decide +kernel
theorem dX10_layCurve_363 : decode cX10_layCurve 363 = .ok (.aload_n 0, 1) := by decide +kernel
theorem dX10_layCurve_364 : decode cX10_layCurve 364 = .ok (.getfield 61, 3) := by decide +kernel
theorem dX10_layCurve_367 : decode cX10_layCurve 367 = .ok (.iload 8, 2) := by decide +kernel
theorem dX10_layCurve_369 : decode cX10_layCurve 369 = .ok (.iload 10, 2) := by decide +kernel
theorem dX10_layCurve_371 : decode cX10_layCurve 371 = .ok (.iastore, 1) := by decide +kernel
theorem dX10_layCurve_372 : decode cX10_layCurve 372 = .ok (.aload_n 0, 1) := by decide +kernel
theorem dX10_layCurve_373 : decode cX10_layCurve 373 = .ok (.getfield 64, 3) := by decide +kernel
theorem dX10_layCurve_376 : decode cX10_layCurve 376 = .ok (.iload 8, 2) := by decide +kernel
theorem dX10_layCurve_378 : decode cX10_layCurve 378 = .ok (.iload 11, 2) := by decide +kernel
theorem dX10_layCurve_380 : decode cX10_layCurve 380 = .ok (.iastore, 1) := by decide +kernel
theorem dX10_layCurve_381 : decode cX10_layCurve 381 = .ok (.iinc 8 1, 3) := by decide +kernel
theorem dX10_layCurve_384 : decode cX10_layCurve 384 = .ok (.goto (-249), 3) := by decide +kernel
theorem dX10_layCurve_387 : decode cX10_layCurve 387 = .ok (.return_, 1) := by decide +kernel
set_option maxRecDepth 20000 in
theorem ggX10_isCurve_X10_in : GoodIn wsX10_isCurve wsX10_in := goodIn_r _ [5] (by decide +kernel) (by decide +kernel)
set_option maxRecDepth 20000 in
theorem gX10_isCurve_X10_in : GoodIn wsX10_isCurve (va_wsS RX10 76 yX10_in wsX10_in) := goodIn_app (goodIn_of _ (by decide +kernel)) ggX10_isCurve_X10_in
theorem dX10_isCurve_0 : decode cX10_isCurve 0 = .ok (.iload_n 0, 1) := by decide +kernel
theorem dX10_isCurve_1 : decode cX10_isCurve 1 = .ok (.i2l, 1) := by decide +kernel
theorem dX10_isCurve_2 : decode cX10_isCurve 2 = .ok (.lconst 0, 1) := by decide +kernel
theorem dX10_isCurve_3 : decode cX10_isCurve 3 = .ok (.ldc2_w 146, 3) := by decide +kernel
theorem dX10_isCurve_6 : decode cX10_isCurve 6 = .ok (.invokestatic 76, 3) := by decide +kernel
theorem dX10_isCurve_9 : decode cX10_isCurve 9 = .ok (.ireturn, 1) := by decide +kernel
set_option maxRecDepth 20000 in
theorem ggX10_at_X10_isCurve : GoodIn wsX10_at wsX10_isCurve := goodIn_r _ [13, 14, 15, 16, 12, 17] (by decide +kernel) (by decide +kernel)
set_option maxRecDepth 20000 in
theorem gX10_at_X10_isCurve : GoodIn wsX10_at (va_wsS RX10 148 yX10_isCurve wsX10_isCurve) := goodIn_app (goodIn_of _ (by decide +kernel)) ggX10_at_X10_isCurve
set_option maxRecDepth 20000 in
theorem ggX10_at_X10_in : GoodIn wsX10_at wsX10_in := goodIn_r _ [17] (by decide +kernel) (by decide +kernel)
set_option maxRecDepth 20000 in
theorem gX10_at_X10_in : GoodIn wsX10_at (va_wsS RX10 76 yX10_in wsX10_in) := goodIn_app (goodIn_of _ (by decide +kernel)) ggX10_at_X10_in
set_option maxRecDepth 20000 in
theorem ggX10_at_X10_layCurve : GoodIn wsX10_at wsX10_layCurve := goodIn_r _ [21, 4, 22, 5, 6, 7, 8, 9, 23, 24, 25, 26, 27, 12, 28, 29, 30, 31, 32, 33, 34, 35, 36, 37, 38, 39, 40, 41, 42, 43, 44, 45, 46, 47, 48, 49, 50, 51, 52, 53, 54, 55, 56, 57, 58, 59, 60, 61, 62] (by decide +kernel) (by decide +kernel)
set_option maxRecDepth 20000 in
theorem gX10_at_X10_layCurve : GoodIn wsX10_at (wsV RX10 154 RX10 yX10_layCurve wsX10_layCurve) := goodIn_app (goodIn_of _ (by decide +kernel)) ggX10_at_X10_layCurve
theorem dX10_at_0 : decode cX10_at 0 = .ok (.iload_n 1, 1) := by decide +kernel
theorem dX10_at_1 : decode cX10_at 1 = .ok (.invokestatic 148, 3) := by decide +kernel
theorem dX10_at_4 : decode cX10_at 4 = .ok (.ifCond .eq 27, 3) := by decide +kernel
theorem dX10_at_7 : decode cX10_at 7 = .ok (.iload_n 2, 1) := by decide +kernel
theorem dX10_at_8 : decode cX10_at 8 = .ok (.i2l, 1) := by decide +kernel
theorem dX10_at_9 : decode cX10_at 9 = .ok (.lconst 0, 1) := by decide +kernel
theorem dX10_at_10 : decode cX10_at 10 = .ok (.ldc2_w 151, 3) := by decide +kernel
theorem dX10_at_13 : decode cX10_at 13 = .ok (.invokestatic 76, 3) := by decide +kernel
theorem dX10_at_16 : decode cX10_at 16 = .ok (.ifCond .eq 15, 3) := by decide +kernel
theorem dX10_at_19 : decode cX10_at 19 = .ok (.iload_n 3, 1) := by decide +kernel
theorem dX10_at_20 : decode cX10_at 20 = .ok (.i2l, 1) := by decide +kernel
theorem dX10_at_21 : decode cX10_at 21 = .ok (.lconst 0, 1) := by decide +kernel
theorem dX10_at_22 : decode cX10_at 22 = .ok (.ldc2_w 122, 3) := by decide +kernel
theorem dX10_at_25 : decode cX10_at 25 = .ok (.invokestatic 76, 3) := by decide +kernel
theorem dX10_at_28 : decode cX10_at 28 = .ok (.ifCond .ne 6, 3) := by decide +kernel
theorem dX10_at_31 : decode cX10_at 31 = .ok (.ldc 153, 2) := by decide +kernel
theorem dX10_at_33 : decode cX10_at 33 = .ok (.ireturn, 1) := by decide +kernel
theorem dX10_at_34 : decode cX10_at 34 = .ok (.aload_n 0, 1) := by decide +kernel
theorem dX10_at_35 : decode cX10_at 35 = .ok (.iload_n 1, 1) := by decide +kernel
theorem dX10_at_36 : decode cX10_at 36 = .ok (.invokevirtual 154, 3) := by decide +kernel
theorem dX10_at_39 : decode cX10_at 39 = .ok (.iload_n 3, 1) := by decide +kernel
theorem dX10_at_40 : decode cX10_at 40 = .ok (.tableswitch 71 0 4 #[36, 43, 50, 57, 64], 36) := by decide +kernel
theorem dX10_at_76 : decode cX10_at 76 = .ok (.aload_n 0, 1) := by decide +kernel
theorem dX10_at_77 : decode cX10_at 77 = .ok (.getfield 49, 3) := by decide +kernel
theorem dX10_at_80 : decode cX10_at 80 = .ok (.iload_n 2, 1) := by decide +kernel
theorem dX10_at_81 : decode cX10_at 81 = .ok (.iaload, 1) := by decide +kernel
theorem dX10_at_82 : decode cX10_at 82 = .ok (.ireturn, 1) := by decide +kernel
theorem dX10_at_83 : decode cX10_at 83 = .ok (.aload_n 0, 1) := by decide +kernel
theorem dX10_at_84 : decode cX10_at 84 = .ok (.getfield 52, 3) := by decide +kernel
theorem dX10_at_87 : decode cX10_at 87 = .ok (.iload_n 2, 1) := by decide +kernel
theorem dX10_at_88 : decode cX10_at 88 = .ok (.iaload, 1) := by decide +kernel
theorem dX10_at_89 : decode cX10_at 89 = .ok (.ireturn, 1) := by decide +kernel
theorem dX10_at_90 : decode cX10_at 90 = .ok (.aload_n 0, 1) := by decide +kernel
theorem dX10_at_91 : decode cX10_at 91 = .ok (.getfield 55, 3) := by decide +kernel
theorem dX10_at_94 : decode cX10_at 94 = .ok (.iload_n 2, 1) := by decide +kernel
theorem dX10_at_95 : decode cX10_at 95 = .ok (.iaload, 1) := by decide +kernel
theorem dX10_at_96 : decode cX10_at 96 = .ok (.ireturn, 1) := by decide +kernel
theorem dX10_at_97 : decode cX10_at 97 = .ok (.aload_n 0, 1) := by decide +kernel
theorem dX10_at_98 : decode cX10_at 98 = .ok (.getfield 58, 3) := by decide +kernel
theorem dX10_at_101 : decode cX10_at 101 = .ok (.iload_n 2, 1) := by decide +kernel
theorem dX10_at_102 : decode cX10_at 102 = .ok (.iaload, 1) := by decide +kernel
theorem dX10_at_103 : decode cX10_at 103 = .ok (.ireturn, 1) := by decide +kernel
theorem dX10_at_104 : decode cX10_at 104 = .ok (.aload_n 0, 1) := by decide +kernel
theorem dX10_at_105 : decode cX10_at 105 = .ok (.getfield 61, 3) := by decide +kernel
theorem dX10_at_108 : decode cX10_at 108 = .ok (.iload_n 2, 1) := by decide +kernel
theorem dX10_at_109 : decode cX10_at 109 = .ok (.iaload, 1) := by decide +kernel
theorem dX10_at_110 : decode cX10_at 110 = .ok (.ireturn, 1) := by decide +kernel
theorem dX10_at_111 : decode cX10_at 111 = .ok (.aload_n 0, 1) := by decide +kernel
theorem dX10_at_112 : decode cX10_at 112 = .ok (.getfield 64, 3) := by decide +kernel
theorem dX10_at_115 : decode cX10_at 115 = .ok (.iload_n 2, 1) := by decide +kernel
theorem dX10_at_116 : decode cX10_at 116 = .ok (.iaload, 1) := by decide +kernel
theorem dX10_at_117 : decode cX10_at 117 = .ok (.ireturn, 1) := by decide +kernel
set_option maxRecDepth 20000 in
theorem ggX10_isOut_X10_lineAt : GoodIn wsX10_isOut wsX10_lineAt := goodIn_r _ [9, 10, 11, 12, 13, 14, 15, 16, 17, 18, 19, 20, 21, 22, 23, 24, 25, 26, 27, 28, 29, 30, 31, 32, 33, 34, 35, 36, 37, 38, 39] (by decide +kernel) (by decide +kernel)
set_option maxRecDepth 20000 in
theorem gX10_isOut_X10_lineAt : GoodIn wsX10_isOut (wsV RX10 131 RX10 yX10_lineAt wsX10_lineAt) := goodIn_app (goodIn_of _ (by decide +kernel)) ggX10_isOut_X10_lineAt
theorem dX10_isOut_0 : decode cX10_isOut 0 = .ok (.aload_n 0, 1) := by decide +kernel
theorem dX10_isOut_1 : decode cX10_isOut 1 = .ok (.getfield 140, 3) := by decide +kernel
theorem dX10_isOut_4 : decode cX10_isOut 4 = .ok (.bipush (-4), 2) := by decide +kernel
theorem dX10_isOut_6 : decode cX10_isOut 6 = .ok (.if_icmp .eq 37, 3) := by decide +kernel
theorem dX10_isOut_9 : decode cX10_isOut 9 = .ok (.aload_n 0, 1) := by decide +kernel
theorem dX10_isOut_10 : decode cX10_isOut 10 = .ok (.getfield 52, 3) := by decide +kernel
theorem dX10_isOut_13 : decode cX10_isOut 13 = .ok (.aload_n 0, 1) := by decide +kernel
theorem dX10_isOut_14 : decode cX10_isOut 14 = .ok (.getfield 140, 3) := by decide +kernel
theorem dX10_isOut_17 : decode cX10_isOut 17 = .ok (.iaload, 1) := by decide +kernel
theorem dX10_isOut_18 : decode cX10_isOut 18 = .ok (.aload_n 0, 1) := by decide +kernel
theorem dX10_isOut_19 : decode cX10_isOut 19 = .ok (.getfield 143, 3) := by decide +kernel
theorem dX10_isOut_22 : decode cX10_isOut 22 = .ok (.isub, 1) := by decide +kernel
theorem dX10_isOut_23 : decode cX10_isOut 23 = .ok (.aload_n 0, 1) := by decide +kernel
theorem dX10_isOut_24 : decode cX10_isOut 24 = .ok (.aload_n 0, 1) := by decide +kernel
theorem dX10_isOut_25 : decode cX10_isOut 25 = .ok (.getfield 49, 3) := by decide +kernel
theorem dX10_isOut_28 : decode cX10_isOut 28 = .ok (.aload_n 0, 1) := by decide +kernel
theorem dX10_isOut_29 : decode cX10_isOut 29 = .ok (.getfield 140, 3) := by decide +kernel
theorem dX10_isOut_32 : decode cX10_isOut 32 = .ok (.iaload, 1) := by decide +kernel
theorem dX10_isOut_33 : decode cX10_isOut 33 = .ok (.invokevirtual 131, 3) := by decide +kernel
theorem dX10_isOut_36 : decode cX10_isOut 36 = .ok (.if_icmp .le 7, 3) := by decide +kernel
theorem dX10_isOut_39 : decode cX10_isOut 39 = .ok (.iconst 1, 1) := by decide +kernel
theorem dX10_isOut_40 : decode cX10_isOut 40 = .ok (.goto 4, 3) := by decide +kernel
theorem dX10_isOut_43 : decode cX10_isOut 43 = .ok (.iconst 0, 1) := by decide +kernel
theorem dX10_isOut_44 : decode cX10_isOut 44 = .ok (.ireturn, 1) := by decide +kernel
set_option maxRecDepth 20000 in
theorem ggX10_touch_X10_isCurve : GoodIn wsX10_touch wsX10_isCurve := goodIn_r _ [11, 12, 13, 14, 10, 15] (by decide +kernel) (by decide +kernel)
set_option maxRecDepth 20000 in
theorem gX10_touch_X10_isCurve : GoodIn wsX10_touch (va_wsS RX10 148 yX10_isCurve wsX10_isCurve) := goodIn_app (goodIn_of _ (by decide +kernel)) ggX10_touch_X10_isCurve
set_option maxRecDepth 20000 in
theorem ggX10_touch_X10_in : GoodIn wsX10_touch wsX10_in := goodIn_r _ [15] (by decide +kernel) (by decide +kernel)
set_option maxRecDepth 20000 in
theorem gX10_touch_X10_in : GoodIn wsX10_touch (va_wsS RX10 76 yX10_in wsX10_in) := goodIn_app (goodIn_of _ (by decide +kernel)) ggX10_touch_X10_in
set_option maxRecDepth 20000 in
theorem ggX10_touch_X10_layCurve : GoodIn wsX10_touch wsX10_layCurve := goodIn_r _ [19, 5, 20, 6, 21, 22, 23, 24, 3, 7, 25, 26, 27, 10, 28, 29, 30, 31, 32, 33, 34, 43, 44, 45, 46, 47, 48, 49, 50, 51, 52, 53, 54, 55, 56, 57, 58, 59, 60, 61, 62, 63, 64, 65, 66, 67, 68, 69, 70] (by decide +kernel) (by decide +kernel)
set_option maxRecDepth 20000 in
theorem gX10_touch_X10_layCurve : GoodIn wsX10_touch (wsV RX10 154 RX10 yX10_layCurve wsX10_layCurve) := goodIn_app (goodIn_of _ (by decide +kernel)) ggX10_touch_X10_layCurve
set_option maxRecDepth 20000 in
theorem ggX10_touch_X10_isOut : GoodIn wsX10_touch wsX10_isOut := goodIn_r _ [38, 3, 6, 7, 5, 39, 40, 41, 10, 42, 34, 29, 43, 44, 45, 46, 47, 48, 49, 50, 51, 52, 53, 54, 55, 56, 57, 58, 59, 60, 61, 62, 63, 64, 65, 66, 67, 68, 69, 70] (by decide +kernel) (by decide +kernel)
set_option maxRecDepth 20000 in
theorem gX10_touch_X10_isOut : GoodIn wsX10_touch (wsV RX10 159 RX10 yX10_isOut wsX10_isOut) := goodIn_app (goodIn_of _ (by decide +kernel)) ggX10_touch_X10_isOut
theorem dX10_touch_0 : decode cX10_touch 0 = .ok (.iload_n 1, 1) := by decide +kernel
theorem dX10_touch_1 : decode cX10_touch 1 = .ok (.invokestatic 148, 3) := by decide +kernel
theorem dX10_touch_4 : decode cX10_touch 4 = .ok (.ifCond .eq 15, 3) := by decide +kernel
theorem dX10_touch_7 : decode cX10_touch 7 = .ok (.iload_n 2, 1) := by decide +kernel
theorem dX10_touch_8 : decode cX10_touch 8 = .ok (.i2l, 1) := by decide +kernel
theorem dX10_touch_9 : decode cX10_touch 9 = .ok (.lconst 0, 1) := by decide +kernel
theorem dX10_touch_10 : decode cX10_touch 10 = .ok (.ldc2_w 97, 3) := by decide +kernel
theorem dX10_touch_13 : decode cX10_touch 13 = .ok (.invokestatic 76, 3) := by decide +kernel
theorem dX10_touch_16 : decode cX10_touch 16 = .ok (.ifCond .ne 6, 3) := by decide +kernel
theorem dX10_touch_19 : decode cX10_touch 19 = .ok (.ldc 153, 2) := by decide +kernel
theorem dX10_touch_21 : decode cX10_touch 21 = .ok (.ireturn, 1) := by decide +kernel
theorem dX10_touch_22 : decode cX10_touch 22 = .ok (.aload_n 0, 1) := by decide +kernel
theorem dX10_touch_23 : decode cX10_touch 23 = .ok (.iload_n 1, 1) := by decide +kernel
theorem dX10_touch_24 : decode cX10_touch 24 = .ok (.invokevirtual 154, 3) := by decide +kernel
theorem dX10_touch_27 : decode cX10_touch 27 = .ok (.aload_n 0, 1) := by decide +kernel
theorem dX10_touch_28 : decode cX10_touch 28 = .ok (.getfield 140, 3) := by decide +kernel
theorem dX10_touch_31 : decode cX10_touch 31 = .ok (.bipush (-4), 2) := by decide +kernel
theorem dX10_touch_33 : decode cX10_touch 33 = .ok (.if_icmp .ne 6, 3) := by decide +kernel
theorem dX10_touch_36 : decode cX10_touch 36 = .ok (.ldc 158, 2) := by decide +kernel
theorem dX10_touch_38 : decode cX10_touch 38 = .ok (.ireturn, 1) := by decide +kernel
theorem dX10_touch_39 : decode cX10_touch 39 = .ok (.iload_n 2, 1) := by decide +kernel
theorem dX10_touch_40 : decode cX10_touch 40 = .ok (.tableswitch 62 0 3 #[32, 37, 47, 57], 32) := by decide +kernel
theorem dX10_touch_72 : decode cX10_touch 72 = .ok (.aload_n 0, 1) := by decide +kernel
theorem dX10_touch_73 : decode cX10_touch 73 = .ok (.getfield 140, 3) := by decide +kernel
theorem dX10_touch_76 : decode cX10_touch 76 = .ok (.ireturn, 1) := by decide +kernel
theorem dX10_touch_77 : decode cX10_touch 77 = .ok (.aload_n 0, 1) := by decide +kernel
theorem dX10_touch_78 : decode cX10_touch 78 = .ok (.getfield 49, 3) := by decide +kernel
theorem dX10_touch_81 : decode cX10_touch 81 = .ok (.aload_n 0, 1) := by decide +kernel
theorem dX10_touch_82 : decode cX10_touch 82 = .ok (.getfield 140, 3) := by decide +kernel
theorem dX10_touch_85 : decode cX10_touch 85 = .ok (.iaload, 1) := by decide +kernel
theorem dX10_touch_86 : decode cX10_touch 86 = .ok (.ireturn, 1) := by decide +kernel
theorem dX10_touch_87 : decode cX10_touch 87 = .ok (.aload_n 0, 1) := by decide +kernel
theorem dX10_touch_88 : decode cX10_touch 88 = .ok (.getfield 52, 3) := by decide +kernel
theorem dX10_touch_91 : decode cX10_touch 91 = .ok (.aload_n 0, 1) := by decide +kernel
theorem dX10_touch_92 : decode cX10_touch 92 = .ok (.getfield 140, 3) := by decide +kernel
theorem dX10_touch_95 : decode cX10_touch 95 = .ok (.iaload, 1) := by decide +kernel
theorem dX10_touch_96 : decode cX10_touch 96 = .ok (.ireturn, 1) := by decide +kernel
theorem dX10_touch_97 : decode cX10_touch 97 = .ok (.aload_n 0, 1) := by decide +kernel
theorem dX10_touch_98 : decode cX10_touch 98 = .ok (.getfield 143, 3) := by decide +kernel
theorem dX10_touch_101 : decode cX10_touch 101 = .ok (.ireturn, 1) := by decide +kernel
theorem dX10_touch_102 : decode cX10_touch 102 = .ok (.aload_n 0, 1) := by decide +kernel
theorem dX10_touch_103 : decode cX10_touch 103 = .ok (.invokevirtual 159, 3) := by decide +kernel
theorem dX10_touch_106 : decode cX10_touch 106 = .ok (.ifCond .eq 7, 3) := by decide +kernel
theorem dX10_touch_109 : decode cX10_touch 109 = .ok (.iconst 1, 1) := by decide +kernel
theorem dX10_touch_110 : decode cX10_touch 110 = .ok (.goto 4, 3) := by decide +kernel
theorem dX10_touch_113 : decode cX10_touch 113 = .ok (.iconst 0, 1) := by decide +kernel
theorem dX10_touch_114 : decode cX10_touch 114 = .ok (.ireturn, 1) := by decide +kernel
set_option maxRecDepth 20000 in
theorem ggX10_camera_X10_in : GoodIn wsX10_camera wsX10_in := goodIn_r _ [9] (by decide +kernel) (by decide +kernel)
set_option maxRecDepth 20000 in
theorem gX10_camera_X10_in : GoodIn wsX10_camera (va_wsS RX10 76 yX10_in wsX10_in) := goodIn_app (goodIn_of _ (by decide +kernel)) ggX10_camera_X10_in
theorem dX10_camera_0 : decode cX10_camera 0 = .ok (.iload_n 1, 1) := by decide +kernel
theorem dX10_camera_1 : decode cX10_camera 1 = .ok (.i2l, 1) := by decide +kernel
theorem dX10_camera_2 : decode cX10_camera 2 = .ok (.lconst 0, 1) := by decide +kernel
theorem dX10_camera_3 : decode cX10_camera 3 = .ok (.ldc2_w 162, 3) := by decide +kernel
theorem dX10_camera_6 : decode cX10_camera 6 = .ok (.invokestatic 76, 3) := by decide +kernel
theorem dX10_camera_9 : decode cX10_camera 9 = .ok (.ifCond .eq 29, 3) := by decide +kernel
theorem dX10_camera_12 : decode cX10_camera 12 = .ok (.iload_n 2, 1) := by decide +kernel
theorem dX10_camera_13 : decode cX10_camera 13 = .ok (.i2l, 1) := by decide +kernel
theorem dX10_camera_14 : decode cX10_camera 14 = .ok (.lconst 0, 1) := by decide +kernel
theorem dX10_camera_15 : decode cX10_camera 15 = .ok (.ldc2_w 164, 3) := by decide +kernel
theorem dX10_camera_18 : decode cX10_camera 18 = .ok (.invokestatic 76, 3) := by decide +kernel
theorem dX10_camera_21 : decode cX10_camera 21 = .ok (.ifCond .eq 17, 3) := by decide +kernel
theorem dX10_camera_24 : decode cX10_camera 24 = .ok (.iload_n 3, 1) := by decide +kernel
theorem dX10_camera_25 : decode cX10_camera 25 = .ok (.i2l, 1) := by decide +kernel
theorem dX10_camera_26 : decode cX10_camera 26 = .ok (.ldc2_w 166, 3) := by decide +kernel
theorem dX10_camera_29 : decode cX10_camera 29 = .ok (.ldc2_w 168, 3) := by decide +kernel
theorem dX10_camera_32 : decode cX10_camera 32 = .ok (.invokestatic 76, 3) := by decide +kernel
theorem dX10_camera_35 : decode cX10_camera 35 = .ok (.ifCond .ne 6, 3) := by decide +kernel
theorem dX10_camera_38 : decode cX10_camera 38 = .ok (.bipush (-100), 2) := by decide +kernel
theorem dX10_camera_40 : decode cX10_camera 40 = .ok (.ireturn, 1) := by decide +kernel
theorem dX10_camera_41 : decode cX10_camera 41 = .ok (.aload_n 0, 1) := by decide +kernel
theorem dX10_camera_42 : decode cX10_camera 42 = .ok (.getfield 31, 3) := by decide +kernel
theorem dX10_camera_45 : decode cX10_camera 45 = .ok (.iconst 3, 1) := by decide +kernel
theorem dX10_camera_46 : decode cX10_camera 46 = .ok (.iload_n 1, 1) := by decide +kernel
theorem dX10_camera_47 : decode cX10_camera 47 = .ok (.imul, 1) := by decide +kernel
theorem dX10_camera_48 : decode cX10_camera 48 = .ok (.iload_n 2, 1) := by decide +kernel
theorem dX10_camera_49 : decode cX10_camera 49 = .ok (.iadd, 1) := by decide +kernel
theorem dX10_camera_50 : decode cX10_camera 50 = .ok (.iaload, 1) := by decide +kernel
theorem dX10_camera_51 : decode cX10_camera 51 = .ok (.istore 4, 2) := by decide +kernel
theorem dX10_camera_53 : decode cX10_camera 53 = .ok (.aload_n 0, 1) := by decide +kernel
theorem dX10_camera_54 : decode cX10_camera 54 = .ok (.getfield 31, 3) := by decide +kernel
theorem dX10_camera_57 : decode cX10_camera 57 = .ok (.iconst 3, 1) := by decide +kernel
theorem dX10_camera_58 : decode cX10_camera 58 = .ok (.iload_n 1, 1) := by decide +kernel
theorem dX10_camera_59 : decode cX10_camera 59 = .ok (.imul, 1) := by decide +kernel
theorem dX10_camera_60 : decode cX10_camera 60 = .ok (.iload_n 2, 1) := by decide +kernel
theorem dX10_camera_61 : decode cX10_camera 61 = .ok (.iadd, 1) := by decide +kernel
theorem dX10_camera_62 : decode cX10_camera 62 = .ok (.iload_n 3, 1) := by decide +kernel
theorem dX10_camera_63 : decode cX10_camera 63 = .ok (.iastore, 1) := by decide +kernel
theorem dX10_camera_64 : decode cX10_camera 64 = .ok (.iload 4, 2) := by decide +kernel
theorem dX10_camera_66 : decode cX10_camera 66 = .ok (.ireturn, 1) := by decide +kernel
theorem dX10_note_0 : decode cX10_note 0 = .ok (.aload_n 0, 1) := by decide +kernel
theorem dX10_note_1 : decode cX10_note 1 = .ok (.getfield 25, 3) := by decide +kernel
theorem dX10_note_4 : decode cX10_note 4 = .ok (.iconst 0, 1) := by decide +kernel
theorem dX10_note_5 : decode cX10_note 5 = .ok (.iaload, 1) := by decide +kernel
theorem dX10_note_6 : decode cX10_note 6 = .ok (.bipush 30, 2) := by decide +kernel
theorem dX10_note_8 : decode cX10_note 8 = .ok (.if_icmp .ne 6, 3) := by decide +kernel
theorem dX10_note_11 : decode cX10_note 11 = .ok (.bipush (-3), 2) := by decide +kernel
theorem dX10_note_13 : decode cX10_note 13 = .ok (.ireturn, 1) := by decide +kernel
theorem dX10_note_14 : decode cX10_note 14 = .ok (.bipush 6, 2) := by decide +kernel
theorem dX10_note_16 : decode cX10_note 16 = .ok (.aload_n 0, 1) := by decide +kernel
theorem dX10_note_17 : decode cX10_note 17 = .ok (.getfield 25, 3) := by decide +kernel
theorem dX10_note_20 : decode cX10_note 20 = .ok (.iconst 0, 1) := by decide +kernel
theorem dX10_note_21 : decode cX10_note 21 = .ok (.iaload, 1) := by decide +kernel
theorem dX10_note_22 : decode cX10_note 22 = .ok (.imul, 1) := by decide +kernel
theorem dX10_note_23 : decode cX10_note 23 = .ok (.istore 7, 2) := by decide +kernel
theorem dX10_note_25 : decode cX10_note 25 = .ok (.aload_n 0, 1) := by decide +kernel
theorem dX10_note_26 : decode cX10_note 26 = .ok (.getfield 28, 3) := by decide +kernel
theorem dX10_note_29 : decode cX10_note 29 = .ok (.iload 7, 2) := by decide +kernel
theorem dX10_note_31 : decode cX10_note 31 = .ok (.iload_n 1, 1) := by decide +kernel
theorem dX10_note_32 : decode cX10_note 32 = .ok (.iastore, 1) := by decide +kernel
theorem dX10_note_33 : decode cX10_note 33 = .ok (.aload_n 0, 1) := by decide +kernel
theorem dX10_note_34 : decode cX10_note 34 = .ok (.getfield 28, 3) := by decide +kernel
theorem dX10_note_37 : decode cX10_note 37 = .ok (.iload 7, 2) := by decide +kernel
theorem dX10_note_39 : decode cX10_note 39 = .ok (.iconst 1, 1) := by decide +kernel
theorem dX10_note_40 : decode cX10_note 40 = .ok (.iadd, 1) := by decide +kernel
theorem dX10_note_41 : decode cX10_note 41 = .ok (.iload_n 2, 1) := by decide +kernel
theorem dX10_note_42 : decode cX10_note 42 = .ok (.iastore, 1) := by decide +kernel
theorem dX10_note_43 : decode cX10_note 43 = .ok (.aload_n 0, 1) := by decide +kernel
theorem dX10_note_44 : decode cX10_note 44 = .ok (.getfield 28, 3) := by decide +kernel
theorem dX10_note_47 : decode cX10_note 47 = .ok (.iload 7, 2) := by decide +kernel
theorem dX10_note_49 : decode cX10_note 49 = .ok (.iconst 2, 1) := by decide +kernel
theorem dX10_note_50 : decode cX10_note 50 = .ok (.iadd, 1) := by decide +kernel
theorem dX10_note_51 : decode cX10_note 51 = .ok (.iload_n 3, 1) := by decide +kernel
theorem dX10_note_52 : decode cX10_note 52 = .ok (.iastore, 1) := by decide +kernel
theorem dX10_note_53 : decode cX10_note 53 = .ok (.aload_n 0, 1) := by decide +kernel
theorem dX10_note_54 : decode cX10_note 54 = .ok (.getfield 28, 3) := by decide +kernel
theorem dX10_note_57 : decode cX10_note 57 = .ok (.iload 7, 2) := by decide +kernel
theorem dX10_note_59 : decode cX10_note 59 = .ok (.iconst 3, 1) := by decide +kernel
theorem dX10_note_60 : decode cX10_note 60 = .ok (.iadd, 1) := by decide +kernel
theorem dX10_note_61 : decode cX10_note 61 = .ok (.iload 4, 2) := by decide +kernel
theorem dX10_note_63 : decode cX10_note 63 = .ok (.iastore, 1) := by decide +kernel
theorem dX10_note_64 : decode cX10_note 64 = .ok (.aload_n 0, 1) := by decide +kernel
theorem dX10_note_65 : decode cX10_note 65 = .ok (.getfield 28, 3) := by decide +kernel
theorem dX10_note_68 : decode cX10_note 68 = .ok (.iload 7, 2) := by decide +kernel
theorem dX10_note_70 : decode cX10_note 70 = .ok (.iconst 4, 1) := by decide +kernel
theorem dX10_note_71 : decode cX10_note 71 = .ok (.iadd, 1) := by decide +kernel
theorem dX10_note_72 : decode cX10_note 72 = .ok (.iload 5, 2) := by decide +kernel
theorem dX10_note_74 : decode cX10_note 74 = .ok (.iastore, 1) := by decide +kernel
theorem dX10_note_75 : decode cX10_note 75 = .ok (.aload_n 0, 1) := by decide +kernel
theorem dX10_note_76 : decode cX10_note 76 = .ok (.getfield 28, 3) := by decide +kernel
theorem dX10_note_79 : decode cX10_note 79 = .ok (.iload 7, 2) := by decide +kernel
theorem dX10_note_81 : decode cX10_note 81 = .ok (.iconst 5, 1) := by decide +kernel
theorem dX10_note_82 : decode cX10_note 82 = .ok (.iadd, 1) := by decide +kernel
theorem dX10_note_83 : decode cX10_note 83 = .ok (.iload 6, 2) := by decide +kernel
theorem dX10_note_85 : decode cX10_note 85 = .ok (.iastore, 1) := by decide +kernel
theorem dX10_note_86 : decode cX10_note 86 = .ok (.aload_n 0, 1) := by decide +kernel
theorem dX10_note_87 : decode cX10_note 87 = .ok (.getfield 25, 3) := by decide +kernel
theorem dX10_note_90 : decode cX10_note 90 = .ok (.iconst 0, 1) := by decide +kernel
theorem dX10_note_91 : decode cX10_note 91 = .ok (.dup2, 1) := by decide +kernel
theorem dX10_note_92 : decode cX10_note 92 = .ok (.iaload, 1) := by decide +kernel
theorem dX10_note_93 : decode cX10_note 93 = .ok (.iconst 1, 1) := by decide +kernel
theorem dX10_note_94 : decode cX10_note 94 = .ok (.iadd, 1) := by decide +kernel
theorem dX10_note_95 : decode cX10_note 95 = .ok (.iastore, 1) := by decide +kernel
theorem dX10_note_96 : decode cX10_note 96 = .ok (.aload_n 0, 1) := by decide +kernel
theorem dX10_note_97 : decode cX10_note 97 = .ok (.getfield 25, 3) := by decide +kernel
theorem dX10_note_100 : decode cX10_note 100 = .ok (.iconst 0, 1) := by decide +kernel
theorem dX10_note_101 : decode cX10_note 101 = .ok (.iaload, 1) := by decide +kernel
theorem dX10_note_102 : decode cX10_note 102 = .ok (.iconst 1, 1) := by decide +kernel
theorem dX10_note_103 : decode cX10_note 103 = .ok (.isub, 1) := by decide +kernel
theorem dX10_note_104 : decode cX10_note 104 = .ok (.ireturn, 1) := by decide +kernel
set_option maxRecDepth 20000 in
theorem ggX10_isPlace_X10_in : GoodIn wsX10_isPlace wsX10_in := goodIn_r _ [6] (by decide +kernel) (by decide +kernel)
set_option maxRecDepth 20000 in
theorem gX10_isPlace_X10_in : GoodIn wsX10_isPlace (va_wsS RX10 76 yX10_in wsX10_in) := goodIn_app (goodIn_of _ (by decide +kernel)) ggX10_isPlace_X10_in
theorem dX10_isPlace_0 : decode cX10_isPlace 0 = .ok (.iload_n 0, 1) := by decide +kernel
theorem dX10_isPlace_1 : decode cX10_isPlace 1 = .ok (.i2l, 1) := by decide +kernel
theorem dX10_isPlace_2 : decode cX10_isPlace 2 = .ok (.ldc2_w 127, 3) := by decide +kernel
theorem dX10_isPlace_5 : decode cX10_isPlace 5 = .ok (.ldc2_w 129, 3) := by decide +kernel
theorem dX10_isPlace_8 : decode cX10_isPlace 8 = .ok (.invokestatic 76, 3) := by decide +kernel
theorem dX10_isPlace_11 : decode cX10_isPlace 11 = .ok (.ifCond .eq 21, 3) := by decide +kernel
theorem dX10_isPlace_14 : decode cX10_isPlace 14 = .ok (.iload_n 1, 1) := by decide +kernel
theorem dX10_isPlace_15 : decode cX10_isPlace 15 = .ok (.i2l, 1) := by decide +kernel
theorem dX10_isPlace_16 : decode cX10_isPlace 16 = .ok (.ldc2_w 127, 3) := by decide +kernel
theorem dX10_isPlace_19 : decode cX10_isPlace 19 = .ok (.ldc2_w 129, 3) := by decide +kernel
theorem dX10_isPlace_22 : decode cX10_isPlace 22 = .ok (.invokestatic 76, 3) := by decide +kernel
theorem dX10_isPlace_25 : decode cX10_isPlace 25 = .ok (.ifCond .eq 7, 3) := by decide +kernel
theorem dX10_isPlace_28 : decode cX10_isPlace 28 = .ok (.iconst 1, 1) := by decide +kernel
theorem dX10_isPlace_29 : decode cX10_isPlace 29 = .ok (.goto 4, 3) := by decide +kernel
theorem dX10_isPlace_32 : decode cX10_isPlace 32 = .ok (.iconst 0, 1) := by decide +kernel
theorem dX10_isPlace_33 : decode cX10_isPlace 33 = .ok (.ireturn, 1) := by decide +kernel
set_option maxRecDepth 20000 in
theorem ggX10_isDoubt_X10_in : GoodIn wsX10_isDoubt wsX10_in := goodIn_r _ [5] (by decide +kernel) (by decide +kernel)
set_option maxRecDepth 20000 in
theorem gX10_isDoubt_X10_in : GoodIn wsX10_isDoubt (va_wsS RX10 76 yX10_in wsX10_in) := goodIn_app (goodIn_of _ (by decide +kernel)) ggX10_isDoubt_X10_in
theorem dX10_isDoubt_0 : decode cX10_isDoubt 0 = .ok (.iload_n 0, 1) := by decide +kernel
theorem dX10_isDoubt_1 : decode cX10_isDoubt 1 = .ok (.i2l, 1) := by decide +kernel
theorem dX10_isDoubt_2 : decode cX10_isDoubt 2 = .ok (.lconst 0, 1) := by decide +kernel
theorem dX10_isDoubt_3 : decode cX10_isDoubt 3 = .ok (.ldc2_w 107, 3) := by decide +kernel
theorem dX10_isDoubt_6 : decode cX10_isDoubt 6 = .ok (.invokestatic 76, 3) := by decide +kernel
theorem dX10_isDoubt_9 : decode cX10_isDoubt 9 = .ok (.ireturn, 1) := by decide +kernel
set_option maxRecDepth 20000 in
theorem ggX10_blur_X10_in : GoodIn wsX10_blur wsX10_in := goodIn_r _ [8] (by decide +kernel) (by decide +kernel)
set_option maxRecDepth 20000 in
theorem gX10_blur_X10_in : GoodIn wsX10_blur (va_wsS RX10 76 yX10_in wsX10_in) := goodIn_app (goodIn_of _ (by decide +kernel)) ggX10_blur_X10_in
set_option maxRecDepth 20000 in
theorem ggX10_blur_X10_isDoubt : GoodIn wsX10_blur wsX10_isDoubt := goodIn_r _ [11, 12, 5, 6, 7, 8] (by decide +kernel) (by decide +kernel)
set_option maxRecDepth 20000 in
theorem gX10_blur_X10_isDoubt : GoodIn wsX10_blur (va_wsS RX10 174 yX10_isDoubt wsX10_isDoubt) := goodIn_app (goodIn_of _ (by decide +kernel)) ggX10_blur_X10_isDoubt
set_option maxRecDepth 20000 in
theorem ggX10_blur_X10_note : GoodIn wsX10_blur wsX10_note := goodIn_r _ [16, 17, 18, 19, 20, 21, 22, 23, 24, 25, 26, 27, 28, 29, 30, 31, 32, 33, 34, 35, 36, 37, 38, 39, 40, 41, 42, 43, 44, 45, 46] (by decide +kernel) (by decide +kernel)
set_option maxRecDepth 20000 in
theorem gX10_blur_X10_note : GoodIn wsX10_blur (wsV RX10 177 RX10 yX10_note wsX10_note) := goodIn_app (goodIn_of _ (by decide +kernel)) ggX10_blur_X10_note
theorem dX10_blur_0 : decode cX10_blur 0 = .ok (.iload_n 1, 1) := by decide +kernel
theorem dX10_blur_1 : decode cX10_blur 1 = .ok (.i2l, 1) := by decide +kernel
theorem dX10_blur_2 : decode cX10_blur 2 = .ok (.lconst 0, 1) := by decide +kernel
theorem dX10_blur_3 : decode cX10_blur 3 = .ok (.ldc2_w 162, 3) := by decide +kernel
theorem dX10_blur_6 : decode cX10_blur 6 = .ok (.invokestatic 76, 3) := by decide +kernel
theorem dX10_blur_9 : decode cX10_blur 9 = .ok (.ifCond .eq 51, 3) := by decide +kernel
theorem dX10_blur_12 : decode cX10_blur 12 = .ok (.iload_n 2, 1) := by decide +kernel
theorem dX10_blur_13 : decode cX10_blur 13 = .ok (.i2l, 1) := by decide +kernel
theorem dX10_blur_14 : decode cX10_blur 14 = .ok (.lconst 0, 1) := by decide +kernel
theorem dX10_blur_15 : decode cX10_blur 15 = .ok (.ldc2_w 151, 3) := by decide +kernel
theorem dX10_blur_18 : decode cX10_blur 18 = .ok (.invokestatic 76, 3) := by decide +kernel
theorem dX10_blur_21 : decode cX10_blur 21 = .ok (.ifCond .eq 39, 3) := by decide +kernel
theorem dX10_blur_24 : decode cX10_blur 24 = .ok (.iload_n 3, 1) := by decide +kernel
theorem dX10_blur_25 : decode cX10_blur 25 = .ok (.i2l, 1) := by decide +kernel
theorem dX10_blur_26 : decode cX10_blur 26 = .ok (.ldc2_w 170, 3) := by decide +kernel
theorem dX10_blur_29 : decode cX10_blur 29 = .ok (.ldc2_w 172, 3) := by decide +kernel
theorem dX10_blur_32 : decode cX10_blur 32 = .ok (.invokestatic 76, 3) := by decide +kernel
theorem dX10_blur_35 : decode cX10_blur 35 = .ok (.ifCond .eq 25, 3) := by decide +kernel
theorem dX10_blur_38 : decode cX10_blur 38 = .ok (.iload 4, 2) := by decide +kernel
theorem dX10_blur_40 : decode cX10_blur 40 = .ok (.invokestatic 174, 3) := by decide +kernel
theorem dX10_blur_43 : decode cX10_blur 43 = .ok (.ifCond .eq 17, 3) := by decide +kernel
theorem dX10_blur_46 : decode cX10_blur 46 = .ok (.aload_n 0, 1) := by decide +kernel
theorem dX10_blur_47 : decode cX10_blur 47 = .ok (.iconst 0, 1) := by decide +kernel
theorem dX10_blur_48 : decode cX10_blur 48 = .ok (.iload_n 1, 1) := by decide +kernel
theorem dX10_blur_49 : decode cX10_blur 49 = .ok (.iload_n 2, 1) := by decide +kernel
theorem dX10_blur_50 : decode cX10_blur 50 = .ok (.iload_n 3, 1) := by decide +kernel
theorem dX10_blur_51 : decode cX10_blur 51 = .ok (.iload 4, 2) := by decide +kernel
theorem dX10_blur_53 : decode cX10_blur 53 = .ok (.iconst 0, 1) := by decide +kernel
theorem dX10_blur_54 : decode cX10_blur 54 = .ok (.invokevirtual 177, 3) := by decide +kernel
theorem dX10_blur_57 : decode cX10_blur 57 = .ok (.goto 4, 3) := by decide +kernel
theorem dX10_blur_60 : decode cX10_blur 60 = .ok (.iconst (-1), 1) := by decide +kernel
theorem dX10_blur_61 : decode cX10_blur 61 = .ok (.ireturn, 1) := by decide +kernel
set_option maxRecDepth 20000 in
theorem ggX10_mark_X10_isPlace : GoodIn wsX10_mark wsX10_isPlace := goodIn_r _ [4, 5, 6, 7, 8, 3, 9] (by decide +kernel) (by decide +kernel)
set_option maxRecDepth 20000 in
theorem gX10_mark_X10_isPlace : GoodIn wsX10_mark (va_wsS RX10 181 yX10_isPlace wsX10_isPlace) := goodIn_app (goodIn_of _ (by decide +kernel)) ggX10_mark_X10_isPlace
set_option maxRecDepth 20000 in
theorem ggX10_mark_X10_isDoubt : GoodIn wsX10_mark wsX10_isDoubt := goodIn_r _ [12, 13, 7, 8, 3, 9] (by decide +kernel) (by decide +kernel)
set_option maxRecDepth 20000 in
theorem gX10_mark_X10_isDoubt : GoodIn wsX10_mark (va_wsS RX10 174 yX10_isDoubt wsX10_isDoubt) := goodIn_app (goodIn_of _ (by decide +kernel)) ggX10_mark_X10_isDoubt
set_option maxRecDepth 20000 in
theorem ggX10_mark_X10_note : GoodIn wsX10_mark wsX10_note := goodIn_r _ [17, 18, 19, 20, 21, 22, 23, 24, 25, 26, 27, 28, 29, 30, 31, 32, 33, 34, 35, 36, 37, 38, 39, 40, 41, 42, 43, 44, 45, 46, 47] (by decide +kernel) (by decide +kernel)
set_option maxRecDepth 20000 in
theorem gX10_mark_X10_note : GoodIn wsX10_mark (wsV RX10 177 RX10 yX10_note wsX10_note) := goodIn_app (goodIn_of _ (by decide +kernel)) ggX10_mark_X10_note
theorem dX10_mark_0 : decode cX10_mark 0 = .ok (.iload_n 1, 1) := by decide +kernel
theorem dX10_mark_1 : decode cX10_mark 1 = .ok (.iload_n 2, 1) := by decide +kernel
theorem dX10_mark_2 : decode cX10_mark 2 = .ok (.invokestatic 181, 3) := by decide +kernel
theorem dX10_mark_5 : decode cX10_mark 5 = .ok (.ifCond .eq 23, 3) := by decide +kernel
theorem dX10_mark_8 : decode cX10_mark 8 = .ok (.iload_n 3, 1) := by decide +kernel
theorem dX10_mark_9 : decode cX10_mark 9 = .ok (.invokestatic 174, 3) := by decide +kernel
theorem dX10_mark_12 : decode cX10_mark 12 = .ok (.ifCond .eq 16, 3) := by decide +kernel
theorem dX10_mark_15 : decode cX10_mark 15 = .ok (.aload_n 0, 1) := by decide +kernel
theorem dX10_mark_16 : decode cX10_mark 16 = .ok (.iconst 1, 1) := by decide +kernel
theorem dX10_mark_17 : decode cX10_mark 17 = .ok (.iload_n 1, 1) := by decide +kernel
theorem dX10_mark_18 : decode cX10_mark 18 = .ok (.iload_n 2, 1) := by decide +kernel
theorem dX10_mark_19 : decode cX10_mark 19 = .ok (.iconst 0, 1) := by decide +kernel
theorem dX10_mark_20 : decode cX10_mark 20 = .ok (.iload_n 3, 1) := by decide +kernel
theorem dX10_mark_21 : decode cX10_mark 21 = .ok (.iconst 0, 1) := by decide +kernel
theorem dX10_mark_22 : decode cX10_mark 22 = .ok (.invokevirtual 177, 3) := by decide +kernel
theorem dX10_mark_25 : decode cX10_mark 25 = .ok (.goto 4, 3) := by decide +kernel
theorem dX10_mark_28 : decode cX10_mark 28 = .ok (.iconst (-1), 1) := by decide +kernel
theorem dX10_mark_29 : decode cX10_mark 29 = .ok (.ireturn, 1) := by decide +kernel
set_option maxRecDepth 20000 in
theorem ggX10_heard_X10_isPlace : GoodIn wsX10_heard wsX10_isPlace := goodIn_r _ [6, 7, 8, 9, 10, 5, 11] (by decide +kernel) (by decide +kernel)
set_option maxRecDepth 20000 in
theorem gX10_heard_X10_isPlace : GoodIn wsX10_heard (va_wsS RX10 181 yX10_isPlace wsX10_isPlace) := goodIn_app (goodIn_of _ (by decide +kernel)) ggX10_heard_X10_isPlace
set_option maxRecDepth 20000 in
theorem ggX10_heard_X10_in : GoodIn wsX10_heard wsX10_in := goodIn_r _ [11] (by decide +kernel) (by decide +kernel)
set_option maxRecDepth 20000 in
theorem gX10_heard_X10_in : GoodIn wsX10_heard (va_wsS RX10 76 yX10_in wsX10_in) := goodIn_app (goodIn_of _ (by decide +kernel)) ggX10_heard_X10_in
set_option maxRecDepth 20000 in
theorem ggX10_heard_X10_isDoubt : GoodIn wsX10_heard wsX10_isDoubt := goodIn_r _ [14, 15, 9, 10, 5, 11] (by decide +kernel) (by decide +kernel)
set_option maxRecDepth 20000 in
theorem gX10_heard_X10_isDoubt : GoodIn wsX10_heard (va_wsS RX10 174 yX10_isDoubt wsX10_isDoubt) := goodIn_app (goodIn_of _ (by decide +kernel)) ggX10_heard_X10_isDoubt
set_option maxRecDepth 20000 in
theorem ggX10_heard_X10_note : GoodIn wsX10_heard wsX10_note := goodIn_r _ [19, 20, 21, 22, 23, 24, 25, 26, 27, 28, 29, 30, 31, 32, 33, 34, 35, 36, 37, 38, 39, 40, 41, 42, 43, 44, 45, 46, 47, 48, 49] (by decide +kernel) (by decide +kernel)
set_option maxRecDepth 20000 in
theorem gX10_heard_X10_note : GoodIn wsX10_heard (wsV RX10 177 RX10 yX10_note wsX10_note) := goodIn_app (goodIn_of _ (by decide +kernel)) ggX10_heard_X10_note
theorem dX10_heard_0 : decode cX10_heard 0 = .ok (.iload_n 1, 1) := by decide +kernel
theorem dX10_heard_1 : decode cX10_heard 1 = .ok (.iload_n 2, 1) := by decide +kernel
theorem dX10_heard_2 : decode cX10_heard 2 = .ok (.invokestatic 181, 3) := by decide +kernel
theorem dX10_heard_5 : decode cX10_heard 5 = .ok (.ifCond .eq 51, 3) := by decide +kernel
theorem dX10_heard_8 : decode cX10_heard 8 = .ok (.iload_n 3, 1) := by decide +kernel
theorem dX10_heard_9 : decode cX10_heard 9 = .ok (.i2l, 1) := by decide +kernel
theorem dX10_heard_10 : decode cX10_heard 10 = .ok (.lconst 0, 1) := by decide +kernel
theorem dX10_heard_11 : decode cX10_heard 11 = .ok (.ldc2_w 151, 3) := by decide +kernel
theorem dX10_heard_14 : decode cX10_heard 14 = .ok (.invokestatic 76, 3) := by decide +kernel
theorem dX10_heard_17 : decode cX10_heard 17 = .ok (.ifCond .eq 39, 3) := by decide +kernel
theorem dX10_heard_20 : decode cX10_heard 20 = .ok (.iload 4, 2) := by decide +kernel
theorem dX10_heard_22 : decode cX10_heard 22 = .ok (.invokestatic 174, 3) := by decide +kernel
theorem dX10_heard_25 : decode cX10_heard 25 = .ok (.ifCond .eq 31, 3) := by decide +kernel
theorem dX10_heard_28 : decode cX10_heard 28 = .ok (.iload 5, 2) := by decide +kernel
theorem dX10_heard_30 : decode cX10_heard 30 = .ok (.i2l, 1) := by decide +kernel
theorem dX10_heard_31 : decode cX10_heard 31 = .ok (.lconst 1, 1) := by decide +kernel
theorem dX10_heard_32 : decode cX10_heard 32 = .ok (.ldc2_w 103, 3) := by decide +kernel
theorem dX10_heard_35 : decode cX10_heard 35 = .ok (.invokestatic 76, 3) := by decide +kernel
theorem dX10_heard_38 : decode cX10_heard 38 = .ok (.ifCond .eq 18, 3) := by decide +kernel
theorem dX10_heard_41 : decode cX10_heard 41 = .ok (.aload_n 0, 1) := by decide +kernel
theorem dX10_heard_42 : decode cX10_heard 42 = .ok (.iconst 2, 1) := by decide +kernel
theorem dX10_heard_43 : decode cX10_heard 43 = .ok (.iload_n 1, 1) := by decide +kernel
theorem dX10_heard_44 : decode cX10_heard 44 = .ok (.iload_n 2, 1) := by decide +kernel
theorem dX10_heard_45 : decode cX10_heard 45 = .ok (.iload_n 3, 1) := by decide +kernel
theorem dX10_heard_46 : decode cX10_heard 46 = .ok (.iload 4, 2) := by decide +kernel
theorem dX10_heard_48 : decode cX10_heard 48 = .ok (.iload 5, 2) := by decide +kernel
theorem dX10_heard_50 : decode cX10_heard 50 = .ok (.invokevirtual 177, 3) := by decide +kernel
theorem dX10_heard_53 : decode cX10_heard 53 = .ok (.goto 4, 3) := by decide +kernel
theorem dX10_heard_56 : decode cX10_heard 56 = .ok (.iconst (-1), 1) := by decide +kernel
theorem dX10_heard_57 : decode cX10_heard 57 = .ok (.ireturn, 1) := by decide +kernel
theorem dX10_noSights_0 : decode cX10_noSights 0 = .ok (.aload_n 0, 1) := by decide +kernel
theorem dX10_noSights_1 : decode cX10_noSights 1 = .ok (.getfield 25, 3) := by decide +kernel
theorem dX10_noSights_4 : decode cX10_noSights 4 = .ok (.iconst 0, 1) := by decide +kernel
theorem dX10_noSights_5 : decode cX10_noSights 5 = .ok (.iaload, 1) := by decide +kernel
theorem dX10_noSights_6 : decode cX10_noSights 6 = .ok (.istore_n 1, 1) := by decide +kernel
theorem dX10_noSights_7 : decode cX10_noSights 7 = .ok (.aload_n 0, 1) := by decide +kernel
theorem dX10_noSights_8 : decode cX10_noSights 8 = .ok (.getfield 25, 3) := by decide +kernel
theorem dX10_noSights_11 : decode cX10_noSights 11 = .ok (.iconst 0, 1) := by decide +kernel
theorem dX10_noSights_12 : decode cX10_noSights 12 = .ok (.iconst 0, 1) := by decide +kernel
theorem dX10_noSights_13 : decode cX10_noSights 13 = .ok (.iastore, 1) := by decide +kernel
theorem dX10_noSights_14 : decode cX10_noSights 14 = .ok (.iload_n 1, 1) := by decide +kernel
theorem dX10_noSights_15 : decode cX10_noSights 15 = .ok (.ireturn, 1) := by decide +kernel
set_option maxRecDepth 20000 in
theorem ggX10_leave_X10_in : GoodIn wsX10_leave wsX10_in := goodIn_r _ [6] (by decide +kernel) (by decide +kernel)
set_option maxRecDepth 20000 in
theorem gX10_leave_X10_in : GoodIn wsX10_leave (va_wsS RX10 76 yX10_in wsX10_in) := goodIn_app (goodIn_of _ (by decide +kernel)) ggX10_leave_X10_in
theorem dX10_leave_0 : decode cX10_leave 0 = .ok (.iload_n 1, 1) := by decide +kernel
theorem dX10_leave_1 : decode cX10_leave 1 = .ok (.i2l, 1) := by decide +kernel
theorem dX10_leave_2 : decode cX10_leave 2 = .ok (.lconst 0, 1) := by decide +kernel
theorem dX10_leave_3 : decode cX10_leave 3 = .ok (.ldc2_w 185, 3) := by decide +kernel
theorem dX10_leave_6 : decode cX10_leave 6 = .ok (.invokestatic 76, 3) := by decide +kernel
theorem dX10_leave_9 : decode cX10_leave 9 = .ok (.ifCond .ne 5, 3) := by decide +kernel
theorem dX10_leave_12 : decode cX10_leave 12 = .ok (.iconst (-1), 1) := by decide +kernel
theorem dX10_leave_13 : decode cX10_leave 13 = .ok (.ireturn, 1) := by decide +kernel
theorem dX10_leave_14 : decode cX10_leave 14 = .ok (.aload_n 0, 1) := by decide +kernel
theorem dX10_leave_15 : decode cX10_leave 15 = .ok (.getfield 22, 3) := by decide +kernel
theorem dX10_leave_18 : decode cX10_leave 18 = .ok (.iconst 0, 1) := by decide +kernel
theorem dX10_leave_19 : decode cX10_leave 19 = .ok (.iaload, 1) := by decide +kernel
theorem dX10_leave_20 : decode cX10_leave 20 = .ok (.istore_n 2, 1) := by decide +kernel
theorem dX10_leave_21 : decode cX10_leave 21 = .ok (.aload_n 0, 1) := by decide +kernel
theorem dX10_leave_22 : decode cX10_leave 22 = .ok (.getfield 22, 3) := by decide +kernel
theorem dX10_leave_25 : decode cX10_leave 25 = .ok (.iconst 0, 1) := by decide +kernel
theorem dX10_leave_26 : decode cX10_leave 26 = .ok (.iload_n 1, 1) := by decide +kernel
theorem dX10_leave_27 : decode cX10_leave 27 = .ok (.iastore, 1) := by decide +kernel
theorem dX10_leave_28 : decode cX10_leave 28 = .ok (.iload_n 2, 1) := by decide +kernel
theorem dX10_leave_29 : decode cX10_leave 29 = .ok (.ireturn, 1) := by decide +kernel
set_option maxRecDepth 20000 in
theorem ggX10_offOf_X10_off : GoodIn wsX10_offOf wsX10_off := goodIn_r _ [9] (by decide +kernel) (by decide +kernel)
set_option maxRecDepth 20000 in
theorem gX10_offOf_X10_off : GoodIn wsX10_offOf (va_wsS RX10 187 yX10_off wsX10_off) := goodIn_app (goodIn_of _ (by decide +kernel)) ggX10_offOf_X10_off
theorem dX10_offOf_0 : decode cX10_offOf 0 = .ok (.iconst 3, 1) := by decide +kernel
theorem dX10_offOf_1 : decode cX10_offOf 1 = .ok (.aload_n 0, 1) := by decide +kernel
theorem dX10_offOf_2 : decode cX10_offOf 2 = .ok (.getfield 28, 3) := by decide +kernel
theorem dX10_offOf_5 : decode cX10_offOf 5 = .ok (.bipush 6, 2) := by decide +kernel
theorem dX10_offOf_7 : decode cX10_offOf 7 = .ok (.iload_n 1, 1) := by decide +kernel
theorem dX10_offOf_8 : decode cX10_offOf 8 = .ok (.imul, 1) := by decide +kernel
theorem dX10_offOf_9 : decode cX10_offOf 9 = .ok (.iconst 1, 1) := by decide +kernel
theorem dX10_offOf_10 : decode cX10_offOf 10 = .ok (.iadd, 1) := by decide +kernel
theorem dX10_offOf_11 : decode cX10_offOf 11 = .ok (.iaload, 1) := by decide +kernel
theorem dX10_offOf_12 : decode cX10_offOf 12 = .ok (.imul, 1) := by decide +kernel
theorem dX10_offOf_13 : decode cX10_offOf 13 = .ok (.istore_n 2, 1) := by decide +kernel
theorem dX10_offOf_14 : decode cX10_offOf 14 = .ok (.aload_n 0, 1) := by decide +kernel
theorem dX10_offOf_15 : decode cX10_offOf 15 = .ok (.getfield 28, 3) := by decide +kernel
theorem dX10_offOf_18 : decode cX10_offOf 18 = .ok (.bipush 6, 2) := by decide +kernel
theorem dX10_offOf_20 : decode cX10_offOf 20 = .ok (.iload_n 1, 1) := by decide +kernel
theorem dX10_offOf_21 : decode cX10_offOf 21 = .ok (.imul, 1) := by decide +kernel
theorem dX10_offOf_22 : decode cX10_offOf 22 = .ok (.iconst 2, 1) := by decide +kernel
theorem dX10_offOf_23 : decode cX10_offOf 23 = .ok (.iadd, 1) := by decide +kernel
theorem dX10_offOf_24 : decode cX10_offOf 24 = .ok (.iaload, 1) := by decide +kernel
theorem dX10_offOf_25 : decode cX10_offOf 25 = .ok (.istore_n 3, 1) := by decide +kernel
theorem dX10_offOf_26 : decode cX10_offOf 26 = .ok (.aload_n 0, 1) := by decide +kernel
theorem dX10_offOf_27 : decode cX10_offOf 27 = .ok (.getfield 31, 3) := by decide +kernel
theorem dX10_offOf_30 : decode cX10_offOf 30 = .ok (.iload_n 2, 1) := by decide +kernel
theorem dX10_offOf_31 : decode cX10_offOf 31 = .ok (.iaload, 1) := by decide +kernel
theorem dX10_offOf_32 : decode cX10_offOf 32 = .ok (.aload_n 0, 1) := by decide +kernel
theorem dX10_offOf_33 : decode cX10_offOf 33 = .ok (.getfield 49, 3) := by decide +kernel
theorem dX10_offOf_36 : decode cX10_offOf 36 = .ok (.iload_n 3, 1) := by decide +kernel
theorem dX10_offOf_37 : decode cX10_offOf 37 = .ok (.iaload, 1) := by decide +kernel
theorem dX10_offOf_38 : decode cX10_offOf 38 = .ok (.imul, 1) := by decide +kernel
theorem dX10_offOf_39 : decode cX10_offOf 39 = .ok (.aload_n 0, 1) := by decide +kernel
theorem dX10_offOf_40 : decode cX10_offOf 40 = .ok (.getfield 31, 3) := by decide +kernel
theorem dX10_offOf_43 : decode cX10_offOf 43 = .ok (.iload_n 2, 1) := by decide +kernel
theorem dX10_offOf_44 : decode cX10_offOf 44 = .ok (.iconst 1, 1) := by decide +kernel
theorem dX10_offOf_45 : decode cX10_offOf 45 = .ok (.iadd, 1) := by decide +kernel
theorem dX10_offOf_46 : decode cX10_offOf 46 = .ok (.iaload, 1) := by decide +kernel
theorem dX10_offOf_47 : decode cX10_offOf 47 = .ok (.aload_n 0, 1) := by decide +kernel
theorem dX10_offOf_48 : decode cX10_offOf 48 = .ok (.getfield 52, 3) := by decide +kernel
theorem dX10_offOf_51 : decode cX10_offOf 51 = .ok (.iload_n 3, 1) := by decide +kernel
theorem dX10_offOf_52 : decode cX10_offOf 52 = .ok (.iaload, 1) := by decide +kernel
theorem dX10_offOf_53 : decode cX10_offOf 53 = .ok (.imul, 1) := by decide +kernel
theorem dX10_offOf_54 : decode cX10_offOf 54 = .ok (.iadd, 1) := by decide +kernel
theorem dX10_offOf_55 : decode cX10_offOf 55 = .ok (.aload_n 0, 1) := by decide +kernel
theorem dX10_offOf_56 : decode cX10_offOf 56 = .ok (.getfield 31, 3) := by decide +kernel
theorem dX10_offOf_59 : decode cX10_offOf 59 = .ok (.iload_n 2, 1) := by decide +kernel
theorem dX10_offOf_60 : decode cX10_offOf 60 = .ok (.iconst 2, 1) := by decide +kernel
theorem dX10_offOf_61 : decode cX10_offOf 61 = .ok (.iadd, 1) := by decide +kernel
theorem dX10_offOf_62 : decode cX10_offOf 62 = .ok (.iaload, 1) := by decide +kernel
theorem dX10_offOf_63 : decode cX10_offOf 63 = .ok (.aload_n 0, 1) := by decide +kernel
theorem dX10_offOf_64 : decode cX10_offOf 64 = .ok (.getfield 55, 3) := by decide +kernel
theorem dX10_offOf_67 : decode cX10_offOf 67 = .ok (.iload_n 3, 1) := by decide +kernel
theorem dX10_offOf_68 : decode cX10_offOf 68 = .ok (.iaload, 1) := by decide +kernel
theorem dX10_offOf_69 : decode cX10_offOf 69 = .ok (.imul, 1) := by decide +kernel
theorem dX10_offOf_70 : decode cX10_offOf 70 = .ok (.iadd, 1) := by decide +kernel
theorem dX10_offOf_71 : decode cX10_offOf 71 = .ok (.bipush 10, 2) := by decide +kernel
theorem dX10_offOf_73 : decode cX10_offOf 73 = .ok (.idiv, 1) := by decide +kernel
theorem dX10_offOf_74 : decode cX10_offOf 74 = .ok (.aload_n 0, 1) := by decide +kernel
theorem dX10_offOf_75 : decode cX10_offOf 75 = .ok (.getfield 28, 3) := by decide +kernel
theorem dX10_offOf_78 : decode cX10_offOf 78 = .ok (.bipush 6, 2) := by decide +kernel
theorem dX10_offOf_80 : decode cX10_offOf 80 = .ok (.iload_n 1, 1) := by decide +kernel
theorem dX10_offOf_81 : decode cX10_offOf 81 = .ok (.imul, 1) := by decide +kernel
theorem dX10_offOf_82 : decode cX10_offOf 82 = .ok (.iconst 3, 1) := by decide +kernel
theorem dX10_offOf_83 : decode cX10_offOf 83 = .ok (.iadd, 1) := by decide +kernel
theorem dX10_offOf_84 : decode cX10_offOf 84 = .ok (.iaload, 1) := by decide +kernel
theorem dX10_offOf_85 : decode cX10_offOf 85 = .ok (.isub, 1) := by decide +kernel
theorem dX10_offOf_86 : decode cX10_offOf 86 = .ok (.invokestatic 187, 3) := by decide +kernel
theorem dX10_offOf_89 : decode cX10_offOf 89 = .ok (.ireturn, 1) := by decide +kernel
set_option maxRecDepth 20000 in
theorem ggX10_fitsNow_X10_offOf : GoodIn wsX10_fitsNow wsX10_offOf := goodIn_r _ [9, 1, 10, 3, 4, 11, 12, 13, 8, 14, 15, 16, 17, 18, 19, 20, 21, 22, 23, 24, 25, 26, 27, 28, 29, 30, 31, 32, 33, 34, 35, 36, 37, 38, 39, 40, 41, 42] (by decide +kernel) (by decide +kernel)
set_option maxRecDepth 20000 in
theorem gX10_fitsNow_X10_offOf : GoodIn wsX10_fitsNow (wsV RX10 190 RX10 yX10_offOf wsX10_offOf) := goodIn_app (goodIn_of _ (by decide +kernel)) ggX10_fitsNow_X10_offOf
set_option maxRecDepth 20000 in
theorem ggX10_fitsNow_X10_off : GoodIn wsX10_fitsNow wsX10_off := goodIn_r _ [14] (by decide +kernel) (by decide +kernel)
set_option maxRecDepth 20000 in
theorem gX10_fitsNow_X10_off : GoodIn wsX10_fitsNow (va_wsS RX10 187 yX10_off wsX10_off) := goodIn_app (goodIn_of _ (by decide +kernel)) ggX10_fitsNow_X10_off
theorem dX10_fitsNow_0 : decode cX10_fitsNow 0 = .ok (.bipush 6, 2) := by decide +kernel
theorem dX10_fitsNow_2 : decode cX10_fitsNow 2 = .ok (.iload_n 1, 1) := by decide +kernel
theorem dX10_fitsNow_3 : decode cX10_fitsNow 3 = .ok (.imul, 1) := by decide +kernel
theorem dX10_fitsNow_4 : decode cX10_fitsNow 4 = .ok (.istore_n 2, 1) := by decide +kernel
theorem dX10_fitsNow_5 : decode cX10_fitsNow 5 = .ok (.aload_n 0, 1) := by decide +kernel
theorem dX10_fitsNow_6 : decode cX10_fitsNow 6 = .ok (.getfield 28, 3) := by decide +kernel
theorem dX10_fitsNow_9 : decode cX10_fitsNow 9 = .ok (.iload_n 2, 1) := by decide +kernel
theorem dX10_fitsNow_10 : decode cX10_fitsNow 10 = .ok (.iaload, 1) := by decide +kernel
theorem dX10_fitsNow_11 : decode cX10_fitsNow 11 = .ok (.ifCond .ne 25, 3) := by decide +kernel
theorem dX10_fitsNow_14 : decode cX10_fitsNow 14 = .ok (.aload_n 0, 1) := by decide +kernel
theorem dX10_fitsNow_15 : decode cX10_fitsNow 15 = .ok (.iload_n 1, 1) := by decide +kernel
theorem dX10_fitsNow_16 : decode cX10_fitsNow 16 = .ok (.invokevirtual 190, 3) := by decide +kernel
theorem dX10_fitsNow_19 : decode cX10_fitsNow 19 = .ok (.aload_n 0, 1) := by decide +kernel
theorem dX10_fitsNow_20 : decode cX10_fitsNow 20 = .ok (.getfield 28, 3) := by decide +kernel
theorem dX10_fitsNow_23 : decode cX10_fitsNow 23 = .ok (.iload_n 2, 1) := by decide +kernel
theorem dX10_fitsNow_24 : decode cX10_fitsNow 24 = .ok (.iconst 4, 1) := by decide +kernel
theorem dX10_fitsNow_25 : decode cX10_fitsNow 25 = .ok (.iadd, 1) := by decide +kernel
theorem dX10_fitsNow_26 : decode cX10_fitsNow 26 = .ok (.iaload, 1) := by decide +kernel
theorem dX10_fitsNow_27 : decode cX10_fitsNow 27 = .ok (.if_icmp .gt 7, 3) := by decide +kernel
theorem dX10_fitsNow_30 : decode cX10_fitsNow 30 = .ok (.iconst 1, 1) := by decide +kernel
theorem dX10_fitsNow_31 : decode cX10_fitsNow 31 = .ok (.goto 4, 3) := by decide +kernel
theorem dX10_fitsNow_34 : decode cX10_fitsNow 34 = .ok (.iconst 0, 1) := by decide +kernel
theorem dX10_fitsNow_35 : decode cX10_fitsNow 35 = .ok (.ireturn, 1) := by decide +kernel
theorem dX10_fitsNow_36 : decode cX10_fitsNow 36 = .ok (.aload_n 0, 1) := by decide +kernel
theorem dX10_fitsNow_37 : decode cX10_fitsNow 37 = .ok (.getfield 140, 3) := by decide +kernel
theorem dX10_fitsNow_40 : decode cX10_fitsNow 40 = .ok (.bipush (-4), 2) := by decide +kernel
theorem dX10_fitsNow_42 : decode cX10_fitsNow 42 = .ok (.if_icmp .ne 5, 3) := by decide +kernel
theorem dX10_fitsNow_45 : decode cX10_fitsNow 45 = .ok (.iconst 0, 1) := by decide +kernel
theorem dX10_fitsNow_46 : decode cX10_fitsNow 46 = .ok (.ireturn, 1) := by decide +kernel
theorem dX10_fitsNow_47 : decode cX10_fitsNow 47 = .ok (.aload_n 0, 1) := by decide +kernel
theorem dX10_fitsNow_48 : decode cX10_fitsNow 48 = .ok (.getfield 49, 3) := by decide +kernel
theorem dX10_fitsNow_51 : decode cX10_fitsNow 51 = .ok (.aload_n 0, 1) := by decide +kernel
theorem dX10_fitsNow_52 : decode cX10_fitsNow 52 = .ok (.getfield 140, 3) := by decide +kernel
theorem dX10_fitsNow_55 : decode cX10_fitsNow 55 = .ok (.iaload, 1) := by decide +kernel
theorem dX10_fitsNow_56 : decode cX10_fitsNow 56 = .ok (.aload_n 0, 1) := by decide +kernel
theorem dX10_fitsNow_57 : decode cX10_fitsNow 57 = .ok (.getfield 28, 3) := by decide +kernel
theorem dX10_fitsNow_60 : decode cX10_fitsNow 60 = .ok (.iload_n 2, 1) := by decide +kernel
theorem dX10_fitsNow_61 : decode cX10_fitsNow 61 = .ok (.iconst 1, 1) := by decide +kernel
theorem dX10_fitsNow_62 : decode cX10_fitsNow 62 = .ok (.iadd, 1) := by decide +kernel
theorem dX10_fitsNow_63 : decode cX10_fitsNow 63 = .ok (.iaload, 1) := by decide +kernel
theorem dX10_fitsNow_64 : decode cX10_fitsNow 64 = .ok (.isub, 1) := by decide +kernel
theorem dX10_fitsNow_65 : decode cX10_fitsNow 65 = .ok (.invokestatic 187, 3) := by decide +kernel
theorem dX10_fitsNow_68 : decode cX10_fitsNow 68 = .ok (.istore_n 3, 1) := by decide +kernel
theorem dX10_fitsNow_69 : decode cX10_fitsNow 69 = .ok (.aload_n 0, 1) := by decide +kernel
theorem dX10_fitsNow_70 : decode cX10_fitsNow 70 = .ok (.getfield 52, 3) := by decide +kernel
theorem dX10_fitsNow_73 : decode cX10_fitsNow 73 = .ok (.aload_n 0, 1) := by decide +kernel
theorem dX10_fitsNow_74 : decode cX10_fitsNow 74 = .ok (.getfield 140, 3) := by decide +kernel
theorem dX10_fitsNow_77 : decode cX10_fitsNow 77 = .ok (.iaload, 1) := by decide +kernel
theorem dX10_fitsNow_78 : decode cX10_fitsNow 78 = .ok (.aload_n 0, 1) := by decide +kernel
theorem dX10_fitsNow_79 : decode cX10_fitsNow 79 = .ok (.getfield 28, 3) := by decide +kernel
theorem dX10_fitsNow_82 : decode cX10_fitsNow 82 = .ok (.iload_n 2, 1) := by decide +kernel
theorem dX10_fitsNow_83 : decode cX10_fitsNow 83 = .ok (.iconst 2, 1) := by decide +kernel
theorem dX10_fitsNow_84 : decode cX10_fitsNow 84 = .ok (.iadd, 1) := by decide +kernel
theorem dX10_fitsNow_85 : decode cX10_fitsNow 85 = .ok (.iaload, 1) := by decide +kernel
theorem dX10_fitsNow_86 : decode cX10_fitsNow 86 = .ok (.isub, 1) := by decide +kernel
theorem dX10_fitsNow_87 : decode cX10_fitsNow 87 = .ok (.invokestatic 187, 3) := by decide +kernel
theorem dX10_fitsNow_90 : decode cX10_fitsNow 90 = .ok (.istore 4, 2) := by decide +kernel
theorem dX10_fitsNow_92 : decode cX10_fitsNow 92 = .ok (.iload_n 3, 1) := by decide +kernel
theorem dX10_fitsNow_93 : decode cX10_fitsNow 93 = .ok (.iload 4, 2) := by decide +kernel
theorem dX10_fitsNow_95 : decode cX10_fitsNow 95 = .ok (.if_icmp .le 7, 3) := by decide +kernel
theorem dX10_fitsNow_98 : decode cX10_fitsNow 98 = .ok (.iload_n 3, 1) := by decide +kernel
theorem dX10_fitsNow_99 : decode cX10_fitsNow 99 = .ok (.goto 5, 3) := by decide +kernel
theorem dX10_fitsNow_102 : decode cX10_fitsNow 102 = .ok (.iload 4, 2) := by decide +kernel
theorem dX10_fitsNow_104 : decode cX10_fitsNow 104 = .ok (.istore 5, 2) := by decide +kernel
theorem dX10_fitsNow_106 : decode cX10_fitsNow 106 = .ok (.aload_n 0, 1) := by decide +kernel
theorem dX10_fitsNow_107 : decode cX10_fitsNow 107 = .ok (.getfield 28, 3) := by decide +kernel
theorem dX10_fitsNow_110 : decode cX10_fitsNow 110 = .ok (.iload_n 2, 1) := by decide +kernel
theorem dX10_fitsNow_111 : decode cX10_fitsNow 111 = .ok (.iaload, 1) := by decide +kernel
theorem dX10_fitsNow_112 : decode cX10_fitsNow 112 = .ok (.iconst 1, 1) := by decide +kernel
theorem dX10_fitsNow_113 : decode cX10_fitsNow 113 = .ok (.if_icmp .ne 22, 3) := by decide +kernel
theorem dX10_fitsNow_116 : decode cX10_fitsNow 116 = .ok (.iload 5, 2) := by decide +kernel
theorem dX10_fitsNow_118 : decode cX10_fitsNow 118 = .ok (.aload_n 0, 1) := by decide +kernel
theorem dX10_fitsNow_119 : decode cX10_fitsNow 119 = .ok (.getfield 28, 3) := by decide +kernel
theorem dX10_fitsNow_122 : decode cX10_fitsNow 122 = .ok (.iload_n 2, 1) := by decide +kernel
theorem dX10_fitsNow_123 : decode cX10_fitsNow 123 = .ok (.iconst 4, 1) := by decide +kernel
theorem dX10_fitsNow_124 : decode cX10_fitsNow 124 = .ok (.iadd, 1) := by decide +kernel
theorem dX10_fitsNow_125 : decode cX10_fitsNow 125 = .ok (.iaload, 1) := by decide +kernel
theorem dX10_fitsNow_126 : decode cX10_fitsNow 126 = .ok (.if_icmp .gt 7, 3) := by decide +kernel
theorem dX10_fitsNow_129 : decode cX10_fitsNow 129 = .ok (.iconst 1, 1) := by decide +kernel
theorem dX10_fitsNow_130 : decode cX10_fitsNow 130 = .ok (.goto 4, 3) := by decide +kernel
theorem dX10_fitsNow_133 : decode cX10_fitsNow 133 = .ok (.iconst 0, 1) := by decide +kernel
theorem dX10_fitsNow_134 : decode cX10_fitsNow 134 = .ok (.ireturn, 1) := by decide +kernel
theorem dX10_fitsNow_135 : decode cX10_fitsNow 135 = .ok (.iload 5, 2) := by decide +kernel
theorem dX10_fitsNow_137 : decode cX10_fitsNow 137 = .ok (.aload_n 0, 1) := by decide +kernel
theorem dX10_fitsNow_138 : decode cX10_fitsNow 138 = .ok (.getfield 28, 3) := by decide +kernel
theorem dX10_fitsNow_141 : decode cX10_fitsNow 141 = .ok (.iload_n 2, 1) := by decide +kernel
theorem dX10_fitsNow_142 : decode cX10_fitsNow 142 = .ok (.iconst 5, 1) := by decide +kernel
theorem dX10_fitsNow_143 : decode cX10_fitsNow 143 = .ok (.iadd, 1) := by decide +kernel
theorem dX10_fitsNow_144 : decode cX10_fitsNow 144 = .ok (.iaload, 1) := by decide +kernel
theorem dX10_fitsNow_145 : decode cX10_fitsNow 145 = .ok (.iadd, 1) := by decide +kernel
theorem dX10_fitsNow_146 : decode cX10_fitsNow 146 = .ok (.iconst 1, 1) := by decide +kernel
theorem dX10_fitsNow_147 : decode cX10_fitsNow 147 = .ok (.isub, 1) := by decide +kernel
theorem dX10_fitsNow_148 : decode cX10_fitsNow 148 = .ok (.aload_n 0, 1) := by decide +kernel
theorem dX10_fitsNow_149 : decode cX10_fitsNow 149 = .ok (.getfield 28, 3) := by decide +kernel
theorem dX10_fitsNow_152 : decode cX10_fitsNow 152 = .ok (.iload_n 2, 1) := by decide +kernel
theorem dX10_fitsNow_153 : decode cX10_fitsNow 153 = .ok (.iconst 5, 1) := by decide +kernel
theorem dX10_fitsNow_154 : decode cX10_fitsNow 154 = .ok (.iadd, 1) := by decide +kernel
theorem dX10_fitsNow_155 : decode cX10_fitsNow 155 = .ok (.iaload, 1) := by decide +kernel
theorem dX10_fitsNow_156 : decode cX10_fitsNow 156 = .ok (.idiv, 1) := by decide +kernel
theorem dX10_fitsNow_157 : decode cX10_fitsNow 157 = .ok (.istore 6, 2) := by decide +kernel
theorem dX10_fitsNow_159 : decode cX10_fitsNow 159 = .ok (.aload_n 0, 1) := by decide +kernel
theorem dX10_fitsNow_160 : decode cX10_fitsNow 160 = .ok (.getfield 140, 3) := by decide +kernel
theorem dX10_fitsNow_163 : decode cX10_fitsNow 163 = .ok (.iload 6, 2) := by decide +kernel
theorem dX10_fitsNow_165 : decode cX10_fitsNow 165 = .ok (.iadd, 1) := by decide +kernel
theorem dX10_fitsNow_166 : decode cX10_fitsNow 166 = .ok (.aload_n 0, 1) := by decide +kernel
theorem dX10_fitsNow_167 : decode cX10_fitsNow 167 = .ok (.getfield 28, 3) := by decide +kernel
theorem dX10_fitsNow_170 : decode cX10_fitsNow 170 = .ok (.iload_n 2, 1) := by decide +kernel
theorem dX10_fitsNow_171 : decode cX10_fitsNow 171 = .ok (.iconst 3, 1) := by decide +kernel
theorem dX10_fitsNow_172 : decode cX10_fitsNow 172 = .ok (.iadd, 1) := by decide +kernel
theorem dX10_fitsNow_173 : decode cX10_fitsNow 173 = .ok (.iaload, 1) := by decide +kernel
theorem dX10_fitsNow_174 : decode cX10_fitsNow 174 = .ok (.isub, 1) := by decide +kernel
theorem dX10_fitsNow_175 : decode cX10_fitsNow 175 = .ok (.invokestatic 187, 3) := by decide +kernel
theorem dX10_fitsNow_178 : decode cX10_fitsNow 178 = .ok (.aload_n 0, 1) := by decide +kernel
theorem dX10_fitsNow_179 : decode cX10_fitsNow 179 = .ok (.getfield 28, 3) := by decide +kernel
theorem dX10_fitsNow_182 : decode cX10_fitsNow 182 = .ok (.iload_n 2, 1) := by decide +kernel
theorem dX10_fitsNow_183 : decode cX10_fitsNow 183 = .ok (.iconst 4, 1) := by decide +kernel
theorem dX10_fitsNow_184 : decode cX10_fitsNow 184 = .ok (.iadd, 1) := by decide +kernel
theorem dX10_fitsNow_185 : decode cX10_fitsNow 185 = .ok (.iaload, 1) := by decide +kernel
theorem dX10_fitsNow_186 : decode cX10_fitsNow 186 = .ok (.if_icmp .gt 7, 3) := by decide +kernel
theorem dX10_fitsNow_189 : decode cX10_fitsNow 189 = .ok (.iconst 1, 1) := by decide +kernel
theorem dX10_fitsNow_190 : decode cX10_fitsNow 190 = .ok (.goto 4, 3) := by decide +kernel
theorem dX10_fitsNow_193 : decode cX10_fitsNow 193 = .ok (.iconst 0, 1) := by decide +kernel
theorem dX10_fitsNow_194 : decode cX10_fitsNow 194 = .ok (.ireturn, 1) := by decide +kernel
theorem dX10_isAsked_0 : decode cX10_isAsked 0 = .ok (.aload_n 0, 1) := by decide +kernel
theorem dX10_isAsked_1 : decode cX10_isAsked 1 = .ok (.getfield 28, 3) := by decide +kernel
theorem dX10_isAsked_4 : decode cX10_isAsked 4 = .ok (.bipush 6, 2) := by decide +kernel
theorem dX10_isAsked_6 : decode cX10_isAsked 6 = .ok (.iload_n 1, 1) := by decide +kernel
theorem dX10_isAsked_7 : decode cX10_isAsked 7 = .ok (.imul, 1) := by decide +kernel
theorem dX10_isAsked_8 : decode cX10_isAsked 8 = .ok (.iaload, 1) := by decide +kernel
theorem dX10_isAsked_9 : decode cX10_isAsked 9 = .ok (.ifCond .ne 21, 3) := by decide +kernel
theorem dX10_isAsked_12 : decode cX10_isAsked 12 = .ok (.iload_n 2, 1) := by decide +kernel
theorem dX10_isAsked_13 : decode cX10_isAsked 13 = .ok (.aload_n 0, 1) := by decide +kernel
theorem dX10_isAsked_14 : decode cX10_isAsked 14 = .ok (.getfield 28, 3) := by decide +kernel
theorem dX10_isAsked_17 : decode cX10_isAsked 17 = .ok (.bipush 6, 2) := by decide +kernel
theorem dX10_isAsked_19 : decode cX10_isAsked 19 = .ok (.iload_n 1, 1) := by decide +kernel
theorem dX10_isAsked_20 : decode cX10_isAsked 20 = .ok (.imul, 1) := by decide +kernel
theorem dX10_isAsked_21 : decode cX10_isAsked 21 = .ok (.iconst 1, 1) := by decide +kernel
theorem dX10_isAsked_22 : decode cX10_isAsked 22 = .ok (.iadd, 1) := by decide +kernel
theorem dX10_isAsked_23 : decode cX10_isAsked 23 = .ok (.iaload, 1) := by decide +kernel
theorem dX10_isAsked_24 : decode cX10_isAsked 24 = .ok (.ishr, 1) := by decide +kernel
theorem dX10_isAsked_25 : decode cX10_isAsked 25 = .ok (.iconst 1, 1) := by decide +kernel
theorem dX10_isAsked_26 : decode cX10_isAsked 26 = .ok (.iand, 1) := by decide +kernel
theorem dX10_isAsked_27 : decode cX10_isAsked 27 = .ok (.ifCond .ne 7, 3) := by decide +kernel
theorem dX10_isAsked_30 : decode cX10_isAsked 30 = .ok (.iconst 1, 1) := by decide +kernel
theorem dX10_isAsked_31 : decode cX10_isAsked 31 = .ok (.goto 4, 3) := by decide +kernel
theorem dX10_isAsked_34 : decode cX10_isAsked 34 = .ok (.iconst 0, 1) := by decide +kernel
theorem dX10_isAsked_35 : decode cX10_isAsked 35 = .ok (.ireturn, 1) := by decide +kernel
set_option maxRecDepth 20000 in
theorem ggX10_fitsAll_X10_isAsked : GoodIn wsX10_fitsAll wsX10_isAsked := goodIn_r _ [7, 2, 24, 25, 26, 27, 28, 29, 30, 31, 32, 33, 34, 35, 36, 37, 38, 39, 40, 41, 42, 43, 44, 45, 46, 47, 48, 49, 50, 51] (by decide +kernel) (by decide +kernel)
set_option maxRecDepth 20000 in
theorem gX10_fitsAll_X10_isAsked : GoodIn wsX10_fitsAll (wsV RX10 193 RX10 yX10_isAsked wsX10_isAsked) := goodIn_app (goodIn_of _ (by decide +kernel)) ggX10_fitsAll_X10_isAsked
set_option maxRecDepth 20000 in
theorem ggX10_fitsAll_X10_fitsNow : GoodIn wsX10_fitsAll wsX10_fitsNow := goodIn_r _ [11, 2, 12, 13, 14, 15, 16, 17, 6, 18, 19, 20, 21, 22, 23, 24, 25, 26, 27, 28, 29, 30, 31, 32, 33, 34, 35, 36, 37, 38, 39, 40, 41, 42, 43, 44, 45, 46, 47, 48, 49, 50, 51] (by decide +kernel) (by decide +kernel)
set_option maxRecDepth 20000 in
theorem gX10_fitsAll_X10_fitsNow : GoodIn wsX10_fitsAll (wsV RX10 196 RX10 yX10_fitsNow wsX10_fitsNow) := goodIn_app (goodIn_of _ (by decide +kernel)) ggX10_fitsAll_X10_fitsNow
theorem dX10_fitsAll_0 : decode cX10_fitsAll 0 = .ok (.iconst 1, 1) := by decide +kernel
theorem dX10_fitsAll_1 : decode cX10_fitsAll 1 = .ok (.istore_n 3, 1) := by decide +kernel
theorem dX10_fitsAll_2 : decode cX10_fitsAll 2 = .ok (.iconst 0, 1) := by decide +kernel
theorem dX10_fitsAll_3 : decode cX10_fitsAll 3 = .ok (.istore 4, 2) := by decide +kernel
theorem dX10_fitsAll_5 : decode cX10_fitsAll 5 = .ok (.iload 4, 2) := by decide +kernel
theorem dX10_fitsAll_7 : decode cX10_fitsAll 7 = .ok (.aload_n 0, 1) := by decide +kernel
theorem dX10_fitsAll_8 : decode cX10_fitsAll 8 = .ok (.getfield 25, 3) := by decide +kernel
theorem dX10_fitsAll_11 : decode cX10_fitsAll 11 = .ok (.iconst 0, 1) := by decide +kernel
theorem dX10_fitsAll_12 : decode cX10_fitsAll 12 = .ok (.iaload, 1) := by decide +kernel
theorem dX10_fitsAll_13 : decode cX10_fitsAll 13 = .ok (.if_icmp .ge 55, 3) := by decide +kernel
theorem dX10_fitsAll_16 : decode cX10_fitsAll 16 = .ok (.iload_n 3, 1) := by decide +kernel
theorem dX10_fitsAll_17 : decode cX10_fitsAll 17 = .ok (.ifCond .eq 51, 3) := by decide +kernel
theorem dX10_fitsAll_20 : decode cX10_fitsAll 20 = .ok (.aload_n 0, 1) := by decide +kernel
theorem dX10_fitsAll_21 : decode cX10_fitsAll 21 = .ok (.iload 4, 2) := by decide +kernel
theorem dX10_fitsAll_23 : decode cX10_fitsAll 23 = .ok (.iload_n 1, 1) := by decide +kernel
theorem dX10_fitsAll_24 : decode cX10_fitsAll 24 = .ok (.invokevirtual 193, 3) := by decide +kernel
theorem dX10_fitsAll_27 : decode cX10_fitsAll 27 = .ok (.ifCond .eq 29, 3) := by decide +kernel
theorem dX10_fitsAll_30 : decode cX10_fitsAll 30 = .ok (.iload_n 2, 1) := by decide +kernel
theorem dX10_fitsAll_31 : decode cX10_fitsAll 31 = .ok (.ifCond .eq 16, 3) := by decide +kernel
theorem dX10_fitsAll_34 : decode cX10_fitsAll 34 = .ok (.aload_n 0, 1) := by decide +kernel
theorem dX10_fitsAll_35 : decode cX10_fitsAll 35 = .ok (.getfield 28, 3) := by decide +kernel
theorem dX10_fitsAll_38 : decode cX10_fitsAll 38 = .ok (.bipush 6, 2) := by decide +kernel
theorem dX10_fitsAll_40 : decode cX10_fitsAll 40 = .ok (.iload 4, 2) := by decide +kernel
theorem dX10_fitsAll_42 : decode cX10_fitsAll 42 = .ok (.imul, 1) := by decide +kernel
theorem dX10_fitsAll_43 : decode cX10_fitsAll 43 = .ok (.iaload, 1) := by decide +kernel
theorem dX10_fitsAll_44 : decode cX10_fitsAll 44 = .ok (.ifCond .ne 12, 3) := by decide +kernel
theorem dX10_fitsAll_47 : decode cX10_fitsAll 47 = .ok (.aload_n 0, 1) := by decide +kernel
theorem dX10_fitsAll_48 : decode cX10_fitsAll 48 = .ok (.iload 4, 2) := by decide +kernel
theorem dX10_fitsAll_50 : decode cX10_fitsAll 50 = .ok (.invokevirtual 196, 3) := by decide +kernel
theorem dX10_fitsAll_53 : decode cX10_fitsAll 53 = .ok (.ifCond .eq 7, 3) := by decide +kernel
theorem dX10_fitsAll_56 : decode cX10_fitsAll 56 = .ok (.iconst 1, 1) := by decide +kernel
theorem dX10_fitsAll_57 : decode cX10_fitsAll 57 = .ok (.goto 4, 3) := by decide +kernel
theorem dX10_fitsAll_60 : decode cX10_fitsAll 60 = .ok (.iconst 0, 1) := by decide +kernel
theorem dX10_fitsAll_61 : decode cX10_fitsAll 61 = .ok (.istore_n 3, 1) := by decide +kernel
theorem dX10_fitsAll_62 : decode cX10_fitsAll 62 = .ok (.iinc 4 1, 3) := by decide +kernel
theorem dX10_fitsAll_65 : decode cX10_fitsAll 65 = .ok (.goto (-60), 3) := by decide +kernel
theorem dX10_fitsAll_68 : decode cX10_fitsAll 68 = .ok (.iload_n 3, 1) := by decide +kernel
theorem dX10_fitsAll_69 : decode cX10_fitsAll 69 = .ok (.ireturn, 1) := by decide +kernel
set_option maxRecDepth 20000 in
theorem ggX10_fits_X10_isCurve : GoodIn wsX10_fits wsX10_isCurve := goodIn_r _ [7, 8, 9, 10, 6, 11] (by decide +kernel) (by decide +kernel)
set_option maxRecDepth 20000 in
theorem gX10_fits_X10_isCurve : GoodIn wsX10_fits (va_wsS RX10 148 yX10_isCurve wsX10_isCurve) := goodIn_app (goodIn_of _ (by decide +kernel)) ggX10_fits_X10_isCurve
set_option maxRecDepth 20000 in
theorem ggX10_fits_X10_in : GoodIn wsX10_fits wsX10_in := goodIn_r _ [11] (by decide +kernel) (by decide +kernel)
set_option maxRecDepth 20000 in
theorem gX10_fits_X10_in : GoodIn wsX10_fits (va_wsS RX10 76 yX10_in wsX10_in) := goodIn_app (goodIn_of _ (by decide +kernel)) ggX10_fits_X10_in
set_option maxRecDepth 20000 in
theorem ggX10_fits_X10_layCurve : GoodIn wsX10_fits wsX10_layCurve := goodIn_r _ [15, 16, 17, 18, 19, 20, 21, 22, 23, 24, 25, 26, 27, 6, 28, 29, 30, 31, 32, 33, 34, 56, 57, 58, 59, 60, 61, 62, 63, 64, 65, 66, 67, 68, 69, 70, 71, 72, 73, 74, 75, 76, 77, 78, 79, 80, 81, 82, 83] (by decide +kernel) (by decide +kernel)
set_option maxRecDepth 20000 in
theorem gX10_fits_X10_layCurve : GoodIn wsX10_fits (wsV RX10 154 RX10 yX10_layCurve wsX10_layCurve) := goodIn_app (goodIn_of _ (by decide +kernel)) ggX10_fits_X10_layCurve
set_option maxRecDepth 20000 in
theorem ggX10_fits_X10_fitsAll : GoodIn wsX10_fits wsX10_fitsAll := goodIn_r _ [38, 2, 39, 40, 41, 42, 6, 43, 44, 45, 46, 47, 23, 16, 18, 48, 49, 50, 51, 52, 19, 53, 54, 55, 56, 57, 58, 59, 60, 61, 62, 63, 64, 65, 66, 67, 68, 69, 70, 71, 72, 73, 74, 75, 76, 77, 78, 79, 80, 81, 82, 83] (by decide +kernel) (by decide +kernel)
set_option maxRecDepth 20000 in
theorem gX10_fits_X10_fitsAll : GoodIn wsX10_fits (wsV RX10 201 RX10 yX10_fitsAll wsX10_fitsAll) := goodIn_app (goodIn_of _ (by decide +kernel)) ggX10_fits_X10_fitsAll
set_option maxRecDepth 20000 in
theorem ggX10_fits_X10_fitsNow : GoodIn wsX10_fits wsX10_fitsNow := goodIn_r _ [47, 39, 23, 16, 18, 48, 49, 50, 6, 51, 52, 19, 53, 54, 55, 56, 57, 58, 59, 60, 61, 62, 63, 64, 65, 66, 67, 68, 69, 70, 71, 72, 73, 74, 75, 76, 77, 78, 79, 80, 81, 82, 83] (by decide +kernel) (by decide +kernel)
set_option maxRecDepth 20000 in
theorem gX10_fits_X10_fitsNow : GoodIn wsX10_fits (wsV RX10 196 RX10 yX10_fitsNow wsX10_fitsNow) := goodIn_app (goodIn_of _ (by decide +kernel)) ggX10_fits_X10_fitsNow
theorem dX10_fits_0 : decode cX10_fits 0 = .ok (.iload_n 1, 1) := by decide +kernel
theorem dX10_fits_1 : decode cX10_fits 1 = .ok (.invokestatic 148, 3) := by decide +kernel
theorem dX10_fits_4 : decode cX10_fits 4 = .ok (.ifCond .eq 23, 3) := by decide +kernel
theorem dX10_fits_7 : decode cX10_fits 7 = .ok (.iload_n 2, 1) := by decide +kernel
theorem dX10_fits_8 : decode cX10_fits 8 = .ok (.i2l, 1) := by decide +kernel
theorem dX10_fits_9 : decode cX10_fits 9 = .ok (.ldc2_w 199, 3) := by decide +kernel
theorem dX10_fits_12 : decode cX10_fits 12 = .ok (.aload_n 0, 1) := by decide +kernel
theorem dX10_fits_13 : decode cX10_fits 13 = .ok (.getfield 25, 3) := by decide +kernel
theorem dX10_fits_16 : decode cX10_fits 16 = .ok (.iconst 0, 1) := by decide +kernel
theorem dX10_fits_17 : decode cX10_fits 17 = .ok (.iaload, 1) := by decide +kernel
theorem dX10_fits_18 : decode cX10_fits 18 = .ok (.iconst 1, 1) := by decide +kernel
theorem dX10_fits_19 : decode cX10_fits 19 = .ok (.isub, 1) := by decide +kernel
theorem dX10_fits_20 : decode cX10_fits 20 = .ok (.i2l, 1) := by decide +kernel
theorem dX10_fits_21 : decode cX10_fits 21 = .ok (.invokestatic 76, 3) := by decide +kernel
theorem dX10_fits_24 : decode cX10_fits 24 = .ok (.ifCond .ne 5, 3) := by decide +kernel
theorem dX10_fits_27 : decode cX10_fits 27 = .ok (.iconst (-1), 1) := by decide +kernel
theorem dX10_fits_28 : decode cX10_fits 28 = .ok (.ireturn, 1) := by decide +kernel
theorem dX10_fits_29 : decode cX10_fits 29 = .ok (.aload_n 0, 1) := by decide +kernel
theorem dX10_fits_30 : decode cX10_fits 30 = .ok (.iload_n 1, 1) := by decide +kernel
theorem dX10_fits_31 : decode cX10_fits 31 = .ok (.invokevirtual 154, 3) := by decide +kernel
theorem dX10_fits_34 : decode cX10_fits 34 = .ok (.iload_n 2, 1) := by decide +kernel
theorem dX10_fits_35 : decode cX10_fits 35 = .ok (.ifCond .ge 20, 3) := by decide +kernel
theorem dX10_fits_38 : decode cX10_fits 38 = .ok (.aload_n 0, 1) := by decide +kernel
theorem dX10_fits_39 : decode cX10_fits 39 = .ok (.aload_n 0, 1) := by decide +kernel
theorem dX10_fits_40 : decode cX10_fits 40 = .ok (.getfield 22, 3) := by decide +kernel
theorem dX10_fits_43 : decode cX10_fits 43 = .ok (.iconst 0, 1) := by decide +kernel
theorem dX10_fits_44 : decode cX10_fits 44 = .ok (.iaload, 1) := by decide +kernel
theorem dX10_fits_45 : decode cX10_fits 45 = .ok (.iconst 0, 1) := by decide +kernel
theorem dX10_fits_46 : decode cX10_fits 46 = .ok (.invokevirtual 201, 3) := by decide +kernel
theorem dX10_fits_49 : decode cX10_fits 49 = .ok (.ifCond .eq 18, 3) := by decide +kernel
theorem dX10_fits_52 : decode cX10_fits 52 = .ok (.goto 11, 3) := by decide +kernel
theorem dX10_fits_55 : decode cX10_fits 55 = .ok (.aload_n 0, 1) := by decide +kernel
theorem dX10_fits_56 : decode cX10_fits 56 = .ok (.iload_n 2, 1) := by decide +kernel
theorem dX10_fits_57 : decode cX10_fits 57 = .ok (.invokevirtual 196, 3) := by decide +kernel
theorem dX10_fits_60 : decode cX10_fits 60 = .ok (.ifCond .eq 7, 3) := by decide +kernel
theorem dX10_fits_63 : decode cX10_fits 63 = .ok (.iconst 1, 1) := by decide +kernel
theorem dX10_fits_64 : decode cX10_fits 64 = .ok (.goto 4, 3) := by decide +kernel
theorem dX10_fits_67 : decode cX10_fits 67 = .ok (.iconst 0, 1) := by decide +kernel
theorem dX10_fits_68 : decode cX10_fits 68 = .ok (.ireturn, 1) := by decide +kernel
set_option maxRecDepth 20000 in
theorem ggX10_fitting_X10_layCurve : GoodIn wsX10_fitting wsX10_layCurve := goodIn_r _ [6, 7, 8, 9, 10, 11, 12, 13, 14, 15, 16, 17, 18, 5, 19, 20, 21, 22, 23, 24, 25, 48, 49, 50, 51, 52, 53, 54, 55, 56, 57, 58, 59, 60, 61, 62, 63, 64, 65, 66, 67, 68, 69, 70, 71, 72, 73, 74, 75] (by decide +kernel) (by decide +kernel)
set_option maxRecDepth 20000 in
theorem gX10_fitting_X10_layCurve : GoodIn wsX10_fitting (wsV RX10 154 RX10 yX10_layCurve wsX10_layCurve) := goodIn_app (goodIn_of _ (by decide +kernel)) ggX10_fitting_X10_layCurve
set_option maxRecDepth 20000 in
theorem ggX10_fitting_X10_fitsAll : GoodIn wsX10_fitting wsX10_fitsAll := goodIn_r _ [29, 30, 31, 32, 33, 34, 5, 35, 36, 37, 38, 39, 14, 7, 9, 40, 41, 42, 43, 44, 10, 45, 46, 47, 48, 49, 50, 51, 52, 53, 54, 55, 56, 57, 58, 59, 60, 61, 62, 63, 64, 65, 66, 67, 68, 69, 70, 71, 72, 73, 74, 75] (by decide +kernel) (by decide +kernel)
set_option maxRecDepth 20000 in
theorem gX10_fitting_X10_fitsAll : GoodIn wsX10_fitting (wsV RX10 201 RX10 yX10_fitsAll wsX10_fitsAll) := goodIn_app (goodIn_of _ (by decide +kernel)) ggX10_fitting_X10_fitsAll
theorem dX10_fitting_0 : decode cX10_fitting 0 = .ok (.iload_n 1, 1) := by decide +kernel
theorem dX10_fitting_1 : decode cX10_fitting 1 = .ok (.iconst (-1), 1) := by decide +kernel
theorem dX10_fitting_2 : decode cX10_fitting 2 = .ok (.if_icmp .ge 5, 3) := by decide +kernel
theorem dX10_fitting_5 : decode cX10_fitting 5 = .ok (.iconst (-1), 1) := by decide +kernel
theorem dX10_fitting_6 : decode cX10_fitting 6 = .ok (.ireturn, 1) := by decide +kernel
theorem dX10_fitting_7 : decode cX10_fitting 7 = .ok (.iconst 0, 1) := by decide +kernel
theorem dX10_fitting_8 : decode cX10_fitting 8 = .ok (.istore_n 2, 1) := by decide +kernel
theorem dX10_fitting_9 : decode cX10_fitting 9 = .ok (.iconst 0, 1) := by decide +kernel
theorem dX10_fitting_10 : decode cX10_fitting 10 = .ok (.istore_n 3, 1) := by decide +kernel
theorem dX10_fitting_11 : decode cX10_fitting 11 = .ok (.iload_n 3, 1) := by decide +kernel
theorem dX10_fitting_12 : decode cX10_fitting 12 = .ok (.sipush 189, 3) := by decide +kernel
theorem dX10_fitting_15 : decode cX10_fitting 15 = .ok (.if_icmp .ge 38, 3) := by decide +kernel
theorem dX10_fitting_18 : decode cX10_fitting 18 = .ok (.aload_n 0, 1) := by decide +kernel
theorem dX10_fitting_19 : decode cX10_fitting 19 = .ok (.iload_n 3, 1) := by decide +kernel
theorem dX10_fitting_20 : decode cX10_fitting 20 = .ok (.invokevirtual 154, 3) := by decide +kernel
theorem dX10_fitting_23 : decode cX10_fitting 23 = .ok (.aload_n 0, 1) := by decide +kernel
theorem dX10_fitting_24 : decode cX10_fitting 24 = .ok (.aload_n 0, 1) := by decide +kernel
theorem dX10_fitting_25 : decode cX10_fitting 25 = .ok (.getfield 22, 3) := by decide +kernel
theorem dX10_fitting_28 : decode cX10_fitting 28 = .ok (.iconst 0, 1) := by decide +kernel
theorem dX10_fitting_29 : decode cX10_fitting 29 = .ok (.iaload, 1) := by decide +kernel
theorem dX10_fitting_30 : decode cX10_fitting 30 = .ok (.iconst 0, 1) := by decide +kernel
theorem dX10_fitting_31 : decode cX10_fitting 31 = .ok (.invokevirtual 201, 3) := by decide +kernel
theorem dX10_fitting_34 : decode cX10_fitting 34 = .ok (.ifCond .eq 13, 3) := by decide +kernel
theorem dX10_fitting_37 : decode cX10_fitting 37 = .ok (.iload_n 2, 1) := by decide +kernel
theorem dX10_fitting_38 : decode cX10_fitting 38 = .ok (.iload_n 1, 1) := by decide +kernel
theorem dX10_fitting_39 : decode cX10_fitting 39 = .ok (.if_icmp .ne 5, 3) := by decide +kernel
theorem dX10_fitting_42 : decode cX10_fitting 42 = .ok (.iload_n 3, 1) := by decide +kernel
theorem dX10_fitting_43 : decode cX10_fitting 43 = .ok (.ireturn, 1) := by decide +kernel
theorem dX10_fitting_44 : decode cX10_fitting 44 = .ok (.iinc 2 1, 3) := by decide +kernel
theorem dX10_fitting_47 : decode cX10_fitting 47 = .ok (.iinc 3 1, 3) := by decide +kernel
theorem dX10_fitting_50 : decode cX10_fitting 50 = .ok (.goto (-39), 3) := by decide +kernel
theorem dX10_fitting_53 : decode cX10_fitting 53 = .ok (.iload_n 1, 1) := by decide +kernel
theorem dX10_fitting_54 : decode cX10_fitting 54 = .ok (.ifCond .ge 7, 3) := by decide +kernel
theorem dX10_fitting_57 : decode cX10_fitting 57 = .ok (.iload_n 2, 1) := by decide +kernel
theorem dX10_fitting_58 : decode cX10_fitting 58 = .ok (.goto 5, 3) := by decide +kernel
theorem dX10_fitting_61 : decode cX10_fitting 61 = .ok (.bipush (-4), 2) := by decide +kernel
theorem dX10_fitting_63 : decode cX10_fitting 63 = .ok (.ireturn, 1) := by decide +kernel
set_option maxRecDepth 20000 in
theorem ggX10_odds_X10_in : GoodIn wsX10_odds wsX10_in := goodIn_r _ [7] (by decide +kernel) (by decide +kernel)
set_option maxRecDepth 20000 in
theorem gX10_odds_X10_in : GoodIn wsX10_odds (va_wsS RX10 76 yX10_in wsX10_in) := goodIn_app (goodIn_of _ (by decide +kernel)) ggX10_odds_X10_in
set_option maxRecDepth 20000 in
theorem ggX10_odds_X10_layCurve : GoodIn wsX10_odds wsX10_layCurve := goodIn_r _ [11, 12, 13, 14, 15, 16, 17, 18, 3, 19, 20, 21, 22, 6, 23, 24, 25, 26, 27, 28, 29, 60, 61, 62, 63, 64, 65, 66, 67, 68, 69, 70, 71, 72, 73, 74, 75, 76, 77, 78, 79, 80, 81, 82, 83, 84, 85, 86, 87] (by decide +kernel) (by decide +kernel)
set_option maxRecDepth 20000 in
theorem gX10_odds_X10_layCurve : GoodIn wsX10_odds (wsV RX10 154 RX10 yX10_layCurve wsX10_layCurve) := goodIn_app (goodIn_of _ (by decide +kernel)) ggX10_odds_X10_layCurve
set_option maxRecDepth 20000 in
theorem ggX10_odds_X10_fitsAll : GoodIn wsX10_odds wsX10_fitsAll := goodIn_r _ [33, 34, 35, 36, 37, 38, 6, 39, 40, 41, 42, 43, 3, 12, 14, 44, 45, 46, 47, 48, 15, 49, 50, 51, 60, 61, 62, 63, 64, 65, 66, 67, 68, 69, 70, 71, 72, 73, 74, 75, 76, 77, 78, 79, 80, 81, 82, 83, 84, 85, 86, 87] (by decide +kernel) (by decide +kernel)
set_option maxRecDepth 20000 in
theorem gX10_odds_X10_fitsAll : GoodIn wsX10_odds (wsV RX10 201 RX10 yX10_fitsAll wsX10_fitsAll) := goodIn_app (goodIn_of _ (by decide +kernel)) ggX10_odds_X10_fitsAll
set_option maxRecDepth 20000 in
theorem ggX10_odds_X10_isOut : GoodIn wsX10_odds wsX10_isOut := goodIn_r _ [55, 3, 14, 19, 12, 56, 57, 58, 6, 59, 29, 24, 60, 61, 62, 63, 64, 65, 66, 67, 68, 69, 70, 71, 72, 73, 74, 75, 76, 77, 78, 79, 80, 81, 82, 83, 84, 85, 86, 87] (by decide +kernel) (by decide +kernel)
set_option maxRecDepth 20000 in
theorem gX10_odds_X10_isOut : GoodIn wsX10_odds (wsV RX10 159 RX10 yX10_isOut wsX10_isOut) := goodIn_app (goodIn_of _ (by decide +kernel)) ggX10_odds_X10_isOut
set_option maxRecDepth 20000 in
theorem ggX10_odds_X10_lawOf : GoodIn wsX10_odds wsX10_lawOf := goodIn_r _ [23, 24, 25, 26, 27, 6, 28, 29, 60, 61, 62, 63, 64, 65, 66, 67, 68, 69, 70, 71, 72, 73, 74, 75, 76, 77, 78, 79, 80, 81, 82, 83, 84, 85, 86, 87] (by decide +kernel) (by decide +kernel)
set_option maxRecDepth 20000 in
theorem gX10_odds_X10_lawOf : GoodIn wsX10_odds (wsV RX10 124 RX10 yX10_lawOf wsX10_lawOf) := goodIn_app (goodIn_of _ (by decide +kernel)) ggX10_odds_X10_lawOf
theorem dX10_odds_0 : decode cX10_odds 0 = .ok (.iload_n 1, 1) := by decide +kernel
theorem dX10_odds_1 : decode cX10_odds 1 = .ok (.i2l, 1) := by decide +kernel
theorem dX10_odds_2 : decode cX10_odds 2 = .ok (.lconst 0, 1) := by decide +kernel
theorem dX10_odds_3 : decode cX10_odds 3 = .ok (.ldc2_w 164, 3) := by decide +kernel
theorem dX10_odds_6 : decode cX10_odds 6 = .ok (.invokestatic 76, 3) := by decide +kernel
theorem dX10_odds_9 : decode cX10_odds 9 = .ok (.ifCond .ne 5, 3) := by decide +kernel
theorem dX10_odds_12 : decode cX10_odds 12 = .ok (.iconst (-1), 1) := by decide +kernel
theorem dX10_odds_13 : decode cX10_odds 13 = .ok (.ireturn, 1) := by decide +kernel
theorem dX10_odds_14 : decode cX10_odds 14 = .ok (.iconst 0, 1) := by decide +kernel
theorem dX10_odds_15 : decode cX10_odds 15 = .ok (.istore_n 2, 1) := by decide +kernel
theorem dX10_odds_16 : decode cX10_odds 16 = .ok (.iconst 0, 1) := by decide +kernel
theorem dX10_odds_17 : decode cX10_odds 17 = .ok (.istore_n 3, 1) := by decide +kernel
theorem dX10_odds_18 : decode cX10_odds 18 = .ok (.iconst 0, 1) := by decide +kernel
theorem dX10_odds_19 : decode cX10_odds 19 = .ok (.istore 4, 2) := by decide +kernel
theorem dX10_odds_21 : decode cX10_odds 21 = .ok (.iconst 0, 1) := by decide +kernel
theorem dX10_odds_22 : decode cX10_odds 22 = .ok (.istore 5, 2) := by decide +kernel
theorem dX10_odds_24 : decode cX10_odds 24 = .ok (.iload 5, 2) := by decide +kernel
theorem dX10_odds_26 : decode cX10_odds 26 = .ok (.sipush 189, 3) := by decide +kernel
theorem dX10_odds_29 : decode cX10_odds 29 = .ok (.if_icmp .ge 73, 3) := by decide +kernel
theorem dX10_odds_32 : decode cX10_odds 32 = .ok (.aload_n 0, 1) := by decide +kernel
theorem dX10_odds_33 : decode cX10_odds 33 = .ok (.iload 5, 2) := by decide +kernel
theorem dX10_odds_35 : decode cX10_odds 35 = .ok (.invokevirtual 154, 3) := by decide +kernel
theorem dX10_odds_38 : decode cX10_odds 38 = .ok (.aload_n 0, 1) := by decide +kernel
theorem dX10_odds_39 : decode cX10_odds 39 = .ok (.aload_n 0, 1) := by decide +kernel
theorem dX10_odds_40 : decode cX10_odds 40 = .ok (.getfield 22, 3) := by decide +kernel
theorem dX10_odds_43 : decode cX10_odds 43 = .ok (.iconst 0, 1) := by decide +kernel
theorem dX10_odds_44 : decode cX10_odds 44 = .ok (.iaload, 1) := by decide +kernel
theorem dX10_odds_45 : decode cX10_odds 45 = .ok (.iconst 0, 1) := by decide +kernel
theorem dX10_odds_46 : decode cX10_odds 46 = .ok (.invokevirtual 201, 3) := by decide +kernel
theorem dX10_odds_49 : decode cX10_odds 49 = .ok (.ifCond .eq 47, 3) := by decide +kernel
theorem dX10_odds_52 : decode cX10_odds 52 = .ok (.iinc 2 1, 3) := by decide +kernel
theorem dX10_odds_55 : decode cX10_odds 55 = .ok (.iload_n 3, 1) := by decide +kernel
theorem dX10_odds_56 : decode cX10_odds 56 = .ok (.aload_n 0, 1) := by decide +kernel
theorem dX10_odds_57 : decode cX10_odds 57 = .ok (.invokevirtual 159, 3) := by decide +kernel
theorem dX10_odds_60 : decode cX10_odds 60 = .ok (.ifCond .eq 7, 3) := by decide +kernel
theorem dX10_odds_63 : decode cX10_odds 63 = .ok (.iconst 1, 1) := by decide +kernel
theorem dX10_odds_64 : decode cX10_odds 64 = .ok (.goto 4, 3) := by decide +kernel
theorem dX10_odds_67 : decode cX10_odds 67 = .ok (.iconst 0, 1) := by decide +kernel
theorem dX10_odds_68 : decode cX10_odds 68 = .ok (.iadd, 1) := by decide +kernel
theorem dX10_odds_69 : decode cX10_odds 69 = .ok (.istore_n 3, 1) := by decide +kernel
theorem dX10_odds_70 : decode cX10_odds 70 = .ok (.iload 4, 2) := by decide +kernel
theorem dX10_odds_72 : decode cX10_odds 72 = .ok (.aload_n 0, 1) := by decide +kernel
theorem dX10_odds_73 : decode cX10_odds 73 = .ok (.getfield 140, 3) := by decide +kernel
theorem dX10_odds_76 : decode cX10_odds 76 = .ok (.bipush (-4), 2) := by decide +kernel
theorem dX10_odds_78 : decode cX10_odds 78 = .ok (.if_icmp .eq 14, 3) := by decide +kernel
theorem dX10_odds_81 : decode cX10_odds 81 = .ok (.aload_n 0, 1) := by decide +kernel
theorem dX10_odds_82 : decode cX10_odds 82 = .ok (.invokevirtual 159, 3) := by decide +kernel
theorem dX10_odds_85 : decode cX10_odds 85 = .ok (.ifCond .ne 7, 3) := by decide +kernel
theorem dX10_odds_88 : decode cX10_odds 88 = .ok (.iconst 1, 1) := by decide +kernel
theorem dX10_odds_89 : decode cX10_odds 89 = .ok (.goto 4, 3) := by decide +kernel
theorem dX10_odds_92 : decode cX10_odds 92 = .ok (.iconst 0, 1) := by decide +kernel
theorem dX10_odds_93 : decode cX10_odds 93 = .ok (.iadd, 1) := by decide +kernel
theorem dX10_odds_94 : decode cX10_odds 94 = .ok (.istore 4, 2) := by decide +kernel
theorem dX10_odds_96 : decode cX10_odds 96 = .ok (.iinc 5 1, 3) := by decide +kernel
theorem dX10_odds_99 : decode cX10_odds 99 = .ok (.goto (-75), 3) := by decide +kernel
theorem dX10_odds_102 : decode cX10_odds 102 = .ok (.iload_n 1, 1) := by decide +kernel
theorem dX10_odds_103 : decode cX10_odds 103 = .ok (.iconst 2, 1) := by decide +kernel
theorem dX10_odds_104 : decode cX10_odds 104 = .ok (.if_icmp .ge 14, 3) := by decide +kernel
theorem dX10_odds_107 : decode cX10_odds 107 = .ok (.iload_n 1, 1) := by decide +kernel
theorem dX10_odds_108 : decode cX10_odds 108 = .ok (.ifCond .ne 7, 3) := by decide +kernel
theorem dX10_odds_111 : decode cX10_odds 111 = .ok (.iload_n 3, 1) := by decide +kernel
theorem dX10_odds_112 : decode cX10_odds 112 = .ok (.goto 5, 3) := by decide +kernel
theorem dX10_odds_115 : decode cX10_odds 115 = .ok (.iload 4, 2) := by decide +kernel
theorem dX10_odds_117 : decode cX10_odds 117 = .ok (.ireturn, 1) := by decide +kernel
theorem dX10_odds_118 : decode cX10_odds 118 = .ok (.aload_n 0, 1) := by decide +kernel
theorem dX10_odds_119 : decode cX10_odds 119 = .ok (.iconst 5, 1) := by decide +kernel
theorem dX10_odds_120 : decode cX10_odds 120 = .ok (.invokevirtual 124, 3) := by decide +kernel
theorem dX10_odds_123 : decode cX10_odds 123 = .ok (.iload_n 2, 1) := by decide +kernel
theorem dX10_odds_124 : decode cX10_odds 124 = .ok (.imul, 1) := by decide +kernel
theorem dX10_odds_125 : decode cX10_odds 125 = .ok (.istore 5, 2) := by decide +kernel
theorem dX10_odds_127 : decode cX10_odds 127 = .ok (.iload_n 2, 1) := by decide +kernel
theorem dX10_odds_128 : decode cX10_odds 128 = .ok (.ifCond .ne 8, 3) := by decide +kernel
theorem dX10_odds_131 : decode cX10_odds 131 = .ok (.bipush (-4), 2) := by decide +kernel
theorem dX10_odds_133 : decode cX10_odds 133 = .ok (.goto 31, 3) := by decide +kernel
theorem dX10_odds_136 : decode cX10_odds 136 = .ok (.bipush 100, 2) := by decide +kernel
theorem dX10_odds_138 : decode cX10_odds 138 = .ok (.iload_n 3, 1) := by decide +kernel
theorem dX10_odds_139 : decode cX10_odds 139 = .ok (.imul, 1) := by decide +kernel
theorem dX10_odds_140 : decode cX10_odds 140 = .ok (.iload 5, 2) := by decide +kernel
theorem dX10_odds_142 : decode cX10_odds 142 = .ok (.if_icmp .lt 7, 3) := by decide +kernel
theorem dX10_odds_145 : decode cX10_odds 145 = .ok (.iconst 2, 1) := by decide +kernel
theorem dX10_odds_146 : decode cX10_odds 146 = .ok (.goto 18, 3) := by decide +kernel
theorem dX10_odds_149 : decode cX10_odds 149 = .ok (.bipush 100, 2) := by decide +kernel
theorem dX10_odds_151 : decode cX10_odds 151 = .ok (.iload 4, 2) := by decide +kernel
theorem dX10_odds_153 : decode cX10_odds 153 = .ok (.imul, 1) := by decide +kernel
theorem dX10_odds_154 : decode cX10_odds 154 = .ok (.iload 5, 2) := by decide +kernel
theorem dX10_odds_156 : decode cX10_odds 156 = .ok (.if_icmp .lt 7, 3) := by decide +kernel
theorem dX10_odds_159 : decode cX10_odds 159 = .ok (.iconst 0, 1) := by decide +kernel
theorem dX10_odds_160 : decode cX10_odds 160 = .ok (.goto 4, 3) := by decide +kernel
theorem dX10_odds_163 : decode cX10_odds 163 = .ok (.iconst 1, 1) := by decide +kernel
theorem dX10_odds_164 : decode cX10_odds 164 = .ok (.ireturn, 1) := by decide +kernel
set_option maxRecDepth 20000 in
theorem ggX10_shown_X10_in : GoodIn wsX10_shown wsX10_in := goodIn_r _ [7] (by decide +kernel) (by decide +kernel)
set_option maxRecDepth 20000 in
theorem gX10_shown_X10_in : GoodIn wsX10_shown (va_wsS RX10 76 yX10_in wsX10_in) := goodIn_app (goodIn_of _ (by decide +kernel)) ggX10_shown_X10_in
set_option maxRecDepth 20000 in
theorem ggX10_shown_X10_layCurve : GoodIn wsX10_shown wsX10_layCurve := goodIn_r _ [11, 12, 13, 14, 15, 16, 17, 18, 19, 20, 21, 22, 23, 6, 24, 25, 26, 27, 28, 29, 30, 43, 44, 45, 46, 47, 48, 49, 50, 51, 52, 53, 54, 55, 56, 57, 58, 59, 60, 61, 62, 63, 64, 65, 66, 67, 68, 69, 70] (by decide +kernel) (by decide +kernel)
set_option maxRecDepth 20000 in
theorem gX10_shown_X10_layCurve : GoodIn wsX10_shown (wsV RX10 154 RX10 yX10_layCurve wsX10_layCurve) := goodIn_app (goodIn_of _ (by decide +kernel)) ggX10_shown_X10_layCurve
set_option maxRecDepth 20000 in
theorem ggX10_shown_X10_isAsked : GoodIn wsX10_shown wsX10_isAsked := goodIn_r _ [34, 2, 43, 44, 45, 46, 47, 48, 49, 50, 51, 52, 53, 54, 55, 56, 57, 58, 59, 60, 61, 62, 63, 64, 65, 66, 67, 68, 69, 70] (by decide +kernel) (by decide +kernel)
set_option maxRecDepth 20000 in
theorem gX10_shown_X10_isAsked : GoodIn wsX10_shown (wsV RX10 193 RX10 yX10_isAsked wsX10_isAsked) := goodIn_app (goodIn_of _ (by decide +kernel)) ggX10_shown_X10_isAsked
set_option maxRecDepth 20000 in
theorem ggX10_shown_X10_offOf : GoodIn wsX10_shown wsX10_offOf := goodIn_r _ [38, 2, 39, 12, 14, 15, 40, 41, 6, 42, 43, 44, 45, 46, 47, 48, 49, 50, 51, 52, 53, 54, 55, 56, 57, 58, 59, 60, 61, 62, 63, 64, 65, 66, 67, 68, 69, 70] (by decide +kernel) (by decide +kernel)
set_option maxRecDepth 20000 in
theorem gX10_shown_X10_offOf : GoodIn wsX10_shown (wsV RX10 190 RX10 yX10_offOf wsX10_offOf) := goodIn_app (goodIn_of _ (by decide +kernel)) ggX10_shown_X10_offOf
theorem dX10_shown_0 : decode cX10_shown 0 = .ok (.iload_n 1, 1) := by decide +kernel
theorem dX10_shown_1 : decode cX10_shown 1 = .ok (.i2l, 1) := by decide +kernel
theorem dX10_shown_2 : decode cX10_shown 2 = .ok (.lconst 0, 1) := by decide +kernel
theorem dX10_shown_3 : decode cX10_shown 3 = .ok (.lconst 1, 1) := by decide +kernel
theorem dX10_shown_4 : decode cX10_shown 4 = .ok (.invokestatic 76, 3) := by decide +kernel
theorem dX10_shown_7 : decode cX10_shown 7 = .ok (.ifCond .ne 5, 3) := by decide +kernel
theorem dX10_shown_10 : decode cX10_shown 10 = .ok (.iconst (-1), 1) := by decide +kernel
theorem dX10_shown_11 : decode cX10_shown 11 = .ok (.ireturn, 1) := by decide +kernel
theorem dX10_shown_12 : decode cX10_shown 12 = .ok (.bipush (-4), 2) := by decide +kernel
theorem dX10_shown_14 : decode cX10_shown 14 = .ok (.istore_n 2, 1) := by decide +kernel
theorem dX10_shown_15 : decode cX10_shown 15 = .ok (.iconst 0, 1) := by decide +kernel
theorem dX10_shown_16 : decode cX10_shown 16 = .ok (.istore_n 3, 1) := by decide +kernel
theorem dX10_shown_17 : decode cX10_shown 17 = .ok (.iconst 0, 1) := by decide +kernel
theorem dX10_shown_18 : decode cX10_shown 18 = .ok (.istore 4, 2) := by decide +kernel
theorem dX10_shown_20 : decode cX10_shown 20 = .ok (.iload 4, 2) := by decide +kernel
theorem dX10_shown_22 : decode cX10_shown 22 = .ok (.sipush 189, 3) := by decide +kernel
theorem dX10_shown_25 : decode cX10_shown 25 = .ok (.if_icmp .ge 99, 3) := by decide +kernel
theorem dX10_shown_28 : decode cX10_shown 28 = .ok (.aload_n 0, 1) := by decide +kernel
theorem dX10_shown_29 : decode cX10_shown 29 = .ok (.iload 4, 2) := by decide +kernel
theorem dX10_shown_31 : decode cX10_shown 31 = .ok (.invokevirtual 154, 3) := by decide +kernel
theorem dX10_shown_34 : decode cX10_shown 34 = .ok (.iconst 0, 1) := by decide +kernel
theorem dX10_shown_35 : decode cX10_shown 35 = .ok (.istore 5, 2) := by decide +kernel
theorem dX10_shown_37 : decode cX10_shown 37 = .ok (.iconst 0, 1) := by decide +kernel
theorem dX10_shown_38 : decode cX10_shown 38 = .ok (.istore 6, 2) := by decide +kernel
theorem dX10_shown_40 : decode cX10_shown 40 = .ok (.iload 6, 2) := by decide +kernel
theorem dX10_shown_42 : decode cX10_shown 42 = .ok (.aload_n 0, 1) := by decide +kernel
theorem dX10_shown_43 : decode cX10_shown 43 = .ok (.getfield 25, 3) := by decide +kernel
theorem dX10_shown_46 : decode cX10_shown 46 = .ok (.iconst 0, 1) := by decide +kernel
theorem dX10_shown_47 : decode cX10_shown 47 = .ok (.iaload, 1) := by decide +kernel
theorem dX10_shown_48 : decode cX10_shown 48 = .ok (.if_icmp .ge 52, 3) := by decide +kernel
theorem dX10_shown_51 : decode cX10_shown 51 = .ok (.iload 5, 2) := by decide +kernel
theorem dX10_shown_53 : decode cX10_shown 53 = .ok (.aload_n 0, 1) := by decide +kernel
theorem dX10_shown_54 : decode cX10_shown 54 = .ok (.getfield 28, 3) := by decide +kernel
theorem dX10_shown_57 : decode cX10_shown 57 = .ok (.bipush 6, 2) := by decide +kernel
theorem dX10_shown_59 : decode cX10_shown 59 = .ok (.iload 6, 2) := by decide +kernel
theorem dX10_shown_61 : decode cX10_shown 61 = .ok (.imul, 1) := by decide +kernel
theorem dX10_shown_62 : decode cX10_shown 62 = .ok (.iaload, 1) := by decide +kernel
theorem dX10_shown_63 : decode cX10_shown 63 = .ok (.ifCond .ne 27, 3) := by decide +kernel
theorem dX10_shown_66 : decode cX10_shown 66 = .ok (.aload_n 0, 1) := by decide +kernel
theorem dX10_shown_67 : decode cX10_shown 67 = .ok (.iload 6, 2) := by decide +kernel
theorem dX10_shown_69 : decode cX10_shown 69 = .ok (.aload_n 0, 1) := by decide +kernel
theorem dX10_shown_70 : decode cX10_shown 70 = .ok (.getfield 22, 3) := by decide +kernel
theorem dX10_shown_73 : decode cX10_shown 73 = .ok (.iconst 0, 1) := by decide +kernel
theorem dX10_shown_74 : decode cX10_shown 74 = .ok (.iaload, 1) := by decide +kernel
theorem dX10_shown_75 : decode cX10_shown 75 = .ok (.invokevirtual 193, 3) := by decide +kernel
theorem dX10_shown_78 : decode cX10_shown 78 = .ok (.ifCond .eq 12, 3) := by decide +kernel
theorem dX10_shown_81 : decode cX10_shown 81 = .ok (.aload_n 0, 1) := by decide +kernel
theorem dX10_shown_82 : decode cX10_shown 82 = .ok (.iload 6, 2) := by decide +kernel
theorem dX10_shown_84 : decode cX10_shown 84 = .ok (.invokevirtual 190, 3) := by decide +kernel
theorem dX10_shown_87 : decode cX10_shown 87 = .ok (.goto 4, 3) := by decide +kernel
theorem dX10_shown_90 : decode cX10_shown 90 = .ok (.iconst 0, 1) := by decide +kernel
theorem dX10_shown_91 : decode cX10_shown 91 = .ok (.iadd, 1) := by decide +kernel
theorem dX10_shown_92 : decode cX10_shown 92 = .ok (.istore 5, 2) := by decide +kernel
theorem dX10_shown_94 : decode cX10_shown 94 = .ok (.iinc 6 1, 3) := by decide +kernel
theorem dX10_shown_97 : decode cX10_shown 97 = .ok (.goto (-57), 3) := by decide +kernel
theorem dX10_shown_100 : decode cX10_shown 100 = .ok (.iload_n 2, 1) := by decide +kernel
theorem dX10_shown_101 : decode cX10_shown 101 = .ok (.bipush (-4), 2) := by decide +kernel
theorem dX10_shown_103 : decode cX10_shown 103 = .ok (.if_icmp .eq 9, 3) := by decide +kernel
theorem dX10_shown_106 : decode cX10_shown 106 = .ok (.iload 5, 2) := by decide +kernel
theorem dX10_shown_108 : decode cX10_shown 108 = .ok (.iload_n 3, 1) := by decide +kernel
theorem dX10_shown_109 : decode cX10_shown 109 = .ok (.if_icmp .ge 9, 3) := by decide +kernel
theorem dX10_shown_112 : decode cX10_shown 112 = .ok (.iload 4, 2) := by decide +kernel
theorem dX10_shown_114 : decode cX10_shown 114 = .ok (.istore_n 2, 1) := by decide +kernel
theorem dX10_shown_115 : decode cX10_shown 115 = .ok (.iload 5, 2) := by decide +kernel
theorem dX10_shown_117 : decode cX10_shown 117 = .ok (.istore_n 3, 1) := by decide +kernel
theorem dX10_shown_118 : decode cX10_shown 118 = .ok (.iinc 4 1, 3) := by decide +kernel
theorem dX10_shown_121 : decode cX10_shown 121 = .ok (.goto (-101), 3) := by decide +kernel
theorem dX10_shown_124 : decode cX10_shown 124 = .ok (.iload_n 1, 1) := by decide +kernel
theorem dX10_shown_125 : decode cX10_shown 125 = .ok (.ifCond .ne 7, 3) := by decide +kernel
theorem dX10_shown_128 : decode cX10_shown 128 = .ok (.iload_n 2, 1) := by decide +kernel
theorem dX10_shown_129 : decode cX10_shown 129 = .ok (.goto 4, 3) := by decide +kernel
theorem dX10_shown_132 : decode cX10_shown 132 = .ok (.iload_n 3, 1) := by decide +kernel
theorem dX10_shown_133 : decode cX10_shown 133 = .ok (.ireturn, 1) := by decide +kernel
set_option maxRecDepth 20000 in
theorem ggX10_apart_X10_isCurve : GoodIn wsX10_apart wsX10_isCurve := goodIn_r _ [7, 8, 9, 10, 6, 11] (by decide +kernel) (by decide +kernel)
set_option maxRecDepth 20000 in
theorem gX10_apart_X10_isCurve : GoodIn wsX10_apart (va_wsS RX10 148 yX10_isCurve wsX10_isCurve) := goodIn_app (goodIn_of _ (by decide +kernel)) ggX10_apart_X10_isCurve
set_option maxRecDepth 20000 in
theorem ggX10_apart_X10_layCurve : GoodIn wsX10_apart wsX10_layCurve := goodIn_r _ [15, 2, 16, 3, 17, 18, 19, 20, 1, 21, 22, 23, 24, 6, 25, 26, 27, 28, 29, 30, 31, 35, 36, 37, 38, 39, 40, 41, 42, 43, 44, 45, 46, 47, 48, 49, 50, 51, 52, 53, 54, 55, 56, 57, 58, 59, 60, 61, 62] (by decide +kernel) (by decide +kernel)
set_option maxRecDepth 20000 in
theorem gX10_apart_X10_layCurve : GoodIn wsX10_apart (wsV RX10 154 RX10 yX10_layCurve wsX10_layCurve) := goodIn_app (goodIn_of _ (by decide +kernel)) ggX10_apart_X10_layCurve
set_option maxRecDepth 20000 in
theorem ggX10_apart_X10_off : GoodIn wsX10_apart wsX10_off := goodIn_r _ [34] (by decide +kernel) (by decide +kernel)
set_option maxRecDepth 20000 in
theorem gX10_apart_X10_off : GoodIn wsX10_apart (va_wsS RX10 187 yX10_off wsX10_off) := goodIn_app (goodIn_of _ (by decide +kernel)) ggX10_apart_X10_off
theorem dX10_apart_0 : decode cX10_apart 0 = .ok (.iload_n 1, 1) := by decide +kernel
theorem dX10_apart_1 : decode cX10_apart 1 = .ok (.invokestatic 148, 3) := by decide +kernel
theorem dX10_apart_4 : decode cX10_apart 4 = .ok (.ifCond .eq 10, 3) := by decide +kernel
theorem dX10_apart_7 : decode cX10_apart 7 = .ok (.iload_n 2, 1) := by decide +kernel
theorem dX10_apart_8 : decode cX10_apart 8 = .ok (.invokestatic 148, 3) := by decide +kernel
theorem dX10_apart_11 : decode cX10_apart 11 = .ok (.ifCond .ne 5, 3) := by decide +kernel
theorem dX10_apart_14 : decode cX10_apart 14 = .ok (.iconst (-1), 1) := by decide +kernel
theorem dX10_apart_15 : decode cX10_apart 15 = .ok (.ireturn, 1) := by decide +kernel
theorem dX10_apart_16 : decode cX10_apart 16 = .ok (.aload_n 0, 1) := by decide +kernel
theorem dX10_apart_17 : decode cX10_apart 17 = .ok (.iload_n 1, 1) := by decide +kernel
theorem dX10_apart_18 : decode cX10_apart 18 = .ok (.invokevirtual 154, 3) := by decide +kernel
theorem dX10_apart_21 : decode cX10_apart 21 = .ok (.aload_n 0, 1) := by decide +kernel
theorem dX10_apart_22 : decode cX10_apart 22 = .ok (.getfield 140, 3) := by decide +kernel
theorem dX10_apart_25 : decode cX10_apart 25 = .ok (.bipush (-4), 2) := by decide +kernel
theorem dX10_apart_27 : decode cX10_apart 27 = .ok (.if_icmp .ne 6, 3) := by decide +kernel
theorem dX10_apart_30 : decode cX10_apart 30 = .ok (.bipush (-4), 2) := by decide +kernel
theorem dX10_apart_32 : decode cX10_apart 32 = .ok (.ireturn, 1) := by decide +kernel
theorem dX10_apart_33 : decode cX10_apart 33 = .ok (.aload_n 0, 1) := by decide +kernel
theorem dX10_apart_34 : decode cX10_apart 34 = .ok (.getfield 49, 3) := by decide +kernel
theorem dX10_apart_37 : decode cX10_apart 37 = .ok (.aload_n 0, 1) := by decide +kernel
theorem dX10_apart_38 : decode cX10_apart 38 = .ok (.getfield 140, 3) := by decide +kernel
theorem dX10_apart_41 : decode cX10_apart 41 = .ok (.iaload, 1) := by decide +kernel
theorem dX10_apart_42 : decode cX10_apart 42 = .ok (.istore_n 3, 1) := by decide +kernel
theorem dX10_apart_43 : decode cX10_apart 43 = .ok (.aload_n 0, 1) := by decide +kernel
theorem dX10_apart_44 : decode cX10_apart 44 = .ok (.getfield 52, 3) := by decide +kernel
theorem dX10_apart_47 : decode cX10_apart 47 = .ok (.aload_n 0, 1) := by decide +kernel
theorem dX10_apart_48 : decode cX10_apart 48 = .ok (.getfield 140, 3) := by decide +kernel
theorem dX10_apart_51 : decode cX10_apart 51 = .ok (.iaload, 1) := by decide +kernel
theorem dX10_apart_52 : decode cX10_apart 52 = .ok (.istore 4, 2) := by decide +kernel
theorem dX10_apart_54 : decode cX10_apart 54 = .ok (.aload_n 0, 1) := by decide +kernel
theorem dX10_apart_55 : decode cX10_apart 55 = .ok (.iload_n 2, 1) := by decide +kernel
theorem dX10_apart_56 : decode cX10_apart 56 = .ok (.invokevirtual 154, 3) := by decide +kernel
theorem dX10_apart_59 : decode cX10_apart 59 = .ok (.aload_n 0, 1) := by decide +kernel
theorem dX10_apart_60 : decode cX10_apart 60 = .ok (.getfield 140, 3) := by decide +kernel
theorem dX10_apart_63 : decode cX10_apart 63 = .ok (.bipush (-4), 2) := by decide +kernel
theorem dX10_apart_65 : decode cX10_apart 65 = .ok (.if_icmp .ne 6, 3) := by decide +kernel
theorem dX10_apart_68 : decode cX10_apart 68 = .ok (.bipush (-4), 2) := by decide +kernel
theorem dX10_apart_70 : decode cX10_apart 70 = .ok (.ireturn, 1) := by decide +kernel
theorem dX10_apart_71 : decode cX10_apart 71 = .ok (.aload_n 0, 1) := by decide +kernel
theorem dX10_apart_72 : decode cX10_apart 72 = .ok (.getfield 49, 3) := by decide +kernel
theorem dX10_apart_75 : decode cX10_apart 75 = .ok (.aload_n 0, 1) := by decide +kernel
theorem dX10_apart_76 : decode cX10_apart 76 = .ok (.getfield 140, 3) := by decide +kernel
theorem dX10_apart_79 : decode cX10_apart 79 = .ok (.iaload, 1) := by decide +kernel
theorem dX10_apart_80 : decode cX10_apart 80 = .ok (.iload_n 3, 1) := by decide +kernel
theorem dX10_apart_81 : decode cX10_apart 81 = .ok (.isub, 1) := by decide +kernel
theorem dX10_apart_82 : decode cX10_apart 82 = .ok (.invokestatic 187, 3) := by decide +kernel
theorem dX10_apart_85 : decode cX10_apart 85 = .ok (.istore 5, 2) := by decide +kernel
theorem dX10_apart_87 : decode cX10_apart 87 = .ok (.aload_n 0, 1) := by decide +kernel
theorem dX10_apart_88 : decode cX10_apart 88 = .ok (.getfield 52, 3) := by decide +kernel
theorem dX10_apart_91 : decode cX10_apart 91 = .ok (.aload_n 0, 1) := by decide +kernel
theorem dX10_apart_92 : decode cX10_apart 92 = .ok (.getfield 140, 3) := by decide +kernel
theorem dX10_apart_95 : decode cX10_apart 95 = .ok (.iaload, 1) := by decide +kernel
theorem dX10_apart_96 : decode cX10_apart 96 = .ok (.iload 4, 2) := by decide +kernel
theorem dX10_apart_98 : decode cX10_apart 98 = .ok (.isub, 1) := by decide +kernel
theorem dX10_apart_99 : decode cX10_apart 99 = .ok (.invokestatic 187, 3) := by decide +kernel
theorem dX10_apart_102 : decode cX10_apart 102 = .ok (.istore 6, 2) := by decide +kernel
theorem dX10_apart_104 : decode cX10_apart 104 = .ok (.iload 5, 2) := by decide +kernel
theorem dX10_apart_106 : decode cX10_apart 106 = .ok (.iload 6, 2) := by decide +kernel
theorem dX10_apart_108 : decode cX10_apart 108 = .ok (.if_icmp .le 8, 3) := by decide +kernel
theorem dX10_apart_111 : decode cX10_apart 111 = .ok (.iload 5, 2) := by decide +kernel
theorem dX10_apart_113 : decode cX10_apart 113 = .ok (.goto 5, 3) := by decide +kernel
theorem dX10_apart_116 : decode cX10_apart 116 = .ok (.iload 6, 2) := by decide +kernel
theorem dX10_apart_118 : decode cX10_apart 118 = .ok (.ireturn, 1) := by decide +kernel
theorem dX10_bits_0 : decode cX10_bits 0 = .ok (.iconst 0, 1) := by decide +kernel
theorem dX10_bits_1 : decode cX10_bits 1 = .ok (.istore_n 1, 1) := by decide +kernel
theorem dX10_bits_2 : decode cX10_bits 2 = .ok (.iload_n 0, 1) := by decide +kernel
theorem dX10_bits_3 : decode cX10_bits 3 = .ok (.istore_n 2, 1) := by decide +kernel
theorem dX10_bits_4 : decode cX10_bits 4 = .ok (.iload_n 2, 1) := by decide +kernel
theorem dX10_bits_5 : decode cX10_bits 5 = .ok (.ifCond .eq 15, 3) := by decide +kernel
theorem dX10_bits_8 : decode cX10_bits 8 = .ok (.iinc 1 1, 3) := by decide +kernel
theorem dX10_bits_11 : decode cX10_bits 11 = .ok (.iload_n 2, 1) := by decide +kernel
theorem dX10_bits_12 : decode cX10_bits 12 = .ok (.iload_n 2, 1) := by decide +kernel
theorem dX10_bits_13 : decode cX10_bits 13 = .ok (.iconst 1, 1) := by decide +kernel
theorem dX10_bits_14 : decode cX10_bits 14 = .ok (.isub, 1) := by decide +kernel
theorem dX10_bits_15 : decode cX10_bits 15 = .ok (.iand, 1) := by decide +kernel
theorem dX10_bits_16 : decode cX10_bits 16 = .ok (.istore_n 2, 1) := by decide +kernel
theorem dX10_bits_17 : decode cX10_bits 17 = .ok (.goto (-13), 3) := by decide +kernel
theorem dX10_bits_20 : decode cX10_bits 20 = .ok (.iload_n 1, 1) := by decide +kernel
theorem dX10_bits_21 : decode cX10_bits 21 = .ok (.ireturn, 1) := by decide +kernel
set_option maxRecDepth 20000 in
theorem ggX10_someFits_X10_layCurve : GoodIn wsX10_someFits wsX10_layCurve := goodIn_r _ [5, 6, 7, 8, 9, 10, 11, 12, 13, 14, 15, 16, 17, 4, 18, 19, 20, 21, 22, 23, 24, 47, 48, 49, 50, 51, 52, 53, 54, 55, 56, 57, 58, 59, 60, 61, 62, 63, 64, 65, 66, 67, 68, 69, 70, 71, 72, 73, 74] (by decide +kernel) (by decide +kernel)
set_option maxRecDepth 20000 in
theorem gX10_someFits_X10_layCurve : GoodIn wsX10_someFits (wsV RX10 154 RX10 yX10_layCurve wsX10_layCurve) := goodIn_app (goodIn_of _ (by decide +kernel)) ggX10_someFits_X10_layCurve
set_option maxRecDepth 20000 in
theorem ggX10_someFits_X10_fitsAll : GoodIn wsX10_someFits wsX10_fitsAll := goodIn_r _ [28, 29, 30, 31, 32, 33, 4, 34, 35, 36, 37, 38, 13, 6, 8, 39, 40, 41, 42, 43, 9, 44, 45, 46, 47, 48, 49, 50, 51, 52, 53, 54, 55, 56, 57, 58, 59, 60, 61, 62, 63, 64, 65, 66, 67, 68, 69, 70, 71, 72, 73, 74] (by decide +kernel) (by decide +kernel)
set_option maxRecDepth 20000 in
theorem gX10_someFits_X10_fitsAll : GoodIn wsX10_someFits (wsV RX10 201 RX10 yX10_fitsAll wsX10_fitsAll) := goodIn_app (goodIn_of _ (by decide +kernel)) ggX10_someFits_X10_fitsAll
theorem dX10_someFits_0 : decode cX10_someFits 0 = .ok (.iconst 0, 1) := by decide +kernel
theorem dX10_someFits_1 : decode cX10_someFits 1 = .ok (.istore_n 2, 1) := by decide +kernel
theorem dX10_someFits_2 : decode cX10_someFits 2 = .ok (.iconst 0, 1) := by decide +kernel
theorem dX10_someFits_3 : decode cX10_someFits 3 = .ok (.istore_n 3, 1) := by decide +kernel
theorem dX10_someFits_4 : decode cX10_someFits 4 = .ok (.iload_n 3, 1) := by decide +kernel
theorem dX10_someFits_5 : decode cX10_someFits 5 = .ok (.sipush 189, 3) := by decide +kernel
theorem dX10_someFits_8 : decode cX10_someFits 8 = .ok (.if_icmp .ge 25, 3) := by decide +kernel
theorem dX10_someFits_11 : decode cX10_someFits 11 = .ok (.iload_n 2, 1) := by decide +kernel
theorem dX10_someFits_12 : decode cX10_someFits 12 = .ok (.ifCond .ne 21, 3) := by decide +kernel
theorem dX10_someFits_15 : decode cX10_someFits 15 = .ok (.aload_n 0, 1) := by decide +kernel
theorem dX10_someFits_16 : decode cX10_someFits 16 = .ok (.iload_n 3, 1) := by decide +kernel
theorem dX10_someFits_17 : decode cX10_someFits 17 = .ok (.invokevirtual 154, 3) := by decide +kernel
theorem dX10_someFits_20 : decode cX10_someFits 20 = .ok (.aload_n 0, 1) := by decide +kernel
theorem dX10_someFits_21 : decode cX10_someFits 21 = .ok (.iload_n 1, 1) := by decide +kernel
theorem dX10_someFits_22 : decode cX10_someFits 22 = .ok (.iconst 0, 1) := by decide +kernel
theorem dX10_someFits_23 : decode cX10_someFits 23 = .ok (.invokevirtual 201, 3) := by decide +kernel
theorem dX10_someFits_26 : decode cX10_someFits 26 = .ok (.istore_n 2, 1) := by decide +kernel
theorem dX10_someFits_27 : decode cX10_someFits 27 = .ok (.iinc 3 1, 3) := by decide +kernel
theorem dX10_someFits_30 : decode cX10_someFits 30 = .ok (.goto (-26), 3) := by decide +kernel
theorem dX10_someFits_33 : decode cX10_someFits 33 = .ok (.iload_n 2, 1) := by decide +kernel
theorem dX10_someFits_34 : decode cX10_someFits 34 = .ok (.ireturn, 1) := by decide +kernel
set_option maxRecDepth 20000 in
theorem ggX10_moved_X10_bits : GoodIn wsX10_moved wsX10_bits := goodIn_r _ [5] (by decide +kernel) (by decide +kernel)
set_option maxRecDepth 20000 in
theorem gX10_moved_X10_bits : GoodIn wsX10_moved (va_wsS RX10 205 yX10_bits wsX10_bits) := goodIn_app (goodIn_of _ (by decide +kernel)) ggX10_moved_X10_bits
set_option maxRecDepth 20000 in
theorem ggX10_moved_X10_someFits : GoodIn wsX10_moved wsX10_someFits := goodIn_r _ [9, 10, 11, 12, 4, 13, 14, 15, 16, 17, 18, 19, 20, 21, 22, 23, 24, 25, 26, 27, 28, 29, 30, 31, 32, 33, 34, 35, 36, 37, 38, 39, 40, 41, 42, 43, 44, 45, 46, 47, 48, 49, 50, 51, 52, 53, 54, 55, 56, 57, 58, 59, 60, 61, 62, 63, 64, 65, 66, 67, 68, 69, 70, 71, 72, 73, 74, 75, 76, 77, 78, 79, 80, 81, 82] (by decide +kernel) (by decide +kernel)
set_option maxRecDepth 20000 in
theorem gX10_moved_X10_someFits : GoodIn wsX10_moved (wsV RX10 208 RX10 yX10_someFits wsX10_someFits) := goodIn_app (goodIn_of _ (by decide +kernel)) ggX10_moved_X10_someFits
theorem dX10_moved_0 : decode cX10_moved 0 = .ok (.bipush (-4), 2) := by decide +kernel
theorem dX10_moved_2 : decode cX10_moved 2 = .ok (.istore_n 1, 1) := by decide +kernel
theorem dX10_moved_3 : decode cX10_moved 3 = .ok (.iconst 0, 1) := by decide +kernel
theorem dX10_moved_4 : decode cX10_moved 4 = .ok (.istore_n 2, 1) := by decide +kernel
theorem dX10_moved_5 : decode cX10_moved 5 = .ok (.iload_n 2, 1) := by decide +kernel
theorem dX10_moved_6 : decode cX10_moved 6 = .ok (.bipush 16, 2) := by decide +kernel
theorem dX10_moved_8 : decode cX10_moved 8 = .ok (.if_icmp .ge 68, 3) := by decide +kernel
theorem dX10_moved_11 : decode cX10_moved 11 = .ok (.iload_n 2, 1) := by decide +kernel
theorem dX10_moved_12 : decode cX10_moved 12 = .ok (.aload_n 0, 1) := by decide +kernel
theorem dX10_moved_13 : decode cX10_moved 13 = .ok (.getfield 22, 3) := by decide +kernel
theorem dX10_moved_16 : decode cX10_moved 16 = .ok (.iconst 0, 1) := by decide +kernel
theorem dX10_moved_17 : decode cX10_moved 17 = .ok (.iaload, 1) := by decide +kernel
theorem dX10_moved_18 : decode cX10_moved 18 = .ok (.iand, 1) := by decide +kernel
theorem dX10_moved_19 : decode cX10_moved 19 = .ok (.ifCond .ne 24, 3) := by decide +kernel
theorem dX10_moved_22 : decode cX10_moved 22 = .ok (.iload_n 1, 1) := by decide +kernel
theorem dX10_moved_23 : decode cX10_moved 23 = .ok (.bipush (-4), 2) := by decide +kernel
theorem dX10_moved_25 : decode cX10_moved 25 = .ok (.if_icmp .eq 14, 3) := by decide +kernel
theorem dX10_moved_28 : decode cX10_moved 28 = .ok (.iload_n 2, 1) := by decide +kernel
theorem dX10_moved_29 : decode cX10_moved 29 = .ok (.invokestatic 205, 3) := by decide +kernel
theorem dX10_moved_32 : decode cX10_moved 32 = .ok (.iload_n 1, 1) := by decide +kernel
theorem dX10_moved_33 : decode cX10_moved 33 = .ok (.invokestatic 205, 3) := by decide +kernel
theorem dX10_moved_36 : decode cX10_moved 36 = .ok (.if_icmp .ge 7, 3) := by decide +kernel
theorem dX10_moved_39 : decode cX10_moved 39 = .ok (.iconst 1, 1) := by decide +kernel
theorem dX10_moved_40 : decode cX10_moved 40 = .ok (.goto 4, 3) := by decide +kernel
theorem dX10_moved_43 : decode cX10_moved 43 = .ok (.iconst 0, 1) := by decide +kernel
theorem dX10_moved_44 : decode cX10_moved 44 = .ok (.istore_n 3, 1) := by decide +kernel
theorem dX10_moved_45 : decode cX10_moved 45 = .ok (.iload_n 3, 1) := by decide +kernel
theorem dX10_moved_46 : decode cX10_moved 46 = .ok (.ifCond .eq 22, 3) := by decide +kernel
theorem dX10_moved_49 : decode cX10_moved 49 = .ok (.aload_n 0, 1) := by decide +kernel
theorem dX10_moved_50 : decode cX10_moved 50 = .ok (.iload_n 2, 1) := by decide +kernel
theorem dX10_moved_51 : decode cX10_moved 51 = .ok (.aload_n 0, 1) := by decide +kernel
theorem dX10_moved_52 : decode cX10_moved 52 = .ok (.getfield 22, 3) := by decide +kernel
theorem dX10_moved_55 : decode cX10_moved 55 = .ok (.iconst 0, 1) := by decide +kernel
theorem dX10_moved_56 : decode cX10_moved 56 = .ok (.iaload, 1) := by decide +kernel
theorem dX10_moved_57 : decode cX10_moved 57 = .ok (.ior, 1) := by decide +kernel
theorem dX10_moved_58 : decode cX10_moved 58 = .ok (.invokevirtual 208, 3) := by decide +kernel
theorem dX10_moved_61 : decode cX10_moved 61 = .ok (.ifCond .eq 7, 3) := by decide +kernel
theorem dX10_moved_64 : decode cX10_moved 64 = .ok (.iload_n 2, 1) := by decide +kernel
theorem dX10_moved_65 : decode cX10_moved 65 = .ok (.goto 4, 3) := by decide +kernel
theorem dX10_moved_68 : decode cX10_moved 68 = .ok (.iload_n 1, 1) := by decide +kernel
theorem dX10_moved_69 : decode cX10_moved 69 = .ok (.istore_n 1, 1) := by decide +kernel
theorem dX10_moved_70 : decode cX10_moved 70 = .ok (.iinc 2 1, 3) := by decide +kernel
theorem dX10_moved_73 : decode cX10_moved 73 = .ok (.goto (-68), 3) := by decide +kernel
theorem dX10_moved_76 : decode cX10_moved 76 = .ok (.iload_n 1, 1) := by decide +kernel
theorem dX10_moved_77 : decode cX10_moved 77 = .ok (.ireturn, 1) := by decide +kernel
set_option maxRecDepth 20000 in
theorem ggX10_whose_X10_in : GoodIn wsX10_whose wsX10_in := goodIn_r _ [7] (by decide +kernel) (by decide +kernel)
set_option maxRecDepth 20000 in
theorem gX10_whose_X10_in : GoodIn wsX10_whose (va_wsS RX10 76 yX10_in wsX10_in) := goodIn_app (goodIn_of _ (by decide +kernel)) ggX10_whose_X10_in
set_option maxRecDepth 20000 in
theorem ggX10_whose_X10_layCurve : GoodIn wsX10_whose wsX10_layCurve := goodIn_r _ [11, 12, 13, 14, 15, 16, 17, 18, 19, 20, 21, 22, 23, 6, 24, 25, 26, 27, 28, 29, 30, 51, 52, 53, 54, 55, 56, 57, 58, 59, 60, 61, 62, 63, 64, 65, 66, 67, 68, 69, 70, 71, 72, 73, 74, 75, 76, 77, 78] (by decide +kernel) (by decide +kernel)
set_option maxRecDepth 20000 in
theorem gX10_whose_X10_layCurve : GoodIn wsX10_whose (wsV RX10 154 RX10 yX10_layCurve wsX10_layCurve) := goodIn_app (goodIn_of _ (by decide +kernel)) ggX10_whose_X10_layCurve
set_option maxRecDepth 20000 in
theorem ggX10_whose_X10_fitsAll : GoodIn wsX10_whose wsX10_fitsAll := goodIn_r _ [34, 1, 2, 35, 36, 37, 6, 38, 39, 40, 41, 42, 19, 12, 14, 43, 44, 45, 46, 47, 15, 48, 49, 50, 51, 52, 53, 54, 55, 56, 57, 58, 59, 60, 61, 62, 63, 64, 65, 66, 67, 68, 69, 70, 71, 72, 73, 74, 75, 76, 77, 78] (by decide +kernel) (by decide +kernel)
set_option maxRecDepth 20000 in
theorem gX10_whose_X10_fitsAll : GoodIn wsX10_whose (wsV RX10 201 RX10 yX10_fitsAll wsX10_fitsAll) := goodIn_app (goodIn_of _ (by decide +kernel)) ggX10_whose_X10_fitsAll
set_option maxRecDepth 20000 in
theorem ggX10_whose_X10_fitsNow : GoodIn wsX10_whose wsX10_fitsNow := goodIn_r _ [42, 2, 19, 12, 14, 43, 44, 45, 6, 46, 47, 15, 48, 49, 50, 51, 52, 53, 54, 55, 56, 57, 58, 59, 60, 61, 62, 63, 64, 65, 66, 67, 68, 69, 70, 71, 72, 73, 74, 75, 76, 77, 78] (by decide +kernel) (by decide +kernel)
set_option maxRecDepth 20000 in
theorem gX10_whose_X10_fitsNow : GoodIn wsX10_whose (wsV RX10 196 RX10 yX10_fitsNow wsX10_fitsNow) := goodIn_app (goodIn_of _ (by decide +kernel)) ggX10_whose_X10_fitsNow
theorem dX10_whose_0 : decode cX10_whose 0 = .ok (.iload_n 1, 1) := by decide +kernel
theorem dX10_whose_1 : decode cX10_whose 1 = .ok (.i2l, 1) := by decide +kernel
theorem dX10_whose_2 : decode cX10_whose 2 = .ok (.lconst 0, 1) := by decide +kernel
theorem dX10_whose_3 : decode cX10_whose 3 = .ok (.aload_n 0, 1) := by decide +kernel
theorem dX10_whose_4 : decode cX10_whose 4 = .ok (.getfield 25, 3) := by decide +kernel
theorem dX10_whose_7 : decode cX10_whose 7 = .ok (.iconst 0, 1) := by decide +kernel
theorem dX10_whose_8 : decode cX10_whose 8 = .ok (.iaload, 1) := by decide +kernel
theorem dX10_whose_9 : decode cX10_whose 9 = .ok (.iconst 1, 1) := by decide +kernel
theorem dX10_whose_10 : decode cX10_whose 10 = .ok (.isub, 1) := by decide +kernel
theorem dX10_whose_11 : decode cX10_whose 11 = .ok (.i2l, 1) := by decide +kernel
theorem dX10_whose_12 : decode cX10_whose 12 = .ok (.invokestatic 76, 3) := by decide +kernel
theorem dX10_whose_15 : decode cX10_whose 15 = .ok (.ifCond .eq 15, 3) := by decide +kernel
theorem dX10_whose_18 : decode cX10_whose 18 = .ok (.aload_n 0, 1) := by decide +kernel
theorem dX10_whose_19 : decode cX10_whose 19 = .ok (.getfield 28, 3) := by decide +kernel
theorem dX10_whose_22 : decode cX10_whose 22 = .ok (.bipush 6, 2) := by decide +kernel
theorem dX10_whose_24 : decode cX10_whose 24 = .ok (.iload_n 1, 1) := by decide +kernel
theorem dX10_whose_25 : decode cX10_whose 25 = .ok (.imul, 1) := by decide +kernel
theorem dX10_whose_26 : decode cX10_whose 26 = .ok (.iaload, 1) := by decide +kernel
theorem dX10_whose_27 : decode cX10_whose 27 = .ok (.ifCond .ne 5, 3) := by decide +kernel
theorem dX10_whose_30 : decode cX10_whose 30 = .ok (.iconst (-1), 1) := by decide +kernel
theorem dX10_whose_31 : decode cX10_whose 31 = .ok (.ireturn, 1) := by decide +kernel
theorem dX10_whose_32 : decode cX10_whose 32 = .ok (.iconst 0, 1) := by decide +kernel
theorem dX10_whose_33 : decode cX10_whose 33 = .ok (.istore_n 2, 1) := by decide +kernel
theorem dX10_whose_34 : decode cX10_whose 34 = .ok (.iconst 0, 1) := by decide +kernel
theorem dX10_whose_35 : decode cX10_whose 35 = .ok (.istore_n 3, 1) := by decide +kernel
theorem dX10_whose_36 : decode cX10_whose 36 = .ok (.iconst 1, 1) := by decide +kernel
