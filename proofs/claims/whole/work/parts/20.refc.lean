set_option maxRecDepth 20000 in
theorem gX9_rings_X9_isGood : GoodIn wsX9_rings (wsV RX9 109 RX9 yX9_isGood wsX9_isGood) := goodIn_app (goodIn_of _ (by decide +kernel)) ggX9_rings_X9_isGood
theorem dX9_rings_0 : decode cX9_rings 0 = .ok (.aload_n 0, 1) := by decide +kernel
theorem dX9_rings_1 : decode cX9_rings 1 = .ok (.invokevirtual 109, 3) := by decide +kernel
theorem dX9_rings_4 : decode cX9_rings 4 = .ok (.ifCond .ne 6, 3) := by decide +kernel
theorem dX9_rings_7 : decode cX9_rings 7 = .ok (.bipush (-5), 2) := by decide +kernel
theorem dX9_rings_9 : decode cX9_rings 9 = .ok (.ireturn, 1) := by decide +kernel
theorem dX9_rings_10 : decode cX9_rings 10 = .ok (.iconst 0, 1) := by decide +kernel
theorem dX9_rings_11 : decode cX9_rings 11 = .ok (.istore_n 1, 1) := by decide +kernel
theorem dX9_rings_12 : decode cX9_rings 12 = .ok (.iconst 0, 1) := by decide +kernel
theorem dX9_rings_13 : decode cX9_rings 13 = .ok (.istore_n 2, 1) := by decide +kernel
theorem dX9_rings_14 : decode cX9_rings 14 = .ok (.iload_n 2, 1) := by decide +kernel
theorem dX9_rings_15 : decode cX9_rings 15 = .ok (.aload_n 0, 1) := by decide +kernel
theorem dX9_rings_16 : decode cX9_rings 16 = .ok (.getfield 140, 3) := by decide +kernel
theorem dX9_rings_19 : decode cX9_rings 19 = .ok (.if_icmp .ge 79, 3) := by decide +kernel
theorem dX9_rings_22 : decode cX9_rings 22 = .ok (.iconst 1, 1) := by decide +kernel
theorem dX9_rings_23 : decode cX9_rings 23 = .ok (.istore_n 3, 1) := by decide +kernel
theorem dX9_rings_24 : decode cX9_rings 24 = .ok (.aload_n 0, 1) := by decide +kernel
theorem dX9_rings_25 : decode cX9_rings 25 = .ok (.getfield 44, 3) := by decide +kernel
theorem dX9_rings_28 : decode cX9_rings 28 = .ok (.iload_n 2, 1) := by decide +kernel
theorem dX9_rings_29 : decode cX9_rings 29 = .ok (.iaload, 1) := by decide +kernel
theorem dX9_rings_30 : decode cX9_rings 30 = .ok (.istore 4, 2) := by decide +kernel
theorem dX9_rings_32 : decode cX9_rings 32 = .ok (.iconst 0, 1) := by decide +kernel
theorem dX9_rings_33 : decode cX9_rings 33 = .ok (.istore 5, 2) := by decide +kernel
theorem dX9_rings_35 : decode cX9_rings 35 = .ok (.iload 5, 2) := by decide +kernel
theorem dX9_rings_37 : decode cX9_rings 37 = .ok (.sipush 400, 3) := by decide +kernel
theorem dX9_rings_40 : decode cX9_rings 40 = .ok (.if_icmp .ge 40, 3) := by decide +kernel
theorem dX9_rings_43 : decode cX9_rings 43 = .ok (.iload 4, 2) := by decide +kernel
theorem dX9_rings_45 : decode cX9_rings 45 = .ok (.iload_n 2, 1) := by decide +kernel
theorem dX9_rings_46 : decode cX9_rings 46 = .ok (.if_icmp .eq 34, 3) := by decide +kernel
theorem dX9_rings_49 : decode cX9_rings 49 = .ok (.iload_n 3, 1) := by decide +kernel
theorem dX9_rings_50 : decode cX9_rings 50 = .ok (.ifCond .eq 13, 3) := by decide +kernel
theorem dX9_rings_53 : decode cX9_rings 53 = .ok (.iload 4, 2) := by decide +kernel
theorem dX9_rings_55 : decode cX9_rings 55 = .ok (.iload_n 2, 1) := by decide +kernel
theorem dX9_rings_56 : decode cX9_rings 56 = .ok (.if_icmp .le 7, 3) := by decide +kernel
theorem dX9_rings_59 : decode cX9_rings 59 = .ok (.iconst 1, 1) := by decide +kernel
theorem dX9_rings_60 : decode cX9_rings 60 = .ok (.goto 4, 3) := by decide +kernel
theorem dX9_rings_63 : decode cX9_rings 63 = .ok (.iconst 0, 1) := by decide +kernel
theorem dX9_rings_64 : decode cX9_rings 64 = .ok (.istore_n 3, 1) := by decide +kernel
theorem dX9_rings_65 : decode cX9_rings 65 = .ok (.aload_n 0, 1) := by decide +kernel
theorem dX9_rings_66 : decode cX9_rings 66 = .ok (.getfield 44, 3) := by decide +kernel
theorem dX9_rings_69 : decode cX9_rings 69 = .ok (.iload 4, 2) := by decide +kernel
theorem dX9_rings_71 : decode cX9_rings 71 = .ok (.iaload, 1) := by decide +kernel
theorem dX9_rings_72 : decode cX9_rings 72 = .ok (.istore 4, 2) := by decide +kernel
theorem dX9_rings_74 : decode cX9_rings 74 = .ok (.iinc 5 1, 3) := by decide +kernel
theorem dX9_rings_77 : decode cX9_rings 77 = .ok (.goto (-42), 3) := by decide +kernel
theorem dX9_rings_80 : decode cX9_rings 80 = .ok (.iload_n 1, 1) := by decide +kernel
theorem dX9_rings_81 : decode cX9_rings 81 = .ok (.iload_n 3, 1) := by decide +kernel
theorem dX9_rings_82 : decode cX9_rings 82 = .ok (.ifCond .eq 7, 3) := by decide +kernel
theorem dX9_rings_85 : decode cX9_rings 85 = .ok (.iconst 1, 1) := by decide +kernel
theorem dX9_rings_86 : decode cX9_rings 86 = .ok (.goto 4, 3) := by decide +kernel
theorem dX9_rings_89 : decode cX9_rings 89 = .ok (.iconst 0, 1) := by decide +kernel
theorem dX9_rings_90 : decode cX9_rings 90 = .ok (.iadd, 1) := by decide +kernel
theorem dX9_rings_91 : decode cX9_rings 91 = .ok (.istore_n 1, 1) := by decide +kernel
theorem dX9_rings_92 : decode cX9_rings 92 = .ok (.iinc 2 1, 3) := by decide +kernel
theorem dX9_rings_95 : decode cX9_rings 95 = .ok (.goto (-81), 3) := by decide +kernel
theorem dX9_rings_98 : decode cX9_rings 98 = .ok (.iload_n 1, 1) := by decide +kernel
theorem dX9_rings_99 : decode cX9_rings 99 = .ok (.ireturn, 1) := by decide +kernel
set_option maxRecDepth 20000 in
theorem ggX9_series_X9_isGood : GoodIn wsX9_series wsX9_isGood := goodIn_r _ [6, 7, 8, 9, 10, 5, 11, 12, 13, 14, 15, 16, 17, 18, 19, 20, 21, 22, 23, 24, 25, 26, 27, 28, 29, 30, 31, 32, 33, 34, 35, 36, 37, 38, 39, 40, 41, 42, 43, 44, 45, 46, 47, 48, 49, 50, 51, 52, 53, 54, 55, 56, 57, 58, 59, 60, 61, 62, 63, 64, 65, 66, 67, 68, 69, 70, 71, 72, 73, 74, 75, 76, 77, 78, 79, 80, 81, 82, 83, 84, 85, 86, 87, 88, 89, 90, 91, 92, 93, 94, 1, 98, 99, 100, 101, 102, 103, 104, 105, 106, 107, 108, 109, 110, 111, 112, 113, 114, 115, 116, 117, 118, 119, 120, 121, 122, 123] (by decide +kernel) (by decide +kernel)
set_option maxRecDepth 20000 in
theorem gX9_series_X9_isGood : GoodIn wsX9_series (wsV RX9 109 RX9 yX9_isGood wsX9_isGood) := goodIn_app (goodIn_of _ (by decide +kernel)) ggX9_series_X9_isGood
set_option maxRecDepth 20000 in
theorem ggX9_series_X9_in : GoodIn wsX9_series wsX9_in := goodIn_r _ [97] (by decide +kernel) (by decide +kernel)
set_option maxRecDepth 20000 in
theorem gX9_series_X9_in : GoodIn wsX9_series (va_wsS RX9 62 yX9_in wsX9_in) := goodIn_app (goodIn_of _ (by decide +kernel)) ggX9_series_X9_in
theorem dX9_series_0 : decode cX9_series 0 = .ok (.aload_n 0, 1) := by decide +kernel
theorem dX9_series_1 : decode cX9_series 1 = .ok (.invokevirtual 109, 3) := by decide +kernel
theorem dX9_series_4 : decode cX9_series 4 = .ok (.ifCond .ne 6, 3) := by decide +kernel
theorem dX9_series_7 : decode cX9_series 7 = .ok (.bipush (-5), 2) := by decide +kernel
theorem dX9_series_9 : decode cX9_series 9 = .ok (.ireturn, 1) := by decide +kernel
theorem dX9_series_10 : decode cX9_series 10 = .ok (.iload_n 1, 1) := by decide +kernel
theorem dX9_series_11 : decode cX9_series 11 = .ok (.iconst 0, 1) := by decide +kernel
theorem dX9_series_12 : decode cX9_series 12 = .ok (.bipush 31, 2) := by decide +kernel
theorem dX9_series_14 : decode cX9_series 14 = .ok (.invokestatic 62, 3) := by decide +kernel
theorem dX9_series_17 : decode cX9_series 17 = .ok (.ifCond .eq 12, 3) := by decide +kernel
theorem dX9_series_20 : decode cX9_series 20 = .ok (.aload_n 0, 1) := by decide +kernel
theorem dX9_series_21 : decode cX9_series 21 = .ok (.getfield 47, 3) := by decide +kernel
theorem dX9_series_24 : decode cX9_series 24 = .ok (.iload_n 1, 1) := by decide +kernel
theorem dX9_series_25 : decode cX9_series 25 = .ok (.iaload, 1) := by decide +kernel
theorem dX9_series_26 : decode cX9_series 26 = .ok (.goto 5, 3) := by decide +kernel
theorem dX9_series_29 : decode cX9_series 29 = .ok (.bipush (-2), 2) := by decide +kernel
theorem dX9_series_31 : decode cX9_series 31 = .ok (.ireturn, 1) := by decide +kernel
set_option maxRecDepth 20000 in
theorem ggX9_determinantOf_X9_of : GoodIn wsX9_determinantOf wsX9_of := goodIn_r _ [8, 3, 17, 18, 19, 20, 21, 22, 23, 24, 25, 26, 27, 28, 29, 30, 31, 32, 33, 34, 35, 36, 37, 38, 39, 40, 41, 42] (by decide +kernel) (by decide +kernel)
set_option maxRecDepth 20000 in
theorem gX9_determinantOf_X9_of : GoodIn wsX9_determinantOf (wsV RX9 85 RX9 yX9_of wsX9_of) := goodIn_app (goodIn_of _ (by decide +kernel)) ggX9_determinantOf_X9_of
set_option maxRecDepth 20000 in
theorem ggX9_determinantOf_X9_by : GoodIn wsX9_determinantOf wsX9_by := goodIn_r _ [12, 3, 13, 14, 15, 7, 16, 17, 18, 19, 20, 21, 22, 23, 24, 25, 26, 27, 28, 29, 30, 31, 32, 33, 34, 35, 36, 37, 38, 39, 40, 41, 42] (by decide +kernel) (by decide +kernel)
set_option maxRecDepth 20000 in
theorem gX9_determinantOf_X9_by : GoodIn wsX9_determinantOf (wsV RX9 78 RX9 yX9_by wsX9_by) := goodIn_app (goodIn_of _ (by decide +kernel)) ggX9_determinantOf_X9_by
theorem dX9_determinantOf_0 : decode cX9_determinantOf 0 = .ok (.iload_n 1, 1) := by decide +kernel
theorem dX9_determinantOf_1 : decode cX9_determinantOf 1 = .ok (.iconst 2, 1) := by decide +kernel
theorem dX9_determinantOf_2 : decode cX9_determinantOf 2 = .ok (.irem, 1) := by decide +kernel
theorem dX9_determinantOf_3 : decode cX9_determinantOf 3 = .ok (.iconst 1, 1) := by decide +kernel
theorem dX9_determinantOf_4 : decode cX9_determinantOf 4 = .ok (.if_icmp .ne 9, 3) := by decide +kernel
theorem dX9_determinantOf_7 : decode cX9_determinantOf 7 = .ok (.iload_n 1, 1) := by decide +kernel
theorem dX9_determinantOf_8 : decode cX9_determinantOf 8 = .ok (.iconst 2, 1) := by decide +kernel
theorem dX9_determinantOf_9 : decode cX9_determinantOf 9 = .ok (.idiv, 1) := by decide +kernel
theorem dX9_determinantOf_10 : decode cX9_determinantOf 10 = .ok (.goto 8, 3) := by decide +kernel
theorem dX9_determinantOf_13 : decode cX9_determinantOf 13 = .ok (.iload_n 1, 1) := by decide +kernel
theorem dX9_determinantOf_14 : decode cX9_determinantOf 14 = .ok (.iconst 2, 1) := by decide +kernel
theorem dX9_determinantOf_15 : decode cX9_determinantOf 15 = .ok (.idiv, 1) := by decide +kernel
theorem dX9_determinantOf_16 : decode cX9_determinantOf 16 = .ok (.iconst 1, 1) := by decide +kernel
theorem dX9_determinantOf_17 : decode cX9_determinantOf 17 = .ok (.isub, 1) := by decide +kernel
theorem dX9_determinantOf_18 : decode cX9_determinantOf 18 = .ok (.istore_n 2, 1) := by decide +kernel
theorem dX9_determinantOf_19 : decode cX9_determinantOf 19 = .ok (.iload_n 1, 1) := by decide +kernel
theorem dX9_determinantOf_20 : decode cX9_determinantOf 20 = .ok (.iconst 2, 1) := by decide +kernel
theorem dX9_determinantOf_21 : decode cX9_determinantOf 21 = .ok (.irem, 1) := by decide +kernel
theorem dX9_determinantOf_22 : decode cX9_determinantOf 22 = .ok (.iconst 1, 1) := by decide +kernel
theorem dX9_determinantOf_23 : decode cX9_determinantOf 23 = .ok (.if_icmp .ne 7, 3) := by decide +kernel
theorem dX9_determinantOf_26 : decode cX9_determinantOf 26 = .ok (.iconst 2, 1) := by decide +kernel
theorem dX9_determinantOf_27 : decode cX9_determinantOf 27 = .ok (.goto 4, 3) := by decide +kernel
theorem dX9_determinantOf_30 : decode cX9_determinantOf 30 = .ok (.iconst 3, 1) := by decide +kernel
theorem dX9_determinantOf_31 : decode cX9_determinantOf 31 = .ok (.istore_n 3, 1) := by decide +kernel
theorem dX9_determinantOf_32 : decode cX9_determinantOf 32 = .ok (.iconst 0, 1) := by decide +kernel
theorem dX9_determinantOf_33 : decode cX9_determinantOf 33 = .ok (.istore 4, 2) := by decide +kernel
theorem dX9_determinantOf_35 : decode cX9_determinantOf 35 = .ok (.iload 4, 2) := by decide +kernel
theorem dX9_determinantOf_37 : decode cX9_determinantOf 37 = .ok (.iload_n 2, 1) := by decide +kernel
theorem dX9_determinantOf_38 : decode cX9_determinantOf 38 = .ok (.if_icmp .ge 49, 3) := by decide +kernel
theorem dX9_determinantOf_41 : decode cX9_determinantOf 41 = .ok (.iconst 0, 1) := by decide +kernel
theorem dX9_determinantOf_42 : decode cX9_determinantOf 42 = .ok (.istore 5, 2) := by decide +kernel
theorem dX9_determinantOf_44 : decode cX9_determinantOf 44 = .ok (.iload 5, 2) := by decide +kernel
theorem dX9_determinantOf_46 : decode cX9_determinantOf 46 = .ok (.iload_n 2, 1) := by decide +kernel
theorem dX9_determinantOf_47 : decode cX9_determinantOf 47 = .ok (.if_icmp .ge 34, 3) := by decide +kernel
theorem dX9_determinantOf_50 : decode cX9_determinantOf 50 = .ok (.aload_n 0, 1) := by decide +kernel
theorem dX9_determinantOf_51 : decode cX9_determinantOf 51 = .ok (.getfield 56, 3) := by decide +kernel
theorem dX9_determinantOf_54 : decode cX9_determinantOf 54 = .ok (.bipush 15, 2) := by decide +kernel
theorem dX9_determinantOf_56 : decode cX9_determinantOf 56 = .ok (.iload 4, 2) := by decide +kernel
theorem dX9_determinantOf_58 : decode cX9_determinantOf 58 = .ok (.imul, 1) := by decide +kernel
theorem dX9_determinantOf_59 : decode cX9_determinantOf 59 = .ok (.iload 5, 2) := by decide +kernel
theorem dX9_determinantOf_61 : decode cX9_determinantOf 61 = .ok (.iadd, 1) := by decide +kernel
theorem dX9_determinantOf_62 : decode cX9_determinantOf 62 = .ok (.aload_n 0, 1) := by decide +kernel
theorem dX9_determinantOf_63 : decode cX9_determinantOf 63 = .ok (.getfield 47, 3) := by decide +kernel
theorem dX9_determinantOf_66 : decode cX9_determinantOf 66 = .ok (.iload_n 3, 1) := by decide +kernel
theorem dX9_determinantOf_67 : decode cX9_determinantOf 67 = .ok (.iload 4, 2) := by decide +kernel
theorem dX9_determinantOf_69 : decode cX9_determinantOf 69 = .ok (.iadd, 1) := by decide +kernel
theorem dX9_determinantOf_70 : decode cX9_determinantOf 70 = .ok (.iload 5, 2) := by decide +kernel
theorem dX9_determinantOf_72 : decode cX9_determinantOf 72 = .ok (.iadd, 1) := by decide +kernel
theorem dX9_determinantOf_73 : decode cX9_determinantOf 73 = .ok (.iaload, 1) := by decide +kernel
theorem dX9_determinantOf_74 : decode cX9_determinantOf 74 = .ok (.iastore, 1) := by decide +kernel
theorem dX9_determinantOf_75 : decode cX9_determinantOf 75 = .ok (.iinc 5 1, 3) := by decide +kernel
theorem dX9_determinantOf_78 : decode cX9_determinantOf 78 = .ok (.goto (-34), 3) := by decide +kernel
theorem dX9_determinantOf_81 : decode cX9_determinantOf 81 = .ok (.iinc 4 1, 3) := by decide +kernel
theorem dX9_determinantOf_84 : decode cX9_determinantOf 84 = .ok (.goto (-49), 3) := by decide +kernel
theorem dX9_determinantOf_87 : decode cX9_determinantOf 87 = .ok (.iconst 1, 1) := by decide +kernel
theorem dX9_determinantOf_88 : decode cX9_determinantOf 88 = .ok (.istore 4, 2) := by decide +kernel
theorem dX9_determinantOf_90 : decode cX9_determinantOf 90 = .ok (.iconst 0, 1) := by decide +kernel
theorem dX9_determinantOf_91 : decode cX9_determinantOf 91 = .ok (.istore 5, 2) := by decide +kernel
theorem dX9_determinantOf_93 : decode cX9_determinantOf 93 = .ok (.iload 5, 2) := by decide +kernel
theorem dX9_determinantOf_95 : decode cX9_determinantOf 95 = .ok (.iload_n 2, 1) := by decide +kernel
theorem dX9_determinantOf_96 : decode cX9_determinantOf 96 = .ok (.if_icmp .ge 272, 3) := by decide +kernel
theorem dX9_determinantOf_99 : decode cX9_determinantOf 99 = .ok (.iload 5, 2) := by decide +kernel
theorem dX9_determinantOf_101 : decode cX9_determinantOf 101 = .ok (.istore 6, 2) := by decide +kernel
theorem dX9_determinantOf_103 : decode cX9_determinantOf 103 = .ok (.iload 6, 2) := by decide +kernel
theorem dX9_determinantOf_105 : decode cX9_determinantOf 105 = .ok (.iload_n 2, 1) := by decide +kernel
theorem dX9_determinantOf_106 : decode cX9_determinantOf 106 = .ok (.if_icmp .ge 25, 3) := by decide +kernel
theorem dX9_determinantOf_109 : decode cX9_determinantOf 109 = .ok (.aload_n 0, 1) := by decide +kernel
theorem dX9_determinantOf_110 : decode cX9_determinantOf 110 = .ok (.getfield 56, 3) := by decide +kernel
theorem dX9_determinantOf_113 : decode cX9_determinantOf 113 = .ok (.bipush 15, 2) := by decide +kernel
theorem dX9_determinantOf_115 : decode cX9_determinantOf 115 = .ok (.iload 6, 2) := by decide +kernel
theorem dX9_determinantOf_117 : decode cX9_determinantOf 117 = .ok (.imul, 1) := by decide +kernel
theorem dX9_determinantOf_118 : decode cX9_determinantOf 118 = .ok (.iload 5, 2) := by decide +kernel
theorem dX9_determinantOf_120 : decode cX9_determinantOf 120 = .ok (.iadd, 1) := by decide +kernel
theorem dX9_determinantOf_121 : decode cX9_determinantOf 121 = .ok (.iaload, 1) := by decide +kernel
theorem dX9_determinantOf_122 : decode cX9_determinantOf 122 = .ok (.ifCond .ne 9, 3) := by decide +kernel
theorem dX9_determinantOf_125 : decode cX9_determinantOf 125 = .ok (.iinc 6 1, 3) := by decide +kernel
theorem dX9_determinantOf_128 : decode cX9_determinantOf 128 = .ok (.goto (-25), 3) := by decide +kernel
theorem dX9_determinantOf_131 : decode cX9_determinantOf 131 = .ok (.iload 6, 2) := by decide +kernel
theorem dX9_determinantOf_133 : decode cX9_determinantOf 133 = .ok (.iload_n 2, 1) := by decide +kernel
theorem dX9_determinantOf_134 : decode cX9_determinantOf 134 = .ok (.if_icmp .ne 5, 3) := by decide +kernel
theorem dX9_determinantOf_137 : decode cX9_determinantOf 137 = .ok (.iconst 0, 1) := by decide +kernel
theorem dX9_determinantOf_138 : decode cX9_determinantOf 138 = .ok (.ireturn, 1) := by decide +kernel
theorem dX9_determinantOf_139 : decode cX9_determinantOf 139 = .ok (.iload 6, 2) := by decide +kernel
theorem dX9_determinantOf_141 : decode cX9_determinantOf 141 = .ok (.iload 5, 2) := by decide +kernel
theorem dX9_determinantOf_143 : decode cX9_determinantOf 143 = .ok (.if_icmp .eq 83, 3) := by decide +kernel
theorem dX9_determinantOf_146 : decode cX9_determinantOf 146 = .ok (.aload_n 0, 1) := by decide +kernel
theorem dX9_determinantOf_147 : decode cX9_determinantOf 147 = .ok (.iload 4, 2) := by decide +kernel
theorem dX9_determinantOf_149 : decode cX9_determinantOf 149 = .ok (.ineg, 1) := by decide +kernel
theorem dX9_determinantOf_150 : decode cX9_determinantOf 150 = .ok (.invokevirtual 85, 3) := by decide +kernel
theorem dX9_determinantOf_153 : decode cX9_determinantOf 153 = .ok (.istore 4, 2) := by decide +kernel
theorem dX9_determinantOf_155 : decode cX9_determinantOf 155 = .ok (.iconst 0, 1) := by decide +kernel
theorem dX9_determinantOf_156 : decode cX9_determinantOf 156 = .ok (.istore 7, 2) := by decide +kernel
theorem dX9_determinantOf_158 : decode cX9_determinantOf 158 = .ok (.iload 7, 2) := by decide +kernel
theorem dX9_determinantOf_160 : decode cX9_determinantOf 160 = .ok (.iload_n 2, 1) := by decide +kernel
theorem dX9_determinantOf_161 : decode cX9_determinantOf 161 = .ok (.if_icmp .ge 65, 3) := by decide +kernel
theorem dX9_determinantOf_164 : decode cX9_determinantOf 164 = .ok (.aload_n 0, 1) := by decide +kernel
theorem dX9_determinantOf_165 : decode cX9_determinantOf 165 = .ok (.getfield 56, 3) := by decide +kernel
theorem dX9_determinantOf_168 : decode cX9_determinantOf 168 = .ok (.bipush 15, 2) := by decide +kernel
theorem dX9_determinantOf_170 : decode cX9_determinantOf 170 = .ok (.iload 6, 2) := by decide +kernel
theorem dX9_determinantOf_172 : decode cX9_determinantOf 172 = .ok (.imul, 1) := by decide +kernel
theorem dX9_determinantOf_173 : decode cX9_determinantOf 173 = .ok (.iload 7, 2) := by decide +kernel
theorem dX9_determinantOf_175 : decode cX9_determinantOf 175 = .ok (.iadd, 1) := by decide +kernel
theorem dX9_determinantOf_176 : decode cX9_determinantOf 176 = .ok (.iaload, 1) := by decide +kernel
theorem dX9_determinantOf_177 : decode cX9_determinantOf 177 = .ok (.istore 8, 2) := by decide +kernel
theorem dX9_determinantOf_179 : decode cX9_determinantOf 179 = .ok (.aload_n 0, 1) := by decide +kernel
theorem dX9_determinantOf_180 : decode cX9_determinantOf 180 = .ok (.getfield 56, 3) := by decide +kernel
theorem dX9_determinantOf_183 : decode cX9_determinantOf 183 = .ok (.bipush 15, 2) := by decide +kernel
theorem dX9_determinantOf_185 : decode cX9_determinantOf 185 = .ok (.iload 6, 2) := by decide +kernel
theorem dX9_determinantOf_187 : decode cX9_determinantOf 187 = .ok (.imul, 1) := by decide +kernel
theorem dX9_determinantOf_188 : decode cX9_determinantOf 188 = .ok (.iload 7, 2) := by decide +kernel
theorem dX9_determinantOf_190 : decode cX9_determinantOf 190 = .ok (.iadd, 1) := by decide +kernel
theorem dX9_determinantOf_191 : decode cX9_determinantOf 191 = .ok (.aload_n 0, 1) := by decide +kernel
theorem dX9_determinantOf_192 : decode cX9_determinantOf 192 = .ok (.getfield 56, 3) := by decide +kernel
theorem dX9_determinantOf_195 : decode cX9_determinantOf 195 = .ok (.bipush 15, 2) := by decide +kernel
theorem dX9_determinantOf_197 : decode cX9_determinantOf 197 = .ok (.iload 5, 2) := by decide +kernel
theorem dX9_determinantOf_199 : decode cX9_determinantOf 199 = .ok (.imul, 1) := by decide +kernel
theorem dX9_determinantOf_200 : decode cX9_determinantOf 200 = .ok (.iload 7, 2) := by decide +kernel
theorem dX9_determinantOf_202 : decode cX9_determinantOf 202 = .ok (.iadd, 1) := by decide +kernel
theorem dX9_determinantOf_203 : decode cX9_determinantOf 203 = .ok (.iaload, 1) := by decide +kernel
theorem dX9_determinantOf_204 : decode cX9_determinantOf 204 = .ok (.iastore, 1) := by decide +kernel
theorem dX9_determinantOf_205 : decode cX9_determinantOf 205 = .ok (.aload_n 0, 1) := by decide +kernel
theorem dX9_determinantOf_206 : decode cX9_determinantOf 206 = .ok (.getfield 56, 3) := by decide +kernel
theorem dX9_determinantOf_209 : decode cX9_determinantOf 209 = .ok (.bipush 15, 2) := by decide +kernel
theorem dX9_determinantOf_211 : decode cX9_determinantOf 211 = .ok (.iload 5, 2) := by decide +kernel
theorem dX9_determinantOf_213 : decode cX9_determinantOf 213 = .ok (.imul, 1) := by decide +kernel
theorem dX9_determinantOf_214 : decode cX9_determinantOf 214 = .ok (.iload 7, 2) := by decide +kernel
theorem dX9_determinantOf_216 : decode cX9_determinantOf 216 = .ok (.iadd, 1) := by decide +kernel
theorem dX9_determinantOf_217 : decode cX9_determinantOf 217 = .ok (.iload 8, 2) := by decide +kernel
theorem dX9_determinantOf_219 : decode cX9_determinantOf 219 = .ok (.iastore, 1) := by decide +kernel
theorem dX9_determinantOf_220 : decode cX9_determinantOf 220 = .ok (.iinc 7 1, 3) := by decide +kernel
theorem dX9_determinantOf_223 : decode cX9_determinantOf 223 = .ok (.goto (-65), 3) := by decide +kernel
theorem dX9_determinantOf_226 : decode cX9_determinantOf 226 = .ok (.iload 4, 2) := by decide +kernel
theorem dX9_determinantOf_228 : decode cX9_determinantOf 228 = .ok (.aload_n 0, 1) := by decide +kernel
theorem dX9_determinantOf_229 : decode cX9_determinantOf 229 = .ok (.getfield 56, 3) := by decide +kernel
theorem dX9_determinantOf_232 : decode cX9_determinantOf 232 = .ok (.bipush 15, 2) := by decide +kernel
theorem dX9_determinantOf_234 : decode cX9_determinantOf 234 = .ok (.iload 5, 2) := by decide +kernel
theorem dX9_determinantOf_236 : decode cX9_determinantOf 236 = .ok (.imul, 1) := by decide +kernel
theorem dX9_determinantOf_237 : decode cX9_determinantOf 237 = .ok (.iload 5, 2) := by decide +kernel
theorem dX9_determinantOf_239 : decode cX9_determinantOf 239 = .ok (.iadd, 1) := by decide +kernel
theorem dX9_determinantOf_240 : decode cX9_determinantOf 240 = .ok (.iaload, 1) := by decide +kernel
theorem dX9_determinantOf_241 : decode cX9_determinantOf 241 = .ok (.imul, 1) := by decide +kernel
theorem dX9_determinantOf_242 : decode cX9_determinantOf 242 = .ok (.aload_n 0, 1) := by decide +kernel
theorem dX9_determinantOf_243 : decode cX9_determinantOf 243 = .ok (.getfield 7, 3) := by decide +kernel
theorem dX9_determinantOf_246 : decode cX9_determinantOf 246 = .ok (.irem, 1) := by decide +kernel
theorem dX9_determinantOf_247 : decode cX9_determinantOf 247 = .ok (.istore 4, 2) := by decide +kernel
theorem dX9_determinantOf_249 : decode cX9_determinantOf 249 = .ok (.iload 5, 2) := by decide +kernel
theorem dX9_determinantOf_251 : decode cX9_determinantOf 251 = .ok (.iconst 1, 1) := by decide +kernel
theorem dX9_determinantOf_252 : decode cX9_determinantOf 252 = .ok (.iadd, 1) := by decide +kernel
theorem dX9_determinantOf_253 : decode cX9_determinantOf 253 = .ok (.istore 7, 2) := by decide +kernel
theorem dX9_determinantOf_255 : decode cX9_determinantOf 255 = .ok (.iload 7, 2) := by decide +kernel
theorem dX9_determinantOf_257 : decode cX9_determinantOf 257 = .ok (.iload_n 2, 1) := by decide +kernel
theorem dX9_determinantOf_258 : decode cX9_determinantOf 258 = .ok (.if_icmp .ge 104, 3) := by decide +kernel
theorem dX9_determinantOf_261 : decode cX9_determinantOf 261 = .ok (.aload_n 0, 1) := by decide +kernel
theorem dX9_determinantOf_262 : decode cX9_determinantOf 262 = .ok (.aload_n 0, 1) := by decide +kernel
theorem dX9_determinantOf_263 : decode cX9_determinantOf 263 = .ok (.getfield 56, 3) := by decide +kernel
theorem dX9_determinantOf_266 : decode cX9_determinantOf 266 = .ok (.bipush 15, 2) := by decide +kernel
theorem dX9_determinantOf_268 : decode cX9_determinantOf 268 = .ok (.iload 7, 2) := by decide +kernel
theorem dX9_determinantOf_270 : decode cX9_determinantOf 270 = .ok (.imul, 1) := by decide +kernel
theorem dX9_determinantOf_271 : decode cX9_determinantOf 271 = .ok (.iload 5, 2) := by decide +kernel
theorem dX9_determinantOf_273 : decode cX9_determinantOf 273 = .ok (.iadd, 1) := by decide +kernel
theorem dX9_determinantOf_274 : decode cX9_determinantOf 274 = .ok (.iaload, 1) := by decide +kernel
theorem dX9_determinantOf_275 : decode cX9_determinantOf 275 = .ok (.aload_n 0, 1) := by decide +kernel
theorem dX9_determinantOf_276 : decode cX9_determinantOf 276 = .ok (.getfield 56, 3) := by decide +kernel
theorem dX9_determinantOf_279 : decode cX9_determinantOf 279 = .ok (.bipush 15, 2) := by decide +kernel
theorem dX9_determinantOf_281 : decode cX9_determinantOf 281 = .ok (.iload 5, 2) := by decide +kernel
theorem dX9_determinantOf_283 : decode cX9_determinantOf 283 = .ok (.imul, 1) := by decide +kernel
theorem dX9_determinantOf_284 : decode cX9_determinantOf 284 = .ok (.iload 5, 2) := by decide +kernel
theorem dX9_determinantOf_286 : decode cX9_determinantOf 286 = .ok (.iadd, 1) := by decide +kernel
theorem dX9_determinantOf_287 : decode cX9_determinantOf 287 = .ok (.iaload, 1) := by decide +kernel
theorem dX9_determinantOf_288 : decode cX9_determinantOf 288 = .ok (.invokevirtual 78, 3) := by decide +kernel
theorem dX9_determinantOf_291 : decode cX9_determinantOf 291 = .ok (.istore 8, 2) := by decide +kernel
theorem dX9_determinantOf_293 : decode cX9_determinantOf 293 = .ok (.iload 5, 2) := by decide +kernel
theorem dX9_determinantOf_295 : decode cX9_determinantOf 295 = .ok (.istore 9, 2) := by decide +kernel
theorem dX9_determinantOf_297 : decode cX9_determinantOf 297 = .ok (.iload 9, 2) := by decide +kernel
theorem dX9_determinantOf_299 : decode cX9_determinantOf 299 = .ok (.iload_n 2, 1) := by decide +kernel
theorem dX9_determinantOf_300 : decode cX9_determinantOf 300 = .ok (.if_icmp .ge 56, 3) := by decide +kernel
theorem dX9_determinantOf_303 : decode cX9_determinantOf 303 = .ok (.aload_n 0, 1) := by decide +kernel
theorem dX9_determinantOf_304 : decode cX9_determinantOf 304 = .ok (.getfield 56, 3) := by decide +kernel
theorem dX9_determinantOf_307 : decode cX9_determinantOf 307 = .ok (.bipush 15, 2) := by decide +kernel
theorem dX9_determinantOf_309 : decode cX9_determinantOf 309 = .ok (.iload 7, 2) := by decide +kernel
theorem dX9_determinantOf_311 : decode cX9_determinantOf 311 = .ok (.imul, 1) := by decide +kernel
theorem dX9_determinantOf_312 : decode cX9_determinantOf 312 = .ok (.iload 9, 2) := by decide +kernel
theorem dX9_determinantOf_314 : decode cX9_determinantOf 314 = .ok (.iadd, 1) := by decide +kernel
theorem dX9_determinantOf_315 : decode cX9_determinantOf 315 = .ok (.aload_n 0, 1) := by decide +kernel
theorem dX9_determinantOf_316 : decode cX9_determinantOf 316 = .ok (.aload_n 0, 1) := by decide +kernel
theorem dX9_determinantOf_317 : decode cX9_determinantOf 317 = .ok (.getfield 56, 3) := by decide +kernel
theorem dX9_determinantOf_320 : decode cX9_determinantOf 320 = .ok (.bipush 15, 2) := by decide +kernel
theorem dX9_determinantOf_322 : decode cX9_determinantOf 322 = .ok (.iload 7, 2) := by decide +kernel
theorem dX9_determinantOf_324 : decode cX9_determinantOf 324 = .ok (.imul, 1) := by decide +kernel
theorem dX9_determinantOf_325 : decode cX9_determinantOf 325 = .ok (.iload 9, 2) := by decide +kernel
theorem dX9_determinantOf_327 : decode cX9_determinantOf 327 = .ok (.iadd, 1) := by decide +kernel
theorem dX9_determinantOf_328 : decode cX9_determinantOf 328 = .ok (.iaload, 1) := by decide +kernel
theorem dX9_determinantOf_329 : decode cX9_determinantOf 329 = .ok (.iload 8, 2) := by decide +kernel
theorem dX9_determinantOf_331 : decode cX9_determinantOf 331 = .ok (.aload_n 0, 1) := by decide +kernel
theorem dX9_determinantOf_332 : decode cX9_determinantOf 332 = .ok (.getfield 56, 3) := by decide +kernel
theorem dX9_determinantOf_335 : decode cX9_determinantOf 335 = .ok (.bipush 15, 2) := by decide +kernel
theorem dX9_determinantOf_337 : decode cX9_determinantOf 337 = .ok (.iload 5, 2) := by decide +kernel
theorem dX9_determinantOf_339 : decode cX9_determinantOf 339 = .ok (.imul, 1) := by decide +kernel
theorem dX9_determinantOf_340 : decode cX9_determinantOf 340 = .ok (.iload 9, 2) := by decide +kernel
theorem dX9_determinantOf_342 : decode cX9_determinantOf 342 = .ok (.iadd, 1) := by decide +kernel
theorem dX9_determinantOf_343 : decode cX9_determinantOf 343 = .ok (.iaload, 1) := by decide +kernel
theorem dX9_determinantOf_344 : decode cX9_determinantOf 344 = .ok (.imul, 1) := by decide +kernel
theorem dX9_determinantOf_345 : decode cX9_determinantOf 345 = .ok (.isub, 1) := by decide +kernel
theorem dX9_determinantOf_346 : decode cX9_determinantOf 346 = .ok (.invokevirtual 85, 3) := by decide +kernel
theorem dX9_determinantOf_349 : decode cX9_determinantOf 349 = .ok (.iastore, 1) := by decide +kernel
theorem dX9_determinantOf_350 : decode cX9_determinantOf 350 = .ok (.iinc 9 1, 3) := by decide +kernel
theorem dX9_determinantOf_353 : decode cX9_determinantOf 353 = .ok (.goto (-56), 3) := by decide +kernel
theorem dX9_determinantOf_356 : decode cX9_determinantOf 356 = .ok (.iinc 7 1, 3) := by decide +kernel
theorem dX9_determinantOf_359 : decode cX9_determinantOf 359 = .ok (.goto (-104), 3) := by decide +kernel
theorem dX9_determinantOf_362 : decode cX9_determinantOf 362 = .ok (.iinc 5 1, 3) := by decide +kernel
theorem dX9_determinantOf_365 : decode cX9_determinantOf 365 = .ok (.goto (-272), 3) := by decide +kernel
theorem dX9_determinantOf_368 : decode cX9_determinantOf 368 = .ok (.iload 4, 2) := by decide +kernel
theorem dX9_determinantOf_370 : decode cX9_determinantOf 370 = .ok (.ireturn, 1) := by decide +kernel
set_option maxRecDepth 20000 in
theorem ggX9_determinant_X9_isGood : GoodIn wsX9_determinant wsX9_isGood := goodIn_r _ [5, 6, 7, 8, 9, 4, 10, 11, 12, 13, 14, 15, 16, 17, 18, 19, 20, 21, 22, 23, 24, 25, 26, 27, 28, 29, 30, 31, 32, 33, 34, 35, 36, 37, 38, 39, 40, 41, 42, 43, 44, 45, 46, 47, 48, 49, 50, 51, 52, 53, 54, 55, 56, 57, 58, 59, 60, 61, 62, 63, 64, 65, 66, 67, 68, 69, 70, 71, 72, 73, 74, 75, 76, 77, 78, 79, 80, 81, 82, 83, 84, 85, 86, 87, 88, 89, 90, 91, 92, 93, 94, 103, 104, 105, 106, 107, 108, 109, 110, 111, 112, 113, 114, 115, 116, 117, 118, 119, 120, 121, 122, 123, 124, 125, 126, 127, 128] (by decide +kernel) (by decide +kernel)
set_option maxRecDepth 20000 in
theorem gX9_determinant_X9_isGood : GoodIn wsX9_determinant (wsV RX9 109 RX9 yX9_isGood wsX9_isGood) := goodIn_app (goodIn_of _ (by decide +kernel)) ggX9_determinant_X9_isGood
set_option maxRecDepth 20000 in
theorem ggX9_determinant_X9_in : GoodIn wsX9_determinant wsX9_in := goodIn_r _ [97] (by decide +kernel) (by decide +kernel)
set_option maxRecDepth 20000 in
theorem gX9_determinant_X9_in : GoodIn wsX9_determinant (va_wsS RX9 62 yX9_in wsX9_in) := goodIn_app (goodIn_of _ (by decide +kernel)) ggX9_determinant_X9_in
set_option maxRecDepth 20000 in
theorem ggX9_determinant_X9_determinantOf : GoodIn wsX9_determinant wsX9_determinantOf := goodIn_r _ [101, 102, 94, 20, 26, 27, 28, 4, 29, 34, 35, 36, 37, 38, 39, 40, 41, 103, 104, 105, 106, 107, 108, 109, 110, 111, 112, 113, 114, 115, 116, 117, 118, 119, 120, 121, 122, 123, 124, 125, 126, 127, 128] (by decide +kernel) (by decide +kernel)
set_option maxRecDepth 20000 in
theorem gX9_determinant_X9_determinantOf : GoodIn wsX9_determinant (wsV RX9 179 RX9 yX9_determinantOf wsX9_determinantOf) := goodIn_app (goodIn_of _ (by decide +kernel)) ggX9_determinant_X9_determinantOf
theorem dX9_determinant_0 : decode cX9_determinant 0 = .ok (.aload_n 0, 1) := by decide +kernel
theorem dX9_determinant_1 : decode cX9_determinant 1 = .ok (.invokevirtual 109, 3) := by decide +kernel
theorem dX9_determinant_4 : decode cX9_determinant 4 = .ok (.ifCond .ne 6, 3) := by decide +kernel
theorem dX9_determinant_7 : decode cX9_determinant 7 = .ok (.bipush (-5), 2) := by decide +kernel
theorem dX9_determinant_9 : decode cX9_determinant 9 = .ok (.ireturn, 1) := by decide +kernel
theorem dX9_determinant_10 : decode cX9_determinant 10 = .ok (.iload_n 1, 1) := by decide +kernel
theorem dX9_determinant_11 : decode cX9_determinant 11 = .ok (.iconst 3, 1) := by decide +kernel
theorem dX9_determinant_12 : decode cX9_determinant 12 = .ok (.bipush 31, 2) := by decide +kernel
theorem dX9_determinant_14 : decode cX9_determinant 14 = .ok (.invokestatic 62, 3) := by decide +kernel
theorem dX9_determinant_17 : decode cX9_determinant 17 = .ok (.ifCond .eq 11, 3) := by decide +kernel
theorem dX9_determinant_20 : decode cX9_determinant 20 = .ok (.aload_n 0, 1) := by decide +kernel
theorem dX9_determinant_21 : decode cX9_determinant 21 = .ok (.iload_n 1, 1) := by decide +kernel
theorem dX9_determinant_22 : decode cX9_determinant 22 = .ok (.invokevirtual 179, 3) := by decide +kernel
theorem dX9_determinant_25 : decode cX9_determinant 25 = .ok (.goto 5, 3) := by decide +kernel
theorem dX9_determinant_28 : decode cX9_determinant 28 = .ok (.bipush (-2), 2) := by decide +kernel
theorem dX9_determinant_30 : decode cX9_determinant 30 = .ok (.ireturn, 1) := by decide +kernel
set_option maxRecDepth 20000 in
theorem ggX9_closes_X9_isGood : GoodIn wsX9_closes wsX9_isGood := goodIn_r _ [5, 6, 7, 8, 9, 4, 10, 11, 12, 13, 14, 15, 16, 17, 18, 19, 20, 21, 22, 23, 24, 25, 26, 27, 28, 29, 30, 31, 32, 33, 34, 35, 36, 37, 38, 39, 40, 41, 42, 43, 44, 45, 46, 47, 48, 49, 50, 51, 52, 53, 54, 55, 56, 57, 58, 59, 60, 61, 62, 63, 64, 65, 66, 67, 68, 69, 70, 71, 72, 73, 74, 75, 76, 77, 78, 79, 80, 81, 82, 83, 84, 85, 86, 87, 88, 89, 90, 91, 92, 93, 94, 103, 104, 105, 106, 107, 108, 109, 110, 111, 112, 113, 114, 115, 116, 117, 118, 119, 120, 121, 122, 123, 124, 125, 126, 127, 128] (by decide +kernel) (by decide +kernel)
set_option maxRecDepth 20000 in
theorem gX9_closes_X9_isGood : GoodIn wsX9_closes (wsV RX9 109 RX9 yX9_isGood wsX9_isGood) := goodIn_app (goodIn_of _ (by decide +kernel)) ggX9_closes_X9_isGood
set_option maxRecDepth 20000 in
theorem ggX9_closes_X9_in : GoodIn wsX9_closes wsX9_in := goodIn_r _ [97] (by decide +kernel) (by decide +kernel)
set_option maxRecDepth 20000 in
theorem gX9_closes_X9_in : GoodIn wsX9_closes (va_wsS RX9 62 yX9_in wsX9_in) := goodIn_app (goodIn_of _ (by decide +kernel)) ggX9_closes_X9_in
set_option maxRecDepth 20000 in
theorem ggX9_closes_X9_determinantOf : GoodIn wsX9_closes wsX9_determinantOf := goodIn_r _ [101, 102, 94, 20, 26, 27, 28, 4, 29, 34, 35, 36, 37, 38, 39, 40, 41, 103, 104, 105, 106, 107, 108, 109, 110, 111, 112, 113, 114, 115, 116, 117, 118, 119, 120, 121, 122, 123, 124, 125, 126, 127, 128] (by decide +kernel) (by decide +kernel)
set_option maxRecDepth 20000 in
theorem gX9_closes_X9_determinantOf : GoodIn wsX9_closes (wsV RX9 179 RX9 yX9_determinantOf wsX9_determinantOf) := goodIn_app (goodIn_of _ (by decide +kernel)) ggX9_closes_X9_determinantOf
theorem dX9_closes_0 : decode cX9_closes 0 = .ok (.aload_n 0, 1) := by decide +kernel
theorem dX9_closes_1 : decode cX9_closes 1 = .ok (.invokevirtual 109, 3) := by decide +kernel
theorem dX9_closes_4 : decode cX9_closes 4 = .ok (.ifCond .ne 6, 3) := by decide +kernel
theorem dX9_closes_7 : decode cX9_closes 7 = .ok (.bipush (-5), 2) := by decide +kernel
theorem dX9_closes_9 : decode cX9_closes 9 = .ok (.ireturn, 1) := by decide +kernel
theorem dX9_closes_10 : decode cX9_closes 10 = .ok (.iload_n 1, 1) := by decide +kernel
theorem dX9_closes_11 : decode cX9_closes 11 = .ok (.iconst 1, 1) := by decide +kernel
theorem dX9_closes_12 : decode cX9_closes 12 = .ok (.bipush 31, 2) := by decide +kernel
theorem dX9_closes_14 : decode cX9_closes 14 = .ok (.invokestatic 62, 3) := by decide +kernel
theorem dX9_closes_17 : decode cX9_closes 17 = .ok (.ifCond .ne 8, 3) := by decide +kernel
theorem dX9_closes_20 : decode cX9_closes 20 = .ok (.bipush (-2), 2) := by decide +kernel
theorem dX9_closes_22 : decode cX9_closes 22 = .ok (.goto 21, 3) := by decide +kernel
theorem dX9_closes_25 : decode cX9_closes 25 = .ok (.iload_n 1, 1) := by decide +kernel
theorem dX9_closes_26 : decode cX9_closes 26 = .ok (.iconst 2, 1) := by decide +kernel
theorem dX9_closes_27 : decode cX9_closes 27 = .ok (.if_icmp .le 15, 3) := by decide +kernel
theorem dX9_closes_30 : decode cX9_closes 30 = .ok (.aload_n 0, 1) := by decide +kernel
theorem dX9_closes_31 : decode cX9_closes 31 = .ok (.iload_n 1, 1) := by decide +kernel
theorem dX9_closes_32 : decode cX9_closes 32 = .ok (.invokevirtual 179, 3) := by decide +kernel
theorem dX9_closes_35 : decode cX9_closes 35 = .ok (.ifCond .ne 7, 3) := by decide +kernel
theorem dX9_closes_38 : decode cX9_closes 38 = .ok (.iconst 1, 1) := by decide +kernel
theorem dX9_closes_39 : decode cX9_closes 39 = .ok (.goto 4, 3) := by decide +kernel
theorem dX9_closes_42 : decode cX9_closes 42 = .ok (.iconst 0, 1) := by decide +kernel
theorem dX9_closes_43 : decode cX9_closes 43 = .ok (.ireturn, 1) := by decide +kernel
set_option maxRecDepth 20000 in
theorem ggX9_least_X9_isGood : GoodIn wsX9_least wsX9_isGood := goodIn_r _ [5, 6, 7, 8, 9, 4, 10, 11, 12, 13, 14, 15, 16, 17, 18, 19, 20, 21, 22, 23, 24, 25, 26, 27, 28, 29, 30, 31, 32, 33, 34, 35, 36, 37, 38, 39, 40, 41, 42, 43, 44, 45, 46, 47, 48, 49, 50, 51, 52, 53, 54, 55, 56, 57, 58, 59, 60, 61, 62, 63, 64, 65, 66, 67, 68, 69, 70, 71, 72, 73, 74, 75, 76, 77, 78, 79, 80, 81, 82, 83, 84, 85, 86, 87, 88, 89, 90, 91, 92, 93, 94, 100, 101, 102, 103, 104, 105, 106, 107, 108, 109, 110, 111, 112, 113, 114, 115, 116, 117, 118, 119, 120, 121, 122, 123, 124, 125] (by decide +kernel) (by decide +kernel)
set_option maxRecDepth 20000 in
theorem gX9_least_X9_isGood : GoodIn wsX9_least (wsV RX9 109 RX9 yX9_isGood wsX9_isGood) := goodIn_app (goodIn_of _ (by decide +kernel)) ggX9_least_X9_isGood
set_option maxRecDepth 20000 in
theorem ggX9_least_X9_determinantOf : GoodIn wsX9_least wsX9_determinantOf := goodIn_r _ [98, 99, 94, 20, 26, 27, 28, 4, 29, 34, 35, 36, 37, 38, 39, 40, 41, 100, 101, 102, 103, 104, 105, 106, 107, 108, 109, 110, 111, 112, 113, 114, 115, 116, 117, 118, 119, 120, 121, 122, 123, 124, 125] (by decide +kernel) (by decide +kernel)
set_option maxRecDepth 20000 in
theorem gX9_least_X9_determinantOf : GoodIn wsX9_least (wsV RX9 179 RX9 yX9_determinantOf wsX9_determinantOf) := goodIn_app (goodIn_of _ (by decide +kernel)) ggX9_least_X9_determinantOf
theorem dX9_least_0 : decode cX9_least 0 = .ok (.aload_n 0, 1) := by decide +kernel
theorem dX9_least_1 : decode cX9_least 1 = .ok (.invokevirtual 109, 3) := by decide +kernel
theorem dX9_least_4 : decode cX9_least 4 = .ok (.ifCond .ne 6, 3) := by decide +kernel
theorem dX9_least_7 : decode cX9_least 7 = .ok (.bipush (-5), 2) := by decide +kernel
theorem dX9_least_9 : decode cX9_least 9 = .ok (.ireturn, 1) := by decide +kernel
theorem dX9_least_10 : decode cX9_least 10 = .ok (.iconst 3, 1) := by decide +kernel
theorem dX9_least_11 : decode cX9_least 11 = .ok (.istore_n 1, 1) := by decide +kernel
theorem dX9_least_12 : decode cX9_least 12 = .ok (.iload_n 1, 1) := by decide +kernel
theorem dX9_least_13 : decode cX9_least 13 = .ok (.bipush 31, 2) := by decide +kernel
theorem dX9_least_15 : decode cX9_least 15 = .ok (.if_icmp .gt 19, 3) := by decide +kernel
theorem dX9_least_18 : decode cX9_least 18 = .ok (.aload_n 0, 1) := by decide +kernel
theorem dX9_least_19 : decode cX9_least 19 = .ok (.iload_n 1, 1) := by decide +kernel
theorem dX9_least_20 : decode cX9_least 20 = .ok (.invokevirtual 179, 3) := by decide +kernel
theorem dX9_least_23 : decode cX9_least 23 = .ok (.ifCond .ne 5, 3) := by decide +kernel
theorem dX9_least_26 : decode cX9_least 26 = .ok (.iload_n 1, 1) := by decide +kernel
theorem dX9_least_27 : decode cX9_least 27 = .ok (.ireturn, 1) := by decide +kernel
theorem dX9_least_28 : decode cX9_least 28 = .ok (.iinc 1 1, 3) := by decide +kernel
theorem dX9_least_31 : decode cX9_least 31 = .ok (.goto (-19), 3) := by decide +kernel
theorem dX9_least_34 : decode cX9_least 34 = .ok (.bipush (-6), 2) := by decide +kernel
theorem dX9_least_36 : decode cX9_least 36 = .ok (.ireturn, 1) := by decide +kernel
set_option maxRecDepth 20000 in
theorem ggX9_cubeAt_X9_of : GoodIn wsX9_cubeAt wsX9_of := goodIn_r _ [6, 7, 16, 17, 18, 19, 20, 21, 22, 23, 24, 25, 26, 27, 28, 29, 30, 31, 32, 33, 34, 35, 36, 37, 38, 39, 40, 41] (by decide +kernel) (by decide +kernel)
set_option maxRecDepth 20000 in
theorem gX9_cubeAt_X9_of : GoodIn wsX9_cubeAt (wsV RX9 85 RX9 yX9_of wsX9_of) := goodIn_app (goodIn_of _ (by decide +kernel)) ggX9_cubeAt_X9_of
set_option maxRecDepth 20000 in
theorem ggX9_cubeAt_X9_by : GoodIn wsX9_cubeAt wsX9_by := goodIn_r _ [11, 7, 12, 13, 14, 5, 15, 16, 17, 18, 19, 20, 21, 22, 23, 24, 25, 26, 27, 28, 29, 30, 31, 32, 33, 34, 35, 36, 37, 38, 39, 40, 41] (by decide +kernel) (by decide +kernel)
set_option maxRecDepth 20000 in
theorem gX9_cubeAt_X9_by : GoodIn wsX9_cubeAt (wsV RX9 78 RX9 yX9_by wsX9_by) := goodIn_app (goodIn_of _ (by decide +kernel)) ggX9_cubeAt_X9_by
theorem dX9_cubeAt_0 : decode cX9_cubeAt 0 = .ok (.aload_n 0, 1) := by decide +kernel
theorem dX9_cubeAt_1 : decode cX9_cubeAt 1 = .ok (.getfield 17, 3) := by decide +kernel
theorem dX9_cubeAt_4 : decode cX9_cubeAt 4 = .ok (.iconst 3, 1) := by decide +kernel
theorem dX9_cubeAt_5 : decode cX9_cubeAt 5 = .ok (.iaload, 1) := by decide +kernel
theorem dX9_cubeAt_6 : decode cX9_cubeAt 6 = .ok (.istore_n 2, 1) := by decide +kernel
theorem dX9_cubeAt_7 : decode cX9_cubeAt 7 = .ok (.aload_n 0, 1) := by decide +kernel
theorem dX9_cubeAt_8 : decode cX9_cubeAt 8 = .ok (.iload_n 2, 1) := by decide +kernel
theorem dX9_cubeAt_9 : decode cX9_cubeAt 9 = .ok (.iload_n 1, 1) := by decide +kernel
theorem dX9_cubeAt_10 : decode cX9_cubeAt 10 = .ok (.imul, 1) := by decide +kernel
theorem dX9_cubeAt_11 : decode cX9_cubeAt 11 = .ok (.aload_n 0, 1) := by decide +kernel
theorem dX9_cubeAt_12 : decode cX9_cubeAt 12 = .ok (.getfield 17, 3) := by decide +kernel
theorem dX9_cubeAt_15 : decode cX9_cubeAt 15 = .ok (.iconst 2, 1) := by decide +kernel
theorem dX9_cubeAt_16 : decode cX9_cubeAt 16 = .ok (.iaload, 1) := by decide +kernel
theorem dX9_cubeAt_17 : decode cX9_cubeAt 17 = .ok (.iadd, 1) := by decide +kernel
theorem dX9_cubeAt_18 : decode cX9_cubeAt 18 = .ok (.invokevirtual 85, 3) := by decide +kernel
theorem dX9_cubeAt_21 : decode cX9_cubeAt 21 = .ok (.istore_n 2, 1) := by decide +kernel
theorem dX9_cubeAt_22 : decode cX9_cubeAt 22 = .ok (.aload_n 0, 1) := by decide +kernel
theorem dX9_cubeAt_23 : decode cX9_cubeAt 23 = .ok (.iload_n 2, 1) := by decide +kernel
theorem dX9_cubeAt_24 : decode cX9_cubeAt 24 = .ok (.iload_n 1, 1) := by decide +kernel
theorem dX9_cubeAt_25 : decode cX9_cubeAt 25 = .ok (.imul, 1) := by decide +kernel
theorem dX9_cubeAt_26 : decode cX9_cubeAt 26 = .ok (.aload_n 0, 1) := by decide +kernel
theorem dX9_cubeAt_27 : decode cX9_cubeAt 27 = .ok (.getfield 17, 3) := by decide +kernel
theorem dX9_cubeAt_30 : decode cX9_cubeAt 30 = .ok (.iconst 1, 1) := by decide +kernel
theorem dX9_cubeAt_31 : decode cX9_cubeAt 31 = .ok (.iaload, 1) := by decide +kernel
theorem dX9_cubeAt_32 : decode cX9_cubeAt 32 = .ok (.iadd, 1) := by decide +kernel
theorem dX9_cubeAt_33 : decode cX9_cubeAt 33 = .ok (.invokevirtual 85, 3) := by decide +kernel
theorem dX9_cubeAt_36 : decode cX9_cubeAt 36 = .ok (.istore_n 2, 1) := by decide +kernel
theorem dX9_cubeAt_37 : decode cX9_cubeAt 37 = .ok (.aload_n 0, 1) := by decide +kernel
theorem dX9_cubeAt_38 : decode cX9_cubeAt 38 = .ok (.iload_n 2, 1) := by decide +kernel
theorem dX9_cubeAt_39 : decode cX9_cubeAt 39 = .ok (.iload_n 1, 1) := by decide +kernel
theorem dX9_cubeAt_40 : decode cX9_cubeAt 40 = .ok (.imul, 1) := by decide +kernel
theorem dX9_cubeAt_41 : decode cX9_cubeAt 41 = .ok (.aload_n 0, 1) := by decide +kernel
theorem dX9_cubeAt_42 : decode cX9_cubeAt 42 = .ok (.getfield 17, 3) := by decide +kernel
theorem dX9_cubeAt_45 : decode cX9_cubeAt 45 = .ok (.iconst 0, 1) := by decide +kernel
theorem dX9_cubeAt_46 : decode cX9_cubeAt 46 = .ok (.iaload, 1) := by decide +kernel
theorem dX9_cubeAt_47 : decode cX9_cubeAt 47 = .ok (.iadd, 1) := by decide +kernel
theorem dX9_cubeAt_48 : decode cX9_cubeAt 48 = .ok (.invokevirtual 85, 3) := by decide +kernel
theorem dX9_cubeAt_51 : decode cX9_cubeAt 51 = .ok (.istore_n 2, 1) := by decide +kernel
theorem dX9_cubeAt_52 : decode cX9_cubeAt 52 = .ok (.aload_n 0, 1) := by decide +kernel
theorem dX9_cubeAt_53 : decode cX9_cubeAt 53 = .ok (.iload_n 2, 1) := by decide +kernel
theorem dX9_cubeAt_54 : decode cX9_cubeAt 54 = .ok (.aload_n 0, 1) := by decide +kernel
theorem dX9_cubeAt_55 : decode cX9_cubeAt 55 = .ok (.getfield 17, 3) := by decide +kernel
theorem dX9_cubeAt_58 : decode cX9_cubeAt 58 = .ok (.iconst 0, 1) := by decide +kernel
theorem dX9_cubeAt_59 : decode cX9_cubeAt 59 = .ok (.iaload, 1) := by decide +kernel
theorem dX9_cubeAt_60 : decode cX9_cubeAt 60 = .ok (.invokevirtual 78, 3) := by decide +kernel
theorem dX9_cubeAt_63 : decode cX9_cubeAt 63 = .ok (.ireturn, 1) := by decide +kernel
set_option maxRecDepth 20000 in
theorem ggX9_addOne_X9_by : GoodIn wsX9_addOne wsX9_by := goodIn_r _ [9, 10, 11, 12, 13, 8, 14, 19, 20, 21, 22, 23, 24, 25, 26, 27, 28, 29, 30, 31, 32, 33, 34, 35, 36, 37, 38, 39, 40, 41, 42, 43, 44] (by decide +kernel) (by decide +kernel)
set_option maxRecDepth 20000 in
theorem gX9_addOne_X9_by : GoodIn wsX9_addOne (wsV RX9 78 RX9 yX9_by wsX9_by) := goodIn_app (goodIn_of _ (by decide +kernel)) ggX9_addOne_X9_by
set_option maxRecDepth 20000 in
theorem ggX9_addOne_X9_of : GoodIn wsX9_addOne wsX9_of := goodIn_r _ [18, 10, 19, 20, 21, 22, 23, 24, 25, 26, 27, 28, 29, 30, 31, 32, 33, 34, 35, 36, 37, 38, 39, 40, 41, 42, 43, 44] (by decide +kernel) (by decide +kernel)
set_option maxRecDepth 20000 in
theorem gX9_addOne_X9_of : GoodIn wsX9_addOne (wsV RX9 85 RX9 yX9_of wsX9_of) := goodIn_app (goodIn_of _ (by decide +kernel)) ggX9_addOne_X9_of
theorem dX9_addOne_0 : decode cX9_addOne 0 = .ok (.aload_n 0, 1) := by decide +kernel
theorem dX9_addOne_1 : decode cX9_addOne 1 = .ok (.getfield 182, 3) := by decide +kernel
theorem dX9_addOne_4 : decode cX9_addOne 4 = .ok (.ifCond .eq 19, 3) := by decide +kernel
theorem dX9_addOne_7 : decode cX9_addOne 7 = .ok (.aload_n 0, 1) := by decide +kernel
theorem dX9_addOne_8 : decode cX9_addOne 8 = .ok (.iconst 0, 1) := by decide +kernel
theorem dX9_addOne_9 : decode cX9_addOne 9 = .ok (.putfield 182, 3) := by decide +kernel
theorem dX9_addOne_12 : decode cX9_addOne 12 = .ok (.aload_n 0, 1) := by decide +kernel
theorem dX9_addOne_13 : decode cX9_addOne 13 = .ok (.iconst 0, 1) := by decide +kernel
theorem dX9_addOne_14 : decode cX9_addOne 14 = .ok (.putfield 185, 3) := by decide +kernel
theorem dX9_addOne_17 : decode cX9_addOne 17 = .ok (.aload_n 0, 1) := by decide +kernel
theorem dX9_addOne_18 : decode cX9_addOne 18 = .ok (.iconst 1, 1) := by decide +kernel
theorem dX9_addOne_19 : decode cX9_addOne 19 = .ok (.putfield 188, 3) := by decide +kernel
theorem dX9_addOne_22 : decode cX9_addOne 22 = .ok (.return_, 1) := by decide +kernel
theorem dX9_addOne_23 : decode cX9_addOne 23 = .ok (.aload_n 0, 1) := by decide +kernel
theorem dX9_addOne_24 : decode cX9_addOne 24 = .ok (.aload_n 0, 1) := by decide +kernel
theorem dX9_addOne_25 : decode cX9_addOne 25 = .ok (.getfield 17, 3) := by decide +kernel
theorem dX9_addOne_28 : decode cX9_addOne 28 = .ok (.iconst 3, 1) := by decide +kernel
theorem dX9_addOne_29 : decode cX9_addOne 29 = .ok (.iaload, 1) := by decide +kernel
theorem dX9_addOne_30 : decode cX9_addOne 30 = .ok (.aload_n 0, 1) := by decide +kernel
theorem dX9_addOne_31 : decode cX9_addOne 31 = .ok (.getfield 17, 3) := by decide +kernel
theorem dX9_addOne_34 : decode cX9_addOne 34 = .ok (.iconst 0, 1) := by decide +kernel
theorem dX9_addOne_35 : decode cX9_addOne 35 = .ok (.iaload, 1) := by decide +kernel
theorem dX9_addOne_36 : decode cX9_addOne 36 = .ok (.invokevirtual 78, 3) := by decide +kernel
theorem dX9_addOne_39 : decode cX9_addOne 39 = .ok (.istore_n 1, 1) := by decide +kernel
theorem dX9_addOne_40 : decode cX9_addOne 40 = .ok (.aload_n 0, 1) := by decide +kernel
theorem dX9_addOne_41 : decode cX9_addOne 41 = .ok (.aload_n 0, 1) := by decide +kernel
theorem dX9_addOne_42 : decode cX9_addOne 42 = .ok (.getfield 17, 3) := by decide +kernel
theorem dX9_addOne_45 : decode cX9_addOne 45 = .ok (.iconst 2, 1) := by decide +kernel
theorem dX9_addOne_46 : decode cX9_addOne 46 = .ok (.iaload, 1) := by decide +kernel
theorem dX9_addOne_47 : decode cX9_addOne 47 = .ok (.aload_n 0, 1) := by decide +kernel
theorem dX9_addOne_48 : decode cX9_addOne 48 = .ok (.getfield 17, 3) := by decide +kernel
theorem dX9_addOne_51 : decode cX9_addOne 51 = .ok (.iconst 0, 1) := by decide +kernel
theorem dX9_addOne_52 : decode cX9_addOne 52 = .ok (.iaload, 1) := by decide +kernel
theorem dX9_addOne_53 : decode cX9_addOne 53 = .ok (.invokevirtual 78, 3) := by decide +kernel
theorem dX9_addOne_56 : decode cX9_addOne 56 = .ok (.istore_n 2, 1) := by decide +kernel
theorem dX9_addOne_57 : decode cX9_addOne 57 = .ok (.aload_n 0, 1) := by decide +kernel
theorem dX9_addOne_58 : decode cX9_addOne 58 = .ok (.aload_n 0, 1) := by decide +kernel
theorem dX9_addOne_59 : decode cX9_addOne 59 = .ok (.getfield 17, 3) := by decide +kernel
theorem dX9_addOne_62 : decode cX9_addOne 62 = .ok (.iconst 1, 1) := by decide +kernel
theorem dX9_addOne_63 : decode cX9_addOne 63 = .ok (.iaload, 1) := by decide +kernel
theorem dX9_addOne_64 : decode cX9_addOne 64 = .ok (.aload_n 0, 1) := by decide +kernel
theorem dX9_addOne_65 : decode cX9_addOne 65 = .ok (.getfield 17, 3) := by decide +kernel
theorem dX9_addOne_68 : decode cX9_addOne 68 = .ok (.iconst 0, 1) := by decide +kernel
theorem dX9_addOne_69 : decode cX9_addOne 69 = .ok (.iaload, 1) := by decide +kernel
theorem dX9_addOne_70 : decode cX9_addOne 70 = .ok (.invokevirtual 78, 3) := by decide +kernel
theorem dX9_addOne_73 : decode cX9_addOne 73 = .ok (.istore_n 3, 1) := by decide +kernel
theorem dX9_addOne_74 : decode cX9_addOne 74 = .ok (.aload_n 0, 1) := by decide +kernel
theorem dX9_addOne_75 : decode cX9_addOne 75 = .ok (.getfield 185, 3) := by decide +kernel
theorem dX9_addOne_78 : decode cX9_addOne 78 = .ok (.ifCond .ne 28, 3) := by decide +kernel
theorem dX9_addOne_81 : decode cX9_addOne 81 = .ok (.aload_n 0, 1) := by decide +kernel
theorem dX9_addOne_82 : decode cX9_addOne 82 = .ok (.getfield 188, 3) := by decide +kernel
theorem dX9_addOne_85 : decode cX9_addOne 85 = .ok (.iconst 1, 1) := by decide +kernel
theorem dX9_addOne_86 : decode cX9_addOne 86 = .ok (.if_icmp .eq 9, 3) := by decide +kernel
theorem dX9_addOne_89 : decode cX9_addOne 89 = .ok (.aload_n 0, 1) := by decide +kernel
theorem dX9_addOne_90 : decode cX9_addOne 90 = .ok (.iconst 1, 1) := by decide +kernel
theorem dX9_addOne_91 : decode cX9_addOne 91 = .ok (.putfield 182, 3) := by decide +kernel
theorem dX9_addOne_94 : decode cX9_addOne 94 = .ok (.return_, 1) := by decide +kernel
theorem dX9_addOne_95 : decode cX9_addOne 95 = .ok (.aload_n 0, 1) := by decide +kernel
theorem dX9_addOne_96 : decode cX9_addOne 96 = .ok (.iload_n 3, 1) := by decide +kernel
theorem dX9_addOne_97 : decode cX9_addOne 97 = .ok (.iconst 2, 1) := by decide +kernel
theorem dX9_addOne_98 : decode cX9_addOne 98 = .ok (.invokevirtual 78, 3) := by decide +kernel
theorem dX9_addOne_101 : decode cX9_addOne 101 = .ok (.istore 4, 2) := by decide +kernel
theorem dX9_addOne_103 : decode cX9_addOne 103 = .ok (.goto 23, 3) := by decide +kernel
theorem dX9_addOne_106 : decode cX9_addOne 106 = .ok (.aload_n 0, 1) := by decide +kernel
theorem dX9_addOne_107 : decode cX9_addOne 107 = .ok (.aload_n 0, 1) := by decide +kernel
theorem dX9_addOne_108 : decode cX9_addOne 108 = .ok (.aload_n 0, 1) := by decide +kernel
theorem dX9_addOne_109 : decode cX9_addOne 109 = .ok (.getfield 188, 3) := by decide +kernel
theorem dX9_addOne_112 : decode cX9_addOne 112 = .ok (.iconst 1, 1) := by decide +kernel
theorem dX9_addOne_113 : decode cX9_addOne 113 = .ok (.isub, 1) := by decide +kernel
theorem dX9_addOne_114 : decode cX9_addOne 114 = .ok (.invokevirtual 85, 3) := by decide +kernel
theorem dX9_addOne_117 : decode cX9_addOne 117 = .ok (.aload_n 0, 1) := by decide +kernel
theorem dX9_addOne_118 : decode cX9_addOne 118 = .ok (.getfield 185, 3) := by decide +kernel
theorem dX9_addOne_121 : decode cX9_addOne 121 = .ok (.invokevirtual 78, 3) := by decide +kernel
theorem dX9_addOne_124 : decode cX9_addOne 124 = .ok (.istore 4, 2) := by decide +kernel
theorem dX9_addOne_126 : decode cX9_addOne 126 = .ok (.aload_n 0, 1) := by decide +kernel
theorem dX9_addOne_127 : decode cX9_addOne 127 = .ok (.aload_n 0, 1) := by decide +kernel
theorem dX9_addOne_128 : decode cX9_addOne 128 = .ok (.aload_n 0, 1) := by decide +kernel
theorem dX9_addOne_129 : decode cX9_addOne 129 = .ok (.iload 4, 2) := by decide +kernel
theorem dX9_addOne_131 : decode cX9_addOne 131 = .ok (.iload 4, 2) := by decide +kernel
theorem dX9_addOne_133 : decode cX9_addOne 133 = .ok (.imul, 1) := by decide +kernel
theorem dX9_addOne_134 : decode cX9_addOne 134 = .ok (.iload_n 2, 1) := by decide +kernel
theorem dX9_addOne_135 : decode cX9_addOne 135 = .ok (.isub, 1) := by decide +kernel
theorem dX9_addOne_136 : decode cX9_addOne 136 = .ok (.invokevirtual 85, 3) := by decide +kernel
theorem dX9_addOne_139 : decode cX9_addOne 139 = .ok (.iload_n 1, 1) := by decide +kernel
theorem dX9_addOne_140 : decode cX9_addOne 140 = .ok (.invokevirtual 78, 3) := by decide +kernel
theorem dX9_addOne_143 : decode cX9_addOne 143 = .ok (.aload_n 0, 1) := by decide +kernel
theorem dX9_addOne_144 : decode cX9_addOne 144 = .ok (.getfield 185, 3) := by decide +kernel
theorem dX9_addOne_147 : decode cX9_addOne 147 = .ok (.isub, 1) := by decide +kernel
theorem dX9_addOne_148 : decode cX9_addOne 148 = .ok (.invokevirtual 85, 3) := by decide +kernel
theorem dX9_addOne_151 : decode cX9_addOne 151 = .ok (.istore 5, 2) := by decide +kernel
theorem dX9_addOne_153 : decode cX9_addOne 153 = .ok (.aload_n 0, 1) := by decide +kernel
theorem dX9_addOne_154 : decode cX9_addOne 154 = .ok (.iconst 1, 1) := by decide +kernel
theorem dX9_addOne_155 : decode cX9_addOne 155 = .ok (.iload 4, 2) := by decide +kernel
theorem dX9_addOne_157 : decode cX9_addOne 157 = .ok (.iload 5, 2) := by decide +kernel
theorem dX9_addOne_159 : decode cX9_addOne 159 = .ok (.imul, 1) := by decide +kernel
theorem dX9_addOne_160 : decode cX9_addOne 160 = .ok (.iadd, 1) := by decide +kernel
theorem dX9_addOne_161 : decode cX9_addOne 161 = .ok (.ineg, 1) := by decide +kernel
theorem dX9_addOne_162 : decode cX9_addOne 162 = .ok (.invokevirtual 85, 3) := by decide +kernel
theorem dX9_addOne_165 : decode cX9_addOne 165 = .ok (.istore 6, 2) := by decide +kernel
theorem dX9_addOne_167 : decode cX9_addOne 167 = .ok (.aload_n 0, 1) := by decide +kernel
theorem dX9_addOne_168 : decode cX9_addOne 168 = .ok (.iload 5, 2) := by decide +kernel
theorem dX9_addOne_170 : decode cX9_addOne 170 = .ok (.putfield 185, 3) := by decide +kernel
theorem dX9_addOne_173 : decode cX9_addOne 173 = .ok (.aload_n 0, 1) := by decide +kernel
theorem dX9_addOne_174 : decode cX9_addOne 174 = .ok (.iload 6, 2) := by decide +kernel
theorem dX9_addOne_176 : decode cX9_addOne 176 = .ok (.putfield 188, 3) := by decide +kernel
theorem dX9_addOne_179 : decode cX9_addOne 179 = .ok (.return_, 1) := by decide +kernel
set_option maxRecDepth 20000 in
theorem ggX9_multipleOf_X9_addOne : GoodIn wsX9_multipleOf wsX9_addOne := goodIn_r _ [8, 1, 2, 3, 9, 10, 11, 12, 7, 13, 14, 15, 16, 17, 18, 19, 20, 21, 22, 23, 24, 25, 26, 27, 28, 29, 30, 31, 32, 33, 34, 35, 36, 37, 38, 39, 40, 41, 42, 43, 44, 45, 46, 47, 48] (by decide +kernel) (by decide +kernel)
set_option maxRecDepth 20000 in
theorem gX9_multipleOf_X9_addOne : GoodIn wsX9_multipleOf (wsV RX9 191 RX9 yX9_addOne wsX9_addOne) := goodIn_app (goodIn_of _ (by decide +kernel)) ggX9_multipleOf_X9_addOne
theorem dX9_multipleOf_0 : decode cX9_multipleOf 0 = .ok (.aload_n 0, 1) := by decide +kernel
theorem dX9_multipleOf_1 : decode cX9_multipleOf 1 = .ok (.iconst 1, 1) := by decide +kernel
theorem dX9_multipleOf_2 : decode cX9_multipleOf 2 = .ok (.putfield 182, 3) := by decide +kernel
theorem dX9_multipleOf_5 : decode cX9_multipleOf 5 = .ok (.aload_n 0, 1) := by decide +kernel
theorem dX9_multipleOf_6 : decode cX9_multipleOf 6 = .ok (.iconst 0, 1) := by decide +kernel
theorem dX9_multipleOf_7 : decode cX9_multipleOf 7 = .ok (.putfield 185, 3) := by decide +kernel
theorem dX9_multipleOf_10 : decode cX9_multipleOf 10 = .ok (.aload_n 0, 1) := by decide +kernel
theorem dX9_multipleOf_11 : decode cX9_multipleOf 11 = .ok (.iconst 0, 1) := by decide +kernel
theorem dX9_multipleOf_12 : decode cX9_multipleOf 12 = .ok (.putfield 188, 3) := by decide +kernel
theorem dX9_multipleOf_15 : decode cX9_multipleOf 15 = .ok (.iconst 0, 1) := by decide +kernel
theorem dX9_multipleOf_16 : decode cX9_multipleOf 16 = .ok (.istore_n 2, 1) := by decide +kernel
theorem dX9_multipleOf_17 : decode cX9_multipleOf 17 = .ok (.iload_n 2, 1) := by decide +kernel
theorem dX9_multipleOf_18 : decode cX9_multipleOf 18 = .ok (.iload_n 1, 1) := by decide +kernel
theorem dX9_multipleOf_19 : decode cX9_multipleOf 19 = .ok (.if_icmp .ge 13, 3) := by decide +kernel
theorem dX9_multipleOf_22 : decode cX9_multipleOf 22 = .ok (.aload_n 0, 1) := by decide +kernel
theorem dX9_multipleOf_23 : decode cX9_multipleOf 23 = .ok (.invokevirtual 191, 3) := by decide +kernel
theorem dX9_multipleOf_26 : decode cX9_multipleOf 26 = .ok (.iinc 2 1, 3) := by decide +kernel
theorem dX9_multipleOf_29 : decode cX9_multipleOf 29 = .ok (.goto (-12), 3) := by decide +kernel
theorem dX9_multipleOf_32 : decode cX9_multipleOf 32 = .ok (.return_, 1) := by decide +kernel
set_option maxRecDepth 20000 in
theorem ggX9_multiple_X9_isGood : GoodIn wsX9_multiple wsX9_isGood := goodIn_r _ [8, 9, 10, 11, 12, 7, 13, 14, 15, 16, 17, 18, 19, 20, 21, 22, 23, 24, 25, 26, 27, 28, 29, 30, 31, 32, 33, 34, 35, 36, 37, 38, 39, 40, 41, 42, 43, 44, 45, 46, 47, 48, 49, 50, 51, 52, 53, 54, 55, 56, 57, 58, 59, 60, 61, 62, 63, 64, 65, 66, 67, 68, 69, 70, 71, 72, 73, 74, 75, 76, 77, 78, 79, 80, 81, 82, 83, 84, 85, 86, 87, 88, 89, 90, 91, 92, 93, 94, 95, 96, 97, 109, 110, 111, 112, 113, 114, 115, 116, 117, 118, 119, 120, 121, 122, 123, 124, 125, 126, 127, 128, 129, 130, 131, 132, 133, 134] (by decide +kernel) (by decide +kernel)
set_option maxRecDepth 20000 in
theorem gX9_multiple_X9_isGood : GoodIn wsX9_multiple (wsV RX9 109 RX9 yX9_isGood wsX9_isGood) := goodIn_app (goodIn_of _ (by decide +kernel)) ggX9_multiple_X9_isGood
set_option maxRecDepth 20000 in
theorem ggX9_multiple_X9_in : GoodIn wsX9_multiple wsX9_in := goodIn_r _ [100] (by decide +kernel) (by decide +kernel)
set_option maxRecDepth 20000 in
theorem gX9_multiple_X9_in : GoodIn wsX9_multiple (va_wsS RX9 62 yX9_in wsX9_in) := goodIn_app (goodIn_of _ (by decide +kernel)) ggX9_multiple_X9_in
set_option maxRecDepth 20000 in
theorem ggX9_multiple_X9_multipleOf : GoodIn wsX9_multiple wsX9_multipleOf := goodIn_r _ [104, 1, 2, 3, 105, 106, 107, 7, 108, 15, 37, 38, 39, 40, 23, 41, 42, 43, 44, 29, 30, 31, 32, 109, 110, 111, 112, 113, 114, 115, 116, 117, 118, 119, 120, 121, 122, 123, 124, 125, 126, 127, 128, 129, 130, 131, 132, 133, 134] (by decide +kernel) (by decide +kernel)
set_option maxRecDepth 20000 in
theorem gX9_multiple_X9_multipleOf : GoodIn wsX9_multiple (wsV RX9 194 RX9 yX9_multipleOf wsX9_multipleOf) := goodIn_app (goodIn_of _ (by decide +kernel)) ggX9_multiple_X9_multipleOf
theorem dX9_multiple_0 : decode cX9_multiple 0 = .ok (.aload_n 0, 1) := by decide +kernel
theorem dX9_multiple_1 : decode cX9_multiple 1 = .ok (.invokevirtual 109, 3) := by decide +kernel
theorem dX9_multiple_4 : decode cX9_multiple 4 = .ok (.ifCond .ne 6, 3) := by decide +kernel
theorem dX9_multiple_7 : decode cX9_multiple 7 = .ok (.bipush (-5), 2) := by decide +kernel
theorem dX9_multiple_9 : decode cX9_multiple 9 = .ok (.ireturn, 1) := by decide +kernel
theorem dX9_multiple_10 : decode cX9_multiple 10 = .ok (.iload_n 1, 1) := by decide +kernel
theorem dX9_multiple_11 : decode cX9_multiple 11 = .ok (.iconst 0, 1) := by decide +kernel
theorem dX9_multiple_12 : decode cX9_multiple 12 = .ok (.sipush 1000, 3) := by decide +kernel
theorem dX9_multiple_15 : decode cX9_multiple 15 = .ok (.invokestatic 62, 3) := by decide +kernel
theorem dX9_multiple_18 : decode cX9_multiple 18 = .ok (.ifCond .eq 12, 3) := by decide +kernel
theorem dX9_multiple_21 : decode cX9_multiple 21 = .ok (.iload_n 2, 1) := by decide +kernel
theorem dX9_multiple_22 : decode cX9_multiple 22 = .ok (.iconst 0, 1) := by decide +kernel
theorem dX9_multiple_23 : decode cX9_multiple 23 = .ok (.iconst 1, 1) := by decide +kernel
theorem dX9_multiple_24 : decode cX9_multiple 24 = .ok (.invokestatic 62, 3) := by decide +kernel
theorem dX9_multiple_27 : decode cX9_multiple 27 = .ok (.ifCond .ne 6, 3) := by decide +kernel
theorem dX9_multiple_30 : decode cX9_multiple 30 = .ok (.bipush (-2), 2) := by decide +kernel
theorem dX9_multiple_32 : decode cX9_multiple 32 = .ok (.ireturn, 1) := by decide +kernel
theorem dX9_multiple_33 : decode cX9_multiple 33 = .ok (.aload_n 0, 1) := by decide +kernel
theorem dX9_multiple_34 : decode cX9_multiple 34 = .ok (.iload_n 1, 1) := by decide +kernel
theorem dX9_multiple_35 : decode cX9_multiple 35 = .ok (.invokevirtual 194, 3) := by decide +kernel
theorem dX9_multiple_38 : decode cX9_multiple 38 = .ok (.aload_n 0, 1) := by decide +kernel
theorem dX9_multiple_39 : decode cX9_multiple 39 = .ok (.getfield 182, 3) := by decide +kernel
theorem dX9_multiple_42 : decode cX9_multiple 42 = .ok (.ifCond .eq 8, 3) := by decide +kernel
theorem dX9_multiple_45 : decode cX9_multiple 45 = .ok (.bipush (-6), 2) := by decide +kernel
theorem dX9_multiple_47 : decode cX9_multiple 47 = .ok (.goto 18, 3) := by decide +kernel
theorem dX9_multiple_50 : decode cX9_multiple 50 = .ok (.iload_n 2, 1) := by decide +kernel
theorem dX9_multiple_51 : decode cX9_multiple 51 = .ok (.ifCond .ne 10, 3) := by decide +kernel
theorem dX9_multiple_54 : decode cX9_multiple 54 = .ok (.aload_n 0, 1) := by decide +kernel
theorem dX9_multiple_55 : decode cX9_multiple 55 = .ok (.getfield 185, 3) := by decide +kernel
theorem dX9_multiple_58 : decode cX9_multiple 58 = .ok (.goto 7, 3) := by decide +kernel
theorem dX9_multiple_61 : decode cX9_multiple 61 = .ok (.aload_n 0, 1) := by decide +kernel
theorem dX9_multiple_62 : decode cX9_multiple 62 = .ok (.getfield 188, 3) := by decide +kernel
theorem dX9_multiple_65 : decode cX9_multiple 65 = .ok (.ireturn, 1) := by decide +kernel
set_option maxRecDepth 20000 in
theorem ggX9_orderOf_X9_multipleOf : GoodIn wsX9_orderOf wsX9_multipleOf := goodIn_r _ [6, 1, 7, 8, 9, 10, 11, 5, 12, 13, 14, 15, 16, 17, 18, 19, 20, 21, 22, 23, 24, 25, 26, 27, 28, 29, 30, 31, 32, 33, 34, 35, 36, 37, 38, 39, 40, 41, 42, 43, 44, 45, 46, 47, 48, 49, 50, 51, 52] (by decide +kernel) (by decide +kernel)
set_option maxRecDepth 20000 in
theorem gX9_orderOf_X9_multipleOf : GoodIn wsX9_orderOf (wsV RX9 194 RX9 yX9_multipleOf wsX9_multipleOf) := goodIn_app (goodIn_of _ (by decide +kernel)) ggX9_orderOf_X9_multipleOf
set_option maxRecDepth 20000 in
theorem ggX9_orderOf_X9_addOne : GoodIn wsX9_orderOf wsX9_addOne := goodIn_r _ [12, 1, 7, 8, 13, 14, 15, 16, 5, 17, 18, 19, 20, 21, 22, 23, 24, 25, 26, 27, 28, 29, 30, 31, 32, 33, 34, 35, 36, 37, 38, 39, 40, 41, 42, 43, 44, 45, 46, 47, 48, 49, 50, 51, 52] (by decide +kernel) (by decide +kernel)
set_option maxRecDepth 20000 in
theorem gX9_orderOf_X9_addOne : GoodIn wsX9_orderOf (wsV RX9 191 RX9 yX9_addOne wsX9_addOne) := goodIn_app (goodIn_of _ (by decide +kernel)) ggX9_orderOf_X9_addOne
theorem dX9_orderOf_0 : decode cX9_orderOf 0 = .ok (.aload_n 0, 1) := by decide +kernel
theorem dX9_orderOf_1 : decode cX9_orderOf 1 = .ok (.iconst 1, 1) := by decide +kernel
theorem dX9_orderOf_2 : decode cX9_orderOf 2 = .ok (.invokevirtual 194, 3) := by decide +kernel
theorem dX9_orderOf_5 : decode cX9_orderOf 5 = .ok (.iconst 1, 1) := by decide +kernel
theorem dX9_orderOf_6 : decode cX9_orderOf 6 = .ok (.istore_n 1, 1) := by decide +kernel
theorem dX9_orderOf_7 : decode cX9_orderOf 7 = .ok (.aload_n 0, 1) := by decide +kernel
theorem dX9_orderOf_8 : decode cX9_orderOf 8 = .ok (.getfield 182, 3) := by decide +kernel
theorem dX9_orderOf_11 : decode cX9_orderOf 11 = .ok (.ifCond .ne 13, 3) := by decide +kernel
theorem dX9_orderOf_14 : decode cX9_orderOf 14 = .ok (.aload_n 0, 1) := by decide +kernel
theorem dX9_orderOf_15 : decode cX9_orderOf 15 = .ok (.invokevirtual 191, 3) := by decide +kernel
theorem dX9_orderOf_18 : decode cX9_orderOf 18 = .ok (.iinc 1 1, 3) := by decide +kernel
theorem dX9_orderOf_21 : decode cX9_orderOf 21 = .ok (.goto (-14), 3) := by decide +kernel
theorem dX9_orderOf_24 : decode cX9_orderOf 24 = .ok (.iload_n 1, 1) := by decide +kernel
theorem dX9_orderOf_25 : decode cX9_orderOf 25 = .ok (.ireturn, 1) := by decide +kernel
set_option maxRecDepth 20000 in
theorem ggX9_order_X9_isGood : GoodIn wsX9_order wsX9_isGood := goodIn_r _ [5, 6, 7, 8, 9, 4, 10, 11, 12, 13, 14, 15, 16, 17, 18, 19, 20, 21, 22, 23, 24, 25, 26, 27, 28, 29, 30, 31, 32, 33, 34, 35, 36, 37, 38, 39, 40, 41, 42, 43, 44, 45, 46, 47, 48, 49, 50, 51, 52, 53, 54, 55, 56, 57, 58, 59, 60, 61, 62, 63, 64, 65, 66, 67, 68, 69, 70, 71, 72, 73, 74, 75, 76, 77, 78, 79, 80, 81, 82, 83, 84, 85, 86, 87, 88, 89, 90, 91, 92, 93, 94, 110, 111, 112, 113, 114, 115, 116, 117, 118, 119, 120, 121, 122, 123, 124, 125, 126, 127, 128, 129, 130, 131, 132, 133, 134, 135] (by decide +kernel) (by decide +kernel)
set_option maxRecDepth 20000 in
theorem gX9_order_X9_isGood : GoodIn wsX9_order (wsV RX9 109 RX9 yX9_isGood wsX9_isGood) := goodIn_app (goodIn_of _ (by decide +kernel)) ggX9_order_X9_isGood
set_option maxRecDepth 20000 in
theorem ggX9_order_X9_orderOf : GoodIn wsX9_order wsX9_orderOf := goodIn_r _ [98, 99, 100, 101, 102, 4, 103, 104, 105, 106, 107, 108, 109, 12, 34, 35, 36, 37, 20, 38, 39, 40, 41, 26, 27, 28, 29, 110, 111, 112, 113, 114, 115, 116, 117, 118, 119, 120, 121, 122, 123, 124, 125, 126, 127, 128, 129, 130, 131, 132, 133, 134, 135] (by decide +kernel) (by decide +kernel)
set_option maxRecDepth 20000 in
theorem gX9_order_X9_orderOf : GoodIn wsX9_order (wsV RX9 198 RX9 yX9_orderOf wsX9_orderOf) := goodIn_app (goodIn_of _ (by decide +kernel)) ggX9_order_X9_orderOf
theorem dX9_order_0 : decode cX9_order 0 = .ok (.aload_n 0, 1) := by decide +kernel
theorem dX9_order_1 : decode cX9_order 1 = .ok (.invokevirtual 109, 3) := by decide +kernel
theorem dX9_order_4 : decode cX9_order 4 = .ok (.ifCond .eq 10, 3) := by decide +kernel
theorem dX9_order_7 : decode cX9_order 7 = .ok (.aload_n 0, 1) := by decide +kernel
theorem dX9_order_8 : decode cX9_order 8 = .ok (.invokevirtual 198, 3) := by decide +kernel
theorem dX9_order_11 : decode cX9_order 11 = .ok (.goto 5, 3) := by decide +kernel
theorem dX9_order_14 : decode cX9_order 14 = .ok (.bipush (-5), 2) := by decide +kernel
theorem dX9_order_16 : decode cX9_order 16 = .ok (.ireturn, 1) := by decide +kernel
set_option maxRecDepth 20000 in
theorem ggX9_curve_X9_isGood : GoodIn wsX9_curve wsX9_isGood := goodIn_r _ [6, 7, 8, 9, 10, 5, 11, 12, 13, 14, 15, 16, 17, 18, 19, 20, 1, 21, 22, 23, 24, 25, 26, 27, 28, 29, 30, 31, 32, 33, 34, 35, 36, 37, 38, 39, 40, 41, 42, 43, 44, 45, 46, 47, 48, 49, 50, 51, 52, 53, 54, 55, 56, 57, 58, 59, 60, 61, 62, 63, 64, 65, 66, 67, 68, 69, 70, 71, 72, 73, 74, 75, 76, 77, 78, 79, 80, 81, 82, 83, 84, 85, 86, 87, 88, 89, 90, 91, 92, 93, 94, 103, 104, 105, 106, 107, 108, 109, 110, 111, 112, 113, 114, 115, 116, 117, 118, 119, 120, 121, 122, 123, 124, 125, 126, 127, 128] (by decide +kernel) (by decide +kernel)
set_option maxRecDepth 20000 in
theorem gX9_curve_X9_isGood : GoodIn wsX9_curve (wsV RX9 109 RX9 yX9_isGood wsX9_isGood) := goodIn_app (goodIn_of _ (by decide +kernel)) ggX9_curve_X9_isGood
set_option maxRecDepth 20000 in
theorem ggX9_curve_X9_cubeAt : GoodIn wsX9_curve wsX9_cubeAt := goodIn_r _ [98, 13, 26, 27, 28, 5, 29, 1, 34, 35, 36, 37, 38, 39, 40, 41, 103, 104, 105, 106, 107, 108, 109, 110, 111, 112, 113, 114, 115, 116, 117, 118, 119, 120, 121, 122, 123, 124, 125, 126, 127, 128] (by decide +kernel) (by decide +kernel)
set_option maxRecDepth 20000 in
theorem gX9_curve_X9_cubeAt : GoodIn wsX9_curve (wsV RX9 201 RX9 yX9_cubeAt wsX9_cubeAt) := goodIn_app (goodIn_of _ (by decide +kernel)) ggX9_curve_X9_cubeAt
set_option maxRecDepth 20000 in
theorem ggX9_curve_X9_rootOf : GoodIn wsX9_curve wsX9_rootOf := goodIn_r _ [102, 1, 103, 104, 105, 106, 107, 108, 109, 110, 111, 112, 113, 114, 115, 116, 117, 118, 119, 120, 121, 122, 123, 124, 125, 126, 127, 128] (by decide +kernel) (by decide +kernel)
set_option maxRecDepth 20000 in
theorem gX9_curve_X9_rootOf : GoodIn wsX9_curve (wsV RX9 81 RX9 yX9_rootOf wsX9_rootOf) := goodIn_app (goodIn_of _ (by decide +kernel)) ggX9_curve_X9_rootOf
theorem dX9_curve_0 : decode cX9_curve 0 = .ok (.aload_n 0, 1) := by decide +kernel
theorem dX9_curve_1 : decode cX9_curve 1 = .ok (.invokevirtual 109, 3) := by decide +kernel
theorem dX9_curve_4 : decode cX9_curve 4 = .ok (.ifCond .ne 6, 3) := by decide +kernel
theorem dX9_curve_7 : decode cX9_curve 7 = .ok (.bipush (-5), 2) := by decide +kernel
theorem dX9_curve_9 : decode cX9_curve 9 = .ok (.ireturn, 1) := by decide +kernel
theorem dX9_curve_10 : decode cX9_curve 10 = .ok (.iconst 1, 1) := by decide +kernel
theorem dX9_curve_11 : decode cX9_curve 11 = .ok (.istore_n 1, 1) := by decide +kernel
theorem dX9_curve_12 : decode cX9_curve 12 = .ok (.iconst 0, 1) := by decide +kernel
theorem dX9_curve_13 : decode cX9_curve 13 = .ok (.istore_n 2, 1) := by decide +kernel
theorem dX9_curve_14 : decode cX9_curve 14 = .ok (.iload_n 2, 1) := by decide +kernel
theorem dX9_curve_15 : decode cX9_curve 15 = .ok (.aload_n 0, 1) := by decide +kernel
theorem dX9_curve_16 : decode cX9_curve 16 = .ok (.getfield 7, 3) := by decide +kernel
theorem dX9_curve_19 : decode cX9_curve 19 = .ok (.if_icmp .ge 39, 3) := by decide +kernel
theorem dX9_curve_22 : decode cX9_curve 22 = .ok (.aload_n 0, 1) := by decide +kernel
theorem dX9_curve_23 : decode cX9_curve 23 = .ok (.iload_n 2, 1) := by decide +kernel
theorem dX9_curve_24 : decode cX9_curve 24 = .ok (.invokevirtual 201, 3) := by decide +kernel
theorem dX9_curve_27 : decode cX9_curve 27 = .ok (.istore_n 3, 1) := by decide +kernel
theorem dX9_curve_28 : decode cX9_curve 28 = .ok (.iload_n 1, 1) := by decide +kernel
theorem dX9_curve_29 : decode cX9_curve 29 = .ok (.iload_n 3, 1) := by decide +kernel
theorem dX9_curve_30 : decode cX9_curve 30 = .ok (.ifCond .ne 7, 3) := by decide +kernel
theorem dX9_curve_33 : decode cX9_curve 33 = .ok (.iconst 1, 1) := by decide +kernel
theorem dX9_curve_34 : decode cX9_curve 34 = .ok (.goto 16, 3) := by decide +kernel
theorem dX9_curve_37 : decode cX9_curve 37 = .ok (.aload_n 0, 1) := by decide +kernel
theorem dX9_curve_38 : decode cX9_curve 38 = .ok (.iload_n 3, 1) := by decide +kernel
theorem dX9_curve_39 : decode cX9_curve 39 = .ok (.invokevirtual 81, 3) := by decide +kernel
theorem dX9_curve_42 : decode cX9_curve 42 = .ok (.ifCond .lt 7, 3) := by decide +kernel
theorem dX9_curve_45 : decode cX9_curve 45 = .ok (.iconst 2, 1) := by decide +kernel
theorem dX9_curve_46 : decode cX9_curve 46 = .ok (.goto 4, 3) := by decide +kernel
theorem dX9_curve_49 : decode cX9_curve 49 = .ok (.iconst 0, 1) := by decide +kernel
theorem dX9_curve_50 : decode cX9_curve 50 = .ok (.iadd, 1) := by decide +kernel
theorem dX9_curve_51 : decode cX9_curve 51 = .ok (.istore_n 1, 1) := by decide +kernel
theorem dX9_curve_52 : decode cX9_curve 52 = .ok (.iinc 2 1, 3) := by decide +kernel
theorem dX9_curve_55 : decode cX9_curve 55 = .ok (.goto (-41), 3) := by decide +kernel
theorem dX9_curve_58 : decode cX9_curve 58 = .ok (.iload_n 1, 1) := by decide +kernel
theorem dX9_curve_59 : decode cX9_curve 59 = .ok (.ireturn, 1) := by decide +kernel
set_option maxRecDepth 20000 in
theorem ggX9_chordOf_X9_cross : GoodIn wsX9_chordOf wsX9_cross := goodIn_r _ [10, 11, 12, 13, 9, 14, 15, 16, 17, 18, 19, 20, 21, 22, 23, 24, 25, 26, 27, 28, 29, 30, 31, 32, 33, 34, 35, 36, 37, 38, 39, 40, 41, 42, 43, 44, 45, 46, 47, 48, 49, 50, 51, 52, 53, 54, 55, 56] (by decide +kernel) (by decide +kernel)
set_option maxRecDepth 20000 in
theorem gX9_chordOf_X9_cross : GoodIn wsX9_chordOf (wsV RX9 204 RX9 yX9_cross wsX9_cross) := goodIn_app (goodIn_of _ (by decide +kernel)) ggX9_chordOf_X9_cross
set_option maxRecDepth 20000 in
theorem ggX9_chordOf_X9_of : GoodIn wsX9_chordOf wsX9_of := goodIn_r _ [14, 15, 31, 32, 33, 34, 35, 36, 37, 38, 39, 40, 41, 42, 43, 44, 45, 46, 47, 48, 49, 50, 51, 52, 53, 54, 55, 56] (by decide +kernel) (by decide +kernel)
set_option maxRecDepth 20000 in
theorem gX9_chordOf_X9_of : GoodIn wsX9_chordOf (wsV RX9 85 RX9 yX9_of wsX9_of) := goodIn_app (goodIn_of _ (by decide +kernel)) ggX9_chordOf_X9_of
set_option maxRecDepth 20000 in
theorem ggX9_chordOf_X9_form : GoodIn wsX9_chordOf wsX9_form := goodIn_r _ [19, 20, 21, 22, 23, 24, 25, 9, 26, 15, 27, 28, 29, 30, 31, 32, 33, 34, 35, 36, 37, 38, 39, 40, 41, 42, 43, 44, 45, 46, 47, 48, 49, 50, 51, 52, 53, 54, 55, 56] (by decide +kernel) (by decide +kernel)
set_option maxRecDepth 20000 in
theorem gX9_chordOf_X9_form : GoodIn wsX9_chordOf (wsV RX9 133 RX9 yX9_form wsX9_form) := goodIn_app (goodIn_of _ (by decide +kernel)) ggX9_chordOf_X9_form
theorem dX9_chordOf_0 : decode cX9_chordOf 0 = .ok (.aload_n 0, 1) := by decide +kernel
theorem dX9_chordOf_1 : decode cX9_chordOf 1 = .ok (.getfield 32, 3) := by decide +kernel
theorem dX9_chordOf_4 : decode cX9_chordOf 4 = .ok (.iload_n 1, 1) := by decide +kernel
theorem dX9_chordOf_5 : decode cX9_chordOf 5 = .ok (.iaload, 1) := by decide +kernel
theorem dX9_chordOf_6 : decode cX9_chordOf 6 = .ok (.istore_n 3, 1) := by decide +kernel
theorem dX9_chordOf_7 : decode cX9_chordOf 7 = .ok (.aload_n 0, 1) := by decide +kernel
theorem dX9_chordOf_8 : decode cX9_chordOf 8 = .ok (.getfield 32, 3) := by decide +kernel
theorem dX9_chordOf_11 : decode cX9_chordOf 11 = .ok (.iload_n 2, 1) := by decide +kernel
theorem dX9_chordOf_12 : decode cX9_chordOf 12 = .ok (.iaload, 1) := by decide +kernel
theorem dX9_chordOf_13 : decode cX9_chordOf 13 = .ok (.istore 4, 2) := by decide +kernel
theorem dX9_chordOf_15 : decode cX9_chordOf 15 = .ok (.iload_n 3, 1) := by decide +kernel
theorem dX9_chordOf_16 : decode cX9_chordOf 16 = .ok (.iload 4, 2) := by decide +kernel
theorem dX9_chordOf_18 : decode cX9_chordOf 18 = .ok (.if_icmp .eq 47, 3) := by decide +kernel
theorem dX9_chordOf_21 : decode cX9_chordOf 21 = .ok (.aload_n 0, 1) := by decide +kernel
theorem dX9_chordOf_22 : decode cX9_chordOf 22 = .ok (.aload_n 0, 1) := by decide +kernel
theorem dX9_chordOf_23 : decode cX9_chordOf 23 = .ok (.getfield 20, 3) := by decide +kernel
theorem dX9_chordOf_26 : decode cX9_chordOf 26 = .ok (.iload_n 3, 1) := by decide +kernel
theorem dX9_chordOf_27 : decode cX9_chordOf 27 = .ok (.iaload, 1) := by decide +kernel
theorem dX9_chordOf_28 : decode cX9_chordOf 28 = .ok (.aload_n 0, 1) := by decide +kernel
theorem dX9_chordOf_29 : decode cX9_chordOf 29 = .ok (.getfield 23, 3) := by decide +kernel
theorem dX9_chordOf_32 : decode cX9_chordOf 32 = .ok (.iload_n 3, 1) := by decide +kernel
theorem dX9_chordOf_33 : decode cX9_chordOf 33 = .ok (.iaload, 1) := by decide +kernel
theorem dX9_chordOf_34 : decode cX9_chordOf 34 = .ok (.aload_n 0, 1) := by decide +kernel
theorem dX9_chordOf_35 : decode cX9_chordOf 35 = .ok (.getfield 26, 3) := by decide +kernel
theorem dX9_chordOf_38 : decode cX9_chordOf 38 = .ok (.iload_n 3, 1) := by decide +kernel
theorem dX9_chordOf_39 : decode cX9_chordOf 39 = .ok (.iaload, 1) := by decide +kernel
theorem dX9_chordOf_40 : decode cX9_chordOf 40 = .ok (.aload_n 0, 1) := by decide +kernel
theorem dX9_chordOf_41 : decode cX9_chordOf 41 = .ok (.getfield 20, 3) := by decide +kernel
theorem dX9_chordOf_44 : decode cX9_chordOf 44 = .ok (.iload 4, 2) := by decide +kernel
theorem dX9_chordOf_46 : decode cX9_chordOf 46 = .ok (.iaload, 1) := by decide +kernel
theorem dX9_chordOf_47 : decode cX9_chordOf 47 = .ok (.aload_n 0, 1) := by decide +kernel
theorem dX9_chordOf_48 : decode cX9_chordOf 48 = .ok (.getfield 23, 3) := by decide +kernel
theorem dX9_chordOf_51 : decode cX9_chordOf 51 = .ok (.iload 4, 2) := by decide +kernel
theorem dX9_chordOf_53 : decode cX9_chordOf 53 = .ok (.iaload, 1) := by decide +kernel
theorem dX9_chordOf_54 : decode cX9_chordOf 54 = .ok (.aload_n 0, 1) := by decide +kernel
theorem dX9_chordOf_55 : decode cX9_chordOf 55 = .ok (.getfield 26, 3) := by decide +kernel
theorem dX9_chordOf_58 : decode cX9_chordOf 58 = .ok (.iload 4, 2) := by decide +kernel
theorem dX9_chordOf_60 : decode cX9_chordOf 60 = .ok (.iaload, 1) := by decide +kernel
theorem dX9_chordOf_61 : decode cX9_chordOf 61 = .ok (.invokevirtual 204, 3) := by decide +kernel
theorem dX9_chordOf_64 : decode cX9_chordOf 64 = .ok (.return_, 1) := by decide +kernel
theorem dX9_chordOf_65 : decode cX9_chordOf 65 = .ok (.aload_n 0, 1) := by decide +kernel
theorem dX9_chordOf_66 : decode cX9_chordOf 66 = .ok (.getfield 20, 3) := by decide +kernel
theorem dX9_chordOf_69 : decode cX9_chordOf 69 = .ok (.iload_n 3, 1) := by decide +kernel
theorem dX9_chordOf_70 : decode cX9_chordOf 70 = .ok (.iaload, 1) := by decide +kernel
theorem dX9_chordOf_71 : decode cX9_chordOf 71 = .ok (.istore 5, 2) := by decide +kernel
theorem dX9_chordOf_73 : decode cX9_chordOf 73 = .ok (.aload_n 0, 1) := by decide +kernel
theorem dX9_chordOf_74 : decode cX9_chordOf 74 = .ok (.getfield 23, 3) := by decide +kernel
theorem dX9_chordOf_77 : decode cX9_chordOf 77 = .ok (.iload_n 3, 1) := by decide +kernel
theorem dX9_chordOf_78 : decode cX9_chordOf 78 = .ok (.iaload, 1) := by decide +kernel
theorem dX9_chordOf_79 : decode cX9_chordOf 79 = .ok (.istore 6, 2) := by decide +kernel
theorem dX9_chordOf_81 : decode cX9_chordOf 81 = .ok (.aload_n 0, 1) := by decide +kernel
theorem dX9_chordOf_82 : decode cX9_chordOf 82 = .ok (.getfield 26, 3) := by decide +kernel
theorem dX9_chordOf_85 : decode cX9_chordOf 85 = .ok (.iload_n 3, 1) := by decide +kernel
theorem dX9_chordOf_86 : decode cX9_chordOf 86 = .ok (.iaload, 1) := by decide +kernel
theorem dX9_chordOf_87 : decode cX9_chordOf 87 = .ok (.istore 7, 2) := by decide +kernel
theorem dX9_chordOf_89 : decode cX9_chordOf 89 = .ok (.aload_n 0, 1) := by decide +kernel
theorem dX9_chordOf_90 : decode cX9_chordOf 90 = .ok (.aload_n 0, 1) := by decide +kernel
theorem dX9_chordOf_91 : decode cX9_chordOf 91 = .ok (.aload_n 0, 1) := by decide +kernel
theorem dX9_chordOf_92 : decode cX9_chordOf 92 = .ok (.getfield 13, 3) := by decide +kernel
theorem dX9_chordOf_95 : decode cX9_chordOf 95 = .ok (.iconst 0, 1) := by decide +kernel
theorem dX9_chordOf_96 : decode cX9_chordOf 96 = .ok (.iaload, 1) := by decide +kernel
theorem dX9_chordOf_97 : decode cX9_chordOf 97 = .ok (.iload 5, 2) := by decide +kernel
theorem dX9_chordOf_99 : decode cX9_chordOf 99 = .ok (.imul, 1) := by decide +kernel
theorem dX9_chordOf_100 : decode cX9_chordOf 100 = .ok (.aload_n 0, 1) := by decide +kernel
theorem dX9_chordOf_101 : decode cX9_chordOf 101 = .ok (.getfield 13, 3) := by decide +kernel
theorem dX9_chordOf_104 : decode cX9_chordOf 104 = .ok (.iconst 5, 1) := by decide +kernel
theorem dX9_chordOf_105 : decode cX9_chordOf 105 = .ok (.iaload, 1) := by decide +kernel
theorem dX9_chordOf_106 : decode cX9_chordOf 106 = .ok (.iload 6, 2) := by decide +kernel
theorem dX9_chordOf_108 : decode cX9_chordOf 108 = .ok (.imul, 1) := by decide +kernel
theorem dX9_chordOf_109 : decode cX9_chordOf 109 = .ok (.iadd, 1) := by decide +kernel
theorem dX9_chordOf_110 : decode cX9_chordOf 110 = .ok (.aload_n 0, 1) := by decide +kernel
theorem dX9_chordOf_111 : decode cX9_chordOf 111 = .ok (.getfield 13, 3) := by decide +kernel
theorem dX9_chordOf_114 : decode cX9_chordOf 114 = .ok (.iconst 4, 1) := by decide +kernel
theorem dX9_chordOf_115 : decode cX9_chordOf 115 = .ok (.iaload, 1) := by decide +kernel
theorem dX9_chordOf_116 : decode cX9_chordOf 116 = .ok (.iload 7, 2) := by decide +kernel
theorem dX9_chordOf_118 : decode cX9_chordOf 118 = .ok (.imul, 1) := by decide +kernel
theorem dX9_chordOf_119 : decode cX9_chordOf 119 = .ok (.iadd, 1) := by decide +kernel
theorem dX9_chordOf_120 : decode cX9_chordOf 120 = .ok (.invokevirtual 85, 3) := by decide +kernel
theorem dX9_chordOf_123 : decode cX9_chordOf 123 = .ok (.aload_n 0, 1) := by decide +kernel
theorem dX9_chordOf_124 : decode cX9_chordOf 124 = .ok (.aload_n 0, 1) := by decide +kernel
theorem dX9_chordOf_125 : decode cX9_chordOf 125 = .ok (.getfield 13, 3) := by decide +kernel
theorem dX9_chordOf_128 : decode cX9_chordOf 128 = .ok (.iconst 5, 1) := by decide +kernel
theorem dX9_chordOf_129 : decode cX9_chordOf 129 = .ok (.iaload, 1) := by decide +kernel
theorem dX9_chordOf_130 : decode cX9_chordOf 130 = .ok (.iload 5, 2) := by decide +kernel
theorem dX9_chordOf_132 : decode cX9_chordOf 132 = .ok (.imul, 1) := by decide +kernel
theorem dX9_chordOf_133 : decode cX9_chordOf 133 = .ok (.aload_n 0, 1) := by decide +kernel
theorem dX9_chordOf_134 : decode cX9_chordOf 134 = .ok (.getfield 13, 3) := by decide +kernel
theorem dX9_chordOf_137 : decode cX9_chordOf 137 = .ok (.iconst 1, 1) := by decide +kernel
theorem dX9_chordOf_138 : decode cX9_chordOf 138 = .ok (.iaload, 1) := by decide +kernel
theorem dX9_chordOf_139 : decode cX9_chordOf 139 = .ok (.iload 6, 2) := by decide +kernel
theorem dX9_chordOf_141 : decode cX9_chordOf 141 = .ok (.imul, 1) := by decide +kernel
theorem dX9_chordOf_142 : decode cX9_chordOf 142 = .ok (.iadd, 1) := by decide +kernel
theorem dX9_chordOf_143 : decode cX9_chordOf 143 = .ok (.aload_n 0, 1) := by decide +kernel
theorem dX9_chordOf_144 : decode cX9_chordOf 144 = .ok (.getfield 13, 3) := by decide +kernel
theorem dX9_chordOf_147 : decode cX9_chordOf 147 = .ok (.iconst 3, 1) := by decide +kernel
theorem dX9_chordOf_148 : decode cX9_chordOf 148 = .ok (.iaload, 1) := by decide +kernel
theorem dX9_chordOf_149 : decode cX9_chordOf 149 = .ok (.iload 7, 2) := by decide +kernel
theorem dX9_chordOf_151 : decode cX9_chordOf 151 = .ok (.imul, 1) := by decide +kernel
theorem dX9_chordOf_152 : decode cX9_chordOf 152 = .ok (.iadd, 1) := by decide +kernel
theorem dX9_chordOf_153 : decode cX9_chordOf 153 = .ok (.invokevirtual 85, 3) := by decide +kernel
theorem dX9_chordOf_156 : decode cX9_chordOf 156 = .ok (.aload_n 0, 1) := by decide +kernel
theorem dX9_chordOf_157 : decode cX9_chordOf 157 = .ok (.aload_n 0, 1) := by decide +kernel
theorem dX9_chordOf_158 : decode cX9_chordOf 158 = .ok (.getfield 13, 3) := by decide +kernel
theorem dX9_chordOf_161 : decode cX9_chordOf 161 = .ok (.iconst 4, 1) := by decide +kernel
theorem dX9_chordOf_162 : decode cX9_chordOf 162 = .ok (.iaload, 1) := by decide +kernel
theorem dX9_chordOf_163 : decode cX9_chordOf 163 = .ok (.iload 5, 2) := by decide +kernel
theorem dX9_chordOf_165 : decode cX9_chordOf 165 = .ok (.imul, 1) := by decide +kernel
theorem dX9_chordOf_166 : decode cX9_chordOf 166 = .ok (.aload_n 0, 1) := by decide +kernel
theorem dX9_chordOf_167 : decode cX9_chordOf 167 = .ok (.getfield 13, 3) := by decide +kernel
theorem dX9_chordOf_170 : decode cX9_chordOf 170 = .ok (.iconst 3, 1) := by decide +kernel
theorem dX9_chordOf_171 : decode cX9_chordOf 171 = .ok (.iaload, 1) := by decide +kernel
theorem dX9_chordOf_172 : decode cX9_chordOf 172 = .ok (.iload 6, 2) := by decide +kernel
theorem dX9_chordOf_174 : decode cX9_chordOf 174 = .ok (.imul, 1) := by decide +kernel
theorem dX9_chordOf_175 : decode cX9_chordOf 175 = .ok (.iadd, 1) := by decide +kernel
theorem dX9_chordOf_176 : decode cX9_chordOf 176 = .ok (.aload_n 0, 1) := by decide +kernel
theorem dX9_chordOf_177 : decode cX9_chordOf 177 = .ok (.getfield 13, 3) := by decide +kernel
theorem dX9_chordOf_180 : decode cX9_chordOf 180 = .ok (.iconst 2, 1) := by decide +kernel
theorem dX9_chordOf_181 : decode cX9_chordOf 181 = .ok (.iaload, 1) := by decide +kernel
theorem dX9_chordOf_182 : decode cX9_chordOf 182 = .ok (.iload 7, 2) := by decide +kernel
theorem dX9_chordOf_184 : decode cX9_chordOf 184 = .ok (.imul, 1) := by decide +kernel
theorem dX9_chordOf_185 : decode cX9_chordOf 185 = .ok (.iadd, 1) := by decide +kernel
theorem dX9_chordOf_186 : decode cX9_chordOf 186 = .ok (.invokevirtual 85, 3) := by decide +kernel
theorem dX9_chordOf_189 : decode cX9_chordOf 189 = .ok (.invokevirtual 133, 3) := by decide +kernel
theorem dX9_chordOf_192 : decode cX9_chordOf 192 = .ok (.return_, 1) := by decide +kernel
set_option maxRecDepth 20000 in
theorem ggX9_chord_X9_isGood : GoodIn wsX9_chord wsX9_isGood := goodIn_r _ [10, 11, 12, 13, 14, 9, 15, 16, 17, 18, 19, 20, 21, 22, 23, 24, 25, 26, 27, 28, 29, 30, 31, 32, 33, 34, 35, 36, 37, 38, 39, 40, 41, 42, 43, 44, 45, 46, 47, 48, 49, 50, 51, 52, 53, 54, 55, 56, 57, 58, 59, 60, 61, 62, 63, 64, 65, 66, 1, 2, 3, 67, 68, 69, 70, 71, 72, 73, 74, 75, 76, 77, 78, 79, 80, 81, 82, 83, 84, 85, 86, 87, 88, 89, 90, 91, 92, 93, 94, 95, 96, 138, 139, 140, 141, 142, 143, 144, 145, 146, 147, 148, 149, 150, 151, 152, 153, 154, 155, 156, 157, 158, 159, 160, 161, 162, 163] (by decide +kernel) (by decide +kernel)
set_option maxRecDepth 20000 in
theorem gX9_chord_X9_isGood : GoodIn wsX9_chord (wsV RX9 109 RX9 yX9_isGood wsX9_isGood) := goodIn_app (goodIn_of _ (by decide +kernel)) ggX9_chord_X9_isGood
set_option maxRecDepth 20000 in
theorem ggX9_chord_X9_isFlag : GoodIn wsX9_chord wsX9_isFlag := goodIn_r _ [100, 18, 101, 102, 9, 103, 138, 139, 140, 141, 142, 143, 144, 145, 146, 147, 148, 149, 150, 151, 152, 153, 154, 155, 156, 157, 158, 159, 160, 161, 162, 163] (by decide +kernel) (by decide +kernel)
set_option maxRecDepth 20000 in
theorem gX9_chord_X9_isFlag : GoodIn wsX9_chord (wsV RX9 166 RX9 yX9_isFlag wsX9_isFlag) := goodIn_app (goodIn_of _ (by decide +kernel)) ggX9_chord_X9_isFlag
set_option maxRecDepth 20000 in
theorem ggX9_chord_X9_in : GoodIn wsX9_chord wsX9_in := goodIn_r _ [103] (by decide +kernel) (by decide +kernel)
set_option maxRecDepth 20000 in
theorem gX9_chord_X9_in : GoodIn wsX9_chord (va_wsS RX9 62 yX9_in wsX9_in) := goodIn_app (goodIn_of _ (by decide +kernel)) ggX9_chord_X9_in
set_option maxRecDepth 20000 in
theorem ggX9_chord_X9_onFrom : GoodIn wsX9_chord wsX9_onFrom := goodIn_r _ [107, 19, 108, 109, 110, 9, 111, 138, 139, 140, 141, 142, 143, 144, 145, 146, 147, 148, 149, 150, 151, 152, 153, 154, 155, 156, 157, 158, 159, 160, 161, 162, 163] (by decide +kernel) (by decide +kernel)
set_option maxRecDepth 20000 in
theorem gX9_chord_X9_onFrom : GoodIn wsX9_chord (wsV RX9 176 RX9 yX9_onFrom wsX9_onFrom) := goodIn_app (goodIn_of _ (by decide +kernel)) ggX9_chord_X9_onFrom
set_option maxRecDepth 20000 in
theorem ggX9_chord_X9_chordOf : GoodIn wsX9_chord wsX9_chordOf := goodIn_r _ [115, 79, 56, 57, 58, 24, 116, 117, 118, 9, 119, 31, 32, 33, 34, 25, 68, 69, 70, 71, 1, 2, 3, 39, 40, 41, 42, 43, 44, 45, 46, 138, 139, 140, 141, 142, 143, 144, 145, 146, 147, 148, 149, 150, 151, 152, 153, 154, 155, 156, 157, 158, 159, 160, 161, 162, 163] (by decide +kernel) (by decide +kernel)
set_option maxRecDepth 20000 in
theorem gX9_chord_X9_chordOf : GoodIn wsX9_chord (wsV RX9 208 RX9 yX9_chordOf wsX9_chordOf) := goodIn_app (goodIn_of _ (by decide +kernel)) ggX9_chord_X9_chordOf
set_option maxRecDepth 20000 in
theorem ggX9_chord_X9_multipleOf : GoodIn wsX9_chord wsX9_multipleOf := goodIn_r _ [123, 4, 5, 124, 125, 126, 127, 9, 128, 17, 39, 40, 41, 42, 25, 43, 44, 45, 46, 31, 32, 33, 34, 138, 139, 140, 141, 142, 143, 144, 145, 146, 147, 148, 149, 150, 151, 152, 153, 154, 155, 156, 157, 158, 159, 160, 161, 162, 163] (by decide +kernel) (by decide +kernel)
set_option maxRecDepth 20000 in
theorem gX9_chord_X9_multipleOf : GoodIn wsX9_chord (wsV RX9 194 RX9 yX9_multipleOf wsX9_multipleOf) := goodIn_app (goodIn_of _ (by decide +kernel)) ggX9_chord_X9_multipleOf
set_option maxRecDepth 20000 in
theorem ggX9_chord_X9_touching : GoodIn wsX9_chord wsX9_touching := goodIn_r _ [132, 133, 30, 134, 135, 136, 9, 137, 24, 31, 32, 33, 34, 25, 26, 27, 28, 29, 59, 60, 61, 62, 138, 139, 140, 141, 142, 143, 144, 145, 146, 147, 148, 149, 150, 151, 152, 153, 154, 155, 156, 157, 158, 159, 160, 161, 162, 163] (by decide +kernel) (by decide +kernel)
set_option maxRecDepth 20000 in
theorem gX9_chord_X9_touching : GoodIn wsX9_chord (wsV RX9 120 RX9 yX9_touching wsX9_touching) := goodIn_app (goodIn_of _ (by decide +kernel)) ggX9_chord_X9_touching
theorem dX9_chord_0 : decode cX9_chord 0 = .ok (.aload_n 0, 1) := by decide +kernel
theorem dX9_chord_1 : decode cX9_chord 1 = .ok (.invokevirtual 109, 3) := by decide +kernel
theorem dX9_chord_4 : decode cX9_chord 4 = .ok (.ifCond .ne 6, 3) := by decide +kernel
theorem dX9_chord_7 : decode cX9_chord 7 = .ok (.bipush (-5), 2) := by decide +kernel
theorem dX9_chord_9 : decode cX9_chord 9 = .ok (.ireturn, 1) := by decide +kernel
theorem dX9_chord_10 : decode cX9_chord 10 = .ok (.aload_n 0, 1) := by decide +kernel
theorem dX9_chord_11 : decode cX9_chord 11 = .ok (.iload_n 1, 1) := by decide +kernel
theorem dX9_chord_12 : decode cX9_chord 12 = .ok (.invokevirtual 166, 3) := by decide +kernel
theorem dX9_chord_15 : decode cX9_chord 15 = .ok (.ifCond .ne 5, 3) := by decide +kernel
theorem dX9_chord_18 : decode cX9_chord 18 = .ok (.iconst (-1), 1) := by decide +kernel
theorem dX9_chord_19 : decode cX9_chord 19 = .ok (.ireturn, 1) := by decide +kernel
theorem dX9_chord_20 : decode cX9_chord 20 = .ok (.iload_n 2, 1) := by decide +kernel
theorem dX9_chord_21 : decode cX9_chord 21 = .ok (.iconst 0, 1) := by decide +kernel
theorem dX9_chord_22 : decode cX9_chord 22 = .ok (.sipush 1000, 3) := by decide +kernel
theorem dX9_chord_25 : decode cX9_chord 25 = .ok (.invokestatic 62, 3) := by decide +kernel
theorem dX9_chord_28 : decode cX9_chord 28 = .ok (.ifCond .eq 12, 3) := by decide +kernel
theorem dX9_chord_31 : decode cX9_chord 31 = .ok (.iload_n 3, 1) := by decide +kernel
theorem dX9_chord_32 : decode cX9_chord 32 = .ok (.iconst 0, 1) := by decide +kernel
theorem dX9_chord_33 : decode cX9_chord 33 = .ok (.iconst 3, 1) := by decide +kernel
theorem dX9_chord_34 : decode cX9_chord 34 = .ok (.invokestatic 62, 3) := by decide +kernel
theorem dX9_chord_37 : decode cX9_chord 37 = .ok (.ifCond .ne 6, 3) := by decide +kernel
theorem dX9_chord_40 : decode cX9_chord 40 = .ok (.bipush (-2), 2) := by decide +kernel
theorem dX9_chord_42 : decode cX9_chord 42 = .ok (.ireturn, 1) := by decide +kernel
theorem dX9_chord_43 : decode cX9_chord 43 = .ok (.aload_n 0, 1) := by decide +kernel
theorem dX9_chord_44 : decode cX9_chord 44 = .ok (.iload_n 1, 1) := by decide +kernel
theorem dX9_chord_45 : decode cX9_chord 45 = .ok (.aload_n 0, 1) := by decide +kernel
theorem dX9_chord_46 : decode cX9_chord 46 = .ok (.iload_n 1, 1) := by decide +kernel
theorem dX9_chord_47 : decode cX9_chord 47 = .ok (.iload_n 2, 1) := by decide +kernel
theorem dX9_chord_48 : decode cX9_chord 48 = .ok (.invokevirtual 176, 3) := by decide +kernel
theorem dX9_chord_51 : decode cX9_chord 51 = .ok (.invokevirtual 208, 3) := by decide +kernel
theorem dX9_chord_54 : decode cX9_chord 54 = .ok (.iload_n 3, 1) := by decide +kernel
theorem dX9_chord_55 : decode cX9_chord 55 = .ok (.iconst 3, 1) := by decide +kernel
theorem dX9_chord_56 : decode cX9_chord 56 = .ok (.if_icmp .ge 31, 3) := by decide +kernel
theorem dX9_chord_59 : decode cX9_chord 59 = .ok (.iload_n 3, 1) := by decide +kernel
theorem dX9_chord_60 : decode cX9_chord 60 = .ok (.ifCond .ne 10, 3) := by decide +kernel
theorem dX9_chord_63 : decode cX9_chord 63 = .ok (.aload_n 0, 1) := by decide +kernel
theorem dX9_chord_64 : decode cX9_chord 64 = .ok (.getfield 124, 3) := by decide +kernel
theorem dX9_chord_67 : decode cX9_chord 67 = .ok (.goto 19, 3) := by decide +kernel
theorem dX9_chord_70 : decode cX9_chord 70 = .ok (.iload_n 3, 1) := by decide +kernel
theorem dX9_chord_71 : decode cX9_chord 71 = .ok (.iconst 1, 1) := by decide +kernel
theorem dX9_chord_72 : decode cX9_chord 72 = .ok (.if_icmp .ne 10, 3) := by decide +kernel
theorem dX9_chord_75 : decode cX9_chord 75 = .ok (.aload_n 0, 1) := by decide +kernel
theorem dX9_chord_76 : decode cX9_chord 76 = .ok (.getfield 127, 3) := by decide +kernel
theorem dX9_chord_79 : decode cX9_chord 79 = .ok (.goto 7, 3) := by decide +kernel
theorem dX9_chord_82 : decode cX9_chord 82 = .ok (.aload_n 0, 1) := by decide +kernel
theorem dX9_chord_83 : decode cX9_chord 83 = .ok (.getfield 130, 3) := by decide +kernel
theorem dX9_chord_86 : decode cX9_chord 86 = .ok (.ireturn, 1) := by decide +kernel
theorem dX9_chord_87 : decode cX9_chord 87 = .ok (.aload_n 0, 1) := by decide +kernel
theorem dX9_chord_88 : decode cX9_chord 88 = .ok (.iload_n 2, 1) := by decide +kernel
theorem dX9_chord_89 : decode cX9_chord 89 = .ok (.invokevirtual 194, 3) := by decide +kernel
theorem dX9_chord_92 : decode cX9_chord 92 = .ok (.aload_n 0, 1) := by decide +kernel
theorem dX9_chord_93 : decode cX9_chord 93 = .ok (.getfield 182, 3) := by decide +kernel
theorem dX9_chord_96 : decode cX9_chord 96 = .ok (.ifCond .eq 24, 3) := by decide +kernel
theorem dX9_chord_99 : decode cX9_chord 99 = .ok (.aload_n 0, 1) := by decide +kernel
theorem dX9_chord_100 : decode cX9_chord 100 = .ok (.iconst 1, 1) := by decide +kernel
theorem dX9_chord_101 : decode cX9_chord 101 = .ok (.iconst 0, 1) := by decide +kernel
theorem dX9_chord_102 : decode cX9_chord 102 = .ok (.aload_n 0, 1) := by decide +kernel
theorem dX9_chord_103 : decode cX9_chord 103 = .ok (.getfield 124, 3) := by decide +kernel
theorem dX9_chord_106 : decode cX9_chord 106 = .ok (.aload_n 0, 1) := by decide +kernel
theorem dX9_chord_107 : decode cX9_chord 107 = .ok (.getfield 127, 3) := by decide +kernel
theorem dX9_chord_110 : decode cX9_chord 110 = .ok (.aload_n 0, 1) := by decide +kernel
theorem dX9_chord_111 : decode cX9_chord 111 = .ok (.getfield 130, 3) := by decide +kernel
theorem dX9_chord_114 : decode cX9_chord 114 = .ok (.invokevirtual 120, 3) := by decide +kernel
theorem dX9_chord_117 : decode cX9_chord 117 = .ok (.goto 24, 3) := by decide +kernel
theorem dX9_chord_120 : decode cX9_chord 120 = .ok (.aload_n 0, 1) := by decide +kernel
theorem dX9_chord_121 : decode cX9_chord 121 = .ok (.aload_n 0, 1) := by decide +kernel
theorem dX9_chord_122 : decode cX9_chord 122 = .ok (.getfield 185, 3) := by decide +kernel
theorem dX9_chord_125 : decode cX9_chord 125 = .ok (.iconst 1, 1) := by decide +kernel
theorem dX9_chord_126 : decode cX9_chord 126 = .ok (.aload_n 0, 1) := by decide +kernel
theorem dX9_chord_127 : decode cX9_chord 127 = .ok (.getfield 124, 3) := by decide +kernel
theorem dX9_chord_130 : decode cX9_chord 130 = .ok (.aload_n 0, 1) := by decide +kernel
theorem dX9_chord_131 : decode cX9_chord 131 = .ok (.getfield 127, 3) := by decide +kernel
theorem dX9_chord_134 : decode cX9_chord 134 = .ok (.aload_n 0, 1) := by decide +kernel
theorem dX9_chord_135 : decode cX9_chord 135 = .ok (.getfield 130, 3) := by decide +kernel
theorem dX9_chord_138 : decode cX9_chord 138 = .ok (.invokevirtual 120, 3) := by decide +kernel
theorem dX9_chord_141 : decode cX9_chord 141 = .ok (.istore 4, 2) := by decide +kernel
theorem dX9_chord_143 : decode cX9_chord 143 = .ok (.iload 4, 2) := by decide +kernel
theorem dX9_chord_145 : decode cX9_chord 145 = .ok (.ifCond .ne 7, 3) := by decide +kernel
theorem dX9_chord_148 : decode cX9_chord 148 = .ok (.iconst 1, 1) := by decide +kernel
theorem dX9_chord_149 : decode cX9_chord 149 = .ok (.goto 4, 3) := by decide +kernel
theorem dX9_chord_152 : decode cX9_chord 152 = .ok (.iconst 0, 1) := by decide +kernel
theorem dX9_chord_153 : decode cX9_chord 153 = .ok (.ireturn, 1) := by decide +kernel
set_option maxRecDepth 20000 in
theorem ggX9_all_X9_isGood : GoodIn wsX9_all wsX9_isGood := goodIn_r _ [9, 10, 11, 12, 13, 8, 14, 15, 16, 1, 17, 18, 19, 20, 21, 22, 23, 24, 25, 26, 27, 28, 29, 30, 31, 32, 33, 34, 35, 36, 37, 38, 39, 40, 41, 42, 43, 44, 45, 46, 47, 48, 49, 50, 51, 52, 53, 54, 55, 56, 57, 58, 59, 60, 61, 62, 63, 64, 2, 3, 4, 65, 66, 67, 68, 69, 70, 71, 72, 73, 74, 75, 76, 77, 78, 79, 80, 81, 82, 83, 84, 85, 86, 87, 88, 89, 90, 91, 92, 93, 94, 127, 128, 129, 130, 131, 132, 133, 134, 135, 136, 137, 138, 139, 140, 141, 142, 143, 144, 145, 146, 147, 148, 149, 150, 151, 152] (by decide +kernel) (by decide +kernel)
set_option maxRecDepth 20000 in
theorem gX9_all_X9_isGood : GoodIn wsX9_all (wsV RX9 109 RX9 yX9_isGood wsX9_isGood) := goodIn_app (goodIn_of _ (by decide +kernel)) ggX9_all_X9_isGood
set_option maxRecDepth 20000 in
theorem ggX9_all_X9_in : GoodIn wsX9_all wsX9_in := goodIn_r _ [97] (by decide +kernel) (by decide +kernel)
set_option maxRecDepth 20000 in
theorem gX9_all_X9_in : GoodIn wsX9_all (va_wsS RX9 62 yX9_in wsX9_in) := goodIn_app (goodIn_of _ (by decide +kernel)) ggX9_all_X9_in
set_option maxRecDepth 20000 in
theorem ggX9_all_X9_isNumber : GoodIn wsX9_all wsX9_isNumber := goodIn_r _ [101, 23, 95, 96, 8, 97, 127, 128, 129, 130, 131, 132, 133, 134, 135, 136, 137, 138, 139, 140, 141, 142, 143, 144, 145, 146, 147, 148, 149, 150, 151, 152] (by decide +kernel) (by decide +kernel)
set_option maxRecDepth 20000 in
theorem gX9_all_X9_isNumber : GoodIn wsX9_all (wsV RX9 70 RX9 yX9_isNumber wsX9_isNumber) := goodIn_app (goodIn_of _ (by decide +kernel)) ggX9_all_X9_isNumber
set_option maxRecDepth 20000 in
theorem ggX9_all_X9_onFrom : GoodIn wsX9_all wsX9_onFrom := goodIn_r _ [105, 17, 106, 107, 108, 8, 109, 127, 128, 129, 130, 131, 132, 133, 134, 135, 136, 137, 138, 139, 140, 141, 142, 143, 144, 145, 146, 147, 148, 149, 150, 151, 152] (by decide +kernel) (by decide +kernel)
set_option maxRecDepth 20000 in
theorem gX9_all_X9_onFrom : GoodIn wsX9_all (wsV RX9 176 RX9 yX9_onFrom wsX9_onFrom) := goodIn_app (goodIn_of _ (by decide +kernel)) ggX9_all_X9_onFrom
set_option maxRecDepth 20000 in
theorem ggX9_all_X9_chordOf : GoodIn wsX9_all wsX9_chordOf := goodIn_r _ [113, 77, 54, 55, 56, 22, 114, 115, 116, 8, 117, 29, 30, 31, 32, 23, 66, 67, 68, 69, 2, 3, 4, 37, 38, 39, 40, 41, 42, 43, 44, 127, 128, 129, 130, 131, 132, 133, 134, 135, 136, 137, 138, 139, 140, 141, 142, 143, 144, 145, 146, 147, 148, 149, 150, 151, 152] (by decide +kernel) (by decide +kernel)
set_option maxRecDepth 20000 in
theorem gX9_all_X9_chordOf : GoodIn wsX9_all (wsV RX9 208 RX9 yX9_chordOf wsX9_chordOf) := goodIn_app (goodIn_of _ (by decide +kernel)) ggX9_all_X9_chordOf
set_option maxRecDepth 20000 in
theorem ggX9_all_X9_touching : GoodIn wsX9_all wsX9_touching := goodIn_r _ [121, 122, 28, 123, 124, 125, 8, 126, 22, 29, 30, 31, 32, 23, 24, 25, 26, 27, 57, 58, 59, 60, 127, 128, 129, 130, 131, 132, 133, 134, 135, 136, 137, 138, 139, 140, 141, 142, 143, 144, 145, 146, 147, 148, 149, 150, 151, 152] (by decide +kernel) (by decide +kernel)
set_option maxRecDepth 20000 in
theorem gX9_all_X9_touching : GoodIn wsX9_all (wsV RX9 120 RX9 yX9_touching wsX9_touching) := goodIn_app (goodIn_of _ (by decide +kernel)) ggX9_all_X9_touching
theorem dX9_all_0 : decode cX9_all 0 = .ok (.aload_n 0, 1) := by decide +kernel
theorem dX9_all_1 : decode cX9_all 1 = .ok (.invokevirtual 109, 3) := by decide +kernel
theorem dX9_all_4 : decode cX9_all 4 = .ok (.ifCond .ne 6, 3) := by decide +kernel
theorem dX9_all_7 : decode cX9_all 7 = .ok (.bipush (-5), 2) := by decide +kernel
theorem dX9_all_9 : decode cX9_all 9 = .ok (.ireturn, 1) := by decide +kernel
theorem dX9_all_10 : decode cX9_all 10 = .ok (.iload_n 1, 1) := by decide +kernel
theorem dX9_all_11 : decode cX9_all 11 = .ok (.iconst 0, 1) := by decide +kernel
theorem dX9_all_12 : decode cX9_all 12 = .ok (.sipush 1000, 3) := by decide +kernel
theorem dX9_all_15 : decode cX9_all 15 = .ok (.invokestatic 62, 3) := by decide +kernel
theorem dX9_all_18 : decode cX9_all 18 = .ok (.ifCond .eq 27, 3) := by decide +kernel
theorem dX9_all_21 : decode cX9_all 21 = .ok (.aload_n 0, 1) := by decide +kernel
theorem dX9_all_22 : decode cX9_all 22 = .ok (.iload_n 2, 1) := by decide +kernel
theorem dX9_all_23 : decode cX9_all 23 = .ok (.invokevirtual 70, 3) := by decide +kernel
theorem dX9_all_26 : decode cX9_all 26 = .ok (.ifCond .eq 19, 3) := by decide +kernel
theorem dX9_all_29 : decode cX9_all 29 = .ok (.aload_n 0, 1) := by decide +kernel
theorem dX9_all_30 : decode cX9_all 30 = .ok (.iload_n 3, 1) := by decide +kernel
theorem dX9_all_31 : decode cX9_all 31 = .ok (.invokevirtual 70, 3) := by decide +kernel
theorem dX9_all_34 : decode cX9_all 34 = .ok (.ifCond .eq 11, 3) := by decide +kernel
theorem dX9_all_37 : decode cX9_all 37 = .ok (.iload_n 2, 1) := by decide +kernel
theorem dX9_all_38 : decode cX9_all 38 = .ok (.ifCond .ne 10, 3) := by decide +kernel
theorem dX9_all_41 : decode cX9_all 41 = .ok (.iload_n 3, 1) := by decide +kernel
theorem dX9_all_42 : decode cX9_all 42 = .ok (.ifCond .ne 6, 3) := by decide +kernel
theorem dX9_all_45 : decode cX9_all 45 = .ok (.bipush (-2), 2) := by decide +kernel
theorem dX9_all_47 : decode cX9_all 47 = .ok (.ireturn, 1) := by decide +kernel
theorem dX9_all_48 : decode cX9_all 48 = .ok (.iconst 0, 1) := by decide +kernel
theorem dX9_all_49 : decode cX9_all 49 = .ok (.istore 4, 2) := by decide +kernel
theorem dX9_all_51 : decode cX9_all 51 = .ok (.iconst 0, 1) := by decide +kernel
theorem dX9_all_52 : decode cX9_all 52 = .ok (.istore 5, 2) := by decide +kernel
theorem dX9_all_54 : decode cX9_all 54 = .ok (.iload 5, 2) := by decide +kernel
theorem dX9_all_56 : decode cX9_all 56 = .ok (.aload_n 0, 1) := by decide +kernel
theorem dX9_all_57 : decode cX9_all 57 = .ok (.getfield 140, 3) := by decide +kernel
theorem dX9_all_60 : decode cX9_all 60 = .ok (.if_icmp .ge 53, 3) := by decide +kernel
theorem dX9_all_63 : decode cX9_all 63 = .ok (.aload_n 0, 1) := by decide +kernel
theorem dX9_all_64 : decode cX9_all 64 = .ok (.iload 5, 2) := by decide +kernel
theorem dX9_all_66 : decode cX9_all 66 = .ok (.aload_n 0, 1) := by decide +kernel
theorem dX9_all_67 : decode cX9_all 67 = .ok (.iload 5, 2) := by decide +kernel
theorem dX9_all_69 : decode cX9_all 69 = .ok (.iload_n 1, 1) := by decide +kernel
theorem dX9_all_70 : decode cX9_all 70 = .ok (.invokevirtual 176, 3) := by decide +kernel
theorem dX9_all_73 : decode cX9_all 73 = .ok (.invokevirtual 208, 3) := by decide +kernel
theorem dX9_all_76 : decode cX9_all 76 = .ok (.iload 4, 2) := by decide +kernel
theorem dX9_all_78 : decode cX9_all 78 = .ok (.aload_n 0, 1) := by decide +kernel
theorem dX9_all_79 : decode cX9_all 79 = .ok (.iload_n 2, 1) := by decide +kernel
theorem dX9_all_80 : decode cX9_all 80 = .ok (.iload_n 3, 1) := by decide +kernel
theorem dX9_all_81 : decode cX9_all 81 = .ok (.aload_n 0, 1) := by decide +kernel
theorem dX9_all_82 : decode cX9_all 82 = .ok (.getfield 124, 3) := by decide +kernel
theorem dX9_all_85 : decode cX9_all 85 = .ok (.aload_n 0, 1) := by decide +kernel
theorem dX9_all_86 : decode cX9_all 86 = .ok (.getfield 127, 3) := by decide +kernel
theorem dX9_all_89 : decode cX9_all 89 = .ok (.aload_n 0, 1) := by decide +kernel
theorem dX9_all_90 : decode cX9_all 90 = .ok (.getfield 130, 3) := by decide +kernel
theorem dX9_all_93 : decode cX9_all 93 = .ok (.invokevirtual 120, 3) := by decide +kernel
theorem dX9_all_96 : decode cX9_all 96 = .ok (.ifCond .ne 7, 3) := by decide +kernel
theorem dX9_all_99 : decode cX9_all 99 = .ok (.iconst 1, 1) := by decide +kernel
theorem dX9_all_100 : decode cX9_all 100 = .ok (.goto 4, 3) := by decide +kernel
theorem dX9_all_103 : decode cX9_all 103 = .ok (.iconst 0, 1) := by decide +kernel
theorem dX9_all_104 : decode cX9_all 104 = .ok (.iadd, 1) := by decide +kernel
theorem dX9_all_105 : decode cX9_all 105 = .ok (.istore 4, 2) := by decide +kernel
theorem dX9_all_107 : decode cX9_all 107 = .ok (.iinc 5 1, 3) := by decide +kernel
theorem dX9_all_110 : decode cX9_all 110 = .ok (.goto (-56), 3) := by decide +kernel
theorem dX9_all_113 : decode cX9_all 113 = .ok (.iload 4, 2) := by decide +kernel
theorem dX9_all_115 : decode cX9_all 115 = .ok (.ireturn, 1) := by decide +kernel
