set_option maxRecDepth 20000 in
theorem ggX8_init_X4_init : GoodIn wsX8_init wsX4_init := goodIn_r _ [41, 42, 2, 3, 43, 44, 45, 46, 47, 48, 6, 49, 50, 159, 160, 161] (by decide +kernel) (by decide +kernel)
set_option maxRecDepth 20000 in
theorem gX8_init_X4_init : GoodIn wsX8_init (wsX4_init) := ggX8_init_X4_init
set_option maxRecDepth 20000 in
theorem ggX8_init_X2_init : GoodIn wsX8_init wsX2_init := goodIn_r _ [53, 54, 2, 3, 55, 179, 180, 181, 182, 183, 184, 185] (by decide +kernel) (by decide +kernel)
set_option maxRecDepth 20000 in
theorem gX8_init_X2_init : GoodIn wsX8_init (wsX2_init) := ggX8_init_X2_init
set_option maxRecDepth 20000 in
theorem ggX8_init_X7_init : GoodIn wsX8_init wsX7_init := goodIn_r _ [58, 59, 2, 3, 60, 186, 187, 188, 189] (by decide +kernel) (by decide +kernel)
set_option maxRecDepth 20000 in
theorem gX8_init_X7_init : GoodIn wsX8_init (wsX7_init) := ggX8_init_X7_init
set_option maxRecDepth 20000 in
theorem ggX8_init_X0_init : GoodIn wsX8_init wsX0_init := goodIn_r _ [63, 64, 2, 3, 65, 190, 191, 192, 193, 194] (by decide +kernel) (by decide +kernel)
set_option maxRecDepth 20000 in
theorem gX8_init_X0_init : GoodIn wsX8_init (wsX0_init) := ggX8_init_X0_init
set_option maxRecDepth 20000 in
theorem ggX8_init_X5_init : GoodIn wsX8_init wsX5_init := goodIn_r _ [68, 69, 2, 3, 43, 70, 71, 72, 73, 74, 75, 76, 77, 78, 79, 80, 81, 82, 83, 84, 85, 18, 19, 86, 87, 88, 89, 90, 91, 92, 93, 94, 95, 96, 57, 58, 59, 60, 97, 195, 196, 197, 198, 199, 200, 201, 202, 203, 204, 205, 206, 207, 208, 209, 210, 219, 220, 221, 222, 223, 224, 225, 186, 187, 188, 189] (by decide +kernel) (by decide +kernel)
set_option maxRecDepth 20000 in
theorem gX8_init_X5_init : GoodIn wsX8_init (wsX5_init) := ggX8_init_X5_init
set_option maxRecDepth 20000 in
theorem ggX8_init_X1_init : GoodIn wsX8_init wsX1_init := goodIn_r _ [100, 101, 2, 3, 43, 102, 103, 104, 211, 212, 213, 214, 215] (by decide +kernel) (by decide +kernel)
set_option maxRecDepth 20000 in
theorem gX8_init_X1_init : GoodIn wsX8_init (wsX1_init) := ggX8_init_X1_init
set_option maxRecDepth 20000 in
theorem ggX8_init_X6_init : GoodIn wsX8_init wsX6_init := goodIn_r _ [107, 108, 2, 3, 43, 109, 110, 111, 216, 217, 218] (by decide +kernel) (by decide +kernel)
set_option maxRecDepth 20000 in
theorem gX8_init_X6_init : GoodIn wsX8_init (wsX6_init) := ggX8_init_X6_init
set_option maxRecDepth 20000 in
theorem ggX8_init_X8_startRounds : GoodIn wsX8_init wsX8_startRounds := goodIn_r _ [116, 11, 13, 117, 118, 119, 10, 120, 55, 121, 122, 123, 124, 125, 126, 127, 128, 129, 6, 130, 50, 131, 132, 133, 115, 134, 12, 14, 26, 135, 136, 137, 138, 139, 140, 141, 142, 143, 144, 145, 25, 146, 147, 148, 149, 150, 151, 152, 153, 154, 155, 156, 157, 158, 162, 163, 164, 165, 166, 167, 168, 169, 170, 171, 172, 173, 174, 175, 176, 177, 178, 179, 180, 181, 182, 183, 184, 185, 159, 160, 161, 190, 191, 192, 193, 194] (by decide +kernel) (by decide +kernel)
set_option maxRecDepth 20000 in
theorem gX8_init_X8_startRounds : GoodIn wsX8_init (wsV RX8 83 RX8 yX8_startRounds wsX8_startRounds) := goodIn_app (goodIn_of _ (by decide +kernel)) ggX8_init_X8_startRounds
theorem dX8_init_0 : decode cX8_init 0 = .ok (.aload_n 0, 1) := by decide +kernel
theorem dX8_init_1 : decode cX8_init 1 = .ok (.invokespecial 1, 3) := by decide +kernel
theorem dX8_init_4 : decode cX8_init 4 = .ok (.aload_n 0, 1) := by decide +kernel
theorem dX8_init_5 : decode cX8_init 5 = .ok (.new 7, 3) := by decide +kernel
theorem dX8_init_8 : decode cX8_init 8 = .ok (.dup, 1) := by decide +kernel
theorem dX8_init_9 : decode cX8_init 9 = .ok (.bipush 7, 2) := by decide +kernel
theorem dX8_init_11 : decode cX8_init 11 = .ok (.invokespecial 11, 3) := by decide +kernel
theorem dX8_init_14 : decode cX8_init 14 = .ok (.putfield 14, 3) := by decide +kernel
theorem dX8_init_17 : decode cX8_init 17 = .ok (.aload_n 0, 1) := by decide +kernel
theorem dX8_init_18 : decode cX8_init 18 = .ok (.new 18, 3) := by decide +kernel
theorem dX8_init_21 : decode cX8_init 21 = .ok (.dup, 1) := by decide +kernel
theorem dX8_init_22 : decode cX8_init 22 = .ok (.aload_n 0, 1) := by decide +kernel
theorem dX8_init_23 : decode cX8_init 23 = .ok (.getfield 14, 3) := by decide +kernel
theorem dX8_init_26 : decode cX8_init 26 = .ok (.invokespecial 20, 3) := by decide +kernel
theorem dX8_init_29 : decode cX8_init 29 = .ok (.putfield 23, 3) := by decide +kernel
theorem dX8_init_32 : decode cX8_init 32 = .ok (.aload_n 0, 1) := by decide +kernel
theorem dX8_init_33 : decode cX8_init 33 = .ok (.new 18, 3) := by decide +kernel
theorem dX8_init_36 : decode cX8_init 36 = .ok (.dup, 1) := by decide +kernel
theorem dX8_init_37 : decode cX8_init 37 = .ok (.aload_n 0, 1) := by decide +kernel
theorem dX8_init_38 : decode cX8_init 38 = .ok (.getfield 14, 3) := by decide +kernel
theorem dX8_init_41 : decode cX8_init 41 = .ok (.invokespecial 20, 3) := by decide +kernel
theorem dX8_init_44 : decode cX8_init 44 = .ok (.putfield 27, 3) := by decide +kernel
theorem dX8_init_47 : decode cX8_init 47 = .ok (.aload_n 0, 1) := by decide +kernel
theorem dX8_init_48 : decode cX8_init 48 = .ok (.new 18, 3) := by decide +kernel
theorem dX8_init_51 : decode cX8_init 51 = .ok (.dup, 1) := by decide +kernel
theorem dX8_init_52 : decode cX8_init 52 = .ok (.aload_n 0, 1) := by decide +kernel
theorem dX8_init_53 : decode cX8_init 53 = .ok (.getfield 14, 3) := by decide +kernel
theorem dX8_init_56 : decode cX8_init 56 = .ok (.invokespecial 20, 3) := by decide +kernel
theorem dX8_init_59 : decode cX8_init 59 = .ok (.putfield 30, 3) := by decide +kernel
theorem dX8_init_62 : decode cX8_init 62 = .ok (.aload_n 0, 1) := by decide +kernel
theorem dX8_init_63 : decode cX8_init 63 = .ok (.new 18, 3) := by decide +kernel
theorem dX8_init_66 : decode cX8_init 66 = .ok (.dup, 1) := by decide +kernel
theorem dX8_init_67 : decode cX8_init 67 = .ok (.aload_n 0, 1) := by decide +kernel
theorem dX8_init_68 : decode cX8_init 68 = .ok (.getfield 14, 3) := by decide +kernel
theorem dX8_init_71 : decode cX8_init 71 = .ok (.invokespecial 20, 3) := by decide +kernel
theorem dX8_init_74 : decode cX8_init 74 = .ok (.putfield 33, 3) := by decide +kernel
theorem dX8_init_77 : decode cX8_init 77 = .ok (.aload_n 0, 1) := by decide +kernel
theorem dX8_init_78 : decode cX8_init 78 = .ok (.new 18, 3) := by decide +kernel
theorem dX8_init_81 : decode cX8_init 81 = .ok (.dup, 1) := by decide +kernel
theorem dX8_init_82 : decode cX8_init 82 = .ok (.aload_n 0, 1) := by decide +kernel
theorem dX8_init_83 : decode cX8_init 83 = .ok (.getfield 14, 3) := by decide +kernel
theorem dX8_init_86 : decode cX8_init 86 = .ok (.invokespecial 20, 3) := by decide +kernel
theorem dX8_init_89 : decode cX8_init 89 = .ok (.putfield 36, 3) := by decide +kernel
theorem dX8_init_92 : decode cX8_init 92 = .ok (.aload_n 0, 1) := by decide +kernel
theorem dX8_init_93 : decode cX8_init 93 = .ok (.new 18, 3) := by decide +kernel
theorem dX8_init_96 : decode cX8_init 96 = .ok (.dup, 1) := by decide +kernel
theorem dX8_init_97 : decode cX8_init 97 = .ok (.aload_n 0, 1) := by decide +kernel
theorem dX8_init_98 : decode cX8_init 98 = .ok (.getfield 14, 3) := by decide +kernel
theorem dX8_init_101 : decode cX8_init 101 = .ok (.invokespecial 20, 3) := by decide +kernel
theorem dX8_init_104 : decode cX8_init 104 = .ok (.putfield 39, 3) := by decide +kernel
theorem dX8_init_107 : decode cX8_init 107 = .ok (.aload_n 0, 1) := by decide +kernel
theorem dX8_init_108 : decode cX8_init 108 = .ok (.new 42, 3) := by decide +kernel
theorem dX8_init_111 : decode cX8_init 111 = .ok (.dup, 1) := by decide +kernel
theorem dX8_init_112 : decode cX8_init 112 = .ok (.aload_n 0, 1) := by decide +kernel
theorem dX8_init_113 : decode cX8_init 113 = .ok (.getfield 14, 3) := by decide +kernel
theorem dX8_init_116 : decode cX8_init 116 = .ok (.invokespecial 44, 3) := by decide +kernel
theorem dX8_init_119 : decode cX8_init 119 = .ok (.putfield 45, 3) := by decide +kernel
theorem dX8_init_122 : decode cX8_init 122 = .ok (.aload_n 0, 1) := by decide +kernel
theorem dX8_init_123 : decode cX8_init 123 = .ok (.new 42, 3) := by decide +kernel
theorem dX8_init_126 : decode cX8_init 126 = .ok (.dup, 1) := by decide +kernel
theorem dX8_init_127 : decode cX8_init 127 = .ok (.aload_n 0, 1) := by decide +kernel
theorem dX8_init_128 : decode cX8_init 128 = .ok (.getfield 14, 3) := by decide +kernel
theorem dX8_init_131 : decode cX8_init 131 = .ok (.invokespecial 44, 3) := by decide +kernel
theorem dX8_init_134 : decode cX8_init 134 = .ok (.putfield 49, 3) := by decide +kernel
theorem dX8_init_137 : decode cX8_init 137 = .ok (.aload_n 0, 1) := by decide +kernel
theorem dX8_init_138 : decode cX8_init 138 = .ok (.new 42, 3) := by decide +kernel
theorem dX8_init_141 : decode cX8_init 141 = .ok (.dup, 1) := by decide +kernel
theorem dX8_init_142 : decode cX8_init 142 = .ok (.aload_n 0, 1) := by decide +kernel
theorem dX8_init_143 : decode cX8_init 143 = .ok (.getfield 14, 3) := by decide +kernel
theorem dX8_init_146 : decode cX8_init 146 = .ok (.invokespecial 44, 3) := by decide +kernel
theorem dX8_init_149 : decode cX8_init 149 = .ok (.putfield 52, 3) := by decide +kernel
theorem dX8_init_152 : decode cX8_init 152 = .ok (.aload_n 0, 1) := by decide +kernel
theorem dX8_init_153 : decode cX8_init 153 = .ok (.new 55, 3) := by decide +kernel
theorem dX8_init_156 : decode cX8_init 156 = .ok (.dup, 1) := by decide +kernel
theorem dX8_init_157 : decode cX8_init 157 = .ok (.aload_n 0, 1) := by decide +kernel
theorem dX8_init_158 : decode cX8_init 158 = .ok (.getfield 14, 3) := by decide +kernel
theorem dX8_init_161 : decode cX8_init 161 = .ok (.invokespecial 57, 3) := by decide +kernel
theorem dX8_init_164 : decode cX8_init 164 = .ok (.putfield 58, 3) := by decide +kernel
theorem dX8_init_167 : decode cX8_init 167 = .ok (.aload_n 0, 1) := by decide +kernel
theorem dX8_init_168 : decode cX8_init 168 = .ok (.new 62, 3) := by decide +kernel
theorem dX8_init_171 : decode cX8_init 171 = .ok (.dup, 1) := by decide +kernel
theorem dX8_init_172 : decode cX8_init 172 = .ok (.aload_n 0, 1) := by decide +kernel
theorem dX8_init_173 : decode cX8_init 173 = .ok (.getfield 14, 3) := by decide +kernel
theorem dX8_init_176 : decode cX8_init 176 = .ok (.invokespecial 64, 3) := by decide +kernel
theorem dX8_init_179 : decode cX8_init 179 = .ok (.putfield 65, 3) := by decide +kernel
theorem dX8_init_182 : decode cX8_init 182 = .ok (.aload_n 0, 1) := by decide +kernel
theorem dX8_init_183 : decode cX8_init 183 = .ok (.new 69, 3) := by decide +kernel
theorem dX8_init_186 : decode cX8_init 186 = .ok (.dup, 1) := by decide +kernel
theorem dX8_init_187 : decode cX8_init 187 = .ok (.aload_n 0, 1) := by decide +kernel
theorem dX8_init_188 : decode cX8_init 188 = .ok (.getfield 14, 3) := by decide +kernel
theorem dX8_init_191 : decode cX8_init 191 = .ok (.invokespecial 71, 3) := by decide +kernel
theorem dX8_init_194 : decode cX8_init 194 = .ok (.putfield 72, 3) := by decide +kernel
theorem dX8_init_197 : decode cX8_init 197 = .ok (.aload_n 0, 1) := by decide +kernel
theorem dX8_init_198 : decode cX8_init 198 = .ok (.new 76, 3) := by decide +kernel
theorem dX8_init_201 : decode cX8_init 201 = .ok (.dup, 1) := by decide +kernel
theorem dX8_init_202 : decode cX8_init 202 = .ok (.aload_n 0, 1) := by decide +kernel
theorem dX8_init_203 : decode cX8_init 203 = .ok (.getfield 14, 3) := by decide +kernel
theorem dX8_init_206 : decode cX8_init 206 = .ok (.invokespecial 78, 3) := by decide +kernel
theorem dX8_init_209 : decode cX8_init 209 = .ok (.putfield 79, 3) := by decide +kernel
theorem dX8_init_212 : decode cX8_init 212 = .ok (.aload_n 0, 1) := by decide +kernel
theorem dX8_init_213 : decode cX8_init 213 = .ok (.invokevirtual 83, 3) := by decide +kernel
theorem dX8_init_216 : decode cX8_init 216 = .ok (.return_, 1) := by decide +kernel
set_option maxRecDepth 20000 in
theorem ggX8_field_X8_isPrime : GoodIn wsX8_field wsX8_isPrime := goodIn_r _ [5] (by decide +kernel) (by decide +kernel)
set_option maxRecDepth 20000 in
theorem gX8_field_X8_isPrime : GoodIn wsX8_field (va_wsS RX8 86 yX8_isPrime wsX8_isPrime) := goodIn_app (goodIn_of _ (by decide +kernel)) ggX8_field_X8_isPrime
set_option maxRecDepth 20000 in
theorem ggX8_field_X4_prime : GoodIn wsX8_field wsX4_prime := goodIn_r _ [10, 11, 89, 90, 91] (by decide +kernel) (by decide +kernel)
set_option maxRecDepth 20000 in
theorem gX8_field_X4_prime : GoodIn wsX8_field (wsV RX8 90 RX4 yX4_prime wsX4_prime) := goodIn_app (goodIn_of _ (by decide +kernel)) ggX8_field_X4_prime
set_option maxRecDepth 20000 in
theorem ggX8_field_X4_take : GoodIn wsX8_field wsX4_take := goodIn_r _ [15, 11, 16, 17, 89, 90, 91] (by decide +kernel) (by decide +kernel)
set_option maxRecDepth 20000 in
theorem gX8_field_X4_take : GoodIn wsX8_field (wsV RX8 94 RX4 yX4_take wsX4_take) := goodIn_app (goodIn_of _ (by decide +kernel)) ggX8_field_X4_take
set_option maxRecDepth 20000 in
theorem ggX8_field_X8_startRounds : GoodIn wsX8_field wsX8_startRounds := goodIn_r _ [21, 22, 23, 24, 25, 26, 27, 28, 29, 30, 31, 32, 33, 34, 35, 36, 37, 38, 9, 39, 11, 40, 41, 42, 4, 43, 44, 45, 46, 47, 48, 49, 50, 51, 52, 53, 54, 55, 56, 57, 58, 59, 60, 61, 62, 63, 64, 65, 66, 67, 68, 69, 70, 71, 72, 73, 74, 75, 76, 77, 78, 79, 80, 81, 82, 83, 84, 85, 86, 87, 88, 92, 93, 94, 95, 96, 97, 98, 89, 90, 91, 99, 100, 101, 102, 103] (by decide +kernel) (by decide +kernel)
set_option maxRecDepth 20000 in
theorem gX8_field_X8_startRounds : GoodIn wsX8_field (wsV RX8 83 RX8 yX8_startRounds wsX8_startRounds) := goodIn_app (goodIn_of _ (by decide +kernel)) ggX8_field_X8_startRounds
theorem dX8_field_0 : decode cX8_field 0 = .ok (.iload_n 1, 1) := by decide +kernel
theorem dX8_field_1 : decode cX8_field 1 = .ok (.invokestatic 86, 3) := by decide +kernel
theorem dX8_field_4 : decode cX8_field 4 = .ok (.ifCond .ne 6, 3) := by decide +kernel
theorem dX8_field_7 : decode cX8_field 7 = .ok (.bipush (-2), 2) := by decide +kernel
theorem dX8_field_9 : decode cX8_field 9 = .ok (.ireturn, 1) := by decide +kernel
theorem dX8_field_10 : decode cX8_field 10 = .ok (.aload_n 0, 1) := by decide +kernel
theorem dX8_field_11 : decode cX8_field 11 = .ok (.getfield 14, 3) := by decide +kernel
theorem dX8_field_14 : decode cX8_field 14 = .ok (.invokevirtual 90, 3) := by decide +kernel
theorem dX8_field_17 : decode cX8_field 17 = .ok (.istore_n 2, 1) := by decide +kernel
theorem dX8_field_18 : decode cX8_field 18 = .ok (.aload_n 0, 1) := by decide +kernel
theorem dX8_field_19 : decode cX8_field 19 = .ok (.getfield 14, 3) := by decide +kernel
theorem dX8_field_22 : decode cX8_field 22 = .ok (.iload_n 1, 1) := by decide +kernel
theorem dX8_field_23 : decode cX8_field 23 = .ok (.invokevirtual 94, 3) := by decide +kernel
theorem dX8_field_26 : decode cX8_field 26 = .ok (.aload_n 0, 1) := by decide +kernel
theorem dX8_field_27 : decode cX8_field 27 = .ok (.invokevirtual 83, 3) := by decide +kernel
theorem dX8_field_30 : decode cX8_field 30 = .ok (.iload_n 2, 1) := by decide +kernel
theorem dX8_field_31 : decode cX8_field 31 = .ok (.ireturn, 1) := by decide +kernel
set_option maxRecDepth 20000 in
theorem ggX8_round_X8_areNumbers : GoodIn wsX8_round wsX8_areNumbers := goodIn_r _ [7, 8, 9, 10, 11, 12, 13, 14, 63, 64, 65, 66, 67, 68, 69, 70, 71, 72, 73, 74, 75, 76, 77, 78, 79, 80, 81, 82] (by decide +kernel) (by decide +kernel)
set_option maxRecDepth 20000 in
theorem gX8_round_X8_areNumbers : GoodIn wsX8_round (wsV RX8 97 RX8 yX8_areNumbers wsX8_areNumbers) := goodIn_app (goodIn_of _ (by decide +kernel)) ggX8_round_X8_areNumbers
set_option maxRecDepth 20000 in
theorem ggX8_round_X2_take : GoodIn wsX8_round wsX2_take := goodIn_r _ [19, 20, 21, 22, 23, 24, 25, 26, 27, 28, 29, 12, 30, 14, 83, 84, 85, 86, 87, 88, 89, 80, 81, 82] (by decide +kernel) (by decide +kernel)
set_option maxRecDepth 20000 in
theorem gX8_round_X2_take : GoodIn wsX8_round (wsV RX8 101 RX2 yX2_take wsX2_take) := goodIn_app (goodIn_of _ (by decide +kernel)) ggX8_round_X2_take
set_option maxRecDepth 20000 in
theorem ggX8_round_X8_renew : GoodIn wsX8_round wsX8_renew := goodIn_r _ [34, 35, 1, 36, 2, 37, 38, 39, 40, 41, 42, 43, 18, 44, 22, 23, 24, 21, 25, 26, 45, 16, 17, 19, 20, 27, 28, 29, 12, 30, 14, 46, 47, 48, 49, 50, 51, 52, 53, 54, 55, 56, 57, 58, 59, 60, 61, 62, 63, 64, 65, 66, 67, 68, 69, 70, 71, 72, 73, 74, 75, 76, 77, 78, 79, 83, 84, 85, 86, 87, 88, 89, 80, 81, 82, 90, 91, 92, 93, 94] (by decide +kernel) (by decide +kernel)
set_option maxRecDepth 20000 in
theorem gX8_round_X8_renew : GoodIn wsX8_round (wsV RX8 104 RX8 yX8_renew wsX8_renew) := goodIn_app (goodIn_of _ (by decide +kernel)) ggX8_round_X8_renew
theorem dX8_round_0 : decode cX8_round 0 = .ok (.iload_n 1, 1) := by decide +kernel
theorem dX8_round_1 : decode cX8_round 1 = .ok (.ifCond .lt 32, 3) := by decide +kernel
theorem dX8_round_4 : decode cX8_round 4 = .ok (.iload_n 1, 1) := by decide +kernel
theorem dX8_round_5 : decode cX8_round 5 = .ok (.iconst 1, 1) := by decide +kernel
theorem dX8_round_6 : decode cX8_round 6 = .ok (.if_icmp .gt 27, 3) := by decide +kernel
theorem dX8_round_9 : decode cX8_round 9 = .ok (.aload_n 0, 1) := by decide +kernel
theorem dX8_round_10 : decode cX8_round 10 = .ok (.iload_n 2, 1) := by decide +kernel
theorem dX8_round_11 : decode cX8_round 11 = .ok (.iload_n 3, 1) := by decide +kernel
theorem dX8_round_12 : decode cX8_round 12 = .ok (.iload 4, 2) := by decide +kernel
theorem dX8_round_14 : decode cX8_round 14 = .ok (.invokevirtual 97, 3) := by decide +kernel
theorem dX8_round_17 : decode cX8_round 17 = .ok (.ifCond .eq 16, 3) := by decide +kernel
theorem dX8_round_20 : decode cX8_round 20 = .ok (.aload_n 0, 1) := by decide +kernel
theorem dX8_round_21 : decode cX8_round 21 = .ok (.iload 5, 2) := by decide +kernel
theorem dX8_round_23 : decode cX8_round 23 = .ok (.iload 6, 2) := by decide +kernel
theorem dX8_round_25 : decode cX8_round 25 = .ok (.iload 7, 2) := by decide +kernel
theorem dX8_round_27 : decode cX8_round 27 = .ok (.invokevirtual 97, 3) := by decide +kernel
theorem dX8_round_30 : decode cX8_round 30 = .ok (.ifCond .ne 6, 3) := by decide +kernel
theorem dX8_round_33 : decode cX8_round 33 = .ok (.bipush (-2), 2) := by decide +kernel
theorem dX8_round_35 : decode cX8_round 35 = .ok (.ireturn, 1) := by decide +kernel
theorem dX8_round_36 : decode cX8_round 36 = .ok (.iload_n 1, 1) := by decide +kernel
theorem dX8_round_37 : decode cX8_round 37 = .ok (.ifCond .ne 10, 3) := by decide +kernel
theorem dX8_round_40 : decode cX8_round 40 = .ok (.aload_n 0, 1) := by decide +kernel
theorem dX8_round_41 : decode cX8_round 41 = .ok (.getfield 23, 3) := by decide +kernel
theorem dX8_round_44 : decode cX8_round 44 = .ok (.goto 7, 3) := by decide +kernel
theorem dX8_round_47 : decode cX8_round 47 = .ok (.aload_n 0, 1) := by decide +kernel
theorem dX8_round_48 : decode cX8_round 48 = .ok (.getfield 30, 3) := by decide +kernel
theorem dX8_round_51 : decode cX8_round 51 = .ok (.astore 8, 2) := by decide +kernel
theorem dX8_round_53 : decode cX8_round 53 = .ok (.aload 8, 2) := by decide +kernel
theorem dX8_round_55 : decode cX8_round 55 = .ok (.iload_n 2, 1) := by decide +kernel
theorem dX8_round_56 : decode cX8_round 56 = .ok (.iload_n 3, 1) := by decide +kernel
theorem dX8_round_57 : decode cX8_round 57 = .ok (.iload 4, 2) := by decide +kernel
theorem dX8_round_59 : decode cX8_round 59 = .ok (.iload 5, 2) := by decide +kernel
theorem dX8_round_61 : decode cX8_round 61 = .ok (.iload 6, 2) := by decide +kernel
theorem dX8_round_63 : decode cX8_round 63 = .ok (.iload 7, 2) := by decide +kernel
theorem dX8_round_65 : decode cX8_round 65 = .ok (.invokevirtual 101, 3) := by decide +kernel
theorem dX8_round_68 : decode cX8_round 68 = .ok (.aload_n 0, 1) := by decide +kernel
theorem dX8_round_69 : decode cX8_round 69 = .ok (.invokevirtual 104, 3) := by decide +kernel
theorem dX8_round_72 : decode cX8_round 72 = .ok (.iconst 1, 1) := by decide +kernel
theorem dX8_round_73 : decode cX8_round 73 = .ok (.ireturn, 1) := by decide +kernel
set_option maxRecDepth 20000 in
theorem ggX8_given_X2_part : GoodIn wsX8_given wsX2_part := goodIn_r _ [7, 8, 9, 10, 11, 12, 13, 31, 32, 33, 34, 35, 36, 37] (by decide +kernel) (by decide +kernel)
set_option maxRecDepth 20000 in
theorem gX8_given_X2_part : GoodIn wsX8_given (wsV RX8 107 RX2 yX2_part wsX2_part) := goodIn_app (goodIn_of _ (by decide +kernel)) ggX8_given_X2_part
theorem dX8_given_0 : decode cX8_given 0 = .ok (.iload_n 1, 1) := by decide +kernel
theorem dX8_given_1 : decode cX8_given 1 = .ok (.ifCond .lt 17, 3) := by decide +kernel
theorem dX8_given_4 : decode cX8_given 4 = .ok (.iload_n 1, 1) := by decide +kernel
theorem dX8_given_5 : decode cX8_given 5 = .ok (.iconst 1, 1) := by decide +kernel
theorem dX8_given_6 : decode cX8_given 6 = .ok (.if_icmp .gt 12, 3) := by decide +kernel
theorem dX8_given_9 : decode cX8_given 9 = .ok (.iload_n 2, 1) := by decide +kernel
theorem dX8_given_10 : decode cX8_given 10 = .ok (.ifCond .lt 8, 3) := by decide +kernel
theorem dX8_given_13 : decode cX8_given 13 = .ok (.iload_n 2, 1) := by decide +kernel
theorem dX8_given_14 : decode cX8_given 14 = .ok (.iconst 5, 1) := by decide +kernel
theorem dX8_given_15 : decode cX8_given 15 = .ok (.if_icmp .le 6, 3) := by decide +kernel
theorem dX8_given_18 : decode cX8_given 18 = .ok (.bipush (-2), 2) := by decide +kernel
theorem dX8_given_20 : decode cX8_given 20 = .ok (.ireturn, 1) := by decide +kernel
theorem dX8_given_21 : decode cX8_given 21 = .ok (.iload_n 1, 1) := by decide +kernel
theorem dX8_given_22 : decode cX8_given 22 = .ok (.ifCond .ne 14, 3) := by decide +kernel
theorem dX8_given_25 : decode cX8_given 25 = .ok (.aload_n 0, 1) := by decide +kernel
theorem dX8_given_26 : decode cX8_given 26 = .ok (.getfield 23, 3) := by decide +kernel
theorem dX8_given_29 : decode cX8_given 29 = .ok (.iload_n 2, 1) := by decide +kernel
theorem dX8_given_30 : decode cX8_given 30 = .ok (.invokevirtual 107, 3) := by decide +kernel
theorem dX8_given_33 : decode cX8_given 33 = .ok (.goto 11, 3) := by decide +kernel
theorem dX8_given_36 : decode cX8_given 36 = .ok (.aload_n 0, 1) := by decide +kernel
theorem dX8_given_37 : decode cX8_given 37 = .ok (.getfield 30, 3) := by decide +kernel
theorem dX8_given_40 : decode cX8_given 40 = .ok (.iload_n 2, 1) := by decide +kernel
theorem dX8_given_41 : decode cX8_given 41 = .ok (.invokevirtual 107, 3) := by decide +kernel
theorem dX8_given_44 : decode cX8_given 44 = .ok (.ireturn, 1) := by decide +kernel
set_option maxRecDepth 20000 in
theorem ggX8_work_X4_has : GoodIn wsX8_work wsX4_has := goodIn_r _ [6, 7, 34, 35, 36] (by decide +kernel) (by decide +kernel)
set_option maxRecDepth 20000 in
theorem gX8_work_X4_has : GoodIn wsX8_work (wsV RX8 111 RX4 yX4_has wsX4_has) := goodIn_app (goodIn_of _ (by decide +kernel)) ggX8_work_X4_has
set_option maxRecDepth 20000 in
theorem ggX8_work_X4_rest : GoodIn wsX8_work wsX4_rest := goodIn_r _ [11, 7, 34, 35, 36] (by decide +kernel) (by decide +kernel)
set_option maxRecDepth 20000 in
theorem gX8_work_X4_rest : GoodIn wsX8_work (wsV RX8 114 RX4 yX4_rest wsX4_rest) := goodIn_app (goodIn_of _ (by decide +kernel)) ggX8_work_X4_rest
set_option maxRecDepth 20000 in
theorem ggX8_work_X4_inverseOf : GoodIn wsX8_work wsX4_inverseOf := goodIn_r _ [15, 7, 16, 34, 35, 36] (by decide +kernel) (by decide +kernel)
set_option maxRecDepth 20000 in
theorem gX8_work_X4_inverseOf : GoodIn wsX8_work (wsV RX8 117 RX4 yX4_inverseOf wsX4_inverseOf) := goodIn_app (goodIn_of _ (by decide +kernel)) ggX8_work_X4_inverseOf
theorem dX8_work_0 : decode cX8_work 0 = .ok (.iload_n 1, 1) := by decide +kernel
theorem dX8_work_1 : decode cX8_work 1 = .ok (.ifCond .lt 30, 3) := by decide +kernel
theorem dX8_work_4 : decode cX8_work 4 = .ok (.iload_n 1, 1) := by decide +kernel
theorem dX8_work_5 : decode cX8_work 5 = .ok (.iconst 2, 1) := by decide +kernel
theorem dX8_work_6 : decode cX8_work 6 = .ok (.if_icmp .gt 25, 3) := by decide +kernel
theorem dX8_work_9 : decode cX8_work 9 = .ok (.aload_n 0, 1) := by decide +kernel
theorem dX8_work_10 : decode cX8_work 10 = .ok (.getfield 14, 3) := by decide +kernel
theorem dX8_work_13 : decode cX8_work 13 = .ok (.iload_n 2, 1) := by decide +kernel
theorem dX8_work_14 : decode cX8_work 14 = .ok (.invokevirtual 111, 3) := by decide +kernel
theorem dX8_work_17 : decode cX8_work 17 = .ok (.ifCond .eq 14, 3) := by decide +kernel
theorem dX8_work_20 : decode cX8_work 20 = .ok (.aload_n 0, 1) := by decide +kernel
theorem dX8_work_21 : decode cX8_work 21 = .ok (.getfield 14, 3) := by decide +kernel
theorem dX8_work_24 : decode cX8_work 24 = .ok (.iload_n 3, 1) := by decide +kernel
theorem dX8_work_25 : decode cX8_work 25 = .ok (.invokevirtual 111, 3) := by decide +kernel
theorem dX8_work_28 : decode cX8_work 28 = .ok (.ifCond .ne 6, 3) := by decide +kernel
theorem dX8_work_31 : decode cX8_work 31 = .ok (.bipush (-2), 2) := by decide +kernel
theorem dX8_work_33 : decode cX8_work 33 = .ok (.ireturn, 1) := by decide +kernel
theorem dX8_work_34 : decode cX8_work 34 = .ok (.iload_n 1, 1) := by decide +kernel
theorem dX8_work_35 : decode cX8_work 35 = .ok (.ifCond .ne 14, 3) := by decide +kernel
theorem dX8_work_38 : decode cX8_work 38 = .ok (.aload_n 0, 1) := by decide +kernel
theorem dX8_work_39 : decode cX8_work 39 = .ok (.getfield 14, 3) := by decide +kernel
theorem dX8_work_42 : decode cX8_work 42 = .ok (.iload_n 2, 1) := by decide +kernel
theorem dX8_work_43 : decode cX8_work 43 = .ok (.iload_n 3, 1) := by decide +kernel
theorem dX8_work_44 : decode cX8_work 44 = .ok (.iadd, 1) := by decide +kernel
theorem dX8_work_45 : decode cX8_work 45 = .ok (.invokevirtual 114, 3) := by decide +kernel
theorem dX8_work_48 : decode cX8_work 48 = .ok (.ireturn, 1) := by decide +kernel
theorem dX8_work_49 : decode cX8_work 49 = .ok (.iload_n 1, 1) := by decide +kernel
theorem dX8_work_50 : decode cX8_work 50 = .ok (.iconst 1, 1) := by decide +kernel
theorem dX8_work_51 : decode cX8_work 51 = .ok (.if_icmp .ne 14, 3) := by decide +kernel
theorem dX8_work_54 : decode cX8_work 54 = .ok (.aload_n 0, 1) := by decide +kernel
theorem dX8_work_55 : decode cX8_work 55 = .ok (.getfield 14, 3) := by decide +kernel
theorem dX8_work_58 : decode cX8_work 58 = .ok (.iload_n 2, 1) := by decide +kernel
theorem dX8_work_59 : decode cX8_work 59 = .ok (.iload_n 3, 1) := by decide +kernel
theorem dX8_work_60 : decode cX8_work 60 = .ok (.imul, 1) := by decide +kernel
theorem dX8_work_61 : decode cX8_work 61 = .ok (.invokevirtual 114, 3) := by decide +kernel
theorem dX8_work_64 : decode cX8_work 64 = .ok (.ireturn, 1) := by decide +kernel
theorem dX8_work_65 : decode cX8_work 65 = .ok (.iload_n 3, 1) := by decide +kernel
theorem dX8_work_66 : decode cX8_work 66 = .ok (.ifCond .ne 8, 3) := by decide +kernel
theorem dX8_work_69 : decode cX8_work 69 = .ok (.bipush (-2), 2) := by decide +kernel
theorem dX8_work_71 : decode cX8_work 71 = .ok (.goto 20, 3) := by decide +kernel
theorem dX8_work_74 : decode cX8_work 74 = .ok (.aload_n 0, 1) := by decide +kernel
theorem dX8_work_75 : decode cX8_work 75 = .ok (.getfield 14, 3) := by decide +kernel
theorem dX8_work_78 : decode cX8_work 78 = .ok (.iload_n 2, 1) := by decide +kernel
theorem dX8_work_79 : decode cX8_work 79 = .ok (.aload_n 0, 1) := by decide +kernel
theorem dX8_work_80 : decode cX8_work 80 = .ok (.getfield 14, 3) := by decide +kernel
theorem dX8_work_83 : decode cX8_work 83 = .ok (.iload_n 3, 1) := by decide +kernel
theorem dX8_work_84 : decode cX8_work 84 = .ok (.invokevirtual 117, 3) := by decide +kernel
theorem dX8_work_87 : decode cX8_work 87 = .ok (.imul, 1) := by decide +kernel
theorem dX8_work_88 : decode cX8_work 88 = .ok (.invokevirtual 114, 3) := by decide +kernel
theorem dX8_work_91 : decode cX8_work 91 = .ok (.ireturn, 1) := by decide +kernel
set_option maxRecDepth 20000 in
theorem ggX8_root_X4_has : GoodIn wsX8_root wsX4_has := goodIn_r _ [6, 7, 34, 35, 36] (by decide +kernel) (by decide +kernel)
set_option maxRecDepth 20000 in
theorem gX8_root_X4_has : GoodIn wsX8_root (wsV RX8 111 RX4 yX4_has wsX4_has) := goodIn_app (goodIn_of _ (by decide +kernel)) ggX8_root_X4_has
set_option maxRecDepth 20000 in
theorem ggX8_root_X4_rootOf : GoodIn wsX8_root wsX4_rootOf := goodIn_r _ [11, 12, 13, 14, 15, 5, 16, 7, 34, 35, 36] (by decide +kernel) (by decide +kernel)
set_option maxRecDepth 20000 in
theorem gX8_root_X4_rootOf : GoodIn wsX8_root (wsV RX8 120 RX4 yX4_rootOf wsX4_rootOf) := goodIn_app (goodIn_of _ (by decide +kernel)) ggX8_root_X4_rootOf
theorem dX8_root_0 : decode cX8_root 0 = .ok (.aload_n 0, 1) := by decide +kernel
theorem dX8_root_1 : decode cX8_root 1 = .ok (.getfield 14, 3) := by decide +kernel
theorem dX8_root_4 : decode cX8_root 4 = .ok (.iload_n 1, 1) := by decide +kernel
theorem dX8_root_5 : decode cX8_root 5 = .ok (.invokevirtual 111, 3) := by decide +kernel
theorem dX8_root_8 : decode cX8_root 8 = .ok (.ifCond .eq 14, 3) := by decide +kernel
theorem dX8_root_11 : decode cX8_root 11 = .ok (.aload_n 0, 1) := by decide +kernel
theorem dX8_root_12 : decode cX8_root 12 = .ok (.getfield 14, 3) := by decide +kernel
theorem dX8_root_15 : decode cX8_root 15 = .ok (.iload_n 1, 1) := by decide +kernel
theorem dX8_root_16 : decode cX8_root 16 = .ok (.invokevirtual 120, 3) := by decide +kernel
theorem dX8_root_19 : decode cX8_root 19 = .ok (.goto 5, 3) := by decide +kernel
theorem dX8_root_22 : decode cX8_root 22 = .ok (.bipush (-2), 2) := by decide +kernel
theorem dX8_root_24 : decode cX8_root 24 = .ok (.ireturn, 1) := by decide +kernel
set_option maxRecDepth 20000 in
theorem ggX8_cubic_X0_discriminant : GoodIn wsX8_cubic wsX0_discriminant := goodIn_r _ [6, 7, 8, 9, 10, 11, 12, 13, 14, 15, 16, 17, 39, 40, 41, 42, 43, 44, 45, 46] (by decide +kernel) (by decide +kernel)
set_option maxRecDepth 20000 in
theorem gX8_cubic_X0_discriminant : GoodIn wsX8_cubic (wsV RX8 123 RX0 yX0_discriminant wsX0_discriminant) := goodIn_app (goodIn_of _ (by decide +kernel)) ggX8_cubic_X0_discriminant
set_option maxRecDepth 20000 in
theorem ggX8_cubic_X0_part : GoodIn wsX8_cubic wsX0_part := goodIn_r _ [21, 10, 8, 9, 11, 39, 40, 41, 42, 43] (by decide +kernel) (by decide +kernel)
set_option maxRecDepth 20000 in
theorem gX8_cubic_X0_part : GoodIn wsX8_cubic (wsV RX8 126 RX0 yX0_part wsX0_part) := goodIn_app (goodIn_of _ (by decide +kernel)) ggX8_cubic_X0_part
theorem dX8_cubic_0 : decode cX8_cubic 0 = .ok (.iload_n 1, 1) := by decide +kernel
theorem dX8_cubic_1 : decode cX8_cubic 1 = .ok (.ifCond .lt 8, 3) := by decide +kernel
theorem dX8_cubic_4 : decode cX8_cubic 4 = .ok (.iload_n 1, 1) := by decide +kernel
theorem dX8_cubic_5 : decode cX8_cubic 5 = .ok (.iconst 4, 1) := by decide +kernel
theorem dX8_cubic_6 : decode cX8_cubic 6 = .ok (.if_icmp .le 6, 3) := by decide +kernel
theorem dX8_cubic_9 : decode cX8_cubic 9 = .ok (.bipush (-2), 2) := by decide +kernel
theorem dX8_cubic_11 : decode cX8_cubic 11 = .ok (.ireturn, 1) := by decide +kernel
theorem dX8_cubic_12 : decode cX8_cubic 12 = .ok (.iload_n 1, 1) := by decide +kernel
theorem dX8_cubic_13 : decode cX8_cubic 13 = .ok (.iconst 4, 1) := by decide +kernel
theorem dX8_cubic_14 : decode cX8_cubic 14 = .ok (.if_icmp .ne 13, 3) := by decide +kernel
theorem dX8_cubic_17 : decode cX8_cubic 17 = .ok (.aload_n 0, 1) := by decide +kernel
theorem dX8_cubic_18 : decode cX8_cubic 18 = .ok (.getfield 58, 3) := by decide +kernel
theorem dX8_cubic_21 : decode cX8_cubic 21 = .ok (.invokevirtual 123, 3) := by decide +kernel
theorem dX8_cubic_24 : decode cX8_cubic 24 = .ok (.goto 11, 3) := by decide +kernel
theorem dX8_cubic_27 : decode cX8_cubic 27 = .ok (.aload_n 0, 1) := by decide +kernel
theorem dX8_cubic_28 : decode cX8_cubic 28 = .ok (.getfield 58, 3) := by decide +kernel
theorem dX8_cubic_31 : decode cX8_cubic 31 = .ok (.iload_n 1, 1) := by decide +kernel
theorem dX8_cubic_32 : decode cX8_cubic 32 = .ok (.invokevirtual 126, 3) := by decide +kernel
theorem dX8_cubic_35 : decode cX8_cubic 35 = .ok (.ireturn, 1) := by decide +kernel
set_option maxRecDepth 20000 in
theorem ggX8_good_X0_isGood : GoodIn wsX8_good wsX0_isGood := goodIn_r _ [6, 7, 8, 9, 10, 11, 5, 12, 13, 14, 15, 16, 17, 18, 19, 20, 21, 39, 40, 41, 42, 43, 44, 45, 46] (by decide +kernel) (by decide +kernel)
set_option maxRecDepth 20000 in
theorem gX8_good_X0_isGood : GoodIn wsX8_good (wsV RX8 127 RX0 yX0_isGood wsX0_isGood) := goodIn_app (goodIn_of _ (by decide +kernel)) ggX8_good_X0_isGood
theorem dX8_good_0 : decode cX8_good 0 = .ok (.aload_n 0, 1) := by decide +kernel
theorem dX8_good_1 : decode cX8_good 1 = .ok (.getfield 58, 3) := by decide +kernel
theorem dX8_good_4 : decode cX8_good 4 = .ok (.invokevirtual 127, 3) := by decide +kernel
theorem dX8_good_7 : decode cX8_good 7 = .ok (.ifCond .eq 7, 3) := by decide +kernel
theorem dX8_good_10 : decode cX8_good 10 = .ok (.iconst 1, 1) := by decide +kernel
theorem dX8_good_11 : decode cX8_good 11 = .ok (.goto 4, 3) := by decide +kernel
theorem dX8_good_14 : decode cX8_good 14 = .ok (.iconst 0, 1) := by decide +kernel
theorem dX8_good_15 : decode cX8_good 15 = .ok (.ireturn, 1) := by decide +kernel
set_option maxRecDepth 20000 in
theorem ggX8_on_X4_has : GoodIn wsX8_on wsX4_has := goodIn_r _ [10, 11, 76, 77, 78] (by decide +kernel) (by decide +kernel)
set_option maxRecDepth 20000 in
theorem gX8_on_X4_has : GoodIn wsX8_on (wsV RX8 111 RX4 yX4_has wsX4_has) := goodIn_app (goodIn_of _ (by decide +kernel)) ggX8_on_X4_has
set_option maxRecDepth 20000 in
theorem ggX8_on_X8_areNumbers : GoodIn wsX8_on wsX8_areNumbers := goodIn_r _ [16, 1, 6, 7, 8, 9, 10, 11, 59, 60, 61, 62, 63, 64, 65, 66, 67, 68, 69, 70, 71, 72, 73, 74, 75, 76, 77, 78] (by decide +kernel) (by decide +kernel)
set_option maxRecDepth 20000 in
theorem gX8_on_X8_areNumbers : GoodIn wsX8_on (wsV RX8 97 RX8 yX8_areNumbers wsX8_areNumbers) := goodIn_app (goodIn_of _ (by decide +kernel)) ggX8_on_X8_areNumbers
set_option maxRecDepth 20000 in
theorem ggX8_on_X2_takeMix : GoodIn wsX8_on wsX2_takeMix := goodIn_r _ [21, 22, 23, 24, 25, 26, 27, 28, 29, 30, 20, 31, 32, 33, 34, 35, 9, 36, 11, 79, 80, 81, 82, 83, 84, 85, 76, 77, 78] (by decide +kernel) (by decide +kernel)
set_option maxRecDepth 20000 in
theorem gX8_on_X2_takeMix : GoodIn wsX8_on (wsV RX8 131 RX2 yX2_takeMix wsX2_takeMix) := goodIn_app (goodIn_of _ (by decide +kernel)) ggX8_on_X2_takeMix
set_option maxRecDepth 20000 in
theorem ggX8_on_X7_take : GoodIn wsX8_on wsX7_take := goodIn_r _ [41, 42, 43, 44, 45, 46, 34, 35, 9, 36, 11, 86, 87, 88, 89, 76, 77, 78] (by decide +kernel) (by decide +kernel)
set_option maxRecDepth 20000 in
theorem gX8_on_X7_take : GoodIn wsX8_on (wsV RX8 135 RX7 yX7_take wsX7_take) := goodIn_app (goodIn_of _ (by decide +kernel)) ggX8_on_X7_take
set_option maxRecDepth 20000 in
theorem ggX8_on_X2_at : GoodIn wsX8_on wsX2_at := goodIn_r _ [50, 51, 52, 53, 20, 54, 32, 55, 56, 57, 58, 22, 27, 26, 23, 25, 24, 33, 34, 35, 9, 36, 11, 79, 80, 81, 82, 83, 84, 85, 86, 87, 88, 89, 76, 77, 78] (by decide +kernel) (by decide +kernel)
set_option maxRecDepth 20000 in
theorem gX8_on_X2_at : GoodIn wsX8_on (wsV RX8 138 RX2 yX2_at wsX2_at) := goodIn_app (goodIn_of _ (by decide +kernel)) ggX8_on_X2_at
theorem dX8_on_0 : decode cX8_on 0 = .ok (.aload_n 0, 1) := by decide +kernel
theorem dX8_on_1 : decode cX8_on 1 = .ok (.getfield 14, 3) := by decide +kernel
theorem dX8_on_4 : decode cX8_on 4 = .ok (.iload_n 1, 1) := by decide +kernel
theorem dX8_on_5 : decode cX8_on 5 = .ok (.invokevirtual 111, 3) := by decide +kernel
theorem dX8_on_8 : decode cX8_on 8 = .ok (.ifCond .eq 26, 3) := by decide +kernel
theorem dX8_on_11 : decode cX8_on 11 = .ok (.aload_n 0, 1) := by decide +kernel
theorem dX8_on_12 : decode cX8_on 12 = .ok (.getfield 14, 3) := by decide +kernel
theorem dX8_on_15 : decode cX8_on 15 = .ok (.iload_n 2, 1) := by decide +kernel
theorem dX8_on_16 : decode cX8_on 16 = .ok (.invokevirtual 111, 3) := by decide +kernel
theorem dX8_on_19 : decode cX8_on 19 = .ok (.ifCond .eq 15, 3) := by decide +kernel
theorem dX8_on_22 : decode cX8_on 22 = .ok (.aload_n 0, 1) := by decide +kernel
theorem dX8_on_23 : decode cX8_on 23 = .ok (.iload_n 3, 1) := by decide +kernel
theorem dX8_on_24 : decode cX8_on 24 = .ok (.iload 4, 2) := by decide +kernel
theorem dX8_on_26 : decode cX8_on 26 = .ok (.iload 5, 2) := by decide +kernel
theorem dX8_on_28 : decode cX8_on 28 = .ok (.invokevirtual 97, 3) := by decide +kernel
theorem dX8_on_31 : decode cX8_on 31 = .ok (.ifCond .ne 6, 3) := by decide +kernel
theorem dX8_on_34 : decode cX8_on 34 = .ok (.bipush (-2), 2) := by decide +kernel
theorem dX8_on_36 : decode cX8_on 36 = .ok (.ireturn, 1) := by decide +kernel
theorem dX8_on_37 : decode cX8_on 37 = .ok (.aload_n 0, 1) := by decide +kernel
theorem dX8_on_38 : decode cX8_on 38 = .ok (.getfield 36, 3) := by decide +kernel
theorem dX8_on_41 : decode cX8_on 41 = .ok (.iload_n 1, 1) := by decide +kernel
theorem dX8_on_42 : decode cX8_on 42 = .ok (.aload_n 0, 1) := by decide +kernel
theorem dX8_on_43 : decode cX8_on 43 = .ok (.getfield 23, 3) := by decide +kernel
theorem dX8_on_46 : decode cX8_on 46 = .ok (.iload_n 2, 1) := by decide +kernel
theorem dX8_on_47 : decode cX8_on 47 = .ok (.aload_n 0, 1) := by decide +kernel
theorem dX8_on_48 : decode cX8_on 48 = .ok (.getfield 30, 3) := by decide +kernel
theorem dX8_on_51 : decode cX8_on 51 = .ok (.invokevirtual 131, 3) := by decide +kernel
theorem dX8_on_54 : decode cX8_on 54 = .ok (.aload_n 0, 1) := by decide +kernel
theorem dX8_on_55 : decode cX8_on 55 = .ok (.getfield 45, 3) := by decide +kernel
theorem dX8_on_58 : decode cX8_on 58 = .ok (.iload_n 3, 1) := by decide +kernel
theorem dX8_on_59 : decode cX8_on 59 = .ok (.iload 4, 2) := by decide +kernel
theorem dX8_on_61 : decode cX8_on 61 = .ok (.iload 5, 2) := by decide +kernel
theorem dX8_on_63 : decode cX8_on 63 = .ok (.invokevirtual 135, 3) := by decide +kernel
theorem dX8_on_66 : decode cX8_on 66 = .ok (.aload_n 0, 1) := by decide +kernel
theorem dX8_on_67 : decode cX8_on 67 = .ok (.getfield 36, 3) := by decide +kernel
theorem dX8_on_70 : decode cX8_on 70 = .ok (.aload_n 0, 1) := by decide +kernel
theorem dX8_on_71 : decode cX8_on 71 = .ok (.getfield 45, 3) := by decide +kernel
theorem dX8_on_74 : decode cX8_on 74 = .ok (.invokevirtual 138, 3) := by decide +kernel
theorem dX8_on_77 : decode cX8_on 77 = .ok (.ireturn, 1) := by decide +kernel
set_option maxRecDepth 20000 in
theorem ggX8_touches_X4_has : GoodIn wsX8_touches wsX4_has := goodIn_r _ [8, 9, 85, 86, 87] (by decide +kernel) (by decide +kernel)
set_option maxRecDepth 20000 in
theorem gX8_touches_X4_has : GoodIn wsX8_touches (wsV RX8 111 RX4 yX4_has wsX4_has) := goodIn_app (goodIn_of _ (by decide +kernel)) ggX8_touches_X4_has
set_option maxRecDepth 20000 in
theorem ggX8_touches_X8_areNumbers : GoodIn wsX8_touches wsX8_areNumbers := goodIn_r _ [14, 1, 4, 5, 6, 7, 8, 9, 68, 69, 70, 71, 72, 73, 74, 75, 76, 77, 78, 79, 80, 81, 82, 83, 84, 85, 86, 87] (by decide +kernel) (by decide +kernel)
set_option maxRecDepth 20000 in
theorem gX8_touches_X8_areNumbers : GoodIn wsX8_touches (wsV RX8 97 RX8 yX8_areNumbers wsX8_areNumbers) := goodIn_app (goodIn_of _ (by decide +kernel)) ggX8_touches_X8_areNumbers
set_option maxRecDepth 20000 in
theorem ggX8_touches_X8_mixTouching : GoodIn wsX8_touches wsX8_mixTouching := goodIn_r _ [18, 19, 20, 21, 3, 22, 23, 24, 25, 26, 27, 28, 29, 30, 31, 32, 33, 34, 35, 36, 37, 38, 39, 40, 7, 41, 9, 42, 43, 44, 45, 68, 69, 70, 71, 72, 73, 74, 75, 76, 77, 78, 79, 80, 81, 82, 83, 84, 88, 89, 90, 91, 92, 93, 94, 85, 86, 87] (by decide +kernel) (by decide +kernel)
set_option maxRecDepth 20000 in
theorem gX8_touches_X8_mixTouching : GoodIn wsX8_touches (wsV RX8 142 RX8 yX8_mixTouching wsX8_mixTouching) := goodIn_app (goodIn_of _ (by decide +kernel)) ggX8_touches_X8_mixTouching
set_option maxRecDepth 20000 in
theorem ggX8_touches_X7_take : GoodIn wsX8_touches wsX7_take := goodIn_r _ [50, 51, 52, 53, 54, 55, 39, 40, 7, 41, 9, 95, 96, 97, 98, 85, 86, 87] (by decide +kernel) (by decide +kernel)
set_option maxRecDepth 20000 in
theorem gX8_touches_X7_take : GoodIn wsX8_touches (wsV RX8 135 RX7 yX7_take wsX7_take) := goodIn_app (goodIn_of _ (by decide +kernel)) ggX8_touches_X7_take
set_option maxRecDepth 20000 in
theorem ggX8_touches_X2_at : GoodIn wsX8_touches wsX2_at := goodIn_r _ [59, 60, 61, 62, 25, 63, 37, 64, 65, 66, 67, 27, 32, 31, 28, 30, 29, 38, 39, 40, 7, 41, 9, 88, 89, 90, 91, 92, 93, 94, 95, 96, 97, 98, 85, 86, 87] (by decide +kernel) (by decide +kernel)
set_option maxRecDepth 20000 in
theorem gX8_touches_X2_at : GoodIn wsX8_touches (wsV RX8 138 RX2 yX2_at wsX2_at) := goodIn_app (goodIn_of _ (by decide +kernel)) ggX8_touches_X2_at
theorem dX8_touches_0 : decode cX8_touches 0 = .ok (.aload_n 0, 1) := by decide +kernel
theorem dX8_touches_1 : decode cX8_touches 1 = .ok (.getfield 14, 3) := by decide +kernel
theorem dX8_touches_4 : decode cX8_touches 4 = .ok (.iload_n 1, 1) := by decide +kernel
theorem dX8_touches_5 : decode cX8_touches 5 = .ok (.invokevirtual 111, 3) := by decide +kernel
theorem dX8_touches_8 : decode cX8_touches 8 = .ok (.ifCond .eq 26, 3) := by decide +kernel
theorem dX8_touches_11 : decode cX8_touches 11 = .ok (.aload_n 0, 1) := by decide +kernel
theorem dX8_touches_12 : decode cX8_touches 12 = .ok (.getfield 14, 3) := by decide +kernel
theorem dX8_touches_15 : decode cX8_touches 15 = .ok (.iload_n 2, 1) := by decide +kernel
theorem dX8_touches_16 : decode cX8_touches 16 = .ok (.invokevirtual 111, 3) := by decide +kernel
theorem dX8_touches_19 : decode cX8_touches 19 = .ok (.ifCond .eq 15, 3) := by decide +kernel
theorem dX8_touches_22 : decode cX8_touches 22 = .ok (.aload_n 0, 1) := by decide +kernel
theorem dX8_touches_23 : decode cX8_touches 23 = .ok (.iload_n 3, 1) := by decide +kernel
theorem dX8_touches_24 : decode cX8_touches 24 = .ok (.iload 4, 2) := by decide +kernel
theorem dX8_touches_26 : decode cX8_touches 26 = .ok (.iload 5, 2) := by decide +kernel
theorem dX8_touches_28 : decode cX8_touches 28 = .ok (.invokevirtual 97, 3) := by decide +kernel
theorem dX8_touches_31 : decode cX8_touches 31 = .ok (.ifCond .ne 6, 3) := by decide +kernel
theorem dX8_touches_34 : decode cX8_touches 34 = .ok (.bipush (-2), 2) := by decide +kernel
theorem dX8_touches_36 : decode cX8_touches 36 = .ok (.ireturn, 1) := by decide +kernel
theorem dX8_touches_37 : decode cX8_touches 37 = .ok (.aload_n 0, 1) := by decide +kernel
theorem dX8_touches_38 : decode cX8_touches 38 = .ok (.iload_n 1, 1) := by decide +kernel
theorem dX8_touches_39 : decode cX8_touches 39 = .ok (.iload_n 2, 1) := by decide +kernel
theorem dX8_touches_40 : decode cX8_touches 40 = .ok (.invokevirtual 142, 3) := by decide +kernel
theorem dX8_touches_43 : decode cX8_touches 43 = .ok (.aload_n 0, 1) := by decide +kernel
theorem dX8_touches_44 : decode cX8_touches 44 = .ok (.getfield 52, 3) := by decide +kernel
theorem dX8_touches_47 : decode cX8_touches 47 = .ok (.iload_n 3, 1) := by decide +kernel
theorem dX8_touches_48 : decode cX8_touches 48 = .ok (.iload 4, 2) := by decide +kernel
theorem dX8_touches_50 : decode cX8_touches 50 = .ok (.iload 5, 2) := by decide +kernel
theorem dX8_touches_52 : decode cX8_touches 52 = .ok (.invokevirtual 135, 3) := by decide +kernel
theorem dX8_touches_55 : decode cX8_touches 55 = .ok (.aload_n 0, 1) := by decide +kernel
theorem dX8_touches_56 : decode cX8_touches 56 = .ok (.getfield 39, 3) := by decide +kernel
theorem dX8_touches_59 : decode cX8_touches 59 = .ok (.aload_n 0, 1) := by decide +kernel
theorem dX8_touches_60 : decode cX8_touches 60 = .ok (.getfield 52, 3) := by decide +kernel
theorem dX8_touches_63 : decode cX8_touches 63 = .ok (.invokevirtual 138, 3) := by decide +kernel
theorem dX8_touches_66 : decode cX8_touches 66 = .ok (.ireturn, 1) := by decide +kernel
set_option maxRecDepth 20000 in
theorem ggX8_points_X8_knowWalks : GoodIn wsX8_points wsX8_knowWalks := goodIn_r _ [6, 7, 8, 1, 9, 10, 11, 12, 13, 14, 15, 16, 17, 18, 19, 20, 21, 22, 23, 24, 25, 26, 27, 28, 29, 30, 31, 32, 33, 34, 35, 36, 37, 38, 39, 40, 41, 42, 43, 44, 45, 46, 47, 48, 49, 50, 51, 52, 53, 54, 55, 56, 57, 58, 59, 60, 61, 62, 63, 64, 65, 66, 67, 68, 69, 70, 71, 72, 73, 74, 75, 76, 77, 78, 79, 80, 81, 82, 83, 84, 85, 86, 87, 88, 89, 90, 91, 92, 93, 94, 95, 96, 97, 98, 99, 100, 101, 102, 103, 104, 105, 106, 107, 108, 109, 110, 111, 112, 113, 114, 115, 116, 117, 118, 119, 120, 121, 122, 123, 124, 125, 126, 127, 128, 129, 130, 131, 132, 133, 134, 135, 136, 137, 138, 139, 140, 141, 142, 143, 144, 145, 146, 147, 148, 149, 150, 151, 152, 153, 154, 155, 156, 157, 158, 159, 160, 161, 162, 163, 164, 165, 166, 167, 168, 169, 170, 171, 172, 173, 174, 175, 176, 177, 182, 183, 184, 185, 186, 187, 188, 189, 190, 191, 192, 193, 194, 195, 196, 197, 198, 199, 200, 201, 202, 203, 204, 205, 206, 207, 208, 209, 210, 211, 212, 213, 214, 215, 216, 217, 218, 219, 220, 221, 222, 223, 224, 225, 226, 227, 228, 229, 230, 231, 232, 233, 234, 235, 236, 237, 238, 239, 240] (by decide +kernel) (by decide +kernel)
set_option maxRecDepth 20000 in
theorem gX8_points_X8_knowWalks : GoodIn wsX8_points (wsV RX8 146 RX8 yX8_knowWalks wsX8_knowWalks) := goodIn_app (goodIn_of _ (by decide +kernel)) ggX8_points_X8_knowWalks
set_option maxRecDepth 20000 in
theorem ggX8_points_X5_countPoints : GoodIn wsX8_points wsX5_countPoints := goodIn_r _ [181, 36, 207, 208, 209, 210, 211, 212, 213, 214, 215, 216, 217, 218, 219, 220, 221, 222] (by decide +kernel) (by decide +kernel)
set_option maxRecDepth 20000 in
theorem gX8_points_X5_countPoints : GoodIn wsX8_points (wsV RX8 149 RX5 yX5_countPoints wsX5_countPoints) := goodIn_app (goodIn_of _ (by decide +kernel)) ggX8_points_X5_countPoints
theorem dX8_points_0 : decode cX8_points 0 = .ok (.aload_n 0, 1) := by decide +kernel
theorem dX8_points_1 : decode cX8_points 1 = .ok (.invokevirtual 146, 3) := by decide +kernel
theorem dX8_points_4 : decode cX8_points 4 = .ok (.ifCond .eq 13, 3) := by decide +kernel
theorem dX8_points_7 : decode cX8_points 7 = .ok (.aload_n 0, 1) := by decide +kernel
theorem dX8_points_8 : decode cX8_points 8 = .ok (.getfield 65, 3) := by decide +kernel
theorem dX8_points_11 : decode cX8_points 11 = .ok (.invokevirtual 149, 3) := by decide +kernel
theorem dX8_points_14 : decode cX8_points 14 = .ok (.goto 5, 3) := by decide +kernel
theorem dX8_points_17 : decode cX8_points 17 = .ok (.bipush (-5), 2) := by decide +kernel
theorem dX8_points_19 : decode cX8_points 19 = .ok (.ireturn, 1) := by decide +kernel
set_option maxRecDepth 20000 in
theorem ggX8_point_X8_knowWalks : GoodIn wsX8_point wsX8_knowWalks := goodIn_r _ [7, 8, 9, 1, 10, 11, 12, 13, 14, 15, 16, 17, 18, 19, 20, 21, 22, 23, 24, 25, 26, 27, 28, 29, 30, 31, 32, 33, 34, 35, 36, 37, 38, 39, 40, 41, 42, 43, 44, 45, 46, 47, 48, 49, 50, 51, 52, 53, 54, 55, 56, 57, 58, 59, 60, 61, 62, 63, 64, 65, 66, 67, 68, 69, 70, 71, 72, 73, 74, 75, 76, 77, 78, 79, 80, 81, 82, 83, 84, 85, 86, 87, 88, 89, 90, 91, 92, 93, 94, 95, 96, 97, 98, 99, 100, 101, 102, 103, 104, 105, 106, 107, 108, 109, 110, 111, 112, 113, 114, 115, 116, 117, 118, 119, 120, 121, 122, 123, 124, 125, 126, 127, 128, 129, 130, 131, 132, 133, 134, 135, 136, 137, 138, 139, 140, 141, 142, 143, 144, 145, 146, 147, 148, 149, 150, 151, 152, 153, 154, 155, 156, 157, 158, 159, 160, 161, 162, 163, 164, 165, 166, 167, 168, 169, 170, 171, 172, 173, 174, 175, 176, 177, 178, 193, 194, 195, 196, 197, 198, 199, 200, 201, 202, 203, 204, 205, 206, 207, 208, 209, 210, 211, 212, 213, 214, 215, 216, 217, 218, 219, 220, 221, 222, 223, 224, 225, 226, 227, 228, 229, 230, 231, 232, 233, 234, 235, 236, 237, 238, 239, 240, 241, 242, 243, 244, 245, 246, 247, 248, 249, 250, 251] (by decide +kernel) (by decide +kernel)
set_option maxRecDepth 20000 in
theorem gX8_point_X8_knowWalks : GoodIn wsX8_point (wsV RX8 146 RX8 yX8_knowWalks wsX8_knowWalks) := goodIn_app (goodIn_of _ (by decide +kernel)) ggX8_point_X8_knowWalks
set_option maxRecDepth 20000 in
theorem ggX8_point_X5_hasPoint : GoodIn wsX8_point wsX5_hasPoint := goodIn_r _ [165, 37, 218, 219, 220, 221, 222, 223, 224, 225, 226, 227, 228, 229, 230, 231, 232, 233] (by decide +kernel) (by decide +kernel)
set_option maxRecDepth 20000 in
theorem gX8_point_X5_hasPoint : GoodIn wsX8_point (wsV RX8 152 RX5 yX5_hasPoint wsX5_hasPoint) := goodIn_app (goodIn_of _ (by decide +kernel)) ggX8_point_X5_hasPoint
set_option maxRecDepth 20000 in
theorem ggX8_point_X5_countFlagsAt : GoodIn wsX8_point wsX5_countFlagsAt := goodIn_r _ [183, 141, 162, 163, 164, 35, 165, 37, 218, 219, 220, 221, 222, 223, 224, 225, 226, 227, 228, 229, 230, 231, 232, 233] (by decide +kernel) (by decide +kernel)
set_option maxRecDepth 20000 in
theorem gX8_point_X5_countFlagsAt : GoodIn wsX8_point (wsV RX8 155 RX5 yX5_countFlagsAt wsX5_countFlagsAt) := goodIn_app (goodIn_of _ (by decide +kernel)) ggX8_point_X5_countFlagsAt
set_option maxRecDepth 20000 in
theorem ggX8_point_X5_pointKey : GoodIn wsX8_point wsX5_pointKey := goodIn_r _ [187, 127, 162, 163, 164, 35, 165, 37, 218, 219, 220, 221, 222, 223, 224, 225, 226, 227, 228, 229, 230, 231, 232, 233] (by decide +kernel) (by decide +kernel)
set_option maxRecDepth 20000 in
theorem gX8_point_X5_pointKey : GoodIn wsX8_point (wsV RX8 158 RX5 yX5_pointKey wsX5_pointKey) := goodIn_app (goodIn_of _ (by decide +kernel)) ggX8_point_X5_pointKey
set_option maxRecDepth 20000 in
theorem ggX8_point_X7_takeKey : GoodIn wsX8_point wsX7_takeKey := goodIn_r _ [82, 50, 53, 52, 51, 59, 42, 43, 29, 44, 31, 234, 235, 236, 237, 215, 216, 217] (by decide +kernel) (by decide +kernel)
set_option maxRecDepth 20000 in
theorem gX8_point_X7_takeKey : GoodIn wsX8_point (wsV RX8 161 RX7 yX7_takeKey wsX7_takeKey) := goodIn_app (goodIn_of _ (by decide +kernel)) ggX8_point_X7_takeKey
set_option maxRecDepth 20000 in
theorem ggX8_point_X7_part : GoodIn wsX8_point wsX7_part := goodIn_r _ [192, 51, 52, 53, 234, 235, 236, 237] (by decide +kernel) (by decide +kernel)
set_option maxRecDepth 20000 in
theorem gX8_point_X7_part : GoodIn wsX8_point (wsV RX8 164 RX7 yX7_part wsX7_part) := goodIn_app (goodIn_of _ (by decide +kernel)) ggX8_point_X7_part
theorem dX8_point_0 : decode cX8_point 0 = .ok (.aload_n 0, 1) := by decide +kernel
theorem dX8_point_1 : decode cX8_point 1 = .ok (.invokevirtual 146, 3) := by decide +kernel
theorem dX8_point_4 : decode cX8_point 4 = .ok (.ifCond .ne 6, 3) := by decide +kernel
theorem dX8_point_7 : decode cX8_point 7 = .ok (.bipush (-5), 2) := by decide +kernel
theorem dX8_point_9 : decode cX8_point 9 = .ok (.ireturn, 1) := by decide +kernel
theorem dX8_point_10 : decode cX8_point 10 = .ok (.aload_n 0, 1) := by decide +kernel
theorem dX8_point_11 : decode cX8_point 11 = .ok (.getfield 65, 3) := by decide +kernel
theorem dX8_point_14 : decode cX8_point 14 = .ok (.iload_n 1, 1) := by decide +kernel
theorem dX8_point_15 : decode cX8_point 15 = .ok (.invokevirtual 152, 3) := by decide +kernel
theorem dX8_point_18 : decode cX8_point 18 = .ok (.ifCond .ne 5, 3) := by decide +kernel
theorem dX8_point_21 : decode cX8_point 21 = .ok (.iconst (-1), 1) := by decide +kernel
theorem dX8_point_22 : decode cX8_point 22 = .ok (.ireturn, 1) := by decide +kernel
theorem dX8_point_23 : decode cX8_point 23 = .ok (.iload_n 2, 1) := by decide +kernel
theorem dX8_point_24 : decode cX8_point 24 = .ok (.ifCond .lt 8, 3) := by decide +kernel
theorem dX8_point_27 : decode cX8_point 27 = .ok (.iload_n 2, 1) := by decide +kernel
theorem dX8_point_28 : decode cX8_point 28 = .ok (.iconst 3, 1) := by decide +kernel
theorem dX8_point_29 : decode cX8_point 29 = .ok (.if_icmp .le 6, 3) := by decide +kernel
theorem dX8_point_32 : decode cX8_point 32 = .ok (.bipush (-2), 2) := by decide +kernel
theorem dX8_point_34 : decode cX8_point 34 = .ok (.ireturn, 1) := by decide +kernel
theorem dX8_point_35 : decode cX8_point 35 = .ok (.iload_n 2, 1) := by decide +kernel
theorem dX8_point_36 : decode cX8_point 36 = .ok (.iconst 3, 1) := by decide +kernel
theorem dX8_point_37 : decode cX8_point 37 = .ok (.if_icmp .ne 12, 3) := by decide +kernel
theorem dX8_point_40 : decode cX8_point 40 = .ok (.aload_n 0, 1) := by decide +kernel
theorem dX8_point_41 : decode cX8_point 41 = .ok (.getfield 65, 3) := by decide +kernel
theorem dX8_point_44 : decode cX8_point 44 = .ok (.iload_n 1, 1) := by decide +kernel
theorem dX8_point_45 : decode cX8_point 45 = .ok (.invokevirtual 155, 3) := by decide +kernel
theorem dX8_point_48 : decode cX8_point 48 = .ok (.ireturn, 1) := by decide +kernel
theorem dX8_point_49 : decode cX8_point 49 = .ok (.aload_n 0, 1) := by decide +kernel
theorem dX8_point_50 : decode cX8_point 50 = .ok (.getfield 45, 3) := by decide +kernel
theorem dX8_point_53 : decode cX8_point 53 = .ok (.aload_n 0, 1) := by decide +kernel
theorem dX8_point_54 : decode cX8_point 54 = .ok (.getfield 65, 3) := by decide +kernel
theorem dX8_point_57 : decode cX8_point 57 = .ok (.iload_n 1, 1) := by decide +kernel
theorem dX8_point_58 : decode cX8_point 58 = .ok (.invokevirtual 158, 3) := by decide +kernel
theorem dX8_point_61 : decode cX8_point 61 = .ok (.invokevirtual 161, 3) := by decide +kernel
theorem dX8_point_64 : decode cX8_point 64 = .ok (.aload_n 0, 1) := by decide +kernel
theorem dX8_point_65 : decode cX8_point 65 = .ok (.getfield 45, 3) := by decide +kernel
theorem dX8_point_68 : decode cX8_point 68 = .ok (.iload_n 2, 1) := by decide +kernel
theorem dX8_point_69 : decode cX8_point 69 = .ok (.invokevirtual 164, 3) := by decide +kernel
theorem dX8_point_72 : decode cX8_point 72 = .ok (.ireturn, 1) := by decide +kernel
set_option maxRecDepth 20000 in
theorem ggX8_flags_X8_knowWalks : GoodIn wsX8_flags wsX8_knowWalks := goodIn_r _ [6, 7, 8, 1, 9, 10, 11, 12, 13, 14, 15, 16, 17, 18, 19, 20, 21, 22, 23, 24, 25, 26, 27, 28, 29, 30, 31, 32, 33, 34, 35, 36, 37, 38, 39, 40, 41, 42, 43, 44, 45, 46, 47, 48, 49, 50, 51, 52, 53, 54, 55, 56, 57, 58, 59, 60, 61, 62, 63, 64, 65, 66, 67, 68, 69, 70, 71, 72, 73, 74, 75, 76, 77, 78, 79, 80, 81, 82, 83, 84, 85, 86, 87, 88, 89, 90, 91, 92, 93, 94, 95, 96, 97, 98, 99, 100, 101, 102, 103, 104, 105, 106, 107, 108, 109, 110, 111, 112, 113, 114, 115, 116, 117, 118, 119, 120, 121, 122, 123, 124, 125, 126, 127, 128, 129, 130, 131, 132, 133, 134, 135, 136, 137, 138, 139, 140, 141, 142, 143, 144, 145, 146, 147, 148, 149, 150, 151, 152, 153, 154, 155, 156, 157, 158, 159, 160, 161, 162, 163, 164, 165, 166, 167, 168, 169, 170, 171, 172, 173, 174, 175, 176, 177, 182, 183, 184, 185, 186, 187, 188, 189, 190, 191, 192, 193, 194, 195, 196, 197, 198, 199, 200, 201, 202, 203, 204, 205, 206, 207, 208, 209, 210, 211, 212, 213, 214, 215, 216, 217, 218, 219, 220, 221, 222, 223, 224, 225, 226, 227, 228, 229, 230, 231, 232, 233, 234, 235, 236, 237, 238, 239, 240] (by decide +kernel) (by decide +kernel)
set_option maxRecDepth 20000 in
theorem gX8_flags_X8_knowWalks : GoodIn wsX8_flags (wsV RX8 146 RX8 yX8_knowWalks wsX8_knowWalks) := goodIn_app (goodIn_of _ (by decide +kernel)) ggX8_flags_X8_knowWalks
set_option maxRecDepth 20000 in
theorem ggX8_flags_X5_countFlags : GoodIn wsX8_flags wsX5_countFlags := goodIn_r _ [181, 139, 207, 208, 209, 210, 211, 212, 213, 214, 215, 216, 217, 218, 219, 220, 221, 222] (by decide +kernel) (by decide +kernel)
set_option maxRecDepth 20000 in
theorem gX8_flags_X5_countFlags : GoodIn wsX8_flags (wsV RX8 165 RX5 yX5_countFlags wsX5_countFlags) := goodIn_app (goodIn_of _ (by decide +kernel)) ggX8_flags_X5_countFlags
theorem dX8_flags_0 : decode cX8_flags 0 = .ok (.aload_n 0, 1) := by decide +kernel
theorem dX8_flags_1 : decode cX8_flags 1 = .ok (.invokevirtual 146, 3) := by decide +kernel
theorem dX8_flags_4 : decode cX8_flags 4 = .ok (.ifCond .eq 13, 3) := by decide +kernel
theorem dX8_flags_7 : decode cX8_flags 7 = .ok (.aload_n 0, 1) := by decide +kernel
theorem dX8_flags_8 : decode cX8_flags 8 = .ok (.getfield 65, 3) := by decide +kernel
theorem dX8_flags_11 : decode cX8_flags 11 = .ok (.invokevirtual 165, 3) := by decide +kernel
theorem dX8_flags_14 : decode cX8_flags 14 = .ok (.goto 5, 3) := by decide +kernel
theorem dX8_flags_17 : decode cX8_flags 17 = .ok (.bipush (-5), 2) := by decide +kernel
theorem dX8_flags_19 : decode cX8_flags 19 = .ok (.ireturn, 1) := by decide +kernel
set_option maxRecDepth 20000 in
theorem ggX8_flag_X8_knowWalks : GoodIn wsX8_flag wsX8_knowWalks := goodIn_r _ [7, 8, 9, 1, 10, 11, 12, 13, 14, 15, 16, 17, 18, 19, 20, 21, 22, 23, 24, 25, 26, 27, 28, 29, 30, 31, 32, 33, 34, 35, 36, 37, 38, 39, 40, 41, 42, 43, 44, 45, 46, 47, 48, 49, 50, 51, 52, 53, 54, 55, 56, 57, 58, 59, 60, 61, 62, 63, 64, 65, 66, 67, 68, 69, 70, 71, 72, 73, 74, 75, 76, 77, 78, 79, 80, 81, 82, 83, 84, 85, 86, 87, 88, 89, 90, 91, 92, 93, 94, 95, 96, 97, 98, 99, 100, 101, 102, 103, 104, 105, 106, 107, 108, 109, 110, 111, 112, 113, 114, 115, 116, 117, 118, 119, 120, 121, 122, 123, 124, 125, 126, 127, 128, 129, 130, 131, 132, 133, 134, 135, 136, 137, 138, 139, 140, 141, 142, 143, 144, 145, 146, 147, 148, 149, 150, 151, 152, 153, 154, 155, 156, 157, 158, 159, 160, 161, 162, 163, 164, 165, 166, 167, 168, 169, 170, 171, 172, 173, 174, 175, 176, 177, 178, 205, 206, 207, 208, 209, 210, 211, 212, 213, 214, 215, 216, 217, 218, 219, 220, 221, 222, 223, 224, 225, 226, 227, 228, 229, 230, 231, 232, 233, 234, 235, 236, 237, 238, 239, 240, 241, 242, 243, 244, 245, 246, 247, 248, 249, 250, 251, 252, 253, 254, 255, 256, 257, 258, 259, 260, 261, 262, 263] (by decide +kernel) (by decide +kernel)
set_option maxRecDepth 20000 in
theorem gX8_flag_X8_knowWalks : GoodIn wsX8_flag (wsV RX8 146 RX8 yX8_knowWalks wsX8_knowWalks) := goodIn_app (goodIn_of _ (by decide +kernel)) ggX8_flag_X8_knowWalks
set_option maxRecDepth 20000 in
theorem ggX8_flag_X5_hasFlag : GoodIn wsX8_flag wsX5_hasFlag := goodIn_r _ [182, 140, 230, 231, 232, 233, 234, 235, 236, 237, 238, 239, 240, 241, 242, 243, 244, 245] (by decide +kernel) (by decide +kernel)
set_option maxRecDepth 20000 in
theorem gX8_flag_X5_hasFlag : GoodIn wsX8_flag (wsV RX8 168 RX5 yX5_hasFlag wsX5_hasFlag) := goodIn_app (goodIn_of _ (by decide +kernel)) ggX8_flag_X5_hasFlag
set_option maxRecDepth 20000 in
theorem ggX8_flag_X5_pointOf : GoodIn wsX8_flag wsX5_pointOf := goodIn_r _ [186, 142, 187, 180, 181, 35, 182, 140, 230, 231, 232, 233, 234, 235, 236, 237, 238, 239, 240, 241, 242, 243, 244, 245] (by decide +kernel) (by decide +kernel)
set_option maxRecDepth 20000 in
theorem gX8_flag_X5_pointOf : GoodIn wsX8_flag (wsV RX8 171 RX5 yX5_pointOf wsX5_pointOf) := goodIn_app (goodIn_of _ (by decide +kernel)) ggX8_flag_X5_pointOf
set_option maxRecDepth 20000 in
theorem ggX8_flag_X5_nextOf : GoodIn wsX8_flag wsX5_nextOf := goodIn_r _ [191, 148, 187, 180, 181, 35, 182, 140, 230, 231, 232, 233, 234, 235, 236, 237, 238, 239, 240, 241, 242, 243, 244, 245] (by decide +kernel) (by decide +kernel)
set_option maxRecDepth 20000 in
theorem gX8_flag_X5_nextOf : GoodIn wsX8_flag (wsV RX8 174 RX5 yX5_nextOf wsX5_nextOf) := goodIn_app (goodIn_of _ (by decide +kernel)) ggX8_flag_X5_nextOf
set_option maxRecDepth 20000 in
theorem ggX8_flag_X5_beforeOf : GoodIn wsX8_flag wsX5_beforeOf := goodIn_r _ [195, 149, 187, 180, 181, 35, 182, 140, 230, 231, 232, 233, 234, 235, 236, 237, 238, 239, 240, 241, 242, 243, 244, 245] (by decide +kernel) (by decide +kernel)
set_option maxRecDepth 20000 in
theorem gX8_flag_X5_beforeOf : GoodIn wsX8_flag (wsV RX8 177 RX5 yX5_beforeOf wsX5_beforeOf) := goodIn_app (goodIn_of _ (by decide +kernel)) ggX8_flag_X5_beforeOf
set_option maxRecDepth 20000 in
theorem ggX8_flag_X5_lineKey : GoodIn wsX8_flag wsX5_lineKey := goodIn_r _ [199, 143, 187, 180, 181, 35, 182, 140, 230, 231, 232, 233, 234, 235, 236, 237, 238, 239, 240, 241, 242, 243, 244, 245] (by decide +kernel) (by decide +kernel)
set_option maxRecDepth 20000 in
theorem gX8_flag_X5_lineKey : GoodIn wsX8_flag (wsV RX8 180 RX5 yX5_lineKey wsX5_lineKey) := goodIn_app (goodIn_of _ (by decide +kernel)) ggX8_flag_X5_lineKey
set_option maxRecDepth 20000 in
theorem ggX8_flag_X7_takeKey : GoodIn wsX8_flag wsX7_takeKey := goodIn_r _ [82, 50, 53, 52, 51, 59, 42, 43, 29, 44, 31, 246, 247, 248, 249, 227, 228, 229] (by decide +kernel) (by decide +kernel)
set_option maxRecDepth 20000 in
theorem gX8_flag_X7_takeKey : GoodIn wsX8_flag (wsV RX8 161 RX7 yX7_takeKey wsX7_takeKey) := goodIn_app (goodIn_of _ (by decide +kernel)) ggX8_flag_X7_takeKey
set_option maxRecDepth 20000 in
theorem ggX8_flag_X7_part : GoodIn wsX8_flag wsX7_part := goodIn_r _ [204, 51, 52, 53, 246, 247, 248, 249] (by decide +kernel) (by decide +kernel)
set_option maxRecDepth 20000 in
theorem gX8_flag_X7_part : GoodIn wsX8_flag (wsV RX8 164 RX7 yX7_part wsX7_part) := goodIn_app (goodIn_of _ (by decide +kernel)) ggX8_flag_X7_part
theorem dX8_flag_0 : decode cX8_flag 0 = .ok (.aload_n 0, 1) := by decide +kernel
theorem dX8_flag_1 : decode cX8_flag 1 = .ok (.invokevirtual 146, 3) := by decide +kernel
theorem dX8_flag_4 : decode cX8_flag 4 = .ok (.ifCond .ne 6, 3) := by decide +kernel
theorem dX8_flag_7 : decode cX8_flag 7 = .ok (.bipush (-5), 2) := by decide +kernel
theorem dX8_flag_9 : decode cX8_flag 9 = .ok (.ireturn, 1) := by decide +kernel
theorem dX8_flag_10 : decode cX8_flag 10 = .ok (.aload_n 0, 1) := by decide +kernel
theorem dX8_flag_11 : decode cX8_flag 11 = .ok (.getfield 65, 3) := by decide +kernel
theorem dX8_flag_14 : decode cX8_flag 14 = .ok (.iload_n 1, 1) := by decide +kernel
theorem dX8_flag_15 : decode cX8_flag 15 = .ok (.invokevirtual 168, 3) := by decide +kernel
theorem dX8_flag_18 : decode cX8_flag 18 = .ok (.ifCond .ne 5, 3) := by decide +kernel
theorem dX8_flag_21 : decode cX8_flag 21 = .ok (.iconst (-1), 1) := by decide +kernel
theorem dX8_flag_22 : decode cX8_flag 22 = .ok (.ireturn, 1) := by decide +kernel
theorem dX8_flag_23 : decode cX8_flag 23 = .ok (.iload_n 2, 1) := by decide +kernel
theorem dX8_flag_24 : decode cX8_flag 24 = .ok (.ifCond .lt 8, 3) := by decide +kernel
theorem dX8_flag_27 : decode cX8_flag 27 = .ok (.iload_n 2, 1) := by decide +kernel
theorem dX8_flag_28 : decode cX8_flag 28 = .ok (.iconst 5, 1) := by decide +kernel
theorem dX8_flag_29 : decode cX8_flag 29 = .ok (.if_icmp .le 6, 3) := by decide +kernel
theorem dX8_flag_32 : decode cX8_flag 32 = .ok (.bipush (-2), 2) := by decide +kernel
theorem dX8_flag_34 : decode cX8_flag 34 = .ok (.ireturn, 1) := by decide +kernel
theorem dX8_flag_35 : decode cX8_flag 35 = .ok (.iload_n 2, 1) := by decide +kernel
theorem dX8_flag_36 : decode cX8_flag 36 = .ok (.ifCond .ne 12, 3) := by decide +kernel
theorem dX8_flag_39 : decode cX8_flag 39 = .ok (.aload_n 0, 1) := by decide +kernel
theorem dX8_flag_40 : decode cX8_flag 40 = .ok (.getfield 65, 3) := by decide +kernel
theorem dX8_flag_43 : decode cX8_flag 43 = .ok (.iload_n 1, 1) := by decide +kernel
theorem dX8_flag_44 : decode cX8_flag 44 = .ok (.invokevirtual 171, 3) := by decide +kernel
theorem dX8_flag_47 : decode cX8_flag 47 = .ok (.ireturn, 1) := by decide +kernel
theorem dX8_flag_48 : decode cX8_flag 48 = .ok (.iload_n 2, 1) := by decide +kernel
theorem dX8_flag_49 : decode cX8_flag 49 = .ok (.iconst 4, 1) := by decide +kernel
theorem dX8_flag_50 : decode cX8_flag 50 = .ok (.if_icmp .ne 12, 3) := by decide +kernel
theorem dX8_flag_53 : decode cX8_flag 53 = .ok (.aload_n 0, 1) := by decide +kernel
theorem dX8_flag_54 : decode cX8_flag 54 = .ok (.getfield 65, 3) := by decide +kernel
theorem dX8_flag_57 : decode cX8_flag 57 = .ok (.iload_n 1, 1) := by decide +kernel
theorem dX8_flag_58 : decode cX8_flag 58 = .ok (.invokevirtual 174, 3) := by decide +kernel
theorem dX8_flag_61 : decode cX8_flag 61 = .ok (.ireturn, 1) := by decide +kernel
theorem dX8_flag_62 : decode cX8_flag 62 = .ok (.iload_n 2, 1) := by decide +kernel
theorem dX8_flag_63 : decode cX8_flag 63 = .ok (.iconst 5, 1) := by decide +kernel
theorem dX8_flag_64 : decode cX8_flag 64 = .ok (.if_icmp .ne 12, 3) := by decide +kernel
theorem dX8_flag_67 : decode cX8_flag 67 = .ok (.aload_n 0, 1) := by decide +kernel
theorem dX8_flag_68 : decode cX8_flag 68 = .ok (.getfield 65, 3) := by decide +kernel
theorem dX8_flag_71 : decode cX8_flag 71 = .ok (.iload_n 1, 1) := by decide +kernel
theorem dX8_flag_72 : decode cX8_flag 72 = .ok (.invokevirtual 177, 3) := by decide +kernel
theorem dX8_flag_75 : decode cX8_flag 75 = .ok (.ireturn, 1) := by decide +kernel
theorem dX8_flag_76 : decode cX8_flag 76 = .ok (.aload_n 0, 1) := by decide +kernel
theorem dX8_flag_77 : decode cX8_flag 77 = .ok (.getfield 52, 3) := by decide +kernel
theorem dX8_flag_80 : decode cX8_flag 80 = .ok (.aload_n 0, 1) := by decide +kernel
theorem dX8_flag_81 : decode cX8_flag 81 = .ok (.getfield 65, 3) := by decide +kernel
theorem dX8_flag_84 : decode cX8_flag 84 = .ok (.iload_n 1, 1) := by decide +kernel
theorem dX8_flag_85 : decode cX8_flag 85 = .ok (.invokevirtual 180, 3) := by decide +kernel
theorem dX8_flag_88 : decode cX8_flag 88 = .ok (.invokevirtual 161, 3) := by decide +kernel
theorem dX8_flag_91 : decode cX8_flag 91 = .ok (.aload_n 0, 1) := by decide +kernel
theorem dX8_flag_92 : decode cX8_flag 92 = .ok (.getfield 52, 3) := by decide +kernel
theorem dX8_flag_95 : decode cX8_flag 95 = .ok (.iload_n 2, 1) := by decide +kernel
theorem dX8_flag_96 : decode cX8_flag 96 = .ok (.iconst 1, 1) := by decide +kernel
theorem dX8_flag_97 : decode cX8_flag 97 = .ok (.isub, 1) := by decide +kernel
theorem dX8_flag_98 : decode cX8_flag 98 = .ok (.invokevirtual 164, 3) := by decide +kernel
theorem dX8_flag_101 : decode cX8_flag 101 = .ok (.ireturn, 1) := by decide +kernel
set_option maxRecDepth 20000 in
theorem ggX8_go_X8_knowWalks : GoodIn wsX8_go wsX8_knowWalks := goodIn_r _ [7, 8, 9, 1, 10, 11, 12, 13, 14, 15, 16, 17, 18, 19, 20, 21, 22, 23, 24, 25, 26, 27, 28, 29, 30, 31, 32, 33, 34, 35, 36, 37, 38, 39, 40, 41, 42, 43, 44, 45, 46, 47, 48, 49, 50, 51, 52, 53, 54, 55, 56, 57, 58, 59, 60, 61, 62, 63, 64, 65, 66, 67, 68, 69, 70, 71, 72, 73, 74, 75, 76, 77, 78, 79, 80, 81, 82, 83, 84, 85, 86, 87, 88, 89, 90, 91, 92, 93, 94, 95, 96, 97, 98, 99, 100, 101, 102, 103, 104, 105, 106, 107, 108, 109, 110, 111, 112, 113, 114, 115, 116, 117, 118, 119, 120, 121, 122, 123, 124, 125, 126, 127, 128, 129, 130, 131, 132, 133, 134, 135, 136, 137, 138, 139, 140, 141, 142, 143, 144, 145, 146, 147, 148, 149, 150, 151, 152, 153, 154, 155, 156, 157, 158, 159, 160, 161, 162, 163, 164, 165, 166, 167, 168, 169, 170, 171, 172, 173, 174, 175, 176, 177, 178, 188, 189, 190, 191, 192, 193, 194, 195, 196, 197, 198, 199, 200, 201, 202, 203, 204, 205, 206, 207, 208, 209, 210, 211, 212, 213, 214, 215, 216, 217, 218, 219, 220, 221, 222, 223, 224, 225, 226, 227, 228, 229, 230, 231, 232, 233, 234, 235, 236, 237, 238, 239, 240, 241, 242, 243, 244, 245, 246] (by decide +kernel) (by decide +kernel)
set_option maxRecDepth 20000 in
theorem gX8_go_X8_knowWalks : GoodIn wsX8_go (wsV RX8 146 RX8 yX8_knowWalks wsX8_knowWalks) := goodIn_app (goodIn_of _ (by decide +kernel)) ggX8_go_X8_knowWalks
set_option maxRecDepth 20000 in
theorem ggX8_go_X5_hasFlag : GoodIn wsX8_go wsX5_hasFlag := goodIn_r _ [182, 140, 213, 214, 215, 216, 217, 218, 219, 220, 221, 222, 223, 224, 225, 226, 227, 228] (by decide +kernel) (by decide +kernel)
set_option maxRecDepth 20000 in
theorem gX8_go_X5_hasFlag : GoodIn wsX8_go (wsV RX8 168 RX5 yX5_hasFlag wsX5_hasFlag) := goodIn_app (goodIn_of _ (by decide +kernel)) ggX8_go_X5_hasFlag
set_option maxRecDepth 20000 in
theorem ggX8_go_X5_after : GoodIn wsX8_go wsX5_after := goodIn_r _ [186, 171, 178, 176, 177, 187, 180, 181, 35, 182, 140, 213, 214, 215, 216, 217, 218, 219, 220, 221, 222, 223, 224, 225, 226, 227, 228] (by decide +kernel) (by decide +kernel)
set_option maxRecDepth 20000 in
theorem gX8_go_X5_after : GoodIn wsX8_go (wsV RX8 184 RX5 yX5_after wsX5_after) := goodIn_app (goodIn_of _ (by decide +kernel)) ggX8_go_X5_after
theorem dX8_go_0 : decode cX8_go 0 = .ok (.aload_n 0, 1) := by decide +kernel
theorem dX8_go_1 : decode cX8_go 1 = .ok (.invokevirtual 146, 3) := by decide +kernel
theorem dX8_go_4 : decode cX8_go 4 = .ok (.ifCond .ne 6, 3) := by decide +kernel
theorem dX8_go_7 : decode cX8_go 7 = .ok (.bipush (-5), 2) := by decide +kernel
theorem dX8_go_9 : decode cX8_go 9 = .ok (.ireturn, 1) := by decide +kernel
theorem dX8_go_10 : decode cX8_go 10 = .ok (.aload_n 0, 1) := by decide +kernel
theorem dX8_go_11 : decode cX8_go 11 = .ok (.getfield 65, 3) := by decide +kernel
theorem dX8_go_14 : decode cX8_go 14 = .ok (.iload_n 1, 1) := by decide +kernel
theorem dX8_go_15 : decode cX8_go 15 = .ok (.invokevirtual 168, 3) := by decide +kernel
theorem dX8_go_18 : decode cX8_go 18 = .ok (.ifCond .ne 5, 3) := by decide +kernel
theorem dX8_go_21 : decode cX8_go 21 = .ok (.iconst (-1), 1) := by decide +kernel
theorem dX8_go_22 : decode cX8_go 22 = .ok (.ireturn, 1) := by decide +kernel
theorem dX8_go_23 : decode cX8_go 23 = .ok (.iload_n 2, 1) := by decide +kernel
theorem dX8_go_24 : decode cX8_go 24 = .ok (.ifCond .lt 9, 3) := by decide +kernel
theorem dX8_go_27 : decode cX8_go 27 = .ok (.iload_n 2, 1) := by decide +kernel
theorem dX8_go_28 : decode cX8_go 28 = .ok (.ldc 183, 2) := by decide +kernel
theorem dX8_go_30 : decode cX8_go 30 = .ok (.if_icmp .le 8, 3) := by decide +kernel
theorem dX8_go_33 : decode cX8_go 33 = .ok (.bipush (-2), 2) := by decide +kernel
theorem dX8_go_35 : decode cX8_go 35 = .ok (.goto 12, 3) := by decide +kernel
theorem dX8_go_38 : decode cX8_go 38 = .ok (.aload_n 0, 1) := by decide +kernel
theorem dX8_go_39 : decode cX8_go 39 = .ok (.getfield 65, 3) := by decide +kernel
theorem dX8_go_42 : decode cX8_go 42 = .ok (.iload_n 1, 1) := by decide +kernel
theorem dX8_go_43 : decode cX8_go 43 = .ok (.iload_n 2, 1) := by decide +kernel
theorem dX8_go_44 : decode cX8_go 44 = .ok (.invokevirtual 184, 3) := by decide +kernel
theorem dX8_go_47 : decode cX8_go 47 = .ok (.ireturn, 1) := by decide +kernel
set_option maxRecDepth 20000 in
theorem ggX8_ring_X8_knowWalks : GoodIn wsX8_ring wsX8_knowWalks := goodIn_r _ [6, 7, 8, 1, 9, 10, 11, 12, 13, 14, 15, 16, 17, 18, 19, 20, 21, 22, 23, 24, 25, 26, 27, 28, 29, 30, 31, 32, 33, 34, 35, 36, 37, 38, 39, 40, 41, 42, 43, 44, 45, 46, 47, 48, 49, 50, 51, 52, 53, 54, 55, 56, 57, 58, 59, 60, 61, 62, 63, 64, 65, 66, 67, 68, 69, 70, 71, 72, 73, 74, 75, 76, 77, 78, 79, 80, 81, 82, 83, 84, 85, 86, 87, 88, 89, 90, 91, 92, 93, 94, 95, 96, 97, 98, 99, 100, 101, 102, 103, 104, 105, 106, 107, 108, 109, 110, 111, 112, 113, 114, 115, 116, 117, 118, 119, 120, 121, 122, 123, 124, 125, 126, 127, 128, 129, 130, 131, 132, 133, 134, 135, 136, 137, 138, 139, 140, 141, 142, 143, 144, 145, 146, 147, 148, 149, 150, 151, 152, 153, 154, 155, 156, 157, 158, 159, 160, 161, 162, 163, 164, 165, 166, 167, 168, 169, 170, 171, 172, 173, 174, 175, 176, 177, 187, 188, 189, 190, 191, 192, 193, 194, 195, 196, 197, 198, 199, 200, 201, 202, 203, 204, 205, 206, 207, 208, 209, 210, 211, 212, 213, 214, 215, 216, 217, 218, 219, 220, 221, 222, 223, 224, 225, 226, 227, 228, 229, 230, 231, 232, 233, 234, 235, 236, 237, 238, 239, 240, 241, 242, 243, 244, 245] (by decide +kernel) (by decide +kernel)
set_option maxRecDepth 20000 in
theorem gX8_ring_X8_knowWalks : GoodIn wsX8_ring (wsV RX8 146 RX8 yX8_knowWalks wsX8_knowWalks) := goodIn_app (goodIn_of _ (by decide +kernel)) ggX8_ring_X8_knowWalks
set_option maxRecDepth 20000 in
theorem ggX8_ring_X5_hasFlag : GoodIn wsX8_ring wsX5_hasFlag := goodIn_r _ [181, 139, 212, 213, 214, 215, 216, 217, 218, 219, 220, 221, 222, 223, 224, 225, 226, 227] (by decide +kernel) (by decide +kernel)
set_option maxRecDepth 20000 in
theorem gX8_ring_X5_hasFlag : GoodIn wsX8_ring (wsV RX8 168 RX5 yX5_hasFlag wsX5_hasFlag) := goodIn_app (goodIn_of _ (by decide +kernel)) ggX8_ring_X5_hasFlag
set_option maxRecDepth 20000 in
theorem ggX8_ring_X5_ringOf : GoodIn wsX8_ring wsX5_ringOf := goodIn_r _ [185, 170, 186, 179, 180, 34, 181, 139, 212, 213, 214, 215, 216, 217, 218, 219, 220, 221, 222, 223, 224, 225, 226, 227] (by decide +kernel) (by decide +kernel)
set_option maxRecDepth 20000 in
theorem gX8_ring_X5_ringOf : GoodIn wsX8_ring (wsV RX8 188 RX5 yX5_ringOf wsX5_ringOf) := goodIn_app (goodIn_of _ (by decide +kernel)) ggX8_ring_X5_ringOf
theorem dX8_ring_0 : decode cX8_ring 0 = .ok (.aload_n 0, 1) := by decide +kernel
theorem dX8_ring_1 : decode cX8_ring 1 = .ok (.invokevirtual 146, 3) := by decide +kernel
theorem dX8_ring_4 : decode cX8_ring 4 = .ok (.ifCond .ne 6, 3) := by decide +kernel
theorem dX8_ring_7 : decode cX8_ring 7 = .ok (.bipush (-5), 2) := by decide +kernel
theorem dX8_ring_9 : decode cX8_ring 9 = .ok (.ireturn, 1) := by decide +kernel
theorem dX8_ring_10 : decode cX8_ring 10 = .ok (.aload_n 0, 1) := by decide +kernel
theorem dX8_ring_11 : decode cX8_ring 11 = .ok (.getfield 65, 3) := by decide +kernel
theorem dX8_ring_14 : decode cX8_ring 14 = .ok (.iload_n 1, 1) := by decide +kernel
theorem dX8_ring_15 : decode cX8_ring 15 = .ok (.invokevirtual 168, 3) := by decide +kernel
theorem dX8_ring_18 : decode cX8_ring 18 = .ok (.ifCond .eq 14, 3) := by decide +kernel
theorem dX8_ring_21 : decode cX8_ring 21 = .ok (.aload_n 0, 1) := by decide +kernel
theorem dX8_ring_22 : decode cX8_ring 22 = .ok (.getfield 65, 3) := by decide +kernel
theorem dX8_ring_25 : decode cX8_ring 25 = .ok (.iload_n 1, 1) := by decide +kernel
theorem dX8_ring_26 : decode cX8_ring 26 = .ok (.invokevirtual 188, 3) := by decide +kernel
theorem dX8_ring_29 : decode cX8_ring 29 = .ok (.goto 4, 3) := by decide +kernel
theorem dX8_ring_32 : decode cX8_ring 32 = .ok (.iconst (-1), 1) := by decide +kernel
theorem dX8_ring_33 : decode cX8_ring 33 = .ok (.ireturn, 1) := by decide +kernel
set_option maxRecDepth 20000 in
theorem ggX8_rings_X8_knowWalks : GoodIn wsX8_rings wsX8_knowWalks := goodIn_r _ [6, 7, 8, 1, 9, 10, 11, 12, 13, 14, 15, 16, 17, 18, 19, 20, 21, 22, 23, 24, 25, 26, 27, 28, 29, 30, 31, 32, 33, 34, 35, 36, 37, 38, 39, 40, 41, 42, 43, 44, 45, 46, 47, 48, 49, 50, 51, 52, 53, 54, 55, 56, 57, 58, 59, 60, 61, 62, 63, 64, 65, 66, 67, 68, 69, 70, 71, 72, 73, 74, 75, 76, 77, 78, 79, 80, 81, 82, 83, 84, 85, 86, 87, 88, 89, 90, 91, 92, 93, 94, 95, 96, 97, 98, 99, 100, 101, 102, 103, 104, 105, 106, 107, 108, 109, 110, 111, 112, 113, 114, 115, 116, 117, 118, 119, 120, 121, 122, 123, 124, 125, 126, 127, 128, 129, 130, 131, 132, 133, 134, 135, 136, 137, 138, 139, 140, 141, 142, 143, 144, 145, 146, 147, 148, 149, 150, 151, 152, 153, 154, 155, 156, 157, 158, 159, 160, 161, 162, 163, 164, 165, 166, 167, 168, 169, 170, 171, 172, 173, 174, 175, 176, 177, 182, 183, 184, 185, 186, 187, 188, 189, 190, 191, 192, 193, 194, 195, 196, 197, 198, 199, 200, 201, 202, 203, 204, 205, 206, 207, 208, 209, 210, 211, 212, 213, 214, 215, 216, 217, 218, 219, 220, 221, 222, 223, 224, 225, 226, 227, 228, 229, 230, 231, 232, 233, 234, 235, 236, 237, 238, 239, 240] (by decide +kernel) (by decide +kernel)
set_option maxRecDepth 20000 in
theorem gX8_rings_X8_knowWalks : GoodIn wsX8_rings (wsV RX8 146 RX8 yX8_knowWalks wsX8_knowWalks) := goodIn_app (goodIn_of _ (by decide +kernel)) ggX8_rings_X8_knowWalks
set_option maxRecDepth 20000 in
theorem ggX8_rings_X5_countRings : GoodIn wsX8_rings wsX5_countRings := goodIn_r _ [181, 169, 207, 208, 209, 210, 211, 212, 213, 214, 215, 216, 217, 218, 219, 220, 221, 222] (by decide +kernel) (by decide +kernel)
set_option maxRecDepth 20000 in
theorem gX8_rings_X5_countRings : GoodIn wsX8_rings (wsV RX8 191 RX5 yX5_countRings wsX5_countRings) := goodIn_app (goodIn_of _ (by decide +kernel)) ggX8_rings_X5_countRings
theorem dX8_rings_0 : decode cX8_rings 0 = .ok (.aload_n 0, 1) := by decide +kernel
theorem dX8_rings_1 : decode cX8_rings 1 = .ok (.invokevirtual 146, 3) := by decide +kernel
theorem dX8_rings_4 : decode cX8_rings 4 = .ok (.ifCond .eq 13, 3) := by decide +kernel
theorem dX8_rings_7 : decode cX8_rings 7 = .ok (.aload_n 0, 1) := by decide +kernel
theorem dX8_rings_8 : decode cX8_rings 8 = .ok (.getfield 65, 3) := by decide +kernel
theorem dX8_rings_11 : decode cX8_rings 11 = .ok (.invokevirtual 191, 3) := by decide +kernel
theorem dX8_rings_14 : decode cX8_rings 14 = .ok (.goto 5, 3) := by decide +kernel
theorem dX8_rings_17 : decode cX8_rings 17 = .ok (.bipush (-5), 2) := by decide +kernel
theorem dX8_rings_19 : decode cX8_rings 19 = .ok (.ireturn, 1) := by decide +kernel
set_option maxRecDepth 20000 in
theorem ggX8_series_X8_knowRow : GoodIn wsX8_series wsX8_knowRow := goodIn_r _ [6, 7, 8, 1, 9, 10, 11, 12, 13, 14, 15, 16, 17, 18, 19, 20, 21, 22, 23, 24, 25, 26, 27, 28, 29, 30, 31, 32, 33, 34, 35, 36, 37, 38, 39, 40, 41, 42, 43, 44, 45, 46, 47, 48, 49, 50, 55, 56, 57, 58, 59, 60, 61, 62, 63, 64, 65, 66, 67, 68, 69, 70, 71, 72, 73, 74, 75, 76, 77, 78, 79, 80, 81, 82] (by decide +kernel) (by decide +kernel)
set_option maxRecDepth 20000 in
theorem gX8_series_X8_knowRow : GoodIn wsX8_series (wsV RX8 194 RX8 yX8_knowRow wsX8_knowRow) := goodIn_app (goodIn_of _ (by decide +kernel)) ggX8_series_X8_knowRow
set_option maxRecDepth 20000 in
theorem ggX8_series_X6_part : GoodIn wsX8_series wsX6_part := goodIn_r _ [54, 35, 80, 81, 82] (by decide +kernel) (by decide +kernel)
set_option maxRecDepth 20000 in
theorem gX8_series_X6_part : GoodIn wsX8_series (wsV RX8 197 RX6 yX6_part wsX6_part) := goodIn_app (goodIn_of _ (by decide +kernel)) ggX8_series_X6_part
theorem dX8_series_0 : decode cX8_series 0 = .ok (.aload_n 0, 1) := by decide +kernel
theorem dX8_series_1 : decode cX8_series 1 = .ok (.invokevirtual 194, 3) := by decide +kernel
theorem dX8_series_4 : decode cX8_series 4 = .ok (.ifCond .ne 6, 3) := by decide +kernel
theorem dX8_series_7 : decode cX8_series 7 = .ok (.bipush (-5), 2) := by decide +kernel
theorem dX8_series_9 : decode cX8_series 9 = .ok (.ireturn, 1) := by decide +kernel
theorem dX8_series_10 : decode cX8_series 10 = .ok (.iload_n 1, 1) := by decide +kernel
theorem dX8_series_11 : decode cX8_series 11 = .ok (.ifCond .lt 9, 3) := by decide +kernel
theorem dX8_series_14 : decode cX8_series 14 = .ok (.iload_n 1, 1) := by decide +kernel
theorem dX8_series_15 : decode cX8_series 15 = .ok (.bipush 31, 2) := by decide +kernel
theorem dX8_series_17 : decode cX8_series 17 = .ok (.if_icmp .le 8, 3) := by decide +kernel
theorem dX8_series_20 : decode cX8_series 20 = .ok (.bipush (-2), 2) := by decide +kernel
theorem dX8_series_22 : decode cX8_series 22 = .ok (.goto 11, 3) := by decide +kernel
theorem dX8_series_25 : decode cX8_series 25 = .ok (.aload_n 0, 1) := by decide +kernel
theorem dX8_series_26 : decode cX8_series 26 = .ok (.getfield 79, 3) := by decide +kernel
theorem dX8_series_29 : decode cX8_series 29 = .ok (.iload_n 1, 1) := by decide +kernel
theorem dX8_series_30 : decode cX8_series 30 = .ok (.invokevirtual 197, 3) := by decide +kernel
theorem dX8_series_33 : decode cX8_series 33 = .ok (.ireturn, 1) := by decide +kernel
set_option maxRecDepth 20000 in
theorem ggX8_determinant_X8_knowRow : GoodIn wsX8_determinant wsX8_knowRow := goodIn_r _ [6, 7, 8, 1, 9, 10, 11, 12, 13, 14, 15, 16, 17, 18, 19, 20, 21, 22, 23, 24, 25, 26, 27, 28, 29, 30, 31, 32, 33, 34, 35, 36, 37, 38, 39, 40, 41, 42, 43, 44, 45, 46, 47, 48, 49, 50, 76, 77, 78, 79, 80, 81, 82, 83, 84, 85, 86, 87, 88, 89, 90, 91, 92, 93, 94, 95, 96, 97, 98, 99, 100, 101, 102, 103] (by decide +kernel) (by decide +kernel)
set_option maxRecDepth 20000 in
theorem gX8_determinant_X8_knowRow : GoodIn wsX8_determinant (wsV RX8 194 RX8 yX8_knowRow wsX8_knowRow) := goodIn_app (goodIn_of _ (by decide +kernel)) ggX8_determinant_X8_knowRow
set_option maxRecDepth 20000 in
theorem ggX8_determinant_X6_closing : GoodIn wsX8_determinant wsX6_closing := goodIn_r _ [54, 55, 56, 57, 58, 32, 59, 35, 60, 61, 62, 63, 34, 64, 65, 66, 67, 68, 69, 70, 71, 50, 24, 25, 26, 27, 28, 36, 37, 38, 39, 40, 72, 73, 74, 75, 101, 102, 103, 98, 99, 100] (by decide +kernel) (by decide +kernel)
set_option maxRecDepth 20000 in
theorem gX8_determinant_X6_closing : GoodIn wsX8_determinant (wsV RX8 198 RX6 yX6_closing wsX6_closing) := goodIn_app (goodIn_of _ (by decide +kernel)) ggX8_determinant_X6_closing
theorem dX8_determinant_0 : decode cX8_determinant 0 = .ok (.aload_n 0, 1) := by decide +kernel
theorem dX8_determinant_1 : decode cX8_determinant 1 = .ok (.invokevirtual 194, 3) := by decide +kernel
theorem dX8_determinant_4 : decode cX8_determinant 4 = .ok (.ifCond .ne 6, 3) := by decide +kernel
theorem dX8_determinant_7 : decode cX8_determinant 7 = .ok (.bipush (-5), 2) := by decide +kernel
theorem dX8_determinant_9 : decode cX8_determinant 9 = .ok (.ireturn, 1) := by decide +kernel
theorem dX8_determinant_10 : decode cX8_determinant 10 = .ok (.iload_n 1, 1) := by decide +kernel
theorem dX8_determinant_11 : decode cX8_determinant 11 = .ok (.iconst 3, 1) := by decide +kernel
theorem dX8_determinant_12 : decode cX8_determinant 12 = .ok (.if_icmp .lt 9, 3) := by decide +kernel
theorem dX8_determinant_15 : decode cX8_determinant 15 = .ok (.iload_n 1, 1) := by decide +kernel
theorem dX8_determinant_16 : decode cX8_determinant 16 = .ok (.bipush 31, 2) := by decide +kernel
theorem dX8_determinant_18 : decode cX8_determinant 18 = .ok (.if_icmp .le 8, 3) := by decide +kernel
theorem dX8_determinant_21 : decode cX8_determinant 21 = .ok (.bipush (-2), 2) := by decide +kernel
theorem dX8_determinant_23 : decode cX8_determinant 23 = .ok (.goto 11, 3) := by decide +kernel
theorem dX8_determinant_26 : decode cX8_determinant 26 = .ok (.aload_n 0, 1) := by decide +kernel
theorem dX8_determinant_27 : decode cX8_determinant 27 = .ok (.getfield 79, 3) := by decide +kernel
theorem dX8_determinant_30 : decode cX8_determinant 30 = .ok (.iload_n 1, 1) := by decide +kernel
theorem dX8_determinant_31 : decode cX8_determinant 31 = .ok (.invokevirtual 198, 3) := by decide +kernel
theorem dX8_determinant_34 : decode cX8_determinant 34 = .ok (.ireturn, 1) := by decide +kernel
set_option maxRecDepth 20000 in
theorem ggX8_closes_X8_knowRow : GoodIn wsX8_closes wsX8_knowRow := goodIn_r _ [6, 7, 8, 1, 9, 10, 11, 12, 13, 14, 15, 16, 17, 18, 19, 20, 21, 22, 23, 24, 25, 26, 27, 28, 29, 30, 31, 32, 33, 34, 35, 36, 37, 38, 39, 40, 41, 42, 43, 44, 45, 46, 47, 48, 49, 50, 76, 77, 78, 79, 80, 81, 82, 83, 84, 85, 86, 87, 88, 89, 90, 91, 92, 93, 94, 95, 96, 97, 98, 99, 100, 101, 102, 103] (by decide +kernel) (by decide +kernel)
set_option maxRecDepth 20000 in
theorem gX8_closes_X8_knowRow : GoodIn wsX8_closes (wsV RX8 194 RX8 yX8_knowRow wsX8_knowRow) := goodIn_app (goodIn_of _ (by decide +kernel)) ggX8_closes_X8_knowRow
set_option maxRecDepth 20000 in
theorem ggX8_closes_X6_closing : GoodIn wsX8_closes wsX6_closing := goodIn_r _ [54, 55, 56, 57, 58, 32, 59, 35, 60, 61, 62, 63, 34, 64, 65, 66, 67, 68, 69, 70, 71, 50, 24, 25, 26, 27, 28, 36, 37, 38, 39, 40, 72, 73, 74, 75, 101, 102, 103, 98, 99, 100] (by decide +kernel) (by decide +kernel)
set_option maxRecDepth 20000 in
theorem gX8_closes_X6_closing : GoodIn wsX8_closes (wsV RX8 198 RX6 yX6_closing wsX6_closing) := goodIn_app (goodIn_of _ (by decide +kernel)) ggX8_closes_X6_closing
theorem dX8_closes_0 : decode cX8_closes 0 = .ok (.aload_n 0, 1) := by decide +kernel
theorem dX8_closes_1 : decode cX8_closes 1 = .ok (.invokevirtual 194, 3) := by decide +kernel
theorem dX8_closes_4 : decode cX8_closes 4 = .ok (.ifCond .ne 6, 3) := by decide +kernel
theorem dX8_closes_7 : decode cX8_closes 7 = .ok (.bipush (-5), 2) := by decide +kernel
theorem dX8_closes_9 : decode cX8_closes 9 = .ok (.ireturn, 1) := by decide +kernel
theorem dX8_closes_10 : decode cX8_closes 10 = .ok (.iload_n 1, 1) := by decide +kernel
theorem dX8_closes_11 : decode cX8_closes 11 = .ok (.iconst 1, 1) := by decide +kernel
theorem dX8_closes_12 : decode cX8_closes 12 = .ok (.if_icmp .lt 9, 3) := by decide +kernel
theorem dX8_closes_15 : decode cX8_closes 15 = .ok (.iload_n 1, 1) := by decide +kernel
theorem dX8_closes_16 : decode cX8_closes 16 = .ok (.bipush 31, 2) := by decide +kernel
theorem dX8_closes_18 : decode cX8_closes 18 = .ok (.if_icmp .le 6, 3) := by decide +kernel
theorem dX8_closes_21 : decode cX8_closes 21 = .ok (.bipush (-2), 2) := by decide +kernel
theorem dX8_closes_23 : decode cX8_closes 23 = .ok (.ireturn, 1) := by decide +kernel
theorem dX8_closes_24 : decode cX8_closes 24 = .ok (.iload_n 1, 1) := by decide +kernel
theorem dX8_closes_25 : decode cX8_closes 25 = .ok (.iconst 2, 1) := by decide +kernel
theorem dX8_closes_26 : decode cX8_closes 26 = .ok (.if_icmp .le 18, 3) := by decide +kernel
theorem dX8_closes_29 : decode cX8_closes 29 = .ok (.aload_n 0, 1) := by decide +kernel
theorem dX8_closes_30 : decode cX8_closes 30 = .ok (.getfield 79, 3) := by decide +kernel
theorem dX8_closes_33 : decode cX8_closes 33 = .ok (.iload_n 1, 1) := by decide +kernel
theorem dX8_closes_34 : decode cX8_closes 34 = .ok (.invokevirtual 198, 3) := by decide +kernel
theorem dX8_closes_37 : decode cX8_closes 37 = .ok (.ifCond .ne 7, 3) := by decide +kernel
theorem dX8_closes_40 : decode cX8_closes 40 = .ok (.iconst 1, 1) := by decide +kernel
theorem dX8_closes_41 : decode cX8_closes 41 = .ok (.goto 4, 3) := by decide +kernel
theorem dX8_closes_44 : decode cX8_closes 44 = .ok (.iconst 0, 1) := by decide +kernel
theorem dX8_closes_45 : decode cX8_closes 45 = .ok (.ireturn, 1) := by decide +kernel
set_option maxRecDepth 20000 in
theorem ggX8_least_X8_knowRow : GoodIn wsX8_least wsX8_knowRow := goodIn_r _ [6, 7, 8, 1, 9, 10, 11, 12, 13, 14, 15, 16, 17, 18, 19, 20, 21, 22, 23, 24, 25, 26, 27, 28, 29, 30, 31, 32, 33, 34, 35, 36, 37, 38, 39, 40, 41, 42, 43, 44, 45, 46, 47, 48, 49, 50, 76, 77, 78, 79, 80, 81, 82, 83, 84, 85, 86, 87, 88, 89, 90, 91, 92, 93, 94, 95, 96, 97, 98, 99, 100, 101, 102, 103] (by decide +kernel) (by decide +kernel)
set_option maxRecDepth 20000 in
theorem gX8_least_X8_knowRow : GoodIn wsX8_least (wsV RX8 194 RX8 yX8_knowRow wsX8_knowRow) := goodIn_app (goodIn_of _ (by decide +kernel)) ggX8_least_X8_knowRow
set_option maxRecDepth 20000 in
theorem ggX8_least_X6_closing : GoodIn wsX8_least wsX6_closing := goodIn_r _ [54, 55, 56, 57, 58, 32, 59, 35, 60, 61, 62, 63, 34, 64, 65, 66, 67, 68, 69, 70, 71, 50, 24, 25, 26, 27, 28, 36, 37, 38, 39, 40, 72, 73, 74, 75, 101, 102, 103, 98, 99, 100] (by decide +kernel) (by decide +kernel)
set_option maxRecDepth 20000 in
theorem gX8_least_X6_closing : GoodIn wsX8_least (wsV RX8 198 RX6 yX6_closing wsX6_closing) := goodIn_app (goodIn_of _ (by decide +kernel)) ggX8_least_X6_closing
theorem dX8_least_0 : decode cX8_least 0 = .ok (.aload_n 0, 1) := by decide +kernel
theorem dX8_least_1 : decode cX8_least 1 = .ok (.invokevirtual 194, 3) := by decide +kernel
theorem dX8_least_4 : decode cX8_least 4 = .ok (.ifCond .ne 6, 3) := by decide +kernel
theorem dX8_least_7 : decode cX8_least 7 = .ok (.bipush (-5), 2) := by decide +kernel
theorem dX8_least_9 : decode cX8_least 9 = .ok (.ireturn, 1) := by decide +kernel
theorem dX8_least_10 : decode cX8_least 10 = .ok (.iconst 3, 1) := by decide +kernel
theorem dX8_least_11 : decode cX8_least 11 = .ok (.istore_n 1, 1) := by decide +kernel
theorem dX8_least_12 : decode cX8_least 12 = .ok (.iload_n 1, 1) := by decide +kernel
theorem dX8_least_13 : decode cX8_least 13 = .ok (.bipush 31, 2) := by decide +kernel
theorem dX8_least_15 : decode cX8_least 15 = .ok (.if_icmp .gt 22, 3) := by decide +kernel
theorem dX8_least_18 : decode cX8_least 18 = .ok (.aload_n 0, 1) := by decide +kernel
theorem dX8_least_19 : decode cX8_least 19 = .ok (.getfield 79, 3) := by decide +kernel
theorem dX8_least_22 : decode cX8_least 22 = .ok (.iload_n 1, 1) := by decide +kernel
theorem dX8_least_23 : decode cX8_least 23 = .ok (.invokevirtual 198, 3) := by decide +kernel
theorem dX8_least_26 : decode cX8_least 26 = .ok (.ifCond .ne 5, 3) := by decide +kernel
theorem dX8_least_29 : decode cX8_least 29 = .ok (.iload_n 1, 1) := by decide +kernel
theorem dX8_least_30 : decode cX8_least 30 = .ok (.ireturn, 1) := by decide +kernel
theorem dX8_least_31 : decode cX8_least 31 = .ok (.iinc 1 1, 3) := by decide +kernel
theorem dX8_least_34 : decode cX8_least 34 = .ok (.goto (-22), 3) := by decide +kernel
theorem dX8_least_37 : decode cX8_least 37 = .ok (.bipush (-6), 2) := by decide +kernel
theorem dX8_least_39 : decode cX8_least 39 = .ok (.ireturn, 1) := by decide +kernel
set_option maxRecDepth 20000 in
theorem ggX8_multiple_X8_knowAdding : GoodIn wsX8_multiple wsX8_knowAdding := goodIn_r _ [6, 7, 8, 1, 9, 10, 11, 12, 13, 14, 15, 16, 17, 18, 19, 20, 21, 22, 23, 24, 25, 26, 27, 28, 29, 30, 31, 32, 33, 34, 35, 36, 37, 38, 39, 40, 41, 42, 43, 44, 45, 46, 47, 48, 49, 50, 51, 52, 53, 54, 55, 56, 57, 58, 59, 60, 61, 62, 63, 64, 65, 66, 67, 79, 80, 81, 82, 83, 84, 85, 86, 87, 88, 89, 90, 91, 92, 93, 94, 95, 96, 97, 98, 99, 100, 101, 102, 103, 104, 105, 106, 107, 108] (by decide +kernel) (by decide +kernel)
set_option maxRecDepth 20000 in
theorem gX8_multiple_X8_knowAdding : GoodIn wsX8_multiple (wsV RX8 201 RX8 yX8_knowAdding wsX8_knowAdding) := goodIn_app (goodIn_of _ (by decide +kernel)) ggX8_multiple_X8_knowAdding
set_option maxRecDepth 20000 in
theorem ggX8_multiple_X8_isSkip : GoodIn wsX8_multiple wsX8_isSkip := goodIn_r _ [70] (by decide +kernel) (by decide +kernel)
set_option maxRecDepth 20000 in
theorem gX8_multiple_X8_isSkip : GoodIn wsX8_multiple (va_wsS RX8 204 yX8_isSkip wsX8_isSkip) := goodIn_app (goodIn_of _ (by decide +kernel)) ggX8_multiple_X8_isSkip
set_option maxRecDepth 20000 in
theorem ggX8_multiple_X1_acrossAt : GoodIn wsX8_multiple wsX1_acrossAt := goodIn_r _ [74, 37, 35, 104, 105, 106, 107, 108] (by decide +kernel) (by decide +kernel)
set_option maxRecDepth 20000 in
theorem gX8_multiple_X1_acrossAt : GoodIn wsX8_multiple (wsV RX8 207 RX1 yX1_acrossAt wsX1_acrossAt) := goodIn_app (goodIn_of _ (by decide +kernel)) ggX8_multiple_X1_acrossAt
set_option maxRecDepth 20000 in
theorem ggX8_multiple_X1_upAt : GoodIn wsX8_multiple wsX1_upAt := goodIn_r _ [78, 37, 36, 104, 105, 106, 107, 108] (by decide +kernel) (by decide +kernel)
set_option maxRecDepth 20000 in
theorem gX8_multiple_X1_upAt : GoodIn wsX8_multiple (wsV RX8 210 RX1 yX1_upAt wsX1_upAt) := goodIn_app (goodIn_of _ (by decide +kernel)) ggX8_multiple_X1_upAt
theorem dX8_multiple_0 : decode cX8_multiple 0 = .ok (.aload_n 0, 1) := by decide +kernel
theorem dX8_multiple_1 : decode cX8_multiple 1 = .ok (.invokevirtual 201, 3) := by decide +kernel
theorem dX8_multiple_4 : decode cX8_multiple 4 = .ok (.ifCond .ne 6, 3) := by decide +kernel
theorem dX8_multiple_7 : decode cX8_multiple 7 = .ok (.bipush (-5), 2) := by decide +kernel
theorem dX8_multiple_9 : decode cX8_multiple 9 = .ok (.ireturn, 1) := by decide +kernel
theorem dX8_multiple_10 : decode cX8_multiple 10 = .ok (.iload_n 1, 1) := by decide +kernel
theorem dX8_multiple_11 : decode cX8_multiple 11 = .ok (.invokestatic 204, 3) := by decide +kernel
theorem dX8_multiple_14 : decode cX8_multiple 14 = .ok (.ifCond .eq 12, 3) := by decide +kernel
theorem dX8_multiple_17 : decode cX8_multiple 17 = .ok (.iload_n 2, 1) := by decide +kernel
theorem dX8_multiple_18 : decode cX8_multiple 18 = .ok (.ifCond .lt 8, 3) := by decide +kernel
theorem dX8_multiple_21 : decode cX8_multiple 21 = .ok (.iload_n 2, 1) := by decide +kernel
theorem dX8_multiple_22 : decode cX8_multiple 22 = .ok (.iconst 1, 1) := by decide +kernel
theorem dX8_multiple_23 : decode cX8_multiple 23 = .ok (.if_icmp .le 6, 3) := by decide +kernel
theorem dX8_multiple_26 : decode cX8_multiple 26 = .ok (.bipush (-2), 2) := by decide +kernel
theorem dX8_multiple_28 : decode cX8_multiple 28 = .ok (.ireturn, 1) := by decide +kernel
theorem dX8_multiple_29 : decode cX8_multiple 29 = .ok (.iload_n 2, 1) := by decide +kernel
theorem dX8_multiple_30 : decode cX8_multiple 30 = .ok (.ifCond .ne 14, 3) := by decide +kernel
theorem dX8_multiple_33 : decode cX8_multiple 33 = .ok (.aload_n 0, 1) := by decide +kernel
theorem dX8_multiple_34 : decode cX8_multiple 34 = .ok (.getfield 72, 3) := by decide +kernel
theorem dX8_multiple_37 : decode cX8_multiple 37 = .ok (.iload_n 1, 1) := by decide +kernel
theorem dX8_multiple_38 : decode cX8_multiple 38 = .ok (.invokevirtual 207, 3) := by decide +kernel
theorem dX8_multiple_41 : decode cX8_multiple 41 = .ok (.goto 11, 3) := by decide +kernel
theorem dX8_multiple_44 : decode cX8_multiple 44 = .ok (.aload_n 0, 1) := by decide +kernel
theorem dX8_multiple_45 : decode cX8_multiple 45 = .ok (.getfield 72, 3) := by decide +kernel
theorem dX8_multiple_48 : decode cX8_multiple 48 = .ok (.iload_n 1, 1) := by decide +kernel
theorem dX8_multiple_49 : decode cX8_multiple 49 = .ok (.invokevirtual 210, 3) := by decide +kernel
theorem dX8_multiple_52 : decode cX8_multiple 52 = .ok (.ireturn, 1) := by decide +kernel
set_option maxRecDepth 20000 in
theorem ggX8_order_X8_knowAdding : GoodIn wsX8_order wsX8_knowAdding := goodIn_r _ [6, 7, 8, 1, 9, 10, 11, 12, 13, 14, 15, 16, 17, 18, 19, 20, 21, 22, 23, 24, 25, 26, 27, 28, 29, 30, 31, 32, 33, 34, 35, 36, 37, 38, 39, 40, 41, 42, 43, 44, 45, 46, 47, 48, 49, 50, 51, 52, 53, 54, 55, 56, 57, 58, 59, 60, 61, 62, 63, 64, 65, 66, 67, 72, 73, 74, 75, 76, 77, 78, 79, 80, 81, 82, 83, 84, 85, 86, 87, 88, 89, 90, 91, 92, 93, 94, 95, 96, 97, 98, 99, 100, 101] (by decide +kernel) (by decide +kernel)
set_option maxRecDepth 20000 in
theorem gX8_order_X8_knowAdding : GoodIn wsX8_order (wsV RX8 201 RX8 yX8_knowAdding wsX8_knowAdding) := goodIn_app (goodIn_of _ (by decide +kernel)) ggX8_order_X8_knowAdding
set_option maxRecDepth 20000 in
theorem ggX8_order_X1_closing : GoodIn wsX8_order wsX1_closing := goodIn_r _ [71, 37, 97, 98, 99, 100, 101] (by decide +kernel) (by decide +kernel)
set_option maxRecDepth 20000 in
theorem gX8_order_X1_closing : GoodIn wsX8_order (wsV RX8 213 RX1 yX1_closing wsX1_closing) := goodIn_app (goodIn_of _ (by decide +kernel)) ggX8_order_X1_closing
theorem dX8_order_0 : decode cX8_order 0 = .ok (.aload_n 0, 1) := by decide +kernel
theorem dX8_order_1 : decode cX8_order 1 = .ok (.invokevirtual 201, 3) := by decide +kernel
theorem dX8_order_4 : decode cX8_order 4 = .ok (.ifCond .eq 13, 3) := by decide +kernel
theorem dX8_order_7 : decode cX8_order 7 = .ok (.aload_n 0, 1) := by decide +kernel
theorem dX8_order_8 : decode cX8_order 8 = .ok (.getfield 72, 3) := by decide +kernel
theorem dX8_order_11 : decode cX8_order 11 = .ok (.invokevirtual 213, 3) := by decide +kernel
theorem dX8_order_14 : decode cX8_order 14 = .ok (.goto 5, 3) := by decide +kernel
theorem dX8_order_17 : decode cX8_order 17 = .ok (.bipush (-5), 2) := by decide +kernel
theorem dX8_order_19 : decode cX8_order 19 = .ok (.ireturn, 1) := by decide +kernel
set_option maxRecDepth 20000 in
theorem ggX8_curve_X8_knowAdding : GoodIn wsX8_curve wsX8_knowAdding := goodIn_r _ [6, 7, 8, 1, 9, 10, 11, 12, 13, 14, 15, 16, 17, 18, 19, 20, 21, 22, 23, 24, 25, 26, 27, 28, 29, 30, 31, 32, 33, 34, 35, 36, 37, 38, 39, 40, 41, 42, 43, 44, 45, 46, 47, 48, 49, 50, 51, 52, 53, 54, 55, 56, 57, 58, 59, 60, 61, 62, 63, 64, 65, 66, 67, 72, 73, 74, 75, 76, 77, 78, 79, 80, 81, 82, 83, 84, 85, 86, 87, 88, 89, 90, 91, 92, 93, 94, 95, 96, 97, 98, 99, 100, 101] (by decide +kernel) (by decide +kernel)
set_option maxRecDepth 20000 in
theorem gX8_curve_X8_knowAdding : GoodIn wsX8_curve (wsV RX8 201 RX8 yX8_knowAdding wsX8_knowAdding) := goodIn_app (goodIn_of _ (by decide +kernel)) ggX8_curve_X8_knowAdding
set_option maxRecDepth 20000 in
theorem ggX8_curve_X1_countPoints : GoodIn wsX8_curve wsX1_countPoints := goodIn_r _ [71, 57, 97, 98, 99, 100, 101] (by decide +kernel) (by decide +kernel)
set_option maxRecDepth 20000 in
theorem gX8_curve_X1_countPoints : GoodIn wsX8_curve (wsV RX8 215 RX1 yX1_countPoints wsX1_countPoints) := goodIn_app (goodIn_of _ (by decide +kernel)) ggX8_curve_X1_countPoints
theorem dX8_curve_0 : decode cX8_curve 0 = .ok (.aload_n 0, 1) := by decide +kernel
theorem dX8_curve_1 : decode cX8_curve 1 = .ok (.invokevirtual 201, 3) := by decide +kernel
theorem dX8_curve_4 : decode cX8_curve 4 = .ok (.ifCond .eq 13, 3) := by decide +kernel
theorem dX8_curve_7 : decode cX8_curve 7 = .ok (.aload_n 0, 1) := by decide +kernel
theorem dX8_curve_8 : decode cX8_curve 8 = .ok (.getfield 72, 3) := by decide +kernel
theorem dX8_curve_11 : decode cX8_curve 11 = .ok (.invokevirtual 215, 3) := by decide +kernel
theorem dX8_curve_14 : decode cX8_curve 14 = .ok (.goto 5, 3) := by decide +kernel
theorem dX8_curve_17 : decode cX8_curve 17 = .ok (.bipush (-5), 2) := by decide +kernel
theorem dX8_curve_19 : decode cX8_curve 19 = .ok (.ireturn, 1) := by decide +kernel
set_option maxRecDepth 20000 in
theorem ggX8_chord_X8_knowWalks : GoodIn wsX8_chord wsX8_knowWalks := goodIn_r _ [8, 9, 10, 1, 11, 12, 13, 14, 15, 16, 17, 18, 19, 20, 21, 22, 23, 24, 25, 26, 27, 28, 29, 30, 31, 32, 33, 34, 35, 36, 37, 38, 39, 40, 41, 42, 43, 44, 45, 46, 47, 48, 49, 50, 51, 52, 53, 54, 55, 56, 57, 58, 59, 60, 61, 62, 63, 64, 65, 66, 67, 68, 69, 70, 71, 72, 73, 74, 75, 76, 77, 78, 79, 80, 81, 82, 83, 84, 85, 86, 87, 88, 89, 90, 91, 92, 93, 94, 95, 96, 97, 98, 99, 100, 101, 102, 103, 104, 105, 106, 107, 108, 109, 110, 111, 112, 113, 114, 115, 116, 117, 118, 119, 120, 121, 122, 123, 124, 125, 126, 127, 128, 129, 130, 131, 132, 133, 134, 135, 136, 137, 138, 139, 140, 141, 142, 143, 144, 145, 146, 147, 148, 149, 150, 151, 152, 153, 154, 155, 156, 157, 158, 159, 160, 161, 162, 163, 164, 165, 166, 167, 168, 169, 170, 171, 172, 173, 174, 175, 176, 177, 178, 179, 282, 283, 284, 285, 286, 287, 288, 289, 290, 291, 292, 293, 294, 295, 296, 297, 298, 299, 300, 301, 302, 303, 304, 305, 306, 307, 308, 309, 310, 311, 312, 313, 314, 315, 316, 317, 318, 319, 320, 321, 322, 323, 324, 325, 326, 327, 328, 329, 330, 331, 332, 333, 334, 335, 336, 337, 338, 339, 340] (by decide +kernel) (by decide +kernel)
set_option maxRecDepth 20000 in
theorem gX8_chord_X8_knowWalks : GoodIn wsX8_chord (wsV RX8 146 RX8 yX8_knowWalks wsX8_knowWalks) := goodIn_app (goodIn_of _ (by decide +kernel)) ggX8_chord_X8_knowWalks
set_option maxRecDepth 20000 in
theorem ggX8_chord_X8_knowAdding : GoodIn wsX8_chord wsX8_knowAdding := goodIn_r _ [183, 9, 184, 185, 13, 14, 15, 16, 17, 18, 19, 20, 21, 22, 23, 24, 25, 26, 27, 28, 29, 30, 31, 32, 186, 187, 188, 189, 190, 191, 192, 193, 194, 195, 196, 197, 198, 199, 200, 201, 202, 203, 62, 63, 64, 65, 204, 205, 206, 207, 208, 209, 210, 211, 43, 44, 45, 212, 119, 120, 121, 122, 123, 282, 283, 284, 285, 286, 287, 288, 289, 290, 291, 292, 293, 294, 295, 296, 297, 298, 299, 300, 301, 302, 303, 304, 305, 306, 341, 342, 343, 344, 345] (by decide +kernel) (by decide +kernel)
set_option maxRecDepth 20000 in
theorem gX8_chord_X8_knowAdding : GoodIn wsX8_chord (wsV RX8 201 RX8 yX8_knowAdding wsX8_knowAdding) := goodIn_app (goodIn_of _ (by decide +kernel)) ggX8_chord_X8_knowAdding
set_option maxRecDepth 20000 in
theorem ggX8_chord_X5_hasFlag : GoodIn wsX8_chord wsX5_hasFlag := goodIn_r _ [216, 141, 307, 308, 309, 310, 311, 312, 313, 314, 315, 316, 317, 318, 319, 320, 321, 322] (by decide +kernel) (by decide +kernel)
set_option maxRecDepth 20000 in
theorem gX8_chord_X5_hasFlag : GoodIn wsX8_chord (wsV RX8 168 RX5 yX5_hasFlag wsX5_hasFlag) := goodIn_app (goodIn_of _ (by decide +kernel)) ggX8_chord_X5_hasFlag
set_option maxRecDepth 20000 in
theorem ggX8_chord_X8_isSkip : GoodIn wsX8_chord wsX8_isSkip := goodIn_r _ [219] (by decide +kernel) (by decide +kernel)
set_option maxRecDepth 20000 in
theorem gX8_chord_X8_isSkip : GoodIn wsX8_chord (va_wsS RX8 204 yX8_isSkip wsX8_isSkip) := goodIn_app (goodIn_of _ (by decide +kernel)) ggX8_chord_X8_isSkip
set_option maxRecDepth 20000 in
theorem ggX8_chord_X8_drawChord : GoodIn wsX8_chord wsX8_drawChord := goodIn_r _ [223, 1, 224, 2, 11, 225, 226, 227, 228, 36, 229, 143, 230, 214, 215, 216, 141, 231, 232, 233, 234, 128, 163, 164, 165, 166, 38, 235, 236, 237, 238, 172, 179, 177, 178, 239, 81, 82, 49, 83, 51, 54, 53, 52, 60, 43, 44, 30, 45, 32, 240, 241, 242, 243, 244, 96, 97, 88, 98, 99, 100, 101, 102, 103, 104, 245, 47, 48, 50, 55, 28, 29, 31, 246, 247, 248, 249, 250, 57, 58, 59, 61, 62, 63, 64, 65, 282, 283, 284, 285, 286, 287, 288, 289, 290, 291, 292, 293, 294, 295, 296, 297, 298, 307, 308, 309, 310, 311, 312, 313, 314, 315, 316, 317, 318, 319, 320, 321, 322, 323, 324, 325, 326, 304, 305, 306, 334, 335, 336, 337, 338, 339, 340] (by decide +kernel) (by decide +kernel)
set_option maxRecDepth 20000 in
theorem gX8_chord_X8_drawChord : GoodIn wsX8_chord (wsV RX8 216 RX8 yX8_drawChord wsX8_drawChord) := goodIn_app (goodIn_of _ (by decide +kernel)) ggX8_chord_X8_drawChord
set_option maxRecDepth 20000 in
theorem ggX8_chord_X7_part : GoodIn wsX8_chord wsX7_part := goodIn_r _ [254, 52, 53, 54, 323, 324, 325, 326] (by decide +kernel) (by decide +kernel)
set_option maxRecDepth 20000 in
theorem gX8_chord_X7_part : GoodIn wsX8_chord (wsV RX8 164 RX7 yX7_part wsX7_part) := goodIn_app (goodIn_of _ (by decide +kernel)) ggX8_chord_X7_part
set_option maxRecDepth 20000 in
theorem ggX8_chord_X8_mixSkip : GoodIn wsX8_chord wsX8_mixSkip := goodIn_r _ [258, 185, 259, 260, 261, 189, 262, 194, 192, 263, 264, 265, 7, 266, 267, 11, 268, 3, 269, 270, 271, 88, 272, 99, 102, 104, 103, 101, 100, 273, 274, 275, 276, 94, 105, 28, 29, 30, 31, 32, 277, 278, 279, 280, 282, 283, 284, 285, 286, 287, 288, 289, 290, 291, 292, 293, 294, 295, 296, 297, 298, 341, 342, 343, 344, 345, 334, 335, 336, 337, 338, 339, 340, 304, 305, 306] (by decide +kernel) (by decide +kernel)
set_option maxRecDepth 20000 in
theorem gX8_chord_X8_mixSkip : GoodIn wsX8_chord (wsV RX8 219 RX8 yX8_mixSkip wsX8_mixSkip) := goodIn_app (goodIn_of _ (by decide +kernel)) ggX8_chord_X8_mixSkip
set_option maxRecDepth 20000 in
theorem ggX8_chord_X2_at : GoodIn wsX8_chord wsX2_at := goodIn_r _ [89, 90, 91, 92, 88, 93, 94, 95, 96, 97, 98, 99, 100, 101, 102, 103, 104, 105, 28, 29, 30, 31, 32, 334, 335, 336, 337, 338, 339, 340, 323, 324, 325, 326, 304, 305, 306] (by decide +kernel) (by decide +kernel)
set_option maxRecDepth 20000 in
theorem gX8_chord_X2_at : GoodIn wsX8_chord (wsV RX8 138 RX2 yX2_at wsX2_at) := goodIn_app (goodIn_of _ (by decide +kernel)) ggX8_chord_X2_at
theorem dX8_chord_0 : decode cX8_chord 0 = .ok (.aload_n 0, 1) := by decide +kernel
theorem dX8_chord_1 : decode cX8_chord 1 = .ok (.invokevirtual 146, 3) := by decide +kernel
theorem dX8_chord_4 : decode cX8_chord 4 = .ok (.ifCond .eq 10, 3) := by decide +kernel
theorem dX8_chord_7 : decode cX8_chord 7 = .ok (.aload_n 0, 1) := by decide +kernel
theorem dX8_chord_8 : decode cX8_chord 8 = .ok (.invokevirtual 201, 3) := by decide +kernel
theorem dX8_chord_11 : decode cX8_chord 11 = .ok (.ifCond .ne 6, 3) := by decide +kernel
theorem dX8_chord_14 : decode cX8_chord 14 = .ok (.bipush (-5), 2) := by decide +kernel
theorem dX8_chord_16 : decode cX8_chord 16 = .ok (.ireturn, 1) := by decide +kernel
theorem dX8_chord_17 : decode cX8_chord 17 = .ok (.aload_n 0, 1) := by decide +kernel
theorem dX8_chord_18 : decode cX8_chord 18 = .ok (.getfield 65, 3) := by decide +kernel
theorem dX8_chord_21 : decode cX8_chord 21 = .ok (.iload_n 1, 1) := by decide +kernel
theorem dX8_chord_22 : decode cX8_chord 22 = .ok (.invokevirtual 168, 3) := by decide +kernel
theorem dX8_chord_25 : decode cX8_chord 25 = .ok (.ifCond .ne 5, 3) := by decide +kernel
theorem dX8_chord_28 : decode cX8_chord 28 = .ok (.iconst (-1), 1) := by decide +kernel
theorem dX8_chord_29 : decode cX8_chord 29 = .ok (.ireturn, 1) := by decide +kernel
theorem dX8_chord_30 : decode cX8_chord 30 = .ok (.iload_n 2, 1) := by decide +kernel
theorem dX8_chord_31 : decode cX8_chord 31 = .ok (.invokestatic 204, 3) := by decide +kernel
theorem dX8_chord_34 : decode cX8_chord 34 = .ok (.ifCond .eq 12, 3) := by decide +kernel
theorem dX8_chord_37 : decode cX8_chord 37 = .ok (.iload_n 3, 1) := by decide +kernel
theorem dX8_chord_38 : decode cX8_chord 38 = .ok (.ifCond .lt 8, 3) := by decide +kernel
theorem dX8_chord_41 : decode cX8_chord 41 = .ok (.iload_n 3, 1) := by decide +kernel
theorem dX8_chord_42 : decode cX8_chord 42 = .ok (.iconst 3, 1) := by decide +kernel
theorem dX8_chord_43 : decode cX8_chord 43 = .ok (.if_icmp .le 6, 3) := by decide +kernel
theorem dX8_chord_46 : decode cX8_chord 46 = .ok (.bipush (-2), 2) := by decide +kernel
theorem dX8_chord_48 : decode cX8_chord 48 = .ok (.ireturn, 1) := by decide +kernel
theorem dX8_chord_49 : decode cX8_chord 49 = .ok (.aload_n 0, 1) := by decide +kernel
theorem dX8_chord_50 : decode cX8_chord 50 = .ok (.iload_n 1, 1) := by decide +kernel
theorem dX8_chord_51 : decode cX8_chord 51 = .ok (.iload_n 2, 1) := by decide +kernel
theorem dX8_chord_52 : decode cX8_chord 52 = .ok (.invokevirtual 216, 3) := by decide +kernel
theorem dX8_chord_55 : decode cX8_chord 55 = .ok (.iload_n 3, 1) := by decide +kernel
theorem dX8_chord_56 : decode cX8_chord 56 = .ok (.iconst 3, 1) := by decide +kernel
theorem dX8_chord_57 : decode cX8_chord 57 = .ok (.if_icmp .ge 12, 3) := by decide +kernel
theorem dX8_chord_60 : decode cX8_chord 60 = .ok (.aload_n 0, 1) := by decide +kernel
theorem dX8_chord_61 : decode cX8_chord 61 = .ok (.getfield 52, 3) := by decide +kernel
theorem dX8_chord_64 : decode cX8_chord 64 = .ok (.iload_n 3, 1) := by decide +kernel
theorem dX8_chord_65 : decode cX8_chord 65 = .ok (.invokevirtual 164, 3) := by decide +kernel
theorem dX8_chord_68 : decode cX8_chord 68 = .ok (.ireturn, 1) := by decide +kernel
theorem dX8_chord_69 : decode cX8_chord 69 = .ok (.aload_n 0, 1) := by decide +kernel
theorem dX8_chord_70 : decode cX8_chord 70 = .ok (.iload_n 2, 1) := by decide +kernel
theorem dX8_chord_71 : decode cX8_chord 71 = .ok (.invokevirtual 219, 3) := by decide +kernel
theorem dX8_chord_74 : decode cX8_chord 74 = .ok (.aload_n 0, 1) := by decide +kernel
theorem dX8_chord_75 : decode cX8_chord 75 = .ok (.getfield 39, 3) := by decide +kernel
theorem dX8_chord_78 : decode cX8_chord 78 = .ok (.aload_n 0, 1) := by decide +kernel
theorem dX8_chord_79 : decode cX8_chord 79 = .ok (.getfield 52, 3) := by decide +kernel
theorem dX8_chord_82 : decode cX8_chord 82 = .ok (.invokevirtual 138, 3) := by decide +kernel
theorem dX8_chord_85 : decode cX8_chord 85 = .ok (.ifCond .ne 7, 3) := by decide +kernel
theorem dX8_chord_88 : decode cX8_chord 88 = .ok (.iconst 1, 1) := by decide +kernel
theorem dX8_chord_89 : decode cX8_chord 89 = .ok (.goto 4, 3) := by decide +kernel
theorem dX8_chord_92 : decode cX8_chord 92 = .ok (.iconst 0, 1) := by decide +kernel
theorem dX8_chord_93 : decode cX8_chord 93 = .ok (.ireturn, 1) := by decide +kernel
set_option maxRecDepth 20000 in
theorem ggX8_all_X8_knowWalks : GoodIn wsX8_all wsX8_knowWalks := goodIn_r _ [9, 10, 11, 2, 12, 13, 14, 15, 16, 17, 18, 19, 20, 21, 22, 23, 24, 25, 26, 27, 28, 29, 30, 31, 32, 33, 34, 35, 36, 37, 38, 39, 40, 41, 42, 43, 44, 45, 46, 47, 48, 49, 50, 51, 52, 53, 54, 55, 56, 57, 58, 59, 60, 61, 62, 63, 64, 65, 66, 67, 68, 69, 70, 71, 72, 73, 74, 75, 76, 77, 78, 79, 80, 81, 82, 83, 84, 85, 86, 87, 88, 89, 90, 91, 92, 93, 94, 95, 96, 97, 98, 99, 100, 101, 102, 103, 104, 105, 106, 107, 108, 109, 110, 111, 112, 113, 114, 115, 116, 117, 118, 119, 120, 121, 122, 123, 124, 125, 126, 127, 128, 129, 130, 131, 132, 133, 134, 135, 136, 137, 138, 139, 140, 141, 142, 143, 144, 145, 146, 147, 148, 149, 150, 151, 152, 153, 154, 155, 156, 157, 158, 159, 160, 161, 162, 163, 164, 165, 166, 167, 168, 169, 170, 171, 172, 173, 174, 175, 176, 177, 178, 179, 180, 245, 246, 247, 248, 249, 250, 251, 252, 253, 254, 255, 256, 257, 258, 259, 260, 261, 262, 263, 264, 265, 266, 267, 268, 269, 270, 271, 272, 273, 274, 275, 276, 277, 278, 279, 280, 281, 282, 283, 284, 285, 286, 287, 288, 289, 290, 291, 292, 293, 294, 295, 296, 297, 298, 299, 300, 301, 302, 303] (by decide +kernel) (by decide +kernel)
set_option maxRecDepth 20000 in
theorem gX8_all_X8_knowWalks : GoodIn wsX8_all (wsV RX8 146 RX8 yX8_knowWalks wsX8_knowWalks) := goodIn_app (goodIn_of _ (by decide +kernel)) ggX8_all_X8_knowWalks
set_option maxRecDepth 20000 in
theorem ggX8_all_X8_isSkip : GoodIn wsX8_all wsX8_isSkip := goodIn_r _ [183] (by decide +kernel) (by decide +kernel)
set_option maxRecDepth 20000 in
theorem gX8_all_X8_isSkip : GoodIn wsX8_all (va_wsS RX8 204 yX8_isSkip wsX8_isSkip) := goodIn_app (goodIn_of _ (by decide +kernel)) ggX8_all_X8_isSkip
set_option maxRecDepth 20000 in
theorem ggX8_all_X4_has : GoodIn wsX8_all wsX4_has := goodIn_r _ [187, 33, 267, 268, 269] (by decide +kernel) (by decide +kernel)
set_option maxRecDepth 20000 in
theorem gX8_all_X4_has : GoodIn wsX8_all (wsV RX8 111 RX4 yX4_has wsX4_has) := goodIn_app (goodIn_of _ (by decide +kernel)) ggX8_all_X4_has
set_option maxRecDepth 20000 in
theorem ggX8_all_X8_mixTouching : GoodIn wsX8_all wsX8_mixTouching := goodIn_r _ [191, 192, 12, 193, 3, 194, 195, 196, 89, 197, 100, 103, 105, 104, 102, 101, 198, 199, 200, 201, 95, 106, 29, 30, 31, 32, 33, 202, 203, 204, 205, 245, 246, 247, 248, 249, 250, 251, 252, 253, 254, 255, 256, 257, 258, 259, 260, 261, 297, 298, 299, 300, 301, 302, 303, 267, 268, 269] (by decide +kernel) (by decide +kernel)
set_option maxRecDepth 20000 in
theorem gX8_all_X8_mixTouching : GoodIn wsX8_all (wsV RX8 142 RX8 yX8_mixTouching wsX8_mixTouching) := goodIn_app (goodIn_of _ (by decide +kernel)) ggX8_all_X8_mixTouching
set_option maxRecDepth 20000 in
theorem ggX8_all_X5_countFlags : GoodIn wsX8_all wsX5_countFlags := goodIn_r _ [209, 142, 270, 271, 272, 273, 274, 275, 276, 277, 278, 279, 280, 281, 282, 283, 284, 285] (by decide +kernel) (by decide +kernel)
set_option maxRecDepth 20000 in
theorem gX8_all_X5_countFlags : GoodIn wsX8_all (wsV RX8 165 RX5 yX5_countFlags wsX5_countFlags) := goodIn_app (goodIn_of _ (by decide +kernel)) ggX8_all_X5_countFlags
set_option maxRecDepth 20000 in
theorem ggX8_all_X8_drawChord : GoodIn wsX8_all wsX8_drawChord := goodIn_r _ [213, 2, 214, 4, 12, 215, 216, 217, 218, 37, 219, 144, 220, 221, 222, 223, 142, 224, 225, 226, 227, 129, 164, 165, 166, 167, 39, 228, 229, 230, 231, 173, 180, 178, 179, 232, 82, 83, 50, 84, 52, 55, 54, 53, 61, 44, 45, 31, 46, 33, 233, 234, 235, 236, 237, 97, 98, 89, 99, 100, 101, 102, 103, 104, 105, 238, 48, 49, 51, 56, 29, 30, 32, 239, 240, 241, 242, 243, 58, 59, 60, 62, 63, 64, 65, 66, 245, 246, 247, 248, 249, 250, 251, 252, 253, 254, 255, 256, 257, 258, 259, 260, 261, 270, 271, 272, 273, 274, 275, 276, 277, 278, 279, 280, 281, 282, 283, 284, 285, 286, 287, 288, 289, 267, 268, 269, 297, 298, 299, 300, 301, 302, 303] (by decide +kernel) (by decide +kernel)
set_option maxRecDepth 20000 in
theorem gX8_all_X8_drawChord : GoodIn wsX8_all (wsV RX8 216 RX8 yX8_drawChord wsX8_drawChord) := goodIn_app (goodIn_of _ (by decide +kernel)) ggX8_all_X8_drawChord
set_option maxRecDepth 20000 in
theorem ggX8_all_X2_at : GoodIn wsX8_all wsX2_at := goodIn_r _ [90, 91, 92, 93, 89, 94, 95, 96, 97, 98, 99, 100, 101, 102, 103, 104, 105, 106, 29, 30, 31, 32, 33, 297, 298, 299, 300, 301, 302, 303, 286, 287, 288, 289, 267, 268, 269] (by decide +kernel) (by decide +kernel)
set_option maxRecDepth 20000 in
theorem gX8_all_X2_at : GoodIn wsX8_all (wsV RX8 138 RX2 yX2_at wsX2_at) := goodIn_app (goodIn_of _ (by decide +kernel)) ggX8_all_X2_at
theorem dX8_all_0 : decode cX8_all 0 = .ok (.aload_n 0, 1) := by decide +kernel
theorem dX8_all_1 : decode cX8_all 1 = .ok (.invokevirtual 146, 3) := by decide +kernel
theorem dX8_all_4 : decode cX8_all 4 = .ok (.ifCond .ne 6, 3) := by decide +kernel
theorem dX8_all_7 : decode cX8_all 7 = .ok (.bipush (-5), 2) := by decide +kernel
theorem dX8_all_9 : decode cX8_all 9 = .ok (.ireturn, 1) := by decide +kernel
theorem dX8_all_10 : decode cX8_all 10 = .ok (.iload_n 1, 1) := by decide +kernel
theorem dX8_all_11 : decode cX8_all 11 = .ok (.invokestatic 204, 3) := by decide +kernel
theorem dX8_all_14 : decode cX8_all 14 = .ok (.ifCond .eq 33, 3) := by decide +kernel
theorem dX8_all_17 : decode cX8_all 17 = .ok (.aload_n 0, 1) := by decide +kernel
theorem dX8_all_18 : decode cX8_all 18 = .ok (.getfield 14, 3) := by decide +kernel
theorem dX8_all_21 : decode cX8_all 21 = .ok (.iload_n 2, 1) := by decide +kernel
theorem dX8_all_22 : decode cX8_all 22 = .ok (.invokevirtual 111, 3) := by decide +kernel
theorem dX8_all_25 : decode cX8_all 25 = .ok (.ifCond .eq 22, 3) := by decide +kernel
theorem dX8_all_28 : decode cX8_all 28 = .ok (.aload_n 0, 1) := by decide +kernel
theorem dX8_all_29 : decode cX8_all 29 = .ok (.getfield 14, 3) := by decide +kernel
theorem dX8_all_32 : decode cX8_all 32 = .ok (.iload_n 3, 1) := by decide +kernel
theorem dX8_all_33 : decode cX8_all 33 = .ok (.invokevirtual 111, 3) := by decide +kernel
theorem dX8_all_36 : decode cX8_all 36 = .ok (.ifCond .eq 11, 3) := by decide +kernel
theorem dX8_all_39 : decode cX8_all 39 = .ok (.iload_n 2, 1) := by decide +kernel
theorem dX8_all_40 : decode cX8_all 40 = .ok (.ifCond .ne 10, 3) := by decide +kernel
theorem dX8_all_43 : decode cX8_all 43 = .ok (.iload_n 3, 1) := by decide +kernel
theorem dX8_all_44 : decode cX8_all 44 = .ok (.ifCond .ne 6, 3) := by decide +kernel
theorem dX8_all_47 : decode cX8_all 47 = .ok (.bipush (-2), 2) := by decide +kernel
theorem dX8_all_49 : decode cX8_all 49 = .ok (.ireturn, 1) := by decide +kernel
theorem dX8_all_50 : decode cX8_all 50 = .ok (.aload_n 0, 1) := by decide +kernel
theorem dX8_all_51 : decode cX8_all 51 = .ok (.iload_n 2, 1) := by decide +kernel
theorem dX8_all_52 : decode cX8_all 52 = .ok (.iload_n 3, 1) := by decide +kernel
theorem dX8_all_53 : decode cX8_all 53 = .ok (.invokevirtual 142, 3) := by decide +kernel
theorem dX8_all_56 : decode cX8_all 56 = .ok (.iconst 0, 1) := by decide +kernel
theorem dX8_all_57 : decode cX8_all 57 = .ok (.istore 4, 2) := by decide +kernel
theorem dX8_all_59 : decode cX8_all 59 = .ok (.iconst 0, 1) := by decide +kernel
theorem dX8_all_60 : decode cX8_all 60 = .ok (.istore 5, 2) := by decide +kernel
theorem dX8_all_62 : decode cX8_all 62 = .ok (.iload 5, 2) := by decide +kernel
theorem dX8_all_64 : decode cX8_all 64 = .ok (.aload_n 0, 1) := by decide +kernel
theorem dX8_all_65 : decode cX8_all 65 = .ok (.getfield 65, 3) := by decide +kernel
theorem dX8_all_68 : decode cX8_all 68 = .ok (.invokevirtual 165, 3) := by decide +kernel
theorem dX8_all_71 : decode cX8_all 71 = .ok (.if_icmp .ge 33, 3) := by decide +kernel
theorem dX8_all_74 : decode cX8_all 74 = .ok (.aload_n 0, 1) := by decide +kernel
theorem dX8_all_75 : decode cX8_all 75 = .ok (.iload 5, 2) := by decide +kernel
theorem dX8_all_77 : decode cX8_all 77 = .ok (.iload_n 1, 1) := by decide +kernel
theorem dX8_all_78 : decode cX8_all 78 = .ok (.invokevirtual 216, 3) := by decide +kernel
theorem dX8_all_81 : decode cX8_all 81 = .ok (.aload_n 0, 1) := by decide +kernel
theorem dX8_all_82 : decode cX8_all 82 = .ok (.getfield 39, 3) := by decide +kernel
theorem dX8_all_85 : decode cX8_all 85 = .ok (.aload_n 0, 1) := by decide +kernel
theorem dX8_all_86 : decode cX8_all 86 = .ok (.getfield 52, 3) := by decide +kernel
theorem dX8_all_89 : decode cX8_all 89 = .ok (.invokevirtual 138, 3) := by decide +kernel
theorem dX8_all_92 : decode cX8_all 92 = .ok (.ifCond .ne 6, 3) := by decide +kernel
theorem dX8_all_95 : decode cX8_all 95 = .ok (.iinc 4 1, 3) := by decide +kernel
theorem dX8_all_98 : decode cX8_all 98 = .ok (.iinc 5 1, 3) := by decide +kernel
theorem dX8_all_101 : decode cX8_all 101 = .ok (.goto (-39), 3) := by decide +kernel
theorem dX8_all_104 : decode cX8_all 104 = .ok (.iload 4, 2) := by decide +kernel
theorem dX8_all_106 : decode cX8_all 106 = .ok (.ireturn, 1) := by decide +kernel
theorem dX8_isPrime_0 : decode cX8_isPrime 0 = .ok (.iload_n 0, 1) := by decide +kernel
theorem dX8_isPrime_1 : decode cX8_isPrime 1 = .ok (.iconst 5, 1) := by decide +kernel
theorem dX8_isPrime_2 : decode cX8_isPrime 2 = .ok (.if_icmp .lt 10, 3) := by decide +kernel
theorem dX8_isPrime_5 : decode cX8_isPrime 5 = .ok (.iload_n 0, 1) := by decide +kernel
theorem dX8_isPrime_6 : decode cX8_isPrime 6 = .ok (.sipush 199, 3) := by decide +kernel
theorem dX8_isPrime_9 : decode cX8_isPrime 9 = .ok (.if_icmp .le 5, 3) := by decide +kernel
theorem dX8_isPrime_12 : decode cX8_isPrime 12 = .ok (.iconst 0, 1) := by decide +kernel
theorem dX8_isPrime_13 : decode cX8_isPrime 13 = .ok (.ireturn, 1) := by decide +kernel
theorem dX8_isPrime_14 : decode cX8_isPrime 14 = .ok (.iconst 2, 1) := by decide +kernel
theorem dX8_isPrime_15 : decode cX8_isPrime 15 = .ok (.istore_n 1, 1) := by decide +kernel
theorem dX8_isPrime_16 : decode cX8_isPrime 16 = .ok (.iload_n 1, 1) := by decide +kernel
theorem dX8_isPrime_17 : decode cX8_isPrime 17 = .ok (.iload_n 1, 1) := by decide +kernel
theorem dX8_isPrime_18 : decode cX8_isPrime 18 = .ok (.imul, 1) := by decide +kernel
theorem dX8_isPrime_19 : decode cX8_isPrime 19 = .ok (.iload_n 0, 1) := by decide +kernel
theorem dX8_isPrime_20 : decode cX8_isPrime 20 = .ok (.if_icmp .gt 17, 3) := by decide +kernel
theorem dX8_isPrime_23 : decode cX8_isPrime 23 = .ok (.iload_n 0, 1) := by decide +kernel
theorem dX8_isPrime_24 : decode cX8_isPrime 24 = .ok (.iload_n 1, 1) := by decide +kernel
theorem dX8_isPrime_25 : decode cX8_isPrime 25 = .ok (.irem, 1) := by decide +kernel
theorem dX8_isPrime_26 : decode cX8_isPrime 26 = .ok (.ifCond .ne 5, 3) := by decide +kernel
theorem dX8_isPrime_29 : decode cX8_isPrime 29 = .ok (.iconst 0, 1) := by decide +kernel
theorem dX8_isPrime_30 : decode cX8_isPrime 30 = .ok (.ireturn, 1) := by decide +kernel
theorem dX8_isPrime_31 : decode cX8_isPrime 31 = .ok (.iinc 1 1, 3) := by decide +kernel
theorem dX8_isPrime_34 : decode cX8_isPrime 34 = .ok (.goto (-18), 3) := by decide +kernel
theorem dX8_isPrime_37 : decode cX8_isPrime 37 = .ok (.iconst 1, 1) := by decide +kernel
theorem dX8_isPrime_38 : decode cX8_isPrime 38 = .ok (.ireturn, 1) := by decide +kernel
set_option maxRecDepth 20000 in
theorem ggX8_areNumbers_X4_has : GoodIn wsX8_areNumbers wsX4_has := goodIn_r _ [6, 7, 25, 26, 27] (by decide +kernel) (by decide +kernel)
set_option maxRecDepth 20000 in
theorem gX8_areNumbers_X4_has : GoodIn wsX8_areNumbers (wsV RX8 111 RX4 yX4_has wsX4_has) := goodIn_app (goodIn_of _ (by decide +kernel)) ggX8_areNumbers_X4_has
theorem dX8_areNumbers_0 : decode cX8_areNumbers 0 = .ok (.aload_n 0, 1) := by decide +kernel
theorem dX8_areNumbers_1 : decode cX8_areNumbers 1 = .ok (.getfield 14, 3) := by decide +kernel
theorem dX8_areNumbers_4 : decode cX8_areNumbers 4 = .ok (.iload_n 1, 1) := by decide +kernel
theorem dX8_areNumbers_5 : decode cX8_areNumbers 5 = .ok (.invokevirtual 111, 3) := by decide +kernel
theorem dX8_areNumbers_8 : decode cX8_areNumbers 8 = .ok (.ifCond .eq 29, 3) := by decide +kernel
theorem dX8_areNumbers_11 : decode cX8_areNumbers 11 = .ok (.aload_n 0, 1) := by decide +kernel
theorem dX8_areNumbers_12 : decode cX8_areNumbers 12 = .ok (.getfield 14, 3) := by decide +kernel
theorem dX8_areNumbers_15 : decode cX8_areNumbers 15 = .ok (.iload_n 2, 1) := by decide +kernel
theorem dX8_areNumbers_16 : decode cX8_areNumbers 16 = .ok (.invokevirtual 111, 3) := by decide +kernel
theorem dX8_areNumbers_19 : decode cX8_areNumbers 19 = .ok (.ifCond .eq 18, 3) := by decide +kernel
theorem dX8_areNumbers_22 : decode cX8_areNumbers 22 = .ok (.aload_n 0, 1) := by decide +kernel
theorem dX8_areNumbers_23 : decode cX8_areNumbers 23 = .ok (.getfield 14, 3) := by decide +kernel
theorem dX8_areNumbers_26 : decode cX8_areNumbers 26 = .ok (.iload_n 3, 1) := by decide +kernel
theorem dX8_areNumbers_27 : decode cX8_areNumbers 27 = .ok (.invokevirtual 111, 3) := by decide +kernel
theorem dX8_areNumbers_30 : decode cX8_areNumbers 30 = .ok (.ifCond .eq 7, 3) := by decide +kernel
theorem dX8_areNumbers_33 : decode cX8_areNumbers 33 = .ok (.iconst 1, 1) := by decide +kernel
theorem dX8_areNumbers_34 : decode cX8_areNumbers 34 = .ok (.goto 4, 3) := by decide +kernel
theorem dX8_areNumbers_37 : decode cX8_areNumbers 37 = .ok (.iconst 0, 1) := by decide +kernel
theorem dX8_areNumbers_38 : decode cX8_areNumbers 38 = .ok (.ireturn, 1) := by decide +kernel
theorem dX8_isSkip_0 : decode cX8_isSkip 0 = .ok (.iload_n 0, 1) := by decide +kernel
theorem dX8_isSkip_1 : decode cX8_isSkip 1 = .ok (.ifCond .lt 14, 3) := by decide +kernel
theorem dX8_isSkip_4 : decode cX8_isSkip 4 = .ok (.iload_n 0, 1) := by decide +kernel
theorem dX8_isSkip_5 : decode cX8_isSkip 5 = .ok (.sipush 1000, 3) := by decide +kernel
theorem dX8_isSkip_8 : decode cX8_isSkip 8 = .ok (.if_icmp .gt 7, 3) := by decide +kernel
theorem dX8_isSkip_11 : decode cX8_isSkip 11 = .ok (.iconst 1, 1) := by decide +kernel
theorem dX8_isSkip_12 : decode cX8_isSkip 12 = .ok (.goto 4, 3) := by decide +kernel
theorem dX8_isSkip_15 : decode cX8_isSkip 15 = .ok (.iconst 0, 1) := by decide +kernel
theorem dX8_isSkip_16 : decode cX8_isSkip 16 = .ok (.ireturn, 1) := by decide +kernel
set_option maxRecDepth 20000 in
theorem ggX8_startRounds_X2_take : GoodIn wsX8_startRounds wsX2_take := goodIn_r _ [7, 8, 9, 10, 11, 12, 13, 14, 15, 16, 17, 18, 19, 20, 71, 72, 73, 74, 75, 76, 77, 78, 79, 80] (by decide +kernel) (by decide +kernel)
set_option maxRecDepth 20000 in
theorem gX8_startRounds_X2_take : GoodIn wsX8_startRounds (wsV RX8 101 RX2 yX2_take wsX2_take) := goodIn_app (goodIn_of _ (by decide +kernel)) ggX8_startRounds_X2_take
set_option maxRecDepth 20000 in
theorem ggX8_startRounds_X8_renew : GoodIn wsX8_startRounds wsX8_renew := goodIn_r _ [25, 26, 1, 27, 2, 28, 29, 30, 31, 32, 33, 34, 6, 35, 10, 11, 12, 9, 13, 14, 36, 4, 5, 7, 8, 15, 16, 17, 18, 19, 20, 37, 38, 39, 40, 41, 42, 43, 44, 45, 46, 47, 48, 49, 50, 51, 52, 53, 54, 55, 56, 57, 58, 59, 60, 61, 62, 63, 64, 65, 66, 67, 68, 69, 70, 71, 72, 73, 74, 75, 76, 77, 78, 79, 80, 81, 82, 83, 84, 85] (by decide +kernel) (by decide +kernel)
set_option maxRecDepth 20000 in
theorem gX8_startRounds_X8_renew : GoodIn wsX8_startRounds (wsV RX8 104 RX8 yX8_renew wsX8_renew) := goodIn_app (goodIn_of _ (by decide +kernel)) ggX8_startRounds_X8_renew
theorem dX8_startRounds_0 : decode cX8_startRounds 0 = .ok (.aload_n 0, 1) := by decide +kernel
theorem dX8_startRounds_1 : decode cX8_startRounds 1 = .ok (.getfield 23, 3) := by decide +kernel
theorem dX8_startRounds_4 : decode cX8_startRounds 4 = .ok (.iconst 1, 1) := by decide +kernel
theorem dX8_startRounds_5 : decode cX8_startRounds 5 = .ok (.iconst 1, 1) := by decide +kernel
theorem dX8_startRounds_6 : decode cX8_startRounds 6 = .ok (.iconst (-1), 1) := by decide +kernel
theorem dX8_startRounds_7 : decode cX8_startRounds 7 = .ok (.iconst 0, 1) := by decide +kernel
theorem dX8_startRounds_8 : decode cX8_startRounds 8 = .ok (.iconst 0, 1) := by decide +kernel
theorem dX8_startRounds_9 : decode cX8_startRounds 9 = .ok (.iconst 0, 1) := by decide +kernel
theorem dX8_startRounds_10 : decode cX8_startRounds 10 = .ok (.invokevirtual 101, 3) := by decide +kernel
theorem dX8_startRounds_13 : decode cX8_startRounds 13 = .ok (.aload_n 0, 1) := by decide +kernel
theorem dX8_startRounds_14 : decode cX8_startRounds 14 = .ok (.getfield 30, 3) := by decide +kernel
theorem dX8_startRounds_17 : decode cX8_startRounds 17 = .ok (.iconst 1, 1) := by decide +kernel
theorem dX8_startRounds_18 : decode cX8_startRounds 18 = .ok (.iconst 1, 1) := by decide +kernel
theorem dX8_startRounds_19 : decode cX8_startRounds 19 = .ok (.iconst (-1), 1) := by decide +kernel
theorem dX8_startRounds_20 : decode cX8_startRounds 20 = .ok (.iconst 0, 1) := by decide +kernel
theorem dX8_startRounds_21 : decode cX8_startRounds 21 = .ok (.iconst 0, 1) := by decide +kernel
theorem dX8_startRounds_22 : decode cX8_startRounds 22 = .ok (.iconst 0, 1) := by decide +kernel
theorem dX8_startRounds_23 : decode cX8_startRounds 23 = .ok (.invokevirtual 101, 3) := by decide +kernel
theorem dX8_startRounds_26 : decode cX8_startRounds 26 = .ok (.aload_n 0, 1) := by decide +kernel
theorem dX8_startRounds_27 : decode cX8_startRounds 27 = .ok (.invokevirtual 104, 3) := by decide +kernel
theorem dX8_startRounds_30 : decode cX8_startRounds 30 = .ok (.return_, 1) := by decide +kernel
set_option maxRecDepth 20000 in
theorem ggX8_renew_X2_takeCofactors : GoodIn wsX8_renew wsX2_takeCofactors := goodIn_r _ [13, 14, 15, 16, 17, 18, 19, 20, 21, 22, 12, 23, 24, 25, 26, 27, 28, 29, 30, 65, 66, 67, 68, 69, 70, 71, 72, 73, 74] (by decide +kernel) (by decide +kernel)
set_option maxRecDepth 20000 in
theorem gX8_renew_X2_takeCofactors : GoodIn wsX8_renew (wsV RX8 222 RX2 yX2_takeCofactors wsX2_takeCofactors) := goodIn_app (goodIn_of _ (by decide +kernel)) ggX8_renew_X2_takeCofactors
set_option maxRecDepth 20000 in
theorem ggX8_renew_X0_take : GoodIn wsX8_renew wsX0_take := goodIn_r _ [35, 36, 37, 38, 39, 40, 41, 42, 12, 43, 24, 17, 14, 15, 16, 19, 18, 25, 26, 27, 28, 29, 30, 44, 45, 46, 47, 75, 76, 77, 78, 79, 65, 66, 67, 68, 69, 70, 71, 72, 73, 74] (by decide +kernel) (by decide +kernel)
set_option maxRecDepth 20000 in
theorem gX8_renew_X0_take : GoodIn wsX8_renew (wsV RX8 226 RX0 yX0_take wsX0_take) := goodIn_app (goodIn_of _ (by decide +kernel)) ggX8_renew_X0_take
theorem dX8_renew_0 : decode cX8_renew 0 = .ok (.aload_n 0, 1) := by decide +kernel
theorem dX8_renew_1 : decode cX8_renew 1 = .ok (.getfield 27, 3) := by decide +kernel
theorem dX8_renew_4 : decode cX8_renew 4 = .ok (.aload_n 0, 1) := by decide +kernel
theorem dX8_renew_5 : decode cX8_renew 5 = .ok (.getfield 23, 3) := by decide +kernel
theorem dX8_renew_8 : decode cX8_renew 8 = .ok (.invokevirtual 222, 3) := by decide +kernel
theorem dX8_renew_11 : decode cX8_renew 11 = .ok (.aload_n 0, 1) := by decide +kernel
theorem dX8_renew_12 : decode cX8_renew 12 = .ok (.getfield 33, 3) := by decide +kernel
theorem dX8_renew_15 : decode cX8_renew 15 = .ok (.aload_n 0, 1) := by decide +kernel
theorem dX8_renew_16 : decode cX8_renew 16 = .ok (.getfield 30, 3) := by decide +kernel
theorem dX8_renew_19 : decode cX8_renew 19 = .ok (.invokevirtual 222, 3) := by decide +kernel
theorem dX8_renew_22 : decode cX8_renew 22 = .ok (.aload_n 0, 1) := by decide +kernel
theorem dX8_renew_23 : decode cX8_renew 23 = .ok (.getfield 58, 3) := by decide +kernel
theorem dX8_renew_26 : decode cX8_renew 26 = .ok (.aload_n 0, 1) := by decide +kernel
theorem dX8_renew_27 : decode cX8_renew 27 = .ok (.getfield 23, 3) := by decide +kernel
theorem dX8_renew_30 : decode cX8_renew 30 = .ok (.aload_n 0, 1) := by decide +kernel
theorem dX8_renew_31 : decode cX8_renew 31 = .ok (.getfield 27, 3) := by decide +kernel
theorem dX8_renew_34 : decode cX8_renew 34 = .ok (.aload_n 0, 1) := by decide +kernel
theorem dX8_renew_35 : decode cX8_renew 35 = .ok (.getfield 30, 3) := by decide +kernel
theorem dX8_renew_38 : decode cX8_renew 38 = .ok (.aload_n 0, 1) := by decide +kernel
theorem dX8_renew_39 : decode cX8_renew 39 = .ok (.getfield 33, 3) := by decide +kernel
theorem dX8_renew_42 : decode cX8_renew 42 = .ok (.invokevirtual 226, 3) := by decide +kernel
theorem dX8_renew_45 : decode cX8_renew 45 = .ok (.aload_n 0, 1) := by decide +kernel
theorem dX8_renew_46 : decode cX8_renew 46 = .ok (.iconst 0, 1) := by decide +kernel
theorem dX8_renew_47 : decode cX8_renew 47 = .ok (.putfield 229, 3) := by decide +kernel
theorem dX8_renew_50 : decode cX8_renew 50 = .ok (.aload_n 0, 1) := by decide +kernel
theorem dX8_renew_51 : decode cX8_renew 51 = .ok (.iconst 0, 1) := by decide +kernel
theorem dX8_renew_52 : decode cX8_renew 52 = .ok (.putfield 233, 3) := by decide +kernel
theorem dX8_renew_55 : decode cX8_renew 55 = .ok (.aload_n 0, 1) := by decide +kernel
theorem dX8_renew_56 : decode cX8_renew 56 = .ok (.iconst 0, 1) := by decide +kernel
theorem dX8_renew_57 : decode cX8_renew 57 = .ok (.putfield 236, 3) := by decide +kernel
theorem dX8_renew_60 : decode cX8_renew 60 = .ok (.return_, 1) := by decide +kernel
set_option maxRecDepth 20000 in
theorem ggX8_knowWalks_X0_isGood : GoodIn wsX8_knowWalks wsX0_isGood := goodIn_r _ [10, 11, 12, 13, 14, 15, 9, 16, 17, 18, 19, 20, 21, 22, 23, 24, 25, 190, 191, 192, 193, 194, 195, 196, 197] (by decide +kernel) (by decide +kernel)
set_option maxRecDepth 20000 in
theorem gX8_knowWalks_X0_isGood : GoodIn wsX8_knowWalks (wsV RX8 127 RX0 yX0_isGood wsX0_isGood) := goodIn_app (goodIn_of _ (by decide +kernel)) ggX8_knowWalks_X0_isGood
set_option maxRecDepth 20000 in
theorem ggX8_knowWalks_X5_findPoints : GoodIn wsX8_knowWalks wsX5_findPoints := goodIn_r _ [30, 31, 32, 33, 34, 35, 36, 37, 23, 38, 25, 39, 40, 41, 42, 43, 44, 45, 46, 47, 48, 21, 22, 24, 49, 50, 51, 52, 53, 54, 55, 56, 57, 58, 59, 60, 61, 62, 63, 64, 65, 66, 67, 68, 69, 70, 71, 72, 73, 74, 75, 76, 77, 78, 79, 80, 81, 82, 83, 84, 85, 86, 87, 88, 89, 90, 91, 92, 93, 94, 95, 96, 97, 98, 99, 100, 101, 102, 103, 104, 105, 106, 107, 108, 109, 110, 111, 112, 113, 114, 115, 116, 117, 118, 119, 29, 120, 121, 122, 123, 124, 125, 126, 127, 128, 129, 198, 199, 200, 201, 202, 203, 204, 205, 206, 207, 208, 209, 210, 211, 212, 213, 195, 196, 197, 214, 215, 216, 217, 218, 219, 220, 221, 222, 223, 224, 225, 226, 227, 228, 229, 230, 231] (by decide +kernel) (by decide +kernel)
set_option maxRecDepth 20000 in
theorem gX8_knowWalks_X5_findPoints : GoodIn wsX8_knowWalks (wsV RX8 239 RX5 yX5_findPoints wsX5_findPoints) := goodIn_app (goodIn_of _ (by decide +kernel)) ggX8_knowWalks_X5_findPoints
set_option maxRecDepth 20000 in
theorem ggX8_knowWalks_X5_findFlags : GoodIn wsX8_knowWalks wsX5_findFlags := goodIn_r _ [133, 134, 31, 135, 34, 121, 136, 137, 59, 60, 61, 62, 63, 64, 65, 66, 67, 68, 69, 70, 71, 72, 73, 74, 75, 42, 76, 44, 47, 46, 45, 53, 36, 37, 23, 38, 25, 77, 40, 41, 43, 48, 21, 22, 24, 78, 79, 80, 81, 82, 83, 84, 85, 86, 87, 88, 89, 90, 91, 92, 93, 94, 95, 96, 97, 98, 99, 100, 101, 102, 103, 104, 105, 106, 107, 108, 109, 110, 50, 51, 52, 54, 55, 56, 57, 58, 111, 112, 113, 114, 115, 116, 122, 123, 124, 125, 126, 127, 128, 129, 198, 199, 200, 201, 202, 203, 204, 205, 206, 207, 208, 209, 210, 211, 212, 213, 218, 219, 220, 221, 222, 223, 224, 214, 215, 216, 217, 195, 196, 197, 225, 226, 227, 228, 229, 230, 231] (by decide +kernel) (by decide +kernel)
set_option maxRecDepth 20000 in
theorem gX8_knowWalks_X5_findFlags : GoodIn wsX8_knowWalks (wsV RX8 242 RX5 yX5_findFlags wsX5_findFlags) := goodIn_app (goodIn_of _ (by decide +kernel)) ggX8_knowWalks_X5_findFlags
set_option maxRecDepth 20000 in
theorem ggX8_knowWalks_X5_findSteps : GoodIn wsX8_knowWalks wsX5_findSteps := goodIn_r _ [141, 134, 34, 137, 121, 136, 142, 143, 59, 60, 61, 62, 63, 64, 65, 66, 67, 68, 69, 70, 71, 72, 73, 74, 75, 42, 76, 44, 47, 46, 45, 53, 36, 37, 23, 38, 25, 77, 40, 41, 43, 48, 21, 22, 24, 78, 79, 80, 81, 82, 83, 84, 85, 86, 87, 88, 89, 90, 91, 92, 93, 94, 95, 96, 97, 98, 99, 100, 101, 102, 103, 104, 105, 106, 107, 108, 109, 110, 50, 51, 52, 54, 55, 56, 57, 58, 111, 112, 113, 114, 115, 116, 144, 145, 146, 147, 148, 149, 150, 29, 151, 31, 152, 153, 154, 155, 135, 156, 157, 158, 159, 198, 199, 200, 201, 202, 203, 204, 205, 206, 207, 208, 209, 210, 211, 212, 213, 218, 219, 220, 221, 222, 223, 224, 214, 215, 216, 217, 195, 196, 197, 225, 226, 227, 228, 229, 230, 231] (by decide +kernel) (by decide +kernel)
set_option maxRecDepth 20000 in
theorem gX8_knowWalks_X5_findSteps : GoodIn wsX8_knowWalks (wsV RX8 245 RX5 yX5_findSteps wsX5_findSteps) := goodIn_app (goodIn_of _ (by decide +kernel)) ggX8_knowWalks_X5_findSteps
set_option maxRecDepth 20000 in
theorem ggX8_knowWalks_X5_findRings : GoodIn wsX8_knowWalks wsX5_findRings := goodIn_r _ [163, 164, 134, 165, 166, 167, 168, 29, 169, 170, 171, 142, 172, 198, 199, 200, 201, 202, 203, 204, 205, 206, 207, 208, 209, 210, 211, 212, 213] (by decide +kernel) (by decide +kernel)
set_option maxRecDepth 20000 in
theorem gX8_knowWalks_X5_findRings : GoodIn wsX8_knowWalks (wsV RX8 248 RX5 yX5_findRings wsX5_findRings) := goodIn_app (goodIn_of _ (by decide +kernel)) ggX8_knowWalks_X5_findRings
theorem dX8_knowWalks_0 : decode cX8_knowWalks 0 = .ok (.aload_n 0, 1) := by decide +kernel
theorem dX8_knowWalks_1 : decode cX8_knowWalks 1 = .ok (.getfield 58, 3) := by decide +kernel
theorem dX8_knowWalks_4 : decode cX8_knowWalks 4 = .ok (.invokevirtual 127, 3) := by decide +kernel
theorem dX8_knowWalks_7 : decode cX8_knowWalks 7 = .ok (.ifCond .ne 5, 3) := by decide +kernel
theorem dX8_knowWalks_10 : decode cX8_knowWalks 10 = .ok (.iconst 0, 1) := by decide +kernel
theorem dX8_knowWalks_11 : decode cX8_knowWalks 11 = .ok (.ireturn, 1) := by decide +kernel
theorem dX8_knowWalks_12 : decode cX8_knowWalks 12 = .ok (.aload_n 0, 1) := by decide +kernel
theorem dX8_knowWalks_13 : decode cX8_knowWalks 13 = .ok (.getfield 229, 3) := by decide +kernel
theorem dX8_knowWalks_16 : decode cX8_knowWalks 16 = .ok (.ifCond .ne 48, 3) := by decide +kernel
theorem dX8_knowWalks_19 : decode cX8_knowWalks 19 = .ok (.aload_n 0, 1) := by decide +kernel
theorem dX8_knowWalks_20 : decode cX8_knowWalks 20 = .ok (.getfield 65, 3) := by decide +kernel
theorem dX8_knowWalks_23 : decode cX8_knowWalks 23 = .ok (.aload_n 0, 1) := by decide +kernel
theorem dX8_knowWalks_24 : decode cX8_knowWalks 24 = .ok (.getfield 23, 3) := by decide +kernel
theorem dX8_knowWalks_27 : decode cX8_knowWalks 27 = .ok (.invokevirtual 239, 3) := by decide +kernel
theorem dX8_knowWalks_30 : decode cX8_knowWalks 30 = .ok (.aload_n 0, 1) := by decide +kernel
theorem dX8_knowWalks_31 : decode cX8_knowWalks 31 = .ok (.getfield 65, 3) := by decide +kernel
theorem dX8_knowWalks_34 : decode cX8_knowWalks 34 = .ok (.aload_n 0, 1) := by decide +kernel
theorem dX8_knowWalks_35 : decode cX8_knowWalks 35 = .ok (.getfield 33, 3) := by decide +kernel
theorem dX8_knowWalks_38 : decode cX8_knowWalks 38 = .ok (.invokevirtual 242, 3) := by decide +kernel
theorem dX8_knowWalks_41 : decode cX8_knowWalks 41 = .ok (.aload_n 0, 1) := by decide +kernel
theorem dX8_knowWalks_42 : decode cX8_knowWalks 42 = .ok (.getfield 65, 3) := by decide +kernel
theorem dX8_knowWalks_45 : decode cX8_knowWalks 45 = .ok (.aload_n 0, 1) := by decide +kernel
theorem dX8_knowWalks_46 : decode cX8_knowWalks 46 = .ok (.getfield 23, 3) := by decide +kernel
theorem dX8_knowWalks_49 : decode cX8_knowWalks 49 = .ok (.invokevirtual 245, 3) := by decide +kernel
theorem dX8_knowWalks_52 : decode cX8_knowWalks 52 = .ok (.aload_n 0, 1) := by decide +kernel
theorem dX8_knowWalks_53 : decode cX8_knowWalks 53 = .ok (.getfield 65, 3) := by decide +kernel
theorem dX8_knowWalks_56 : decode cX8_knowWalks 56 = .ok (.invokevirtual 248, 3) := by decide +kernel
theorem dX8_knowWalks_59 : decode cX8_knowWalks 59 = .ok (.aload_n 0, 1) := by decide +kernel
theorem dX8_knowWalks_60 : decode cX8_knowWalks 60 = .ok (.iconst 1, 1) := by decide +kernel
theorem dX8_knowWalks_61 : decode cX8_knowWalks 61 = .ok (.putfield 229, 3) := by decide +kernel
theorem dX8_knowWalks_64 : decode cX8_knowWalks 64 = .ok (.iconst 1, 1) := by decide +kernel
theorem dX8_knowWalks_65 : decode cX8_knowWalks 65 = .ok (.ireturn, 1) := by decide +kernel
set_option maxRecDepth 20000 in
theorem ggX8_knowAdding_X0_isGood : GoodIn wsX8_knowAdding wsX0_isGood := goodIn_r _ [8, 9, 10, 11, 12, 13, 7, 14, 15, 16, 17, 18, 19, 20, 21, 22, 23, 80, 81, 82, 83, 84, 85, 86, 87] (by decide +kernel) (by decide +kernel)
set_option maxRecDepth 20000 in
theorem gX8_knowAdding_X0_isGood : GoodIn wsX8_knowAdding (wsV RX8 127 RX0 yX0_isGood wsX0_isGood) := goodIn_app (goodIn_of _ (by decide +kernel)) ggX8_knowAdding_X0_isGood
set_option maxRecDepth 20000 in
theorem ggX8_knowAdding_X1_findMultiples : GoodIn wsX8_knowAdding wsX1_findMultiples := goodIn_r _ [28, 29, 30, 31, 32, 33, 34, 35, 7, 36, 15, 9, 37, 38, 39, 40, 16, 17, 10, 41, 42, 43, 21, 44, 23, 45, 18, 19, 20, 22, 46, 47, 88, 89, 90, 91, 92, 80, 81, 82, 83, 84, 85, 86, 87] (by decide +kernel) (by decide +kernel)
set_option maxRecDepth 20000 in
theorem gX8_knowAdding_X1_findMultiples : GoodIn wsX8_knowAdding (wsV RX8 251 RX1 yX1_findMultiples wsX1_findMultiples) := goodIn_app (goodIn_of _ (by decide +kernel)) ggX8_knowAdding_X1_findMultiples
set_option maxRecDepth 20000 in
theorem ggX8_knowAdding_X1_findCount : GoodIn wsX8_knowAdding wsX1_findCount := goodIn_r _ [51, 52, 29, 33, 34, 35, 7, 36, 15, 9, 37, 38, 39, 40, 16, 17, 10, 41, 42, 43, 21, 44, 23, 45, 18, 19, 20, 22, 53, 54, 55, 56, 47, 57, 58, 59, 60, 61, 62, 88, 89, 90, 91, 92, 80, 81, 82, 83, 84, 85, 86, 87] (by decide +kernel) (by decide +kernel)
set_option maxRecDepth 20000 in
theorem gX8_knowAdding_X1_findCount : GoodIn wsX8_knowAdding (wsV RX8 255 RX1 yX1_findCount wsX1_findCount) := goodIn_app (goodIn_of _ (by decide +kernel)) ggX8_knowAdding_X1_findCount
theorem dX8_knowAdding_0 : decode cX8_knowAdding 0 = .ok (.aload_n 0, 1) := by decide +kernel
theorem dX8_knowAdding_1 : decode cX8_knowAdding 1 = .ok (.getfield 58, 3) := by decide +kernel
theorem dX8_knowAdding_4 : decode cX8_knowAdding 4 = .ok (.invokevirtual 127, 3) := by decide +kernel
theorem dX8_knowAdding_7 : decode cX8_knowAdding 7 = .ok (.ifCond .ne 5, 3) := by decide +kernel
theorem dX8_knowAdding_10 : decode cX8_knowAdding 10 = .ok (.iconst 0, 1) := by decide +kernel
theorem dX8_knowAdding_11 : decode cX8_knowAdding 11 = .ok (.ireturn, 1) := by decide +kernel
theorem dX8_knowAdding_12 : decode cX8_knowAdding 12 = .ok (.aload_n 0, 1) := by decide +kernel
theorem dX8_knowAdding_13 : decode cX8_knowAdding 13 = .ok (.getfield 233, 3) := by decide +kernel
theorem dX8_knowAdding_16 : decode cX8_knowAdding 16 = .ok (.ifCond .ne 30, 3) := by decide +kernel
theorem dX8_knowAdding_19 : decode cX8_knowAdding 19 = .ok (.aload_n 0, 1) := by decide +kernel
theorem dX8_knowAdding_20 : decode cX8_knowAdding 20 = .ok (.getfield 72, 3) := by decide +kernel
theorem dX8_knowAdding_23 : decode cX8_knowAdding 23 = .ok (.aload_n 0, 1) := by decide +kernel
theorem dX8_knowAdding_24 : decode cX8_knowAdding 24 = .ok (.getfield 58, 3) := by decide +kernel
theorem dX8_knowAdding_27 : decode cX8_knowAdding 27 = .ok (.invokevirtual 251, 3) := by decide +kernel
theorem dX8_knowAdding_30 : decode cX8_knowAdding 30 = .ok (.aload_n 0, 1) := by decide +kernel
theorem dX8_knowAdding_31 : decode cX8_knowAdding 31 = .ok (.getfield 72, 3) := by decide +kernel
theorem dX8_knowAdding_34 : decode cX8_knowAdding 34 = .ok (.aload_n 0, 1) := by decide +kernel
theorem dX8_knowAdding_35 : decode cX8_knowAdding 35 = .ok (.getfield 58, 3) := by decide +kernel
theorem dX8_knowAdding_38 : decode cX8_knowAdding 38 = .ok (.invokevirtual 255, 3) := by decide +kernel
theorem dX8_knowAdding_41 : decode cX8_knowAdding 41 = .ok (.aload_n 0, 1) := by decide +kernel
theorem dX8_knowAdding_42 : decode cX8_knowAdding 42 = .ok (.iconst 1, 1) := by decide +kernel
theorem dX8_knowAdding_43 : decode cX8_knowAdding 43 = .ok (.putfield 233, 3) := by decide +kernel
theorem dX8_knowAdding_46 : decode cX8_knowAdding 46 = .ok (.iconst 1, 1) := by decide +kernel
theorem dX8_knowAdding_47 : decode cX8_knowAdding 47 = .ok (.ireturn, 1) := by decide +kernel
set_option maxRecDepth 20000 in
theorem ggX8_knowRow_X0_isGood : GoodIn wsX8_knowRow wsX0_isGood := goodIn_r _ [8, 9, 10, 11, 12, 13, 7, 14, 15, 16, 17, 18, 19, 20, 21, 22, 23, 63, 64, 65, 66, 67, 68, 69, 70] (by decide +kernel) (by decide +kernel)
set_option maxRecDepth 20000 in
theorem gX8_knowRow_X0_isGood : GoodIn wsX8_knowRow (wsV RX8 127 RX0 yX0_isGood wsX0_isGood) := goodIn_app (goodIn_of _ (by decide +kernel)) ggX8_knowRow_X0_isGood
set_option maxRecDepth 20000 in
theorem ggX8_knowRow_X6_take : GoodIn wsX8_knowRow wsX6_take := goodIn_r _ [28, 29, 30, 31, 32, 33, 21, 34, 23, 35, 36, 37, 38, 7, 39, 15, 9, 40, 41, 42, 43, 16, 17, 10, 44, 18, 19, 20, 22, 45, 71, 72, 73, 68, 69, 70, 63, 64, 65, 66, 67] (by decide +kernel) (by decide +kernel)
set_option maxRecDepth 20000 in
theorem gX8_knowRow_X6_take : GoodIn wsX8_knowRow (wsV RX8 258 RX6 yX6_take wsX6_take) := goodIn_app (goodIn_of _ (by decide +kernel)) ggX8_knowRow_X6_take
theorem dX8_knowRow_0 : decode cX8_knowRow 0 = .ok (.aload_n 0, 1) := by decide +kernel
theorem dX8_knowRow_1 : decode cX8_knowRow 1 = .ok (.getfield 58, 3) := by decide +kernel
theorem dX8_knowRow_4 : decode cX8_knowRow 4 = .ok (.invokevirtual 127, 3) := by decide +kernel
theorem dX8_knowRow_7 : decode cX8_knowRow 7 = .ok (.ifCond .ne 5, 3) := by decide +kernel
theorem dX8_knowRow_10 : decode cX8_knowRow 10 = .ok (.iconst 0, 1) := by decide +kernel
theorem dX8_knowRow_11 : decode cX8_knowRow 11 = .ok (.ireturn, 1) := by decide +kernel
theorem dX8_knowRow_12 : decode cX8_knowRow 12 = .ok (.aload_n 0, 1) := by decide +kernel
theorem dX8_knowRow_13 : decode cX8_knowRow 13 = .ok (.getfield 236, 3) := by decide +kernel
theorem dX8_knowRow_16 : decode cX8_knowRow 16 = .ok (.ifCond .ne 19, 3) := by decide +kernel
theorem dX8_knowRow_19 : decode cX8_knowRow 19 = .ok (.aload_n 0, 1) := by decide +kernel
theorem dX8_knowRow_20 : decode cX8_knowRow 20 = .ok (.getfield 79, 3) := by decide +kernel
theorem dX8_knowRow_23 : decode cX8_knowRow 23 = .ok (.aload_n 0, 1) := by decide +kernel
theorem dX8_knowRow_24 : decode cX8_knowRow 24 = .ok (.getfield 58, 3) := by decide +kernel
theorem dX8_knowRow_27 : decode cX8_knowRow 27 = .ok (.invokevirtual 258, 3) := by decide +kernel
theorem dX8_knowRow_30 : decode cX8_knowRow 30 = .ok (.aload_n 0, 1) := by decide +kernel
theorem dX8_knowRow_31 : decode cX8_knowRow 31 = .ok (.iconst 1, 1) := by decide +kernel
theorem dX8_knowRow_32 : decode cX8_knowRow 32 = .ok (.putfield 236, 3) := by decide +kernel
theorem dX8_knowRow_35 : decode cX8_knowRow 35 = .ok (.iconst 1, 1) := by decide +kernel
theorem dX8_knowRow_36 : decode cX8_knowRow 36 = .ok (.ireturn, 1) := by decide +kernel
set_option maxRecDepth 20000 in
theorem ggX8_mixTouching_X2_takeMix : GoodIn wsX8_mixTouching wsX2_takeMix := goodIn_r _ [9, 10, 11, 12, 13, 14, 15, 16, 17, 18, 8, 19, 20, 21, 22, 23, 24, 25, 26, 48, 49, 50, 51, 52, 53, 54, 55, 56, 57] (by decide +kernel) (by decide +kernel)
set_option maxRecDepth 20000 in
theorem gX8_mixTouching_X2_takeMix : GoodIn wsX8_mixTouching (wsV RX8 131 RX2 yX2_takeMix wsX2_takeMix) := goodIn_app (goodIn_of _ (by decide +kernel)) ggX8_mixTouching_X2_takeMix
set_option maxRecDepth 20000 in
theorem ggX8_mixTouching_X2_takeCofactors : GoodIn wsX8_mixTouching wsX2_takeCofactors := goodIn_r _ [30, 11, 12, 13, 10, 14, 15, 16, 17, 18, 8, 19, 20, 21, 22, 23, 24, 25, 26, 48, 49, 50, 51, 52, 53, 54, 55, 56, 57] (by decide +kernel) (by decide +kernel)
set_option maxRecDepth 20000 in
theorem gX8_mixTouching_X2_takeCofactors : GoodIn wsX8_mixTouching (wsV RX8 222 RX2 yX2_takeCofactors wsX2_takeCofactors) := goodIn_app (goodIn_of _ (by decide +kernel)) ggX8_mixTouching_X2_takeCofactors
theorem dX8_mixTouching_0 : decode cX8_mixTouching 0 = .ok (.aload_n 0, 1) := by decide +kernel
theorem dX8_mixTouching_1 : decode cX8_mixTouching 1 = .ok (.getfield 36, 3) := by decide +kernel
theorem dX8_mixTouching_4 : decode cX8_mixTouching 4 = .ok (.iload_n 1, 1) := by decide +kernel
theorem dX8_mixTouching_5 : decode cX8_mixTouching 5 = .ok (.aload_n 0, 1) := by decide +kernel
theorem dX8_mixTouching_6 : decode cX8_mixTouching 6 = .ok (.getfield 23, 3) := by decide +kernel
theorem dX8_mixTouching_9 : decode cX8_mixTouching 9 = .ok (.iload_n 2, 1) := by decide +kernel
theorem dX8_mixTouching_10 : decode cX8_mixTouching 10 = .ok (.aload_n 0, 1) := by decide +kernel
theorem dX8_mixTouching_11 : decode cX8_mixTouching 11 = .ok (.getfield 30, 3) := by decide +kernel
theorem dX8_mixTouching_14 : decode cX8_mixTouching 14 = .ok (.invokevirtual 131, 3) := by decide +kernel
theorem dX8_mixTouching_17 : decode cX8_mixTouching 17 = .ok (.aload_n 0, 1) := by decide +kernel
theorem dX8_mixTouching_18 : decode cX8_mixTouching 18 = .ok (.getfield 39, 3) := by decide +kernel
theorem dX8_mixTouching_21 : decode cX8_mixTouching 21 = .ok (.aload_n 0, 1) := by decide +kernel
theorem dX8_mixTouching_22 : decode cX8_mixTouching 22 = .ok (.getfield 36, 3) := by decide +kernel
theorem dX8_mixTouching_25 : decode cX8_mixTouching 25 = .ok (.invokevirtual 222, 3) := by decide +kernel
theorem dX8_mixTouching_28 : decode cX8_mixTouching 28 = .ok (.return_, 1) := by decide +kernel
set_option maxRecDepth 20000 in
theorem ggX8_mixSkip_X1_acrossAt : GoodIn wsX8_mixSkip wsX1_acrossAt := goodIn_r _ [6, 7, 8, 61, 62, 63, 64, 65] (by decide +kernel) (by decide +kernel)
set_option maxRecDepth 20000 in
theorem gX8_mixSkip_X1_acrossAt : GoodIn wsX8_mixSkip (wsV RX8 207 RX1 yX1_acrossAt wsX1_acrossAt) := goodIn_app (goodIn_of _ (by decide +kernel)) ggX8_mixSkip_X1_acrossAt
set_option maxRecDepth 20000 in
theorem ggX8_mixSkip_X8_mixTouching : GoodIn wsX8_mixSkip wsX8_mixTouching := goodIn_r _ [13, 14, 15, 16, 17, 18, 19, 20, 21, 22, 23, 24, 25, 26, 27, 28, 29, 30, 31, 32, 33, 34, 35, 36, 37, 38, 39, 40, 41, 42, 43, 44, 45, 46, 47, 48, 49, 50, 51, 52, 53, 54, 55, 56, 57, 58, 59, 60, 66, 67, 68, 69, 70, 71, 72, 73, 74, 75] (by decide +kernel) (by decide +kernel)
set_option maxRecDepth 20000 in
theorem gX8_mixSkip_X8_mixTouching : GoodIn wsX8_mixSkip (wsV RX8 142 RX8 yX8_mixTouching wsX8_mixTouching) := goodIn_app (goodIn_of _ (by decide +kernel)) ggX8_mixSkip_X8_mixTouching
theorem dX8_mixSkip_0 : decode cX8_mixSkip 0 = .ok (.aload_n 0, 1) := by decide +kernel
theorem dX8_mixSkip_1 : decode cX8_mixSkip 1 = .ok (.getfield 72, 3) := by decide +kernel
theorem dX8_mixSkip_4 : decode cX8_mixSkip 4 = .ok (.iload_n 1, 1) := by decide +kernel
theorem dX8_mixSkip_5 : decode cX8_mixSkip 5 = .ok (.invokevirtual 207, 3) := by decide +kernel
theorem dX8_mixSkip_8 : decode cX8_mixSkip 8 = .ok (.istore_n 2, 1) := by decide +kernel
theorem dX8_mixSkip_9 : decode cX8_mixSkip 9 = .ok (.iload_n 2, 1) := by decide +kernel
theorem dX8_mixSkip_10 : decode cX8_mixSkip 10 = .ok (.bipush (-6), 2) := by decide +kernel
theorem dX8_mixSkip_12 : decode cX8_mixSkip 12 = .ok (.if_icmp .ne 12, 3) := by decide +kernel
theorem dX8_mixSkip_15 : decode cX8_mixSkip 15 = .ok (.aload_n 0, 1) := by decide +kernel
theorem dX8_mixSkip_16 : decode cX8_mixSkip 16 = .ok (.iconst 1, 1) := by decide +kernel
theorem dX8_mixSkip_17 : decode cX8_mixSkip 17 = .ok (.iconst 0, 1) := by decide +kernel
theorem dX8_mixSkip_18 : decode cX8_mixSkip 18 = .ok (.invokevirtual 142, 3) := by decide +kernel
theorem dX8_mixSkip_21 : decode cX8_mixSkip 21 = .ok (.goto 9, 3) := by decide +kernel
theorem dX8_mixSkip_24 : decode cX8_mixSkip 24 = .ok (.aload_n 0, 1) := by decide +kernel
theorem dX8_mixSkip_25 : decode cX8_mixSkip 25 = .ok (.iload_n 2, 1) := by decide +kernel
theorem dX8_mixSkip_26 : decode cX8_mixSkip 26 = .ok (.iconst 1, 1) := by decide +kernel
theorem dX8_mixSkip_27 : decode cX8_mixSkip 27 = .ok (.invokevirtual 142, 3) := by decide +kernel
theorem dX8_mixSkip_30 : decode cX8_mixSkip 30 = .ok (.return_, 1) := by decide +kernel
set_option maxRecDepth 20000 in
theorem ggX8_drawChord_X5_pointOf : GoodIn wsX8_drawChord wsX5_pointOf := goodIn_r _ [10, 11, 12, 13, 14, 9, 15, 16, 103, 104, 105, 106, 107, 108, 109, 110, 111, 112, 113, 114, 115, 116, 117, 118] (by decide +kernel) (by decide +kernel)
set_option maxRecDepth 20000 in
theorem gX8_drawChord_X5_pointOf : GoodIn wsX8_drawChord (wsV RX8 171 RX5 yX5_pointOf wsX5_pointOf) := goodIn_app (goodIn_of _ (by decide +kernel)) ggX8_drawChord_X5_pointOf
set_option maxRecDepth 20000 in
theorem ggX8_drawChord_X5_pointKey : GoodIn wsX8_drawChord wsX5_pointKey := goodIn_r _ [20, 21, 22, 23, 24, 9, 25, 26, 103, 104, 105, 106, 107, 108, 109, 110, 111, 112, 113, 114, 115, 116, 117, 118] (by decide +kernel) (by decide +kernel)
set_option maxRecDepth 20000 in
theorem gX8_drawChord_X5_pointKey : GoodIn wsX8_drawChord (wsV RX8 158 RX5 yX5_pointKey wsX5_pointKey) := goodIn_app (goodIn_of _ (by decide +kernel)) ggX8_drawChord_X5_pointKey
set_option maxRecDepth 20000 in
theorem ggX8_drawChord_X5_after : GoodIn wsX8_drawChord wsX5_after := goodIn_r _ [30, 31, 32, 33, 34, 12, 13, 14, 9, 15, 16, 103, 104, 105, 106, 107, 108, 109, 110, 111, 112, 113, 114, 115, 116, 117, 118] (by decide +kernel) (by decide +kernel)
set_option maxRecDepth 20000 in
theorem gX8_drawChord_X5_after : GoodIn wsX8_drawChord (wsV RX8 184 RX5 yX5_after wsX5_after) := goodIn_app (goodIn_of _ (by decide +kernel)) ggX8_drawChord_X5_after
set_option maxRecDepth 20000 in
theorem ggX8_drawChord_X7_takeKey : GoodIn wsX8_drawChord wsX7_takeKey := goodIn_r _ [39, 40, 41, 42, 43, 44, 45, 46, 47, 48, 49, 119, 120, 121, 122, 123, 124, 125] (by decide +kernel) (by decide +kernel)
set_option maxRecDepth 20000 in
theorem gX8_drawChord_X7_takeKey : GoodIn wsX8_drawChord (wsV RX8 161 RX7 yX7_takeKey wsX7_takeKey) := goodIn_app (goodIn_of _ (by decide +kernel)) ggX8_drawChord_X7_takeKey
set_option maxRecDepth 20000 in
theorem ggX8_drawChord_X7_takePolar : GoodIn wsX8_drawChord wsX7_takePolar := goodIn_r _ [53, 54, 55, 56, 57, 58, 59, 60, 61, 62, 63, 64, 65, 66, 67, 38, 68, 40, 43, 42, 41, 69, 70, 71, 47, 72, 49, 126, 127, 128, 129, 130, 131, 132, 119, 120, 121, 122, 123, 124, 125] (by decide +kernel) (by decide +kernel)
set_option maxRecDepth 20000 in
theorem gX8_drawChord_X7_takePolar : GoodIn wsX8_drawChord (wsV RX8 260 RX7 yX7_takePolar wsX7_takePolar) := goodIn_app (goodIn_of _ (by decide +kernel)) ggX8_drawChord_X7_takePolar
set_option maxRecDepth 20000 in
theorem ggX8_drawChord_X7_takeJoin : GoodIn wsX8_drawChord wsX7_takeJoin := goodIn_r _ [76, 42, 41, 43, 65, 66, 67, 38, 68, 40, 69, 70, 71, 47, 72, 49, 119, 120, 121, 122, 123, 124, 125] (by decide +kernel) (by decide +kernel)
set_option maxRecDepth 20000 in
theorem gX8_drawChord_X7_takeJoin : GoodIn wsX8_drawChord (wsV RX8 264 RX7 yX7_takeJoin wsX7_takeJoin) := goodIn_app (goodIn_of _ (by decide +kernel)) ggX8_drawChord_X7_takeJoin
set_option maxRecDepth 20000 in
theorem ggX8_drawChord_X7_key : GoodIn wsX8_drawChord wsX7_key := goodIn_r _ [80, 40, 41, 42, 43, 44, 45, 46, 47, 48, 49, 81, 82, 83, 84, 85, 69, 70, 71, 72, 119, 120, 121, 122, 123, 124, 125] (by decide +kernel) (by decide +kernel)
set_option maxRecDepth 20000 in
theorem gX8_drawChord_X7_key : GoodIn wsX8_drawChord (wsV RX8 268 RX7 yX7_key wsX7_key) := goodIn_app (goodIn_of _ (by decide +kernel)) ggX8_drawChord_X7_key
theorem dX8_drawChord_0 : decode cX8_drawChord 0 = .ok (.aload_n 0, 1) := by decide +kernel
theorem dX8_drawChord_1 : decode cX8_drawChord 1 = .ok (.getfield 65, 3) := by decide +kernel
theorem dX8_drawChord_4 : decode cX8_drawChord 4 = .ok (.aload_n 0, 1) := by decide +kernel
theorem dX8_drawChord_5 : decode cX8_drawChord 5 = .ok (.getfield 65, 3) := by decide +kernel
theorem dX8_drawChord_8 : decode cX8_drawChord 8 = .ok (.iload_n 1, 1) := by decide +kernel
theorem dX8_drawChord_9 : decode cX8_drawChord 9 = .ok (.invokevirtual 171, 3) := by decide +kernel
theorem dX8_drawChord_12 : decode cX8_drawChord 12 = .ok (.invokevirtual 158, 3) := by decide +kernel
theorem dX8_drawChord_15 : decode cX8_drawChord 15 = .ok (.istore_n 3, 1) := by decide +kernel
theorem dX8_drawChord_16 : decode cX8_drawChord 16 = .ok (.aload_n 0, 1) := by decide +kernel
theorem dX8_drawChord_17 : decode cX8_drawChord 17 = .ok (.getfield 65, 3) := by decide +kernel
theorem dX8_drawChord_20 : decode cX8_drawChord 20 = .ok (.aload_n 0, 1) := by decide +kernel
theorem dX8_drawChord_21 : decode cX8_drawChord 21 = .ok (.getfield 65, 3) := by decide +kernel
theorem dX8_drawChord_24 : decode cX8_drawChord 24 = .ok (.aload_n 0, 1) := by decide +kernel
theorem dX8_drawChord_25 : decode cX8_drawChord 25 = .ok (.getfield 65, 3) := by decide +kernel
theorem dX8_drawChord_28 : decode cX8_drawChord 28 = .ok (.iload_n 1, 1) := by decide +kernel
theorem dX8_drawChord_29 : decode cX8_drawChord 29 = .ok (.iload_n 2, 1) := by decide +kernel
theorem dX8_drawChord_30 : decode cX8_drawChord 30 = .ok (.invokevirtual 184, 3) := by decide +kernel
theorem dX8_drawChord_33 : decode cX8_drawChord 33 = .ok (.invokevirtual 171, 3) := by decide +kernel
theorem dX8_drawChord_36 : decode cX8_drawChord 36 = .ok (.invokevirtual 158, 3) := by decide +kernel
theorem dX8_drawChord_39 : decode cX8_drawChord 39 = .ok (.istore 4, 2) := by decide +kernel
theorem dX8_drawChord_41 : decode cX8_drawChord 41 = .ok (.aload_n 0, 1) := by decide +kernel
theorem dX8_drawChord_42 : decode cX8_drawChord 42 = .ok (.getfield 45, 3) := by decide +kernel
theorem dX8_drawChord_45 : decode cX8_drawChord 45 = .ok (.iload_n 3, 1) := by decide +kernel
theorem dX8_drawChord_46 : decode cX8_drawChord 46 = .ok (.invokevirtual 161, 3) := by decide +kernel
theorem dX8_drawChord_49 : decode cX8_drawChord 49 = .ok (.iload_n 3, 1) := by decide +kernel
theorem dX8_drawChord_50 : decode cX8_drawChord 50 = .ok (.iload 4, 2) := by decide +kernel
theorem dX8_drawChord_52 : decode cX8_drawChord 52 = .ok (.if_icmp .ne 21, 3) := by decide +kernel
theorem dX8_drawChord_55 : decode cX8_drawChord 55 = .ok (.aload_n 0, 1) := by decide +kernel
theorem dX8_drawChord_56 : decode cX8_drawChord 56 = .ok (.getfield 52, 3) := by decide +kernel
theorem dX8_drawChord_59 : decode cX8_drawChord 59 = .ok (.aload_n 0, 1) := by decide +kernel
theorem dX8_drawChord_60 : decode cX8_drawChord 60 = .ok (.getfield 23, 3) := by decide +kernel
theorem dX8_drawChord_63 : decode cX8_drawChord 63 = .ok (.aload_n 0, 1) := by decide +kernel
theorem dX8_drawChord_64 : decode cX8_drawChord 64 = .ok (.getfield 45, 3) := by decide +kernel
theorem dX8_drawChord_67 : decode cX8_drawChord 67 = .ok (.invokevirtual 260, 3) := by decide +kernel
theorem dX8_drawChord_70 : decode cX8_drawChord 70 = .ok (.goto 27, 3) := by decide +kernel
theorem dX8_drawChord_73 : decode cX8_drawChord 73 = .ok (.aload_n 0, 1) := by decide +kernel
theorem dX8_drawChord_74 : decode cX8_drawChord 74 = .ok (.getfield 49, 3) := by decide +kernel
theorem dX8_drawChord_77 : decode cX8_drawChord 77 = .ok (.iload 4, 2) := by decide +kernel
theorem dX8_drawChord_79 : decode cX8_drawChord 79 = .ok (.invokevirtual 161, 3) := by decide +kernel
theorem dX8_drawChord_82 : decode cX8_drawChord 82 = .ok (.aload_n 0, 1) := by decide +kernel
theorem dX8_drawChord_83 : decode cX8_drawChord 83 = .ok (.getfield 52, 3) := by decide +kernel
theorem dX8_drawChord_86 : decode cX8_drawChord 86 = .ok (.aload_n 0, 1) := by decide +kernel
theorem dX8_drawChord_87 : decode cX8_drawChord 87 = .ok (.getfield 45, 3) := by decide +kernel
theorem dX8_drawChord_90 : decode cX8_drawChord 90 = .ok (.aload_n 0, 1) := by decide +kernel
theorem dX8_drawChord_91 : decode cX8_drawChord 91 = .ok (.getfield 49, 3) := by decide +kernel
theorem dX8_drawChord_94 : decode cX8_drawChord 94 = .ok (.invokevirtual 264, 3) := by decide +kernel
theorem dX8_drawChord_97 : decode cX8_drawChord 97 = .ok (.aload_n 0, 1) := by decide +kernel
theorem dX8_drawChord_98 : decode cX8_drawChord 98 = .ok (.getfield 52, 3) := by decide +kernel
theorem dX8_drawChord_101 : decode cX8_drawChord 101 = .ok (.aload_n 0, 1) := by decide +kernel
theorem dX8_drawChord_102 : decode cX8_drawChord 102 = .ok (.getfield 52, 3) := by decide +kernel
theorem dX8_drawChord_105 : decode cX8_drawChord 105 = .ok (.invokevirtual 268, 3) := by decide +kernel
theorem dX8_drawChord_108 : decode cX8_drawChord 108 = .ok (.invokevirtual 161, 3) := by decide +kernel
theorem dX8_drawChord_111 : decode cX8_drawChord 111 = .ok (.return_, 1) := by decide +kernel
