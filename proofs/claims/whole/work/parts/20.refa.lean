set_option maxRecDepth 20000 in
theorem ggX9_init_X9_begin : GoodIn wsX9_init wsX9_begin := goodIn_r _ [25, 6, 4, 26, 27, 28, 29, 30, 31, 32, 33, 34, 35, 36, 37, 38, 39, 40, 41, 42, 43, 44, 45, 46, 47, 48, 49, 50, 51, 52] (by decide +kernel) (by decide +kernel)
set_option maxRecDepth 20000 in
theorem gX9_init_X9_begin : GoodIn wsX9_init (wsV RX9 59 RX9 yX9_begin wsX9_begin) := goodIn_app (goodIn_of _ (by decide +kernel)) ggX9_init_X9_begin
theorem dX9_init_0 : decode cX9_init 0 = .ok (.aload_n 0, 1) := by decide +kernel
theorem dX9_init_1 : decode cX9_init 1 = .ok (.invokespecial 1, 3) := by decide +kernel
theorem dX9_init_4 : decode cX9_init 4 = .ok (.aload_n 0, 1) := by decide +kernel
theorem dX9_init_5 : decode cX9_init 5 = .ok (.bipush 7, 2) := by decide +kernel
theorem dX9_init_7 : decode cX9_init 7 = .ok (.putfield 7, 3) := by decide +kernel
theorem dX9_init_10 : decode cX9_init 10 = .ok (.aload_n 0, 1) := by decide +kernel
theorem dX9_init_11 : decode cX9_init 11 = .ok (.bipush 12, 2) := by decide +kernel
theorem dX9_init_13 : decode cX9_init 13 = .ok (.newarray .int, 2) := by decide +kernel
theorem dX9_init_15 : decode cX9_init 15 = .ok (.putfield 13, 3) := by decide +kernel
theorem dX9_init_18 : decode cX9_init 18 = .ok (.aload_n 0, 1) := by decide +kernel
theorem dX9_init_19 : decode cX9_init 19 = .ok (.iconst 4, 1) := by decide +kernel
theorem dX9_init_20 : decode cX9_init 20 = .ok (.newarray .int, 2) := by decide +kernel
theorem dX9_init_22 : decode cX9_init 22 = .ok (.putfield 17, 3) := by decide +kernel
theorem dX9_init_25 : decode cX9_init 25 = .ok (.aload_n 0, 1) := by decide +kernel
theorem dX9_init_26 : decode cX9_init 26 = .ok (.sipush 200, 3) := by decide +kernel
theorem dX9_init_29 : decode cX9_init 29 = .ok (.newarray .int, 2) := by decide +kernel
theorem dX9_init_31 : decode cX9_init 31 = .ok (.putfield 20, 3) := by decide +kernel
theorem dX9_init_34 : decode cX9_init 34 = .ok (.aload_n 0, 1) := by decide +kernel
theorem dX9_init_35 : decode cX9_init 35 = .ok (.sipush 200, 3) := by decide +kernel
theorem dX9_init_38 : decode cX9_init 38 = .ok (.newarray .int, 2) := by decide +kernel
theorem dX9_init_40 : decode cX9_init 40 = .ok (.putfield 23, 3) := by decide +kernel
theorem dX9_init_43 : decode cX9_init 43 = .ok (.aload_n 0, 1) := by decide +kernel
theorem dX9_init_44 : decode cX9_init 44 = .ok (.sipush 200, 3) := by decide +kernel
theorem dX9_init_47 : decode cX9_init 47 = .ok (.newarray .int, 2) := by decide +kernel
theorem dX9_init_49 : decode cX9_init 49 = .ok (.putfield 26, 3) := by decide +kernel
theorem dX9_init_52 : decode cX9_init 52 = .ok (.aload_n 0, 1) := by decide +kernel
theorem dX9_init_53 : decode cX9_init 53 = .ok (.sipush 200, 3) := by decide +kernel
theorem dX9_init_56 : decode cX9_init 56 = .ok (.newarray .int, 2) := by decide +kernel
theorem dX9_init_58 : decode cX9_init 58 = .ok (.putfield 29, 3) := by decide +kernel
theorem dX9_init_61 : decode cX9_init 61 = .ok (.aload_n 0, 1) := by decide +kernel
theorem dX9_init_62 : decode cX9_init 62 = .ok (.sipush 400, 3) := by decide +kernel
theorem dX9_init_65 : decode cX9_init 65 = .ok (.newarray .int, 2) := by decide +kernel
theorem dX9_init_67 : decode cX9_init 67 = .ok (.putfield 32, 3) := by decide +kernel
theorem dX9_init_70 : decode cX9_init 70 = .ok (.aload_n 0, 1) := by decide +kernel
theorem dX9_init_71 : decode cX9_init 71 = .ok (.sipush 400, 3) := by decide +kernel
theorem dX9_init_74 : decode cX9_init 74 = .ok (.newarray .int, 2) := by decide +kernel
theorem dX9_init_76 : decode cX9_init 76 = .ok (.putfield 35, 3) := by decide +kernel
theorem dX9_init_79 : decode cX9_init 79 = .ok (.aload_n 0, 1) := by decide +kernel
theorem dX9_init_80 : decode cX9_init 80 = .ok (.sipush 400, 3) := by decide +kernel
theorem dX9_init_83 : decode cX9_init 83 = .ok (.newarray .int, 2) := by decide +kernel
theorem dX9_init_85 : decode cX9_init 85 = .ok (.putfield 38, 3) := by decide +kernel
theorem dX9_init_88 : decode cX9_init 88 = .ok (.aload_n 0, 1) := by decide +kernel
theorem dX9_init_89 : decode cX9_init 89 = .ok (.sipush 400, 3) := by decide +kernel
theorem dX9_init_92 : decode cX9_init 92 = .ok (.newarray .int, 2) := by decide +kernel
theorem dX9_init_94 : decode cX9_init 94 = .ok (.putfield 41, 3) := by decide +kernel
theorem dX9_init_97 : decode cX9_init 97 = .ok (.aload_n 0, 1) := by decide +kernel
theorem dX9_init_98 : decode cX9_init 98 = .ok (.sipush 400, 3) := by decide +kernel
theorem dX9_init_101 : decode cX9_init 101 = .ok (.newarray .int, 2) := by decide +kernel
theorem dX9_init_103 : decode cX9_init 103 = .ok (.putfield 44, 3) := by decide +kernel
theorem dX9_init_106 : decode cX9_init 106 = .ok (.aload_n 0, 1) := by decide +kernel
theorem dX9_init_107 : decode cX9_init 107 = .ok (.bipush 32, 2) := by decide +kernel
theorem dX9_init_109 : decode cX9_init 109 = .ok (.newarray .int, 2) := by decide +kernel
theorem dX9_init_111 : decode cX9_init 111 = .ok (.putfield 47, 3) := by decide +kernel
theorem dX9_init_114 : decode cX9_init 114 = .ok (.aload_n 0, 1) := by decide +kernel
theorem dX9_init_115 : decode cX9_init 115 = .ok (.bipush 6, 2) := by decide +kernel
theorem dX9_init_117 : decode cX9_init 117 = .ok (.newarray .int, 2) := by decide +kernel
theorem dX9_init_119 : decode cX9_init 119 = .ok (.putfield 50, 3) := by decide +kernel
theorem dX9_init_122 : decode cX9_init 122 = .ok (.aload_n 0, 1) := by decide +kernel
theorem dX9_init_123 : decode cX9_init 123 = .ok (.bipush 6, 2) := by decide +kernel
theorem dX9_init_125 : decode cX9_init 125 = .ok (.newarray .int, 2) := by decide +kernel
theorem dX9_init_127 : decode cX9_init 127 = .ok (.putfield 53, 3) := by decide +kernel
theorem dX9_init_130 : decode cX9_init 130 = .ok (.aload_n 0, 1) := by decide +kernel
theorem dX9_init_131 : decode cX9_init 131 = .ok (.sipush 225, 3) := by decide +kernel
theorem dX9_init_134 : decode cX9_init 134 = .ok (.newarray .int, 2) := by decide +kernel
theorem dX9_init_136 : decode cX9_init 136 = .ok (.putfield 56, 3) := by decide +kernel
theorem dX9_init_139 : decode cX9_init 139 = .ok (.aload_n 0, 1) := by decide +kernel
theorem dX9_init_140 : decode cX9_init 140 = .ok (.invokevirtual 59, 3) := by decide +kernel
theorem dX9_init_143 : decode cX9_init 143 = .ok (.return_, 1) := by decide +kernel
theorem dX9_in_0 : decode cX9_in 0 = .ok (.iload_n 0, 1) := by decide +kernel
theorem dX9_in_1 : decode cX9_in 1 = .ok (.iload_n 1, 1) := by decide +kernel
theorem dX9_in_2 : decode cX9_in 2 = .ok (.if_icmp .lt 12, 3) := by decide +kernel
theorem dX9_in_5 : decode cX9_in 5 = .ok (.iload_n 0, 1) := by decide +kernel
theorem dX9_in_6 : decode cX9_in 6 = .ok (.iload_n 2, 1) := by decide +kernel
theorem dX9_in_7 : decode cX9_in 7 = .ok (.if_icmp .gt 7, 3) := by decide +kernel
theorem dX9_in_10 : decode cX9_in 10 = .ok (.iconst 1, 1) := by decide +kernel
theorem dX9_in_11 : decode cX9_in 11 = .ok (.goto 4, 3) := by decide +kernel
theorem dX9_in_14 : decode cX9_in 14 = .ok (.iconst 0, 1) := by decide +kernel
theorem dX9_in_15 : decode cX9_in 15 = .ok (.ireturn, 1) := by decide +kernel
set_option maxRecDepth 20000 in
theorem ggX9_isNumber_X9_in : GoodIn wsX9_isNumber wsX9_in := goodIn_r _ [5] (by decide +kernel) (by decide +kernel)
set_option maxRecDepth 20000 in
theorem gX9_isNumber_X9_in : GoodIn wsX9_isNumber (va_wsS RX9 62 yX9_in wsX9_in) := goodIn_app (goodIn_of _ (by decide +kernel)) ggX9_isNumber_X9_in
theorem dX9_isNumber_0 : decode cX9_isNumber 0 = .ok (.iload_n 1, 1) := by decide +kernel
theorem dX9_isNumber_1 : decode cX9_isNumber 1 = .ok (.iconst 0, 1) := by decide +kernel
theorem dX9_isNumber_2 : decode cX9_isNumber 2 = .ok (.aload_n 0, 1) := by decide +kernel
theorem dX9_isNumber_3 : decode cX9_isNumber 3 = .ok (.getfield 7, 3) := by decide +kernel
theorem dX9_isNumber_6 : decode cX9_isNumber 6 = .ok (.iconst 1, 1) := by decide +kernel
theorem dX9_isNumber_7 : decode cX9_isNumber 7 = .ok (.isub, 1) := by decide +kernel
theorem dX9_isNumber_8 : decode cX9_isNumber 8 = .ok (.invokestatic 62, 3) := by decide +kernel
theorem dX9_isNumber_11 : decode cX9_isNumber 11 = .ok (.ireturn, 1) := by decide +kernel
theorem dX9_begin_0 : decode cX9_begin 0 = .ok (.iconst 0, 1) := by decide +kernel
theorem dX9_begin_1 : decode cX9_begin 1 = .ok (.istore_n 1, 1) := by decide +kernel
theorem dX9_begin_2 : decode cX9_begin 2 = .ok (.iload_n 1, 1) := by decide +kernel
theorem dX9_begin_3 : decode cX9_begin 3 = .ok (.bipush 12, 2) := by decide +kernel
theorem dX9_begin_5 : decode cX9_begin 5 = .ok (.if_icmp .ge 45, 3) := by decide +kernel
theorem dX9_begin_8 : decode cX9_begin 8 = .ok (.aload_n 0, 1) := by decide +kernel
theorem dX9_begin_9 : decode cX9_begin 9 = .ok (.getfield 13, 3) := by decide +kernel
theorem dX9_begin_12 : decode cX9_begin 12 = .ok (.iload_n 1, 1) := by decide +kernel
theorem dX9_begin_13 : decode cX9_begin 13 = .ok (.iload_n 1, 1) := by decide +kernel
theorem dX9_begin_14 : decode cX9_begin 14 = .ok (.bipush 6, 2) := by decide +kernel
theorem dX9_begin_16 : decode cX9_begin 16 = .ok (.irem, 1) := by decide +kernel
theorem dX9_begin_17 : decode cX9_begin 17 = .ok (.iconst 2, 1) := by decide +kernel
theorem dX9_begin_18 : decode cX9_begin 18 = .ok (.if_icmp .ge 7, 3) := by decide +kernel
theorem dX9_begin_21 : decode cX9_begin 21 = .ok (.iconst 1, 1) := by decide +kernel
theorem dX9_begin_22 : decode cX9_begin 22 = .ok (.goto 21, 3) := by decide +kernel
theorem dX9_begin_25 : decode cX9_begin 25 = .ok (.iload_n 1, 1) := by decide +kernel
theorem dX9_begin_26 : decode cX9_begin 26 = .ok (.bipush 6, 2) := by decide +kernel
theorem dX9_begin_28 : decode cX9_begin 28 = .ok (.irem, 1) := by decide +kernel
theorem dX9_begin_29 : decode cX9_begin 29 = .ok (.iconst 2, 1) := by decide +kernel
theorem dX9_begin_30 : decode cX9_begin 30 = .ok (.if_icmp .ne 12, 3) := by decide +kernel
theorem dX9_begin_33 : decode cX9_begin 33 = .ok (.aload_n 0, 1) := by decide +kernel
theorem dX9_begin_34 : decode cX9_begin 34 = .ok (.getfield 7, 3) := by decide +kernel
theorem dX9_begin_37 : decode cX9_begin 37 = .ok (.iconst 1, 1) := by decide +kernel
theorem dX9_begin_38 : decode cX9_begin 38 = .ok (.isub, 1) := by decide +kernel
theorem dX9_begin_39 : decode cX9_begin 39 = .ok (.goto 4, 3) := by decide +kernel
theorem dX9_begin_42 : decode cX9_begin 42 = .ok (.iconst 0, 1) := by decide +kernel
theorem dX9_begin_43 : decode cX9_begin 43 = .ok (.iastore, 1) := by decide +kernel
theorem dX9_begin_44 : decode cX9_begin 44 = .ok (.iinc 1 1, 3) := by decide +kernel
theorem dX9_begin_47 : decode cX9_begin 47 = .ok (.goto (-45), 3) := by decide +kernel
theorem dX9_begin_50 : decode cX9_begin 50 = .ok (.aload_n 0, 1) := by decide +kernel
theorem dX9_begin_51 : decode cX9_begin 51 = .ok (.iconst 0, 1) := by decide +kernel
theorem dX9_begin_52 : decode cX9_begin 52 = .ok (.putfield 66, 3) := by decide +kernel
theorem dX9_begin_55 : decode cX9_begin 55 = .ok (.return_, 1) := by decide +kernel
set_option maxRecDepth 20000 in
theorem ggX9_field_X9_in : GoodIn wsX9_field wsX9_in := goodIn_r _ [5] (by decide +kernel) (by decide +kernel)
set_option maxRecDepth 20000 in
theorem gX9_field_X9_in : GoodIn wsX9_field (va_wsS RX9 62 yX9_in wsX9_in) := goodIn_app (goodIn_of _ (by decide +kernel)) ggX9_field_X9_in
set_option maxRecDepth 20000 in
theorem ggX9_field_X9_begin : GoodIn wsX9_field wsX9_begin := goodIn_r _ [9, 10, 1, 11, 12, 13, 14, 15, 16, 17, 18, 19, 20, 21, 22, 23, 24, 25, 26, 27, 28, 29, 30, 31, 32, 33, 34, 35, 36, 37] (by decide +kernel) (by decide +kernel)
set_option maxRecDepth 20000 in
theorem gX9_field_X9_begin : GoodIn wsX9_field (wsV RX9 59 RX9 yX9_begin wsX9_begin) := goodIn_app (goodIn_of _ (by decide +kernel)) ggX9_field_X9_begin
theorem dX9_field_0 : decode cX9_field 0 = .ok (.iload_n 1, 1) := by decide +kernel
theorem dX9_field_1 : decode cX9_field 1 = .ok (.iconst 5, 1) := by decide +kernel
theorem dX9_field_2 : decode cX9_field 2 = .ok (.sipush 199, 3) := by decide +kernel
theorem dX9_field_5 : decode cX9_field 5 = .ok (.invokestatic 62, 3) := by decide +kernel
theorem dX9_field_8 : decode cX9_field 8 = .ok (.istore_n 2, 1) := by decide +kernel
theorem dX9_field_9 : decode cX9_field 9 = .ok (.iconst 2, 1) := by decide +kernel
theorem dX9_field_10 : decode cX9_field 10 = .ok (.istore_n 3, 1) := by decide +kernel
theorem dX9_field_11 : decode cX9_field 11 = .ok (.iload_n 3, 1) := by decide +kernel
theorem dX9_field_12 : decode cX9_field 12 = .ok (.iload_n 3, 1) := by decide +kernel
theorem dX9_field_13 : decode cX9_field 13 = .ok (.imul, 1) := by decide +kernel
theorem dX9_field_14 : decode cX9_field 14 = .ok (.iload_n 1, 1) := by decide +kernel
theorem dX9_field_15 : decode cX9_field 15 = .ok (.if_icmp .gt 25, 3) := by decide +kernel
theorem dX9_field_18 : decode cX9_field 18 = .ok (.iload_n 2, 1) := by decide +kernel
theorem dX9_field_19 : decode cX9_field 19 = .ok (.ifCond .eq 21, 3) := by decide +kernel
theorem dX9_field_22 : decode cX9_field 22 = .ok (.iload_n 1, 1) := by decide +kernel
theorem dX9_field_23 : decode cX9_field 23 = .ok (.iload_n 3, 1) := by decide +kernel
theorem dX9_field_24 : decode cX9_field 24 = .ok (.irem, 1) := by decide +kernel
theorem dX9_field_25 : decode cX9_field 25 = .ok (.ifCond .eq 7, 3) := by decide +kernel
theorem dX9_field_28 : decode cX9_field 28 = .ok (.iconst 1, 1) := by decide +kernel
theorem dX9_field_29 : decode cX9_field 29 = .ok (.goto 4, 3) := by decide +kernel
theorem dX9_field_32 : decode cX9_field 32 = .ok (.iconst 0, 1) := by decide +kernel
theorem dX9_field_33 : decode cX9_field 33 = .ok (.istore_n 2, 1) := by decide +kernel
theorem dX9_field_34 : decode cX9_field 34 = .ok (.iinc 3 1, 3) := by decide +kernel
theorem dX9_field_37 : decode cX9_field 37 = .ok (.goto (-26), 3) := by decide +kernel
theorem dX9_field_40 : decode cX9_field 40 = .ok (.iload_n 2, 1) := by decide +kernel
theorem dX9_field_41 : decode cX9_field 41 = .ok (.ifCond .ne 6, 3) := by decide +kernel
theorem dX9_field_44 : decode cX9_field 44 = .ok (.bipush (-2), 2) := by decide +kernel
theorem dX9_field_46 : decode cX9_field 46 = .ok (.ireturn, 1) := by decide +kernel
theorem dX9_field_47 : decode cX9_field 47 = .ok (.aload_n 0, 1) := by decide +kernel
theorem dX9_field_48 : decode cX9_field 48 = .ok (.getfield 7, 3) := by decide +kernel
theorem dX9_field_51 : decode cX9_field 51 = .ok (.istore_n 3, 1) := by decide +kernel
theorem dX9_field_52 : decode cX9_field 52 = .ok (.aload_n 0, 1) := by decide +kernel
theorem dX9_field_53 : decode cX9_field 53 = .ok (.iload_n 1, 1) := by decide +kernel
theorem dX9_field_54 : decode cX9_field 54 = .ok (.putfield 7, 3) := by decide +kernel
theorem dX9_field_57 : decode cX9_field 57 = .ok (.aload_n 0, 1) := by decide +kernel
theorem dX9_field_58 : decode cX9_field 58 = .ok (.invokevirtual 59, 3) := by decide +kernel
theorem dX9_field_61 : decode cX9_field 61 = .ok (.iload_n 3, 1) := by decide +kernel
theorem dX9_field_62 : decode cX9_field 62 = .ok (.ireturn, 1) := by decide +kernel
set_option maxRecDepth 20000 in
theorem ggX9_round_X9_in : GoodIn wsX9_round wsX9_in := goodIn_r _ [6] (by decide +kernel) (by decide +kernel)
set_option maxRecDepth 20000 in
theorem gX9_round_X9_in : GoodIn wsX9_round (va_wsS RX9 62 yX9_in wsX9_in) := goodIn_app (goodIn_of _ (by decide +kernel)) ggX9_round_X9_in
set_option maxRecDepth 20000 in
theorem ggX9_round_X9_isNumber : GoodIn wsX9_round wsX9_isNumber := goodIn_r _ [10, 11, 3, 4, 5, 6, 12, 13, 14, 15, 16, 17, 18, 19, 20, 21, 22, 23, 24, 25, 26, 27, 28, 29, 30, 31, 32, 33, 34, 35, 36, 37] (by decide +kernel) (by decide +kernel)
set_option maxRecDepth 20000 in
theorem gX9_round_X9_isNumber : GoodIn wsX9_round (wsV RX9 70 RX9 yX9_isNumber wsX9_isNumber) := goodIn_app (goodIn_of _ (by decide +kernel)) ggX9_round_X9_isNumber
theorem dX9_round_0 : decode cX9_round 0 = .ok (.iload_n 1, 1) := by decide +kernel
theorem dX9_round_1 : decode cX9_round 1 = .ok (.iconst 0, 1) := by decide +kernel
theorem dX9_round_2 : decode cX9_round 2 = .ok (.iconst 1, 1) := by decide +kernel
theorem dX9_round_3 : decode cX9_round 3 = .ok (.invokestatic 62, 3) := by decide +kernel
theorem dX9_round_6 : decode cX9_round 6 = .ok (.ifCond .eq 59, 3) := by decide +kernel
theorem dX9_round_9 : decode cX9_round 9 = .ok (.aload_n 0, 1) := by decide +kernel
theorem dX9_round_10 : decode cX9_round 10 = .ok (.iload_n 2, 1) := by decide +kernel
theorem dX9_round_11 : decode cX9_round 11 = .ok (.invokevirtual 70, 3) := by decide +kernel
theorem dX9_round_14 : decode cX9_round 14 = .ok (.ifCond .eq 51, 3) := by decide +kernel
theorem dX9_round_17 : decode cX9_round 17 = .ok (.aload_n 0, 1) := by decide +kernel
theorem dX9_round_18 : decode cX9_round 18 = .ok (.iload_n 3, 1) := by decide +kernel
theorem dX9_round_19 : decode cX9_round 19 = .ok (.invokevirtual 70, 3) := by decide +kernel
theorem dX9_round_22 : decode cX9_round 22 = .ok (.ifCond .eq 43, 3) := by decide +kernel
theorem dX9_round_25 : decode cX9_round 25 = .ok (.aload_n 0, 1) := by decide +kernel
theorem dX9_round_26 : decode cX9_round 26 = .ok (.iload 4, 2) := by decide +kernel
theorem dX9_round_28 : decode cX9_round 28 = .ok (.invokevirtual 70, 3) := by decide +kernel
theorem dX9_round_31 : decode cX9_round 31 = .ok (.ifCond .eq 34, 3) := by decide +kernel
theorem dX9_round_34 : decode cX9_round 34 = .ok (.aload_n 0, 1) := by decide +kernel
theorem dX9_round_35 : decode cX9_round 35 = .ok (.iload 5, 2) := by decide +kernel
theorem dX9_round_37 : decode cX9_round 37 = .ok (.invokevirtual 70, 3) := by decide +kernel
theorem dX9_round_40 : decode cX9_round 40 = .ok (.ifCond .eq 25, 3) := by decide +kernel
theorem dX9_round_43 : decode cX9_round 43 = .ok (.aload_n 0, 1) := by decide +kernel
theorem dX9_round_44 : decode cX9_round 44 = .ok (.iload 6, 2) := by decide +kernel
theorem dX9_round_46 : decode cX9_round 46 = .ok (.invokevirtual 70, 3) := by decide +kernel
theorem dX9_round_49 : decode cX9_round 49 = .ok (.ifCond .eq 16, 3) := by decide +kernel
theorem dX9_round_52 : decode cX9_round 52 = .ok (.aload_n 0, 1) := by decide +kernel
theorem dX9_round_53 : decode cX9_round 53 = .ok (.iload 7, 2) := by decide +kernel
theorem dX9_round_55 : decode cX9_round 55 = .ok (.invokevirtual 70, 3) := by decide +kernel
theorem dX9_round_58 : decode cX9_round 58 = .ok (.ifCond .eq 7, 3) := by decide +kernel
theorem dX9_round_61 : decode cX9_round 61 = .ok (.iconst 1, 1) := by decide +kernel
theorem dX9_round_62 : decode cX9_round 62 = .ok (.goto 4, 3) := by decide +kernel
theorem dX9_round_65 : decode cX9_round 65 = .ok (.iconst 0, 1) := by decide +kernel
theorem dX9_round_66 : decode cX9_round 66 = .ok (.istore 8, 2) := by decide +kernel
theorem dX9_round_68 : decode cX9_round 68 = .ok (.iload 8, 2) := by decide +kernel
theorem dX9_round_70 : decode cX9_round 70 = .ok (.ifCond .ne 6, 3) := by decide +kernel
theorem dX9_round_73 : decode cX9_round 73 = .ok (.bipush (-2), 2) := by decide +kernel
theorem dX9_round_75 : decode cX9_round 75 = .ok (.ireturn, 1) := by decide +kernel
theorem dX9_round_76 : decode cX9_round 76 = .ok (.bipush 6, 2) := by decide +kernel
theorem dX9_round_78 : decode cX9_round 78 = .ok (.iload_n 1, 1) := by decide +kernel
theorem dX9_round_79 : decode cX9_round 79 = .ok (.imul, 1) := by decide +kernel
theorem dX9_round_80 : decode cX9_round 80 = .ok (.istore 9, 2) := by decide +kernel
theorem dX9_round_82 : decode cX9_round 82 = .ok (.aload_n 0, 1) := by decide +kernel
theorem dX9_round_83 : decode cX9_round 83 = .ok (.getfield 13, 3) := by decide +kernel
theorem dX9_round_86 : decode cX9_round 86 = .ok (.iload 9, 2) := by decide +kernel
theorem dX9_round_88 : decode cX9_round 88 = .ok (.iload_n 2, 1) := by decide +kernel
theorem dX9_round_89 : decode cX9_round 89 = .ok (.iastore, 1) := by decide +kernel
theorem dX9_round_90 : decode cX9_round 90 = .ok (.aload_n 0, 1) := by decide +kernel
theorem dX9_round_91 : decode cX9_round 91 = .ok (.getfield 13, 3) := by decide +kernel
theorem dX9_round_94 : decode cX9_round 94 = .ok (.iload 9, 2) := by decide +kernel
theorem dX9_round_96 : decode cX9_round 96 = .ok (.iconst 1, 1) := by decide +kernel
theorem dX9_round_97 : decode cX9_round 97 = .ok (.iadd, 1) := by decide +kernel
theorem dX9_round_98 : decode cX9_round 98 = .ok (.iload_n 3, 1) := by decide +kernel
theorem dX9_round_99 : decode cX9_round 99 = .ok (.iastore, 1) := by decide +kernel
theorem dX9_round_100 : decode cX9_round 100 = .ok (.aload_n 0, 1) := by decide +kernel
theorem dX9_round_101 : decode cX9_round 101 = .ok (.getfield 13, 3) := by decide +kernel
theorem dX9_round_104 : decode cX9_round 104 = .ok (.iload 9, 2) := by decide +kernel
theorem dX9_round_106 : decode cX9_round 106 = .ok (.iconst 2, 1) := by decide +kernel
theorem dX9_round_107 : decode cX9_round 107 = .ok (.iadd, 1) := by decide +kernel
theorem dX9_round_108 : decode cX9_round 108 = .ok (.iload 4, 2) := by decide +kernel
theorem dX9_round_110 : decode cX9_round 110 = .ok (.iastore, 1) := by decide +kernel
theorem dX9_round_111 : decode cX9_round 111 = .ok (.aload_n 0, 1) := by decide +kernel
theorem dX9_round_112 : decode cX9_round 112 = .ok (.getfield 13, 3) := by decide +kernel
theorem dX9_round_115 : decode cX9_round 115 = .ok (.iload 9, 2) := by decide +kernel
theorem dX9_round_117 : decode cX9_round 117 = .ok (.iconst 3, 1) := by decide +kernel
theorem dX9_round_118 : decode cX9_round 118 = .ok (.iadd, 1) := by decide +kernel
theorem dX9_round_119 : decode cX9_round 119 = .ok (.iload 5, 2) := by decide +kernel
theorem dX9_round_121 : decode cX9_round 121 = .ok (.iastore, 1) := by decide +kernel
theorem dX9_round_122 : decode cX9_round 122 = .ok (.aload_n 0, 1) := by decide +kernel
theorem dX9_round_123 : decode cX9_round 123 = .ok (.getfield 13, 3) := by decide +kernel
theorem dX9_round_126 : decode cX9_round 126 = .ok (.iload 9, 2) := by decide +kernel
theorem dX9_round_128 : decode cX9_round 128 = .ok (.iconst 4, 1) := by decide +kernel
theorem dX9_round_129 : decode cX9_round 129 = .ok (.iadd, 1) := by decide +kernel
theorem dX9_round_130 : decode cX9_round 130 = .ok (.iload 6, 2) := by decide +kernel
theorem dX9_round_132 : decode cX9_round 132 = .ok (.iastore, 1) := by decide +kernel
theorem dX9_round_133 : decode cX9_round 133 = .ok (.aload_n 0, 1) := by decide +kernel
theorem dX9_round_134 : decode cX9_round 134 = .ok (.getfield 13, 3) := by decide +kernel
theorem dX9_round_137 : decode cX9_round 137 = .ok (.iload 9, 2) := by decide +kernel
theorem dX9_round_139 : decode cX9_round 139 = .ok (.iconst 5, 1) := by decide +kernel
theorem dX9_round_140 : decode cX9_round 140 = .ok (.iadd, 1) := by decide +kernel
theorem dX9_round_141 : decode cX9_round 141 = .ok (.iload 7, 2) := by decide +kernel
theorem dX9_round_143 : decode cX9_round 143 = .ok (.iastore, 1) := by decide +kernel
theorem dX9_round_144 : decode cX9_round 144 = .ok (.aload_n 0, 1) := by decide +kernel
theorem dX9_round_145 : decode cX9_round 145 = .ok (.iconst 0, 1) := by decide +kernel
theorem dX9_round_146 : decode cX9_round 146 = .ok (.putfield 66, 3) := by decide +kernel
theorem dX9_round_149 : decode cX9_round 149 = .ok (.iconst 1, 1) := by decide +kernel
theorem dX9_round_150 : decode cX9_round 150 = .ok (.ireturn, 1) := by decide +kernel
set_option maxRecDepth 20000 in
theorem ggX9_given_X9_in : GoodIn wsX9_given wsX9_in := goodIn_r _ [5] (by decide +kernel) (by decide +kernel)
set_option maxRecDepth 20000 in
theorem gX9_given_X9_in : GoodIn wsX9_given (va_wsS RX9 62 yX9_in wsX9_in) := goodIn_app (goodIn_of _ (by decide +kernel)) ggX9_given_X9_in
theorem dX9_given_0 : decode cX9_given 0 = .ok (.iload_n 1, 1) := by decide +kernel
theorem dX9_given_1 : decode cX9_given 1 = .ok (.iconst 0, 1) := by decide +kernel
theorem dX9_given_2 : decode cX9_given 2 = .ok (.iconst 1, 1) := by decide +kernel
theorem dX9_given_3 : decode cX9_given 3 = .ok (.invokestatic 62, 3) := by decide +kernel
theorem dX9_given_6 : decode cX9_given 6 = .ok (.ifCond .eq 26, 3) := by decide +kernel
theorem dX9_given_9 : decode cX9_given 9 = .ok (.iload_n 2, 1) := by decide +kernel
theorem dX9_given_10 : decode cX9_given 10 = .ok (.iconst 0, 1) := by decide +kernel
theorem dX9_given_11 : decode cX9_given 11 = .ok (.iconst 5, 1) := by decide +kernel
theorem dX9_given_12 : decode cX9_given 12 = .ok (.invokestatic 62, 3) := by decide +kernel
theorem dX9_given_15 : decode cX9_given 15 = .ok (.ifCond .eq 17, 3) := by decide +kernel
theorem dX9_given_18 : decode cX9_given 18 = .ok (.aload_n 0, 1) := by decide +kernel
theorem dX9_given_19 : decode cX9_given 19 = .ok (.getfield 13, 3) := by decide +kernel
theorem dX9_given_22 : decode cX9_given 22 = .ok (.bipush 6, 2) := by decide +kernel
theorem dX9_given_24 : decode cX9_given 24 = .ok (.iload_n 1, 1) := by decide +kernel
theorem dX9_given_25 : decode cX9_given 25 = .ok (.imul, 1) := by decide +kernel
theorem dX9_given_26 : decode cX9_given 26 = .ok (.iload_n 2, 1) := by decide +kernel
theorem dX9_given_27 : decode cX9_given 27 = .ok (.iadd, 1) := by decide +kernel
theorem dX9_given_28 : decode cX9_given 28 = .ok (.iaload, 1) := by decide +kernel
theorem dX9_given_29 : decode cX9_given 29 = .ok (.goto 5, 3) := by decide +kernel
theorem dX9_given_32 : decode cX9_given 32 = .ok (.bipush (-2), 2) := by decide +kernel
theorem dX9_given_34 : decode cX9_given 34 = .ok (.ireturn, 1) := by decide +kernel
theorem dX9_of_0 : decode cX9_of 0 = .ok (.iload_n 1, 1) := by decide +kernel
theorem dX9_of_1 : decode cX9_of 1 = .ok (.aload_n 0, 1) := by decide +kernel
theorem dX9_of_2 : decode cX9_of 2 = .ok (.getfield 7, 3) := by decide +kernel
theorem dX9_of_5 : decode cX9_of 5 = .ok (.irem, 1) := by decide +kernel
theorem dX9_of_6 : decode cX9_of 6 = .ok (.istore_n 2, 1) := by decide +kernel
theorem dX9_of_7 : decode cX9_of 7 = .ok (.iload_n 2, 1) := by decide +kernel
theorem dX9_of_8 : decode cX9_of 8 = .ok (.ifCond .ge 12, 3) := by decide +kernel
theorem dX9_of_11 : decode cX9_of 11 = .ok (.iload_n 2, 1) := by decide +kernel
theorem dX9_of_12 : decode cX9_of 12 = .ok (.aload_n 0, 1) := by decide +kernel
theorem dX9_of_13 : decode cX9_of 13 = .ok (.getfield 7, 3) := by decide +kernel
theorem dX9_of_16 : decode cX9_of 16 = .ok (.iadd, 1) := by decide +kernel
theorem dX9_of_17 : decode cX9_of 17 = .ok (.goto 4, 3) := by decide +kernel
theorem dX9_of_20 : decode cX9_of 20 = .ok (.iload_n 2, 1) := by decide +kernel
theorem dX9_of_21 : decode cX9_of 21 = .ok (.ireturn, 1) := by decide +kernel
theorem dX9_power_0 : decode cX9_power 0 = .ok (.iconst 1, 1) := by decide +kernel
theorem dX9_power_1 : decode cX9_power 1 = .ok (.istore_n 3, 1) := by decide +kernel
theorem dX9_power_2 : decode cX9_power 2 = .ok (.iload_n 1, 1) := by decide +kernel
theorem dX9_power_3 : decode cX9_power 3 = .ok (.istore 4, 2) := by decide +kernel
theorem dX9_power_5 : decode cX9_power 5 = .ok (.iload_n 2, 1) := by decide +kernel
theorem dX9_power_6 : decode cX9_power 6 = .ok (.istore 5, 2) := by decide +kernel
theorem dX9_power_8 : decode cX9_power 8 = .ok (.iload 5, 2) := by decide +kernel
theorem dX9_power_10 : decode cX9_power 10 = .ok (.ifCond .le 46, 3) := by decide +kernel
theorem dX9_power_13 : decode cX9_power 13 = .ok (.iload 5, 2) := by decide +kernel
theorem dX9_power_15 : decode cX9_power 15 = .ok (.iconst 1, 1) := by decide +kernel
theorem dX9_power_16 : decode cX9_power 16 = .ok (.iand, 1) := by decide +kernel
theorem dX9_power_17 : decode cX9_power 17 = .ok (.iconst 1, 1) := by decide +kernel
theorem dX9_power_18 : decode cX9_power 18 = .ok (.if_icmp .ne 15, 3) := by decide +kernel
theorem dX9_power_21 : decode cX9_power 21 = .ok (.iload_n 3, 1) := by decide +kernel
theorem dX9_power_22 : decode cX9_power 22 = .ok (.iload 4, 2) := by decide +kernel
theorem dX9_power_24 : decode cX9_power 24 = .ok (.imul, 1) := by decide +kernel
theorem dX9_power_25 : decode cX9_power 25 = .ok (.aload_n 0, 1) := by decide +kernel
theorem dX9_power_26 : decode cX9_power 26 = .ok (.getfield 7, 3) := by decide +kernel
theorem dX9_power_29 : decode cX9_power 29 = .ok (.irem, 1) := by decide +kernel
theorem dX9_power_30 : decode cX9_power 30 = .ok (.goto 4, 3) := by decide +kernel
theorem dX9_power_33 : decode cX9_power 33 = .ok (.iload_n 3, 1) := by decide +kernel
theorem dX9_power_34 : decode cX9_power 34 = .ok (.istore_n 3, 1) := by decide +kernel
theorem dX9_power_35 : decode cX9_power 35 = .ok (.iload 4, 2) := by decide +kernel
theorem dX9_power_37 : decode cX9_power 37 = .ok (.iload 4, 2) := by decide +kernel
theorem dX9_power_39 : decode cX9_power 39 = .ok (.imul, 1) := by decide +kernel
theorem dX9_power_40 : decode cX9_power 40 = .ok (.aload_n 0, 1) := by decide +kernel
theorem dX9_power_41 : decode cX9_power 41 = .ok (.getfield 7, 3) := by decide +kernel
theorem dX9_power_44 : decode cX9_power 44 = .ok (.irem, 1) := by decide +kernel
theorem dX9_power_45 : decode cX9_power 45 = .ok (.istore 4, 2) := by decide +kernel
theorem dX9_power_47 : decode cX9_power 47 = .ok (.iload 5, 2) := by decide +kernel
theorem dX9_power_49 : decode cX9_power 49 = .ok (.iconst 1, 1) := by decide +kernel
theorem dX9_power_50 : decode cX9_power 50 = .ok (.ishr, 1) := by decide +kernel
theorem dX9_power_51 : decode cX9_power 51 = .ok (.istore 5, 2) := by decide +kernel
theorem dX9_power_53 : decode cX9_power 53 = .ok (.goto (-45), 3) := by decide +kernel
theorem dX9_power_56 : decode cX9_power 56 = .ok (.iload_n 3, 1) := by decide +kernel
theorem dX9_power_57 : decode cX9_power 57 = .ok (.ireturn, 1) := by decide +kernel
set_option maxRecDepth 20000 in
theorem ggX9_by_X9_power : GoodIn wsX9_by wsX9_power := goodIn_r _ [6, 1, 7, 8, 9, 10, 11, 12, 13, 14, 15, 16, 17, 18, 19, 20, 21, 22, 23, 24, 25, 26, 27, 28, 29, 30, 31, 32] (by decide +kernel) (by decide +kernel)
set_option maxRecDepth 20000 in
theorem gX9_by_X9_power : GoodIn wsX9_by (wsV RX9 74 RX9 yX9_power wsX9_power) := goodIn_app (goodIn_of _ (by decide +kernel)) ggX9_by_X9_power
theorem dX9_by_0 : decode cX9_by 0 = .ok (.iload_n 1, 1) := by decide +kernel
theorem dX9_by_1 : decode cX9_by 1 = .ok (.aload_n 0, 1) := by decide +kernel
theorem dX9_by_2 : decode cX9_by 2 = .ok (.iload_n 2, 1) := by decide +kernel
theorem dX9_by_3 : decode cX9_by 3 = .ok (.aload_n 0, 1) := by decide +kernel
theorem dX9_by_4 : decode cX9_by 4 = .ok (.getfield 7, 3) := by decide +kernel
theorem dX9_by_7 : decode cX9_by 7 = .ok (.iconst 2, 1) := by decide +kernel
theorem dX9_by_8 : decode cX9_by 8 = .ok (.isub, 1) := by decide +kernel
theorem dX9_by_9 : decode cX9_by 9 = .ok (.invokevirtual 74, 3) := by decide +kernel
theorem dX9_by_12 : decode cX9_by 12 = .ok (.imul, 1) := by decide +kernel
theorem dX9_by_13 : decode cX9_by 13 = .ok (.aload_n 0, 1) := by decide +kernel
theorem dX9_by_14 : decode cX9_by 14 = .ok (.getfield 7, 3) := by decide +kernel
theorem dX9_by_17 : decode cX9_by 17 = .ok (.irem, 1) := by decide +kernel
theorem dX9_by_18 : decode cX9_by 18 = .ok (.ireturn, 1) := by decide +kernel
set_option maxRecDepth 20000 in
theorem ggX9_work_X9_in : GoodIn wsX9_work wsX9_in := goodIn_r _ [5] (by decide +kernel) (by decide +kernel)
set_option maxRecDepth 20000 in
theorem gX9_work_X9_in : GoodIn wsX9_work (va_wsS RX9 62 yX9_in wsX9_in) := goodIn_app (goodIn_of _ (by decide +kernel)) ggX9_work_X9_in
set_option maxRecDepth 20000 in
theorem ggX9_work_X9_isNumber : GoodIn wsX9_work wsX9_isNumber := goodIn_r _ [9, 1, 2, 3, 4, 5, 18, 19, 20, 21, 22, 23, 24, 25, 26, 27, 28, 29, 30, 31, 32, 33, 34, 35, 36, 37, 38, 39, 40, 41, 42, 43] (by decide +kernel) (by decide +kernel)
set_option maxRecDepth 20000 in
theorem gX9_work_X9_isNumber : GoodIn wsX9_work (wsV RX9 70 RX9 yX9_isNumber wsX9_isNumber) := goodIn_app (goodIn_of _ (by decide +kernel)) ggX9_work_X9_isNumber
set_option maxRecDepth 20000 in
theorem ggX9_work_X9_by : GoodIn wsX9_work wsX9_by := goodIn_r _ [13, 1, 14, 15, 16, 4, 17, 18, 19, 20, 21, 22, 23, 24, 25, 26, 27, 28, 29, 30, 31, 32, 33, 34, 35, 36, 37, 38, 39, 40, 41, 42, 43] (by decide +kernel) (by decide +kernel)
set_option maxRecDepth 20000 in
theorem gX9_work_X9_by : GoodIn wsX9_work (wsV RX9 78 RX9 yX9_by wsX9_by) := goodIn_app (goodIn_of _ (by decide +kernel)) ggX9_work_X9_by
theorem dX9_work_0 : decode cX9_work 0 = .ok (.iload_n 1, 1) := by decide +kernel
theorem dX9_work_1 : decode cX9_work 1 = .ok (.iconst 0, 1) := by decide +kernel
theorem dX9_work_2 : decode cX9_work 2 = .ok (.iconst 2, 1) := by decide +kernel
theorem dX9_work_3 : decode cX9_work 3 = .ok (.invokestatic 62, 3) := by decide +kernel
theorem dX9_work_6 : decode cX9_work 6 = .ok (.ifCond .eq 28, 3) := by decide +kernel
theorem dX9_work_9 : decode cX9_work 9 = .ok (.aload_n 0, 1) := by decide +kernel
theorem dX9_work_10 : decode cX9_work 10 = .ok (.iload_n 2, 1) := by decide +kernel
theorem dX9_work_11 : decode cX9_work 11 = .ok (.invokevirtual 70, 3) := by decide +kernel
theorem dX9_work_14 : decode cX9_work 14 = .ok (.ifCond .eq 20, 3) := by decide +kernel
theorem dX9_work_17 : decode cX9_work 17 = .ok (.aload_n 0, 1) := by decide +kernel
theorem dX9_work_18 : decode cX9_work 18 = .ok (.iload_n 3, 1) := by decide +kernel
theorem dX9_work_19 : decode cX9_work 19 = .ok (.invokevirtual 70, 3) := by decide +kernel
theorem dX9_work_22 : decode cX9_work 22 = .ok (.ifCond .eq 12, 3) := by decide +kernel
theorem dX9_work_25 : decode cX9_work 25 = .ok (.iload_n 1, 1) := by decide +kernel
theorem dX9_work_26 : decode cX9_work 26 = .ok (.iconst 2, 1) := by decide +kernel
theorem dX9_work_27 : decode cX9_work 27 = .ok (.if_icmp .ne 10, 3) := by decide +kernel
theorem dX9_work_30 : decode cX9_work 30 = .ok (.iload_n 3, 1) := by decide +kernel
theorem dX9_work_31 : decode cX9_work 31 = .ok (.ifCond .ne 6, 3) := by decide +kernel
theorem dX9_work_34 : decode cX9_work 34 = .ok (.bipush (-2), 2) := by decide +kernel
theorem dX9_work_36 : decode cX9_work 36 = .ok (.ireturn, 1) := by decide +kernel
theorem dX9_work_37 : decode cX9_work 37 = .ok (.iload_n 1, 1) := by decide +kernel
theorem dX9_work_38 : decode cX9_work 38 = .ok (.ifCond .ne 14, 3) := by decide +kernel
theorem dX9_work_41 : decode cX9_work 41 = .ok (.iload_n 2, 1) := by decide +kernel
theorem dX9_work_42 : decode cX9_work 42 = .ok (.iload_n 3, 1) := by decide +kernel
theorem dX9_work_43 : decode cX9_work 43 = .ok (.iadd, 1) := by decide +kernel
theorem dX9_work_44 : decode cX9_work 44 = .ok (.aload_n 0, 1) := by decide +kernel
theorem dX9_work_45 : decode cX9_work 45 = .ok (.getfield 7, 3) := by decide +kernel
theorem dX9_work_48 : decode cX9_work 48 = .ok (.irem, 1) := by decide +kernel
theorem dX9_work_49 : decode cX9_work 49 = .ok (.goto 25, 3) := by decide +kernel
theorem dX9_work_52 : decode cX9_work 52 = .ok (.iload_n 1, 1) := by decide +kernel
theorem dX9_work_53 : decode cX9_work 53 = .ok (.iconst 1, 1) := by decide +kernel
theorem dX9_work_54 : decode cX9_work 54 = .ok (.if_icmp .ne 14, 3) := by decide +kernel
theorem dX9_work_57 : decode cX9_work 57 = .ok (.iload_n 2, 1) := by decide +kernel
theorem dX9_work_58 : decode cX9_work 58 = .ok (.iload_n 3, 1) := by decide +kernel
theorem dX9_work_59 : decode cX9_work 59 = .ok (.imul, 1) := by decide +kernel
theorem dX9_work_60 : decode cX9_work 60 = .ok (.aload_n 0, 1) := by decide +kernel
theorem dX9_work_61 : decode cX9_work 61 = .ok (.getfield 7, 3) := by decide +kernel
theorem dX9_work_64 : decode cX9_work 64 = .ok (.irem, 1) := by decide +kernel
theorem dX9_work_65 : decode cX9_work 65 = .ok (.goto 9, 3) := by decide +kernel
theorem dX9_work_68 : decode cX9_work 68 = .ok (.aload_n 0, 1) := by decide +kernel
theorem dX9_work_69 : decode cX9_work 69 = .ok (.iload_n 2, 1) := by decide +kernel
theorem dX9_work_70 : decode cX9_work 70 = .ok (.iload_n 3, 1) := by decide +kernel
theorem dX9_work_71 : decode cX9_work 71 = .ok (.invokevirtual 78, 3) := by decide +kernel
theorem dX9_work_74 : decode cX9_work 74 = .ok (.ireturn, 1) := by decide +kernel
theorem dX9_rootOf_0 : decode cX9_rootOf 0 = .ok (.iconst 0, 1) := by decide +kernel
theorem dX9_rootOf_1 : decode cX9_rootOf 1 = .ok (.istore_n 2, 1) := by decide +kernel
theorem dX9_rootOf_2 : decode cX9_rootOf 2 = .ok (.iload_n 2, 1) := by decide +kernel
theorem dX9_rootOf_3 : decode cX9_rootOf 3 = .ok (.aload_n 0, 1) := by decide +kernel
theorem dX9_rootOf_4 : decode cX9_rootOf 4 = .ok (.getfield 7, 3) := by decide +kernel
theorem dX9_rootOf_7 : decode cX9_rootOf 7 = .ok (.iconst 2, 1) := by decide +kernel
theorem dX9_rootOf_8 : decode cX9_rootOf 8 = .ok (.idiv, 1) := by decide +kernel
theorem dX9_rootOf_9 : decode cX9_rootOf 9 = .ok (.if_icmp .gt 23, 3) := by decide +kernel
theorem dX9_rootOf_12 : decode cX9_rootOf 12 = .ok (.iload_n 2, 1) := by decide +kernel
theorem dX9_rootOf_13 : decode cX9_rootOf 13 = .ok (.iload_n 2, 1) := by decide +kernel
theorem dX9_rootOf_14 : decode cX9_rootOf 14 = .ok (.imul, 1) := by decide +kernel
theorem dX9_rootOf_15 : decode cX9_rootOf 15 = .ok (.aload_n 0, 1) := by decide +kernel
theorem dX9_rootOf_16 : decode cX9_rootOf 16 = .ok (.getfield 7, 3) := by decide +kernel
theorem dX9_rootOf_19 : decode cX9_rootOf 19 = .ok (.irem, 1) := by decide +kernel
theorem dX9_rootOf_20 : decode cX9_rootOf 20 = .ok (.iload_n 1, 1) := by decide +kernel
theorem dX9_rootOf_21 : decode cX9_rootOf 21 = .ok (.if_icmp .ne 5, 3) := by decide +kernel
theorem dX9_rootOf_24 : decode cX9_rootOf 24 = .ok (.iload_n 2, 1) := by decide +kernel
theorem dX9_rootOf_25 : decode cX9_rootOf 25 = .ok (.ireturn, 1) := by decide +kernel
theorem dX9_rootOf_26 : decode cX9_rootOf 26 = .ok (.iinc 2 1, 3) := by decide +kernel
theorem dX9_rootOf_29 : decode cX9_rootOf 29 = .ok (.goto (-27), 3) := by decide +kernel
theorem dX9_rootOf_32 : decode cX9_rootOf 32 = .ok (.bipush (-6), 2) := by decide +kernel
theorem dX9_rootOf_34 : decode cX9_rootOf 34 = .ok (.ireturn, 1) := by decide +kernel
set_option maxRecDepth 20000 in
theorem ggX9_root_X9_isNumber : GoodIn wsX9_root wsX9_isNumber := goodIn_r _ [5, 6, 7, 8, 4, 9, 14, 15, 16, 17, 18, 19, 20, 21, 22, 23, 24, 25, 26, 27, 28, 29, 30, 31, 32, 33, 34, 35, 36, 37, 38, 39] (by decide +kernel) (by decide +kernel)
set_option maxRecDepth 20000 in
theorem gX9_root_X9_isNumber : GoodIn wsX9_root (wsV RX9 70 RX9 yX9_isNumber wsX9_isNumber) := goodIn_app (goodIn_of _ (by decide +kernel)) ggX9_root_X9_isNumber
set_option maxRecDepth 20000 in
theorem ggX9_root_X9_rootOf : GoodIn wsX9_root wsX9_rootOf := goodIn_r _ [13, 6, 14, 15, 16, 17, 18, 19, 20, 21, 22, 23, 24, 25, 26, 27, 28, 29, 30, 31, 32, 33, 34, 35, 36, 37, 38, 39] (by decide +kernel) (by decide +kernel)
set_option maxRecDepth 20000 in
theorem gX9_root_X9_rootOf : GoodIn wsX9_root (wsV RX9 81 RX9 yX9_rootOf wsX9_rootOf) := goodIn_app (goodIn_of _ (by decide +kernel)) ggX9_root_X9_rootOf
theorem dX9_root_0 : decode cX9_root 0 = .ok (.aload_n 0, 1) := by decide +kernel
theorem dX9_root_1 : decode cX9_root 1 = .ok (.iload_n 1, 1) := by decide +kernel
theorem dX9_root_2 : decode cX9_root 2 = .ok (.invokevirtual 70, 3) := by decide +kernel
theorem dX9_root_5 : decode cX9_root 5 = .ok (.ifCond .eq 11, 3) := by decide +kernel
theorem dX9_root_8 : decode cX9_root 8 = .ok (.aload_n 0, 1) := by decide +kernel
theorem dX9_root_9 : decode cX9_root 9 = .ok (.iload_n 1, 1) := by decide +kernel
theorem dX9_root_10 : decode cX9_root 10 = .ok (.invokevirtual 81, 3) := by decide +kernel
theorem dX9_root_13 : decode cX9_root 13 = .ok (.goto 5, 3) := by decide +kernel
theorem dX9_root_16 : decode cX9_root 16 = .ok (.bipush (-2), 2) := by decide +kernel
theorem dX9_root_18 : decode cX9_root 18 = .ok (.ireturn, 1) := by decide +kernel
set_option maxRecDepth 20000 in
theorem ggX9_mixOf_X9_of : GoodIn wsX9_mixOf wsX9_of := goodIn_r _ [7, 8, 9, 10, 11, 12, 13, 14, 15, 16, 17, 18, 19, 20, 21, 22, 23, 24, 25, 26, 27, 28, 29, 30, 31, 32, 33, 34] (by decide +kernel) (by decide +kernel)
set_option maxRecDepth 20000 in
theorem gX9_mixOf_X9_of : GoodIn wsX9_mixOf (wsV RX9 85 RX9 yX9_of wsX9_of) := goodIn_app (goodIn_of _ (by decide +kernel)) ggX9_mixOf_X9_of
theorem dX9_mixOf_0 : decode cX9_mixOf 0 = .ok (.iconst 0, 1) := by decide +kernel
theorem dX9_mixOf_1 : decode cX9_mixOf 1 = .ok (.istore_n 3, 1) := by decide +kernel
theorem dX9_mixOf_2 : decode cX9_mixOf 2 = .ok (.iload_n 3, 1) := by decide +kernel
theorem dX9_mixOf_3 : decode cX9_mixOf 3 = .ok (.bipush 6, 2) := by decide +kernel
theorem dX9_mixOf_5 : decode cX9_mixOf 5 = .ok (.if_icmp .ge 39, 3) := by decide +kernel
theorem dX9_mixOf_8 : decode cX9_mixOf 8 = .ok (.aload_n 0, 1) := by decide +kernel
theorem dX9_mixOf_9 : decode cX9_mixOf 9 = .ok (.getfield 50, 3) := by decide +kernel
theorem dX9_mixOf_12 : decode cX9_mixOf 12 = .ok (.iload_n 3, 1) := by decide +kernel
theorem dX9_mixOf_13 : decode cX9_mixOf 13 = .ok (.aload_n 0, 1) := by decide +kernel
theorem dX9_mixOf_14 : decode cX9_mixOf 14 = .ok (.iload_n 1, 1) := by decide +kernel
theorem dX9_mixOf_15 : decode cX9_mixOf 15 = .ok (.aload_n 0, 1) := by decide +kernel
theorem dX9_mixOf_16 : decode cX9_mixOf 16 = .ok (.getfield 13, 3) := by decide +kernel
theorem dX9_mixOf_19 : decode cX9_mixOf 19 = .ok (.iload_n 3, 1) := by decide +kernel
theorem dX9_mixOf_20 : decode cX9_mixOf 20 = .ok (.iaload, 1) := by decide +kernel
theorem dX9_mixOf_21 : decode cX9_mixOf 21 = .ok (.imul, 1) := by decide +kernel
theorem dX9_mixOf_22 : decode cX9_mixOf 22 = .ok (.iload_n 2, 1) := by decide +kernel
theorem dX9_mixOf_23 : decode cX9_mixOf 23 = .ok (.aload_n 0, 1) := by decide +kernel
theorem dX9_mixOf_24 : decode cX9_mixOf 24 = .ok (.getfield 13, 3) := by decide +kernel
theorem dX9_mixOf_27 : decode cX9_mixOf 27 = .ok (.bipush 6, 2) := by decide +kernel
theorem dX9_mixOf_29 : decode cX9_mixOf 29 = .ok (.iload_n 3, 1) := by decide +kernel
theorem dX9_mixOf_30 : decode cX9_mixOf 30 = .ok (.iadd, 1) := by decide +kernel
theorem dX9_mixOf_31 : decode cX9_mixOf 31 = .ok (.iaload, 1) := by decide +kernel
theorem dX9_mixOf_32 : decode cX9_mixOf 32 = .ok (.imul, 1) := by decide +kernel
theorem dX9_mixOf_33 : decode cX9_mixOf 33 = .ok (.iadd, 1) := by decide +kernel
theorem dX9_mixOf_34 : decode cX9_mixOf 34 = .ok (.invokevirtual 85, 3) := by decide +kernel
theorem dX9_mixOf_37 : decode cX9_mixOf 37 = .ok (.iastore, 1) := by decide +kernel
theorem dX9_mixOf_38 : decode cX9_mixOf 38 = .ok (.iinc 3 1, 3) := by decide +kernel
theorem dX9_mixOf_41 : decode cX9_mixOf 41 = .ok (.goto (-39), 3) := by decide +kernel
theorem dX9_mixOf_44 : decode cX9_mixOf 44 = .ok (.return_, 1) := by decide +kernel
set_option maxRecDepth 20000 in
theorem ggX9_cofactorOf_X9_of : GoodIn wsX9_cofactorOf wsX9_of := goodIn_r _ [6, 7, 8, 9, 10, 11, 12, 13, 14, 15, 16, 17, 18, 19, 20, 21, 22, 23, 24, 25, 26, 27, 28, 29, 30, 31, 32, 33] (by decide +kernel) (by decide +kernel)
set_option maxRecDepth 20000 in
theorem gX9_cofactorOf_X9_of : GoodIn wsX9_cofactorOf (wsV RX9 85 RX9 yX9_of wsX9_of) := goodIn_app (goodIn_of _ (by decide +kernel)) ggX9_cofactorOf_X9_of
theorem dX9_cofactorOf_0 : decode cX9_cofactorOf 0 = .ok (.aload_n 1, 1) := by decide +kernel
theorem dX9_cofactorOf_1 : decode cX9_cofactorOf 1 = .ok (.iload_n 2, 1) := by decide +kernel
theorem dX9_cofactorOf_2 : decode cX9_cofactorOf 2 = .ok (.iaload, 1) := by decide +kernel
theorem dX9_cofactorOf_3 : decode cX9_cofactorOf 3 = .ok (.istore_n 3, 1) := by decide +kernel
theorem dX9_cofactorOf_4 : decode cX9_cofactorOf 4 = .ok (.aload_n 1, 1) := by decide +kernel
theorem dX9_cofactorOf_5 : decode cX9_cofactorOf 5 = .ok (.iload_n 2, 1) := by decide +kernel
theorem dX9_cofactorOf_6 : decode cX9_cofactorOf 6 = .ok (.iconst 1, 1) := by decide +kernel
theorem dX9_cofactorOf_7 : decode cX9_cofactorOf 7 = .ok (.iadd, 1) := by decide +kernel
theorem dX9_cofactorOf_8 : decode cX9_cofactorOf 8 = .ok (.iaload, 1) := by decide +kernel
theorem dX9_cofactorOf_9 : decode cX9_cofactorOf 9 = .ok (.istore 4, 2) := by decide +kernel
theorem dX9_cofactorOf_11 : decode cX9_cofactorOf 11 = .ok (.aload_n 1, 1) := by decide +kernel
theorem dX9_cofactorOf_12 : decode cX9_cofactorOf 12 = .ok (.iload_n 2, 1) := by decide +kernel
theorem dX9_cofactorOf_13 : decode cX9_cofactorOf 13 = .ok (.iconst 2, 1) := by decide +kernel
theorem dX9_cofactorOf_14 : decode cX9_cofactorOf 14 = .ok (.iadd, 1) := by decide +kernel
theorem dX9_cofactorOf_15 : decode cX9_cofactorOf 15 = .ok (.iaload, 1) := by decide +kernel
theorem dX9_cofactorOf_16 : decode cX9_cofactorOf 16 = .ok (.istore 5, 2) := by decide +kernel
theorem dX9_cofactorOf_18 : decode cX9_cofactorOf 18 = .ok (.aload_n 1, 1) := by decide +kernel
theorem dX9_cofactorOf_19 : decode cX9_cofactorOf 19 = .ok (.iload_n 2, 1) := by decide +kernel
theorem dX9_cofactorOf_20 : decode cX9_cofactorOf 20 = .ok (.iconst 3, 1) := by decide +kernel
theorem dX9_cofactorOf_21 : decode cX9_cofactorOf 21 = .ok (.iadd, 1) := by decide +kernel
theorem dX9_cofactorOf_22 : decode cX9_cofactorOf 22 = .ok (.iaload, 1) := by decide +kernel
theorem dX9_cofactorOf_23 : decode cX9_cofactorOf 23 = .ok (.istore 6, 2) := by decide +kernel
theorem dX9_cofactorOf_25 : decode cX9_cofactorOf 25 = .ok (.aload_n 1, 1) := by decide +kernel
theorem dX9_cofactorOf_26 : decode cX9_cofactorOf 26 = .ok (.iload_n 2, 1) := by decide +kernel
theorem dX9_cofactorOf_27 : decode cX9_cofactorOf 27 = .ok (.iconst 4, 1) := by decide +kernel
theorem dX9_cofactorOf_28 : decode cX9_cofactorOf 28 = .ok (.iadd, 1) := by decide +kernel
theorem dX9_cofactorOf_29 : decode cX9_cofactorOf 29 = .ok (.iaload, 1) := by decide +kernel
theorem dX9_cofactorOf_30 : decode cX9_cofactorOf 30 = .ok (.istore 7, 2) := by decide +kernel
theorem dX9_cofactorOf_32 : decode cX9_cofactorOf 32 = .ok (.aload_n 1, 1) := by decide +kernel
theorem dX9_cofactorOf_33 : decode cX9_cofactorOf 33 = .ok (.iload_n 2, 1) := by decide +kernel
theorem dX9_cofactorOf_34 : decode cX9_cofactorOf 34 = .ok (.iconst 5, 1) := by decide +kernel
theorem dX9_cofactorOf_35 : decode cX9_cofactorOf 35 = .ok (.iadd, 1) := by decide +kernel
theorem dX9_cofactorOf_36 : decode cX9_cofactorOf 36 = .ok (.iaload, 1) := by decide +kernel
theorem dX9_cofactorOf_37 : decode cX9_cofactorOf 37 = .ok (.istore 8, 2) := by decide +kernel
theorem dX9_cofactorOf_39 : decode cX9_cofactorOf 39 = .ok (.aload_n 0, 1) := by decide +kernel
theorem dX9_cofactorOf_40 : decode cX9_cofactorOf 40 = .ok (.getfield 53, 3) := by decide +kernel
theorem dX9_cofactorOf_43 : decode cX9_cofactorOf 43 = .ok (.iconst 0, 1) := by decide +kernel
theorem dX9_cofactorOf_44 : decode cX9_cofactorOf 44 = .ok (.aload_n 0, 1) := by decide +kernel
theorem dX9_cofactorOf_45 : decode cX9_cofactorOf 45 = .ok (.iload 4, 2) := by decide +kernel
theorem dX9_cofactorOf_47 : decode cX9_cofactorOf 47 = .ok (.iload 5, 2) := by decide +kernel
theorem dX9_cofactorOf_49 : decode cX9_cofactorOf 49 = .ok (.imul, 1) := by decide +kernel
theorem dX9_cofactorOf_50 : decode cX9_cofactorOf 50 = .ok (.iload 6, 2) := by decide +kernel
theorem dX9_cofactorOf_52 : decode cX9_cofactorOf 52 = .ok (.iload 6, 2) := by decide +kernel
theorem dX9_cofactorOf_54 : decode cX9_cofactorOf 54 = .ok (.imul, 1) := by decide +kernel
theorem dX9_cofactorOf_55 : decode cX9_cofactorOf 55 = .ok (.isub, 1) := by decide +kernel
theorem dX9_cofactorOf_56 : decode cX9_cofactorOf 56 = .ok (.invokevirtual 85, 3) := by decide +kernel
theorem dX9_cofactorOf_59 : decode cX9_cofactorOf 59 = .ok (.iastore, 1) := by decide +kernel
theorem dX9_cofactorOf_60 : decode cX9_cofactorOf 60 = .ok (.aload_n 0, 1) := by decide +kernel
theorem dX9_cofactorOf_61 : decode cX9_cofactorOf 61 = .ok (.getfield 53, 3) := by decide +kernel
theorem dX9_cofactorOf_64 : decode cX9_cofactorOf 64 = .ok (.iconst 1, 1) := by decide +kernel
theorem dX9_cofactorOf_65 : decode cX9_cofactorOf 65 = .ok (.aload_n 0, 1) := by decide +kernel
theorem dX9_cofactorOf_66 : decode cX9_cofactorOf 66 = .ok (.iload_n 3, 1) := by decide +kernel
theorem dX9_cofactorOf_67 : decode cX9_cofactorOf 67 = .ok (.iload 5, 2) := by decide +kernel
theorem dX9_cofactorOf_69 : decode cX9_cofactorOf 69 = .ok (.imul, 1) := by decide +kernel
theorem dX9_cofactorOf_70 : decode cX9_cofactorOf 70 = .ok (.iload 7, 2) := by decide +kernel
theorem dX9_cofactorOf_72 : decode cX9_cofactorOf 72 = .ok (.iload 7, 2) := by decide +kernel
theorem dX9_cofactorOf_74 : decode cX9_cofactorOf 74 = .ok (.imul, 1) := by decide +kernel
theorem dX9_cofactorOf_75 : decode cX9_cofactorOf 75 = .ok (.isub, 1) := by decide +kernel
theorem dX9_cofactorOf_76 : decode cX9_cofactorOf 76 = .ok (.invokevirtual 85, 3) := by decide +kernel
theorem dX9_cofactorOf_79 : decode cX9_cofactorOf 79 = .ok (.iastore, 1) := by decide +kernel
theorem dX9_cofactorOf_80 : decode cX9_cofactorOf 80 = .ok (.aload_n 0, 1) := by decide +kernel
theorem dX9_cofactorOf_81 : decode cX9_cofactorOf 81 = .ok (.getfield 53, 3) := by decide +kernel
theorem dX9_cofactorOf_84 : decode cX9_cofactorOf 84 = .ok (.iconst 2, 1) := by decide +kernel
theorem dX9_cofactorOf_85 : decode cX9_cofactorOf 85 = .ok (.aload_n 0, 1) := by decide +kernel
theorem dX9_cofactorOf_86 : decode cX9_cofactorOf 86 = .ok (.iload_n 3, 1) := by decide +kernel
theorem dX9_cofactorOf_87 : decode cX9_cofactorOf 87 = .ok (.iload 4, 2) := by decide +kernel
theorem dX9_cofactorOf_89 : decode cX9_cofactorOf 89 = .ok (.imul, 1) := by decide +kernel
theorem dX9_cofactorOf_90 : decode cX9_cofactorOf 90 = .ok (.iload 8, 2) := by decide +kernel
theorem dX9_cofactorOf_92 : decode cX9_cofactorOf 92 = .ok (.iload 8, 2) := by decide +kernel
theorem dX9_cofactorOf_94 : decode cX9_cofactorOf 94 = .ok (.imul, 1) := by decide +kernel
theorem dX9_cofactorOf_95 : decode cX9_cofactorOf 95 = .ok (.isub, 1) := by decide +kernel
theorem dX9_cofactorOf_96 : decode cX9_cofactorOf 96 = .ok (.invokevirtual 85, 3) := by decide +kernel
theorem dX9_cofactorOf_99 : decode cX9_cofactorOf 99 = .ok (.iastore, 1) := by decide +kernel
theorem dX9_cofactorOf_100 : decode cX9_cofactorOf 100 = .ok (.aload_n 0, 1) := by decide +kernel
theorem dX9_cofactorOf_101 : decode cX9_cofactorOf 101 = .ok (.getfield 53, 3) := by decide +kernel
theorem dX9_cofactorOf_104 : decode cX9_cofactorOf 104 = .ok (.iconst 3, 1) := by decide +kernel
theorem dX9_cofactorOf_105 : decode cX9_cofactorOf 105 = .ok (.aload_n 0, 1) := by decide +kernel
theorem dX9_cofactorOf_106 : decode cX9_cofactorOf 106 = .ok (.iload 7, 2) := by decide +kernel
theorem dX9_cofactorOf_108 : decode cX9_cofactorOf 108 = .ok (.iload 8, 2) := by decide +kernel
theorem dX9_cofactorOf_110 : decode cX9_cofactorOf 110 = .ok (.imul, 1) := by decide +kernel
theorem dX9_cofactorOf_111 : decode cX9_cofactorOf 111 = .ok (.iload_n 3, 1) := by decide +kernel
theorem dX9_cofactorOf_112 : decode cX9_cofactorOf 112 = .ok (.iload 6, 2) := by decide +kernel
theorem dX9_cofactorOf_114 : decode cX9_cofactorOf 114 = .ok (.imul, 1) := by decide +kernel
theorem dX9_cofactorOf_115 : decode cX9_cofactorOf 115 = .ok (.isub, 1) := by decide +kernel
theorem dX9_cofactorOf_116 : decode cX9_cofactorOf 116 = .ok (.invokevirtual 85, 3) := by decide +kernel
theorem dX9_cofactorOf_119 : decode cX9_cofactorOf 119 = .ok (.iastore, 1) := by decide +kernel
theorem dX9_cofactorOf_120 : decode cX9_cofactorOf 120 = .ok (.aload_n 0, 1) := by decide +kernel
theorem dX9_cofactorOf_121 : decode cX9_cofactorOf 121 = .ok (.getfield 53, 3) := by decide +kernel
theorem dX9_cofactorOf_124 : decode cX9_cofactorOf 124 = .ok (.iconst 4, 1) := by decide +kernel
theorem dX9_cofactorOf_125 : decode cX9_cofactorOf 125 = .ok (.aload_n 0, 1) := by decide +kernel
theorem dX9_cofactorOf_126 : decode cX9_cofactorOf 126 = .ok (.iload 6, 2) := by decide +kernel
theorem dX9_cofactorOf_128 : decode cX9_cofactorOf 128 = .ok (.iload 8, 2) := by decide +kernel
theorem dX9_cofactorOf_130 : decode cX9_cofactorOf 130 = .ok (.imul, 1) := by decide +kernel
theorem dX9_cofactorOf_131 : decode cX9_cofactorOf 131 = .ok (.iload 4, 2) := by decide +kernel
theorem dX9_cofactorOf_133 : decode cX9_cofactorOf 133 = .ok (.iload 7, 2) := by decide +kernel
theorem dX9_cofactorOf_135 : decode cX9_cofactorOf 135 = .ok (.imul, 1) := by decide +kernel
theorem dX9_cofactorOf_136 : decode cX9_cofactorOf 136 = .ok (.isub, 1) := by decide +kernel
theorem dX9_cofactorOf_137 : decode cX9_cofactorOf 137 = .ok (.invokevirtual 85, 3) := by decide +kernel
theorem dX9_cofactorOf_140 : decode cX9_cofactorOf 140 = .ok (.iastore, 1) := by decide +kernel
theorem dX9_cofactorOf_141 : decode cX9_cofactorOf 141 = .ok (.aload_n 0, 1) := by decide +kernel
theorem dX9_cofactorOf_142 : decode cX9_cofactorOf 142 = .ok (.getfield 53, 3) := by decide +kernel
theorem dX9_cofactorOf_145 : decode cX9_cofactorOf 145 = .ok (.iconst 5, 1) := by decide +kernel
theorem dX9_cofactorOf_146 : decode cX9_cofactorOf 146 = .ok (.aload_n 0, 1) := by decide +kernel
theorem dX9_cofactorOf_147 : decode cX9_cofactorOf 147 = .ok (.iload 6, 2) := by decide +kernel
theorem dX9_cofactorOf_149 : decode cX9_cofactorOf 149 = .ok (.iload 7, 2) := by decide +kernel
theorem dX9_cofactorOf_151 : decode cX9_cofactorOf 151 = .ok (.imul, 1) := by decide +kernel
theorem dX9_cofactorOf_152 : decode cX9_cofactorOf 152 = .ok (.iload 5, 2) := by decide +kernel
theorem dX9_cofactorOf_154 : decode cX9_cofactorOf 154 = .ok (.iload 8, 2) := by decide +kernel
theorem dX9_cofactorOf_156 : decode cX9_cofactorOf 156 = .ok (.imul, 1) := by decide +kernel
theorem dX9_cofactorOf_157 : decode cX9_cofactorOf 157 = .ok (.isub, 1) := by decide +kernel
theorem dX9_cofactorOf_158 : decode cX9_cofactorOf 158 = .ok (.invokevirtual 85, 3) := by decide +kernel
theorem dX9_cofactorOf_161 : decode cX9_cofactorOf 161 = .ok (.iastore, 1) := by decide +kernel
theorem dX9_cofactorOf_162 : decode cX9_cofactorOf 162 = .ok (.return_, 1) := by decide +kernel
set_option maxRecDepth 20000 in
theorem ggX9_both_X9_of : GoodIn wsX9_both wsX9_of := goodIn_r _ [5, 6, 7, 8, 9, 10, 11, 12, 13, 14, 15, 16, 17, 18, 19, 20, 21, 22, 23, 24, 25, 26, 27, 28, 29, 30, 31, 32] (by decide +kernel) (by decide +kernel)
set_option maxRecDepth 20000 in
theorem gX9_both_X9_of : GoodIn wsX9_both (wsV RX9 85 RX9 yX9_of wsX9_of) := goodIn_app (goodIn_of _ (by decide +kernel)) ggX9_both_X9_of
theorem dX9_both_0 : decode cX9_both 0 = .ok (.aload_n 0, 1) := by decide +kernel
theorem dX9_both_1 : decode cX9_both 1 = .ok (.aload_n 1, 1) := by decide +kernel
theorem dX9_both_2 : decode cX9_both 2 = .ok (.iload_n 2, 1) := by decide +kernel
theorem dX9_both_3 : decode cX9_both 3 = .ok (.iaload, 1) := by decide +kernel
theorem dX9_both_4 : decode cX9_both 4 = .ok (.iload_n 3, 1) := by decide +kernel
theorem dX9_both_5 : decode cX9_both 5 = .ok (.imul, 1) := by decide +kernel
theorem dX9_both_6 : decode cX9_both 6 = .ok (.aload_n 1, 1) := by decide +kernel
theorem dX9_both_7 : decode cX9_both 7 = .ok (.iload_n 2, 1) := by decide +kernel
theorem dX9_both_8 : decode cX9_both 8 = .ok (.iconst 5, 1) := by decide +kernel
theorem dX9_both_9 : decode cX9_both 9 = .ok (.iadd, 1) := by decide +kernel
theorem dX9_both_10 : decode cX9_both 10 = .ok (.iaload, 1) := by decide +kernel
theorem dX9_both_11 : decode cX9_both 11 = .ok (.iload 4, 2) := by decide +kernel
theorem dX9_both_13 : decode cX9_both 13 = .ok (.imul, 1) := by decide +kernel
theorem dX9_both_14 : decode cX9_both 14 = .ok (.iadd, 1) := by decide +kernel
theorem dX9_both_15 : decode cX9_both 15 = .ok (.aload_n 1, 1) := by decide +kernel
theorem dX9_both_16 : decode cX9_both 16 = .ok (.iload_n 2, 1) := by decide +kernel
theorem dX9_both_17 : decode cX9_both 17 = .ok (.iconst 4, 1) := by decide +kernel
theorem dX9_both_18 : decode cX9_both 18 = .ok (.iadd, 1) := by decide +kernel
theorem dX9_both_19 : decode cX9_both 19 = .ok (.iaload, 1) := by decide +kernel
theorem dX9_both_20 : decode cX9_both 20 = .ok (.iload 5, 2) := by decide +kernel
theorem dX9_both_22 : decode cX9_both 22 = .ok (.imul, 1) := by decide +kernel
theorem dX9_both_23 : decode cX9_both 23 = .ok (.iadd, 1) := by decide +kernel
theorem dX9_both_24 : decode cX9_both 24 = .ok (.invokevirtual 85, 3) := by decide +kernel
theorem dX9_both_27 : decode cX9_both 27 = .ok (.istore 6, 2) := by decide +kernel
theorem dX9_both_29 : decode cX9_both 29 = .ok (.aload_n 0, 1) := by decide +kernel
theorem dX9_both_30 : decode cX9_both 30 = .ok (.aload_n 1, 1) := by decide +kernel
theorem dX9_both_31 : decode cX9_both 31 = .ok (.iload_n 2, 1) := by decide +kernel
theorem dX9_both_32 : decode cX9_both 32 = .ok (.iconst 5, 1) := by decide +kernel
theorem dX9_both_33 : decode cX9_both 33 = .ok (.iadd, 1) := by decide +kernel
theorem dX9_both_34 : decode cX9_both 34 = .ok (.iaload, 1) := by decide +kernel
theorem dX9_both_35 : decode cX9_both 35 = .ok (.iload_n 3, 1) := by decide +kernel
theorem dX9_both_36 : decode cX9_both 36 = .ok (.imul, 1) := by decide +kernel
theorem dX9_both_37 : decode cX9_both 37 = .ok (.aload_n 1, 1) := by decide +kernel
theorem dX9_both_38 : decode cX9_both 38 = .ok (.iload_n 2, 1) := by decide +kernel
theorem dX9_both_39 : decode cX9_both 39 = .ok (.iconst 1, 1) := by decide +kernel
theorem dX9_both_40 : decode cX9_both 40 = .ok (.iadd, 1) := by decide +kernel
theorem dX9_both_41 : decode cX9_both 41 = .ok (.iaload, 1) := by decide +kernel
theorem dX9_both_42 : decode cX9_both 42 = .ok (.iload 4, 2) := by decide +kernel
theorem dX9_both_44 : decode cX9_both 44 = .ok (.imul, 1) := by decide +kernel
theorem dX9_both_45 : decode cX9_both 45 = .ok (.iadd, 1) := by decide +kernel
theorem dX9_both_46 : decode cX9_both 46 = .ok (.aload_n 1, 1) := by decide +kernel
theorem dX9_both_47 : decode cX9_both 47 = .ok (.iload_n 2, 1) := by decide +kernel
theorem dX9_both_48 : decode cX9_both 48 = .ok (.iconst 3, 1) := by decide +kernel
theorem dX9_both_49 : decode cX9_both 49 = .ok (.iadd, 1) := by decide +kernel
theorem dX9_both_50 : decode cX9_both 50 = .ok (.iaload, 1) := by decide +kernel
theorem dX9_both_51 : decode cX9_both 51 = .ok (.iload 5, 2) := by decide +kernel
theorem dX9_both_53 : decode cX9_both 53 = .ok (.imul, 1) := by decide +kernel
theorem dX9_both_54 : decode cX9_both 54 = .ok (.iadd, 1) := by decide +kernel
theorem dX9_both_55 : decode cX9_both 55 = .ok (.invokevirtual 85, 3) := by decide +kernel
theorem dX9_both_58 : decode cX9_both 58 = .ok (.istore 7, 2) := by decide +kernel
theorem dX9_both_60 : decode cX9_both 60 = .ok (.aload_n 0, 1) := by decide +kernel
theorem dX9_both_61 : decode cX9_both 61 = .ok (.aload_n 1, 1) := by decide +kernel
theorem dX9_both_62 : decode cX9_both 62 = .ok (.iload_n 2, 1) := by decide +kernel
theorem dX9_both_63 : decode cX9_both 63 = .ok (.iconst 4, 1) := by decide +kernel
theorem dX9_both_64 : decode cX9_both 64 = .ok (.iadd, 1) := by decide +kernel
theorem dX9_both_65 : decode cX9_both 65 = .ok (.iaload, 1) := by decide +kernel
theorem dX9_both_66 : decode cX9_both 66 = .ok (.iload_n 3, 1) := by decide +kernel
theorem dX9_both_67 : decode cX9_both 67 = .ok (.imul, 1) := by decide +kernel
theorem dX9_both_68 : decode cX9_both 68 = .ok (.aload_n 1, 1) := by decide +kernel
theorem dX9_both_69 : decode cX9_both 69 = .ok (.iload_n 2, 1) := by decide +kernel
theorem dX9_both_70 : decode cX9_both 70 = .ok (.iconst 3, 1) := by decide +kernel
theorem dX9_both_71 : decode cX9_both 71 = .ok (.iadd, 1) := by decide +kernel
theorem dX9_both_72 : decode cX9_both 72 = .ok (.iaload, 1) := by decide +kernel
theorem dX9_both_73 : decode cX9_both 73 = .ok (.iload 4, 2) := by decide +kernel
theorem dX9_both_75 : decode cX9_both 75 = .ok (.imul, 1) := by decide +kernel
theorem dX9_both_76 : decode cX9_both 76 = .ok (.iadd, 1) := by decide +kernel
theorem dX9_both_77 : decode cX9_both 77 = .ok (.aload_n 1, 1) := by decide +kernel
theorem dX9_both_78 : decode cX9_both 78 = .ok (.iload_n 2, 1) := by decide +kernel
theorem dX9_both_79 : decode cX9_both 79 = .ok (.iconst 2, 1) := by decide +kernel
theorem dX9_both_80 : decode cX9_both 80 = .ok (.iadd, 1) := by decide +kernel
theorem dX9_both_81 : decode cX9_both 81 = .ok (.iaload, 1) := by decide +kernel
theorem dX9_both_82 : decode cX9_both 82 = .ok (.iload 5, 2) := by decide +kernel
theorem dX9_both_84 : decode cX9_both 84 = .ok (.imul, 1) := by decide +kernel
theorem dX9_both_85 : decode cX9_both 85 = .ok (.iadd, 1) := by decide +kernel
theorem dX9_both_86 : decode cX9_both 86 = .ok (.invokevirtual 85, 3) := by decide +kernel
theorem dX9_both_89 : decode cX9_both 89 = .ok (.istore 8, 2) := by decide +kernel
theorem dX9_both_91 : decode cX9_both 91 = .ok (.aload_n 0, 1) := by decide +kernel
theorem dX9_both_92 : decode cX9_both 92 = .ok (.iload 6, 2) := by decide +kernel
theorem dX9_both_94 : decode cX9_both 94 = .ok (.iload_n 3, 1) := by decide +kernel
theorem dX9_both_95 : decode cX9_both 95 = .ok (.imul, 1) := by decide +kernel
theorem dX9_both_96 : decode cX9_both 96 = .ok (.iload 7, 2) := by decide +kernel
theorem dX9_both_98 : decode cX9_both 98 = .ok (.iload 4, 2) := by decide +kernel
theorem dX9_both_100 : decode cX9_both 100 = .ok (.imul, 1) := by decide +kernel
theorem dX9_both_101 : decode cX9_both 101 = .ok (.iadd, 1) := by decide +kernel
theorem dX9_both_102 : decode cX9_both 102 = .ok (.iload 8, 2) := by decide +kernel
theorem dX9_both_104 : decode cX9_both 104 = .ok (.iload 5, 2) := by decide +kernel
theorem dX9_both_106 : decode cX9_both 106 = .ok (.imul, 1) := by decide +kernel
theorem dX9_both_107 : decode cX9_both 107 = .ok (.iadd, 1) := by decide +kernel
theorem dX9_both_108 : decode cX9_both 108 = .ok (.invokevirtual 85, 3) := by decide +kernel
theorem dX9_both_111 : decode cX9_both 111 = .ok (.ireturn, 1) := by decide +kernel
set_option maxRecDepth 20000 in
theorem ggX9_trace_X9_of : GoodIn wsX9_trace wsX9_of := goodIn_r _ [6, 7, 8, 9, 10, 11, 12, 13, 14, 15, 16, 17, 18, 19, 20, 21, 22, 23, 24, 25, 26, 27, 28, 29, 30, 31, 32, 33] (by decide +kernel) (by decide +kernel)
set_option maxRecDepth 20000 in
theorem gX9_trace_X9_of : GoodIn wsX9_trace (wsV RX9 85 RX9 yX9_of wsX9_of) := goodIn_app (goodIn_of _ (by decide +kernel)) ggX9_trace_X9_of
theorem dX9_trace_0 : decode cX9_trace 0 = .ok (.aload_n 1, 1) := by decide +kernel
theorem dX9_trace_1 : decode cX9_trace 1 = .ok (.iload_n 2, 1) := by decide +kernel
theorem dX9_trace_2 : decode cX9_trace 2 = .ok (.iaload, 1) := by decide +kernel
theorem dX9_trace_3 : decode cX9_trace 3 = .ok (.aload_n 0, 1) := by decide +kernel
theorem dX9_trace_4 : decode cX9_trace 4 = .ok (.getfield 53, 3) := by decide +kernel
theorem dX9_trace_7 : decode cX9_trace 7 = .ok (.iconst 0, 1) := by decide +kernel
theorem dX9_trace_8 : decode cX9_trace 8 = .ok (.iaload, 1) := by decide +kernel
theorem dX9_trace_9 : decode cX9_trace 9 = .ok (.imul, 1) := by decide +kernel
theorem dX9_trace_10 : decode cX9_trace 10 = .ok (.aload_n 1, 1) := by decide +kernel
theorem dX9_trace_11 : decode cX9_trace 11 = .ok (.iload_n 2, 1) := by decide +kernel
theorem dX9_trace_12 : decode cX9_trace 12 = .ok (.iconst 1, 1) := by decide +kernel
theorem dX9_trace_13 : decode cX9_trace 13 = .ok (.iadd, 1) := by decide +kernel
theorem dX9_trace_14 : decode cX9_trace 14 = .ok (.iaload, 1) := by decide +kernel
theorem dX9_trace_15 : decode cX9_trace 15 = .ok (.aload_n 0, 1) := by decide +kernel
theorem dX9_trace_16 : decode cX9_trace 16 = .ok (.getfield 53, 3) := by decide +kernel
theorem dX9_trace_19 : decode cX9_trace 19 = .ok (.iconst 1, 1) := by decide +kernel
theorem dX9_trace_20 : decode cX9_trace 20 = .ok (.iaload, 1) := by decide +kernel
theorem dX9_trace_21 : decode cX9_trace 21 = .ok (.imul, 1) := by decide +kernel
theorem dX9_trace_22 : decode cX9_trace 22 = .ok (.iadd, 1) := by decide +kernel
theorem dX9_trace_23 : decode cX9_trace 23 = .ok (.aload_n 1, 1) := by decide +kernel
theorem dX9_trace_24 : decode cX9_trace 24 = .ok (.iload_n 2, 1) := by decide +kernel
theorem dX9_trace_25 : decode cX9_trace 25 = .ok (.iconst 2, 1) := by decide +kernel
theorem dX9_trace_26 : decode cX9_trace 26 = .ok (.iadd, 1) := by decide +kernel
theorem dX9_trace_27 : decode cX9_trace 27 = .ok (.iaload, 1) := by decide +kernel
theorem dX9_trace_28 : decode cX9_trace 28 = .ok (.aload_n 0, 1) := by decide +kernel
theorem dX9_trace_29 : decode cX9_trace 29 = .ok (.getfield 53, 3) := by decide +kernel
theorem dX9_trace_32 : decode cX9_trace 32 = .ok (.iconst 2, 1) := by decide +kernel
theorem dX9_trace_33 : decode cX9_trace 33 = .ok (.iaload, 1) := by decide +kernel
theorem dX9_trace_34 : decode cX9_trace 34 = .ok (.imul, 1) := by decide +kernel
theorem dX9_trace_35 : decode cX9_trace 35 = .ok (.iadd, 1) := by decide +kernel
theorem dX9_trace_36 : decode cX9_trace 36 = .ok (.istore_n 3, 1) := by decide +kernel
theorem dX9_trace_37 : decode cX9_trace 37 = .ok (.aload_n 1, 1) := by decide +kernel
theorem dX9_trace_38 : decode cX9_trace 38 = .ok (.iload_n 2, 1) := by decide +kernel
theorem dX9_trace_39 : decode cX9_trace 39 = .ok (.iconst 3, 1) := by decide +kernel
theorem dX9_trace_40 : decode cX9_trace 40 = .ok (.iadd, 1) := by decide +kernel
theorem dX9_trace_41 : decode cX9_trace 41 = .ok (.iaload, 1) := by decide +kernel
theorem dX9_trace_42 : decode cX9_trace 42 = .ok (.aload_n 0, 1) := by decide +kernel
theorem dX9_trace_43 : decode cX9_trace 43 = .ok (.getfield 53, 3) := by decide +kernel
theorem dX9_trace_46 : decode cX9_trace 46 = .ok (.iconst 3, 1) := by decide +kernel
theorem dX9_trace_47 : decode cX9_trace 47 = .ok (.iaload, 1) := by decide +kernel
theorem dX9_trace_48 : decode cX9_trace 48 = .ok (.imul, 1) := by decide +kernel
theorem dX9_trace_49 : decode cX9_trace 49 = .ok (.aload_n 1, 1) := by decide +kernel
theorem dX9_trace_50 : decode cX9_trace 50 = .ok (.iload_n 2, 1) := by decide +kernel
theorem dX9_trace_51 : decode cX9_trace 51 = .ok (.iconst 4, 1) := by decide +kernel
theorem dX9_trace_52 : decode cX9_trace 52 = .ok (.iadd, 1) := by decide +kernel
theorem dX9_trace_53 : decode cX9_trace 53 = .ok (.iaload, 1) := by decide +kernel
theorem dX9_trace_54 : decode cX9_trace 54 = .ok (.aload_n 0, 1) := by decide +kernel
theorem dX9_trace_55 : decode cX9_trace 55 = .ok (.getfield 53, 3) := by decide +kernel
theorem dX9_trace_58 : decode cX9_trace 58 = .ok (.iconst 4, 1) := by decide +kernel
theorem dX9_trace_59 : decode cX9_trace 59 = .ok (.iaload, 1) := by decide +kernel
theorem dX9_trace_60 : decode cX9_trace 60 = .ok (.imul, 1) := by decide +kernel
theorem dX9_trace_61 : decode cX9_trace 61 = .ok (.iadd, 1) := by decide +kernel
theorem dX9_trace_62 : decode cX9_trace 62 = .ok (.aload_n 1, 1) := by decide +kernel
theorem dX9_trace_63 : decode cX9_trace 63 = .ok (.iload_n 2, 1) := by decide +kernel
theorem dX9_trace_64 : decode cX9_trace 64 = .ok (.iconst 5, 1) := by decide +kernel
theorem dX9_trace_65 : decode cX9_trace 65 = .ok (.iadd, 1) := by decide +kernel
theorem dX9_trace_66 : decode cX9_trace 66 = .ok (.iaload, 1) := by decide +kernel
theorem dX9_trace_67 : decode cX9_trace 67 = .ok (.aload_n 0, 1) := by decide +kernel
theorem dX9_trace_68 : decode cX9_trace 68 = .ok (.getfield 53, 3) := by decide +kernel
theorem dX9_trace_71 : decode cX9_trace 71 = .ok (.iconst 5, 1) := by decide +kernel
theorem dX9_trace_72 : decode cX9_trace 72 = .ok (.iaload, 1) := by decide +kernel
theorem dX9_trace_73 : decode cX9_trace 73 = .ok (.imul, 1) := by decide +kernel
theorem dX9_trace_74 : decode cX9_trace 74 = .ok (.iadd, 1) := by decide +kernel
theorem dX9_trace_75 : decode cX9_trace 75 = .ok (.istore 4, 2) := by decide +kernel
theorem dX9_trace_77 : decode cX9_trace 77 = .ok (.aload_n 0, 1) := by decide +kernel
theorem dX9_trace_78 : decode cX9_trace 78 = .ok (.iload_n 3, 1) := by decide +kernel
theorem dX9_trace_79 : decode cX9_trace 79 = .ok (.iconst 2, 1) := by decide +kernel
theorem dX9_trace_80 : decode cX9_trace 80 = .ok (.iload 4, 2) := by decide +kernel
theorem dX9_trace_82 : decode cX9_trace 82 = .ok (.imul, 1) := by decide +kernel
theorem dX9_trace_83 : decode cX9_trace 83 = .ok (.iadd, 1) := by decide +kernel
theorem dX9_trace_84 : decode cX9_trace 84 = .ok (.invokevirtual 85, 3) := by decide +kernel
theorem dX9_trace_87 : decode cX9_trace 87 = .ok (.ireturn, 1) := by decide +kernel
set_option maxRecDepth 20000 in
theorem ggX9_layCubic_X9_cofactorOf : GoodIn wsX9_layCubic wsX9_cofactorOf := goodIn_r _ [8, 9, 10, 11, 12, 7, 13, 3, 26, 27, 28, 29, 30, 31, 32, 33, 34, 35, 36, 37, 38, 39, 40, 41, 42, 43, 44, 45, 46, 47, 48, 49, 50, 51] (by decide +kernel) (by decide +kernel)
set_option maxRecDepth 20000 in
theorem gX9_layCubic_X9_cofactorOf : GoodIn wsX9_layCubic (wsV RX9 88 RX9 yX9_cofactorOf wsX9_cofactorOf) := goodIn_app (goodIn_of _ (by decide +kernel)) ggX9_layCubic_X9_cofactorOf
set_option maxRecDepth 20000 in
theorem ggX9_layCubic_X9_trace : GoodIn wsX9_layCubic wsX9_trace := goodIn_r _ [17, 9, 10, 11, 12, 7, 13, 3, 26, 27, 28, 29, 30, 31, 32, 33, 34, 35, 36, 37, 38, 39, 40, 41, 42, 43, 44, 45, 46, 47, 48, 49, 50, 51] (by decide +kernel) (by decide +kernel)
set_option maxRecDepth 20000 in
theorem gX9_layCubic_X9_trace : GoodIn wsX9_layCubic (wsV RX9 92 RX9 yX9_trace wsX9_trace) := goodIn_app (goodIn_of _ (by decide +kernel)) ggX9_layCubic_X9_trace
set_option maxRecDepth 20000 in
theorem ggX9_layCubic_X9_by : GoodIn wsX9_layCubic wsX9_by := goodIn_r _ [21, 3, 22, 23, 24, 7, 25, 26, 27, 28, 29, 30, 31, 32, 33, 34, 35, 36, 37, 38, 39, 40, 41, 42, 43, 44, 45, 46, 47, 48, 49, 50, 51] (by decide +kernel) (by decide +kernel)
set_option maxRecDepth 20000 in
theorem gX9_layCubic_X9_by : GoodIn wsX9_layCubic (wsV RX9 78 RX9 yX9_by wsX9_by) := goodIn_app (goodIn_of _ (by decide +kernel)) ggX9_layCubic_X9_by
theorem dX9_layCubic_0 : decode cX9_layCubic 0 = .ok (.aload_n 0, 1) := by decide +kernel
theorem dX9_layCubic_1 : decode cX9_layCubic 1 = .ok (.aload_n 0, 1) := by decide +kernel
theorem dX9_layCubic_2 : decode cX9_layCubic 2 = .ok (.getfield 13, 3) := by decide +kernel
theorem dX9_layCubic_5 : decode cX9_layCubic 5 = .ok (.bipush 6, 2) := by decide +kernel
theorem dX9_layCubic_7 : decode cX9_layCubic 7 = .ok (.invokevirtual 88, 3) := by decide +kernel
theorem dX9_layCubic_10 : decode cX9_layCubic 10 = .ok (.aload_n 0, 1) := by decide +kernel
theorem dX9_layCubic_11 : decode cX9_layCubic 11 = .ok (.getfield 17, 3) := by decide +kernel
theorem dX9_layCubic_14 : decode cX9_layCubic 14 = .ok (.iconst 0, 1) := by decide +kernel
theorem dX9_layCubic_15 : decode cX9_layCubic 15 = .ok (.aload_n 0, 1) := by decide +kernel
theorem dX9_layCubic_16 : decode cX9_layCubic 16 = .ok (.aload_n 0, 1) := by decide +kernel
theorem dX9_layCubic_17 : decode cX9_layCubic 17 = .ok (.aload_n 0, 1) := by decide +kernel
theorem dX9_layCubic_18 : decode cX9_layCubic 18 = .ok (.getfield 13, 3) := by decide +kernel
theorem dX9_layCubic_21 : decode cX9_layCubic 21 = .ok (.bipush 6, 2) := by decide +kernel
theorem dX9_layCubic_23 : decode cX9_layCubic 23 = .ok (.invokevirtual 92, 3) := by decide +kernel
theorem dX9_layCubic_26 : decode cX9_layCubic 26 = .ok (.iconst 3, 1) := by decide +kernel
theorem dX9_layCubic_27 : decode cX9_layCubic 27 = .ok (.aload_n 0, 1) := by decide +kernel
theorem dX9_layCubic_28 : decode cX9_layCubic 28 = .ok (.getfield 7, 3) := by decide +kernel
theorem dX9_layCubic_31 : decode cX9_layCubic 31 = .ok (.irem, 1) := by decide +kernel
theorem dX9_layCubic_32 : decode cX9_layCubic 32 = .ok (.invokevirtual 78, 3) := by decide +kernel
theorem dX9_layCubic_35 : decode cX9_layCubic 35 = .ok (.iastore, 1) := by decide +kernel
theorem dX9_layCubic_36 : decode cX9_layCubic 36 = .ok (.aload_n 0, 1) := by decide +kernel
theorem dX9_layCubic_37 : decode cX9_layCubic 37 = .ok (.getfield 17, 3) := by decide +kernel
theorem dX9_layCubic_40 : decode cX9_layCubic 40 = .ok (.iconst 1, 1) := by decide +kernel
theorem dX9_layCubic_41 : decode cX9_layCubic 41 = .ok (.aload_n 0, 1) := by decide +kernel
theorem dX9_layCubic_42 : decode cX9_layCubic 42 = .ok (.aload_n 0, 1) := by decide +kernel
theorem dX9_layCubic_43 : decode cX9_layCubic 43 = .ok (.getfield 13, 3) := by decide +kernel
theorem dX9_layCubic_46 : decode cX9_layCubic 46 = .ok (.iconst 0, 1) := by decide +kernel
theorem dX9_layCubic_47 : decode cX9_layCubic 47 = .ok (.invokevirtual 92, 3) := by decide +kernel
theorem dX9_layCubic_50 : decode cX9_layCubic 50 = .ok (.iastore, 1) := by decide +kernel
theorem dX9_layCubic_51 : decode cX9_layCubic 51 = .ok (.aload_n 0, 1) := by decide +kernel
theorem dX9_layCubic_52 : decode cX9_layCubic 52 = .ok (.aload_n 0, 1) := by decide +kernel
theorem dX9_layCubic_53 : decode cX9_layCubic 53 = .ok (.getfield 13, 3) := by decide +kernel
theorem dX9_layCubic_56 : decode cX9_layCubic 56 = .ok (.iconst 0, 1) := by decide +kernel
theorem dX9_layCubic_57 : decode cX9_layCubic 57 = .ok (.invokevirtual 88, 3) := by decide +kernel
theorem dX9_layCubic_60 : decode cX9_layCubic 60 = .ok (.aload_n 0, 1) := by decide +kernel
theorem dX9_layCubic_61 : decode cX9_layCubic 61 = .ok (.getfield 17, 3) := by decide +kernel
theorem dX9_layCubic_64 : decode cX9_layCubic 64 = .ok (.iconst 2, 1) := by decide +kernel
theorem dX9_layCubic_65 : decode cX9_layCubic 65 = .ok (.aload_n 0, 1) := by decide +kernel
theorem dX9_layCubic_66 : decode cX9_layCubic 66 = .ok (.aload_n 0, 1) := by decide +kernel
theorem dX9_layCubic_67 : decode cX9_layCubic 67 = .ok (.getfield 13, 3) := by decide +kernel
theorem dX9_layCubic_70 : decode cX9_layCubic 70 = .ok (.bipush 6, 2) := by decide +kernel
theorem dX9_layCubic_72 : decode cX9_layCubic 72 = .ok (.invokevirtual 92, 3) := by decide +kernel
theorem dX9_layCubic_75 : decode cX9_layCubic 75 = .ok (.iastore, 1) := by decide +kernel
theorem dX9_layCubic_76 : decode cX9_layCubic 76 = .ok (.aload_n 0, 1) := by decide +kernel
theorem dX9_layCubic_77 : decode cX9_layCubic 77 = .ok (.getfield 17, 3) := by decide +kernel
theorem dX9_layCubic_80 : decode cX9_layCubic 80 = .ok (.iconst 3, 1) := by decide +kernel
theorem dX9_layCubic_81 : decode cX9_layCubic 81 = .ok (.aload_n 0, 1) := by decide +kernel
theorem dX9_layCubic_82 : decode cX9_layCubic 82 = .ok (.aload_n 0, 1) := by decide +kernel
theorem dX9_layCubic_83 : decode cX9_layCubic 83 = .ok (.aload_n 0, 1) := by decide +kernel
theorem dX9_layCubic_84 : decode cX9_layCubic 84 = .ok (.getfield 13, 3) := by decide +kernel
theorem dX9_layCubic_87 : decode cX9_layCubic 87 = .ok (.iconst 0, 1) := by decide +kernel
theorem dX9_layCubic_88 : decode cX9_layCubic 88 = .ok (.invokevirtual 92, 3) := by decide +kernel
theorem dX9_layCubic_91 : decode cX9_layCubic 91 = .ok (.iconst 3, 1) := by decide +kernel
theorem dX9_layCubic_92 : decode cX9_layCubic 92 = .ok (.aload_n 0, 1) := by decide +kernel
theorem dX9_layCubic_93 : decode cX9_layCubic 93 = .ok (.getfield 7, 3) := by decide +kernel
theorem dX9_layCubic_96 : decode cX9_layCubic 96 = .ok (.irem, 1) := by decide +kernel
theorem dX9_layCubic_97 : decode cX9_layCubic 97 = .ok (.invokevirtual 78, 3) := by decide +kernel
theorem dX9_layCubic_100 : decode cX9_layCubic 100 = .ok (.iastore, 1) := by decide +kernel
theorem dX9_layCubic_101 : decode cX9_layCubic 101 = .ok (.return_, 1) := by decide +kernel
set_option maxRecDepth 20000 in
theorem ggX9_discriminant_X9_of : GoodIn wsX9_discriminant wsX9_of := goodIn_r _ [7, 2, 8, 9, 10, 11, 12, 13, 14, 15, 16, 17, 18, 19, 20, 21, 22, 23, 24, 25, 26, 27, 28, 29, 30, 31, 32, 33] (by decide +kernel) (by decide +kernel)
set_option maxRecDepth 20000 in
theorem gX9_discriminant_X9_of : GoodIn wsX9_discriminant (wsV RX9 85 RX9 yX9_of wsX9_of) := goodIn_app (goodIn_of _ (by decide +kernel)) ggX9_discriminant_X9_of
theorem dX9_discriminant_0 : decode cX9_discriminant 0 = .ok (.aload_n 0, 1) := by decide +kernel
theorem dX9_discriminant_1 : decode cX9_discriminant 1 = .ok (.aload_n 0, 1) := by decide +kernel
theorem dX9_discriminant_2 : decode cX9_discriminant 2 = .ok (.getfield 17, 3) := by decide +kernel
theorem dX9_discriminant_5 : decode cX9_discriminant 5 = .ok (.iconst 1, 1) := by decide +kernel
theorem dX9_discriminant_6 : decode cX9_discriminant 6 = .ok (.iaload, 1) := by decide +kernel
theorem dX9_discriminant_7 : decode cX9_discriminant 7 = .ok (.aload_n 0, 1) := by decide +kernel
theorem dX9_discriminant_8 : decode cX9_discriminant 8 = .ok (.getfield 17, 3) := by decide +kernel
theorem dX9_discriminant_11 : decode cX9_discriminant 11 = .ok (.iconst 1, 1) := by decide +kernel
theorem dX9_discriminant_12 : decode cX9_discriminant 12 = .ok (.iaload, 1) := by decide +kernel
theorem dX9_discriminant_13 : decode cX9_discriminant 13 = .ok (.imul, 1) := by decide +kernel
theorem dX9_discriminant_14 : decode cX9_discriminant 14 = .ok (.aload_n 0, 1) := by decide +kernel
theorem dX9_discriminant_15 : decode cX9_discriminant 15 = .ok (.getfield 7, 3) := by decide +kernel
theorem dX9_discriminant_18 : decode cX9_discriminant 18 = .ok (.irem, 1) := by decide +kernel
theorem dX9_discriminant_19 : decode cX9_discriminant 19 = .ok (.aload_n 0, 1) := by decide +kernel
theorem dX9_discriminant_20 : decode cX9_discriminant 20 = .ok (.getfield 17, 3) := by decide +kernel
theorem dX9_discriminant_23 : decode cX9_discriminant 23 = .ok (.iconst 2, 1) := by decide +kernel
theorem dX9_discriminant_24 : decode cX9_discriminant 24 = .ok (.iaload, 1) := by decide +kernel
theorem dX9_discriminant_25 : decode cX9_discriminant 25 = .ok (.aload_n 0, 1) := by decide +kernel
theorem dX9_discriminant_26 : decode cX9_discriminant 26 = .ok (.getfield 17, 3) := by decide +kernel
theorem dX9_discriminant_29 : decode cX9_discriminant 29 = .ok (.iconst 2, 1) := by decide +kernel
theorem dX9_discriminant_30 : decode cX9_discriminant 30 = .ok (.iaload, 1) := by decide +kernel
theorem dX9_discriminant_31 : decode cX9_discriminant 31 = .ok (.imul, 1) := by decide +kernel
theorem dX9_discriminant_32 : decode cX9_discriminant 32 = .ok (.aload_n 0, 1) := by decide +kernel
theorem dX9_discriminant_33 : decode cX9_discriminant 33 = .ok (.getfield 7, 3) := by decide +kernel
theorem dX9_discriminant_36 : decode cX9_discriminant 36 = .ok (.irem, 1) := by decide +kernel
theorem dX9_discriminant_37 : decode cX9_discriminant 37 = .ok (.imul, 1) := by decide +kernel
theorem dX9_discriminant_38 : decode cX9_discriminant 38 = .ok (.invokevirtual 85, 3) := by decide +kernel
theorem dX9_discriminant_41 : decode cX9_discriminant 41 = .ok (.istore_n 1, 1) := by decide +kernel
theorem dX9_discriminant_42 : decode cX9_discriminant 42 = .ok (.aload_n 0, 1) := by decide +kernel
theorem dX9_discriminant_43 : decode cX9_discriminant 43 = .ok (.iconst 4, 1) := by decide +kernel
theorem dX9_discriminant_44 : decode cX9_discriminant 44 = .ok (.aload_n 0, 1) := by decide +kernel
theorem dX9_discriminant_45 : decode cX9_discriminant 45 = .ok (.getfield 17, 3) := by decide +kernel
theorem dX9_discriminant_48 : decode cX9_discriminant 48 = .ok (.iconst 0, 1) := by decide +kernel
theorem dX9_discriminant_49 : decode cX9_discriminant 49 = .ok (.iaload, 1) := by decide +kernel
theorem dX9_discriminant_50 : decode cX9_discriminant 50 = .ok (.imul, 1) := by decide +kernel
theorem dX9_discriminant_51 : decode cX9_discriminant 51 = .ok (.aload_n 0, 1) := by decide +kernel
theorem dX9_discriminant_52 : decode cX9_discriminant 52 = .ok (.getfield 17, 3) := by decide +kernel
theorem dX9_discriminant_55 : decode cX9_discriminant 55 = .ok (.iconst 2, 1) := by decide +kernel
theorem dX9_discriminant_56 : decode cX9_discriminant 56 = .ok (.iaload, 1) := by decide +kernel
theorem dX9_discriminant_57 : decode cX9_discriminant 57 = .ok (.imul, 1) := by decide +kernel
theorem dX9_discriminant_58 : decode cX9_discriminant 58 = .ok (.aload_n 0, 1) := by decide +kernel
theorem dX9_discriminant_59 : decode cX9_discriminant 59 = .ok (.getfield 7, 3) := by decide +kernel
theorem dX9_discriminant_62 : decode cX9_discriminant 62 = .ok (.irem, 1) := by decide +kernel
theorem dX9_discriminant_63 : decode cX9_discriminant 63 = .ok (.aload_n 0, 1) := by decide +kernel
theorem dX9_discriminant_64 : decode cX9_discriminant 64 = .ok (.getfield 17, 3) := by decide +kernel
theorem dX9_discriminant_67 : decode cX9_discriminant 67 = .ok (.iconst 2, 1) := by decide +kernel
theorem dX9_discriminant_68 : decode cX9_discriminant 68 = .ok (.iaload, 1) := by decide +kernel
theorem dX9_discriminant_69 : decode cX9_discriminant 69 = .ok (.aload_n 0, 1) := by decide +kernel
theorem dX9_discriminant_70 : decode cX9_discriminant 70 = .ok (.getfield 17, 3) := by decide +kernel
theorem dX9_discriminant_73 : decode cX9_discriminant 73 = .ok (.iconst 2, 1) := by decide +kernel
theorem dX9_discriminant_74 : decode cX9_discriminant 74 = .ok (.iaload, 1) := by decide +kernel
theorem dX9_discriminant_75 : decode cX9_discriminant 75 = .ok (.imul, 1) := by decide +kernel
theorem dX9_discriminant_76 : decode cX9_discriminant 76 = .ok (.aload_n 0, 1) := by decide +kernel
theorem dX9_discriminant_77 : decode cX9_discriminant 77 = .ok (.getfield 7, 3) := by decide +kernel
theorem dX9_discriminant_80 : decode cX9_discriminant 80 = .ok (.irem, 1) := by decide +kernel
theorem dX9_discriminant_81 : decode cX9_discriminant 81 = .ok (.imul, 1) := by decide +kernel
theorem dX9_discriminant_82 : decode cX9_discriminant 82 = .ok (.invokevirtual 85, 3) := by decide +kernel
theorem dX9_discriminant_85 : decode cX9_discriminant 85 = .ok (.istore_n 2, 1) := by decide +kernel
theorem dX9_discriminant_86 : decode cX9_discriminant 86 = .ok (.aload_n 0, 1) := by decide +kernel
theorem dX9_discriminant_87 : decode cX9_discriminant 87 = .ok (.iconst 4, 1) := by decide +kernel
theorem dX9_discriminant_88 : decode cX9_discriminant 88 = .ok (.aload_n 0, 1) := by decide +kernel
theorem dX9_discriminant_89 : decode cX9_discriminant 89 = .ok (.getfield 17, 3) := by decide +kernel
theorem dX9_discriminant_92 : decode cX9_discriminant 92 = .ok (.iconst 1, 1) := by decide +kernel
theorem dX9_discriminant_93 : decode cX9_discriminant 93 = .ok (.iaload, 1) := by decide +kernel
theorem dX9_discriminant_94 : decode cX9_discriminant 94 = .ok (.imul, 1) := by decide +kernel
theorem dX9_discriminant_95 : decode cX9_discriminant 95 = .ok (.aload_n 0, 1) := by decide +kernel
theorem dX9_discriminant_96 : decode cX9_discriminant 96 = .ok (.getfield 17, 3) := by decide +kernel
theorem dX9_discriminant_99 : decode cX9_discriminant 99 = .ok (.iconst 1, 1) := by decide +kernel
theorem dX9_discriminant_100 : decode cX9_discriminant 100 = .ok (.iaload, 1) := by decide +kernel
theorem dX9_discriminant_101 : decode cX9_discriminant 101 = .ok (.imul, 1) := by decide +kernel
theorem dX9_discriminant_102 : decode cX9_discriminant 102 = .ok (.aload_n 0, 1) := by decide +kernel
theorem dX9_discriminant_103 : decode cX9_discriminant 103 = .ok (.getfield 7, 3) := by decide +kernel
theorem dX9_discriminant_106 : decode cX9_discriminant 106 = .ok (.irem, 1) := by decide +kernel
theorem dX9_discriminant_107 : decode cX9_discriminant 107 = .ok (.aload_n 0, 1) := by decide +kernel
theorem dX9_discriminant_108 : decode cX9_discriminant 108 = .ok (.getfield 17, 3) := by decide +kernel
theorem dX9_discriminant_111 : decode cX9_discriminant 111 = .ok (.iconst 1, 1) := by decide +kernel
theorem dX9_discriminant_112 : decode cX9_discriminant 112 = .ok (.iaload, 1) := by decide +kernel
theorem dX9_discriminant_113 : decode cX9_discriminant 113 = .ok (.aload_n 0, 1) := by decide +kernel
theorem dX9_discriminant_114 : decode cX9_discriminant 114 = .ok (.getfield 17, 3) := by decide +kernel
theorem dX9_discriminant_117 : decode cX9_discriminant 117 = .ok (.iconst 3, 1) := by decide +kernel
theorem dX9_discriminant_118 : decode cX9_discriminant 118 = .ok (.iaload, 1) := by decide +kernel
theorem dX9_discriminant_119 : decode cX9_discriminant 119 = .ok (.imul, 1) := by decide +kernel
theorem dX9_discriminant_120 : decode cX9_discriminant 120 = .ok (.aload_n 0, 1) := by decide +kernel
theorem dX9_discriminant_121 : decode cX9_discriminant 121 = .ok (.getfield 7, 3) := by decide +kernel
theorem dX9_discriminant_124 : decode cX9_discriminant 124 = .ok (.irem, 1) := by decide +kernel
theorem dX9_discriminant_125 : decode cX9_discriminant 125 = .ok (.imul, 1) := by decide +kernel
theorem dX9_discriminant_126 : decode cX9_discriminant 126 = .ok (.invokevirtual 85, 3) := by decide +kernel
theorem dX9_discriminant_129 : decode cX9_discriminant 129 = .ok (.istore_n 3, 1) := by decide +kernel
theorem dX9_discriminant_130 : decode cX9_discriminant 130 = .ok (.aload_n 0, 1) := by decide +kernel
theorem dX9_discriminant_131 : decode cX9_discriminant 131 = .ok (.bipush 27, 2) := by decide +kernel
theorem dX9_discriminant_133 : decode cX9_discriminant 133 = .ok (.aload_n 0, 1) := by decide +kernel
theorem dX9_discriminant_134 : decode cX9_discriminant 134 = .ok (.getfield 17, 3) := by decide +kernel
theorem dX9_discriminant_137 : decode cX9_discriminant 137 = .ok (.iconst 0, 1) := by decide +kernel
theorem dX9_discriminant_138 : decode cX9_discriminant 138 = .ok (.iaload, 1) := by decide +kernel
theorem dX9_discriminant_139 : decode cX9_discriminant 139 = .ok (.imul, 1) := by decide +kernel
theorem dX9_discriminant_140 : decode cX9_discriminant 140 = .ok (.aload_n 0, 1) := by decide +kernel
theorem dX9_discriminant_141 : decode cX9_discriminant 141 = .ok (.getfield 17, 3) := by decide +kernel
theorem dX9_discriminant_144 : decode cX9_discriminant 144 = .ok (.iconst 0, 1) := by decide +kernel
theorem dX9_discriminant_145 : decode cX9_discriminant 145 = .ok (.iaload, 1) := by decide +kernel
theorem dX9_discriminant_146 : decode cX9_discriminant 146 = .ok (.imul, 1) := by decide +kernel
theorem dX9_discriminant_147 : decode cX9_discriminant 147 = .ok (.aload_n 0, 1) := by decide +kernel
theorem dX9_discriminant_148 : decode cX9_discriminant 148 = .ok (.getfield 7, 3) := by decide +kernel
theorem dX9_discriminant_151 : decode cX9_discriminant 151 = .ok (.irem, 1) := by decide +kernel
theorem dX9_discriminant_152 : decode cX9_discriminant 152 = .ok (.aload_n 0, 1) := by decide +kernel
theorem dX9_discriminant_153 : decode cX9_discriminant 153 = .ok (.getfield 17, 3) := by decide +kernel
theorem dX9_discriminant_156 : decode cX9_discriminant 156 = .ok (.iconst 3, 1) := by decide +kernel
theorem dX9_discriminant_157 : decode cX9_discriminant 157 = .ok (.iaload, 1) := by decide +kernel
theorem dX9_discriminant_158 : decode cX9_discriminant 158 = .ok (.aload_n 0, 1) := by decide +kernel
theorem dX9_discriminant_159 : decode cX9_discriminant 159 = .ok (.getfield 17, 3) := by decide +kernel
theorem dX9_discriminant_162 : decode cX9_discriminant 162 = .ok (.iconst 3, 1) := by decide +kernel
theorem dX9_discriminant_163 : decode cX9_discriminant 163 = .ok (.iaload, 1) := by decide +kernel
theorem dX9_discriminant_164 : decode cX9_discriminant 164 = .ok (.imul, 1) := by decide +kernel
theorem dX9_discriminant_165 : decode cX9_discriminant 165 = .ok (.aload_n 0, 1) := by decide +kernel
theorem dX9_discriminant_166 : decode cX9_discriminant 166 = .ok (.getfield 7, 3) := by decide +kernel
theorem dX9_discriminant_169 : decode cX9_discriminant 169 = .ok (.irem, 1) := by decide +kernel
theorem dX9_discriminant_170 : decode cX9_discriminant 170 = .ok (.imul, 1) := by decide +kernel
theorem dX9_discriminant_171 : decode cX9_discriminant 171 = .ok (.invokevirtual 85, 3) := by decide +kernel
theorem dX9_discriminant_174 : decode cX9_discriminant 174 = .ok (.istore 4, 2) := by decide +kernel
theorem dX9_discriminant_176 : decode cX9_discriminant 176 = .ok (.aload_n 0, 1) := by decide +kernel
theorem dX9_discriminant_177 : decode cX9_discriminant 177 = .ok (.bipush 18, 2) := by decide +kernel
theorem dX9_discriminant_179 : decode cX9_discriminant 179 = .ok (.aload_n 0, 1) := by decide +kernel
theorem dX9_discriminant_180 : decode cX9_discriminant 180 = .ok (.getfield 17, 3) := by decide +kernel
theorem dX9_discriminant_183 : decode cX9_discriminant 183 = .ok (.iconst 0, 1) := by decide +kernel
theorem dX9_discriminant_184 : decode cX9_discriminant 184 = .ok (.iaload, 1) := by decide +kernel
theorem dX9_discriminant_185 : decode cX9_discriminant 185 = .ok (.imul, 1) := by decide +kernel
theorem dX9_discriminant_186 : decode cX9_discriminant 186 = .ok (.aload_n 0, 1) := by decide +kernel
theorem dX9_discriminant_187 : decode cX9_discriminant 187 = .ok (.getfield 17, 3) := by decide +kernel
theorem dX9_discriminant_190 : decode cX9_discriminant 190 = .ok (.iconst 1, 1) := by decide +kernel
theorem dX9_discriminant_191 : decode cX9_discriminant 191 = .ok (.iaload, 1) := by decide +kernel
theorem dX9_discriminant_192 : decode cX9_discriminant 192 = .ok (.imul, 1) := by decide +kernel
theorem dX9_discriminant_193 : decode cX9_discriminant 193 = .ok (.aload_n 0, 1) := by decide +kernel
theorem dX9_discriminant_194 : decode cX9_discriminant 194 = .ok (.getfield 7, 3) := by decide +kernel
theorem dX9_discriminant_197 : decode cX9_discriminant 197 = .ok (.irem, 1) := by decide +kernel
theorem dX9_discriminant_198 : decode cX9_discriminant 198 = .ok (.aload_n 0, 1) := by decide +kernel
theorem dX9_discriminant_199 : decode cX9_discriminant 199 = .ok (.getfield 17, 3) := by decide +kernel
theorem dX9_discriminant_202 : decode cX9_discriminant 202 = .ok (.iconst 2, 1) := by decide +kernel
theorem dX9_discriminant_203 : decode cX9_discriminant 203 = .ok (.iaload, 1) := by decide +kernel
theorem dX9_discriminant_204 : decode cX9_discriminant 204 = .ok (.aload_n 0, 1) := by decide +kernel
theorem dX9_discriminant_205 : decode cX9_discriminant 205 = .ok (.getfield 17, 3) := by decide +kernel
theorem dX9_discriminant_208 : decode cX9_discriminant 208 = .ok (.iconst 3, 1) := by decide +kernel
theorem dX9_discriminant_209 : decode cX9_discriminant 209 = .ok (.iaload, 1) := by decide +kernel
theorem dX9_discriminant_210 : decode cX9_discriminant 210 = .ok (.imul, 1) := by decide +kernel
theorem dX9_discriminant_211 : decode cX9_discriminant 211 = .ok (.aload_n 0, 1) := by decide +kernel
theorem dX9_discriminant_212 : decode cX9_discriminant 212 = .ok (.getfield 7, 3) := by decide +kernel
theorem dX9_discriminant_215 : decode cX9_discriminant 215 = .ok (.irem, 1) := by decide +kernel
theorem dX9_discriminant_216 : decode cX9_discriminant 216 = .ok (.imul, 1) := by decide +kernel
theorem dX9_discriminant_217 : decode cX9_discriminant 217 = .ok (.invokevirtual 85, 3) := by decide +kernel
theorem dX9_discriminant_220 : decode cX9_discriminant 220 = .ok (.istore 5, 2) := by decide +kernel
theorem dX9_discriminant_222 : decode cX9_discriminant 222 = .ok (.aload_n 0, 1) := by decide +kernel
theorem dX9_discriminant_223 : decode cX9_discriminant 223 = .ok (.iload_n 1, 1) := by decide +kernel
theorem dX9_discriminant_224 : decode cX9_discriminant 224 = .ok (.iload_n 2, 1) := by decide +kernel
theorem dX9_discriminant_225 : decode cX9_discriminant 225 = .ok (.isub, 1) := by decide +kernel
theorem dX9_discriminant_226 : decode cX9_discriminant 226 = .ok (.iload_n 3, 1) := by decide +kernel
theorem dX9_discriminant_227 : decode cX9_discriminant 227 = .ok (.isub, 1) := by decide +kernel
theorem dX9_discriminant_228 : decode cX9_discriminant 228 = .ok (.iload 4, 2) := by decide +kernel
theorem dX9_discriminant_230 : decode cX9_discriminant 230 = .ok (.isub, 1) := by decide +kernel
theorem dX9_discriminant_231 : decode cX9_discriminant 231 = .ok (.iload 5, 2) := by decide +kernel
theorem dX9_discriminant_233 : decode cX9_discriminant 233 = .ok (.iadd, 1) := by decide +kernel
theorem dX9_discriminant_234 : decode cX9_discriminant 234 = .ok (.invokevirtual 85, 3) := by decide +kernel
theorem dX9_discriminant_237 : decode cX9_discriminant 237 = .ok (.ireturn, 1) := by decide +kernel
set_option maxRecDepth 20000 in
theorem ggX9_cubic_X9_in : GoodIn wsX9_cubic wsX9_in := goodIn_r _ [5] (by decide +kernel) (by decide +kernel)
set_option maxRecDepth 20000 in
theorem gX9_cubic_X9_in : GoodIn wsX9_cubic (va_wsS RX9 62 yX9_in wsX9_in) := goodIn_app (goodIn_of _ (by decide +kernel)) ggX9_cubic_X9_in
set_option maxRecDepth 20000 in
theorem ggX9_cubic_X9_layCubic : GoodIn wsX9_cubic wsX9_layCubic := goodIn_r _ [9, 10, 1, 11, 12, 13, 14, 4, 15, 16, 17, 18, 19, 20, 21, 22, 23, 24, 25, 26, 27, 28, 29, 30, 31, 32, 37, 38, 39, 40, 41, 42, 43, 44, 45, 46, 47, 48, 49, 50, 51, 52, 53, 54, 55, 56, 57, 58, 59, 60, 61, 62] (by decide +kernel) (by decide +kernel)
set_option maxRecDepth 20000 in
theorem gX9_cubic_X9_layCubic : GoodIn wsX9_cubic (wsV RX9 96 RX9 yX9_layCubic wsX9_layCubic) := goodIn_app (goodIn_of _ (by decide +kernel)) ggX9_cubic_X9_layCubic
set_option maxRecDepth 20000 in
theorem ggX9_cubic_X9_discriminant : GoodIn wsX9_cubic wsX9_discriminant := goodIn_r _ [36, 1, 11, 17, 18, 19, 4, 20, 37, 38, 39, 40, 41, 42, 43, 44, 45, 46, 47, 48, 49, 50, 51, 52, 53, 54, 55, 56, 57, 58, 59, 60, 61, 62] (by decide +kernel) (by decide +kernel)
set_option maxRecDepth 20000 in
theorem gX9_cubic_X9_discriminant : GoodIn wsX9_cubic (wsV RX9 99 RX9 yX9_discriminant wsX9_discriminant) := goodIn_app (goodIn_of _ (by decide +kernel)) ggX9_cubic_X9_discriminant
theorem dX9_cubic_0 : decode cX9_cubic 0 = .ok (.iload_n 1, 1) := by decide +kernel
theorem dX9_cubic_1 : decode cX9_cubic 1 = .ok (.iconst 0, 1) := by decide +kernel
theorem dX9_cubic_2 : decode cX9_cubic 2 = .ok (.iconst 4, 1) := by decide +kernel
theorem dX9_cubic_3 : decode cX9_cubic 3 = .ok (.invokestatic 62, 3) := by decide +kernel
theorem dX9_cubic_6 : decode cX9_cubic 6 = .ok (.ifCond .ne 6, 3) := by decide +kernel
theorem dX9_cubic_9 : decode cX9_cubic 9 = .ok (.bipush (-2), 2) := by decide +kernel
theorem dX9_cubic_11 : decode cX9_cubic 11 = .ok (.ireturn, 1) := by decide +kernel
theorem dX9_cubic_12 : decode cX9_cubic 12 = .ok (.aload_n 0, 1) := by decide +kernel
theorem dX9_cubic_13 : decode cX9_cubic 13 = .ok (.invokevirtual 96, 3) := by decide +kernel
theorem dX9_cubic_16 : decode cX9_cubic 16 = .ok (.iload_n 1, 1) := by decide +kernel
theorem dX9_cubic_17 : decode cX9_cubic 17 = .ok (.iconst 4, 1) := by decide +kernel
theorem dX9_cubic_18 : decode cX9_cubic 18 = .ok (.if_icmp .ne 10, 3) := by decide +kernel
theorem dX9_cubic_21 : decode cX9_cubic 21 = .ok (.aload_n 0, 1) := by decide +kernel
theorem dX9_cubic_22 : decode cX9_cubic 22 = .ok (.invokevirtual 99, 3) := by decide +kernel
theorem dX9_cubic_25 : decode cX9_cubic 25 = .ok (.goto 9, 3) := by decide +kernel
theorem dX9_cubic_28 : decode cX9_cubic 28 = .ok (.aload_n 0, 1) := by decide +kernel
theorem dX9_cubic_29 : decode cX9_cubic 29 = .ok (.getfield 17, 3) := by decide +kernel
theorem dX9_cubic_32 : decode cX9_cubic 32 = .ok (.iload_n 1, 1) := by decide +kernel
theorem dX9_cubic_33 : decode cX9_cubic 33 = .ok (.iaload, 1) := by decide +kernel
theorem dX9_cubic_34 : decode cX9_cubic 34 = .ok (.ireturn, 1) := by decide +kernel
set_option maxRecDepth 20000 in
theorem ggX9_isGood_X9_lay : GoodIn wsX9_isGood wsX9_lay := goodIn_r _ [6, 7, 8, 1, 9, 10, 11, 12, 13, 5, 14, 15, 16, 17, 18, 19, 20, 21, 22, 23, 24, 25, 26, 27, 28, 29, 30, 31, 32, 33, 34, 35, 36, 37, 38, 39, 40, 41, 42, 43, 44, 45, 46, 47, 48, 49, 50, 51, 52, 53, 54, 55, 56, 57, 58, 59, 60, 61, 62, 63, 64, 65, 66, 67, 68, 69, 70, 71, 72, 73, 74, 75, 76, 77, 78, 79, 80, 81, 82, 83, 84, 85, 86, 87, 88, 89, 90, 91, 92, 93, 94, 95, 96, 97, 98, 99, 100, 101, 102, 103, 104, 105, 106, 107, 108, 109, 110, 111, 112, 113, 114, 115, 116] (by decide +kernel) (by decide +kernel)
set_option maxRecDepth 20000 in
theorem gX9_isGood_X9_lay : GoodIn wsX9_isGood (wsV RX9 103 RX9 yX9_lay wsX9_lay) := goodIn_app (goodIn_of _ (by decide +kernel)) ggX9_isGood_X9_lay
theorem dX9_isGood_0 : decode cX9_isGood 0 = .ok (.aload_n 0, 1) := by decide +kernel
theorem dX9_isGood_1 : decode cX9_isGood 1 = .ok (.invokevirtual 103, 3) := by decide +kernel
theorem dX9_isGood_4 : decode cX9_isGood 4 = .ok (.aload_n 0, 1) := by decide +kernel
theorem dX9_isGood_5 : decode cX9_isGood 5 = .ok (.getfield 106, 3) := by decide +kernel
theorem dX9_isGood_8 : decode cX9_isGood 8 = .ok (.ireturn, 1) := by decide +kernel
set_option maxRecDepth 20000 in
theorem ggX9_good_X9_isGood : GoodIn wsX9_good wsX9_isGood := goodIn_r _ [5, 6, 7, 8, 9, 4, 10, 11, 12, 13, 14, 15, 16, 17, 18, 19, 20, 21, 22, 23, 24, 25, 26, 27, 28, 29, 30, 31, 32, 33, 34, 35, 36, 37, 38, 39, 40, 41, 42, 43, 44, 45, 46, 47, 48, 49, 50, 51, 52, 53, 54, 55, 56, 57, 58, 59, 60, 61, 62, 63, 64, 65, 66, 67, 68, 69, 70, 71, 72, 73, 74, 75, 76, 77, 78, 79, 80, 81, 82, 83, 84, 85, 86, 87, 88, 89, 90, 91, 92, 93, 94, 95, 96, 97, 98, 99, 100, 101, 102, 103, 104, 105, 106, 107, 108, 109, 110, 111, 112, 113, 114, 115, 116, 117, 118, 119, 120] (by decide +kernel) (by decide +kernel)
set_option maxRecDepth 20000 in
theorem gX9_good_X9_isGood : GoodIn wsX9_good (wsV RX9 109 RX9 yX9_isGood wsX9_isGood) := goodIn_app (goodIn_of _ (by decide +kernel)) ggX9_good_X9_isGood
theorem dX9_good_0 : decode cX9_good 0 = .ok (.aload_n 0, 1) := by decide +kernel
theorem dX9_good_1 : decode cX9_good 1 = .ok (.invokevirtual 109, 3) := by decide +kernel
theorem dX9_good_4 : decode cX9_good 4 = .ok (.ifCond .eq 7, 3) := by decide +kernel
theorem dX9_good_7 : decode cX9_good 7 = .ok (.iconst 1, 1) := by decide +kernel
theorem dX9_good_8 : decode cX9_good 8 = .ok (.goto 4, 3) := by decide +kernel
theorem dX9_good_11 : decode cX9_good 11 = .ok (.iconst 0, 1) := by decide +kernel
theorem dX9_good_12 : decode cX9_good 12 = .ok (.ireturn, 1) := by decide +kernel
set_option maxRecDepth 20000 in
theorem ggX9_on_X9_isNumber : GoodIn wsX9_on wsX9_isNumber := goodIn_r _ [6, 7, 8, 9, 5, 10, 24, 25, 26, 27, 28, 29, 30, 31, 32, 33, 34, 35, 36, 37, 38, 39, 40, 41, 42, 43, 44, 45, 46, 47, 48, 49] (by decide +kernel) (by decide +kernel)
set_option maxRecDepth 20000 in
theorem gX9_on_X9_isNumber : GoodIn wsX9_on (wsV RX9 70 RX9 yX9_isNumber wsX9_isNumber) := goodIn_app (goodIn_of _ (by decide +kernel)) ggX9_on_X9_isNumber
set_option maxRecDepth 20000 in
theorem ggX9_on_X9_mixOf : GoodIn wsX9_on wsX9_mixOf := goodIn_r _ [14, 1, 15, 16, 17, 18, 5, 19, 7, 24, 25, 26, 27, 28, 29, 30, 31, 32, 33, 34, 35, 36, 37, 38, 39, 40, 41, 42, 43, 44, 45, 46, 47, 48, 49] (by decide +kernel) (by decide +kernel)
set_option maxRecDepth 20000 in
theorem gX9_on_X9_mixOf : GoodIn wsX9_on (wsV RX9 112 RX9 yX9_mixOf wsX9_mixOf) := goodIn_app (goodIn_of _ (by decide +kernel)) ggX9_on_X9_mixOf
set_option maxRecDepth 20000 in
theorem ggX9_on_X9_both : GoodIn wsX9_on wsX9_both := goodIn_r _ [23, 16, 17, 18, 5, 19, 7, 24, 25, 26, 27, 28, 29, 30, 31, 32, 33, 34, 35, 36, 37, 38, 39, 40, 41, 42, 43, 44, 45, 46, 47, 48, 49] (by decide +kernel) (by decide +kernel)
set_option maxRecDepth 20000 in
theorem gX9_on_X9_both : GoodIn wsX9_on (wsV RX9 116 RX9 yX9_both wsX9_both) := goodIn_app (goodIn_of _ (by decide +kernel)) ggX9_on_X9_both
theorem dX9_on_0 : decode cX9_on 0 = .ok (.aload_n 0, 1) := by decide +kernel
theorem dX9_on_1 : decode cX9_on 1 = .ok (.iload_n 1, 1) := by decide +kernel
theorem dX9_on_2 : decode cX9_on 2 = .ok (.invokevirtual 70, 3) := by decide +kernel
theorem dX9_on_5 : decode cX9_on 5 = .ok (.ifCond .eq 37, 3) := by decide +kernel
theorem dX9_on_8 : decode cX9_on 8 = .ok (.aload_n 0, 1) := by decide +kernel
theorem dX9_on_9 : decode cX9_on 9 = .ok (.iload_n 2, 1) := by decide +kernel
theorem dX9_on_10 : decode cX9_on 10 = .ok (.invokevirtual 70, 3) := by decide +kernel
theorem dX9_on_13 : decode cX9_on 13 = .ok (.ifCond .eq 29, 3) := by decide +kernel
theorem dX9_on_16 : decode cX9_on 16 = .ok (.aload_n 0, 1) := by decide +kernel
theorem dX9_on_17 : decode cX9_on 17 = .ok (.iload_n 3, 1) := by decide +kernel
theorem dX9_on_18 : decode cX9_on 18 = .ok (.invokevirtual 70, 3) := by decide +kernel
theorem dX9_on_21 : decode cX9_on 21 = .ok (.ifCond .eq 21, 3) := by decide +kernel
theorem dX9_on_24 : decode cX9_on 24 = .ok (.aload_n 0, 1) := by decide +kernel
theorem dX9_on_25 : decode cX9_on 25 = .ok (.iload 4, 2) := by decide +kernel
theorem dX9_on_27 : decode cX9_on 27 = .ok (.invokevirtual 70, 3) := by decide +kernel
theorem dX9_on_30 : decode cX9_on 30 = .ok (.ifCond .eq 12, 3) := by decide +kernel
theorem dX9_on_33 : decode cX9_on 33 = .ok (.aload_n 0, 1) := by decide +kernel
theorem dX9_on_34 : decode cX9_on 34 = .ok (.iload 5, 2) := by decide +kernel
theorem dX9_on_36 : decode cX9_on 36 = .ok (.invokevirtual 70, 3) := by decide +kernel
theorem dX9_on_39 : decode cX9_on 39 = .ok (.ifCond .ne 6, 3) := by decide +kernel
theorem dX9_on_42 : decode cX9_on 42 = .ok (.bipush (-2), 2) := by decide +kernel
theorem dX9_on_44 : decode cX9_on 44 = .ok (.ireturn, 1) := by decide +kernel
theorem dX9_on_45 : decode cX9_on 45 = .ok (.aload_n 0, 1) := by decide +kernel
theorem dX9_on_46 : decode cX9_on 46 = .ok (.iload_n 1, 1) := by decide +kernel
theorem dX9_on_47 : decode cX9_on 47 = .ok (.iload_n 2, 1) := by decide +kernel
theorem dX9_on_48 : decode cX9_on 48 = .ok (.invokevirtual 112, 3) := by decide +kernel
theorem dX9_on_51 : decode cX9_on 51 = .ok (.aload_n 0, 1) := by decide +kernel
theorem dX9_on_52 : decode cX9_on 52 = .ok (.aload_n 0, 1) := by decide +kernel
theorem dX9_on_53 : decode cX9_on 53 = .ok (.getfield 50, 3) := by decide +kernel
theorem dX9_on_56 : decode cX9_on 56 = .ok (.iconst 0, 1) := by decide +kernel
theorem dX9_on_57 : decode cX9_on 57 = .ok (.iload_n 3, 1) := by decide +kernel
theorem dX9_on_58 : decode cX9_on 58 = .ok (.iload 4, 2) := by decide +kernel
theorem dX9_on_60 : decode cX9_on 60 = .ok (.iload 5, 2) := by decide +kernel
theorem dX9_on_62 : decode cX9_on 62 = .ok (.invokevirtual 116, 3) := by decide +kernel
theorem dX9_on_65 : decode cX9_on 65 = .ok (.ireturn, 1) := by decide +kernel
set_option maxRecDepth 20000 in
theorem ggX9_touching_X9_mixOf : GoodIn wsX9_touching wsX9_mixOf := goodIn_r _ [7, 1, 8, 9, 10, 11, 6, 12, 13, 22, 23, 24, 25, 26, 27, 28, 29, 30, 31, 32, 33, 34, 35, 36, 37, 38, 39, 40, 41, 42, 43, 44, 45, 46, 47] (by decide +kernel) (by decide +kernel)
set_option maxRecDepth 20000 in
theorem gX9_touching_X9_mixOf : GoodIn wsX9_touching (wsV RX9 112 RX9 yX9_mixOf wsX9_mixOf) := goodIn_app (goodIn_of _ (by decide +kernel)) ggX9_touching_X9_mixOf
set_option maxRecDepth 20000 in
theorem ggX9_touching_X9_cofactorOf : GoodIn wsX9_touching wsX9_cofactorOf := goodIn_r _ [17, 2, 9, 10, 11, 6, 12, 13, 22, 23, 24, 25, 26, 27, 28, 29, 30, 31, 32, 33, 34, 35, 36, 37, 38, 39, 40, 41, 42, 43, 44, 45, 46, 47] (by decide +kernel) (by decide +kernel)
set_option maxRecDepth 20000 in
theorem gX9_touching_X9_cofactorOf : GoodIn wsX9_touching (wsV RX9 88 RX9 yX9_cofactorOf wsX9_cofactorOf) := goodIn_app (goodIn_of _ (by decide +kernel)) ggX9_touching_X9_cofactorOf
set_option maxRecDepth 20000 in
theorem ggX9_touching_X9_both : GoodIn wsX9_touching wsX9_both := goodIn_r _ [21, 9, 10, 11, 6, 12, 13, 22, 23, 24, 25, 26, 27, 28, 29, 30, 31, 32, 33, 34, 35, 36, 37, 38, 39, 40, 41, 42, 43, 44, 45, 46, 47] (by decide +kernel) (by decide +kernel)
set_option maxRecDepth 20000 in
theorem gX9_touching_X9_both : GoodIn wsX9_touching (wsV RX9 116 RX9 yX9_both wsX9_both) := goodIn_app (goodIn_of _ (by decide +kernel)) ggX9_touching_X9_both
theorem dX9_touching_0 : decode cX9_touching 0 = .ok (.aload_n 0, 1) := by decide +kernel
theorem dX9_touching_1 : decode cX9_touching 1 = .ok (.iload_n 1, 1) := by decide +kernel
theorem dX9_touching_2 : decode cX9_touching 2 = .ok (.iload_n 2, 1) := by decide +kernel
theorem dX9_touching_3 : decode cX9_touching 3 = .ok (.invokevirtual 112, 3) := by decide +kernel
theorem dX9_touching_6 : decode cX9_touching 6 = .ok (.aload_n 0, 1) := by decide +kernel
theorem dX9_touching_7 : decode cX9_touching 7 = .ok (.aload_n 0, 1) := by decide +kernel
theorem dX9_touching_8 : decode cX9_touching 8 = .ok (.getfield 50, 3) := by decide +kernel
theorem dX9_touching_11 : decode cX9_touching 11 = .ok (.iconst 0, 1) := by decide +kernel
theorem dX9_touching_12 : decode cX9_touching 12 = .ok (.invokevirtual 88, 3) := by decide +kernel
theorem dX9_touching_15 : decode cX9_touching 15 = .ok (.aload_n 0, 1) := by decide +kernel
theorem dX9_touching_16 : decode cX9_touching 16 = .ok (.aload_n 0, 1) := by decide +kernel
theorem dX9_touching_17 : decode cX9_touching 17 = .ok (.getfield 53, 3) := by decide +kernel
theorem dX9_touching_20 : decode cX9_touching 20 = .ok (.iconst 0, 1) := by decide +kernel
theorem dX9_touching_21 : decode cX9_touching 21 = .ok (.iload_n 3, 1) := by decide +kernel
theorem dX9_touching_22 : decode cX9_touching 22 = .ok (.iload 4, 2) := by decide +kernel
theorem dX9_touching_24 : decode cX9_touching 24 = .ok (.iload 5, 2) := by decide +kernel
theorem dX9_touching_26 : decode cX9_touching 26 = .ok (.invokevirtual 116, 3) := by decide +kernel
theorem dX9_touching_29 : decode cX9_touching 29 = .ok (.ireturn, 1) := by decide +kernel
set_option maxRecDepth 20000 in
theorem ggX9_touches_X9_isNumber : GoodIn wsX9_touches wsX9_isNumber := goodIn_r _ [5, 6, 7, 8, 4, 9, 33, 34, 35, 36, 37, 38, 39, 40, 41, 42, 43, 44, 45, 46, 47, 48, 49, 50, 51, 52, 53, 54, 55, 56, 57, 58] (by decide +kernel) (by decide +kernel)
set_option maxRecDepth 20000 in
theorem gX9_touches_X9_isNumber : GoodIn wsX9_touches (wsV RX9 70 RX9 yX9_isNumber wsX9_isNumber) := goodIn_app (goodIn_of _ (by decide +kernel)) ggX9_touches_X9_isNumber
set_option maxRecDepth 20000 in
theorem ggX9_touches_X9_touching : GoodIn wsX9_touches wsX9_touching := goodIn_r _ [13, 14, 15, 16, 17, 18, 4, 19, 20, 21, 22, 23, 24, 6, 25, 26, 27, 28, 29, 30, 31, 32, 33, 34, 35, 36, 37, 38, 39, 40, 41, 42, 43, 44, 45, 46, 47, 48, 49, 50, 51, 52, 53, 54, 55, 56, 57, 58] (by decide +kernel) (by decide +kernel)
