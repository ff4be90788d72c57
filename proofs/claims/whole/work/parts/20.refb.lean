set_option maxRecDepth 20000 in
theorem gX9_touches_X9_touching : GoodIn wsX9_touches (wsV RX9 120 RX9 yX9_touching wsX9_touching) := goodIn_app (goodIn_of _ (by decide +kernel)) ggX9_touches_X9_touching
theorem dX9_touches_0 : decode cX9_touches 0 = .ok (.aload_n 0, 1) := by decide +kernel
theorem dX9_touches_1 : decode cX9_touches 1 = .ok (.iload_n 1, 1) := by decide +kernel
theorem dX9_touches_2 : decode cX9_touches 2 = .ok (.invokevirtual 70, 3) := by decide +kernel
theorem dX9_touches_5 : decode cX9_touches 5 = .ok (.ifCond .eq 37, 3) := by decide +kernel
theorem dX9_touches_8 : decode cX9_touches 8 = .ok (.aload_n 0, 1) := by decide +kernel
theorem dX9_touches_9 : decode cX9_touches 9 = .ok (.iload_n 2, 1) := by decide +kernel
theorem dX9_touches_10 : decode cX9_touches 10 = .ok (.invokevirtual 70, 3) := by decide +kernel
theorem dX9_touches_13 : decode cX9_touches 13 = .ok (.ifCond .eq 29, 3) := by decide +kernel
theorem dX9_touches_16 : decode cX9_touches 16 = .ok (.aload_n 0, 1) := by decide +kernel
theorem dX9_touches_17 : decode cX9_touches 17 = .ok (.iload_n 3, 1) := by decide +kernel
theorem dX9_touches_18 : decode cX9_touches 18 = .ok (.invokevirtual 70, 3) := by decide +kernel
theorem dX9_touches_21 : decode cX9_touches 21 = .ok (.ifCond .eq 21, 3) := by decide +kernel
theorem dX9_touches_24 : decode cX9_touches 24 = .ok (.aload_n 0, 1) := by decide +kernel
theorem dX9_touches_25 : decode cX9_touches 25 = .ok (.iload 4, 2) := by decide +kernel
theorem dX9_touches_27 : decode cX9_touches 27 = .ok (.invokevirtual 70, 3) := by decide +kernel
theorem dX9_touches_30 : decode cX9_touches 30 = .ok (.ifCond .eq 12, 3) := by decide +kernel
theorem dX9_touches_33 : decode cX9_touches 33 = .ok (.aload_n 0, 1) := by decide +kernel
theorem dX9_touches_34 : decode cX9_touches 34 = .ok (.iload 5, 2) := by decide +kernel
theorem dX9_touches_36 : decode cX9_touches 36 = .ok (.invokevirtual 70, 3) := by decide +kernel
theorem dX9_touches_39 : decode cX9_touches 39 = .ok (.ifCond .ne 6, 3) := by decide +kernel
theorem dX9_touches_42 : decode cX9_touches 42 = .ok (.bipush (-2), 2) := by decide +kernel
theorem dX9_touches_44 : decode cX9_touches 44 = .ok (.ireturn, 1) := by decide +kernel
theorem dX9_touches_45 : decode cX9_touches 45 = .ok (.aload_n 0, 1) := by decide +kernel
theorem dX9_touches_46 : decode cX9_touches 46 = .ok (.iload_n 1, 1) := by decide +kernel
theorem dX9_touches_47 : decode cX9_touches 47 = .ok (.iload_n 2, 1) := by decide +kernel
theorem dX9_touches_48 : decode cX9_touches 48 = .ok (.iload_n 3, 1) := by decide +kernel
theorem dX9_touches_49 : decode cX9_touches 49 = .ok (.iload 4, 2) := by decide +kernel
theorem dX9_touches_51 : decode cX9_touches 51 = .ok (.iload 5, 2) := by decide +kernel
theorem dX9_touches_53 : decode cX9_touches 53 = .ok (.invokevirtual 120, 3) := by decide +kernel
theorem dX9_touches_56 : decode cX9_touches 56 = .ok (.ireturn, 1) := by decide +kernel
set_option maxRecDepth 20000 in
theorem ggX9_form_X9_by : GoodIn wsX9_form wsX9_by := goodIn_r _ [8, 9, 10, 11, 12, 7, 13, 14, 15, 16, 17, 18, 19, 20, 21, 22, 23, 24, 25, 26, 27, 28, 29, 30, 31, 32, 33, 34, 35, 36, 37, 38, 39] (by decide +kernel) (by decide +kernel)
set_option maxRecDepth 20000 in
theorem gX9_form_X9_by : GoodIn wsX9_form (wsV RX9 78 RX9 yX9_by wsX9_by) := goodIn_app (goodIn_of _ (by decide +kernel)) ggX9_form_X9_by
theorem dX9_form_0 : decode cX9_form 0 = .ok (.iload_n 3, 1) := by decide +kernel
theorem dX9_form_1 : decode cX9_form 1 = .ok (.ifCond .eq 7, 3) := by decide +kernel
theorem dX9_form_4 : decode cX9_form 4 = .ok (.iload_n 3, 1) := by decide +kernel
theorem dX9_form_5 : decode cX9_form 5 = .ok (.goto 12, 3) := by decide +kernel
theorem dX9_form_8 : decode cX9_form 8 = .ok (.iload_n 2, 1) := by decide +kernel
theorem dX9_form_9 : decode cX9_form 9 = .ok (.ifCond .eq 7, 3) := by decide +kernel
theorem dX9_form_12 : decode cX9_form 12 = .ok (.iload_n 2, 1) := by decide +kernel
theorem dX9_form_13 : decode cX9_form 13 = .ok (.goto 4, 3) := by decide +kernel
theorem dX9_form_16 : decode cX9_form 16 = .ok (.iload_n 1, 1) := by decide +kernel
theorem dX9_form_17 : decode cX9_form 17 = .ok (.istore 4, 2) := by decide +kernel
theorem dX9_form_19 : decode cX9_form 19 = .ok (.aload_n 0, 1) := by decide +kernel
theorem dX9_form_20 : decode cX9_form 20 = .ok (.aload_n 0, 1) := by decide +kernel
theorem dX9_form_21 : decode cX9_form 21 = .ok (.iload_n 1, 1) := by decide +kernel
theorem dX9_form_22 : decode cX9_form 22 = .ok (.iload 4, 2) := by decide +kernel
theorem dX9_form_24 : decode cX9_form 24 = .ok (.invokevirtual 78, 3) := by decide +kernel
theorem dX9_form_27 : decode cX9_form 27 = .ok (.putfield 124, 3) := by decide +kernel
theorem dX9_form_30 : decode cX9_form 30 = .ok (.aload_n 0, 1) := by decide +kernel
theorem dX9_form_31 : decode cX9_form 31 = .ok (.aload_n 0, 1) := by decide +kernel
theorem dX9_form_32 : decode cX9_form 32 = .ok (.iload_n 2, 1) := by decide +kernel
theorem dX9_form_33 : decode cX9_form 33 = .ok (.iload 4, 2) := by decide +kernel
theorem dX9_form_35 : decode cX9_form 35 = .ok (.invokevirtual 78, 3) := by decide +kernel
theorem dX9_form_38 : decode cX9_form 38 = .ok (.putfield 127, 3) := by decide +kernel
theorem dX9_form_41 : decode cX9_form 41 = .ok (.aload_n 0, 1) := by decide +kernel
theorem dX9_form_42 : decode cX9_form 42 = .ok (.aload_n 0, 1) := by decide +kernel
theorem dX9_form_43 : decode cX9_form 43 = .ok (.iload_n 3, 1) := by decide +kernel
theorem dX9_form_44 : decode cX9_form 44 = .ok (.iload 4, 2) := by decide +kernel
theorem dX9_form_46 : decode cX9_form 46 = .ok (.invokevirtual 78, 3) := by decide +kernel
theorem dX9_form_49 : decode cX9_form 49 = .ok (.putfield 130, 3) := by decide +kernel
theorem dX9_form_52 : decode cX9_form 52 = .ok (.return_, 1) := by decide +kernel
theorem dX9_rank_0 : decode cX9_rank 0 = .ok (.iload_n 3, 1) := by decide +kernel
theorem dX9_rank_1 : decode cX9_rank 1 = .ok (.iconst 1, 1) := by decide +kernel
theorem dX9_rank_2 : decode cX9_rank 2 = .ok (.if_icmp .ne 14, 3) := by decide +kernel
theorem dX9_rank_5 : decode cX9_rank 5 = .ok (.iload_n 2, 1) := by decide +kernel
theorem dX9_rank_6 : decode cX9_rank 6 = .ok (.aload_n 0, 1) := by decide +kernel
theorem dX9_rank_7 : decode cX9_rank 7 = .ok (.getfield 7, 3) := by decide +kernel
theorem dX9_rank_10 : decode cX9_rank 10 = .ok (.imul, 1) := by decide +kernel
theorem dX9_rank_11 : decode cX9_rank 11 = .ok (.iload_n 1, 1) := by decide +kernel
theorem dX9_rank_12 : decode cX9_rank 12 = .ok (.iadd, 1) := by decide +kernel
theorem dX9_rank_13 : decode cX9_rank 13 = .ok (.goto 36, 3) := by decide +kernel
theorem dX9_rank_16 : decode cX9_rank 16 = .ok (.iload_n 2, 1) := by decide +kernel
theorem dX9_rank_17 : decode cX9_rank 17 = .ok (.iconst 1, 1) := by decide +kernel
theorem dX9_rank_18 : decode cX9_rank 18 = .ok (.if_icmp .ne 17, 3) := by decide +kernel
theorem dX9_rank_21 : decode cX9_rank 21 = .ok (.aload_n 0, 1) := by decide +kernel
theorem dX9_rank_22 : decode cX9_rank 22 = .ok (.getfield 7, 3) := by decide +kernel
theorem dX9_rank_25 : decode cX9_rank 25 = .ok (.aload_n 0, 1) := by decide +kernel
theorem dX9_rank_26 : decode cX9_rank 26 = .ok (.getfield 7, 3) := by decide +kernel
theorem dX9_rank_29 : decode cX9_rank 29 = .ok (.imul, 1) := by decide +kernel
theorem dX9_rank_30 : decode cX9_rank 30 = .ok (.iload_n 1, 1) := by decide +kernel
theorem dX9_rank_31 : decode cX9_rank 31 = .ok (.iadd, 1) := by decide +kernel
theorem dX9_rank_32 : decode cX9_rank 32 = .ok (.goto 17, 3) := by decide +kernel
theorem dX9_rank_35 : decode cX9_rank 35 = .ok (.aload_n 0, 1) := by decide +kernel
theorem dX9_rank_36 : decode cX9_rank 36 = .ok (.getfield 7, 3) := by decide +kernel
theorem dX9_rank_39 : decode cX9_rank 39 = .ok (.aload_n 0, 1) := by decide +kernel
theorem dX9_rank_40 : decode cX9_rank 40 = .ok (.getfield 7, 3) := by decide +kernel
theorem dX9_rank_43 : decode cX9_rank 43 = .ok (.imul, 1) := by decide +kernel
theorem dX9_rank_44 : decode cX9_rank 44 = .ok (.aload_n 0, 1) := by decide +kernel
theorem dX9_rank_45 : decode cX9_rank 45 = .ok (.getfield 7, 3) := by decide +kernel
theorem dX9_rank_48 : decode cX9_rank 48 = .ok (.iadd, 1) := by decide +kernel
theorem dX9_rank_49 : decode cX9_rank 49 = .ok (.ireturn, 1) := by decide +kernel
set_option maxRecDepth 20000 in
theorem ggX9_cross_X9_of : GoodIn wsX9_cross wsX9_of := goodIn_r _ [5, 6, 22, 23, 24, 25, 26, 27, 28, 29, 30, 31, 32, 33, 34, 35, 36, 37, 38, 39, 40, 41, 42, 43, 44, 45, 46, 47] (by decide +kernel) (by decide +kernel)
set_option maxRecDepth 20000 in
theorem gX9_cross_X9_of : GoodIn wsX9_cross (wsV RX9 85 RX9 yX9_of wsX9_of) := goodIn_app (goodIn_of _ (by decide +kernel)) ggX9_cross_X9_of
set_option maxRecDepth 20000 in
theorem ggX9_cross_X9_form : GoodIn wsX9_cross wsX9_form := goodIn_r _ [10, 11, 12, 13, 14, 15, 16, 4, 17, 6, 18, 19, 20, 21, 22, 23, 24, 25, 26, 27, 28, 29, 30, 31, 32, 33, 34, 35, 36, 37, 38, 39, 40, 41, 42, 43, 44, 45, 46, 47] (by decide +kernel) (by decide +kernel)
set_option maxRecDepth 20000 in
theorem gX9_cross_X9_form : GoodIn wsX9_cross (wsV RX9 133 RX9 yX9_form wsX9_form) := goodIn_app (goodIn_of _ (by decide +kernel)) ggX9_cross_X9_form
theorem dX9_cross_0 : decode cX9_cross 0 = .ok (.aload_n 0, 1) := by decide +kernel
theorem dX9_cross_1 : decode cX9_cross 1 = .ok (.aload_n 0, 1) := by decide +kernel
theorem dX9_cross_2 : decode cX9_cross 2 = .ok (.iload_n 2, 1) := by decide +kernel
theorem dX9_cross_3 : decode cX9_cross 3 = .ok (.iload 6, 2) := by decide +kernel
theorem dX9_cross_5 : decode cX9_cross 5 = .ok (.imul, 1) := by decide +kernel
theorem dX9_cross_6 : decode cX9_cross 6 = .ok (.iload_n 3, 1) := by decide +kernel
theorem dX9_cross_7 : decode cX9_cross 7 = .ok (.iload 5, 2) := by decide +kernel
theorem dX9_cross_9 : decode cX9_cross 9 = .ok (.imul, 1) := by decide +kernel
theorem dX9_cross_10 : decode cX9_cross 10 = .ok (.isub, 1) := by decide +kernel
theorem dX9_cross_11 : decode cX9_cross 11 = .ok (.invokevirtual 85, 3) := by decide +kernel
theorem dX9_cross_14 : decode cX9_cross 14 = .ok (.aload_n 0, 1) := by decide +kernel
theorem dX9_cross_15 : decode cX9_cross 15 = .ok (.iload_n 3, 1) := by decide +kernel
theorem dX9_cross_16 : decode cX9_cross 16 = .ok (.iload 4, 2) := by decide +kernel
theorem dX9_cross_18 : decode cX9_cross 18 = .ok (.imul, 1) := by decide +kernel
theorem dX9_cross_19 : decode cX9_cross 19 = .ok (.iload_n 1, 1) := by decide +kernel
theorem dX9_cross_20 : decode cX9_cross 20 = .ok (.iload 6, 2) := by decide +kernel
theorem dX9_cross_22 : decode cX9_cross 22 = .ok (.imul, 1) := by decide +kernel
theorem dX9_cross_23 : decode cX9_cross 23 = .ok (.isub, 1) := by decide +kernel
theorem dX9_cross_24 : decode cX9_cross 24 = .ok (.invokevirtual 85, 3) := by decide +kernel
theorem dX9_cross_27 : decode cX9_cross 27 = .ok (.aload_n 0, 1) := by decide +kernel
theorem dX9_cross_28 : decode cX9_cross 28 = .ok (.iload_n 1, 1) := by decide +kernel
theorem dX9_cross_29 : decode cX9_cross 29 = .ok (.iload 5, 2) := by decide +kernel
theorem dX9_cross_31 : decode cX9_cross 31 = .ok (.imul, 1) := by decide +kernel
theorem dX9_cross_32 : decode cX9_cross 32 = .ok (.iload_n 2, 1) := by decide +kernel
theorem dX9_cross_33 : decode cX9_cross 33 = .ok (.iload 4, 2) := by decide +kernel
theorem dX9_cross_35 : decode cX9_cross 35 = .ok (.imul, 1) := by decide +kernel
theorem dX9_cross_36 : decode cX9_cross 36 = .ok (.isub, 1) := by decide +kernel
theorem dX9_cross_37 : decode cX9_cross 37 = .ok (.invokevirtual 85, 3) := by decide +kernel
theorem dX9_cross_40 : decode cX9_cross 40 = .ok (.invokevirtual 133, 3) := by decide +kernel
theorem dX9_cross_43 : decode cX9_cross 43 = .ok (.return_, 1) := by decide +kernel
set_option maxRecDepth 20000 in
theorem ggX9_layPoints_X9_both : GoodIn wsX9_layPoints wsX9_both := goodIn_r _ [11, 12, 13, 14, 10, 15, 2, 16, 17, 18, 19, 20, 21, 22, 23, 24, 25, 26, 27, 28, 29, 30, 31, 32, 33, 34, 35, 36, 37, 38, 39, 40, 41] (by decide +kernel) (by decide +kernel)
set_option maxRecDepth 20000 in
theorem gX9_layPoints_X9_both : GoodIn wsX9_layPoints (wsV RX9 116 RX9 yX9_both wsX9_both) := goodIn_app (goodIn_of _ (by decide +kernel)) ggX9_layPoints_X9_both
theorem dX9_layPoints_0 : decode cX9_layPoints 0 = .ok (.aload_n 0, 1) := by decide +kernel
theorem dX9_layPoints_1 : decode cX9_layPoints 1 = .ok (.iconst 0, 1) := by decide +kernel
theorem dX9_layPoints_2 : decode cX9_layPoints 2 = .ok (.putfield 137, 3) := by decide +kernel
theorem dX9_layPoints_5 : decode cX9_layPoints 5 = .ok (.iconst 0, 1) := by decide +kernel
theorem dX9_layPoints_6 : decode cX9_layPoints 6 = .ok (.istore_n 1, 1) := by decide +kernel
theorem dX9_layPoints_7 : decode cX9_layPoints 7 = .ok (.iload_n 1, 1) := by decide +kernel
theorem dX9_layPoints_8 : decode cX9_layPoints 8 = .ok (.aload_n 0, 1) := by decide +kernel
theorem dX9_layPoints_9 : decode cX9_layPoints 9 = .ok (.getfield 7, 3) := by decide +kernel
theorem dX9_layPoints_12 : decode cX9_layPoints 12 = .ok (.aload_n 0, 1) := by decide +kernel
theorem dX9_layPoints_13 : decode cX9_layPoints 13 = .ok (.getfield 7, 3) := by decide +kernel
theorem dX9_layPoints_16 : decode cX9_layPoints 16 = .ok (.imul, 1) := by decide +kernel
theorem dX9_layPoints_17 : decode cX9_layPoints 17 = .ok (.aload_n 0, 1) := by decide +kernel
theorem dX9_layPoints_18 : decode cX9_layPoints 18 = .ok (.getfield 7, 3) := by decide +kernel
theorem dX9_layPoints_21 : decode cX9_layPoints 21 = .ok (.iadd, 1) := by decide +kernel
theorem dX9_layPoints_22 : decode cX9_layPoints 22 = .ok (.iconst 1, 1) := by decide +kernel
theorem dX9_layPoints_23 : decode cX9_layPoints 23 = .ok (.iadd, 1) := by decide +kernel
theorem dX9_layPoints_24 : decode cX9_layPoints 24 = .ok (.if_icmp .ge 188, 3) := by decide +kernel
theorem dX9_layPoints_27 : decode cX9_layPoints 27 = .ok (.iload_n 1, 1) := by decide +kernel
theorem dX9_layPoints_28 : decode cX9_layPoints 28 = .ok (.aload_n 0, 1) := by decide +kernel
theorem dX9_layPoints_29 : decode cX9_layPoints 29 = .ok (.getfield 7, 3) := by decide +kernel
theorem dX9_layPoints_32 : decode cX9_layPoints 32 = .ok (.aload_n 0, 1) := by decide +kernel
theorem dX9_layPoints_33 : decode cX9_layPoints 33 = .ok (.getfield 7, 3) := by decide +kernel
theorem dX9_layPoints_36 : decode cX9_layPoints 36 = .ok (.imul, 1) := by decide +kernel
theorem dX9_layPoints_37 : decode cX9_layPoints 37 = .ok (.if_icmp .ge 12, 3) := by decide +kernel
theorem dX9_layPoints_40 : decode cX9_layPoints 40 = .ok (.iload_n 1, 1) := by decide +kernel
theorem dX9_layPoints_41 : decode cX9_layPoints 41 = .ok (.aload_n 0, 1) := by decide +kernel
theorem dX9_layPoints_42 : decode cX9_layPoints 42 = .ok (.getfield 7, 3) := by decide +kernel
theorem dX9_layPoints_45 : decode cX9_layPoints 45 = .ok (.irem, 1) := by decide +kernel
theorem dX9_layPoints_46 : decode cX9_layPoints 46 = .ok (.goto 36, 3) := by decide +kernel
theorem dX9_layPoints_49 : decode cX9_layPoints 49 = .ok (.iload_n 1, 1) := by decide +kernel
theorem dX9_layPoints_50 : decode cX9_layPoints 50 = .ok (.aload_n 0, 1) := by decide +kernel
theorem dX9_layPoints_51 : decode cX9_layPoints 51 = .ok (.getfield 7, 3) := by decide +kernel
theorem dX9_layPoints_54 : decode cX9_layPoints 54 = .ok (.aload_n 0, 1) := by decide +kernel
theorem dX9_layPoints_55 : decode cX9_layPoints 55 = .ok (.getfield 7, 3) := by decide +kernel
theorem dX9_layPoints_58 : decode cX9_layPoints 58 = .ok (.imul, 1) := by decide +kernel
theorem dX9_layPoints_59 : decode cX9_layPoints 59 = .ok (.aload_n 0, 1) := by decide +kernel
theorem dX9_layPoints_60 : decode cX9_layPoints 60 = .ok (.getfield 7, 3) := by decide +kernel
theorem dX9_layPoints_63 : decode cX9_layPoints 63 = .ok (.iadd, 1) := by decide +kernel
theorem dX9_layPoints_64 : decode cX9_layPoints 64 = .ok (.if_icmp .ge 17, 3) := by decide +kernel
theorem dX9_layPoints_67 : decode cX9_layPoints 67 = .ok (.iload_n 1, 1) := by decide +kernel
theorem dX9_layPoints_68 : decode cX9_layPoints 68 = .ok (.aload_n 0, 1) := by decide +kernel
theorem dX9_layPoints_69 : decode cX9_layPoints 69 = .ok (.getfield 7, 3) := by decide +kernel
theorem dX9_layPoints_72 : decode cX9_layPoints 72 = .ok (.aload_n 0, 1) := by decide +kernel
theorem dX9_layPoints_73 : decode cX9_layPoints 73 = .ok (.getfield 7, 3) := by decide +kernel
theorem dX9_layPoints_76 : decode cX9_layPoints 76 = .ok (.imul, 1) := by decide +kernel
theorem dX9_layPoints_77 : decode cX9_layPoints 77 = .ok (.isub, 1) := by decide +kernel
theorem dX9_layPoints_78 : decode cX9_layPoints 78 = .ok (.goto 4, 3) := by decide +kernel
theorem dX9_layPoints_81 : decode cX9_layPoints 81 = .ok (.iconst 1, 1) := by decide +kernel
theorem dX9_layPoints_82 : decode cX9_layPoints 82 = .ok (.istore_n 2, 1) := by decide +kernel
theorem dX9_layPoints_83 : decode cX9_layPoints 83 = .ok (.iload_n 1, 1) := by decide +kernel
theorem dX9_layPoints_84 : decode cX9_layPoints 84 = .ok (.aload_n 0, 1) := by decide +kernel
theorem dX9_layPoints_85 : decode cX9_layPoints 85 = .ok (.getfield 7, 3) := by decide +kernel
theorem dX9_layPoints_88 : decode cX9_layPoints 88 = .ok (.aload_n 0, 1) := by decide +kernel
theorem dX9_layPoints_89 : decode cX9_layPoints 89 = .ok (.getfield 7, 3) := by decide +kernel
theorem dX9_layPoints_92 : decode cX9_layPoints 92 = .ok (.imul, 1) := by decide +kernel
theorem dX9_layPoints_93 : decode cX9_layPoints 93 = .ok (.if_icmp .ge 12, 3) := by decide +kernel
theorem dX9_layPoints_96 : decode cX9_layPoints 96 = .ok (.iload_n 1, 1) := by decide +kernel
theorem dX9_layPoints_97 : decode cX9_layPoints 97 = .ok (.aload_n 0, 1) := by decide +kernel
theorem dX9_layPoints_98 : decode cX9_layPoints 98 = .ok (.getfield 7, 3) := by decide +kernel
theorem dX9_layPoints_101 : decode cX9_layPoints 101 = .ok (.idiv, 1) := by decide +kernel
theorem dX9_layPoints_102 : decode cX9_layPoints 102 = .ok (.goto 26, 3) := by decide +kernel
theorem dX9_layPoints_105 : decode cX9_layPoints 105 = .ok (.iload_n 1, 1) := by decide +kernel
theorem dX9_layPoints_106 : decode cX9_layPoints 106 = .ok (.aload_n 0, 1) := by decide +kernel
theorem dX9_layPoints_107 : decode cX9_layPoints 107 = .ok (.getfield 7, 3) := by decide +kernel
theorem dX9_layPoints_110 : decode cX9_layPoints 110 = .ok (.aload_n 0, 1) := by decide +kernel
theorem dX9_layPoints_111 : decode cX9_layPoints 111 = .ok (.getfield 7, 3) := by decide +kernel
theorem dX9_layPoints_114 : decode cX9_layPoints 114 = .ok (.imul, 1) := by decide +kernel
theorem dX9_layPoints_115 : decode cX9_layPoints 115 = .ok (.aload_n 0, 1) := by decide +kernel
theorem dX9_layPoints_116 : decode cX9_layPoints 116 = .ok (.getfield 7, 3) := by decide +kernel
theorem dX9_layPoints_119 : decode cX9_layPoints 119 = .ok (.iadd, 1) := by decide +kernel
theorem dX9_layPoints_120 : decode cX9_layPoints 120 = .ok (.if_icmp .ge 7, 3) := by decide +kernel
theorem dX9_layPoints_123 : decode cX9_layPoints 123 = .ok (.iconst 1, 1) := by decide +kernel
theorem dX9_layPoints_124 : decode cX9_layPoints 124 = .ok (.goto 4, 3) := by decide +kernel
theorem dX9_layPoints_127 : decode cX9_layPoints 127 = .ok (.iconst 0, 1) := by decide +kernel
theorem dX9_layPoints_128 : decode cX9_layPoints 128 = .ok (.istore_n 3, 1) := by decide +kernel
theorem dX9_layPoints_129 : decode cX9_layPoints 129 = .ok (.iload_n 1, 1) := by decide +kernel
theorem dX9_layPoints_130 : decode cX9_layPoints 130 = .ok (.aload_n 0, 1) := by decide +kernel
theorem dX9_layPoints_131 : decode cX9_layPoints 131 = .ok (.getfield 7, 3) := by decide +kernel
theorem dX9_layPoints_134 : decode cX9_layPoints 134 = .ok (.aload_n 0, 1) := by decide +kernel
theorem dX9_layPoints_135 : decode cX9_layPoints 135 = .ok (.getfield 7, 3) := by decide +kernel
theorem dX9_layPoints_138 : decode cX9_layPoints 138 = .ok (.imul, 1) := by decide +kernel
theorem dX9_layPoints_139 : decode cX9_layPoints 139 = .ok (.if_icmp .ge 7, 3) := by decide +kernel
theorem dX9_layPoints_142 : decode cX9_layPoints 142 = .ok (.iconst 1, 1) := by decide +kernel
theorem dX9_layPoints_143 : decode cX9_layPoints 143 = .ok (.goto 4, 3) := by decide +kernel
theorem dX9_layPoints_146 : decode cX9_layPoints 146 = .ok (.iconst 0, 1) := by decide +kernel
theorem dX9_layPoints_147 : decode cX9_layPoints 147 = .ok (.istore 4, 2) := by decide +kernel
theorem dX9_layPoints_149 : decode cX9_layPoints 149 = .ok (.aload_n 0, 1) := by decide +kernel
theorem dX9_layPoints_150 : decode cX9_layPoints 150 = .ok (.aload_n 0, 1) := by decide +kernel
theorem dX9_layPoints_151 : decode cX9_layPoints 151 = .ok (.getfield 13, 3) := by decide +kernel
theorem dX9_layPoints_154 : decode cX9_layPoints 154 = .ok (.iconst 0, 1) := by decide +kernel
theorem dX9_layPoints_155 : decode cX9_layPoints 155 = .ok (.iload_n 2, 1) := by decide +kernel
theorem dX9_layPoints_156 : decode cX9_layPoints 156 = .ok (.iload_n 3, 1) := by decide +kernel
theorem dX9_layPoints_157 : decode cX9_layPoints 157 = .ok (.iload 4, 2) := by decide +kernel
theorem dX9_layPoints_159 : decode cX9_layPoints 159 = .ok (.invokevirtual 116, 3) := by decide +kernel
theorem dX9_layPoints_162 : decode cX9_layPoints 162 = .ok (.ifCond .ne 44, 3) := by decide +kernel
theorem dX9_layPoints_165 : decode cX9_layPoints 165 = .ok (.aload_n 0, 1) := by decide +kernel
theorem dX9_layPoints_166 : decode cX9_layPoints 166 = .ok (.getfield 20, 3) := by decide +kernel
theorem dX9_layPoints_169 : decode cX9_layPoints 169 = .ok (.aload_n 0, 1) := by decide +kernel
theorem dX9_layPoints_170 : decode cX9_layPoints 170 = .ok (.getfield 137, 3) := by decide +kernel
theorem dX9_layPoints_173 : decode cX9_layPoints 173 = .ok (.iload_n 2, 1) := by decide +kernel
theorem dX9_layPoints_174 : decode cX9_layPoints 174 = .ok (.iastore, 1) := by decide +kernel
theorem dX9_layPoints_175 : decode cX9_layPoints 175 = .ok (.aload_n 0, 1) := by decide +kernel
theorem dX9_layPoints_176 : decode cX9_layPoints 176 = .ok (.getfield 23, 3) := by decide +kernel
theorem dX9_layPoints_179 : decode cX9_layPoints 179 = .ok (.aload_n 0, 1) := by decide +kernel
theorem dX9_layPoints_180 : decode cX9_layPoints 180 = .ok (.getfield 137, 3) := by decide +kernel
theorem dX9_layPoints_183 : decode cX9_layPoints 183 = .ok (.iload_n 3, 1) := by decide +kernel
theorem dX9_layPoints_184 : decode cX9_layPoints 184 = .ok (.iastore, 1) := by decide +kernel
theorem dX9_layPoints_185 : decode cX9_layPoints 185 = .ok (.aload_n 0, 1) := by decide +kernel
theorem dX9_layPoints_186 : decode cX9_layPoints 186 = .ok (.getfield 26, 3) := by decide +kernel
theorem dX9_layPoints_189 : decode cX9_layPoints 189 = .ok (.aload_n 0, 1) := by decide +kernel
theorem dX9_layPoints_190 : decode cX9_layPoints 190 = .ok (.getfield 137, 3) := by decide +kernel
theorem dX9_layPoints_193 : decode cX9_layPoints 193 = .ok (.iload 4, 2) := by decide +kernel
theorem dX9_layPoints_195 : decode cX9_layPoints 195 = .ok (.iastore, 1) := by decide +kernel
theorem dX9_layPoints_196 : decode cX9_layPoints 196 = .ok (.aload_n 0, 1) := by decide +kernel
theorem dX9_layPoints_197 : decode cX9_layPoints 197 = .ok (.dup, 1) := by decide +kernel
theorem dX9_layPoints_198 : decode cX9_layPoints 198 = .ok (.getfield 137, 3) := by decide +kernel
theorem dX9_layPoints_201 : decode cX9_layPoints 201 = .ok (.iconst 1, 1) := by decide +kernel
theorem dX9_layPoints_202 : decode cX9_layPoints 202 = .ok (.iadd, 1) := by decide +kernel
theorem dX9_layPoints_203 : decode cX9_layPoints 203 = .ok (.putfield 137, 3) := by decide +kernel
theorem dX9_layPoints_206 : decode cX9_layPoints 206 = .ok (.iinc 1 1, 3) := by decide +kernel
theorem dX9_layPoints_209 : decode cX9_layPoints 209 = .ok (.goto (-202), 3) := by decide +kernel
theorem dX9_layPoints_212 : decode cX9_layPoints 212 = .ok (.return_, 1) := by decide +kernel
set_option maxRecDepth 20000 in
theorem ggX9_layFlags_X9_cofactorOf : GoodIn wsX9_layFlags wsX9_cofactorOf := goodIn_r _ [17, 8, 18, 19, 20, 16, 21, 7, 50, 51, 52, 53, 54, 55, 56, 57, 58, 59, 60, 61, 62, 63, 64, 65, 66, 67, 68, 69, 70, 71, 72, 73, 74, 75] (by decide +kernel) (by decide +kernel)
set_option maxRecDepth 20000 in
theorem gX9_layFlags_X9_cofactorOf : GoodIn wsX9_layFlags (wsV RX9 88 RX9 yX9_cofactorOf wsX9_cofactorOf) := goodIn_app (goodIn_of _ (by decide +kernel)) ggX9_layFlags_X9_cofactorOf
set_option maxRecDepth 20000 in
theorem ggX9_layFlags_X9_of : GoodIn wsX9_layFlags wsX9_of := goodIn_r _ [21, 7, 50, 51, 52, 53, 54, 55, 56, 57, 58, 59, 60, 61, 62, 63, 64, 65, 66, 67, 68, 69, 70, 71, 72, 73, 74, 75] (by decide +kernel) (by decide +kernel)
set_option maxRecDepth 20000 in
theorem gX9_layFlags_X9_of : GoodIn wsX9_layFlags (wsV RX9 85 RX9 yX9_of wsX9_of) := goodIn_app (goodIn_of _ (by decide +kernel)) ggX9_layFlags_X9_of
set_option maxRecDepth 20000 in
theorem ggX9_layFlags_X9_form : GoodIn wsX9_layFlags wsX9_form := goodIn_r _ [25, 9, 10, 11, 26, 27, 28, 16, 29, 7, 30, 31, 32, 33, 50, 51, 52, 53, 54, 55, 56, 57, 58, 59, 60, 61, 62, 63, 64, 65, 66, 67, 68, 69, 70, 71, 72, 73, 74, 75] (by decide +kernel) (by decide +kernel)
set_option maxRecDepth 20000 in
theorem gX9_layFlags_X9_form : GoodIn wsX9_layFlags (wsV RX9 133 RX9 yX9_form wsX9_form) := goodIn_app (goodIn_of _ (by decide +kernel)) ggX9_layFlags_X9_form
set_option maxRecDepth 20000 in
theorem ggX9_layFlags_X9_both : GoodIn wsX9_layFlags wsX9_both := goodIn_r _ [37, 18, 19, 20, 16, 21, 7, 50, 51, 52, 53, 54, 55, 56, 57, 58, 59, 60, 61, 62, 63, 64, 65, 66, 67, 68, 69, 70, 71, 72, 73, 74, 75] (by decide +kernel) (by decide +kernel)
set_option maxRecDepth 20000 in
theorem gX9_layFlags_X9_both : GoodIn wsX9_layFlags (wsV RX9 116 RX9 yX9_both wsX9_both) := goodIn_app (goodIn_of _ (by decide +kernel)) ggX9_layFlags_X9_both
set_option maxRecDepth 20000 in
theorem ggX9_layFlags_X9_addFlag : GoodIn wsX9_layFlags wsX9_addFlag := goodIn_r _ [41, 2, 9, 10, 11, 42, 43, 44, 45, 46, 47, 48, 16, 49, 7, 50, 51, 52, 53, 54, 55, 56, 57, 58, 59, 60, 61, 62, 63, 64, 65, 66, 67, 68, 69, 70, 71, 72, 73, 74, 75] (by decide +kernel) (by decide +kernel)
set_option maxRecDepth 20000 in
theorem gX9_layFlags_X9_addFlag : GoodIn wsX9_layFlags (wsV RX9 143 RX9 yX9_addFlag wsX9_addFlag) := goodIn_app (goodIn_of _ (by decide +kernel)) ggX9_layFlags_X9_addFlag
theorem dX9_layFlags_0 : decode cX9_layFlags 0 = .ok (.aload_n 0, 1) := by decide +kernel
theorem dX9_layFlags_1 : decode cX9_layFlags 1 = .ok (.aload_n 0, 1) := by decide +kernel
theorem dX9_layFlags_2 : decode cX9_layFlags 2 = .ok (.getfield 13, 3) := by decide +kernel
theorem dX9_layFlags_5 : decode cX9_layFlags 5 = .ok (.bipush 6, 2) := by decide +kernel
theorem dX9_layFlags_7 : decode cX9_layFlags 7 = .ok (.invokevirtual 88, 3) := by decide +kernel
theorem dX9_layFlags_10 : decode cX9_layFlags 10 = .ok (.aload_n 0, 1) := by decide +kernel
theorem dX9_layFlags_11 : decode cX9_layFlags 11 = .ok (.iconst 0, 1) := by decide +kernel
theorem dX9_layFlags_12 : decode cX9_layFlags 12 = .ok (.putfield 140, 3) := by decide +kernel
theorem dX9_layFlags_15 : decode cX9_layFlags 15 = .ok (.iconst 0, 1) := by decide +kernel
theorem dX9_layFlags_16 : decode cX9_layFlags 16 = .ok (.istore_n 1, 1) := by decide +kernel
theorem dX9_layFlags_17 : decode cX9_layFlags 17 = .ok (.iload_n 1, 1) := by decide +kernel
theorem dX9_layFlags_18 : decode cX9_layFlags 18 = .ok (.aload_n 0, 1) := by decide +kernel
theorem dX9_layFlags_19 : decode cX9_layFlags 19 = .ok (.getfield 137, 3) := by decide +kernel
theorem dX9_layFlags_22 : decode cX9_layFlags 22 = .ok (.if_icmp .ge 252, 3) := by decide +kernel
theorem dX9_layFlags_25 : decode cX9_layFlags 25 = .ok (.aload_n 0, 1) := by decide +kernel
theorem dX9_layFlags_26 : decode cX9_layFlags 26 = .ok (.getfield 20, 3) := by decide +kernel
theorem dX9_layFlags_29 : decode cX9_layFlags 29 = .ok (.iload_n 1, 1) := by decide +kernel
theorem dX9_layFlags_30 : decode cX9_layFlags 30 = .ok (.iaload, 1) := by decide +kernel
theorem dX9_layFlags_31 : decode cX9_layFlags 31 = .ok (.istore_n 2, 1) := by decide +kernel
theorem dX9_layFlags_32 : decode cX9_layFlags 32 = .ok (.aload_n 0, 1) := by decide +kernel
theorem dX9_layFlags_33 : decode cX9_layFlags 33 = .ok (.getfield 23, 3) := by decide +kernel
theorem dX9_layFlags_36 : decode cX9_layFlags 36 = .ok (.iload_n 1, 1) := by decide +kernel
theorem dX9_layFlags_37 : decode cX9_layFlags 37 = .ok (.iaload, 1) := by decide +kernel
theorem dX9_layFlags_38 : decode cX9_layFlags 38 = .ok (.istore_n 3, 1) := by decide +kernel
theorem dX9_layFlags_39 : decode cX9_layFlags 39 = .ok (.aload_n 0, 1) := by decide +kernel
theorem dX9_layFlags_40 : decode cX9_layFlags 40 = .ok (.getfield 26, 3) := by decide +kernel
theorem dX9_layFlags_43 : decode cX9_layFlags 43 = .ok (.iload_n 1, 1) := by decide +kernel
theorem dX9_layFlags_44 : decode cX9_layFlags 44 = .ok (.iaload, 1) := by decide +kernel
theorem dX9_layFlags_45 : decode cX9_layFlags 45 = .ok (.istore 4, 2) := by decide +kernel
theorem dX9_layFlags_47 : decode cX9_layFlags 47 = .ok (.aload_n 0, 1) := by decide +kernel
theorem dX9_layFlags_48 : decode cX9_layFlags 48 = .ok (.getfield 140, 3) := by decide +kernel
theorem dX9_layFlags_51 : decode cX9_layFlags 51 = .ok (.istore 5, 2) := by decide +kernel
theorem dX9_layFlags_53 : decode cX9_layFlags 53 = .ok (.iload 4, 2) := by decide +kernel
theorem dX9_layFlags_55 : decode cX9_layFlags 55 = .ok (.istore 6, 2) := by decide +kernel
theorem dX9_layFlags_57 : decode cX9_layFlags 57 = .ok (.iconst 0, 1) := by decide +kernel
theorem dX9_layFlags_58 : decode cX9_layFlags 58 = .ok (.istore 7, 2) := by decide +kernel
theorem dX9_layFlags_60 : decode cX9_layFlags 60 = .ok (.iload 4, 2) := by decide +kernel
theorem dX9_layFlags_62 : decode cX9_layFlags 62 = .ok (.ifCond .eq 12, 3) := by decide +kernel
theorem dX9_layFlags_65 : decode cX9_layFlags 65 = .ok (.aload_n 0, 1) := by decide +kernel
theorem dX9_layFlags_66 : decode cX9_layFlags 66 = .ok (.iload_n 2, 1) := by decide +kernel
theorem dX9_layFlags_67 : decode cX9_layFlags 67 = .ok (.ineg, 1) := by decide +kernel
theorem dX9_layFlags_68 : decode cX9_layFlags 68 = .ok (.invokevirtual 85, 3) := by decide +kernel
theorem dX9_layFlags_71 : decode cX9_layFlags 71 = .ok (.goto 4, 3) := by decide +kernel
theorem dX9_layFlags_74 : decode cX9_layFlags 74 = .ok (.iconst 1, 1) := by decide +kernel
theorem dX9_layFlags_75 : decode cX9_layFlags 75 = .ok (.istore 8, 2) := by decide +kernel
theorem dX9_layFlags_77 : decode cX9_layFlags 77 = .ok (.iload 4, 2) := by decide +kernel
theorem dX9_layFlags_79 : decode cX9_layFlags 79 = .ok (.ifCond .eq 7, 3) := by decide +kernel
theorem dX9_layFlags_82 : decode cX9_layFlags 82 = .ok (.iconst 0, 1) := by decide +kernel
theorem dX9_layFlags_83 : decode cX9_layFlags 83 = .ok (.goto 4, 3) := by decide +kernel
theorem dX9_layFlags_86 : decode cX9_layFlags 86 = .ok (.iload_n 3, 1) := by decide +kernel
theorem dX9_layFlags_87 : decode cX9_layFlags 87 = .ok (.istore 9, 2) := by decide +kernel
theorem dX9_layFlags_89 : decode cX9_layFlags 89 = .ok (.iload 4, 2) := by decide +kernel
theorem dX9_layFlags_91 : decode cX9_layFlags 91 = .ok (.ifCond .eq 8, 3) := by decide +kernel
theorem dX9_layFlags_94 : decode cX9_layFlags 94 = .ok (.iload 4, 2) := by decide +kernel
theorem dX9_layFlags_96 : decode cX9_layFlags 96 = .ok (.goto 9, 3) := by decide +kernel
theorem dX9_layFlags_99 : decode cX9_layFlags 99 = .ok (.aload_n 0, 1) := by decide +kernel
theorem dX9_layFlags_100 : decode cX9_layFlags 100 = .ok (.iload_n 2, 1) := by decide +kernel
theorem dX9_layFlags_101 : decode cX9_layFlags 101 = .ok (.ineg, 1) := by decide +kernel
theorem dX9_layFlags_102 : decode cX9_layFlags 102 = .ok (.invokevirtual 85, 3) := by decide +kernel
theorem dX9_layFlags_105 : decode cX9_layFlags 105 = .ok (.istore 10, 2) := by decide +kernel
theorem dX9_layFlags_107 : decode cX9_layFlags 107 = .ok (.iload 4, 2) := by decide +kernel
theorem dX9_layFlags_109 : decode cX9_layFlags 109 = .ok (.ifCond .eq 12, 3) := by decide +kernel
theorem dX9_layFlags_112 : decode cX9_layFlags 112 = .ok (.aload_n 0, 1) := by decide +kernel
theorem dX9_layFlags_113 : decode cX9_layFlags 113 = .ok (.iload_n 3, 1) := by decide +kernel
theorem dX9_layFlags_114 : decode cX9_layFlags 114 = .ok (.ineg, 1) := by decide +kernel
theorem dX9_layFlags_115 : decode cX9_layFlags 115 = .ok (.invokevirtual 85, 3) := by decide +kernel
theorem dX9_layFlags_118 : decode cX9_layFlags 118 = .ok (.goto 4, 3) := by decide +kernel
theorem dX9_layFlags_121 : decode cX9_layFlags 121 = .ok (.iconst 0, 1) := by decide +kernel
theorem dX9_layFlags_122 : decode cX9_layFlags 122 = .ok (.istore 11, 2) := by decide +kernel
theorem dX9_layFlags_124 : decode cX9_layFlags 124 = .ok (.iconst 0, 1) := by decide +kernel
theorem dX9_layFlags_125 : decode cX9_layFlags 125 = .ok (.istore 12, 2) := by decide +kernel
theorem dX9_layFlags_127 : decode cX9_layFlags 127 = .ok (.iload 12, 2) := by decide +kernel
theorem dX9_layFlags_129 : decode cX9_layFlags 129 = .ok (.aload_n 0, 1) := by decide +kernel
theorem dX9_layFlags_130 : decode cX9_layFlags 130 = .ok (.getfield 7, 3) := by decide +kernel
theorem dX9_layFlags_133 : decode cX9_layFlags 133 = .ok (.if_icmp .gt 122, 3) := by decide +kernel
theorem dX9_layFlags_136 : decode cX9_layFlags 136 = .ok (.iload 12, 2) := by decide +kernel
theorem dX9_layFlags_138 : decode cX9_layFlags 138 = .ok (.aload_n 0, 1) := by decide +kernel
theorem dX9_layFlags_139 : decode cX9_layFlags 139 = .ok (.getfield 7, 3) := by decide +kernel
theorem dX9_layFlags_142 : decode cX9_layFlags 142 = .ok (.if_icmp .ge 8, 3) := by decide +kernel
theorem dX9_layFlags_145 : decode cX9_layFlags 145 = .ok (.iload 12, 2) := by decide +kernel
theorem dX9_layFlags_147 : decode cX9_layFlags 147 = .ok (.goto 4, 3) := by decide +kernel
theorem dX9_layFlags_150 : decode cX9_layFlags 150 = .ok (.iconst 1, 1) := by decide +kernel
theorem dX9_layFlags_151 : decode cX9_layFlags 151 = .ok (.istore 13, 2) := by decide +kernel
theorem dX9_layFlags_153 : decode cX9_layFlags 153 = .ok (.iload 12, 2) := by decide +kernel
theorem dX9_layFlags_155 : decode cX9_layFlags 155 = .ok (.aload_n 0, 1) := by decide +kernel
theorem dX9_layFlags_156 : decode cX9_layFlags 156 = .ok (.getfield 7, 3) := by decide +kernel
theorem dX9_layFlags_159 : decode cX9_layFlags 159 = .ok (.if_icmp .ge 7, 3) := by decide +kernel
theorem dX9_layFlags_162 : decode cX9_layFlags 162 = .ok (.iconst 1, 1) := by decide +kernel
theorem dX9_layFlags_163 : decode cX9_layFlags 163 = .ok (.goto 4, 3) := by decide +kernel
theorem dX9_layFlags_166 : decode cX9_layFlags 166 = .ok (.iconst 0, 1) := by decide +kernel
theorem dX9_layFlags_167 : decode cX9_layFlags 167 = .ok (.istore 14, 2) := by decide +kernel
theorem dX9_layFlags_169 : decode cX9_layFlags 169 = .ok (.aload_n 0, 1) := by decide +kernel
theorem dX9_layFlags_170 : decode cX9_layFlags 170 = .ok (.aload_n 0, 1) := by decide +kernel
theorem dX9_layFlags_171 : decode cX9_layFlags 171 = .ok (.iload 13, 2) := by decide +kernel
theorem dX9_layFlags_173 : decode cX9_layFlags 173 = .ok (.iload 6, 2) := by decide +kernel
theorem dX9_layFlags_175 : decode cX9_layFlags 175 = .ok (.imul, 1) := by decide +kernel
theorem dX9_layFlags_176 : decode cX9_layFlags 176 = .ok (.iload 14, 2) := by decide +kernel
theorem dX9_layFlags_178 : decode cX9_layFlags 178 = .ok (.iload 9, 2) := by decide +kernel
theorem dX9_layFlags_180 : decode cX9_layFlags 180 = .ok (.imul, 1) := by decide +kernel
theorem dX9_layFlags_181 : decode cX9_layFlags 181 = .ok (.iadd, 1) := by decide +kernel
theorem dX9_layFlags_182 : decode cX9_layFlags 182 = .ok (.invokevirtual 85, 3) := by decide +kernel
theorem dX9_layFlags_185 : decode cX9_layFlags 185 = .ok (.aload_n 0, 1) := by decide +kernel
theorem dX9_layFlags_186 : decode cX9_layFlags 186 = .ok (.iload 13, 2) := by decide +kernel
theorem dX9_layFlags_188 : decode cX9_layFlags 188 = .ok (.iload 7, 2) := by decide +kernel
theorem dX9_layFlags_190 : decode cX9_layFlags 190 = .ok (.imul, 1) := by decide +kernel
theorem dX9_layFlags_191 : decode cX9_layFlags 191 = .ok (.iload 14, 2) := by decide +kernel
theorem dX9_layFlags_193 : decode cX9_layFlags 193 = .ok (.iload 10, 2) := by decide +kernel
theorem dX9_layFlags_195 : decode cX9_layFlags 195 = .ok (.imul, 1) := by decide +kernel
theorem dX9_layFlags_196 : decode cX9_layFlags 196 = .ok (.iadd, 1) := by decide +kernel
theorem dX9_layFlags_197 : decode cX9_layFlags 197 = .ok (.invokevirtual 85, 3) := by decide +kernel
theorem dX9_layFlags_200 : decode cX9_layFlags 200 = .ok (.aload_n 0, 1) := by decide +kernel
theorem dX9_layFlags_201 : decode cX9_layFlags 201 = .ok (.iload 13, 2) := by decide +kernel
theorem dX9_layFlags_203 : decode cX9_layFlags 203 = .ok (.iload 8, 2) := by decide +kernel
theorem dX9_layFlags_205 : decode cX9_layFlags 205 = .ok (.imul, 1) := by decide +kernel
theorem dX9_layFlags_206 : decode cX9_layFlags 206 = .ok (.iload 14, 2) := by decide +kernel
theorem dX9_layFlags_208 : decode cX9_layFlags 208 = .ok (.iload 11, 2) := by decide +kernel
theorem dX9_layFlags_210 : decode cX9_layFlags 210 = .ok (.imul, 1) := by decide +kernel
theorem dX9_layFlags_211 : decode cX9_layFlags 211 = .ok (.iadd, 1) := by decide +kernel
theorem dX9_layFlags_212 : decode cX9_layFlags 212 = .ok (.invokevirtual 85, 3) := by decide +kernel
theorem dX9_layFlags_215 : decode cX9_layFlags 215 = .ok (.invokevirtual 133, 3) := by decide +kernel
theorem dX9_layFlags_218 : decode cX9_layFlags 218 = .ok (.aload_n 0, 1) := by decide +kernel
theorem dX9_layFlags_219 : decode cX9_layFlags 219 = .ok (.aload_n 0, 1) := by decide +kernel
theorem dX9_layFlags_220 : decode cX9_layFlags 220 = .ok (.getfield 53, 3) := by decide +kernel
theorem dX9_layFlags_223 : decode cX9_layFlags 223 = .ok (.iconst 0, 1) := by decide +kernel
theorem dX9_layFlags_224 : decode cX9_layFlags 224 = .ok (.aload_n 0, 1) := by decide +kernel
theorem dX9_layFlags_225 : decode cX9_layFlags 225 = .ok (.getfield 124, 3) := by decide +kernel
theorem dX9_layFlags_228 : decode cX9_layFlags 228 = .ok (.aload_n 0, 1) := by decide +kernel
theorem dX9_layFlags_229 : decode cX9_layFlags 229 = .ok (.getfield 127, 3) := by decide +kernel
theorem dX9_layFlags_232 : decode cX9_layFlags 232 = .ok (.aload_n 0, 1) := by decide +kernel
theorem dX9_layFlags_233 : decode cX9_layFlags 233 = .ok (.getfield 130, 3) := by decide +kernel
theorem dX9_layFlags_236 : decode cX9_layFlags 236 = .ok (.invokevirtual 116, 3) := by decide +kernel
theorem dX9_layFlags_239 : decode cX9_layFlags 239 = .ok (.ifCond .ne 10, 3) := by decide +kernel
theorem dX9_layFlags_242 : decode cX9_layFlags 242 = .ok (.aload_n 0, 1) := by decide +kernel
theorem dX9_layFlags_243 : decode cX9_layFlags 243 = .ok (.iload_n 1, 1) := by decide +kernel
theorem dX9_layFlags_244 : decode cX9_layFlags 244 = .ok (.iload 5, 2) := by decide +kernel
theorem dX9_layFlags_246 : decode cX9_layFlags 246 = .ok (.invokevirtual 143, 3) := by decide +kernel
theorem dX9_layFlags_249 : decode cX9_layFlags 249 = .ok (.iinc 12 1, 3) := by decide +kernel
theorem dX9_layFlags_252 : decode cX9_layFlags 252 = .ok (.goto (-125), 3) := by decide +kernel
theorem dX9_layFlags_255 : decode cX9_layFlags 255 = .ok (.aload_n 0, 1) := by decide +kernel
theorem dX9_layFlags_256 : decode cX9_layFlags 256 = .ok (.getfield 29, 3) := by decide +kernel
theorem dX9_layFlags_259 : decode cX9_layFlags 259 = .ok (.iload_n 1, 1) := by decide +kernel
theorem dX9_layFlags_260 : decode cX9_layFlags 260 = .ok (.aload_n 0, 1) := by decide +kernel
theorem dX9_layFlags_261 : decode cX9_layFlags 261 = .ok (.getfield 140, 3) := by decide +kernel
theorem dX9_layFlags_264 : decode cX9_layFlags 264 = .ok (.iload 5, 2) := by decide +kernel
theorem dX9_layFlags_266 : decode cX9_layFlags 266 = .ok (.isub, 1) := by decide +kernel
theorem dX9_layFlags_267 : decode cX9_layFlags 267 = .ok (.iastore, 1) := by decide +kernel
theorem dX9_layFlags_268 : decode cX9_layFlags 268 = .ok (.iinc 1 1, 3) := by decide +kernel
theorem dX9_layFlags_271 : decode cX9_layFlags 271 = .ok (.goto (-254), 3) := by decide +kernel
theorem dX9_layFlags_274 : decode cX9_layFlags 274 = .ok (.return_, 1) := by decide +kernel
set_option maxRecDepth 20000 in
theorem ggX9_addFlag_X9_rank : GoodIn wsX9_addFlag wsX9_rank := goodIn_r _ [13, 14, 15, 16, 17, 18, 19, 20, 21, 22, 23, 24, 25, 26, 27, 28, 29, 30, 31, 32, 33, 34, 35, 36, 37, 38, 39, 40] (by decide +kernel) (by decide +kernel)
set_option maxRecDepth 20000 in
theorem gX9_addFlag_X9_rank : GoodIn wsX9_addFlag (wsV RX9 146 RX9 yX9_rank wsX9_rank) := goodIn_app (goodIn_of _ (by decide +kernel)) ggX9_addFlag_X9_rank
theorem dX9_addFlag_0 : decode cX9_addFlag 0 = .ok (.aload_n 0, 1) := by decide +kernel
theorem dX9_addFlag_1 : decode cX9_addFlag 1 = .ok (.getfield 140, 3) := by decide +kernel
theorem dX9_addFlag_4 : decode cX9_addFlag 4 = .ok (.istore_n 3, 1) := by decide +kernel
theorem dX9_addFlag_5 : decode cX9_addFlag 5 = .ok (.aload_n 0, 1) := by decide +kernel
theorem dX9_addFlag_6 : decode cX9_addFlag 6 = .ok (.aload_n 0, 1) := by decide +kernel
theorem dX9_addFlag_7 : decode cX9_addFlag 7 = .ok (.getfield 124, 3) := by decide +kernel
theorem dX9_addFlag_10 : decode cX9_addFlag 10 = .ok (.aload_n 0, 1) := by decide +kernel
theorem dX9_addFlag_11 : decode cX9_addFlag 11 = .ok (.getfield 127, 3) := by decide +kernel
theorem dX9_addFlag_14 : decode cX9_addFlag 14 = .ok (.aload_n 0, 1) := by decide +kernel
theorem dX9_addFlag_15 : decode cX9_addFlag 15 = .ok (.getfield 130, 3) := by decide +kernel
theorem dX9_addFlag_18 : decode cX9_addFlag 18 = .ok (.invokevirtual 146, 3) := by decide +kernel
theorem dX9_addFlag_21 : decode cX9_addFlag 21 = .ok (.istore 4, 2) := by decide +kernel
theorem dX9_addFlag_23 : decode cX9_addFlag 23 = .ok (.iload_n 3, 1) := by decide +kernel
theorem dX9_addFlag_24 : decode cX9_addFlag 24 = .ok (.iload_n 2, 1) := by decide +kernel
theorem dX9_addFlag_25 : decode cX9_addFlag 25 = .ok (.if_icmp .le 84, 3) := by decide +kernel
theorem dX9_addFlag_28 : decode cX9_addFlag 28 = .ok (.aload_n 0, 1) := by decide +kernel
theorem dX9_addFlag_29 : decode cX9_addFlag 29 = .ok (.aload_n 0, 1) := by decide +kernel
theorem dX9_addFlag_30 : decode cX9_addFlag 30 = .ok (.getfield 35, 3) := by decide +kernel
theorem dX9_addFlag_33 : decode cX9_addFlag 33 = .ok (.iload_n 3, 1) := by decide +kernel
theorem dX9_addFlag_34 : decode cX9_addFlag 34 = .ok (.iconst 1, 1) := by decide +kernel
theorem dX9_addFlag_35 : decode cX9_addFlag 35 = .ok (.isub, 1) := by decide +kernel
theorem dX9_addFlag_36 : decode cX9_addFlag 36 = .ok (.iaload, 1) := by decide +kernel
theorem dX9_addFlag_37 : decode cX9_addFlag 37 = .ok (.aload_n 0, 1) := by decide +kernel
theorem dX9_addFlag_38 : decode cX9_addFlag 38 = .ok (.getfield 38, 3) := by decide +kernel
theorem dX9_addFlag_41 : decode cX9_addFlag 41 = .ok (.iload_n 3, 1) := by decide +kernel
theorem dX9_addFlag_42 : decode cX9_addFlag 42 = .ok (.iconst 1, 1) := by decide +kernel
theorem dX9_addFlag_43 : decode cX9_addFlag 43 = .ok (.isub, 1) := by decide +kernel
theorem dX9_addFlag_44 : decode cX9_addFlag 44 = .ok (.iaload, 1) := by decide +kernel
theorem dX9_addFlag_45 : decode cX9_addFlag 45 = .ok (.aload_n 0, 1) := by decide +kernel
theorem dX9_addFlag_46 : decode cX9_addFlag 46 = .ok (.getfield 41, 3) := by decide +kernel
theorem dX9_addFlag_49 : decode cX9_addFlag 49 = .ok (.iload_n 3, 1) := by decide +kernel
theorem dX9_addFlag_50 : decode cX9_addFlag 50 = .ok (.iconst 1, 1) := by decide +kernel
theorem dX9_addFlag_51 : decode cX9_addFlag 51 = .ok (.isub, 1) := by decide +kernel
theorem dX9_addFlag_52 : decode cX9_addFlag 52 = .ok (.iaload, 1) := by decide +kernel
theorem dX9_addFlag_53 : decode cX9_addFlag 53 = .ok (.invokevirtual 146, 3) := by decide +kernel
theorem dX9_addFlag_56 : decode cX9_addFlag 56 = .ok (.iload 4, 2) := by decide +kernel
theorem dX9_addFlag_58 : decode cX9_addFlag 58 = .ok (.if_icmp .le 51, 3) := by decide +kernel
theorem dX9_addFlag_61 : decode cX9_addFlag 61 = .ok (.aload_n 0, 1) := by decide +kernel
theorem dX9_addFlag_62 : decode cX9_addFlag 62 = .ok (.getfield 35, 3) := by decide +kernel
theorem dX9_addFlag_65 : decode cX9_addFlag 65 = .ok (.iload_n 3, 1) := by decide +kernel
theorem dX9_addFlag_66 : decode cX9_addFlag 66 = .ok (.aload_n 0, 1) := by decide +kernel
theorem dX9_addFlag_67 : decode cX9_addFlag 67 = .ok (.getfield 35, 3) := by decide +kernel
theorem dX9_addFlag_70 : decode cX9_addFlag 70 = .ok (.iload_n 3, 1) := by decide +kernel
theorem dX9_addFlag_71 : decode cX9_addFlag 71 = .ok (.iconst 1, 1) := by decide +kernel
theorem dX9_addFlag_72 : decode cX9_addFlag 72 = .ok (.isub, 1) := by decide +kernel
theorem dX9_addFlag_73 : decode cX9_addFlag 73 = .ok (.iaload, 1) := by decide +kernel
theorem dX9_addFlag_74 : decode cX9_addFlag 74 = .ok (.iastore, 1) := by decide +kernel
theorem dX9_addFlag_75 : decode cX9_addFlag 75 = .ok (.aload_n 0, 1) := by decide +kernel
theorem dX9_addFlag_76 : decode cX9_addFlag 76 = .ok (.getfield 38, 3) := by decide +kernel
theorem dX9_addFlag_79 : decode cX9_addFlag 79 = .ok (.iload_n 3, 1) := by decide +kernel
theorem dX9_addFlag_80 : decode cX9_addFlag 80 = .ok (.aload_n 0, 1) := by decide +kernel
theorem dX9_addFlag_81 : decode cX9_addFlag 81 = .ok (.getfield 38, 3) := by decide +kernel
theorem dX9_addFlag_84 : decode cX9_addFlag 84 = .ok (.iload_n 3, 1) := by decide +kernel
theorem dX9_addFlag_85 : decode cX9_addFlag 85 = .ok (.iconst 1, 1) := by decide +kernel
theorem dX9_addFlag_86 : decode cX9_addFlag 86 = .ok (.isub, 1) := by decide +kernel
theorem dX9_addFlag_87 : decode cX9_addFlag 87 = .ok (.iaload, 1) := by decide +kernel
theorem dX9_addFlag_88 : decode cX9_addFlag 88 = .ok (.iastore, 1) := by decide +kernel
theorem dX9_addFlag_89 : decode cX9_addFlag 89 = .ok (.aload_n 0, 1) := by decide +kernel
theorem dX9_addFlag_90 : decode cX9_addFlag 90 = .ok (.getfield 41, 3) := by decide +kernel
theorem dX9_addFlag_93 : decode cX9_addFlag 93 = .ok (.iload_n 3, 1) := by decide +kernel
theorem dX9_addFlag_94 : decode cX9_addFlag 94 = .ok (.aload_n 0, 1) := by decide +kernel
theorem dX9_addFlag_95 : decode cX9_addFlag 95 = .ok (.getfield 41, 3) := by decide +kernel
theorem dX9_addFlag_98 : decode cX9_addFlag 98 = .ok (.iload_n 3, 1) := by decide +kernel
theorem dX9_addFlag_99 : decode cX9_addFlag 99 = .ok (.iconst 1, 1) := by decide +kernel
theorem dX9_addFlag_100 : decode cX9_addFlag 100 = .ok (.isub, 1) := by decide +kernel
theorem dX9_addFlag_101 : decode cX9_addFlag 101 = .ok (.iaload, 1) := by decide +kernel
theorem dX9_addFlag_102 : decode cX9_addFlag 102 = .ok (.iastore, 1) := by decide +kernel
theorem dX9_addFlag_103 : decode cX9_addFlag 103 = .ok (.iinc 3 (-1), 3) := by decide +kernel
theorem dX9_addFlag_106 : decode cX9_addFlag 106 = .ok (.goto (-83), 3) := by decide +kernel
theorem dX9_addFlag_109 : decode cX9_addFlag 109 = .ok (.aload_n 0, 1) := by decide +kernel
theorem dX9_addFlag_110 : decode cX9_addFlag 110 = .ok (.getfield 32, 3) := by decide +kernel
theorem dX9_addFlag_113 : decode cX9_addFlag 113 = .ok (.aload_n 0, 1) := by decide +kernel
theorem dX9_addFlag_114 : decode cX9_addFlag 114 = .ok (.getfield 140, 3) := by decide +kernel
theorem dX9_addFlag_117 : decode cX9_addFlag 117 = .ok (.iload_n 1, 1) := by decide +kernel
theorem dX9_addFlag_118 : decode cX9_addFlag 118 = .ok (.iastore, 1) := by decide +kernel
theorem dX9_addFlag_119 : decode cX9_addFlag 119 = .ok (.aload_n 0, 1) := by decide +kernel
theorem dX9_addFlag_120 : decode cX9_addFlag 120 = .ok (.getfield 35, 3) := by decide +kernel
theorem dX9_addFlag_123 : decode cX9_addFlag 123 = .ok (.iload_n 3, 1) := by decide +kernel
theorem dX9_addFlag_124 : decode cX9_addFlag 124 = .ok (.aload_n 0, 1) := by decide +kernel
theorem dX9_addFlag_125 : decode cX9_addFlag 125 = .ok (.getfield 124, 3) := by decide +kernel
theorem dX9_addFlag_128 : decode cX9_addFlag 128 = .ok (.iastore, 1) := by decide +kernel
theorem dX9_addFlag_129 : decode cX9_addFlag 129 = .ok (.aload_n 0, 1) := by decide +kernel
theorem dX9_addFlag_130 : decode cX9_addFlag 130 = .ok (.getfield 38, 3) := by decide +kernel
theorem dX9_addFlag_133 : decode cX9_addFlag 133 = .ok (.iload_n 3, 1) := by decide +kernel
theorem dX9_addFlag_134 : decode cX9_addFlag 134 = .ok (.aload_n 0, 1) := by decide +kernel
theorem dX9_addFlag_135 : decode cX9_addFlag 135 = .ok (.getfield 127, 3) := by decide +kernel
theorem dX9_addFlag_138 : decode cX9_addFlag 138 = .ok (.iastore, 1) := by decide +kernel
theorem dX9_addFlag_139 : decode cX9_addFlag 139 = .ok (.aload_n 0, 1) := by decide +kernel
theorem dX9_addFlag_140 : decode cX9_addFlag 140 = .ok (.getfield 41, 3) := by decide +kernel
theorem dX9_addFlag_143 : decode cX9_addFlag 143 = .ok (.iload_n 3, 1) := by decide +kernel
theorem dX9_addFlag_144 : decode cX9_addFlag 144 = .ok (.aload_n 0, 1) := by decide +kernel
theorem dX9_addFlag_145 : decode cX9_addFlag 145 = .ok (.getfield 130, 3) := by decide +kernel
theorem dX9_addFlag_148 : decode cX9_addFlag 148 = .ok (.iastore, 1) := by decide +kernel
theorem dX9_addFlag_149 : decode cX9_addFlag 149 = .ok (.aload_n 0, 1) := by decide +kernel
theorem dX9_addFlag_150 : decode cX9_addFlag 150 = .ok (.dup, 1) := by decide +kernel
theorem dX9_addFlag_151 : decode cX9_addFlag 151 = .ok (.getfield 140, 3) := by decide +kernel
theorem dX9_addFlag_154 : decode cX9_addFlag 154 = .ok (.iconst 1, 1) := by decide +kernel
theorem dX9_addFlag_155 : decode cX9_addFlag 155 = .ok (.iadd, 1) := by decide +kernel
theorem dX9_addFlag_156 : decode cX9_addFlag 156 = .ok (.putfield 140, 3) := by decide +kernel
theorem dX9_addFlag_159 : decode cX9_addFlag 159 = .ok (.return_, 1) := by decide +kernel
set_option maxRecDepth 20000 in
theorem ggX9_isOnLine_X9_of : GoodIn wsX9_isOnLine wsX9_of := goodIn_r _ [11, 12, 13, 14, 15, 16, 17, 18, 19, 20, 21, 22, 23, 24, 25, 26, 27, 28, 29, 30, 31, 32, 33, 34, 35, 36, 37, 38] (by decide +kernel) (by decide +kernel)
set_option maxRecDepth 20000 in
theorem gX9_isOnLine_X9_of : GoodIn wsX9_isOnLine (wsV RX9 85 RX9 yX9_of wsX9_of) := goodIn_app (goodIn_of _ (by decide +kernel)) ggX9_isOnLine_X9_of
theorem dX9_isOnLine_0 : decode cX9_isOnLine 0 = .ok (.aload_n 0, 1) := by decide +kernel
theorem dX9_isOnLine_1 : decode cX9_isOnLine 1 = .ok (.aload_n 0, 1) := by decide +kernel
theorem dX9_isOnLine_2 : decode cX9_isOnLine 2 = .ok (.getfield 35, 3) := by decide +kernel
theorem dX9_isOnLine_5 : decode cX9_isOnLine 5 = .ok (.iload_n 2, 1) := by decide +kernel
theorem dX9_isOnLine_6 : decode cX9_isOnLine 6 = .ok (.iaload, 1) := by decide +kernel
theorem dX9_isOnLine_7 : decode cX9_isOnLine 7 = .ok (.aload_n 0, 1) := by decide +kernel
theorem dX9_isOnLine_8 : decode cX9_isOnLine 8 = .ok (.getfield 20, 3) := by decide +kernel
theorem dX9_isOnLine_11 : decode cX9_isOnLine 11 = .ok (.iload_n 1, 1) := by decide +kernel
theorem dX9_isOnLine_12 : decode cX9_isOnLine 12 = .ok (.iaload, 1) := by decide +kernel
theorem dX9_isOnLine_13 : decode cX9_isOnLine 13 = .ok (.imul, 1) := by decide +kernel
theorem dX9_isOnLine_14 : decode cX9_isOnLine 14 = .ok (.aload_n 0, 1) := by decide +kernel
theorem dX9_isOnLine_15 : decode cX9_isOnLine 15 = .ok (.getfield 38, 3) := by decide +kernel
theorem dX9_isOnLine_18 : decode cX9_isOnLine 18 = .ok (.iload_n 2, 1) := by decide +kernel
theorem dX9_isOnLine_19 : decode cX9_isOnLine 19 = .ok (.iaload, 1) := by decide +kernel
theorem dX9_isOnLine_20 : decode cX9_isOnLine 20 = .ok (.aload_n 0, 1) := by decide +kernel
theorem dX9_isOnLine_21 : decode cX9_isOnLine 21 = .ok (.getfield 23, 3) := by decide +kernel
theorem dX9_isOnLine_24 : decode cX9_isOnLine 24 = .ok (.iload_n 1, 1) := by decide +kernel
theorem dX9_isOnLine_25 : decode cX9_isOnLine 25 = .ok (.iaload, 1) := by decide +kernel
theorem dX9_isOnLine_26 : decode cX9_isOnLine 26 = .ok (.imul, 1) := by decide +kernel
theorem dX9_isOnLine_27 : decode cX9_isOnLine 27 = .ok (.iadd, 1) := by decide +kernel
theorem dX9_isOnLine_28 : decode cX9_isOnLine 28 = .ok (.aload_n 0, 1) := by decide +kernel
theorem dX9_isOnLine_29 : decode cX9_isOnLine 29 = .ok (.getfield 41, 3) := by decide +kernel
theorem dX9_isOnLine_32 : decode cX9_isOnLine 32 = .ok (.iload_n 2, 1) := by decide +kernel
theorem dX9_isOnLine_33 : decode cX9_isOnLine 33 = .ok (.iaload, 1) := by decide +kernel
theorem dX9_isOnLine_34 : decode cX9_isOnLine 34 = .ok (.aload_n 0, 1) := by decide +kernel
theorem dX9_isOnLine_35 : decode cX9_isOnLine 35 = .ok (.getfield 26, 3) := by decide +kernel
theorem dX9_isOnLine_38 : decode cX9_isOnLine 38 = .ok (.iload_n 1, 1) := by decide +kernel
theorem dX9_isOnLine_39 : decode cX9_isOnLine 39 = .ok (.iaload, 1) := by decide +kernel
theorem dX9_isOnLine_40 : decode cX9_isOnLine 40 = .ok (.imul, 1) := by decide +kernel
theorem dX9_isOnLine_41 : decode cX9_isOnLine 41 = .ok (.iadd, 1) := by decide +kernel
theorem dX9_isOnLine_42 : decode cX9_isOnLine 42 = .ok (.invokevirtual 85, 3) := by decide +kernel
theorem dX9_isOnLine_45 : decode cX9_isOnLine 45 = .ok (.ifCond .ne 7, 3) := by decide +kernel
theorem dX9_isOnLine_48 : decode cX9_isOnLine 48 = .ok (.iconst 1, 1) := by decide +kernel
theorem dX9_isOnLine_49 : decode cX9_isOnLine 49 = .ok (.goto 4, 3) := by decide +kernel
theorem dX9_isOnLine_52 : decode cX9_isOnLine 52 = .ok (.iconst 0, 1) := by decide +kernel
theorem dX9_isOnLine_53 : decode cX9_isOnLine 53 = .ok (.ireturn, 1) := by decide +kernel
set_option maxRecDepth 20000 in
theorem ggX9_stepOf_X9_isOnLine : GoodIn wsX9_stepOf wsX9_isOnLine := goodIn_r _ [11, 4, 12, 5, 13, 6, 14, 15, 16, 17, 10, 18, 19, 20, 21, 22, 23, 24, 25, 26, 27, 28, 29, 30, 31, 32, 33, 34, 35, 36, 37, 38, 39, 40, 41, 42, 43, 44, 45] (by decide +kernel) (by decide +kernel)
set_option maxRecDepth 20000 in
theorem gX9_stepOf_X9_isOnLine : GoodIn wsX9_stepOf (wsV RX9 150 RX9 yX9_isOnLine wsX9_isOnLine) := goodIn_app (goodIn_of _ (by decide +kernel)) ggX9_stepOf_X9_isOnLine
theorem dX9_stepOf_0 : decode cX9_stepOf 0 = .ok (.aload_n 0, 1) := by decide +kernel
theorem dX9_stepOf_1 : decode cX9_stepOf 1 = .ok (.getfield 32, 3) := by decide +kernel
theorem dX9_stepOf_4 : decode cX9_stepOf 4 = .ok (.iload_n 1, 1) := by decide +kernel
theorem dX9_stepOf_5 : decode cX9_stepOf 5 = .ok (.iaload, 1) := by decide +kernel
theorem dX9_stepOf_6 : decode cX9_stepOf 6 = .ok (.istore_n 2, 1) := by decide +kernel
theorem dX9_stepOf_7 : decode cX9_stepOf 7 = .ok (.iconst 0, 1) := by decide +kernel
theorem dX9_stepOf_8 : decode cX9_stepOf 8 = .ok (.istore_n 3, 1) := by decide +kernel
theorem dX9_stepOf_9 : decode cX9_stepOf 9 = .ok (.iload_n 3, 1) := by decide +kernel
theorem dX9_stepOf_10 : decode cX9_stepOf 10 = .ok (.aload_n 0, 1) := by decide +kernel
theorem dX9_stepOf_11 : decode cX9_stepOf 11 = .ok (.getfield 137, 3) := by decide +kernel
theorem dX9_stepOf_14 : decode cX9_stepOf 14 = .ok (.if_icmp .ge 34, 3) := by decide +kernel
theorem dX9_stepOf_17 : decode cX9_stepOf 17 = .ok (.iload_n 3, 1) := by decide +kernel
theorem dX9_stepOf_18 : decode cX9_stepOf 18 = .ok (.aload_n 0, 1) := by decide +kernel
theorem dX9_stepOf_19 : decode cX9_stepOf 19 = .ok (.getfield 32, 3) := by decide +kernel
theorem dX9_stepOf_22 : decode cX9_stepOf 22 = .ok (.iload_n 1, 1) := by decide +kernel
theorem dX9_stepOf_23 : decode cX9_stepOf 23 = .ok (.iaload, 1) := by decide +kernel
theorem dX9_stepOf_24 : decode cX9_stepOf 24 = .ok (.if_icmp .eq 16, 3) := by decide +kernel
theorem dX9_stepOf_27 : decode cX9_stepOf 27 = .ok (.aload_n 0, 1) := by decide +kernel
theorem dX9_stepOf_28 : decode cX9_stepOf 28 = .ok (.iload_n 3, 1) := by decide +kernel
theorem dX9_stepOf_29 : decode cX9_stepOf 29 = .ok (.iload_n 1, 1) := by decide +kernel
theorem dX9_stepOf_30 : decode cX9_stepOf 30 = .ok (.invokevirtual 150, 3) := by decide +kernel
theorem dX9_stepOf_33 : decode cX9_stepOf 33 = .ok (.ifCond .eq 7, 3) := by decide +kernel
theorem dX9_stepOf_36 : decode cX9_stepOf 36 = .ok (.iload_n 3, 1) := by decide +kernel
theorem dX9_stepOf_37 : decode cX9_stepOf 37 = .ok (.goto 4, 3) := by decide +kernel
theorem dX9_stepOf_40 : decode cX9_stepOf 40 = .ok (.iload_n 2, 1) := by decide +kernel
theorem dX9_stepOf_41 : decode cX9_stepOf 41 = .ok (.istore_n 2, 1) := by decide +kernel
theorem dX9_stepOf_42 : decode cX9_stepOf 42 = .ok (.iinc 3 1, 3) := by decide +kernel
theorem dX9_stepOf_45 : decode cX9_stepOf 45 = .ok (.goto (-36), 3) := by decide +kernel
theorem dX9_stepOf_48 : decode cX9_stepOf 48 = .ok (.bipush (-6), 2) := by decide +kernel
theorem dX9_stepOf_50 : decode cX9_stepOf 50 = .ok (.istore_n 3, 1) := by decide +kernel
theorem dX9_stepOf_51 : decode cX9_stepOf 51 = .ok (.bipush (-6), 2) := by decide +kernel
theorem dX9_stepOf_53 : decode cX9_stepOf 53 = .ok (.istore 4, 2) := by decide +kernel
theorem dX9_stepOf_55 : decode cX9_stepOf 55 = .ok (.iconst 0, 1) := by decide +kernel
theorem dX9_stepOf_56 : decode cX9_stepOf 56 = .ok (.istore 5, 2) := by decide +kernel
theorem dX9_stepOf_58 : decode cX9_stepOf 58 = .ok (.iload 5, 2) := by decide +kernel
theorem dX9_stepOf_60 : decode cX9_stepOf 60 = .ok (.aload_n 0, 1) := by decide +kernel
theorem dX9_stepOf_61 : decode cX9_stepOf 61 = .ok (.getfield 140, 3) := by decide +kernel
theorem dX9_stepOf_64 : decode cX9_stepOf 64 = .ok (.if_icmp .ge 101, 3) := by decide +kernel
theorem dX9_stepOf_67 : decode cX9_stepOf 67 = .ok (.aload_n 0, 1) := by decide +kernel
theorem dX9_stepOf_68 : decode cX9_stepOf 68 = .ok (.getfield 32, 3) := by decide +kernel
theorem dX9_stepOf_71 : decode cX9_stepOf 71 = .ok (.iload 5, 2) := by decide +kernel
theorem dX9_stepOf_73 : decode cX9_stepOf 73 = .ok (.iaload, 1) := by decide +kernel
theorem dX9_stepOf_74 : decode cX9_stepOf 74 = .ok (.iload_n 2, 1) := by decide +kernel
theorem dX9_stepOf_75 : decode cX9_stepOf 75 = .ok (.if_icmp .ne 84, 3) := by decide +kernel
theorem dX9_stepOf_78 : decode cX9_stepOf 78 = .ok (.aload_n 0, 1) := by decide +kernel
theorem dX9_stepOf_79 : decode cX9_stepOf 79 = .ok (.getfield 35, 3) := by decide +kernel
theorem dX9_stepOf_82 : decode cX9_stepOf 82 = .ok (.iload 5, 2) := by decide +kernel
theorem dX9_stepOf_84 : decode cX9_stepOf 84 = .ok (.iaload, 1) := by decide +kernel
theorem dX9_stepOf_85 : decode cX9_stepOf 85 = .ok (.aload_n 0, 1) := by decide +kernel
theorem dX9_stepOf_86 : decode cX9_stepOf 86 = .ok (.getfield 35, 3) := by decide +kernel
theorem dX9_stepOf_89 : decode cX9_stepOf 89 = .ok (.iload_n 1, 1) := by decide +kernel
theorem dX9_stepOf_90 : decode cX9_stepOf 90 = .ok (.iaload, 1) := by decide +kernel
theorem dX9_stepOf_91 : decode cX9_stepOf 91 = .ok (.if_icmp .ne 39, 3) := by decide +kernel
theorem dX9_stepOf_94 : decode cX9_stepOf 94 = .ok (.aload_n 0, 1) := by decide +kernel
theorem dX9_stepOf_95 : decode cX9_stepOf 95 = .ok (.getfield 38, 3) := by decide +kernel
theorem dX9_stepOf_98 : decode cX9_stepOf 98 = .ok (.iload 5, 2) := by decide +kernel
theorem dX9_stepOf_100 : decode cX9_stepOf 100 = .ok (.iaload, 1) := by decide +kernel
theorem dX9_stepOf_101 : decode cX9_stepOf 101 = .ok (.aload_n 0, 1) := by decide +kernel
theorem dX9_stepOf_102 : decode cX9_stepOf 102 = .ok (.getfield 38, 3) := by decide +kernel
theorem dX9_stepOf_105 : decode cX9_stepOf 105 = .ok (.iload_n 1, 1) := by decide +kernel
theorem dX9_stepOf_106 : decode cX9_stepOf 106 = .ok (.iaload, 1) := by decide +kernel
theorem dX9_stepOf_107 : decode cX9_stepOf 107 = .ok (.if_icmp .ne 23, 3) := by decide +kernel
theorem dX9_stepOf_110 : decode cX9_stepOf 110 = .ok (.aload_n 0, 1) := by decide +kernel
theorem dX9_stepOf_111 : decode cX9_stepOf 111 = .ok (.getfield 41, 3) := by decide +kernel
theorem dX9_stepOf_114 : decode cX9_stepOf 114 = .ok (.iload 5, 2) := by decide +kernel
theorem dX9_stepOf_116 : decode cX9_stepOf 116 = .ok (.iaload, 1) := by decide +kernel
theorem dX9_stepOf_117 : decode cX9_stepOf 117 = .ok (.aload_n 0, 1) := by decide +kernel
theorem dX9_stepOf_118 : decode cX9_stepOf 118 = .ok (.getfield 41, 3) := by decide +kernel
theorem dX9_stepOf_121 : decode cX9_stepOf 121 = .ok (.iload_n 1, 1) := by decide +kernel
theorem dX9_stepOf_122 : decode cX9_stepOf 122 = .ok (.iaload, 1) := by decide +kernel
theorem dX9_stepOf_123 : decode cX9_stepOf 123 = .ok (.if_icmp .ne 7, 3) := by decide +kernel
theorem dX9_stepOf_126 : decode cX9_stepOf 126 = .ok (.iconst 1, 1) := by decide +kernel
theorem dX9_stepOf_127 : decode cX9_stepOf 127 = .ok (.goto 4, 3) := by decide +kernel
theorem dX9_stepOf_130 : decode cX9_stepOf 130 = .ok (.iconst 0, 1) := by decide +kernel
theorem dX9_stepOf_131 : decode cX9_stepOf 131 = .ok (.istore 6, 2) := by decide +kernel
theorem dX9_stepOf_133 : decode cX9_stepOf 133 = .ok (.iload 6, 2) := by decide +kernel
theorem dX9_stepOf_135 : decode cX9_stepOf 135 = .ok (.ifCond .eq 8, 3) := by decide +kernel
theorem dX9_stepOf_138 : decode cX9_stepOf 138 = .ok (.iload 5, 2) := by decide +kernel
theorem dX9_stepOf_140 : decode cX9_stepOf 140 = .ok (.goto 4, 3) := by decide +kernel
theorem dX9_stepOf_143 : decode cX9_stepOf 143 = .ok (.iload_n 3, 1) := by decide +kernel
theorem dX9_stepOf_144 : decode cX9_stepOf 144 = .ok (.istore_n 3, 1) := by decide +kernel
theorem dX9_stepOf_145 : decode cX9_stepOf 145 = .ok (.iload 6, 2) := by decide +kernel
theorem dX9_stepOf_147 : decode cX9_stepOf 147 = .ok (.ifCond .eq 8, 3) := by decide +kernel
theorem dX9_stepOf_150 : decode cX9_stepOf 150 = .ok (.iload 4, 2) := by decide +kernel
theorem dX9_stepOf_152 : decode cX9_stepOf 152 = .ok (.goto 5, 3) := by decide +kernel
theorem dX9_stepOf_155 : decode cX9_stepOf 155 = .ok (.iload 5, 2) := by decide +kernel
theorem dX9_stepOf_157 : decode cX9_stepOf 157 = .ok (.istore 4, 2) := by decide +kernel
theorem dX9_stepOf_159 : decode cX9_stepOf 159 = .ok (.iinc 5 1, 3) := by decide +kernel
theorem dX9_stepOf_162 : decode cX9_stepOf 162 = .ok (.goto (-104), 3) := by decide +kernel
theorem dX9_stepOf_165 : decode cX9_stepOf 165 = .ok (.iload 4, 2) := by decide +kernel
theorem dX9_stepOf_167 : decode cX9_stepOf 167 = .ok (.ifCond .ge 7, 3) := by decide +kernel
theorem dX9_stepOf_170 : decode cX9_stepOf 170 = .ok (.iload_n 3, 1) := by decide +kernel
theorem dX9_stepOf_171 : decode cX9_stepOf 171 = .ok (.goto 5, 3) := by decide +kernel
theorem dX9_stepOf_174 : decode cX9_stepOf 174 = .ok (.iload 4, 2) := by decide +kernel
theorem dX9_stepOf_176 : decode cX9_stepOf 176 = .ok (.ireturn, 1) := by decide +kernel
set_option maxRecDepth 20000 in
theorem ggX9_laySeries_X9_by : GoodIn wsX9_laySeries wsX9_by := goodIn_r _ [7, 8, 9, 10, 11, 6, 12, 17, 18, 19, 20, 21, 22, 23, 24, 25, 26, 27, 28, 29, 30, 31, 32, 33, 34, 35, 36, 37, 38, 39, 40, 41, 42] (by decide +kernel) (by decide +kernel)
set_option maxRecDepth 20000 in
theorem gX9_laySeries_X9_by : GoodIn wsX9_laySeries (wsV RX9 78 RX9 yX9_by wsX9_by) := goodIn_app (goodIn_of _ (by decide +kernel)) ggX9_laySeries_X9_by
set_option maxRecDepth 20000 in
theorem ggX9_laySeries_X9_of : GoodIn wsX9_laySeries wsX9_of := goodIn_r _ [16, 8, 17, 18, 19, 20, 21, 22, 23, 24, 25, 26, 27, 28, 29, 30, 31, 32, 33, 34, 35, 36, 37, 38, 39, 40, 41, 42] (by decide +kernel) (by decide +kernel)
set_option maxRecDepth 20000 in
theorem gX9_laySeries_X9_of : GoodIn wsX9_laySeries (wsV RX9 85 RX9 yX9_of wsX9_of) := goodIn_app (goodIn_of _ (by decide +kernel)) ggX9_laySeries_X9_of
theorem dX9_laySeries_0 : decode cX9_laySeries 0 = .ok (.iconst 0, 1) := by decide +kernel
theorem dX9_laySeries_1 : decode cX9_laySeries 1 = .ok (.istore_n 1, 1) := by decide +kernel
theorem dX9_laySeries_2 : decode cX9_laySeries 2 = .ok (.iload_n 1, 1) := by decide +kernel
theorem dX9_laySeries_3 : decode cX9_laySeries 3 = .ok (.bipush 32, 2) := by decide +kernel
theorem dX9_laySeries_5 : decode cX9_laySeries 5 = .ok (.if_icmp .ge 90, 3) := by decide +kernel
theorem dX9_laySeries_8 : decode cX9_laySeries 8 = .ok (.iload_n 1, 1) := by decide +kernel
theorem dX9_laySeries_9 : decode cX9_laySeries 9 = .ok (.iconst 4, 1) := by decide +kernel
theorem dX9_laySeries_10 : decode cX9_laySeries 10 = .ok (.if_icmp .ge 22, 3) := by decide +kernel
theorem dX9_laySeries_13 : decode cX9_laySeries 13 = .ok (.aload_n 0, 1) := by decide +kernel
theorem dX9_laySeries_14 : decode cX9_laySeries 14 = .ok (.aload_n 0, 1) := by decide +kernel
theorem dX9_laySeries_15 : decode cX9_laySeries 15 = .ok (.getfield 17, 3) := by decide +kernel
theorem dX9_laySeries_18 : decode cX9_laySeries 18 = .ok (.iload_n 1, 1) := by decide +kernel
theorem dX9_laySeries_19 : decode cX9_laySeries 19 = .ok (.iaload, 1) := by decide +kernel
theorem dX9_laySeries_20 : decode cX9_laySeries 20 = .ok (.aload_n 0, 1) := by decide +kernel
theorem dX9_laySeries_21 : decode cX9_laySeries 21 = .ok (.getfield 17, 3) := by decide +kernel
theorem dX9_laySeries_24 : decode cX9_laySeries 24 = .ok (.iconst 0, 1) := by decide +kernel
theorem dX9_laySeries_25 : decode cX9_laySeries 25 = .ok (.iaload, 1) := by decide +kernel
theorem dX9_laySeries_26 : decode cX9_laySeries 26 = .ok (.invokevirtual 78, 3) := by decide +kernel
theorem dX9_laySeries_29 : decode cX9_laySeries 29 = .ok (.goto 4, 3) := by decide +kernel
theorem dX9_laySeries_32 : decode cX9_laySeries 32 = .ok (.iconst 0, 1) := by decide +kernel
theorem dX9_laySeries_33 : decode cX9_laySeries 33 = .ok (.istore_n 2, 1) := by decide +kernel
theorem dX9_laySeries_34 : decode cX9_laySeries 34 = .ok (.iconst 1, 1) := by decide +kernel
theorem dX9_laySeries_35 : decode cX9_laySeries 35 = .ok (.istore_n 3, 1) := by decide +kernel
theorem dX9_laySeries_36 : decode cX9_laySeries 36 = .ok (.iload_n 3, 1) := by decide +kernel
theorem dX9_laySeries_37 : decode cX9_laySeries 37 = .ok (.iload_n 1, 1) := by decide +kernel
theorem dX9_laySeries_38 : decode cX9_laySeries 38 = .ok (.if_icmp .ge 31, 3) := by decide +kernel
theorem dX9_laySeries_41 : decode cX9_laySeries 41 = .ok (.aload_n 0, 1) := by decide +kernel
theorem dX9_laySeries_42 : decode cX9_laySeries 42 = .ok (.iload_n 2, 1) := by decide +kernel
theorem dX9_laySeries_43 : decode cX9_laySeries 43 = .ok (.aload_n 0, 1) := by decide +kernel
theorem dX9_laySeries_44 : decode cX9_laySeries 44 = .ok (.getfield 47, 3) := by decide +kernel
theorem dX9_laySeries_47 : decode cX9_laySeries 47 = .ok (.iload_n 3, 1) := by decide +kernel
theorem dX9_laySeries_48 : decode cX9_laySeries 48 = .ok (.iaload, 1) := by decide +kernel
theorem dX9_laySeries_49 : decode cX9_laySeries 49 = .ok (.aload_n 0, 1) := by decide +kernel
theorem dX9_laySeries_50 : decode cX9_laySeries 50 = .ok (.getfield 47, 3) := by decide +kernel
theorem dX9_laySeries_53 : decode cX9_laySeries 53 = .ok (.iload_n 1, 1) := by decide +kernel
theorem dX9_laySeries_54 : decode cX9_laySeries 54 = .ok (.iload_n 3, 1) := by decide +kernel
theorem dX9_laySeries_55 : decode cX9_laySeries 55 = .ok (.isub, 1) := by decide +kernel
theorem dX9_laySeries_56 : decode cX9_laySeries 56 = .ok (.iaload, 1) := by decide +kernel
theorem dX9_laySeries_57 : decode cX9_laySeries 57 = .ok (.imul, 1) := by decide +kernel
theorem dX9_laySeries_58 : decode cX9_laySeries 58 = .ok (.isub, 1) := by decide +kernel
theorem dX9_laySeries_59 : decode cX9_laySeries 59 = .ok (.invokevirtual 85, 3) := by decide +kernel
theorem dX9_laySeries_62 : decode cX9_laySeries 62 = .ok (.istore_n 2, 1) := by decide +kernel
theorem dX9_laySeries_63 : decode cX9_laySeries 63 = .ok (.iinc 3 1, 3) := by decide +kernel
theorem dX9_laySeries_66 : decode cX9_laySeries 66 = .ok (.goto (-30), 3) := by decide +kernel
theorem dX9_laySeries_69 : decode cX9_laySeries 69 = .ok (.aload_n 0, 1) := by decide +kernel
theorem dX9_laySeries_70 : decode cX9_laySeries 70 = .ok (.getfield 47, 3) := by decide +kernel
theorem dX9_laySeries_73 : decode cX9_laySeries 73 = .ok (.iload_n 1, 1) := by decide +kernel
theorem dX9_laySeries_74 : decode cX9_laySeries 74 = .ok (.iload_n 1, 1) := by decide +kernel
theorem dX9_laySeries_75 : decode cX9_laySeries 75 = .ok (.ifCond .ne 7, 3) := by decide +kernel
theorem dX9_laySeries_78 : decode cX9_laySeries 78 = .ok (.iconst 1, 1) := by decide +kernel
theorem dX9_laySeries_79 : decode cX9_laySeries 79 = .ok (.goto 9, 3) := by decide +kernel
theorem dX9_laySeries_82 : decode cX9_laySeries 82 = .ok (.aload_n 0, 1) := by decide +kernel
theorem dX9_laySeries_83 : decode cX9_laySeries 83 = .ok (.iload_n 2, 1) := by decide +kernel
theorem dX9_laySeries_84 : decode cX9_laySeries 84 = .ok (.iconst 2, 1) := by decide +kernel
theorem dX9_laySeries_85 : decode cX9_laySeries 85 = .ok (.invokevirtual 78, 3) := by decide +kernel
theorem dX9_laySeries_88 : decode cX9_laySeries 88 = .ok (.iastore, 1) := by decide +kernel
theorem dX9_laySeries_89 : decode cX9_laySeries 89 = .ok (.iinc 1 1, 3) := by decide +kernel
theorem dX9_laySeries_92 : decode cX9_laySeries 92 = .ok (.goto (-90), 3) := by decide +kernel
theorem dX9_laySeries_95 : decode cX9_laySeries 95 = .ok (.return_, 1) := by decide +kernel
set_option maxRecDepth 20000 in
theorem ggX9_lay_X9_layCubic : GoodIn wsX9_lay wsX9_layCubic := goodIn_r _ [10, 11, 2, 12, 13, 14, 15, 9, 16, 17, 18, 19, 20, 21, 22, 23, 24, 25, 26, 27, 28, 29, 30, 31, 32, 33, 87, 88, 89, 90, 91, 92, 93, 94, 95, 96, 97, 98, 99, 100, 101, 102, 103, 104, 105, 106, 107, 108, 109, 110, 111, 112] (by decide +kernel) (by decide +kernel)
set_option maxRecDepth 20000 in
theorem gX9_lay_X9_layCubic : GoodIn wsX9_lay (wsV RX9 96 RX9 yX9_layCubic wsX9_layCubic) := goodIn_app (goodIn_of _ (by decide +kernel)) ggX9_lay_X9_layCubic
set_option maxRecDepth 20000 in
theorem ggX9_lay_X9_discriminant : GoodIn wsX9_lay wsX9_discriminant := goodIn_r _ [37, 2, 12, 18, 19, 20, 9, 21, 87, 88, 89, 90, 91, 92, 93, 94, 95, 96, 97, 98, 99, 100, 101, 102, 103, 104, 105, 106, 107, 108, 109, 110, 111, 112] (by decide +kernel) (by decide +kernel)
set_option maxRecDepth 20000 in
theorem gX9_lay_X9_discriminant : GoodIn wsX9_lay (wsV RX9 99 RX9 yX9_discriminant wsX9_discriminant) := goodIn_app (goodIn_of _ (by decide +kernel)) ggX9_lay_X9_discriminant
set_option maxRecDepth 20000 in
theorem ggX9_lay_X9_layPoints : GoodIn wsX9_lay wsX9_layPoints := goodIn_r _ [41, 42, 12, 11, 43, 44, 45, 46, 47, 48, 9, 49, 18, 19, 20, 21, 87, 88, 89, 90, 91, 92, 93, 94, 95, 96, 97, 98, 99, 100, 101, 102, 103, 104, 105, 106, 107, 108, 109, 110, 111, 112] (by decide +kernel) (by decide +kernel)
set_option maxRecDepth 20000 in
theorem gX9_lay_X9_layPoints : GoodIn wsX9_lay (wsV RX9 154 RX9 yX9_layPoints wsX9_layPoints) := goodIn_app (goodIn_of _ (by decide +kernel)) ggX9_lay_X9_layPoints
set_option maxRecDepth 20000 in
theorem ggX9_lay_X9_layFlags : GoodIn wsX9_lay wsX9_layFlags := goodIn_r _ [53, 11, 4, 42, 43, 44, 45, 12, 17, 54, 55, 56, 57, 13, 14, 15, 9, 16, 18, 19, 20, 21, 58, 59, 60, 61, 26, 27, 28, 29, 30, 31, 32, 33, 46, 47, 48, 49, 62, 63, 64, 65, 66, 67, 68, 69, 70, 71, 72, 73, 87, 88, 89, 90, 91, 92, 93, 94, 95, 96, 97, 98, 99, 100, 101, 102, 103, 104, 105, 106, 107, 108, 109, 110, 111, 112] (by decide +kernel) (by decide +kernel)
set_option maxRecDepth 20000 in
theorem gX9_lay_X9_layFlags : GoodIn wsX9_lay (wsV RX9 157 RX9 yX9_layFlags wsX9_layFlags) := goodIn_app (goodIn_of _ (by decide +kernel)) ggX9_lay_X9_layFlags
set_option maxRecDepth 20000 in
theorem ggX9_lay_X9_stepOf : GoodIn wsX9_lay wsX9_stepOf := goodIn_r _ [77, 69, 42, 4, 66, 67, 68, 78, 79, 80, 9, 81, 43, 44, 45, 18, 19, 20, 21, 12, 87, 88, 89, 90, 91, 92, 93, 94, 95, 96, 97, 98, 99, 100, 101, 102, 103, 104, 105, 106, 107, 108, 109, 110, 111, 112] (by decide +kernel) (by decide +kernel)
set_option maxRecDepth 20000 in
theorem gX9_lay_X9_stepOf : GoodIn wsX9_lay (wsV RX9 160 RX9 yX9_stepOf wsX9_stepOf) := goodIn_app (goodIn_of _ (by decide +kernel)) ggX9_lay_X9_stepOf
set_option maxRecDepth 20000 in
theorem ggX9_lay_X9_laySeries : GoodIn wsX9_lay wsX9_laySeries := goodIn_r _ [85, 2, 86, 26, 27, 28, 9, 29, 12, 30, 31, 32, 33, 18, 19, 20, 21, 87, 88, 89, 90, 91, 92, 93, 94, 95, 96, 97, 98, 99, 100, 101, 102, 103, 104, 105, 106, 107, 108, 109, 110, 111, 112] (by decide +kernel) (by decide +kernel)
set_option maxRecDepth 20000 in
theorem gX9_lay_X9_laySeries : GoodIn wsX9_lay (wsV RX9 163 RX9 yX9_laySeries wsX9_laySeries) := goodIn_app (goodIn_of _ (by decide +kernel)) ggX9_lay_X9_laySeries
theorem dX9_lay_0 : decode cX9_lay 0 = .ok (.aload_n 0, 1) := by decide +kernel
theorem dX9_lay_1 : decode cX9_lay 1 = .ok (.getfield 66, 3) := by decide +kernel
theorem dX9_lay_4 : decode cX9_lay 4 = .ok (.ifCond .eq 4, 3) := by decide +kernel
theorem dX9_lay_7 : decode cX9_lay 7 = .ok (.return_, 1) := by decide +kernel
theorem dX9_lay_8 : decode cX9_lay 8 = .ok (.aload_n 0, 1) := by decide +kernel
theorem dX9_lay_9 : decode cX9_lay 9 = .ok (.iconst 1, 1) := by decide +kernel
theorem dX9_lay_10 : decode cX9_lay 10 = .ok (.putfield 66, 3) := by decide +kernel
theorem dX9_lay_13 : decode cX9_lay 13 = .ok (.aload_n 0, 1) := by decide +kernel
theorem dX9_lay_14 : decode cX9_lay 14 = .ok (.invokevirtual 96, 3) := by decide +kernel
theorem dX9_lay_17 : decode cX9_lay 17 = .ok (.aload_n 0, 1) := by decide +kernel
theorem dX9_lay_18 : decode cX9_lay 18 = .ok (.aload_n 0, 1) := by decide +kernel
theorem dX9_lay_19 : decode cX9_lay 19 = .ok (.getfield 17, 3) := by decide +kernel
theorem dX9_lay_22 : decode cX9_lay 22 = .ok (.iconst 0, 1) := by decide +kernel
theorem dX9_lay_23 : decode cX9_lay 23 = .ok (.iaload, 1) := by decide +kernel
theorem dX9_lay_24 : decode cX9_lay 24 = .ok (.ifCond .eq 23, 3) := by decide +kernel
theorem dX9_lay_27 : decode cX9_lay 27 = .ok (.aload_n 0, 1) := by decide +kernel
theorem dX9_lay_28 : decode cX9_lay 28 = .ok (.getfield 17, 3) := by decide +kernel
theorem dX9_lay_31 : decode cX9_lay 31 = .ok (.iconst 3, 1) := by decide +kernel
theorem dX9_lay_32 : decode cX9_lay 32 = .ok (.iaload, 1) := by decide +kernel
theorem dX9_lay_33 : decode cX9_lay 33 = .ok (.ifCond .eq 14, 3) := by decide +kernel
theorem dX9_lay_36 : decode cX9_lay 36 = .ok (.aload_n 0, 1) := by decide +kernel
theorem dX9_lay_37 : decode cX9_lay 37 = .ok (.invokevirtual 99, 3) := by decide +kernel
theorem dX9_lay_40 : decode cX9_lay 40 = .ok (.ifCond .eq 7, 3) := by decide +kernel
theorem dX9_lay_43 : decode cX9_lay 43 = .ok (.iconst 1, 1) := by decide +kernel
theorem dX9_lay_44 : decode cX9_lay 44 = .ok (.goto 4, 3) := by decide +kernel
theorem dX9_lay_47 : decode cX9_lay 47 = .ok (.iconst 0, 1) := by decide +kernel
theorem dX9_lay_48 : decode cX9_lay 48 = .ok (.putfield 106, 3) := by decide +kernel
theorem dX9_lay_51 : decode cX9_lay 51 = .ok (.aload_n 0, 1) := by decide +kernel
theorem dX9_lay_52 : decode cX9_lay 52 = .ok (.getfield 106, 3) := by decide +kernel
theorem dX9_lay_55 : decode cX9_lay 55 = .ok (.ifCond .ne 4, 3) := by decide +kernel
theorem dX9_lay_58 : decode cX9_lay 58 = .ok (.return_, 1) := by decide +kernel
theorem dX9_lay_59 : decode cX9_lay 59 = .ok (.aload_n 0, 1) := by decide +kernel
theorem dX9_lay_60 : decode cX9_lay 60 = .ok (.invokevirtual 154, 3) := by decide +kernel
theorem dX9_lay_63 : decode cX9_lay 63 = .ok (.aload_n 0, 1) := by decide +kernel
theorem dX9_lay_64 : decode cX9_lay 64 = .ok (.invokevirtual 157, 3) := by decide +kernel
theorem dX9_lay_67 : decode cX9_lay 67 = .ok (.iconst 0, 1) := by decide +kernel
theorem dX9_lay_68 : decode cX9_lay 68 = .ok (.istore_n 1, 1) := by decide +kernel
theorem dX9_lay_69 : decode cX9_lay 69 = .ok (.iload_n 1, 1) := by decide +kernel
theorem dX9_lay_70 : decode cX9_lay 70 = .ok (.aload_n 0, 1) := by decide +kernel
theorem dX9_lay_71 : decode cX9_lay 71 = .ok (.getfield 140, 3) := by decide +kernel
theorem dX9_lay_74 : decode cX9_lay 74 = .ok (.if_icmp .ge 20, 3) := by decide +kernel
theorem dX9_lay_77 : decode cX9_lay 77 = .ok (.aload_n 0, 1) := by decide +kernel
theorem dX9_lay_78 : decode cX9_lay 78 = .ok (.getfield 44, 3) := by decide +kernel
theorem dX9_lay_81 : decode cX9_lay 81 = .ok (.iload_n 1, 1) := by decide +kernel
theorem dX9_lay_82 : decode cX9_lay 82 = .ok (.aload_n 0, 1) := by decide +kernel
theorem dX9_lay_83 : decode cX9_lay 83 = .ok (.iload_n 1, 1) := by decide +kernel
theorem dX9_lay_84 : decode cX9_lay 84 = .ok (.invokevirtual 160, 3) := by decide +kernel
theorem dX9_lay_87 : decode cX9_lay 87 = .ok (.iastore, 1) := by decide +kernel
theorem dX9_lay_88 : decode cX9_lay 88 = .ok (.iinc 1 1, 3) := by decide +kernel
theorem dX9_lay_91 : decode cX9_lay 91 = .ok (.goto (-22), 3) := by decide +kernel
theorem dX9_lay_94 : decode cX9_lay 94 = .ok (.aload_n 0, 1) := by decide +kernel
theorem dX9_lay_95 : decode cX9_lay 95 = .ok (.invokevirtual 163, 3) := by decide +kernel
theorem dX9_lay_98 : decode cX9_lay 98 = .ok (.return_, 1) := by decide +kernel
set_option maxRecDepth 20000 in
theorem ggX9_points_X9_isGood : GoodIn wsX9_points wsX9_isGood := goodIn_r _ [6, 7, 8, 9, 10, 5, 11, 12, 13, 14, 15, 16, 17, 18, 19, 20, 21, 22, 23, 24, 25, 26, 27, 28, 29, 30, 31, 32, 33, 34, 35, 36, 37, 38, 39, 40, 41, 42, 43, 44, 45, 46, 47, 48, 49, 50, 1, 51, 52, 53, 54, 55, 56, 57, 58, 59, 60, 61, 62, 63, 64, 65, 66, 67, 68, 69, 70, 71, 72, 73, 74, 75, 76, 77, 78, 79, 80, 81, 82, 83, 84, 85, 86, 87, 88, 89, 90, 91, 92, 93, 94, 95, 96, 97, 98, 99, 100, 101, 102, 103, 104, 105, 106, 107, 108, 109, 110, 111, 112, 113, 114, 115, 116, 117, 118, 119, 120] (by decide +kernel) (by decide +kernel)
set_option maxRecDepth 20000 in
theorem gX9_points_X9_isGood : GoodIn wsX9_points (wsV RX9 109 RX9 yX9_isGood wsX9_isGood) := goodIn_app (goodIn_of _ (by decide +kernel)) ggX9_points_X9_isGood
theorem dX9_points_0 : decode cX9_points 0 = .ok (.aload_n 0, 1) := by decide +kernel
theorem dX9_points_1 : decode cX9_points 1 = .ok (.invokevirtual 109, 3) := by decide +kernel
theorem dX9_points_4 : decode cX9_points 4 = .ok (.ifCond .eq 10, 3) := by decide +kernel
theorem dX9_points_7 : decode cX9_points 7 = .ok (.aload_n 0, 1) := by decide +kernel
theorem dX9_points_8 : decode cX9_points 8 = .ok (.getfield 137, 3) := by decide +kernel
theorem dX9_points_11 : decode cX9_points 11 = .ok (.goto 5, 3) := by decide +kernel
theorem dX9_points_14 : decode cX9_points 14 = .ok (.bipush (-5), 2) := by decide +kernel
theorem dX9_points_16 : decode cX9_points 16 = .ok (.ireturn, 1) := by decide +kernel
set_option maxRecDepth 20000 in
theorem ggX9_point_X9_isGood : GoodIn wsX9_point wsX9_isGood := goodIn_r _ [10, 11, 12, 13, 14, 9, 15, 16, 17, 18, 19, 20, 21, 22, 23, 24, 25, 26, 27, 28, 29, 30, 31, 32, 33, 34, 35, 36, 37, 38, 39, 40, 41, 42, 43, 44, 45, 46, 47, 48, 49, 50, 51, 52, 53, 54, 1, 2, 3, 4, 55, 56, 57, 58, 59, 60, 61, 62, 63, 64, 65, 5, 66, 67, 68, 69, 70, 71, 72, 73, 74, 75, 76, 77, 78, 79, 80, 81, 82, 83, 84, 85, 86, 87, 88, 89, 90, 91, 92, 93, 94, 98, 99, 100, 101, 102, 103, 104, 105, 106, 107, 108, 109, 110, 111, 112, 113, 114, 115, 116, 117, 118, 119, 120, 121, 122, 123] (by decide +kernel) (by decide +kernel)
set_option maxRecDepth 20000 in
theorem gX9_point_X9_isGood : GoodIn wsX9_point (wsV RX9 109 RX9 yX9_isGood wsX9_isGood) := goodIn_app (goodIn_of _ (by decide +kernel)) ggX9_point_X9_isGood
set_option maxRecDepth 20000 in
theorem ggX9_point_X9_in : GoodIn wsX9_point wsX9_in := goodIn_r _ [97] (by decide +kernel) (by decide +kernel)
set_option maxRecDepth 20000 in
theorem gX9_point_X9_in : GoodIn wsX9_point (va_wsS RX9 62 yX9_in wsX9_in) := goodIn_app (goodIn_of _ (by decide +kernel)) ggX9_point_X9_in
theorem dX9_point_0 : decode cX9_point 0 = .ok (.aload_n 0, 1) := by decide +kernel
theorem dX9_point_1 : decode cX9_point 1 = .ok (.invokevirtual 109, 3) := by decide +kernel
theorem dX9_point_4 : decode cX9_point 4 = .ok (.ifCond .ne 6, 3) := by decide +kernel
theorem dX9_point_7 : decode cX9_point 7 = .ok (.bipush (-5), 2) := by decide +kernel
theorem dX9_point_9 : decode cX9_point 9 = .ok (.ireturn, 1) := by decide +kernel
theorem dX9_point_10 : decode cX9_point 10 = .ok (.iload_n 1, 1) := by decide +kernel
theorem dX9_point_11 : decode cX9_point 11 = .ok (.iconst 0, 1) := by decide +kernel
theorem dX9_point_12 : decode cX9_point 12 = .ok (.aload_n 0, 1) := by decide +kernel
theorem dX9_point_13 : decode cX9_point 13 = .ok (.getfield 137, 3) := by decide +kernel
theorem dX9_point_16 : decode cX9_point 16 = .ok (.iconst 1, 1) := by decide +kernel
theorem dX9_point_17 : decode cX9_point 17 = .ok (.isub, 1) := by decide +kernel
theorem dX9_point_18 : decode cX9_point 18 = .ok (.invokestatic 62, 3) := by decide +kernel
theorem dX9_point_21 : decode cX9_point 21 = .ok (.ifCond .ne 5, 3) := by decide +kernel
theorem dX9_point_24 : decode cX9_point 24 = .ok (.iconst (-1), 1) := by decide +kernel
theorem dX9_point_25 : decode cX9_point 25 = .ok (.ireturn, 1) := by decide +kernel
theorem dX9_point_26 : decode cX9_point 26 = .ok (.iload_n 2, 1) := by decide +kernel
theorem dX9_point_27 : decode cX9_point 27 = .ok (.ifCond .ne 12, 3) := by decide +kernel
theorem dX9_point_30 : decode cX9_point 30 = .ok (.aload_n 0, 1) := by decide +kernel
theorem dX9_point_31 : decode cX9_point 31 = .ok (.getfield 20, 3) := by decide +kernel
theorem dX9_point_34 : decode cX9_point 34 = .ok (.iload_n 1, 1) := by decide +kernel
theorem dX9_point_35 : decode cX9_point 35 = .ok (.iaload, 1) := by decide +kernel
theorem dX9_point_36 : decode cX9_point 36 = .ok (.goto 47, 3) := by decide +kernel
theorem dX9_point_39 : decode cX9_point 39 = .ok (.iload_n 2, 1) := by decide +kernel
theorem dX9_point_40 : decode cX9_point 40 = .ok (.iconst 1, 1) := by decide +kernel
theorem dX9_point_41 : decode cX9_point 41 = .ok (.if_icmp .ne 12, 3) := by decide +kernel
theorem dX9_point_44 : decode cX9_point 44 = .ok (.aload_n 0, 1) := by decide +kernel
theorem dX9_point_45 : decode cX9_point 45 = .ok (.getfield 23, 3) := by decide +kernel
theorem dX9_point_48 : decode cX9_point 48 = .ok (.iload_n 1, 1) := by decide +kernel
theorem dX9_point_49 : decode cX9_point 49 = .ok (.iaload, 1) := by decide +kernel
theorem dX9_point_50 : decode cX9_point 50 = .ok (.goto 33, 3) := by decide +kernel
theorem dX9_point_53 : decode cX9_point 53 = .ok (.iload_n 2, 1) := by decide +kernel
theorem dX9_point_54 : decode cX9_point 54 = .ok (.iconst 2, 1) := by decide +kernel
theorem dX9_point_55 : decode cX9_point 55 = .ok (.if_icmp .ne 12, 3) := by decide +kernel
theorem dX9_point_58 : decode cX9_point 58 = .ok (.aload_n 0, 1) := by decide +kernel
theorem dX9_point_59 : decode cX9_point 59 = .ok (.getfield 26, 3) := by decide +kernel
theorem dX9_point_62 : decode cX9_point 62 = .ok (.iload_n 1, 1) := by decide +kernel
theorem dX9_point_63 : decode cX9_point 63 = .ok (.iaload, 1) := by decide +kernel
theorem dX9_point_64 : decode cX9_point 64 = .ok (.goto 19, 3) := by decide +kernel
theorem dX9_point_67 : decode cX9_point 67 = .ok (.iload_n 2, 1) := by decide +kernel
theorem dX9_point_68 : decode cX9_point 68 = .ok (.iconst 3, 1) := by decide +kernel
theorem dX9_point_69 : decode cX9_point 69 = .ok (.if_icmp .ne 12, 3) := by decide +kernel
theorem dX9_point_72 : decode cX9_point 72 = .ok (.aload_n 0, 1) := by decide +kernel
theorem dX9_point_73 : decode cX9_point 73 = .ok (.getfield 29, 3) := by decide +kernel
theorem dX9_point_76 : decode cX9_point 76 = .ok (.iload_n 1, 1) := by decide +kernel
theorem dX9_point_77 : decode cX9_point 77 = .ok (.iaload, 1) := by decide +kernel
theorem dX9_point_78 : decode cX9_point 78 = .ok (.goto 5, 3) := by decide +kernel
theorem dX9_point_81 : decode cX9_point 81 = .ok (.bipush (-2), 2) := by decide +kernel
theorem dX9_point_83 : decode cX9_point 83 = .ok (.ireturn, 1) := by decide +kernel
set_option maxRecDepth 20000 in
theorem ggX9_flags_X9_isGood : GoodIn wsX9_flags wsX9_isGood := goodIn_r _ [6, 7, 8, 9, 10, 5, 11, 12, 13, 1, 14, 15, 16, 17, 18, 19, 20, 21, 22, 23, 24, 25, 26, 27, 28, 29, 30, 31, 32, 33, 34, 35, 36, 37, 38, 39, 40, 41, 42, 43, 44, 45, 46, 47, 48, 49, 50, 51, 52, 53, 54, 55, 56, 57, 58, 59, 60, 61, 62, 63, 64, 65, 66, 67, 68, 69, 70, 71, 72, 73, 74, 75, 76, 77, 78, 79, 80, 81, 82, 83, 84, 85, 86, 87, 88, 89, 90, 91, 92, 93, 94, 95, 96, 97, 98, 99, 100, 101, 102, 103, 104, 105, 106, 107, 108, 109, 110, 111, 112, 113, 114, 115, 116, 117, 118, 119, 120] (by decide +kernel) (by decide +kernel)
set_option maxRecDepth 20000 in
theorem gX9_flags_X9_isGood : GoodIn wsX9_flags (wsV RX9 109 RX9 yX9_isGood wsX9_isGood) := goodIn_app (goodIn_of _ (by decide +kernel)) ggX9_flags_X9_isGood
theorem dX9_flags_0 : decode cX9_flags 0 = .ok (.aload_n 0, 1) := by decide +kernel
theorem dX9_flags_1 : decode cX9_flags 1 = .ok (.invokevirtual 109, 3) := by decide +kernel
theorem dX9_flags_4 : decode cX9_flags 4 = .ok (.ifCond .eq 10, 3) := by decide +kernel
theorem dX9_flags_7 : decode cX9_flags 7 = .ok (.aload_n 0, 1) := by decide +kernel
theorem dX9_flags_8 : decode cX9_flags 8 = .ok (.getfield 140, 3) := by decide +kernel
theorem dX9_flags_11 : decode cX9_flags 11 = .ok (.goto 5, 3) := by decide +kernel
theorem dX9_flags_14 : decode cX9_flags 14 = .ok (.bipush (-5), 2) := by decide +kernel
theorem dX9_flags_16 : decode cX9_flags 16 = .ok (.ireturn, 1) := by decide +kernel
set_option maxRecDepth 20000 in
theorem ggX9_isFlag_X9_in : GoodIn wsX9_isFlag wsX9_in := goodIn_r _ [5] (by decide +kernel) (by decide +kernel)
set_option maxRecDepth 20000 in
theorem gX9_isFlag_X9_in : GoodIn wsX9_isFlag (va_wsS RX9 62 yX9_in wsX9_in) := goodIn_app (goodIn_of _ (by decide +kernel)) ggX9_isFlag_X9_in
theorem dX9_isFlag_0 : decode cX9_isFlag 0 = .ok (.iload_n 1, 1) := by decide +kernel
theorem dX9_isFlag_1 : decode cX9_isFlag 1 = .ok (.iconst 0, 1) := by decide +kernel
theorem dX9_isFlag_2 : decode cX9_isFlag 2 = .ok (.aload_n 0, 1) := by decide +kernel
theorem dX9_isFlag_3 : decode cX9_isFlag 3 = .ok (.getfield 140, 3) := by decide +kernel
theorem dX9_isFlag_6 : decode cX9_isFlag 6 = .ok (.iconst 1, 1) := by decide +kernel
theorem dX9_isFlag_7 : decode cX9_isFlag 7 = .ok (.isub, 1) := by decide +kernel
theorem dX9_isFlag_8 : decode cX9_isFlag 8 = .ok (.invokestatic 62, 3) := by decide +kernel
theorem dX9_isFlag_11 : decode cX9_isFlag 11 = .ok (.ireturn, 1) := by decide +kernel
theorem dX9_ahead_0 : decode cX9_ahead 0 = .ok (.bipush (-6), 2) := by decide +kernel
theorem dX9_ahead_2 : decode cX9_ahead 2 = .ok (.istore_n 2, 1) := by decide +kernel
theorem dX9_ahead_3 : decode cX9_ahead 3 = .ok (.iconst 0, 1) := by decide +kernel
theorem dX9_ahead_4 : decode cX9_ahead 4 = .ok (.istore_n 3, 1) := by decide +kernel
theorem dX9_ahead_5 : decode cX9_ahead 5 = .ok (.iload_n 3, 1) := by decide +kernel
theorem dX9_ahead_6 : decode cX9_ahead 6 = .ok (.aload_n 0, 1) := by decide +kernel
theorem dX9_ahead_7 : decode cX9_ahead 7 = .ok (.getfield 140, 3) := by decide +kernel
theorem dX9_ahead_10 : decode cX9_ahead 10 = .ok (.if_icmp .ge 25, 3) := by decide +kernel
theorem dX9_ahead_13 : decode cX9_ahead 13 = .ok (.aload_n 0, 1) := by decide +kernel
theorem dX9_ahead_14 : decode cX9_ahead 14 = .ok (.getfield 44, 3) := by decide +kernel
theorem dX9_ahead_17 : decode cX9_ahead 17 = .ok (.iload_n 3, 1) := by decide +kernel
theorem dX9_ahead_18 : decode cX9_ahead 18 = .ok (.iaload, 1) := by decide +kernel
theorem dX9_ahead_19 : decode cX9_ahead 19 = .ok (.iload_n 1, 1) := by decide +kernel
theorem dX9_ahead_20 : decode cX9_ahead 20 = .ok (.if_icmp .ne 7, 3) := by decide +kernel
theorem dX9_ahead_23 : decode cX9_ahead 23 = .ok (.iload_n 3, 1) := by decide +kernel
theorem dX9_ahead_24 : decode cX9_ahead 24 = .ok (.goto 4, 3) := by decide +kernel
theorem dX9_ahead_27 : decode cX9_ahead 27 = .ok (.iload_n 2, 1) := by decide +kernel
theorem dX9_ahead_28 : decode cX9_ahead 28 = .ok (.istore_n 2, 1) := by decide +kernel
theorem dX9_ahead_29 : decode cX9_ahead 29 = .ok (.iinc 3 1, 3) := by decide +kernel
theorem dX9_ahead_32 : decode cX9_ahead 32 = .ok (.goto (-27), 3) := by decide +kernel
theorem dX9_ahead_35 : decode cX9_ahead 35 = .ok (.iload_n 2, 1) := by decide +kernel
theorem dX9_ahead_36 : decode cX9_ahead 36 = .ok (.ireturn, 1) := by decide +kernel
set_option maxRecDepth 20000 in
theorem ggX9_flag_X9_isGood : GoodIn wsX9_flag wsX9_isGood := goodIn_r _ [10, 11, 12, 13, 14, 9, 15, 16, 17, 18, 5, 19, 20, 21, 22, 23, 24, 25, 26, 27, 28, 29, 30, 31, 32, 33, 34, 35, 36, 37, 38, 39, 40, 41, 42, 43, 44, 45, 46, 47, 48, 49, 50, 51, 52, 53, 54, 55, 56, 57, 58, 59, 60, 61, 62, 63, 64, 65, 66, 67, 68, 69, 70, 71, 72, 73, 74, 75, 76, 77, 2, 3, 4, 1, 78, 79, 80, 81, 82, 83, 84, 85, 86, 87, 88, 89, 90, 91, 92, 93, 94, 106, 107, 108, 109, 110, 111, 112, 113, 114, 115, 116, 117, 118, 119, 120, 121, 122, 123, 124, 125, 126, 127, 128, 129, 130, 131] (by decide +kernel) (by decide +kernel)
set_option maxRecDepth 20000 in
theorem gX9_flag_X9_isGood : GoodIn wsX9_flag (wsV RX9 109 RX9 yX9_isGood wsX9_isGood) := goodIn_app (goodIn_of _ (by decide +kernel)) ggX9_flag_X9_isGood
set_option maxRecDepth 20000 in
theorem ggX9_flag_X9_isFlag : GoodIn wsX9_flag wsX9_isFlag := goodIn_r _ [98, 18, 99, 100, 9, 101, 106, 107, 108, 109, 110, 111, 112, 113, 114, 115, 116, 117, 118, 119, 120, 121, 122, 123, 124, 125, 126, 127, 128, 129, 130, 131] (by decide +kernel) (by decide +kernel)
set_option maxRecDepth 20000 in
theorem gX9_flag_X9_isFlag : GoodIn wsX9_flag (wsV RX9 166 RX9 yX9_isFlag wsX9_isFlag) := goodIn_app (goodIn_of _ (by decide +kernel)) ggX9_flag_X9_isFlag
set_option maxRecDepth 20000 in
theorem ggX9_flag_X9_ahead : GoodIn wsX9_flag wsX9_ahead := goodIn_r _ [105, 18, 5, 106, 107, 108, 109, 110, 111, 112, 113, 114, 115, 116, 117, 118, 119, 120, 121, 122, 123, 124, 125, 126, 127, 128, 129, 130, 131] (by decide +kernel) (by decide +kernel)
set_option maxRecDepth 20000 in
theorem gX9_flag_X9_ahead : GoodIn wsX9_flag (wsV RX9 169 RX9 yX9_ahead wsX9_ahead) := goodIn_app (goodIn_of _ (by decide +kernel)) ggX9_flag_X9_ahead
theorem dX9_flag_0 : decode cX9_flag 0 = .ok (.aload_n 0, 1) := by decide +kernel
theorem dX9_flag_1 : decode cX9_flag 1 = .ok (.invokevirtual 109, 3) := by decide +kernel
theorem dX9_flag_4 : decode cX9_flag 4 = .ok (.ifCond .ne 6, 3) := by decide +kernel
theorem dX9_flag_7 : decode cX9_flag 7 = .ok (.bipush (-5), 2) := by decide +kernel
theorem dX9_flag_9 : decode cX9_flag 9 = .ok (.ireturn, 1) := by decide +kernel
theorem dX9_flag_10 : decode cX9_flag 10 = .ok (.aload_n 0, 1) := by decide +kernel
theorem dX9_flag_11 : decode cX9_flag 11 = .ok (.iload_n 1, 1) := by decide +kernel
theorem dX9_flag_12 : decode cX9_flag 12 = .ok (.invokevirtual 166, 3) := by decide +kernel
theorem dX9_flag_15 : decode cX9_flag 15 = .ok (.ifCond .ne 5, 3) := by decide +kernel
theorem dX9_flag_18 : decode cX9_flag 18 = .ok (.iconst (-1), 1) := by decide +kernel
theorem dX9_flag_19 : decode cX9_flag 19 = .ok (.ireturn, 1) := by decide +kernel
theorem dX9_flag_20 : decode cX9_flag 20 = .ok (.iload_n 2, 1) := by decide +kernel
theorem dX9_flag_21 : decode cX9_flag 21 = .ok (.tableswitch 80 0 5 #[39, 46, 53, 60, 67, 74], 39) := by decide +kernel
theorem dX9_flag_60 : decode cX9_flag 60 = .ok (.aload_n 0, 1) := by decide +kernel
theorem dX9_flag_61 : decode cX9_flag 61 = .ok (.getfield 32, 3) := by decide +kernel
theorem dX9_flag_64 : decode cX9_flag 64 = .ok (.iload_n 1, 1) := by decide +kernel
theorem dX9_flag_65 : decode cX9_flag 65 = .ok (.iaload, 1) := by decide +kernel
theorem dX9_flag_66 : decode cX9_flag 66 = .ok (.ireturn, 1) := by decide +kernel
theorem dX9_flag_67 : decode cX9_flag 67 = .ok (.aload_n 0, 1) := by decide +kernel
theorem dX9_flag_68 : decode cX9_flag 68 = .ok (.getfield 35, 3) := by decide +kernel
theorem dX9_flag_71 : decode cX9_flag 71 = .ok (.iload_n 1, 1) := by decide +kernel
theorem dX9_flag_72 : decode cX9_flag 72 = .ok (.iaload, 1) := by decide +kernel
theorem dX9_flag_73 : decode cX9_flag 73 = .ok (.ireturn, 1) := by decide +kernel
theorem dX9_flag_74 : decode cX9_flag 74 = .ok (.aload_n 0, 1) := by decide +kernel
theorem dX9_flag_75 : decode cX9_flag 75 = .ok (.getfield 38, 3) := by decide +kernel
theorem dX9_flag_78 : decode cX9_flag 78 = .ok (.iload_n 1, 1) := by decide +kernel
theorem dX9_flag_79 : decode cX9_flag 79 = .ok (.iaload, 1) := by decide +kernel
theorem dX9_flag_80 : decode cX9_flag 80 = .ok (.ireturn, 1) := by decide +kernel
theorem dX9_flag_81 : decode cX9_flag 81 = .ok (.aload_n 0, 1) := by decide +kernel
theorem dX9_flag_82 : decode cX9_flag 82 = .ok (.getfield 41, 3) := by decide +kernel
theorem dX9_flag_85 : decode cX9_flag 85 = .ok (.iload_n 1, 1) := by decide +kernel
theorem dX9_flag_86 : decode cX9_flag 86 = .ok (.iaload, 1) := by decide +kernel
theorem dX9_flag_87 : decode cX9_flag 87 = .ok (.ireturn, 1) := by decide +kernel
theorem dX9_flag_88 : decode cX9_flag 88 = .ok (.aload_n 0, 1) := by decide +kernel
theorem dX9_flag_89 : decode cX9_flag 89 = .ok (.getfield 44, 3) := by decide +kernel
theorem dX9_flag_92 : decode cX9_flag 92 = .ok (.iload_n 1, 1) := by decide +kernel
theorem dX9_flag_93 : decode cX9_flag 93 = .ok (.iaload, 1) := by decide +kernel
theorem dX9_flag_94 : decode cX9_flag 94 = .ok (.ireturn, 1) := by decide +kernel
theorem dX9_flag_95 : decode cX9_flag 95 = .ok (.aload_n 0, 1) := by decide +kernel
theorem dX9_flag_96 : decode cX9_flag 96 = .ok (.iload_n 1, 1) := by decide +kernel
theorem dX9_flag_97 : decode cX9_flag 97 = .ok (.invokevirtual 169, 3) := by decide +kernel
theorem dX9_flag_100 : decode cX9_flag 100 = .ok (.ireturn, 1) := by decide +kernel
theorem dX9_flag_101 : decode cX9_flag 101 = .ok (.bipush (-2), 2) := by decide +kernel
theorem dX9_flag_103 : decode cX9_flag 103 = .ok (.ireturn, 1) := by decide +kernel
theorem dX9_ringOf_0 : decode cX9_ringOf 0 = .ok (.iconst 1, 1) := by decide +kernel
theorem dX9_ringOf_1 : decode cX9_ringOf 1 = .ok (.istore_n 2, 1) := by decide +kernel
theorem dX9_ringOf_2 : decode cX9_ringOf 2 = .ok (.aload_n 0, 1) := by decide +kernel
theorem dX9_ringOf_3 : decode cX9_ringOf 3 = .ok (.getfield 44, 3) := by decide +kernel
theorem dX9_ringOf_6 : decode cX9_ringOf 6 = .ok (.iload_n 1, 1) := by decide +kernel
theorem dX9_ringOf_7 : decode cX9_ringOf 7 = .ok (.iaload, 1) := by decide +kernel
theorem dX9_ringOf_8 : decode cX9_ringOf 8 = .ok (.istore_n 3, 1) := by decide +kernel
theorem dX9_ringOf_9 : decode cX9_ringOf 9 = .ok (.iload_n 3, 1) := by decide +kernel
theorem dX9_ringOf_10 : decode cX9_ringOf 10 = .ok (.iload_n 1, 1) := by decide +kernel
theorem dX9_ringOf_11 : decode cX9_ringOf 11 = .ok (.if_icmp .eq 23, 3) := by decide +kernel
theorem dX9_ringOf_14 : decode cX9_ringOf 14 = .ok (.iload_n 2, 1) := by decide +kernel
theorem dX9_ringOf_15 : decode cX9_ringOf 15 = .ok (.sipush 400, 3) := by decide +kernel
theorem dX9_ringOf_18 : decode cX9_ringOf 18 = .ok (.if_icmp .gt 16, 3) := by decide +kernel
theorem dX9_ringOf_21 : decode cX9_ringOf 21 = .ok (.iinc 2 1, 3) := by decide +kernel
theorem dX9_ringOf_24 : decode cX9_ringOf 24 = .ok (.aload_n 0, 1) := by decide +kernel
theorem dX9_ringOf_25 : decode cX9_ringOf 25 = .ok (.getfield 44, 3) := by decide +kernel
theorem dX9_ringOf_28 : decode cX9_ringOf 28 = .ok (.iload_n 3, 1) := by decide +kernel
theorem dX9_ringOf_29 : decode cX9_ringOf 29 = .ok (.iaload, 1) := by decide +kernel
theorem dX9_ringOf_30 : decode cX9_ringOf 30 = .ok (.istore_n 3, 1) := by decide +kernel
theorem dX9_ringOf_31 : decode cX9_ringOf 31 = .ok (.goto (-22), 3) := by decide +kernel
theorem dX9_ringOf_34 : decode cX9_ringOf 34 = .ok (.iload_n 2, 1) := by decide +kernel
theorem dX9_ringOf_35 : decode cX9_ringOf 35 = .ok (.ireturn, 1) := by decide +kernel
set_option maxRecDepth 20000 in
theorem ggX9_onFrom_X9_ringOf : GoodIn wsX9_onFrom wsX9_ringOf := goodIn_r _ [6, 1, 7, 8, 9, 10, 11, 12, 13, 14, 15, 16, 17, 18, 19, 20, 21, 22, 23, 24, 25, 26, 27, 28, 29, 30, 31, 32] (by decide +kernel) (by decide +kernel)
set_option maxRecDepth 20000 in
theorem gX9_onFrom_X9_ringOf : GoodIn wsX9_onFrom (wsV RX9 172 RX9 yX9_ringOf wsX9_ringOf) := goodIn_app (goodIn_of _ (by decide +kernel)) ggX9_onFrom_X9_ringOf
theorem dX9_onFrom_0 : decode cX9_onFrom 0 = .ok (.iload_n 1, 1) := by decide +kernel
theorem dX9_onFrom_1 : decode cX9_onFrom 1 = .ok (.istore_n 3, 1) := by decide +kernel
theorem dX9_onFrom_2 : decode cX9_onFrom 2 = .ok (.iload_n 2, 1) := by decide +kernel
theorem dX9_onFrom_3 : decode cX9_onFrom 3 = .ok (.aload_n 0, 1) := by decide +kernel
theorem dX9_onFrom_4 : decode cX9_onFrom 4 = .ok (.iload_n 1, 1) := by decide +kernel
theorem dX9_onFrom_5 : decode cX9_onFrom 5 = .ok (.invokevirtual 172, 3) := by decide +kernel
theorem dX9_onFrom_8 : decode cX9_onFrom 8 = .ok (.irem, 1) := by decide +kernel
theorem dX9_onFrom_9 : decode cX9_onFrom 9 = .ok (.istore 4, 2) := by decide +kernel
theorem dX9_onFrom_11 : decode cX9_onFrom 11 = .ok (.iload 4, 2) := by decide +kernel
theorem dX9_onFrom_13 : decode cX9_onFrom 13 = .ok (.ifCond .le 16, 3) := by decide +kernel
theorem dX9_onFrom_16 : decode cX9_onFrom 16 = .ok (.aload_n 0, 1) := by decide +kernel
theorem dX9_onFrom_17 : decode cX9_onFrom 17 = .ok (.getfield 44, 3) := by decide +kernel
theorem dX9_onFrom_20 : decode cX9_onFrom 20 = .ok (.iload_n 3, 1) := by decide +kernel
theorem dX9_onFrom_21 : decode cX9_onFrom 21 = .ok (.iaload, 1) := by decide +kernel
theorem dX9_onFrom_22 : decode cX9_onFrom 22 = .ok (.istore_n 3, 1) := by decide +kernel
theorem dX9_onFrom_23 : decode cX9_onFrom 23 = .ok (.iinc 4 (-1), 3) := by decide +kernel
theorem dX9_onFrom_26 : decode cX9_onFrom 26 = .ok (.goto (-15), 3) := by decide +kernel
theorem dX9_onFrom_29 : decode cX9_onFrom 29 = .ok (.iload_n 3, 1) := by decide +kernel
theorem dX9_onFrom_30 : decode cX9_onFrom 30 = .ok (.ireturn, 1) := by decide +kernel
set_option maxRecDepth 20000 in
theorem ggX9_go_X9_isGood : GoodIn wsX9_go wsX9_isGood := goodIn_r _ [6, 7, 8, 9, 10, 5, 11, 12, 13, 14, 15, 16, 17, 18, 19, 20, 21, 22, 23, 24, 25, 26, 27, 28, 29, 30, 31, 32, 33, 34, 35, 36, 37, 38, 39, 40, 41, 42, 43, 44, 45, 46, 47, 48, 49, 50, 51, 52, 53, 54, 55, 56, 57, 58, 59, 60, 61, 62, 63, 64, 65, 66, 67, 68, 69, 70, 71, 72, 73, 74, 75, 76, 77, 78, 79, 80, 81, 82, 83, 84, 85, 86, 87, 88, 89, 90, 91, 92, 93, 94, 95, 111, 112, 113, 114, 115, 116, 117, 118, 119, 120, 121, 122, 123, 124, 125, 126, 127, 128, 129, 130, 131, 132, 133, 134, 135, 136] (by decide +kernel) (by decide +kernel)
set_option maxRecDepth 20000 in
theorem gX9_go_X9_isGood : GoodIn wsX9_go (wsV RX9 109 RX9 yX9_isGood wsX9_isGood) := goodIn_app (goodIn_of _ (by decide +kernel)) ggX9_go_X9_isGood
set_option maxRecDepth 20000 in
theorem ggX9_go_X9_isFlag : GoodIn wsX9_go wsX9_isFlag := goodIn_r _ [99, 14, 100, 101, 5, 102, 111, 112, 113, 114, 115, 116, 117, 118, 119, 120, 121, 122, 123, 124, 125, 126, 127, 128, 129, 130, 131, 132, 133, 134, 135, 136] (by decide +kernel) (by decide +kernel)
set_option maxRecDepth 20000 in
theorem gX9_go_X9_isFlag : GoodIn wsX9_go (wsV RX9 166 RX9 yX9_isFlag wsX9_isFlag) := goodIn_app (goodIn_of _ (by decide +kernel)) ggX9_go_X9_isFlag
set_option maxRecDepth 20000 in
theorem ggX9_go_X9_in : GoodIn wsX9_go wsX9_in := goodIn_r _ [102] (by decide +kernel) (by decide +kernel)
set_option maxRecDepth 20000 in
theorem gX9_go_X9_in : GoodIn wsX9_go (va_wsS RX9 62 yX9_in wsX9_in) := goodIn_app (goodIn_of _ (by decide +kernel)) ggX9_go_X9_in
set_option maxRecDepth 20000 in
theorem ggX9_go_X9_onFrom : GoodIn wsX9_go wsX9_onFrom := goodIn_r _ [106, 15, 107, 108, 109, 5, 110, 111, 112, 113, 114, 115, 116, 117, 118, 119, 120, 121, 122, 123, 124, 125, 126, 127, 128, 129, 130, 131, 132, 133, 134, 135, 136] (by decide +kernel) (by decide +kernel)
set_option maxRecDepth 20000 in
theorem gX9_go_X9_onFrom : GoodIn wsX9_go (wsV RX9 176 RX9 yX9_onFrom wsX9_onFrom) := goodIn_app (goodIn_of _ (by decide +kernel)) ggX9_go_X9_onFrom
theorem dX9_go_0 : decode cX9_go 0 = .ok (.aload_n 0, 1) := by decide +kernel
theorem dX9_go_1 : decode cX9_go 1 = .ok (.invokevirtual 109, 3) := by decide +kernel
theorem dX9_go_4 : decode cX9_go 4 = .ok (.ifCond .ne 6, 3) := by decide +kernel
theorem dX9_go_7 : decode cX9_go 7 = .ok (.bipush (-5), 2) := by decide +kernel
theorem dX9_go_9 : decode cX9_go 9 = .ok (.ireturn, 1) := by decide +kernel
theorem dX9_go_10 : decode cX9_go 10 = .ok (.aload_n 0, 1) := by decide +kernel
theorem dX9_go_11 : decode cX9_go 11 = .ok (.iload_n 1, 1) := by decide +kernel
theorem dX9_go_12 : decode cX9_go 12 = .ok (.invokevirtual 166, 3) := by decide +kernel
theorem dX9_go_15 : decode cX9_go 15 = .ok (.ifCond .ne 5, 3) := by decide +kernel
theorem dX9_go_18 : decode cX9_go 18 = .ok (.iconst (-1), 1) := by decide +kernel
theorem dX9_go_19 : decode cX9_go 19 = .ok (.ireturn, 1) := by decide +kernel
theorem dX9_go_20 : decode cX9_go 20 = .ok (.iload_n 2, 1) := by decide +kernel
theorem dX9_go_21 : decode cX9_go 21 = .ok (.iconst 0, 1) := by decide +kernel
theorem dX9_go_22 : decode cX9_go 22 = .ok (.ldc 175, 2) := by decide +kernel
theorem dX9_go_24 : decode cX9_go 24 = .ok (.invokestatic 62, 3) := by decide +kernel
theorem dX9_go_27 : decode cX9_go 27 = .ok (.ifCond .eq 12, 3) := by decide +kernel
theorem dX9_go_30 : decode cX9_go 30 = .ok (.aload_n 0, 1) := by decide +kernel
theorem dX9_go_31 : decode cX9_go 31 = .ok (.iload_n 1, 1) := by decide +kernel
theorem dX9_go_32 : decode cX9_go 32 = .ok (.iload_n 2, 1) := by decide +kernel
theorem dX9_go_33 : decode cX9_go 33 = .ok (.invokevirtual 176, 3) := by decide +kernel
theorem dX9_go_36 : decode cX9_go 36 = .ok (.goto 5, 3) := by decide +kernel
theorem dX9_go_39 : decode cX9_go 39 = .ok (.bipush (-2), 2) := by decide +kernel
theorem dX9_go_41 : decode cX9_go 41 = .ok (.ireturn, 1) := by decide +kernel
set_option maxRecDepth 20000 in
theorem ggX9_ring_X9_isGood : GoodIn wsX9_ring wsX9_isGood := goodIn_r _ [5, 6, 7, 8, 9, 4, 10, 11, 12, 13, 14, 15, 16, 17, 18, 19, 20, 21, 22, 23, 24, 25, 26, 27, 28, 29, 30, 31, 32, 33, 34, 35, 36, 37, 38, 39, 40, 41, 42, 43, 44, 45, 46, 47, 48, 49, 50, 51, 52, 53, 54, 55, 56, 57, 58, 59, 60, 61, 62, 63, 64, 65, 66, 67, 68, 69, 70, 71, 72, 73, 74, 75, 76, 77, 78, 79, 80, 81, 82, 83, 84, 85, 86, 87, 88, 89, 90, 91, 92, 93, 94, 106, 107, 108, 109, 110, 111, 112, 113, 114, 115, 116, 117, 118, 119, 120, 121, 122, 123, 124, 125, 126, 127, 128, 129, 130, 131] (by decide +kernel) (by decide +kernel)
set_option maxRecDepth 20000 in
theorem gX9_ring_X9_isGood : GoodIn wsX9_ring (wsV RX9 109 RX9 yX9_isGood wsX9_isGood) := goodIn_app (goodIn_of _ (by decide +kernel)) ggX9_ring_X9_isGood
set_option maxRecDepth 20000 in
theorem ggX9_ring_X9_isFlag : GoodIn wsX9_ring wsX9_isFlag := goodIn_r _ [98, 13, 99, 100, 4, 101, 106, 107, 108, 109, 110, 111, 112, 113, 114, 115, 116, 117, 118, 119, 120, 121, 122, 123, 124, 125, 126, 127, 128, 129, 130, 131] (by decide +kernel) (by decide +kernel)
set_option maxRecDepth 20000 in
theorem gX9_ring_X9_isFlag : GoodIn wsX9_ring (wsV RX9 166 RX9 yX9_isFlag wsX9_isFlag) := goodIn_app (goodIn_of _ (by decide +kernel)) ggX9_ring_X9_isFlag
set_option maxRecDepth 20000 in
theorem ggX9_ring_X9_ringOf : GoodIn wsX9_ring wsX9_ringOf := goodIn_r _ [105, 14, 106, 107, 108, 109, 110, 111, 112, 113, 114, 115, 116, 117, 118, 119, 120, 121, 122, 123, 124, 125, 126, 127, 128, 129, 130, 131] (by decide +kernel) (by decide +kernel)
set_option maxRecDepth 20000 in
theorem gX9_ring_X9_ringOf : GoodIn wsX9_ring (wsV RX9 172 RX9 yX9_ringOf wsX9_ringOf) := goodIn_app (goodIn_of _ (by decide +kernel)) ggX9_ring_X9_ringOf
theorem dX9_ring_0 : decode cX9_ring 0 = .ok (.aload_n 0, 1) := by decide +kernel
theorem dX9_ring_1 : decode cX9_ring 1 = .ok (.invokevirtual 109, 3) := by decide +kernel
theorem dX9_ring_4 : decode cX9_ring 4 = .ok (.ifCond .ne 6, 3) := by decide +kernel
theorem dX9_ring_7 : decode cX9_ring 7 = .ok (.bipush (-5), 2) := by decide +kernel
theorem dX9_ring_9 : decode cX9_ring 9 = .ok (.ireturn, 1) := by decide +kernel
theorem dX9_ring_10 : decode cX9_ring 10 = .ok (.aload_n 0, 1) := by decide +kernel
theorem dX9_ring_11 : decode cX9_ring 11 = .ok (.iload_n 1, 1) := by decide +kernel
theorem dX9_ring_12 : decode cX9_ring 12 = .ok (.invokevirtual 166, 3) := by decide +kernel
theorem dX9_ring_15 : decode cX9_ring 15 = .ok (.ifCond .eq 11, 3) := by decide +kernel
theorem dX9_ring_18 : decode cX9_ring 18 = .ok (.aload_n 0, 1) := by decide +kernel
theorem dX9_ring_19 : decode cX9_ring 19 = .ok (.iload_n 1, 1) := by decide +kernel
theorem dX9_ring_20 : decode cX9_ring 20 = .ok (.invokevirtual 172, 3) := by decide +kernel
theorem dX9_ring_23 : decode cX9_ring 23 = .ok (.goto 4, 3) := by decide +kernel
theorem dX9_ring_26 : decode cX9_ring 26 = .ok (.iconst (-1), 1) := by decide +kernel
theorem dX9_ring_27 : decode cX9_ring 27 = .ok (.ireturn, 1) := by decide +kernel
set_option maxRecDepth 20000 in
theorem ggX9_rings_X9_isGood : GoodIn wsX9_rings wsX9_isGood := goodIn_r _ [7, 8, 9, 10, 11, 6, 12, 13, 14, 1, 2, 15, 16, 17, 18, 19, 20, 21, 22, 23, 24, 25, 26, 27, 28, 29, 30, 31, 32, 33, 34, 35, 36, 37, 38, 39, 40, 41, 42, 43, 44, 45, 46, 47, 48, 49, 50, 51, 52, 53, 54, 55, 56, 57, 58, 59, 60, 61, 62, 63, 64, 65, 66, 67, 68, 69, 70, 71, 72, 73, 74, 75, 76, 77, 78, 79, 80, 81, 82, 83, 84, 85, 86, 87, 88, 89, 90, 91, 92, 93, 94, 95, 96, 97, 98, 99, 100, 101, 102, 103, 104, 105, 106, 107, 108, 109, 110, 111, 112, 113, 114, 115, 116, 117, 118, 119, 120] (by decide +kernel) (by decide +kernel)
