theorem ip_wsX9_init__wsX9_init_r1 : ∀ w ∈ wsX9_init_r1, w ∈ wsX9_init := fun _ h => (List.mem_cons_of_mem _ (List.mem_append_left _ (List.mem_append_left _ h)))
theorem ip_wsX9_init__wsX9_init_r2 : ∀ w ∈ wsX9_init_r2, w ∈ wsX9_init := fun _ h => (List.mem_cons_of_mem _ (List.mem_append_left _ (List.mem_append_right _ h)))
set_option maxRecDepth 20000 in
theorem ggX9_init_X9_begin : GoodIn wsX9_init wsX9_begin := goodIn_sub (List.forall_mem_cons.mpr ⟨(ip_wsX9_init__wsX9_init_r2 _ (List.mem_of_getElem? (i := 0) rfl)), (x_ap2 (List.forall_mem_cons.mpr ⟨(ip_wsX9_init__wsX9_init_r1 _ (List.mem_of_getElem? (i := 5) rfl)), (List.forall_mem_cons.mpr ⟨(ip_wsX9_init__wsX9_init_r1 _ (List.mem_of_getElem? (i := 3) rfl)), (List.forall_mem_cons.mpr ⟨(ip_wsX9_init__wsX9_init_r2 _ (List.mem_of_getElem? (i := 1) rfl)), (fun _ h => absurd h List.not_mem_nil)⟩)⟩)⟩) (fun _ h => (List.mem_cons_of_mem _ (List.mem_append_right _ h))))⟩) (by decide +kernel)
set_option maxRecDepth 20000 in
theorem gX9_init_X9_begin : GoodIn wsX9_init (wsV RX9 59 RX9 yX9_begin wsX9_begin) := goodIn_app (goodIn_of _ (by decide +kernel)) ggX9_init_X9_begin
theorem dX9_init_0 : decode cX9_init 0 = .ok (.aload_n 0, 1) := by decide +kernel
theorem dX9_init_1 : decode cX9_init 1 = .ok (.invokespecial 1, 3) := by decide +kernel
theorem dX9_init_4 : decode cX9_init 4 = .ok (.aload_n 0, 1) := by decide +kernel
theorem dX9_init_5 : decode cX9_init 5 = .ok (.bipush 7, 2) := by decide +kernel
theorem dX9_init_7 : decode cX9_init 7 = .ok (.putfield 7, 3) := by decide +kernel
theorem dX9_init_10 : decode cX9_init 10 = .ok (.aload_n 0, 1) := by decide +kernel
theorem dX9_init_11 : decode cX9_init 11 = .ok (.bipush 12, 2) := by decide +kernel
theorem dX9_init_13 : decode cX9_init 13 = .ok (.newarray .int, 2) := by decide +kernel
theorem dX9_init_15 : decode cX9_init 15 = .ok (.putfield 13, 3) := by decide +kernel
theorem dX9_init_18 : decode cX9_init 18 = .ok (.aload_n 0, 1) := by decide +kernel
theorem dX9_init_19 : decode cX9_init 19 = .ok (.iconst 4, 1) := by decide +kernel
theorem dX9_init_20 : decode cX9_init 20 = .ok (.newarray .int, 2) := by decide +kernel
theorem dX9_init_22 : decode cX9_init 22 = .ok (.putfield 17, 3) := by decide +kernel
theorem dX9_init_25 : decode cX9_init 25 = .ok (.aload_n 0, 1) := by decide +kernel
theorem dX9_init_26 : decode cX9_init 26 = .ok (.sipush 200, 3) := by decide +kernel
theorem dX9_init_29 : decode cX9_init 29 = .ok (.newarray .int, 2) := by decide +kernel
theorem dX9_init_31 : decode cX9_init 31 = .ok (.putfield 20, 3) := by decide +kernel
theorem dX9_init_34 : decode cX9_init 34 = .ok (.aload_n 0, 1) := by decide +kernel
theorem dX9_init_35 : decode cX9_init 35 = .ok (.sipush 200, 3) := by decide +kernel
theorem dX9_init_38 : decode cX9_init 38 = .ok (.newarray .int, 2) := by decide +kernel
theorem dX9_init_40 : decode cX9_init 40 = .ok (.putfield 23, 3) := by decide +kernel
theorem dX9_init_43 : decode cX9_init 43 = .ok (.aload_n 0, 1) := by decide +kernel
theorem dX9_init_44 : decode cX9_init 44 = .ok (.sipush 200, 3) := by decide +kernel
theorem dX9_init_47 : decode cX9_init 47 = .ok (.newarray .int, 2) := by decide +kernel
theorem dX9_init_49 : decode cX9_init 49 = .ok (.putfield 26, 3) := by decide +kernel
theorem dX9_init_52 : decode cX9_init 52 = .ok (.aload_n 0, 1) := by decide +kernel
theorem dX9_init_53 : decode cX9_init 53 = .ok (.sipush 200, 3) := by decide +kernel
theorem dX9_init_56 : decode cX9_init 56 = .ok (.newarray .int, 2) := by decide +kernel
theorem dX9_init_58 : decode cX9_init 58 = .ok (.putfield 29, 3) := by decide +kernel
theorem dX9_init_61 : decode cX9_init 61 = .ok (.aload_n 0, 1) := by decide +kernel
theorem dX9_init_62 : decode cX9_init 62 = .ok (.sipush 400, 3) := by decide +kernel
theorem dX9_init_65 : decode cX9_init 65 = .ok (.newarray .int, 2) := by decide +kernel
theorem dX9_init_67 : decode cX9_init 67 = .ok (.putfield 32, 3) := by decide +kernel
theorem dX9_init_70 : decode cX9_init 70 = .ok (.aload_n 0, 1) := by decide +kernel
theorem dX9_init_71 : decode cX9_init 71 = .ok (.sipush 400, 3) := by decide +kernel
theorem dX9_init_74 : decode cX9_init 74 = .ok (.newarray .int, 2) := by decide +kernel
theorem dX9_init_76 : decode cX9_init 76 = .ok (.putfield 35, 3) := by decide +kernel
theorem dX9_init_79 : decode cX9_init 79 = .ok (.aload_n 0, 1) := by decide +kernel
theorem dX9_init_80 : decode cX9_init 80 = .ok (.sipush 400, 3) := by decide +kernel
theorem dX9_init_83 : decode cX9_init 83 = .ok (.newarray .int, 2) := by decide +kernel
theorem dX9_init_85 : decode cX9_init 85 = .ok (.putfield 38, 3) := by decide +kernel
theorem dX9_init_88 : decode cX9_init 88 = .ok (.aload_n 0, 1) := by decide +kernel
theorem dX9_init_89 : decode cX9_init 89 = .ok (.sipush 400, 3) := by decide +kernel
theorem dX9_init_92 : decode cX9_init 92 = .ok (.newarray .int, 2) := by decide +kernel
theorem dX9_init_94 : decode cX9_init 94 = .ok (.putfield 41, 3) := by decide +kernel
theorem dX9_init_97 : decode cX9_init 97 = .ok (.aload_n 0, 1) := by decide +kernel
theorem dX9_init_98 : decode cX9_init 98 = .ok (.sipush 400, 3) := by decide +kernel
theorem dX9_init_101 : decode cX9_init 101 = .ok (.newarray .int, 2) := by decide +kernel
theorem dX9_init_103 : decode cX9_init 103 = .ok (.putfield 44, 3) := by decide +kernel
theorem dX9_init_106 : decode cX9_init 106 = .ok (.aload_n 0, 1) := by decide +kernel
theorem dX9_init_107 : decode cX9_init 107 = .ok (.bipush 32, 2) := by decide +kernel
theorem dX9_init_109 : decode cX9_init 109 = .ok (.newarray .int, 2) := by decide +kernel
theorem dX9_init_111 : decode cX9_init 111 = .ok (.putfield 47, 3) := by decide +kernel
theorem dX9_init_114 : decode cX9_init 114 = .ok (.aload_n 0, 1) := by decide +kernel
theorem dX9_init_115 : decode cX9_init 115 = .ok (.bipush 6, 2) := by decide +kernel
theorem dX9_init_117 : decode cX9_init 117 = .ok (.newarray .int, 2) := by decide +kernel
theorem dX9_init_119 : decode cX9_init 119 = .ok (.putfield 50, 3) := by decide +kernel
theorem dX9_init_122 : decode cX9_init 122 = .ok (.aload_n 0, 1) := by decide +kernel
theorem dX9_init_123 : decode cX9_init 123 = .ok (.bipush 6, 2) := by decide +kernel
theorem dX9_init_125 : decode cX9_init 125 = .ok (.newarray .int, 2) := by decide +kernel
theorem dX9_init_127 : decode cX9_init 127 = .ok (.putfield 53, 3) := by decide +kernel
theorem dX9_init_130 : decode cX9_init 130 = .ok (.aload_n 0, 1) := by decide +kernel
theorem dX9_init_131 : decode cX9_init 131 = .ok (.sipush 225, 3) := by decide +kernel
theorem dX9_init_134 : decode cX9_init 134 = .ok (.newarray .int, 2) := by decide +kernel
theorem dX9_init_136 : decode cX9_init 136 = .ok (.putfield 56, 3) := by decide +kernel
theorem dX9_init_139 : decode cX9_init 139 = .ok (.aload_n 0, 1) := by decide +kernel
theorem dX9_init_140 : decode cX9_init 140 = .ok (.invokevirtual 59, 3) := by decide +kernel
theorem dX9_init_143 : decode cX9_init 143 = .ok (.return_, 1) := by decide +kernel
theorem dX9_in_0 : decode cX9_in 0 = .ok (.iload_n 0, 1) := by decide +kernel
theorem dX9_in_1 : decode cX9_in 1 = .ok (.iload_n 1, 1) := by decide +kernel
theorem dX9_in_2 : decode cX9_in 2 = .ok (.if_icmp .lt 12, 3) := by decide +kernel
theorem dX9_in_5 : decode cX9_in 5 = .ok (.iload_n 0, 1) := by decide +kernel
theorem dX9_in_6 : decode cX9_in 6 = .ok (.iload_n 2, 1) := by decide +kernel
theorem dX9_in_7 : decode cX9_in 7 = .ok (.if_icmp .gt 7, 3) := by decide +kernel
theorem dX9_in_10 : decode cX9_in 10 = .ok (.iconst 1, 1) := by decide +kernel
theorem dX9_in_11 : decode cX9_in 11 = .ok (.goto 4, 3) := by decide +kernel
theorem dX9_in_14 : decode cX9_in 14 = .ok (.iconst 0, 1) := by decide +kernel
theorem dX9_in_15 : decode cX9_in 15 = .ok (.ireturn, 1) := by decide +kernel
set_option maxRecDepth 20000 in
theorem ggX9_isNumber_X9_in : GoodIn wsX9_isNumber wsX9_in := goodIn_sub (List.forall_mem_cons.mpr ⟨(List.mem_cons_of_mem _ (List.mem_append_left _ (List.mem_of_getElem? (i := 4) rfl))), (fun _ h => absurd h List.not_mem_nil)⟩) (by decide +kernel)
set_option maxRecDepth 20000 in
theorem gX9_isNumber_X9_in : GoodIn wsX9_isNumber (va_wsS RX9 62 yX9_in wsX9_in) := goodIn_app (goodIn_of _ (by decide +kernel)) ggX9_isNumber_X9_in
theorem dX9_isNumber_0 : decode cX9_isNumber 0 = .ok (.iload_n 1, 1) := by decide +kernel
theorem dX9_isNumber_1 : decode cX9_isNumber 1 = .ok (.iconst 0, 1) := by decide +kernel
theorem dX9_isNumber_2 : decode cX9_isNumber 2 = .ok (.aload_n 0, 1) := by decide +kernel
theorem dX9_isNumber_3 : decode cX9_isNumber 3 = .ok (.getfield 7, 3) := by decide +kernel
theorem dX9_isNumber_6 : decode cX9_isNumber 6 = .ok (.iconst 1, 1) := by decide +kernel
theorem dX9_isNumber_7 : decode cX9_isNumber 7 = .ok (.isub, 1) := by decide +kernel
theorem dX9_isNumber_8 : decode cX9_isNumber 8 = .ok (.invokestatic 62, 3) := by decide +kernel
theorem dX9_isNumber_11 : decode cX9_isNumber 11 = .ok (.ireturn, 1) := by decide +kernel
theorem dX9_begin_0 : decode cX9_begin 0 = .ok (.iconst 0, 1) := by decide +kernel
theorem dX9_begin_1 : decode cX9_begin 1 = .ok (.istore_n 1, 1) := by decide +kernel
theorem dX9_begin_2 : decode cX9_begin 2 = .ok (.iload_n 1, 1) := by decide +kernel
theorem dX9_begin_3 : decode cX9_begin 3 = .ok (.bipush 12, 2) := by decide +kernel
theorem dX9_begin_5 : decode cX9_begin 5 = .ok (.if_icmp .ge 45, 3) := by decide +kernel
theorem dX9_begin_8 : decode cX9_begin 8 = .ok (.aload_n 0, 1) := by decide +kernel
theorem dX9_begin_9 : decode cX9_begin 9 = .ok (.getfield 13, 3) := by decide +kernel
theorem dX9_begin_12 : decode cX9_begin 12 = .ok (.iload_n 1, 1) := by decide +kernel
theorem dX9_begin_13 : decode cX9_begin 13 = .ok (.iload_n 1, 1) := by decide +kernel
theorem dX9_begin_14 : decode cX9_begin 14 = .ok (.bipush 6, 2) := by decide +kernel
theorem dX9_begin_16 : decode cX9_begin 16 = .ok (.irem, 1) := by decide +kernel
theorem dX9_begin_17 : decode cX9_begin 17 = .ok (.iconst 2, 1) := by decide +kernel
theorem dX9_begin_18 : decode cX9_begin 18 = .ok (.if_icmp .ge 7, 3) := by decide +kernel
theorem dX9_begin_21 : decode cX9_begin 21 = .ok (.iconst 1, 1) := by decide +kernel
theorem dX9_begin_22 : decode cX9_begin 22 = .ok (.goto 21, 3) := by decide +kernel
theorem dX9_begin_25 : decode cX9_begin 25 = .ok (.iload_n 1, 1) := by decide +kernel
theorem dX9_begin_26 : decode cX9_begin 26 = .ok (.bipush 6, 2) := by decide +kernel
theorem dX9_begin_28 : decode cX9_begin 28 = .ok (.irem, 1) := by decide +kernel
theorem dX9_begin_29 : decode cX9_begin 29 = .ok (.iconst 2, 1) := by decide +kernel
theorem dX9_begin_30 : decode cX9_begin 30 = .ok (.if_icmp .ne 12, 3) := by decide +kernel
theorem dX9_begin_33 : decode cX9_begin 33 = .ok (.aload_n 0, 1) := by decide +kernel
theorem dX9_begin_34 : decode cX9_begin 34 = .ok (.getfield 7, 3) := by decide +kernel
theorem dX9_begin_37 : decode cX9_begin 37 = .ok (.iconst 1, 1) := by decide +kernel
theorem dX9_begin_38 : decode cX9_begin 38 = .ok (.isub, 1) := by decide +kernel
theorem dX9_begin_39 : decode cX9_begin 39 = .ok (.goto 4, 3) := by decide +kernel
theorem dX9_begin_42 : decode cX9_begin 42 = .ok (.iconst 0, 1) := by decide +kernel
theorem dX9_begin_43 : decode cX9_begin 43 = .ok (.iastore, 1) := by decide +kernel
theorem dX9_begin_44 : decode cX9_begin 44 = .ok (.iinc 1 1, 3) := by decide +kernel
theorem dX9_begin_47 : decode cX9_begin 47 = .ok (.goto (-45), 3) := by decide +kernel
theorem dX9_begin_50 : decode cX9_begin 50 = .ok (.aload_n 0, 1) := by decide +kernel
theorem dX9_begin_51 : decode cX9_begin 51 = .ok (.iconst 0, 1) := by decide +kernel
theorem dX9_begin_52 : decode cX9_begin 52 = .ok (.putfield 66, 3) := by decide +kernel
theorem dX9_begin_55 : decode cX9_begin 55 = .ok (.return_, 1) := by decide +kernel
set_option maxRecDepth 20000 in
theorem ggX9_field_X9_in : GoodIn wsX9_field wsX9_in := goodIn_sub (List.forall_mem_cons.mpr ⟨(List.mem_cons_of_mem _ (List.mem_append_left _ (List.mem_of_getElem? (i := 4) rfl))), (fun _ h => absurd h List.not_mem_nil)⟩) (by decide +kernel)
set_option maxRecDepth 20000 in
theorem gX9_field_X9_in : GoodIn wsX9_field (va_wsS RX9 62 yX9_in wsX9_in) := goodIn_app (goodIn_of _ (by decide +kernel)) ggX9_field_X9_in
set_option maxRecDepth 20000 in
theorem ggX9_field_X9_begin : GoodIn wsX9_field wsX9_begin := goodIn_sub (List.forall_mem_cons.mpr ⟨(List.mem_cons_of_mem _ (List.mem_append_left _ (List.mem_of_getElem? (i := 8) rfl))), (x_ap2 (List.forall_mem_cons.mpr ⟨(List.mem_cons_of_mem _ (List.mem_append_left _ (List.mem_of_getElem? (i := 9) rfl))), (List.forall_mem_cons.mpr ⟨(List.mem_cons_of_mem _ (List.mem_append_left _ (List.mem_of_getElem? (i := 0) rfl))), (List.forall_mem_cons.mpr ⟨(List.mem_cons_of_mem _ (List.mem_append_left _ (List.mem_of_getElem? (i := 10) rfl))), (fun _ h => absurd h List.not_mem_nil)⟩)⟩)⟩) (fun _ h => (List.mem_cons_of_mem _ (List.mem_append_right _ h))))⟩) (by decide +kernel)
set_option maxRecDepth 20000 in
theorem gX9_field_X9_begin : GoodIn wsX9_field (wsV RX9 59 RX9 yX9_begin wsX9_begin) := goodIn_app (goodIn_of _ (by decide +kernel)) ggX9_field_X9_begin
theorem dX9_field_0 : decode cX9_field 0 = .ok (.iload_n 1, 1) := by decide +kernel
theorem dX9_field_1 : decode cX9_field 1 = .ok (.iconst 5, 1) := by decide +kernel
theorem dX9_field_2 : decode cX9_field 2 = .ok (.sipush 199, 3) := by decide +kernel
theorem dX9_field_5 : decode cX9_field 5 = .ok (.invokestatic 62, 3) := by decide +kernel
theorem dX9_field_8 : decode cX9_field 8 = .ok (.istore_n 2, 1) := by decide +kernel
theorem dX9_field_9 : decode cX9_field 9 = .ok (.iconst 2, 1) := by decide +kernel
theorem dX9_field_10 : decode cX9_field 10 = .ok (.istore_n 3, 1) := by decide +kernel
theorem dX9_field_11 : decode cX9_field 11 = .ok (.iload_n 3, 1) := by decide +kernel
theorem dX9_field_12 : decode cX9_field 12 = .ok (.iload_n 3, 1) := by decide +kernel
theorem dX9_field_13 : decode cX9_field 13 = .ok (.imul, 1) := by decide +kernel
theorem dX9_field_14 : decode cX9_field 14 = .ok (.iload_n 1, 1) := by decide +kernel
theorem dX9_field_15 : decode cX9_field 15 = .ok (.if_icmp .gt 25, 3) := by decide +kernel
theorem dX9_field_18 : decode cX9_field 18 = .ok (.iload_n 2, 1) := by decide +kernel
theorem dX9_field_19 : decode cX9_field 19 = .ok (.ifCond .eq 21, 3) := by decide +kernel
theorem dX9_field_22 : decode cX9_field 22 = .ok (.iload_n 1, 1) := by decide +kernel
theorem dX9_field_23 : decode cX9_field 23 = .ok (.iload_n 3, 1) := by decide +kernel
theorem dX9_field_24 : decode cX9_field 24 = .ok (.irem, 1) := by decide +kernel
theorem dX9_field_25 : decode cX9_field 25 = .ok (.ifCond .eq 7, 3) := by decide +kernel
theorem dX9_field_28 : decode cX9_field 28 = .ok (.iconst 1, 1) := by decide +kernel
theorem dX9_field_29 : decode cX9_field 29 = .ok (.goto 4, 3) := by decide +kernel
theorem dX9_field_32 : decode cX9_field 32 = .ok (.iconst 0, 1) := by decide +kernel
theorem dX9_field_33 : decode cX9_field 33 = .ok (.istore_n 2, 1) := by decide +kernel
theorem dX9_field_34 : decode cX9_field 34 = .ok (.iinc 3 1, 3) := by decide +kernel
theorem dX9_field_37 : decode cX9_field 37 = .ok (.goto (-26), 3) := by decide +kernel
theorem dX9_field_40 : decode cX9_field 40 = .ok (.iload_n 2, 1) := by decide +kernel
theorem dX9_field_41 : decode cX9_field 41 = .ok (.ifCond .ne 6, 3) := by decide +kernel
theorem dX9_field_44 : decode cX9_field 44 = .ok (.bipush (-2), 2) := by decide +kernel
theorem dX9_field_46 : decode cX9_field 46 = .ok (.ireturn, 1) := by decide +kernel
theorem dX9_field_47 : decode cX9_field 47 = .ok (.aload_n 0, 1) := by decide +kernel
theorem dX9_field_48 : decode cX9_field 48 = .ok (.getfield 7, 3) := by decide +kernel
theorem dX9_field_51 : decode cX9_field 51 = .ok (.istore_n 3, 1) := by decide +kernel
theorem dX9_field_52 : decode cX9_field 52 = .ok (.aload_n 0, 1) := by decide +kernel
theorem dX9_field_53 : decode cX9_field 53 = .ok (.iload_n 1, 1) := by decide +kernel
theorem dX9_field_54 : decode cX9_field 54 = .ok (.putfield 7, 3) := by decide +kernel
theorem dX9_field_57 : decode cX9_field 57 = .ok (.aload_n 0, 1) := by decide +kernel
theorem dX9_field_58 : decode cX9_field 58 = .ok (.invokevirtual 59, 3) := by decide +kernel
theorem dX9_field_61 : decode cX9_field 61 = .ok (.iload_n 3, 1) := by decide +kernel
theorem dX9_field_62 : decode cX9_field 62 = .ok (.ireturn, 1) := by decide +kernel
set_option maxRecDepth 20000 in
theorem ggX9_round_X9_in : GoodIn wsX9_round wsX9_in := goodIn_sub (List.forall_mem_cons.mpr ⟨(List.mem_cons_of_mem _ (List.mem_append_left _ (List.mem_of_getElem? (i := 5) rfl))), (fun _ h => absurd h List.not_mem_nil)⟩) (by decide +kernel)
set_option maxRecDepth 20000 in
theorem gX9_round_X9_in : GoodIn wsX9_round (va_wsS RX9 62 yX9_in wsX9_in) := goodIn_app (goodIn_of _ (by decide +kernel)) ggX9_round_X9_in
set_option maxRecDepth 20000 in
theorem ggX9_round_X9_isNumber : GoodIn wsX9_round wsX9_isNumber := goodIn_sub (List.forall_mem_cons.mpr ⟨(List.mem_cons_of_mem _ (List.mem_append_left _ (List.mem_of_getElem? (i := 9) rfl))), (x_ap2 (List.forall_mem_cons.mpr ⟨(List.mem_cons_of_mem _ (List.mem_append_left _ (List.mem_of_getElem? (i := 10) rfl))), (List.forall_mem_cons.mpr ⟨(List.mem_cons_of_mem _ (List.mem_append_left _ (List.mem_of_getElem? (i := 2) rfl))), (List.forall_mem_cons.mpr ⟨(List.mem_cons_of_mem _ (List.mem_append_left _ (List.mem_of_getElem? (i := 3) rfl))), (List.forall_mem_cons.mpr ⟨(List.mem_cons_of_mem _ (List.mem_append_left _ (List.mem_of_getElem? (i := 4) rfl))), (List.forall_mem_cons.mpr ⟨(List.mem_cons_of_mem _ (List.mem_append_left _ (List.mem_of_getElem? (i := 5) rfl))), (fun _ h => absurd h List.not_mem_nil)⟩)⟩)⟩)⟩)⟩) (fun _ h => (List.mem_cons_of_mem _ (List.mem_append_right _ h))))⟩) (by decide +kernel)
set_option maxRecDepth 20000 in
theorem gX9_round_X9_isNumber : GoodIn wsX9_round (wsV RX9 70 RX9 yX9_isNumber wsX9_isNumber) := goodIn_app (goodIn_of _ (by decide +kernel)) ggX9_round_X9_isNumber
theorem dX9_round_0 : decode cX9_round 0 = .ok (.iload_n 1, 1) := by decide +kernel
theorem dX9_round_1 : decode cX9_round 1 = .ok (.iconst 0, 1) := by decide +kernel
theorem dX9_round_2 : decode cX9_round 2 = .ok (.iconst 1, 1) := by decide +kernel
theorem dX9_round_3 : decode cX9_round 3 = .ok (.invokestatic 62, 3) := by decide +kernel
theorem dX9_round_6 : decode cX9_round 6 = .ok (.ifCond .eq 59, 3) := by decide +kernel
theorem dX9_round_9 : decode cX9_round 9 = .ok (.aload_n 0, 1) := by decide +kernel
theorem dX9_round_10 : decode cX9_round 10 = .ok (.iload_n 2, 1) := by decide +kernel
theorem dX9_round_11 : decode cX9_round 11 = .ok (.invokevirtual 70, 3) := by decide +kernel
theorem dX9_round_14 : decode cX9_round 14 = .ok (.ifCond .eq 51, 3) := by decide +kernel
theorem dX9_round_17 : decode cX9_round 17 = .ok (.aload_n 0, 1) := by decide +kernel
theorem dX9_round_18 : decode cX9_round 18 = .ok (.iload_n 3, 1) := by decide +kernel
theorem dX9_round_19 : decode cX9_round 19 = .ok (.invokevirtual 70, 3) := by decide +kernel
theorem dX9_round_22 : decode cX9_round 22 = .ok (.ifCond .eq 43, 3) := by decide +kernel
theorem dX9_round_25 : decode cX9_round 25 = .ok (.aload_n 0, 1) := by decide +kernel
theorem dX9_round_26 : decode cX9_round 26 = .ok (.iload 4, 2) := by decide +kernel
theorem dX9_round_28 : decode cX9_round 28 = .ok (.invokevirtual 70, 3) := by decide +kernel
theorem dX9_round_31 : decode cX9_round 31 = .ok (.ifCond .eq 34, 3) := by decide +kernel
theorem dX9_round_34 : decode cX9_round 34 = .ok (.aload_n 0, 1) := by decide +kernel
theorem dX9_round_35 : decode cX9_round 35 = .ok (.iload 5, 2) := by decide +kernel
theorem dX9_round_37 : decode cX9_round 37 = .ok (.invokevirtual 70, 3) := by decide +kernel
theorem dX9_round_40 : decode cX9_round 40 = .ok (.ifCond .eq 25, 3) := by decide +kernel
theorem dX9_round_43 : decode cX9_round 43 = .ok (.aload_n 0, 1) := by decide +kernel
theorem dX9_round_44 : decode cX9_round 44 = .ok (.iload 6, 2) := by decide +kernel
theorem dX9_round_46 : decode cX9_round 46 = .ok (.invokevirtual 70, 3) := by decide +kernel
theorem dX9_round_49 : decode cX9_round 49 = .ok (.ifCond .eq 16, 3) := by decide +kernel
theorem dX9_round_52 : decode cX9_round 52 = .ok (.aload_n 0, 1) := by decide +kernel
theorem dX9_round_53 : decode cX9_round 53 = .ok (.iload 7, 2) := by decide +kernel
theorem dX9_round_55 : decode cX9_round 55 = .ok (.invokevirtual 70, 3) := by decide +kernel
theorem dX9_round_58 : decode cX9_round 58 = .ok (.ifCond .eq 7, 3) := by decide +kernel
theorem dX9_round_61 : decode cX9_round 61 = .ok (.iconst 1, 1) := by decide +kernel
theorem dX9_round_62 : decode cX9_round 62 = .ok (.goto 4, 3) := by decide +kernel
theorem dX9_round_65 : decode cX9_round 65 = .ok (.iconst 0, 1) := by decide +kernel
theorem dX9_round_66 : decode cX9_round 66 = .ok (.istore 8, 2) := by decide +kernel
theorem dX9_round_68 : decode cX9_round 68 = .ok (.iload 8, 2) := by decide +kernel
theorem dX9_round_70 : decode cX9_round 70 = .ok (.ifCond .ne 6, 3) := by decide +kernel
theorem dX9_round_73 : decode cX9_round 73 = .ok (.bipush (-2), 2) := by decide +kernel
theorem dX9_round_75 : decode cX9_round 75 = .ok (.ireturn, 1) := by decide +kernel
theorem dX9_round_76 : decode cX9_round 76 = .ok (.bipush 6, 2) := by decide +kernel
theorem dX9_round_78 : decode cX9_round 78 = .ok (.iload_n 1, 1) := by decide +kernel
theorem dX9_round_79 : decode cX9_round 79 = .ok (.imul, 1) := by decide +kernel
theorem dX9_round_80 : decode cX9_round 80 = .ok (.istore 9, 2) := by decide +kernel
theorem dX9_round_82 : decode cX9_round 82 = .ok (.aload_n 0, 1) := by decide +kernel
theorem dX9_round_83 : decode cX9_round 83 = .ok (.getfield 13, 3) := by decide +kernel
theorem dX9_round_86 : decode cX9_round 86 = .ok (.iload 9, 2) := by decide +kernel
theorem dX9_round_88 : decode cX9_round 88 = .ok (.iload_n 2, 1) := by decide +kernel
theorem dX9_round_89 : decode cX9_round 89 = .ok (.iastore, 1) := by decide +kernel
theorem dX9_round_90 : decode cX9_round 90 = .ok (.aload_n 0, 1) := by decide +kernel
theorem dX9_round_91 : decode cX9_round 91 = .ok (.getfield 13, 3) := by decide +kernel
theorem dX9_round_94 : decode cX9_round 94 = .ok (.iload 9, 2) := by decide +kernel
theorem dX9_round_96 : decode cX9_round 96 = .ok (.iconst 1, 1) := by decide +kernel
theorem dX9_round_97 : decode cX9_round 97 = .ok (.iadd, 1) := by decide +kernel
theorem dX9_round_98 : decode cX9_round 98 = .ok (.iload_n 3, 1) := by decide +kernel
theorem dX9_round_99 : decode cX9_round 99 = .ok (.iastore, 1) := by decide +kernel
theorem dX9_round_100 : decode cX9_round 100 = .ok (.aload_n 0, 1) := by decide +kernel
theorem dX9_round_101 : decode cX9_round 101 = .ok (.getfield 13, 3) := by decide +kernel
theorem dX9_round_104 : decode cX9_round 104 = .ok (.iload 9, 2) := by decide +kernel
theorem dX9_round_106 : decode cX9_round 106 = .ok (.iconst 2, 1) := by decide +kernel
theorem dX9_round_107 : decode cX9_round 107 = .ok (.iadd, 1) := by decide +kernel
theorem dX9_round_108 : decode cX9_round 108 = .ok (.iload 4, 2) := by decide +kernel
theorem dX9_round_110 : decode cX9_round 110 = .ok (.iastore, 1) := by decide +kernel
theorem dX9_round_111 : decode cX9_round 111 = .ok (.aload_n 0, 1) := by decide +kernel
theorem dX9_round_112 : decode cX9_round 112 = .ok (.getfield 13, 3) := by decide +kernel
theorem dX9_round_115 : decode cX9_round 115 = .ok (.iload 9, 2) := by decide +kernel
theorem dX9_round_117 : decode cX9_round 117 = .ok (.iconst 3, 1) := by decide +kernel
theorem dX9_round_118 : decode cX9_round 118 = .ok (.iadd, 1) := by decide +kernel
theorem dX9_round_119 : decode cX9_round 119 = .ok (.iload 5, 2) := by decide +kernel
theorem dX9_round_121 : decode cX9_round 121 = .ok (.iastore, 1) := by decide +kernel
theorem dX9_round_122 : decode cX9_round 122 = .ok (.aload_n 0, 1) := by decide +kernel
theorem dX9_round_123 : decode cX9_round 123 = .ok (.getfield 13, 3) := by decide +kernel
theorem dX9_round_126 : decode cX9_round 126 = .ok (.iload 9, 2) := by decide +kernel
theorem dX9_round_128 : decode cX9_round 128 = .ok (.iconst 4, 1) := by decide +kernel
theorem dX9_round_129 : decode cX9_round 129 = .ok (.iadd, 1) := by decide +kernel
theorem dX9_round_130 : decode cX9_round 130 = .ok (.iload 6, 2) := by decide +kernel
theorem dX9_round_132 : decode cX9_round 132 = .ok (.iastore, 1) := by decide +kernel
theorem dX9_round_133 : decode cX9_round 133 = .ok (.aload_n 0, 1) := by decide +kernel
theorem dX9_round_134 : decode cX9_round 134 = .ok (.getfield 13, 3) := by decide +kernel
theorem dX9_round_137 : decode cX9_round 137 = .ok (.iload 9, 2) := by decide +kernel
theorem dX9_round_139 : decode cX9_round 139 = .ok (.iconst 5, 1) := by decide +kernel
theorem dX9_round_140 : decode cX9_round 140 = .ok (.iadd, 1) := by decide +kernel
theorem dX9_round_141 : decode cX9_round 141 = .ok (.iload 7, 2) := by decide +kernel
theorem dX9_round_143 : decode cX9_round 143 = .ok (.iastore, 1) := by decide +kernel
theorem dX9_round_144 : decode cX9_round 144 = .ok (.aload_n 0, 1) := by decide +kernel
theorem dX9_round_145 : decode cX9_round 145 = .ok (.iconst 0, 1) := by decide +kernel
theorem dX9_round_146 : decode cX9_round 146 = .ok (.putfield 66, 3) := by decide +kernel
theorem dX9_round_149 : decode cX9_round 149 = .ok (.iconst 1, 1) := by decide +kernel
theorem dX9_round_150 : decode cX9_round 150 = .ok (.ireturn, 1) := by decide +kernel
set_option maxRecDepth 20000 in
theorem ggX9_given_X9_in : GoodIn wsX9_given wsX9_in := goodIn_sub (List.forall_mem_cons.mpr ⟨(List.mem_cons_of_mem _ (List.mem_append_left _ (List.mem_of_getElem? (i := 4) rfl))), (fun _ h => absurd h List.not_mem_nil)⟩) (by decide +kernel)
set_option maxRecDepth 20000 in
theorem gX9_given_X9_in : GoodIn wsX9_given (va_wsS RX9 62 yX9_in wsX9_in) := goodIn_app (goodIn_of _ (by decide +kernel)) ggX9_given_X9_in
theorem dX9_given_0 : decode cX9_given 0 = .ok (.iload_n 1, 1) := by decide +kernel
theorem dX9_given_1 : decode cX9_given 1 = .ok (.iconst 0, 1) := by decide +kernel
theorem dX9_given_2 : decode cX9_given 2 = .ok (.iconst 1, 1) := by decide +kernel
theorem dX9_given_3 : decode cX9_given 3 = .ok (.invokestatic 62, 3) := by decide +kernel
theorem dX9_given_6 : decode cX9_given 6 = .ok (.ifCond .eq 26, 3) := by decide +kernel
theorem dX9_given_9 : decode cX9_given 9 = .ok (.iload_n 2, 1) := by decide +kernel
theorem dX9_given_10 : decode cX9_given 10 = .ok (.iconst 0, 1) := by decide +kernel
theorem dX9_given_11 : decode cX9_given 11 = .ok (.iconst 5, 1) := by decide +kernel
theorem dX9_given_12 : decode cX9_given 12 = .ok (.invokestatic 62, 3) := by decide +kernel
theorem dX9_given_15 : decode cX9_given 15 = .ok (.ifCond .eq 17, 3) := by decide +kernel
theorem dX9_given_18 : decode cX9_given 18 = .ok (.aload_n 0, 1) := by decide +kernel
theorem dX9_given_19 : decode cX9_given 19 = .ok (.getfield 13, 3) := by decide +kernel
theorem dX9_given_22 : decode cX9_given 22 = .ok (.bipush 6, 2) := by decide +kernel
theorem dX9_given_24 : decode cX9_given 24 = .ok (.iload_n 1, 1) := by decide +kernel
theorem dX9_given_25 : decode cX9_given 25 = .ok (.imul, 1) := by decide +kernel
theorem dX9_given_26 : decode cX9_given 26 = .ok (.iload_n 2, 1) := by decide +kernel
theorem dX9_given_27 : decode cX9_given 27 = .ok (.iadd, 1) := by decide +kernel
theorem dX9_given_28 : decode cX9_given 28 = .ok (.iaload, 1) := by decide +kernel
theorem dX9_given_29 : decode cX9_given 29 = .ok (.goto 5, 3) := by decide +kernel
theorem dX9_given_32 : decode cX9_given 32 = .ok (.bipush (-2), 2) := by decide +kernel
theorem dX9_given_34 : decode cX9_given 34 = .ok (.ireturn, 1) := by decide +kernel
theorem dX9_of_0 : decode cX9_of 0 = .ok (.iload_n 1, 1) := by decide +kernel
theorem dX9_of_1 : decode cX9_of 1 = .ok (.aload_n 0, 1) := by decide +kernel
theorem dX9_of_2 : decode cX9_of 2 = .ok (.getfield 7, 3) := by decide +kernel
theorem dX9_of_5 : decode cX9_of 5 = .ok (.irem, 1) := by decide +kernel
theorem dX9_of_6 : decode cX9_of 6 = .ok (.istore_n 2, 1) := by decide +kernel
theorem dX9_of_7 : decode cX9_of 7 = .ok (.iload_n 2, 1) := by decide +kernel
theorem dX9_of_8 : decode cX9_of 8 = .ok (.ifCond .ge 12, 3) := by decide +kernel
theorem dX9_of_11 : decode cX9_of 11 = .ok (.iload_n 2, 1) := by decide +kernel
theorem dX9_of_12 : decode cX9_of 12 = .ok (.aload_n 0, 1) := by decide +kernel
theorem dX9_of_13 : decode cX9_of 13 = .ok (.getfield 7, 3) := by decide +kernel
theorem dX9_of_16 : decode cX9_of 16 = .ok (.iadd, 1) := by decide +kernel
theorem dX9_of_17 : decode cX9_of 17 = .ok (.goto 4, 3) := by decide +kernel
theorem dX9_of_20 : decode cX9_of 20 = .ok (.iload_n 2, 1) := by decide +kernel
theorem dX9_of_21 : decode cX9_of 21 = .ok (.ireturn, 1) := by decide +kernel
theorem dX9_power_0 : decode cX9_power 0 = .ok (.iconst 1, 1) := by decide +kernel
theorem dX9_power_1 : decode cX9_power 1 = .ok (.istore_n 3, 1) := by decide +kernel
theorem dX9_power_2 : decode cX9_power 2 = .ok (.iload_n 1, 1) := by decide +kernel
theorem dX9_power_3 : decode cX9_power 3 = .ok (.istore 4, 2) := by decide +kernel
theorem dX9_power_5 : decode cX9_power 5 = .ok (.iload_n 2, 1) := by decide +kernel
theorem dX9_power_6 : decode cX9_power 6 = .ok (.istore 5, 2) := by decide +kernel
theorem dX9_power_8 : decode cX9_power 8 = .ok (.iload 5, 2) := by decide +kernel
theorem dX9_power_10 : decode cX9_power 10 = .ok (.ifCond .le 46, 3) := by decide +kernel
theorem dX9_power_13 : decode cX9_power 13 = .ok (.iload 5, 2) := by decide +kernel
theorem dX9_power_15 : decode cX9_power 15 = .ok (.iconst 1, 1) := by decide +kernel
theorem dX9_power_16 : decode cX9_power 16 = .ok (.iand, 1) := by decide +kernel
theorem dX9_power_17 : decode cX9_power 17 = .ok (.iconst 1, 1) := by decide +kernel
theorem dX9_power_18 : decode cX9_power 18 = .ok (.if_icmp .ne 15, 3) := by decide +kernel
theorem dX9_power_21 : decode cX9_power 21 = .ok (.iload_n 3, 1) := by decide +kernel
theorem dX9_power_22 : decode cX9_power 22 = .ok (.iload 4, 2) := by decide +kernel
theorem dX9_power_24 : decode cX9_power 24 = .ok (.imul, 1) := by decide +kernel
theorem dX9_power_25 : decode cX9_power 25 = .ok (.aload_n 0, 1) := by decide +kernel
theorem dX9_power_26 : decode cX9_power 26 = .ok (.getfield 7, 3) := by decide +kernel
theorem dX9_power_29 : decode cX9_power 29 = .ok (.irem, 1) := by decide +kernel
theorem dX9_power_30 : decode cX9_power 30 = .ok (.goto 4, 3) := by decide +kernel
theorem dX9_power_33 : decode cX9_power 33 = .ok (.iload_n 3, 1) := by decide +kernel
theorem dX9_power_34 : decode cX9_power 34 = .ok (.istore_n 3, 1) := by decide +kernel
theorem dX9_power_35 : decode cX9_power 35 = .ok (.iload 4, 2) := by decide +kernel
theorem dX9_power_37 : decode cX9_power 37 = .ok (.iload 4, 2) := by decide +kernel
theorem dX9_power_39 : decode cX9_power 39 = .ok (.imul, 1) := by decide +kernel
theorem dX9_power_40 : decode cX9_power 40 = .ok (.aload_n 0, 1) := by decide +kernel
theorem dX9_power_41 : decode cX9_power 41 = .ok (.getfield 7, 3) := by decide +kernel
theorem dX9_power_44 : decode cX9_power 44 = .ok (.irem, 1) := by decide +kernel
theorem dX9_power_45 : decode cX9_power 45 = .ok (.istore 4, 2) := by decide +kernel
theorem dX9_power_47 : decode cX9_power 47 = .ok (.iload 5, 2) := by decide +kernel
theorem dX9_power_49 : decode cX9_power 49 = .ok (.iconst 1, 1) := by decide +kernel
theorem dX9_power_50 : decode cX9_power 50 = .ok (.ishr, 1) := by decide +kernel
theorem dX9_power_51 : decode cX9_power 51 = .ok (.istore 5, 2) := by decide +kernel
theorem dX9_power_53 : decode cX9_power 53 = .ok (.goto (-45), 3) := by decide +kernel
theorem dX9_power_56 : decode cX9_power 56 = .ok (.iload_n 3, 1) := by decide +kernel
theorem dX9_power_57 : decode cX9_power 57 = .ok (.ireturn, 1) := by decide +kernel
set_option maxRecDepth 20000 in
theorem ggX9_by_X9_power : GoodIn wsX9_by wsX9_power := goodIn_sub (List.forall_mem_cons.mpr ⟨(List.mem_cons_of_mem _ (List.mem_append_left _ (List.mem_of_getElem? (i := 5) rfl))), (x_ap2 (List.forall_mem_cons.mpr ⟨(List.mem_cons_of_mem _ (List.mem_append_left _ (List.mem_of_getElem? (i := 0) rfl))), (fun _ h => absurd h List.not_mem_nil)⟩) (fun _ h => (List.mem_cons_of_mem _ (List.mem_append_right _ h))))⟩) (by decide +kernel)
set_option maxRecDepth 20000 in
theorem gX9_by_X9_power : GoodIn wsX9_by (wsV RX9 74 RX9 yX9_power wsX9_power) := goodIn_app (goodIn_of _ (by decide +kernel)) ggX9_by_X9_power
theorem dX9_by_0 : decode cX9_by 0 = .ok (.iload_n 1, 1) := by decide +kernel
theorem dX9_by_1 : decode cX9_by 1 = .ok (.aload_n 0, 1) := by decide +kernel
theorem dX9_by_2 : decode cX9_by 2 = .ok (.iload_n 2, 1) := by decide +kernel
theorem dX9_by_3 : decode cX9_by 3 = .ok (.aload_n 0, 1) := by decide +kernel
theorem dX9_by_4 : decode cX9_by 4 = .ok (.getfield 7, 3) := by decide +kernel
theorem dX9_by_7 : decode cX9_by 7 = .ok (.iconst 2, 1) := by decide +kernel
theorem dX9_by_8 : decode cX9_by 8 = .ok (.isub, 1) := by decide +kernel
theorem dX9_by_9 : decode cX9_by 9 = .ok (.invokevirtual 74, 3) := by decide +kernel
theorem dX9_by_12 : decode cX9_by 12 = .ok (.imul, 1) := by decide +kernel
theorem dX9_by_13 : decode cX9_by 13 = .ok (.aload_n 0, 1) := by decide +kernel
theorem dX9_by_14 : decode cX9_by 14 = .ok (.getfield 7, 3) := by decide +kernel
theorem dX9_by_17 : decode cX9_by 17 = .ok (.irem, 1) := by decide +kernel
theorem dX9_by_18 : decode cX9_by 18 = .ok (.ireturn, 1) := by decide +kernel
set_option maxRecDepth 20000 in
theorem ggX9_work_X9_in : GoodIn wsX9_work wsX9_in := goodIn_sub (List.forall_mem_cons.mpr ⟨(List.mem_cons_of_mem _ (List.mem_append_left _ (List.mem_of_getElem? (i := 4) rfl))), (fun _ h => absurd h List.not_mem_nil)⟩) (by decide +kernel)
set_option maxRecDepth 20000 in
theorem gX9_work_X9_in : GoodIn wsX9_work (va_wsS RX9 62 yX9_in wsX9_in) := goodIn_app (goodIn_of _ (by decide +kernel)) ggX9_work_X9_in
set_option maxRecDepth 20000 in
theorem ggX9_work_X9_isNumber : GoodIn wsX9_work wsX9_isNumber := goodIn_sub (List.forall_mem_cons.mpr ⟨(List.mem_cons_of_mem _ (List.mem_append_left _ (List.mem_of_getElem? (i := 8) rfl))), (x_ap2 (List.forall_mem_cons.mpr ⟨(List.mem_cons_of_mem _ (List.mem_append_left _ (List.mem_of_getElem? (i := 0) rfl))), (List.forall_mem_cons.mpr ⟨(List.mem_cons_of_mem _ (List.mem_append_left _ (List.mem_of_getElem? (i := 1) rfl))), (List.forall_mem_cons.mpr ⟨(List.mem_cons_of_mem _ (List.mem_append_left _ (List.mem_of_getElem? (i := 2) rfl))), (List.forall_mem_cons.mpr ⟨(List.mem_cons_of_mem _ (List.mem_append_left _ (List.mem_of_getElem? (i := 3) rfl))), (List.forall_mem_cons.mpr ⟨(List.mem_cons_of_mem _ (List.mem_append_left _ (List.mem_of_getElem? (i := 4) rfl))), (fun _ h => absurd h List.not_mem_nil)⟩)⟩)⟩)⟩)⟩) (fun _ h => (List.mem_cons_of_mem _ (List.mem_append_right _ h))))⟩) (by decide +kernel)
set_option maxRecDepth 20000 in
theorem gX9_work_X9_isNumber : GoodIn wsX9_work (wsV RX9 70 RX9 yX9_isNumber wsX9_isNumber) := goodIn_app (goodIn_of _ (by decide +kernel)) ggX9_work_X9_isNumber
set_option maxRecDepth 20000 in
theorem ggX9_work_X9_by : GoodIn wsX9_work wsX9_by := goodIn_sub (List.forall_mem_cons.mpr ⟨(List.mem_cons_of_mem _ (List.mem_append_left _ (List.mem_of_getElem? (i := 12) rfl))), (x_ap2 (List.forall_mem_cons.mpr ⟨(List.mem_cons_of_mem _ (List.mem_append_left _ (List.mem_of_getElem? (i := 0) rfl))), (List.forall_mem_cons.mpr ⟨(List.mem_cons_of_mem _ (List.mem_append_left _ (List.mem_of_getElem? (i := 13) rfl))), (List.forall_mem_cons.mpr ⟨(List.mem_cons_of_mem _ (List.mem_append_left _ (List.mem_of_getElem? (i := 14) rfl))), (List.forall_mem_cons.mpr ⟨(List.mem_cons_of_mem _ (List.mem_append_left _ (List.mem_of_getElem? (i := 15) rfl))), (List.forall_mem_cons.mpr ⟨(List.mem_cons_of_mem _ (List.mem_append_left _ (List.mem_of_getElem? (i := 3) rfl))), (List.forall_mem_cons.mpr ⟨(List.mem_cons_of_mem _ (List.mem_append_left _ (List.mem_of_getElem? (i := 16) rfl))), (fun _ h => absurd h List.not_mem_nil)⟩)⟩)⟩)⟩)⟩)⟩) (fun _ h => (List.mem_cons_of_mem _ (List.mem_append_right _ h))))⟩) (by decide +kernel)
set_option maxRecDepth 20000 in
theorem gX9_work_X9_by : GoodIn wsX9_work (wsV RX9 78 RX9 yX9_by wsX9_by) := goodIn_app (goodIn_of _ (by decide +kernel)) ggX9_work_X9_by
theorem dX9_work_0 : decode cX9_work 0 = .ok (.iload_n 1, 1) := by decide +kernel
theorem dX9_work_1 : decode cX9_work 1 = .ok (.iconst 0, 1) := by decide +kernel
theorem dX9_work_2 : decode cX9_work 2 = .ok (.iconst 2, 1) := by decide +kernel
theorem dX9_work_3 : decode cX9_work 3 = .ok (.invokestatic 62, 3) := by decide +kernel
theorem dX9_work_6 : decode cX9_work 6 = .ok (.ifCond .eq 28, 3) := by decide +kernel
theorem dX9_work_9 : decode cX9_work 9 = .ok (.aload_n 0, 1) := by decide +kernel
theorem dX9_work_10 : decode cX9_work 10 = .ok (.iload_n 2, 1) := by decide +kernel
theorem dX9_work_11 : decode cX9_work 11 = .ok (.invokevirtual 70, 3) := by decide +kernel
theorem dX9_work_14 : decode cX9_work 14 = .ok (.ifCond .eq 20, 3) := by decide +kernel
theorem dX9_work_17 : decode cX9_work 17 = .ok (.aload_n 0, 1) := by decide +kernel
theorem dX9_work_18 : decode cX9_work 18 = .ok (.iload_n 3, 1) := by decide +kernel
theorem dX9_work_19 : decode cX9_work 19 = .ok (.invokevirtual 70, 3) := by decide +kernel
theorem dX9_work_22 : decode cX9_work 22 = .ok (.ifCond .eq 12, 3) := by decide +kernel
theorem dX9_work_25 : decode cX9_work 25 = .ok (.iload_n 1, 1) := by decide +kernel
theorem dX9_work_26 : decode cX9_work 26 = .ok (.iconst 2, 1) := by decide +kernel
theorem dX9_work_27 : decode cX9_work 27 = .ok (.if_icmp .ne 10, 3) := by decide +kernel
theorem dX9_work_30 : decode cX9_work 30 = .ok (.iload_n 3, 1) := by decide +kernel
theorem dX9_work_31 : decode cX9_work 31 = .ok (.ifCond .ne 6, 3) := by decide +kernel
theorem dX9_work_34 : decode cX9_work 34 = .ok (.bipush (-2), 2) := by decide +kernel
theorem dX9_work_36 : decode cX9_work 36 = .ok (.ireturn, 1) := by decide +kernel
theorem dX9_work_37 : decode cX9_work 37 = .ok (.iload_n 1, 1) := by decide +kernel
theorem dX9_work_38 : decode cX9_work 38 = .ok (.ifCond .ne 14, 3) := by decide +kernel
theorem dX9_work_41 : decode cX9_work 41 = .ok (.iload_n 2, 1) := by decide +kernel
theorem dX9_work_42 : decode cX9_work 42 = .ok (.iload_n 3, 1) := by decide +kernel
theorem dX9_work_43 : decode cX9_work 43 = .ok (.iadd, 1) := by decide +kernel
theorem dX9_work_44 : decode cX9_work 44 = .ok (.aload_n 0, 1) := by decide +kernel
theorem dX9_work_45 : decode cX9_work 45 = .ok (.getfield 7, 3) := by decide +kernel
theorem dX9_work_48 : decode cX9_work 48 = .ok (.irem, 1) := by decide +kernel
theorem dX9_work_49 : decode cX9_work 49 = .ok (.goto 25, 3) := by decide +kernel
theorem dX9_work_52 : decode cX9_work 52 = .ok (.iload_n 1, 1) := by decide +kernel
theorem dX9_work_53 : decode cX9_work 53 = .ok (.iconst 1, 1) := by decide +kernel
theorem dX9_work_54 : decode cX9_work 54 = .ok (.if_icmp .ne 14, 3) := by decide +kernel
theorem dX9_work_57 : decode cX9_work 57 = .ok (.iload_n 2, 1) := by decide +kernel
theorem dX9_work_58 : decode cX9_work 58 = .ok (.iload_n 3, 1) := by decide +kernel
theorem dX9_work_59 : decode cX9_work 59 = .ok (.imul, 1) := by decide +kernel
theorem dX9_work_60 : decode cX9_work 60 = .ok (.aload_n 0, 1) := by decide +kernel
theorem dX9_work_61 : decode cX9_work 61 = .ok (.getfield 7, 3) := by decide +kernel
theorem dX9_work_64 : decode cX9_work 64 = .ok (.irem, 1) := by decide +kernel
theorem dX9_work_65 : decode cX9_work 65 = .ok (.goto 9, 3) := by decide +kernel
theorem dX9_work_68 : decode cX9_work 68 = .ok (.aload_n 0, 1) := by decide +kernel
theorem dX9_work_69 : decode cX9_work 69 = .ok (.iload_n 2, 1) := by decide +kernel
theorem dX9_work_70 : decode cX9_work 70 = .ok (.iload_n 3, 1) := by decide +kernel
theorem dX9_work_71 : decode cX9_work 71 = .ok (.invokevirtual 78, 3) := by decide +kernel
theorem dX9_work_74 : decode cX9_work 74 = .ok (.ireturn, 1) := by decide +kernel
theorem dX9_rootOf_0 : decode cX9_rootOf 0 = .ok (.iconst 0, 1) := by decide +kernel
theorem dX9_rootOf_1 : decode cX9_rootOf 1 = .ok (.istore_n 2, 1) := by decide +kernel
theorem dX9_rootOf_2 : decode cX9_rootOf 2 = .ok (.iload_n 2, 1) := by decide +kernel
theorem dX9_rootOf_3 : decode cX9_rootOf 3 = .ok (.aload_n 0, 1) := by decide +kernel
theorem dX9_rootOf_4 : decode cX9_rootOf 4 = .ok (.getfield 7, 3) := by decide +kernel
theorem dX9_rootOf_7 : decode cX9_rootOf 7 = .ok (.iconst 2, 1) := by decide +kernel
theorem dX9_rootOf_8 : decode cX9_rootOf 8 = .ok (.idiv, 1) := by decide +kernel
theorem dX9_rootOf_9 : decode cX9_rootOf 9 = .ok (.if_icmp .gt 23, 3) := by decide +kernel
theorem dX9_rootOf_12 : decode cX9_rootOf 12 = .ok (.iload_n 2, 1) := by decide +kernel
theorem dX9_rootOf_13 : decode cX9_rootOf 13 = .ok (.iload_n 2, 1) := by decide +kernel
theorem dX9_rootOf_14 : decode cX9_rootOf 14 = .ok (.imul, 1) := by decide +kernel
theorem dX9_rootOf_15 : decode cX9_rootOf 15 = .ok (.aload_n 0, 1) := by decide +kernel
theorem dX9_rootOf_16 : decode cX9_rootOf 16 = .ok (.getfield 7, 3) := by decide +kernel
theorem dX9_rootOf_19 : decode cX9_rootOf 19 = .ok (.irem, 1) := by decide +kernel
theorem dX9_rootOf_20 : decode cX9_rootOf 20 = .ok (.iload_n 1, 1) := by decide +kernel
theorem dX9_rootOf_21 : decode cX9_rootOf 21 = .ok (.if_icmp .ne 5, 3) := by decide +kernel
theorem dX9_rootOf_24 : decode cX9_rootOf 24 = .ok (.iload_n 2, 1) := by decide +kernel
theorem dX9_rootOf_25 : decode cX9_rootOf 25 = .ok (.ireturn, 1) := by decide +kernel
theorem dX9_rootOf_26 : decode cX9_rootOf 26 = .ok (.iinc 2 1, 3) := by decide +kernel
theorem dX9_rootOf_29 : decode cX9_rootOf 29 = .ok (.goto (-27), 3) := by decide +kernel
theorem dX9_rootOf_32 : decode cX9_rootOf 32 = .ok (.bipush (-6), 2) := by decide +kernel
theorem dX9_rootOf_34 : decode cX9_rootOf 34 = .ok (.ireturn, 1) := by decide +kernel
set_option maxRecDepth 20000 in
theorem ggX9_root_X9_isNumber : GoodIn wsX9_root wsX9_isNumber := goodIn_sub (List.forall_mem_cons.mpr ⟨(List.mem_cons_of_mem _ (List.mem_append_left _ (List.mem_of_getElem? (i := 4) rfl))), (x_ap2 (List.forall_mem_cons.mpr ⟨(List.mem_cons_of_mem _ (List.mem_append_left _ (List.mem_of_getElem? (i := 5) rfl))), (List.forall_mem_cons.mpr ⟨(List.mem_cons_of_mem _ (List.mem_append_left _ (List.mem_of_getElem? (i := 6) rfl))), (List.forall_mem_cons.mpr ⟨(List.mem_cons_of_mem _ (List.mem_append_left _ (List.mem_of_getElem? (i := 7) rfl))), (List.forall_mem_cons.mpr ⟨(List.mem_cons_of_mem _ (List.mem_append_left _ (List.mem_of_getElem? (i := 3) rfl))), (List.forall_mem_cons.mpr ⟨(List.mem_cons_of_mem _ (List.mem_append_left _ (List.mem_of_getElem? (i := 8) rfl))), (fun _ h => absurd h List.not_mem_nil)⟩)⟩)⟩)⟩)⟩) (fun _ h => (List.mem_cons_of_mem _ (List.mem_append_right _ h))))⟩) (by decide +kernel)
set_option maxRecDepth 20000 in
theorem gX9_root_X9_isNumber : GoodIn wsX9_root (wsV RX9 70 RX9 yX9_isNumber wsX9_isNumber) := goodIn_app (goodIn_of _ (by decide +kernel)) ggX9_root_X9_isNumber
set_option maxRecDepth 20000 in
theorem ggX9_root_X9_rootOf : GoodIn wsX9_root wsX9_rootOf := goodIn_sub (List.forall_mem_cons.mpr ⟨(List.mem_cons_of_mem _ (List.mem_append_left _ (List.mem_of_getElem? (i := 12) rfl))), (x_ap2 (List.forall_mem_cons.mpr ⟨(List.mem_cons_of_mem _ (List.mem_append_left _ (List.mem_of_getElem? (i := 5) rfl))), (fun _ h => absurd h List.not_mem_nil)⟩) (fun _ h => (List.mem_cons_of_mem _ (List.mem_append_right _ h))))⟩) (by decide +kernel)
set_option maxRecDepth 20000 in
theorem gX9_root_X9_rootOf : GoodIn wsX9_root (wsV RX9 81 RX9 yX9_rootOf wsX9_rootOf) := goodIn_app (goodIn_of _ (by decide +kernel)) ggX9_root_X9_rootOf
theorem dX9_root_0 : decode cX9_root 0 = .ok (.aload_n 0, 1) := by decide +kernel
theorem dX9_root_1 : decode cX9_root 1 = .ok (.iload_n 1, 1) := by decide +kernel
theorem dX9_root_2 : decode cX9_root 2 = .ok (.invokevirtual 70, 3) := by decide +kernel
theorem dX9_root_5 : decode cX9_root 5 = .ok (.ifCond .eq 11, 3) := by decide +kernel
theorem dX9_root_8 : decode cX9_root 8 = .ok (.aload_n 0, 1) := by decide +kernel
theorem dX9_root_9 : decode cX9_root 9 = .ok (.iload_n 1, 1) := by decide +kernel
theorem dX9_root_10 : decode cX9_root 10 = .ok (.invokevirtual 81, 3) := by decide +kernel
theorem dX9_root_13 : decode cX9_root 13 = .ok (.goto 5, 3) := by decide +kernel
theorem dX9_root_16 : decode cX9_root 16 = .ok (.bipush (-2), 2) := by decide +kernel
theorem dX9_root_18 : decode cX9_root 18 = .ok (.ireturn, 1) := by decide +kernel
set_option maxRecDepth 20000 in
theorem ggX9_mixOf_X9_of : GoodIn wsX9_mixOf wsX9_of := goodIn_sub (List.forall_mem_cons.mpr ⟨(List.mem_cons_of_mem _ (List.mem_append_left _ (List.mem_of_getElem? (i := 6) rfl))), (x_ap2 (List.forall_mem_cons.mpr ⟨(List.mem_cons_of_mem _ (List.mem_append_left _ (List.mem_of_getElem? (i := 7) rfl))), (fun _ h => absurd h List.not_mem_nil)⟩) (fun _ h => (List.mem_cons_of_mem _ (List.mem_append_right _ h))))⟩) (by decide +kernel)
set_option maxRecDepth 20000 in
theorem gX9_mixOf_X9_of : GoodIn wsX9_mixOf (wsV RX9 85 RX9 yX9_of wsX9_of) := goodIn_app (goodIn_of _ (by decide +kernel)) ggX9_mixOf_X9_of
theorem dX9_mixOf_0 : decode cX9_mixOf 0 = .ok (.iconst 0, 1) := by decide +kernel
theorem dX9_mixOf_1 : decode cX9_mixOf 1 = .ok (.istore_n 3, 1) := by decide +kernel
theorem dX9_mixOf_2 : decode cX9_mixOf 2 = .ok (.iload_n 3, 1) := by decide +kernel
theorem dX9_mixOf_3 : decode cX9_mixOf 3 = .ok (.bipush 6, 2) := by decide +kernel
theorem dX9_mixOf_5 : decode cX9_mixOf 5 = .ok (.if_icmp .ge 39, 3) := by decide +kernel
theorem dX9_mixOf_8 : decode cX9_mixOf 8 = .ok (.aload_n 0, 1) := by decide +kernel
theorem dX9_mixOf_9 : decode cX9_mixOf 9 = .ok (.getfield 50, 3) := by decide +kernel
theorem dX9_mixOf_12 : decode cX9_mixOf 12 = .ok (.iload_n 3, 1) := by decide +kernel
theorem dX9_mixOf_13 : decode cX9_mixOf 13 = .ok (.aload_n 0, 1) := by decide +kernel
theorem dX9_mixOf_14 : decode cX9_mixOf 14 = .ok (.iload_n 1, 1) := by decide +kernel
theorem dX9_mixOf_15 : decode cX9_mixOf 15 = .ok (.aload_n 0, 1) := by decide +kernel
theorem dX9_mixOf_16 : decode cX9_mixOf 16 = .ok (.getfield 13, 3) := by decide +kernel
theorem dX9_mixOf_19 : decode cX9_mixOf 19 = .ok (.iload_n 3, 1) := by decide +kernel
theorem dX9_mixOf_20 : decode cX9_mixOf 20 = .ok (.iaload, 1) := by decide +kernel
theorem dX9_mixOf_21 : decode cX9_mixOf 21 = .ok (.imul, 1) := by decide +kernel
theorem dX9_mixOf_22 : decode cX9_mixOf 22 = .ok (.iload_n 2, 1) := by decide +kernel
theorem dX9_mixOf_23 : decode cX9_mixOf 23 = .ok (.aload_n 0, 1) := by decide +kernel
theorem dX9_mixOf_24 : decode cX9_mixOf 24 = .ok (.getfield 13, 3) := by decide +kernel
theorem dX9_mixOf_27 : decode cX9_mixOf 27 = .ok (.bipush 6, 2) := by decide +kernel
theorem dX9_mixOf_29 : decode cX9_mixOf 29 = .ok (.iload_n 3, 1) := by decide +kernel
theorem dX9_mixOf_30 : decode cX9_mixOf 30 = .ok (.iadd, 1) := by decide +kernel
theorem dX9_mixOf_31 : decode cX9_mixOf 31 = .ok (.iaload, 1) := by decide +kernel
theorem dX9_mixOf_32 : decode cX9_mixOf 32 = .ok (.imul, 1) := by decide +kernel
theorem dX9_mixOf_33 : decode cX9_mixOf 33 = .ok (.iadd, 1) := by decide +kernel
theorem dX9_mixOf_34 : decode cX9_mixOf 34 = .ok (.invokevirtual 85, 3) := by decide +kernel
theorem dX9_mixOf_37 : decode cX9_mixOf 37 = .ok (.iastore, 1) := by decide +kernel
theorem dX9_mixOf_38 : decode cX9_mixOf 38 = .ok (.iinc 3 1, 3) := by decide +kernel
theorem dX9_mixOf_41 : decode cX9_mixOf 41 = .ok (.goto (-39), 3) := by decide +kernel
theorem dX9_mixOf_44 : decode cX9_mixOf 44 = .ok (.return_, 1) := by decide +kernel
set_option maxRecDepth 20000 in
theorem ggX9_cofactorOf_X9_of : GoodIn wsX9_cofactorOf wsX9_of := goodIn_sub (List.forall_mem_cons.mpr ⟨(List.mem_cons_of_mem _ (List.mem_append_left _ (List.mem_of_getElem? (i := 5) rfl))), (x_ap2 (List.forall_mem_cons.mpr ⟨(List.mem_cons_of_mem _ (List.mem_append_left _ (List.mem_of_getElem? (i := 6) rfl))), (fun _ h => absurd h List.not_mem_nil)⟩) (fun _ h => (List.mem_cons_of_mem _ (List.mem_append_right _ h))))⟩) (by decide +kernel)
set_option maxRecDepth 20000 in
theorem gX9_cofactorOf_X9_of : GoodIn wsX9_cofactorOf (wsV RX9 85 RX9 yX9_of wsX9_of) := goodIn_app (goodIn_of _ (by decide +kernel)) ggX9_cofactorOf_X9_of
theorem dX9_cofactorOf_0 : decode cX9_cofactorOf 0 = .ok (.aload_n 1, 1) := by decide +kernel
theorem dX9_cofactorOf_1 : decode cX9_cofactorOf 1 = .ok (.iload_n 2, 1) := by decide +kernel
theorem dX9_cofactorOf_2 : decode cX9_cofactorOf 2 = .ok (.iaload, 1) := by decide +kernel
theorem dX9_cofactorOf_3 : decode cX9_cofactorOf 3 = .ok (.istore_n 3, 1) := by decide +kernel
theorem dX9_cofactorOf_4 : decode cX9_cofactorOf 4 = .ok (.aload_n 1, 1) := by decide +kernel
theorem dX9_cofactorOf_5 : decode cX9_cofactorOf 5 = .ok (.iload_n 2, 1) := by decide +kernel
theorem dX9_cofactorOf_6 : decode cX9_cofactorOf 6 = .ok (.iconst 1, 1) := by decide +kernel
theorem dX9_cofactorOf_7 : decode cX9_cofactorOf 7 = .ok (.iadd, 1) := by decide +kernel
theorem dX9_cofactorOf_8 : decode cX9_cofactorOf 8 = .ok (.iaload, 1) := by decide +kernel
theorem dX9_cofactorOf_9 : decode cX9_cofactorOf 9 = .ok (.istore 4, 2) := by decide +kernel
theorem dX9_cofactorOf_11 : decode cX9_cofactorOf 11 = .ok (.aload_n 1, 1) := by decide +kernel
theorem dX9_cofactorOf_12 : decode cX9_cofactorOf 12 = .ok (.iload_n 2, 1) := by decide +kernel
theorem dX9_cofactorOf_13 : decode cX9_cofactorOf 13 = .ok (.iconst 2, 1) := by decide +kernel
theorem dX9_cofactorOf_14 : decode cX9_cofactorOf 14 = .ok (.iadd, 1) := by decide +kernel
theorem dX9_cofactorOf_15 : decode cX9_cofactorOf 15 = .ok (.iaload, 1) := by decide +kernel
theorem dX9_cofactorOf_16 : decode cX9_cofactorOf 16 = .ok (.istore 5, 2) := by decide +kernel
theorem dX9_cofactorOf_18 : decode cX9_cofactorOf 18 = .ok (.aload_n 1, 1) := by decide +kernel
theorem dX9_cofactorOf_19 : decode cX9_cofactorOf 19 = .ok (.iload_n 2, 1) := by decide +kernel
theorem dX9_cofactorOf_20 : decode cX9_cofactorOf 20 = .ok (.iconst 3, 1) := by decide +kernel
theorem dX9_cofactorOf_21 : decode cX9_cofactorOf 21 = .ok (.iadd, 1) := by decide +kernel
theorem dX9_cofactorOf_22 : decode cX9_cofactorOf 22 = .ok (.iaload, 1) := by decide +kernel
theorem dX9_cofactorOf_23 : decode cX9_cofactorOf 23 = .ok (.istore 6, 2) := by decide +kernel
theorem dX9_cofactorOf_25 : decode cX9_cofactorOf 25 = .ok (.aload_n 1, 1) := by decide +kernel
theorem dX9_cofactorOf_26 : decode cX9_cofactorOf 26 = .ok (.iload_n 2, 1) := by decide +kernel
theorem dX9_cofactorOf_27 : decode cX9_cofactorOf 27 = .ok (.iconst 4, 1) := by decide +kernel
theorem dX9_cofactorOf_28 : decode cX9_cofactorOf 28 = .ok (.iadd, 1) := by decide +kernel
theorem dX9_cofactorOf_29 : decode cX9_cofactorOf 29 = .ok (.iaload, 1) := by decide +kernel
theorem dX9_cofactorOf_30 : decode cX9_cofactorOf 30 = .ok (.istore 7, 2) := by decide +kernel
theorem dX9_cofactorOf_32 : decode cX9_cofactorOf 32 = .ok (.aload_n 1, 1) := by decide +kernel
theorem dX9_cofactorOf_33 : decode cX9_cofactorOf 33 = .ok (.iload_n 2, 1) := by decide +kernel
theorem dX9_cofactorOf_34 : decode cX9_cofactorOf 34 = .ok (.iconst 5, 1) := by decide +kernel
theorem dX9_cofactorOf_35 : decode cX9_cofactorOf 35 = .ok (.iadd, 1) := by decide +kernel
theorem dX9_cofactorOf_36 : decode cX9_cofactorOf 36 = .ok (.iaload, 1) := by decide +kernel
theorem dX9_cofactorOf_37 : decode cX9_cofactorOf 37 = .ok (.istore 8, 2) := by decide +kernel
theorem dX9_cofactorOf_39 : decode cX9_cofactorOf 39 = .ok (.aload_n 0, 1) := by decide +kernel
theorem dX9_cofactorOf_40 : decode cX9_cofactorOf 40 = .ok (.getfield 53, 3) := by decide +kernel
theorem dX9_cofactorOf_43 : decode cX9_cofactorOf 43 = .ok (.iconst 0, 1) := by decide +kernel
theorem dX9_cofactorOf_44 : decode cX9_cofactorOf 44 = .ok (.aload_n 0, 1) := by decide +kernel
theorem dX9_cofactorOf_45 : decode cX9_cofactorOf 45 = .ok (.iload 4, 2) := by decide +kernel
theorem dX9_cofactorOf_47 : decode cX9_cofactorOf 47 = .ok (.iload 5, 2) := by decide +kernel
theorem dX9_cofactorOf_49 : decode cX9_cofactorOf 49 = .ok (.imul, 1) := by decide +kernel
theorem dX9_cofactorOf_50 : decode cX9_cofactorOf 50 = .ok (.iload 6, 2) := by decide +kernel
theorem dX9_cofactorOf_52 : decode cX9_cofactorOf 52 = .ok (.iload 6, 2) := by decide +kernel
theorem dX9_cofactorOf_54 : decode cX9_cofactorOf 54 = .ok (.imul, 1) := by decide +kernel
theorem dX9_cofactorOf_55 : decode cX9_cofactorOf 55 = .ok (.isub, 1) := by decide +kernel
theorem dX9_cofactorOf_56 : decode cX9_cofactorOf 56 = .ok (.invokevirtual 85, 3) := by decide +kernel
theorem dX9_cofactorOf_59 : decode cX9_cofactorOf 59 = .ok (.iastore, 1) := by decide +kernel
theorem dX9_cofactorOf_60 : decode cX9_cofactorOf 60 = .ok (.aload_n 0, 1) := by decide +kernel
theorem dX9_cofactorOf_61 : decode cX9_cofactorOf 61 = .ok (.getfield 53, 3) := by decide +kernel
theorem dX9_cofactorOf_64 : decode cX9_cofactorOf 64 = .ok (.iconst 1, 1) := by decide +kernel
theorem dX9_cofactorOf_65 : decode cX9_cofactorOf 65 = .ok (.aload_n 0, 1) := by decide +kernel
theorem dX9_cofactorOf_66 : decode cX9_cofactorOf 66 = .ok (.iload_n 3, 1) := by decide +kernel
theorem dX9_cofactorOf_67 : decode cX9_cofactorOf 67 = .ok (.iload 5, 2) := by decide +kernel
theorem dX9_cofactorOf_69 : decode cX9_cofactorOf 69 = .ok (.imul, 1) := by decide +kernel
theorem dX9_cofactorOf_70 : decode cX9_cofactorOf 70 = .ok (.iload 7, 2) := by decide +kernel
theorem dX9_cofactorOf_72 : decode cX9_cofactorOf 72 = .ok (.iload 7, 2) := by decide +kernel
theorem dX9_cofactorOf_74 : decode cX9_cofactorOf 74 = .ok (.imul, 1) := by decide +kernel
theorem dX9_cofactorOf_75 : decode cX9_cofactorOf 75 = .ok (.isub, 1) := by decide +kernel
theorem dX9_cofactorOf_76 : decode cX9_cofactorOf 76 = .ok (.invokevirtual 85, 3) := by decide +kernel
theorem dX9_cofactorOf_79 : decode cX9_cofactorOf 79 = .ok (.iastore, 1) := by decide +kernel
theorem dX9_cofactorOf_80 : decode cX9_cofactorOf 80 = .ok (.aload_n 0, 1) := by decide +kernel
theorem dX9_cofactorOf_81 : decode cX9_cofactorOf 81 = .ok (.getfield 53, 3) := by decide +kernel
theorem dX9_cofactorOf_84 : decode cX9_cofactorOf 84 = .ok (.iconst 2, 1) := by decide +kernel
theorem dX9_cofactorOf_85 : decode cX9_cofactorOf 85 = .ok (.aload_n 0, 1) := by decide +kernel
theorem dX9_cofactorOf_86 : decode cX9_cofactorOf 86 = .ok (.iload_n 3, 1) := by decide +kernel
theorem dX9_cofactorOf_87 : decode cX9_cofactorOf 87 = .ok (.iload 4, 2) := by decide +kernel
theorem dX9_cofactorOf_89 : decode cX9_cofactorOf 89 = .ok (.imul, 1) := by decide +kernel
theorem dX9_cofactorOf_90 : decode cX9_cofactorOf 90 = .ok (.iload 8, 2) := by decide +kernel
theorem dX9_cofactorOf_92 : decode cX9_cofactorOf 92 = .ok (.iload 8, 2) := by decide +kernel
theorem dX9_cofactorOf_94 : decode cX9_cofactorOf 94 = .ok (.imul, 1) := by decide +kernel
theorem dX9_cofactorOf_95 : decode cX9_cofactorOf 95 = .ok (.isub, 1) := by decide +kernel
theorem dX9_cofactorOf_96 : decode cX9_cofactorOf 96 = .ok (.invokevirtual 85, 3) := by decide +kernel
theorem dX9_cofactorOf_99 : decode cX9_cofactorOf 99 = .ok (.iastore, 1) := by decide +kernel
theorem dX9_cofactorOf_100 : decode cX9_cofactorOf 100 = .ok (.aload_n 0, 1) := by decide +kernel
theorem dX9_cofactorOf_101 : decode cX9_cofactorOf 101 = .ok (.getfield 53, 3) := by decide +kernel
theorem dX9_cofactorOf_104 : decode cX9_cofactorOf 104 = .ok (.iconst 3, 1) := by decide +kernel
theorem dX9_cofactorOf_105 : decode cX9_cofactorOf 105 = .ok (.aload_n 0, 1) := by decide +kernel
theorem dX9_cofactorOf_106 : decode cX9_cofactorOf 106 = .ok (.iload 7, 2) := by decide +kernel
theorem dX9_cofactorOf_108 : decode cX9_cofactorOf 108 = .ok (.iload 8, 2) := by decide +kernel
theorem dX9_cofactorOf_110 : decode cX9_cofactorOf 110 = .ok (.imul, 1) := by decide +kernel
theorem dX9_cofactorOf_111 : decode cX9_cofactorOf 111 = .ok (.iload_n 3, 1) := by decide +kernel
theorem dX9_cofactorOf_112 : decode cX9_cofactorOf 112 = .ok (.iload 6, 2) := by decide +kernel
theorem dX9_cofactorOf_114 : decode cX9_cofactorOf 114 = .ok (.imul, 1) := by decide +kernel
theorem dX9_cofactorOf_115 : decode cX9_cofactorOf 115 = .ok (.isub, 1) := by decide +kernel
theorem dX9_cofactorOf_116 : decode cX9_cofactorOf 116 = .ok (.invokevirtual 85, 3) := by decide +kernel
theorem dX9_cofactorOf_119 : decode cX9_cofactorOf 119 = .ok (.iastore, 1) := by decide +kernel
theorem dX9_cofactorOf_120 : decode cX9_cofactorOf 120 = .ok (.aload_n 0, 1) := by decide +kernel
theorem dX9_cofactorOf_121 : decode cX9_cofactorOf 121 = .ok (.getfield 53, 3) := by decide +kernel
theorem dX9_cofactorOf_124 : decode cX9_cofactorOf 124 = .ok (.iconst 4, 1) := by decide +kernel
theorem dX9_cofactorOf_125 : decode cX9_cofactorOf 125 = .ok (.aload_n 0, 1) := by decide +kernel
theorem dX9_cofactorOf_126 : decode cX9_cofactorOf 126 = .ok (.iload 6, 2) := by decide +kernel
theorem dX9_cofactorOf_128 : decode cX9_cofactorOf 128 = .ok (.iload 8, 2) := by decide +kernel
theorem dX9_cofactorOf_130 : decode cX9_cofactorOf 130 = .ok (.imul, 1) := by decide +kernel
theorem dX9_cofactorOf_131 : decode cX9_cofactorOf 131 = .ok (.iload 4, 2) := by decide +kernel
theorem dX9_cofactorOf_133 : decode cX9_cofactorOf 133 = .ok (.iload 7, 2) := by decide +kernel
theorem dX9_cofactorOf_135 : decode cX9_cofactorOf 135 = .ok (.imul, 1) := by decide +kernel
theorem dX9_cofactorOf_136 : decode cX9_cofactorOf 136 = .ok (.isub, 1) := by decide +kernel
theorem dX9_cofactorOf_137 : decode cX9_cofactorOf 137 = .ok (.invokevirtual 85, 3) := by decide +kernel
theorem dX9_cofactorOf_140 : decode cX9_cofactorOf 140 = .ok (.iastore, 1) := by decide +kernel
theorem dX9_cofactorOf_141 : decode cX9_cofactorOf 141 = .ok (.aload_n 0, 1) := by decide +kernel
theorem dX9_cofactorOf_142 : decode cX9_cofactorOf 142 = .ok (.getfield 53, 3) := by decide +kernel
theorem dX9_cofactorOf_145 : decode cX9_cofactorOf 145 = .ok (.iconst 5, 1) := by decide +kernel
theorem dX9_cofactorOf_146 : decode cX9_cofactorOf 146 = .ok (.aload_n 0, 1) := by decide +kernel
theorem dX9_cofactorOf_147 : decode cX9_cofactorOf 147 = .ok (.iload 6, 2) := by decide +kernel
theorem dX9_cofactorOf_149 : decode cX9_cofactorOf 149 = .ok (.iload 7, 2) := by decide +kernel
theorem dX9_cofactorOf_151 : decode cX9_cofactorOf 151 = .ok (.imul, 1) := by decide +kernel
theorem dX9_cofactorOf_152 : decode cX9_cofactorOf 152 = .ok (.iload 5, 2) := by decide +kernel
theorem dX9_cofactorOf_154 : decode cX9_cofactorOf 154 = .ok (.iload 8, 2) := by decide +kernel
theorem dX9_cofactorOf_156 : decode cX9_cofactorOf 156 = .ok (.imul, 1) := by decide +kernel
theorem dX9_cofactorOf_157 : decode cX9_cofactorOf 157 = .ok (.isub, 1) := by decide +kernel
theorem dX9_cofactorOf_158 : decode cX9_cofactorOf 158 = .ok (.invokevirtual 85, 3) := by decide +kernel
theorem dX9_cofactorOf_161 : decode cX9_cofactorOf 161 = .ok (.iastore, 1) := by decide +kernel
theorem dX9_cofactorOf_162 : decode cX9_cofactorOf 162 = .ok (.return_, 1) := by decide +kernel
set_option maxRecDepth 20000 in
theorem ggX9_both_X9_of : GoodIn wsX9_both wsX9_of := goodIn_sub (List.forall_mem_cons.mpr ⟨(List.mem_cons_of_mem _ (List.mem_append_left _ (List.mem_of_getElem? (i := 4) rfl))), (x_ap2 (List.forall_mem_cons.mpr ⟨(List.mem_cons_of_mem _ (List.mem_append_left _ (List.mem_of_getElem? (i := 5) rfl))), (fun _ h => absurd h List.not_mem_nil)⟩) (fun _ h => (List.mem_cons_of_mem _ (List.mem_append_right _ h))))⟩) (by decide +kernel)
set_option maxRecDepth 20000 in
theorem gX9_both_X9_of : GoodIn wsX9_both (wsV RX9 85 RX9 yX9_of wsX9_of) := goodIn_app (goodIn_of _ (by decide +kernel)) ggX9_both_X9_of
theorem dX9_both_0 : decode cX9_both 0 = .ok (.aload_n 0, 1) := by decide +kernel
theorem dX9_both_1 : decode cX9_both 1 = .ok (.aload_n 1, 1) := by decide +kernel
theorem dX9_both_2 : decode cX9_both 2 = .ok (.iload_n 2, 1) := by decide +kernel
theorem dX9_both_3 : decode cX9_both 3 = .ok (.iaload, 1) := by decide +kernel
theorem dX9_both_4 : decode cX9_both 4 = .ok (.iload_n 3, 1) := by decide +kernel
theorem dX9_both_5 : decode cX9_both 5 = .ok (.imul, 1) := by decide +kernel
theorem dX9_both_6 : decode cX9_both 6 = .ok (.aload_n 1, 1) := by decide +kernel
theorem dX9_both_7 : decode cX9_both 7 = .ok (.iload_n 2, 1) := by decide +kernel
theorem dX9_both_8 : decode cX9_both 8 = .ok (.iconst 5, 1) := by decide +kernel
theorem dX9_both_9 : decode cX9_both 9 = .ok (.iadd, 1) := by decide +kernel
theorem dX9_both_10 : decode cX9_both 10 = .ok (.iaload, 1) := by decide +kernel
theorem dX9_both_11 : decode cX9_both 11 = .ok (.iload 4, 2) := by decide +kernel
theorem dX9_both_13 : decode cX9_both 13 = .ok (.imul, 1) := by decide +kernel
theorem dX9_both_14 : decode cX9_both 14 = .ok (.iadd, 1) := by decide +kernel
theorem dX9_both_15 : decode cX9_both 15 = .ok (.aload_n 1, 1) := by decide +kernel
theorem dX9_both_16 : decode cX9_both 16 = .ok (.iload_n 2, 1) := by decide +kernel
theorem dX9_both_17 : decode cX9_both 17 = .ok (.iconst 4, 1) := by decide +kernel
theorem dX9_both_18 : decode cX9_both 18 = .ok (.iadd, 1) := by decide +kernel
theorem dX9_both_19 : decode cX9_both 19 = .ok (.iaload, 1) := by decide +kernel
theorem dX9_both_20 : decode cX9_both 20 = .ok (.iload 5, 2) := by decide +kernel
theorem dX9_both_22 : decode cX9_both 22 = .ok (.imul, 1) := by decide +kernel
theorem dX9_both_23 : decode cX9_both 23 = .ok (.iadd, 1) := by decide +kernel
theorem dX9_both_24 : decode cX9_both 24 = .ok (.invokevirtual 85, 3) := by decide +kernel
theorem dX9_both_27 : decode cX9_both 27 = .ok (.istore 6, 2) := by decide +kernel
theorem dX9_both_29 : decode cX9_both 29 = .ok (.aload_n 0, 1) := by decide +kernel
theorem dX9_both_30 : decode cX9_both 30 = .ok (.aload_n 1, 1) := by decide +kernel
theorem dX9_both_31 : decode cX9_both 31 = .ok (.iload_n 2, 1) := by decide +kernel
theorem dX9_both_32 : decode cX9_both 32 = .ok (.iconst 5, 1) := by decide +kernel
theorem dX9_both_33 : decode cX9_both 33 = .ok (.iadd, 1) := by decide +kernel
theorem dX9_both_34 : decode cX9_both 34 = .ok (.iaload, 1) := by decide +kernel
theorem dX9_both_35 : decode cX9_both 35 = .ok (.iload_n 3, 1) := by decide +kernel
theorem dX9_both_36 : decode cX9_both 36 = .ok (.imul, 1) := by decide +kernel
theorem dX9_both_37 : decode cX9_both 37 = .ok (.aload_n 1, 1) := by decide +kernel
theorem dX9_both_38 : decode cX9_both 38 = .ok (.iload_n 2, 1) := by decide +kernel
theorem dX9_both_39 : decode cX9_both 39 = .ok (.iconst 1, 1) := by decide +kernel
theorem dX9_both_40 : decode cX9_both 40 = .ok (.iadd, 1) := by decide +kernel
theorem dX9_both_41 : decode cX9_both 41 = .ok (.iaload, 1) := by decide +kernel
theorem dX9_both_42 : decode cX9_both 42 = .ok (.iload 4, 2) := by decide +kernel
theorem dX9_both_44 : decode cX9_both 44 = .ok (.imul, 1) := by decide +kernel
theorem dX9_both_45 : decode cX9_both 45 = .ok (.iadd, 1) := by decide +kernel
theorem dX9_both_46 : decode cX9_both 46 = .ok (.aload_n 1, 1) := by decide +kernel
theorem dX9_both_47 : decode cX9_both 47 = .ok (.iload_n 2, 1) := by decide +kernel
theorem dX9_both_48 : decode cX9_both 48 = .ok (.iconst 3, 1) := by decide +kernel
theorem dX9_both_49 : decode cX9_both 49 = .ok (.iadd, 1) := by decide +kernel
theorem dX9_both_50 : decode cX9_both 50 = .ok (.iaload, 1) := by decide +kernel
theorem dX9_both_51 : decode cX9_both 51 = .ok (.iload 5, 2) := by decide +kernel
theorem dX9_both_53 : decode cX9_both 53 = .ok (.imul, 1) := by decide +kernel
theorem dX9_both_54 : decode cX9_both 54 = .ok (.iadd, 1) := by decide +kernel
theorem dX9_both_55 : decode cX9_both 55 = .ok (.invokevirtual 85, 3) := by decide +kernel
theorem dX9_both_58 : decode cX9_both 58 = .ok (.istore 7, 2) := by decide +kernel
theorem dX9_both_60 : decode cX9_both 60 = .ok (.aload_n 0, 1) := by decide +kernel
theorem dX9_both_61 : decode cX9_both 61 = .ok (.aload_n 1, 1) := by decide +kernel
theorem dX9_both_62 : decode cX9_both 62 = .ok (.iload_n 2, 1) := by decide +kernel
theorem dX9_both_63 : decode cX9_both 63 = .ok (.iconst 4, 1) := by decide +kernel
theorem dX9_both_64 : decode cX9_both 64 = .ok (.iadd, 1) := by decide +kernel
theorem dX9_both_65 : decode cX9_both 65 = .ok (.iaload, 1) := by decide +kernel
theorem dX9_both_66 : decode cX9_both 66 = .ok (.iload_n 3, 1) := by decide +kernel
theorem dX9_both_67 : decode cX9_both 67 = .ok (.imul, 1) := by decide +kernel
theorem dX9_both_68 : decode cX9_both 68 = .ok (.aload_n 1, 1) := by decide +kernel
theorem dX9_both_69 : decode cX9_both 69 = .ok (.iload_n 2, 1) := by decide +kernel
theorem dX9_both_70 : decode cX9_both 70 = .ok (.iconst 3, 1) := by decide +kernel
theorem dX9_both_71 : decode cX9_both 71 = .ok (.iadd, 1) := by decide +kernel
theorem dX9_both_72 : decode cX9_both 72 = .ok (.iaload, 1) := by decide +kernel
theorem dX9_both_73 : decode cX9_both 73 = .ok (.iload 4, 2) := by decide +kernel
theorem dX9_both_75 : decode cX9_both 75 = .ok (.imul, 1) := by decide +kernel
theorem dX9_both_76 : decode cX9_both 76 = .ok (.iadd, 1) := by decide +kernel
theorem dX9_both_77 : decode cX9_both 77 = .ok (.aload_n 1, 1) := by decide +kernel
theorem dX9_both_78 : decode cX9_both 78 = .ok (.iload_n 2, 1) := by decide +kernel
theorem dX9_both_79 : decode cX9_both 79 = .ok (.iconst 2, 1) := by decide +kernel
theorem dX9_both_80 : decode cX9_both 80 = .ok (.iadd, 1) := by decide +kernel
theorem dX9_both_81 : decode cX9_both 81 = .ok (.iaload, 1) := by decide +kernel
theorem dX9_both_82 : decode cX9_both 82 = .ok (.iload 5, 2) := by decide +kernel
theorem dX9_both_84 : decode cX9_both 84 = .ok (.imul, 1) := by decide +kernel
theorem dX9_both_85 : decode cX9_both 85 = .ok (.iadd, 1) := by decide +kernel
theorem dX9_both_86 : decode cX9_both 86 = .ok (.invokevirtual 85, 3) := by decide +kernel
theorem dX9_both_89 : decode cX9_both 89 = .ok (.istore 8, 2) := by decide +kernel
theorem dX9_both_91 : decode cX9_both 91 = .ok (.aload_n 0, 1) := by decide +kernel
theorem dX9_both_92 : decode cX9_both 92 = .ok (.iload 6, 2) := by decide +kernel
theorem dX9_both_94 : decode cX9_both 94 = .ok (.iload_n 3, 1) := by decide +kernel
theorem dX9_both_95 : decode cX9_both 95 = .ok (.imul, 1) := by decide +kernel
theorem dX9_both_96 : decode cX9_both 96 = .ok (.iload 7, 2) := by decide +kernel
theorem dX9_both_98 : decode cX9_both 98 = .ok (.iload 4, 2) := by decide +kernel
theorem dX9_both_100 : decode cX9_both 100 = .ok (.imul, 1) := by decide +kernel
theorem dX9_both_101 : decode cX9_both 101 = .ok (.iadd, 1) := by decide +kernel
theorem dX9_both_102 : decode cX9_both 102 = .ok (.iload 8, 2) := by decide +kernel
theorem dX9_both_104 : decode cX9_both 104 = .ok (.iload 5, 2) := by decide +kernel
theorem dX9_both_106 : decode cX9_both 106 = .ok (.imul, 1) := by decide +kernel
theorem dX9_both_107 : decode cX9_both 107 = .ok (.iadd, 1) := by decide +kernel
theorem dX9_both_108 : decode cX9_both 108 = .ok (.invokevirtual 85, 3) := by decide +kernel
theorem dX9_both_111 : decode cX9_both 111 = .ok (.ireturn, 1) := by decide +kernel
set_option maxRecDepth 20000 in
theorem ggX9_trace_X9_of : GoodIn wsX9_trace wsX9_of := goodIn_sub (List.forall_mem_cons.mpr ⟨(List.mem_cons_of_mem _ (List.mem_append_left _ (List.mem_of_getElem? (i := 5) rfl))), (x_ap2 (List.forall_mem_cons.mpr ⟨(List.mem_cons_of_mem _ (List.mem_append_left _ (List.mem_of_getElem? (i := 6) rfl))), (fun _ h => absurd h List.not_mem_nil)⟩) (fun _ h => (List.mem_cons_of_mem _ (List.mem_append_right _ h))))⟩) (by decide +kernel)
set_option maxRecDepth 20000 in
theorem gX9_trace_X9_of : GoodIn wsX9_trace (wsV RX9 85 RX9 yX9_of wsX9_of) := goodIn_app (goodIn_of _ (by decide +kernel)) ggX9_trace_X9_of
theorem dX9_trace_0 : decode cX9_trace 0 = .ok (.aload_n 1, 1) := by decide +kernel
theorem dX9_trace_1 : decode cX9_trace 1 = .ok (.iload_n 2, 1) := by decide +kernel
theorem dX9_trace_2 : decode cX9_trace 2 = .ok (.iaload, 1) := by decide +kernel
theorem dX9_trace_3 : decode cX9_trace 3 = .ok (.aload_n 0, 1) := by decide +kernel
theorem dX9_trace_4 : decode cX9_trace 4 = .ok (.getfield 53, 3) := by decide +kernel
theorem dX9_trace_7 : decode cX9_trace 7 = .ok (.iconst 0, 1) := by decide +kernel
theorem dX9_trace_8 : decode cX9_trace 8 = .ok (.iaload, 1) := by decide +kernel
theorem dX9_trace_9 : decode cX9_trace 9 = .ok (.imul, 1) := by decide +kernel
theorem dX9_trace_10 : decode cX9_trace 10 = .ok (.aload_n 1, 1) := by decide +kernel
theorem dX9_trace_11 : decode cX9_trace 11 = .ok (.iload_n 2, 1) := by decide +kernel
theorem dX9_trace_12 : decode cX9_trace 12 = .ok (.iconst 1, 1) := by decide +kernel
theorem dX9_trace_13 : decode cX9_trace 13 = .ok (.iadd, 1) := by decide +kernel
theorem dX9_trace_14 : decode cX9_trace 14 = .ok (.iaload, 1) := by decide +kernel
theorem dX9_trace_15 : decode cX9_trace 15 = .ok (.aload_n 0, 1) := by decide +kernel
theorem dX9_trace_16 : decode cX9_trace 16 = .ok (.getfield 53, 3) := by decide +kernel
theorem dX9_trace_19 : decode cX9_trace 19 = .ok (.iconst 1, 1) := by decide +kernel
theorem dX9_trace_20 : decode cX9_trace 20 = .ok (.iaload, 1) := by decide +kernel
theorem dX9_trace_21 : decode cX9_trace 21 = .ok (.imul, 1) := by decide +kernel
theorem dX9_trace_22 : decode cX9_trace 22 = .ok (.iadd, 1) := by decide +kernel
theorem dX9_trace_23 : decode cX9_trace 23 = .ok (.aload_n 1, 1) := by decide +kernel
theorem dX9_trace_24 : decode cX9_trace 24 = .ok (.iload_n 2, 1) := by decide +kernel
theorem dX9_trace_25 : decode cX9_trace 25 = .ok (.iconst 2, 1) := by decide +kernel
theorem dX9_trace_26 : decode cX9_trace 26 = .ok (.iadd, 1) := by decide +kernel
theorem dX9_trace_27 : decode cX9_trace 27 = .ok (.iaload, 1) := by decide +kernel
theorem dX9_trace_28 : decode cX9_trace 28 = .ok (.aload_n 0, 1) := by decide +kernel
theorem dX9_trace_29 : decode cX9_trace 29 = .ok (.getfield 53, 3) := by decide +kernel
theorem dX9_trace_32 : decode cX9_trace 32 = .ok (.iconst 2, 1) := by decide +kernel
theorem dX9_trace_33 : decode cX9_trace 33 = .ok (.iaload, 1) := by decide +kernel
theorem dX9_trace_34 : decode cX9_trace 34 = .ok (.imul, 1) := by decide +kernel
theorem dX9_trace_35 : decode cX9_trace 35 = .ok (.iadd, 1) := by decide +kernel
theorem dX9_trace_36 : decode cX9_trace 36 = .ok (.istore_n 3, 1) := by decide +kernel
theorem dX9_trace_37 : decode cX9_trace 37 = .ok (.aload_n 1, 1) := by decide +kernel
theorem dX9_trace_38 : decode cX9_trace 38 = .ok (.iload_n 2, 1) := by decide +kernel
theorem dX9_trace_39 : decode cX9_trace 39 = .ok (.iconst 3, 1) := by decide +kernel
theorem dX9_trace_40 : decode cX9_trace 40 = .ok (.iadd, 1) := by decide +kernel
theorem dX9_trace_41 : decode cX9_trace 41 = .ok (.iaload, 1) := by decide +kernel
theorem dX9_trace_42 : decode cX9_trace 42 = .ok (.aload_n 0, 1) := by decide +kernel
theorem dX9_trace_43 : decode cX9_trace 43 = .ok (.getfield 53, 3) := by decide +kernel
theorem dX9_trace_46 : decode cX9_trace 46 = .ok (.iconst 3, 1) := by decide +kernel
theorem dX9_trace_47 : decode cX9_trace 47 = .ok (.iaload, 1) := by decide +kernel
theorem dX9_trace_48 : decode cX9_trace 48 = .ok (.imul, 1) := by decide +kernel
theorem dX9_trace_49 : decode cX9_trace 49 = .ok (.aload_n 1, 1) := by decide +kernel
theorem dX9_trace_50 : decode cX9_trace 50 = .ok (.iload_n 2, 1) := by decide +kernel
theorem dX9_trace_51 : decode cX9_trace 51 = .ok (.iconst 4, 1) := by decide +kernel
theorem dX9_trace_52 : decode cX9_trace 52 = .ok (.iadd, 1) := by decide +kernel
theorem dX9_trace_53 : decode cX9_trace 53 = .ok (.iaload, 1) := by decide +kernel
theorem dX9_trace_54 : decode cX9_trace 54 = .ok (.aload_n 0, 1) := by decide +kernel
theorem dX9_trace_55 : decode cX9_trace 55 = .ok (.getfield 53, 3) := by decide +kernel
theorem dX9_trace_58 : decode cX9_trace 58 = .ok (.iconst 4, 1) := by decide +kernel
theorem dX9_trace_59 : decode cX9_trace 59 = .ok (.iaload, 1) := by decide +kernel
theorem dX9_trace_60 : decode cX9_trace 60 = .ok (.imul, 1) := by decide +kernel
theorem dX9_trace_61 : decode cX9_trace 61 = .ok (.iadd, 1) := by decide +kernel
theorem dX9_trace_62 : decode cX9_trace 62 = .ok (.aload_n 1, 1) := by decide +kernel
theorem dX9_trace_63 : decode cX9_trace 63 = .ok (.iload_n 2, 1) := by decide +kernel
theorem dX9_trace_64 : decode cX9_trace 64 = .ok (.iconst 5, 1) := by decide +kernel
theorem dX9_trace_65 : decode cX9_trace 65 = .ok (.iadd, 1) := by decide +kernel
theorem dX9_trace_66 : decode cX9_trace 66 = .ok (.iaload, 1) := by decide +kernel
theorem dX9_trace_67 : decode cX9_trace 67 = .ok (.aload_n 0, 1) := by decide +kernel
theorem dX9_trace_68 : decode cX9_trace 68 = .ok (.getfield 53, 3) := by decide +kernel
theorem dX9_trace_71 : decode cX9_trace 71 = .ok (.iconst 5, 1) := by decide +kernel
theorem dX9_trace_72 : decode cX9_trace 72 = .ok (.iaload, 1) := by decide +kernel
theorem dX9_trace_73 : decode cX9_trace 73 = .ok (.imul, 1) := by decide +kernel
theorem dX9_trace_74 : decode cX9_trace 74 = .ok (.iadd, 1) := by decide +kernel
theorem dX9_trace_75 : decode cX9_trace 75 = .ok (.istore 4, 2) := by decide +kernel
theorem dX9_trace_77 : decode cX9_trace 77 = .ok (.aload_n 0, 1) := by decide +kernel
theorem dX9_trace_78 : decode cX9_trace 78 = .ok (.iload_n 3, 1) := by decide +kernel
theorem dX9_trace_79 : decode cX9_trace 79 = .ok (.iconst 2, 1) := by decide +kernel
theorem dX9_trace_80 : decode cX9_trace 80 = .ok (.iload 4, 2) := by decide +kernel
theorem dX9_trace_82 : decode cX9_trace 82 = .ok (.imul, 1) := by decide +kernel
theorem dX9_trace_83 : decode cX9_trace 83 = .ok (.iadd, 1) := by decide +kernel
theorem dX9_trace_84 : decode cX9_trace 84 = .ok (.invokevirtual 85, 3) := by decide +kernel
theorem dX9_trace_87 : decode cX9_trace 87 = .ok (.ireturn, 1) := by decide +kernel
theorem ip_wsX9_layCubic__wsX9_layCubic_r1 : ∀ w ∈ wsX9_layCubic_r1, w ∈ wsX9_layCubic := fun _ h => (List.mem_cons_of_mem _ (List.mem_append_left _ (List.mem_append_left _ h)))
theorem ip_wsX9_layCubic__wsX9_layCubic_r2 : ∀ w ∈ wsX9_layCubic_r2, w ∈ wsX9_layCubic := fun _ h => (List.mem_cons_of_mem _ (List.mem_append_left _ (List.mem_append_right _ h)))
set_option maxRecDepth 20000 in
theorem ggX9_layCubic_X9_cofactorOf : GoodIn wsX9_layCubic wsX9_cofactorOf := goodIn_sub (List.forall_mem_cons.mpr ⟨(ip_wsX9_layCubic__wsX9_layCubic_r1 _ (List.mem_of_getElem? (i := 7) rfl)), (x_ap2 (List.forall_mem_cons.mpr ⟨(ip_wsX9_layCubic__wsX9_layCubic_r1 _ (List.mem_of_getElem? (i := 8) rfl)), (List.forall_mem_cons.mpr ⟨(ip_wsX9_layCubic__wsX9_layCubic_r1 _ (List.mem_of_getElem? (i := 9) rfl)), (List.forall_mem_cons.mpr ⟨(ip_wsX9_layCubic__wsX9_layCubic_r1 _ (List.mem_of_getElem? (i := 10) rfl)), (List.forall_mem_cons.mpr ⟨(ip_wsX9_layCubic__wsX9_layCubic_r1 _ (List.mem_of_getElem? (i := 11) rfl)), (List.forall_mem_cons.mpr ⟨(ip_wsX9_layCubic__wsX9_layCubic_r1 _ (List.mem_of_getElem? (i := 6) rfl)), (List.forall_mem_cons.mpr ⟨(ip_wsX9_layCubic__wsX9_layCubic_r1 _ (List.mem_of_getElem? (i := 12) rfl)), (List.forall_mem_cons.mpr ⟨(ip_wsX9_layCubic__wsX9_layCubic_r1 _ (List.mem_of_getElem? (i := 2) rfl)), (fun _ h => absurd h List.not_mem_nil)⟩)⟩)⟩)⟩)⟩)⟩)⟩) (fun _ h => (List.mem_cons_of_mem _ (List.mem_append_right _ h))))⟩) (by decide +kernel)
set_option maxRecDepth 20000 in
theorem gX9_layCubic_X9_cofactorOf : GoodIn wsX9_layCubic (wsV RX9 88 RX9 yX9_cofactorOf wsX9_cofactorOf) := goodIn_app (goodIn_of _ (by decide +kernel)) ggX9_layCubic_X9_cofactorOf
set_option maxRecDepth 20000 in
theorem ggX9_layCubic_X9_trace : GoodIn wsX9_layCubic wsX9_trace := goodIn_sub (List.forall_mem_cons.mpr ⟨(ip_wsX9_layCubic__wsX9_layCubic_r1 _ (List.mem_of_getElem? (i := 16) rfl)), (x_ap2 (List.forall_mem_cons.mpr ⟨(ip_wsX9_layCubic__wsX9_layCubic_r1 _ (List.mem_of_getElem? (i := 8) rfl)), (List.forall_mem_cons.mpr ⟨(ip_wsX9_layCubic__wsX9_layCubic_r1 _ (List.mem_of_getElem? (i := 9) rfl)), (List.forall_mem_cons.mpr ⟨(ip_wsX9_layCubic__wsX9_layCubic_r1 _ (List.mem_of_getElem? (i := 10) rfl)), (List.forall_mem_cons.mpr ⟨(ip_wsX9_layCubic__wsX9_layCubic_r1 _ (List.mem_of_getElem? (i := 11) rfl)), (List.forall_mem_cons.mpr ⟨(ip_wsX9_layCubic__wsX9_layCubic_r1 _ (List.mem_of_getElem? (i := 6) rfl)), (List.forall_mem_cons.mpr ⟨(ip_wsX9_layCubic__wsX9_layCubic_r1 _ (List.mem_of_getElem? (i := 12) rfl)), (List.forall_mem_cons.mpr ⟨(ip_wsX9_layCubic__wsX9_layCubic_r1 _ (List.mem_of_getElem? (i := 2) rfl)), (fun _ h => absurd h List.not_mem_nil)⟩)⟩)⟩)⟩)⟩)⟩)⟩) (fun _ h => (List.mem_cons_of_mem _ (List.mem_append_right _ h))))⟩) (by decide +kernel)
set_option maxRecDepth 20000 in
theorem gX9_layCubic_X9_trace : GoodIn wsX9_layCubic (wsV RX9 92 RX9 yX9_trace wsX9_trace) := goodIn_app (goodIn_of _ (by decide +kernel)) ggX9_layCubic_X9_trace
set_option maxRecDepth 20000 in
theorem ggX9_layCubic_X9_by : GoodIn wsX9_layCubic wsX9_by := goodIn_sub (List.forall_mem_cons.mpr ⟨(ip_wsX9_layCubic__wsX9_layCubic_r1 _ (List.mem_of_getElem? (i := 20) rfl)), (x_ap2 (List.forall_mem_cons.mpr ⟨(ip_wsX9_layCubic__wsX9_layCubic_r1 _ (List.mem_of_getElem? (i := 2) rfl)), (List.forall_mem_cons.mpr ⟨(ip_wsX9_layCubic__wsX9_layCubic_r1 _ (List.mem_of_getElem? (i := 21) rfl)), (List.forall_mem_cons.mpr ⟨(ip_wsX9_layCubic__wsX9_layCubic_r1 _ (List.mem_of_getElem? (i := 22) rfl)), (List.forall_mem_cons.mpr ⟨(ip_wsX9_layCubic__wsX9_layCubic_r1 _ (List.mem_of_getElem? (i := 23) rfl)), (List.forall_mem_cons.mpr ⟨(ip_wsX9_layCubic__wsX9_layCubic_r1 _ (List.mem_of_getElem? (i := 6) rfl)), (List.forall_mem_cons.mpr ⟨(ip_wsX9_layCubic__wsX9_layCubic_r2 _ (List.mem_of_getElem? (i := 0) rfl)), (fun _ h => absurd h List.not_mem_nil)⟩)⟩)⟩)⟩)⟩)⟩) (fun _ h => (List.mem_cons_of_mem _ (List.mem_append_right _ h))))⟩) (by decide +kernel)
set_option maxRecDepth 20000 in
theorem gX9_layCubic_X9_by : GoodIn wsX9_layCubic (wsV RX9 78 RX9 yX9_by wsX9_by) := goodIn_app (goodIn_of _ (by decide +kernel)) ggX9_layCubic_X9_by
theorem dX9_layCubic_0 : decode cX9_layCubic 0 = .ok (.aload_n 0, 1) := by decide +kernel
theorem dX9_layCubic_1 : decode cX9_layCubic 1 = .ok (.aload_n 0, 1) := by decide +kernel
theorem dX9_layCubic_2 : decode cX9_layCubic 2 = .ok (.getfield 13, 3) := by decide +kernel
theorem dX9_layCubic_5 : decode cX9_layCubic 5 = .ok (.bipush 6, 2) := by decide +kernel
theorem dX9_layCubic_7 : decode cX9_layCubic 7 = .ok (.invokevirtual 88, 3) := by decide +kernel
theorem dX9_layCubic_10 : decode cX9_layCubic 10 = .ok (.aload_n 0, 1) := by decide +kernel
theorem dX9_layCubic_11 : decode cX9_layCubic 11 = .ok (.getfield 17, 3) := by decide +kernel
theorem dX9_layCubic_14 : decode cX9_layCubic 14 = .ok (.iconst 0, 1) := by decide +kernel
theorem dX9_layCubic_15 : decode cX9_layCubic 15 = .ok (.aload_n 0, 1) := by decide +kernel
theorem dX9_layCubic_16 : decode cX9_layCubic 16 = .ok (.aload_n 0, 1) := by decide +kernel
theorem dX9_layCubic_17 : decode cX9_layCubic 17 = .ok (.aload_n 0, 1) := by decide +kernel
theorem dX9_layCubic_18 : decode cX9_layCubic 18 = .ok (.getfield 13, 3) := by decide +kernel
theorem dX9_layCubic_21 : decode cX9_layCubic 21 = .ok (.bipush 6, 2) := by decide +kernel
theorem dX9_layCubic_23 : decode cX9_layCubic 23 = .ok (.invokevirtual 92, 3) := by decide +kernel
theorem dX9_layCubic_26 : decode cX9_layCubic 26 = .ok (.iconst 3, 1) := by decide +kernel
theorem dX9_layCubic_27 : decode cX9_layCubic 27 = .ok (.aload_n 0, 1) := by decide +kernel
theorem dX9_layCubic_28 : decode cX9_layCubic 28 = .ok (.getfield 7, 3) := by decide +kernel
theorem dX9_layCubic_31 : decode cX9_layCubic 31 = .ok (.irem, 1) := by decide +kernel
theorem dX9_layCubic_32 : decode cX9_layCubic 32 = .ok (.invokevirtual 78, 3) := by decide +kernel
theorem dX9_layCubic_35 : decode cX9_layCubic 35 = .ok (.iastore, 1) := by decide +kernel
theorem dX9_layCubic_36 : decode cX9_layCubic 36 = .ok (.aload_n 0, 1) := by decide +kernel
theorem dX9_layCubic_37 : decode cX9_layCubic 37 = .ok (.getfield 17, 3) := by decide +kernel
theorem dX9_layCubic_40 : decode cX9_layCubic 40 = .ok (.iconst 1, 1) := by decide +kernel
theorem dX9_layCubic_41 : decode cX9_layCubic 41 = .ok (.aload_n 0, 1) := by decide +kernel
theorem dX9_layCubic_42 : decode cX9_layCubic 42 = .ok (.aload_n 0, 1) := by decide +kernel
theorem dX9_layCubic_43 : decode cX9_layCubic 43 = .ok (.getfield 13, 3) := by decide +kernel
theorem dX9_layCubic_46 : decode cX9_layCubic 46 = .ok (.iconst 0, 1) := by decide +kernel
theorem dX9_layCubic_47 : decode cX9_layCubic 47 = .ok (.invokevirtual 92, 3) := by decide +kernel
theorem dX9_layCubic_50 : decode cX9_layCubic 50 = .ok (.iastore, 1) := by decide +kernel
theorem dX9_layCubic_51 : decode cX9_layCubic 51 = .ok (.aload_n 0, 1) := by decide +kernel
theorem dX9_layCubic_52 : decode cX9_layCubic 52 = .ok (.aload_n 0, 1) := by decide +kernel
theorem dX9_layCubic_53 : decode cX9_layCubic 53 = .ok (.getfield 13, 3) := by decide +kernel
theorem dX9_layCubic_56 : decode cX9_layCubic 56 = .ok (.iconst 0, 1) := by decide +kernel
theorem dX9_layCubic_57 : decode cX9_layCubic 57 = .ok (.invokevirtual 88, 3) := by decide +kernel
theorem dX9_layCubic_60 : decode cX9_layCubic 60 = .ok (.aload_n 0, 1) := by decide +kernel
theorem dX9_layCubic_61 : decode cX9_layCubic 61 = .ok (.getfield 17, 3) := by decide +kernel
theorem dX9_layCubic_64 : decode cX9_layCubic 64 = .ok (.iconst 2, 1) := by decide +kernel
theorem dX9_layCubic_65 : decode cX9_layCubic 65 = .ok (.aload_n 0, 1) := by decide +kernel
theorem dX9_layCubic_66 : decode cX9_layCubic 66 = .ok (.aload_n 0, 1) := by decide +kernel
theorem dX9_layCubic_67 : decode cX9_layCubic 67 = .ok (.getfield 13, 3) := by decide +kernel
theorem dX9_layCubic_70 : decode cX9_layCubic 70 = .ok (.bipush 6, 2) := by decide +kernel
theorem dX9_layCubic_72 : decode cX9_layCubic 72 = .ok (.invokevirtual 92, 3) := by decide +kernel
theorem dX9_layCubic_75 : decode cX9_layCubic 75 = .ok (.iastore, 1) := by decide +kernel
theorem dX9_layCubic_76 : decode cX9_layCubic 76 = .ok (.aload_n 0, 1) := by decide +kernel
theorem dX9_layCubic_77 : decode cX9_layCubic 77 = .ok (.getfield 17, 3) := by decide +kernel
theorem dX9_layCubic_80 : decode cX9_layCubic 80 = .ok (.iconst 3, 1) := by decide +kernel
theorem dX9_layCubic_81 : decode cX9_layCubic 81 = .ok (.aload_n 0, 1) := by decide +kernel
theorem dX9_layCubic_82 : decode cX9_layCubic 82 = .ok (.aload_n 0, 1) := by decide +kernel
theorem dX9_layCubic_83 : decode cX9_layCubic 83 = .ok (.aload_n 0, 1) := by decide +kernel
theorem dX9_layCubic_84 : decode cX9_layCubic 84 = .ok (.getfield 13, 3) := by decide +kernel
theorem dX9_layCubic_87 : decode cX9_layCubic 87 = .ok (.iconst 0, 1) := by decide +kernel
theorem dX9_layCubic_88 : decode cX9_layCubic 88 = .ok (.invokevirtual 92, 3) := by decide +kernel
theorem dX9_layCubic_91 : decode cX9_layCubic 91 = .ok (.iconst 3, 1) := by decide +kernel
theorem dX9_layCubic_92 : decode cX9_layCubic 92 = .ok (.aload_n 0, 1) := by decide +kernel
theorem dX9_layCubic_93 : decode cX9_layCubic 93 = .ok (.getfield 7, 3) := by decide +kernel
theorem dX9_layCubic_96 : decode cX9_layCubic 96 = .ok (.irem, 1) := by decide +kernel
theorem dX9_layCubic_97 : decode cX9_layCubic 97 = .ok (.invokevirtual 78, 3) := by decide +kernel
theorem dX9_layCubic_100 : decode cX9_layCubic 100 = .ok (.iastore, 1) := by decide +kernel
theorem dX9_layCubic_101 : decode cX9_layCubic 101 = .ok (.return_, 1) := by decide +kernel
set_option maxRecDepth 20000 in
theorem ggX9_discriminant_X9_of : GoodIn wsX9_discriminant wsX9_of := goodIn_sub (List.forall_mem_cons.mpr ⟨(List.mem_cons_of_mem _ (List.mem_append_left _ (List.mem_of_getElem? (i := 6) rfl))), (x_ap2 (List.forall_mem_cons.mpr ⟨(List.mem_cons_of_mem _ (List.mem_append_left _ (List.mem_of_getElem? (i := 1) rfl))), (fun _ h => absurd h List.not_mem_nil)⟩) (fun _ h => (List.mem_cons_of_mem _ (List.mem_append_right _ h))))⟩) (by decide +kernel)
set_option maxRecDepth 20000 in
theorem gX9_discriminant_X9_of : GoodIn wsX9_discriminant (wsV RX9 85 RX9 yX9_of wsX9_of) := goodIn_app (goodIn_of _ (by decide +kernel)) ggX9_discriminant_X9_of
theorem dX9_discriminant_0 : decode cX9_discriminant 0 = .ok (.aload_n 0, 1) := by decide +kernel
theorem dX9_discriminant_1 : decode cX9_discriminant 1 = .ok (.aload_n 0, 1) := by decide +kernel
theorem dX9_discriminant_2 : decode cX9_discriminant 2 = .ok (.getfield 17, 3) := by decide +kernel
theorem dX9_discriminant_5 : decode cX9_discriminant 5 = .ok (.iconst 1, 1) := by decide +kernel
theorem dX9_discriminant_6 : decode cX9_discriminant 6 = .ok (.iaload, 1) := by decide +kernel
theorem dX9_discriminant_7 : decode cX9_discriminant 7 = .ok (.aload_n 0, 1) := by decide +kernel
theorem dX9_discriminant_8 : decode cX9_discriminant 8 = .ok (.getfield 17, 3) := by decide +kernel
theorem dX9_discriminant_11 : decode cX9_discriminant 11 = .ok (.iconst 1, 1) := by decide +kernel
theorem dX9_discriminant_12 : decode cX9_discriminant 12 = .ok (.iaload, 1) := by decide +kernel
theorem dX9_discriminant_13 : decode cX9_discriminant 13 = .ok (.imul, 1) := by decide +kernel
theorem dX9_discriminant_14 : decode cX9_discriminant 14 = .ok (.aload_n 0, 1) := by decide +kernel
theorem dX9_discriminant_15 : decode cX9_discriminant 15 = .ok (.getfield 7, 3) := by decide +kernel
theorem dX9_discriminant_18 : decode cX9_discriminant 18 = .ok (.irem, 1) := by decide +kernel
theorem dX9_discriminant_19 : decode cX9_discriminant 19 = .ok (.aload_n 0, 1) := by decide +kernel
theorem dX9_discriminant_20 : decode cX9_discriminant 20 = .ok (.getfield 17, 3) := by decide +kernel
theorem dX9_discriminant_23 : decode cX9_discriminant 23 = .ok (.iconst 2, 1) := by decide +kernel
theorem dX9_discriminant_24 : decode cX9_discriminant 24 = .ok (.iaload, 1) := by decide +kernel
theorem dX9_discriminant_25 : decode cX9_discriminant 25 = .ok (.aload_n 0, 1) := by decide +kernel
theorem dX9_discriminant_26 : decode cX9_discriminant 26 = .ok (.getfield 17, 3) := by decide +kernel
theorem dX9_discriminant_29 : decode cX9_discriminant 29 = .ok (.iconst 2, 1) := by decide +kernel
theorem dX9_discriminant_30 : decode cX9_discriminant 30 = .ok (.iaload, 1) := by decide +kernel
theorem dX9_discriminant_31 : decode cX9_discriminant 31 = .ok (.imul, 1) := by decide +kernel
theorem dX9_discriminant_32 : decode cX9_discriminant 32 = .ok (.aload_n 0, 1) := by decide +kernel
theorem dX9_discriminant_33 : decode cX9_discriminant 33 = .ok (.getfield 7, 3) := by decide +kernel
theorem dX9_discriminant_36 : decode cX9_discriminant 36 = .ok (.irem, 1) := by decide +kernel
theorem dX9_discriminant_37 : decode cX9_discriminant 37 = .ok (.imul, 1) := by decide +kernel
theorem dX9_discriminant_38 : decode cX9_discriminant 38 = .ok (.invokevirtual 85, 3) := by decide +kernel
theorem dX9_discriminant_41 : decode cX9_discriminant 41 = .ok (.istore_n 1, 1) := by decide +kernel
theorem dX9_discriminant_42 : decode cX9_discriminant 42 = .ok (.aload_n 0, 1) := by decide +kernel
theorem dX9_discriminant_43 : decode cX9_discriminant 43 = .ok (.iconst 4, 1) := by decide +kernel
theorem dX9_discriminant_44 : decode cX9_discriminant 44 = .ok (.aload_n 0, 1) := by decide +kernel
theorem dX9_discriminant_45 : decode cX9_discriminant 45 = .ok (.getfield 17, 3) := by decide +kernel
theorem dX9_discriminant_48 : decode cX9_discriminant 48 = .ok (.iconst 0, 1) := by decide +kernel
theorem dX9_discriminant_49 : decode cX9_discriminant 49 = .ok (.iaload, 1) := by decide +kernel
theorem dX9_discriminant_50 : decode cX9_discriminant 50 = .ok (.imul, 1) := by decide +kernel
theorem dX9_discriminant_51 : decode cX9_discriminant 51 = .ok (.aload_n 0, 1) := by decide +kernel
theorem dX9_discriminant_52 : decode cX9_discriminant 52 = .ok (.getfield 17, 3) := by decide +kernel
theorem dX9_discriminant_55 : decode cX9_discriminant 55 = .ok (.iconst 2, 1) := by decide +kernel
theorem dX9_discriminant_56 : decode cX9_discriminant 56 = .ok (.iaload, 1) := by decide +kernel
theorem dX9_discriminant_57 : decode cX9_discriminant 57 = .ok (.imul, 1) := by decide +kernel
theorem dX9_discriminant_58 : decode cX9_discriminant 58 = .ok (.aload_n 0, 1) := by decide +kernel
theorem dX9_discriminant_59 : decode cX9_discriminant 59 = .ok (.getfield 7, 3) := by decide +kernel
theorem dX9_discriminant_62 : decode cX9_discriminant 62 = .ok (.irem, 1) := by decide +kernel
theorem dX9_discriminant_63 : decode cX9_discriminant 63 = .ok (.aload_n 0, 1) := by decide +kernel
theorem dX9_discriminant_64 : decode cX9_discriminant 64 = .ok (.getfield 17, 3) := by decide +kernel
theorem dX9_discriminant_67 : decode cX9_discriminant 67 = .ok (.iconst 2, 1) := by decide +kernel
theorem dX9_discriminant_68 : decode cX9_discriminant 68 = .ok (.iaload, 1) := by decide +kernel
theorem dX9_discriminant_69 : decode cX9_discriminant 69 = .ok (.aload_n 0, 1) := by decide +kernel
theorem dX9_discriminant_70 : decode cX9_discriminant 70 = .ok (.getfield 17, 3) := by decide +kernel
theorem dX9_discriminant_73 : decode cX9_discriminant 73 = .ok (.iconst 2, 1) := by decide +kernel
theorem dX9_discriminant_74 : decode cX9_discriminant 74 = .ok (.iaload, 1) := by decide +kernel
theorem dX9_discriminant_75 : decode cX9_discriminant 75 = .ok (.imul, 1) := by decide +kernel
theorem dX9_discriminant_76 : decode cX9_discriminant 76 = .ok (.aload_n 0, 1) := by decide +kernel
theorem dX9_discriminant_77 : decode cX9_discriminant 77 = .ok (.getfield 7, 3) := by decide +kernel
theorem dX9_discriminant_80 : decode cX9_discriminant 80 = .ok (.irem, 1) := by decide +kernel
theorem dX9_discriminant_81 : decode cX9_discriminant 81 = .ok (.imul, 1) := by decide +kernel
theorem dX9_discriminant_82 : decode cX9_discriminant 82 = .ok (.invokevirtual 85, 3) := by decide +kernel
theorem dX9_discriminant_85 : decode cX9_discriminant 85 = .ok (.istore_n 2, 1) := by decide +kernel
theorem dX9_discriminant_86 : decode cX9_discriminant 86 = .ok (.aload_n 0, 1) := by decide +kernel
theorem dX9_discriminant_87 : decode cX9_discriminant 87 = .ok (.iconst 4, 1) := by decide +kernel
theorem dX9_discriminant_88 : decode cX9_discriminant 88 = .ok (.aload_n 0, 1) := by decide +kernel
theorem dX9_discriminant_89 : decode cX9_discriminant 89 = .ok (.getfield 17, 3) := by decide +kernel
theorem dX9_discriminant_92 : decode cX9_discriminant 92 = .ok (.iconst 1, 1) := by decide +kernel
theorem dX9_discriminant_93 : decode cX9_discriminant 93 = .ok (.iaload, 1) := by decide +kernel
theorem dX9_discriminant_94 : decode cX9_discriminant 94 = .ok (.imul, 1) := by decide +kernel
theorem dX9_discriminant_95 : decode cX9_discriminant 95 = .ok (.aload_n 0, 1) := by decide +kernel
theorem dX9_discriminant_96 : decode cX9_discriminant 96 = .ok (.getfield 17, 3) := by decide +kernel
theorem dX9_discriminant_99 : decode cX9_discriminant 99 = .ok (.iconst 1, 1) := by decide +kernel
theorem dX9_discriminant_100 : decode cX9_discriminant 100 = .ok (.iaload, 1) := by decide +kernel
theorem dX9_discriminant_101 : decode cX9_discriminant 101 = .ok (.imul, 1) := by decide +kernel
theorem dX9_discriminant_102 : decode cX9_discriminant 102 = .ok (.aload_n 0, 1) := by decide +kernel
theorem dX9_discriminant_103 : decode cX9_discriminant 103 = .ok (.getfield 7, 3) := by decide +kernel
theorem dX9_discriminant_106 : decode cX9_discriminant 106 = .ok (.irem, 1) := by decide +kernel
theorem dX9_discriminant_107 : decode cX9_discriminant 107 = .ok (.aload_n 0, 1) := by decide +kernel
theorem dX9_discriminant_108 : decode cX9_discriminant 108 = .ok (.getfield 17, 3) := by decide +kernel
theorem dX9_discriminant_111 : decode cX9_discriminant 111 = .ok (.iconst 1, 1) := by decide +kernel
theorem dX9_discriminant_112 : decode cX9_discriminant 112 = .ok (.iaload, 1) := by decide +kernel
theorem dX9_discriminant_113 : decode cX9_discriminant 113 = .ok (.aload_n 0, 1) := by decide +kernel
theorem dX9_discriminant_114 : decode cX9_discriminant 114 = .ok (.getfield 17, 3) := by decide +kernel
theorem dX9_discriminant_117 : decode cX9_discriminant 117 = .ok (.iconst 3, 1) := by decide +kernel
theorem dX9_discriminant_118 : decode cX9_discriminant 118 = .ok (.iaload, 1) := by decide +kernel
theorem dX9_discriminant_119 : decode cX9_discriminant 119 = .ok (.imul, 1) := by decide +kernel
theorem dX9_discriminant_120 : decode cX9_discriminant 120 = .ok (.aload_n 0, 1) := by decide +kernel
theorem dX9_discriminant_121 : decode cX9_discriminant 121 = .ok (.getfield 7, 3) := by decide +kernel
theorem dX9_discriminant_124 : decode cX9_discriminant 124 = .ok (.irem, 1) := by decide +kernel
theorem dX9_discriminant_125 : decode cX9_discriminant 125 = .ok (.imul, 1) := by decide +kernel
theorem dX9_discriminant_126 : decode cX9_discriminant 126 = .ok (.invokevirtual 85, 3) := by decide +kernel
theorem dX9_discriminant_129 : decode cX9_discriminant 129 = .ok (.istore_n 3, 1) := by decide +kernel
theorem dX9_discriminant_130 : decode cX9_discriminant 130 = .ok (.aload_n 0, 1) := by decide +kernel
theorem dX9_discriminant_131 : decode cX9_discriminant 131 = .ok (.bipush 27, 2) := by decide +kernel
theorem dX9_discriminant_133 : decode cX9_discriminant 133 = .ok (.aload_n 0, 1) := by decide +kernel
theorem dX9_discriminant_134 : decode cX9_discriminant 134 = .ok (.getfield 17, 3) := by decide +kernel
theorem dX9_discriminant_137 : decode cX9_discriminant 137 = .ok (.iconst 0, 1) := by decide +kernel
theorem dX9_discriminant_138 : decode cX9_discriminant 138 = .ok (.iaload, 1) := by decide +kernel
theorem dX9_discriminant_139 : decode cX9_discriminant 139 = .ok (.imul, 1) := by decide +kernel
theorem dX9_discriminant_140 : decode cX9_discriminant 140 = .ok (.aload_n 0, 1) := by decide +kernel
theorem dX9_discriminant_141 : decode cX9_discriminant 141 = .ok (.getfield 17, 3) := by decide +kernel
theorem dX9_discriminant_144 : decode cX9_discriminant 144 = .ok (.iconst 0, 1) := by decide +kernel
theorem dX9_discriminant_145 : decode cX9_discriminant 145 = .ok (.iaload, 1) := by decide +kernel
theorem dX9_discriminant_146 : decode cX9_discriminant 146 = .ok (.imul, 1) := by decide +kernel
theorem dX9_discriminant_147 : decode cX9_discriminant 147 = .ok (.aload_n 0, 1) := by decide +kernel
theorem dX9_discriminant_148 : decode cX9_discriminant 148 = .ok (.getfield 7, 3) := by decide +kernel
theorem dX9_discriminant_151 : decode cX9_discriminant 151 = .ok (.irem, 1) := by decide +kernel
theorem dX9_discriminant_152 : decode cX9_discriminant 152 = .ok (.aload_n 0, 1) := by decide +kernel
theorem dX9_discriminant_153 : decode cX9_discriminant 153 = .ok (.getfield 17, 3) := by decide +kernel
theorem dX9_discriminant_156 : decode cX9_discriminant 156 = .ok (.iconst 3, 1) := by decide +kernel
theorem dX9_discriminant_157 : decode cX9_discriminant 157 = .ok (.iaload, 1) := by decide +kernel
theorem dX9_discriminant_158 : decode cX9_discriminant 158 = .ok (.aload_n 0, 1) := by decide +kernel
theorem dX9_discriminant_159 : decode cX9_discriminant 159 = .ok (.getfield 17, 3) := by decide +kernel
theorem dX9_discriminant_162 : decode cX9_discriminant 162 = .ok (.iconst 3, 1) := by decide +kernel
theorem dX9_discriminant_163 : decode cX9_discriminant 163 = .ok (.iaload, 1) := by decide +kernel
theorem dX9_discriminant_164 : decode cX9_discriminant 164 = .ok (.imul, 1) := by decide +kernel
theorem dX9_discriminant_165 : decode cX9_discriminant 165 = .ok (.aload_n 0, 1) := by decide +kernel
theorem dX9_discriminant_166 : decode cX9_discriminant 166 = .ok (.getfield 7, 3) := by decide +kernel
theorem dX9_discriminant_169 : decode cX9_discriminant 169 = .ok (.irem, 1) := by decide +kernel
theorem dX9_discriminant_170 : decode cX9_discriminant 170 = .ok (.imul, 1) := by decide +kernel
theorem dX9_discriminant_171 : decode cX9_discriminant 171 = .ok (.invokevirtual 85, 3) := by decide +kernel
theorem dX9_discriminant_174 : decode cX9_discriminant 174 = .ok (.istore 4, 2) := by decide +kernel
theorem dX9_discriminant_176 : decode cX9_discriminant 176 = .ok (.aload_n 0, 1) := by decide +kernel
theorem dX9_discriminant_177 : decode cX9_discriminant 177 = .ok (.bipush 18, 2) := by decide +kernel
theorem dX9_discriminant_179 : decode cX9_discriminant 179 = .ok (.aload_n 0, 1) := by decide +kernel
theorem dX9_discriminant_180 : decode cX9_discriminant 180 = .ok (.getfield 17, 3) := by decide +kernel
theorem dX9_discriminant_183 : decode cX9_discriminant 183 = .ok (.iconst 0, 1) := by decide +kernel
theorem dX9_discriminant_184 : decode cX9_discriminant 184 = .ok (.iaload, 1) := by decide +kernel
theorem dX9_discriminant_185 : decode cX9_discriminant 185 = .ok (.imul, 1) := by decide +kernel
theorem dX9_discriminant_186 : decode cX9_discriminant 186 = .ok (.aload_n 0, 1) := by decide +kernel
theorem dX9_discriminant_187 : decode cX9_discriminant 187 = .ok (.getfield 17, 3) := by decide +kernel
theorem dX9_discriminant_190 : decode cX9_discriminant 190 = .ok (.iconst 1, 1) := by decide +kernel
theorem dX9_discriminant_191 : decode cX9_discriminant 191 = .ok (.iaload, 1) := by decide +kernel
theorem dX9_discriminant_192 : decode cX9_discriminant 192 = .ok (.imul, 1) := by decide +kernel
theorem dX9_discriminant_193 : decode cX9_discriminant 193 = .ok (.aload_n 0, 1) := by decide +kernel
theorem dX9_discriminant_194 : decode cX9_discriminant 194 = .ok (.getfield 7, 3) := by decide +kernel
theorem dX9_discriminant_197 : decode cX9_discriminant 197 = .ok (.irem, 1) := by decide +kernel
theorem dX9_discriminant_198 : decode cX9_discriminant 198 = .ok (.aload_n 0, 1) := by decide +kernel
theorem dX9_discriminant_199 : decode cX9_discriminant 199 = .ok (.getfield 17, 3) := by decide +kernel
theorem dX9_discriminant_202 : decode cX9_discriminant 202 = .ok (.iconst 2, 1) := by decide +kernel
theorem dX9_discriminant_203 : decode cX9_discriminant 203 = .ok (.iaload, 1) := by decide +kernel
theorem dX9_discriminant_204 : decode cX9_discriminant 204 = .ok (.aload_n 0, 1) := by decide +kernel
theorem dX9_discriminant_205 : decode cX9_discriminant 205 = .ok (.getfield 17, 3) := by decide +kernel
theorem dX9_discriminant_208 : decode cX9_discriminant 208 = .ok (.iconst 3, 1) := by decide +kernel
theorem dX9_discriminant_209 : decode cX9_discriminant 209 = .ok (.iaload, 1) := by decide +kernel
theorem dX9_discriminant_210 : decode cX9_discriminant 210 = .ok (.imul, 1) := by decide +kernel
theorem dX9_discriminant_211 : decode cX9_discriminant 211 = .ok (.aload_n 0, 1) := by decide +kernel
theorem dX9_discriminant_212 : decode cX9_discriminant 212 = .ok (.getfield 7, 3) := by decide +kernel
theorem dX9_discriminant_215 : decode cX9_discriminant 215 = .ok (.irem, 1) := by decide +kernel
theorem dX9_discriminant_216 : decode cX9_discriminant 216 = .ok (.imul, 1) := by decide +kernel
theorem dX9_discriminant_217 : decode cX9_discriminant 217 = .ok (.invokevirtual 85, 3) := by decide +kernel
theorem dX9_discriminant_220 : decode cX9_discriminant 220 = .ok (.istore 5, 2) := by decide +kernel
theorem dX9_discriminant_222 : decode cX9_discriminant 222 = .ok (.aload_n 0, 1) := by decide +kernel
theorem dX9_discriminant_223 : decode cX9_discriminant 223 = .ok (.iload_n 1, 1) := by decide +kernel
theorem dX9_discriminant_224 : decode cX9_discriminant 224 = .ok (.iload_n 2, 1) := by decide +kernel
theorem dX9_discriminant_225 : decode cX9_discriminant 225 = .ok (.isub, 1) := by decide +kernel
theorem dX9_discriminant_226 : decode cX9_discriminant 226 = .ok (.iload_n 3, 1) := by decide +kernel
theorem dX9_discriminant_227 : decode cX9_discriminant 227 = .ok (.isub, 1) := by decide +kernel
theorem dX9_discriminant_228 : decode cX9_discriminant 228 = .ok (.iload 4, 2) := by decide +kernel
theorem dX9_discriminant_230 : decode cX9_discriminant 230 = .ok (.isub, 1) := by decide +kernel
theorem dX9_discriminant_231 : decode cX9_discriminant 231 = .ok (.iload 5, 2) := by decide +kernel
theorem dX9_discriminant_233 : decode cX9_discriminant 233 = .ok (.iadd, 1) := by decide +kernel
theorem dX9_discriminant_234 : decode cX9_discriminant 234 = .ok (.invokevirtual 85, 3) := by decide +kernel
theorem dX9_discriminant_237 : decode cX9_discriminant 237 = .ok (.ireturn, 1) := by decide +kernel
theorem ip_wsX9_cubic__wsX9_cubic_r1 : ∀ w ∈ wsX9_cubic_r1, w ∈ wsX9_cubic := fun _ h => (List.mem_cons_of_mem _ (List.mem_append_left _ (List.mem_append_left _ h)))
theorem ip_wsX9_cubic__wsX9_cubic_r2 : ∀ w ∈ wsX9_cubic_r2, w ∈ wsX9_cubic := fun _ h => (List.mem_cons_of_mem _ (List.mem_append_left _ (List.mem_append_right _ h)))
set_option maxRecDepth 20000 in
theorem ggX9_cubic_X9_in : GoodIn wsX9_cubic wsX9_in := goodIn_sub (List.forall_mem_cons.mpr ⟨(ip_wsX9_cubic__wsX9_cubic_r1 _ (List.mem_of_getElem? (i := 4) rfl)), (fun _ h => absurd h List.not_mem_nil)⟩) (by decide +kernel)
set_option maxRecDepth 20000 in
theorem gX9_cubic_X9_in : GoodIn wsX9_cubic (va_wsS RX9 62 yX9_in wsX9_in) := goodIn_app (goodIn_of _ (by decide +kernel)) ggX9_cubic_X9_in
set_option maxRecDepth 20000 in
theorem ggX9_cubic_X9_layCubic : GoodIn wsX9_cubic wsX9_layCubic := goodIn_sub (List.forall_mem_cons.mpr ⟨(ip_wsX9_cubic__wsX9_cubic_r1 _ (List.mem_of_getElem? (i := 8) rfl)), (x_ap2 (x_ap2 (show ∀ w ∈ wsX9_layCubic_r1, w ∈ wsX9_cubic from (List.forall_mem_cons.mpr ⟨(ip_wsX9_cubic__wsX9_cubic_r1 _ (List.mem_of_getElem? (i := 9) rfl)), (List.forall_mem_cons.mpr ⟨(ip_wsX9_cubic__wsX9_cubic_r1 _ (List.mem_of_getElem? (i := 0) rfl)), (List.forall_mem_cons.mpr ⟨(ip_wsX9_cubic__wsX9_cubic_r1 _ (List.mem_of_getElem? (i := 10) rfl)), (List.forall_mem_cons.mpr ⟨(ip_wsX9_cubic__wsX9_cubic_r1 _ (List.mem_of_getElem? (i := 11) rfl)), (List.forall_mem_cons.mpr ⟨(ip_wsX9_cubic__wsX9_cubic_r1 _ (List.mem_of_getElem? (i := 12) rfl)), (List.forall_mem_cons.mpr ⟨(ip_wsX9_cubic__wsX9_cubic_r1 _ (List.mem_of_getElem? (i := 13) rfl)), (List.forall_mem_cons.mpr ⟨(ip_wsX9_cubic__wsX9_cubic_r1 _ (List.mem_of_getElem? (i := 3) rfl)), (List.forall_mem_cons.mpr ⟨(ip_wsX9_cubic__wsX9_cubic_r1 _ (List.mem_of_getElem? (i := 14) rfl)), (List.forall_mem_cons.mpr ⟨(ip_wsX9_cubic__wsX9_cubic_r1 _ (List.mem_of_getElem? (i := 15) rfl)), (List.forall_mem_cons.mpr ⟨(ip_wsX9_cubic__wsX9_cubic_r1 _ (List.mem_of_getElem? (i := 16) rfl)), (List.forall_mem_cons.mpr ⟨(ip_wsX9_cubic__wsX9_cubic_r1 _ (List.mem_of_getElem? (i := 17) rfl)), (List.forall_mem_cons.mpr ⟨(ip_wsX9_cubic__wsX9_cubic_r1 _ (List.mem_of_getElem? (i := 18) rfl)), (List.forall_mem_cons.mpr ⟨(ip_wsX9_cubic__wsX9_cubic_r1 _ (List.mem_of_getElem? (i := 19) rfl)), (List.forall_mem_cons.mpr ⟨(ip_wsX9_cubic__wsX9_cubic_r1 _ (List.mem_of_getElem? (i := 20) rfl)), (List.forall_mem_cons.mpr ⟨(ip_wsX9_cubic__wsX9_cubic_r1 _ (List.mem_of_getElem? (i := 21) rfl)), (List.forall_mem_cons.mpr ⟨(ip_wsX9_cubic__wsX9_cubic_r1 _ (List.mem_of_getElem? (i := 22) rfl)), (List.forall_mem_cons.mpr ⟨(ip_wsX9_cubic__wsX9_cubic_r1 _ (List.mem_of_getElem? (i := 23) rfl)), (List.forall_mem_cons.mpr ⟨(ip_wsX9_cubic__wsX9_cubic_r2 _ (List.mem_of_getElem? (i := 0) rfl)), (List.forall_mem_cons.mpr ⟨(ip_wsX9_cubic__wsX9_cubic_r2 _ (List.mem_of_getElem? (i := 1) rfl)), (List.forall_mem_cons.mpr ⟨(ip_wsX9_cubic__wsX9_cubic_r2 _ (List.mem_of_getElem? (i := 2) rfl)), (List.forall_mem_cons.mpr ⟨(ip_wsX9_cubic__wsX9_cubic_r2 _ (List.mem_of_getElem? (i := 3) rfl)), (List.forall_mem_cons.mpr ⟨(ip_wsX9_cubic__wsX9_cubic_r2 _ (List.mem_of_getElem? (i := 4) rfl)), (List.forall_mem_cons.mpr ⟨(ip_wsX9_cubic__wsX9_cubic_r2 _ (List.mem_of_getElem? (i := 5) rfl)), (List.forall_mem_cons.mpr ⟨(ip_wsX9_cubic__wsX9_cubic_r2 _ (List.mem_of_getElem? (i := 6) rfl)), (fun _ h => absurd h List.not_mem_nil)⟩)⟩)⟩)⟩)⟩)⟩)⟩)⟩)⟩)⟩)⟩)⟩)⟩)⟩)⟩)⟩)⟩)⟩)⟩)⟩)⟩)⟩)⟩)⟩)) (show ∀ w ∈ wsX9_layCubic_r2, w ∈ wsX9_cubic from (List.forall_mem_cons.mpr ⟨(ip_wsX9_cubic__wsX9_cubic_r2 _ (List.mem_of_getElem? (i := 7) rfl)), (fun _ h => absurd h List.not_mem_nil)⟩))) (fun _ h => (List.mem_cons_of_mem _ (List.mem_append_right _ h))))⟩) (by decide +kernel)
set_option maxRecDepth 20000 in
theorem gX9_cubic_X9_layCubic : GoodIn wsX9_cubic (wsV RX9 96 RX9 yX9_layCubic wsX9_layCubic) := goodIn_app (goodIn_of _ (by decide +kernel)) ggX9_cubic_X9_layCubic
set_option maxRecDepth 20000 in
theorem ggX9_cubic_X9_discriminant : GoodIn wsX9_cubic wsX9_discriminant := goodIn_sub (List.forall_mem_cons.mpr ⟨(ip_wsX9_cubic__wsX9_cubic_r2 _ (List.mem_of_getElem? (i := 11) rfl)), (x_ap2 (List.forall_mem_cons.mpr ⟨(ip_wsX9_cubic__wsX9_cubic_r1 _ (List.mem_of_getElem? (i := 0) rfl)), (List.forall_mem_cons.mpr ⟨(ip_wsX9_cubic__wsX9_cubic_r1 _ (List.mem_of_getElem? (i := 10) rfl)), (List.forall_mem_cons.mpr ⟨(ip_wsX9_cubic__wsX9_cubic_r1 _ (List.mem_of_getElem? (i := 16) rfl)), (List.forall_mem_cons.mpr ⟨(ip_wsX9_cubic__wsX9_cubic_r1 _ (List.mem_of_getElem? (i := 17) rfl)), (List.forall_mem_cons.mpr ⟨(ip_wsX9_cubic__wsX9_cubic_r1 _ (List.mem_of_getElem? (i := 18) rfl)), (List.forall_mem_cons.mpr ⟨(ip_wsX9_cubic__wsX9_cubic_r1 _ (List.mem_of_getElem? (i := 3) rfl)), (List.forall_mem_cons.mpr ⟨(ip_wsX9_cubic__wsX9_cubic_r1 _ (List.mem_of_getElem? (i := 19) rfl)), (fun _ h => absurd h List.not_mem_nil)⟩)⟩)⟩)⟩)⟩)⟩)⟩) (fun _ h => (List.mem_cons_of_mem _ (List.mem_append_right _ h))))⟩) (by decide +kernel)
set_option maxRecDepth 20000 in
theorem gX9_cubic_X9_discriminant : GoodIn wsX9_cubic (wsV RX9 99 RX9 yX9_discriminant wsX9_discriminant) := goodIn_app (goodIn_of _ (by decide +kernel)) ggX9_cubic_X9_discriminant
theorem dX9_cubic_0 : decode cX9_cubic 0 = .ok (.iload_n 1, 1) := by decide +kernel
theorem dX9_cubic_1 : decode cX9_cubic 1 = .ok (.iconst 0, 1) := by decide +kernel
theorem dX9_cubic_2 : decode cX9_cubic 2 = .ok (.iconst 4, 1) := by decide +kernel
theorem dX9_cubic_3 : decode cX9_cubic 3 = .ok (.invokestatic 62, 3) := by decide +kernel
theorem dX9_cubic_6 : decode cX9_cubic 6 = .ok (.ifCond .ne 6, 3) := by decide +kernel
theorem dX9_cubic_9 : decode cX9_cubic 9 = .ok (.bipush (-2), 2) := by decide +kernel
theorem dX9_cubic_11 : decode cX9_cubic 11 = .ok (.ireturn, 1) := by decide +kernel
theorem dX9_cubic_12 : decode cX9_cubic 12 = .ok (.aload_n 0, 1) := by decide +kernel
theorem dX9_cubic_13 : decode cX9_cubic 13 = .ok (.invokevirtual 96, 3) := by decide +kernel
theorem dX9_cubic_16 : decode cX9_cubic 16 = .ok (.iload_n 1, 1) := by decide +kernel
theorem dX9_cubic_17 : decode cX9_cubic 17 = .ok (.iconst 4, 1) := by decide +kernel
theorem dX9_cubic_18 : decode cX9_cubic 18 = .ok (.if_icmp .ne 10, 3) := by decide +kernel
theorem dX9_cubic_21 : decode cX9_cubic 21 = .ok (.aload_n 0, 1) := by decide +kernel
theorem dX9_cubic_22 : decode cX9_cubic 22 = .ok (.invokevirtual 99, 3) := by decide +kernel
theorem dX9_cubic_25 : decode cX9_cubic 25 = .ok (.goto 9, 3) := by decide +kernel
theorem dX9_cubic_28 : decode cX9_cubic 28 = .ok (.aload_n 0, 1) := by decide +kernel
theorem dX9_cubic_29 : decode cX9_cubic 29 = .ok (.getfield 17, 3) := by decide +kernel
theorem dX9_cubic_32 : decode cX9_cubic 32 = .ok (.iload_n 1, 1) := by decide +kernel
theorem dX9_cubic_33 : decode cX9_cubic 33 = .ok (.iaload, 1) := by decide +kernel
theorem dX9_cubic_34 : decode cX9_cubic 34 = .ok (.ireturn, 1) := by decide +kernel
theorem ip_wsX9_isGood__wsX9_isGood_r1 : ∀ w ∈ wsX9_isGood_r1, w ∈ wsX9_isGood := fun _ h => (List.mem_cons_of_mem _ (List.mem_append_left _ (List.mem_append_left _ h)))
theorem ip_wsX9_isGood__wsX9_isGood_r2 : ∀ w ∈ wsX9_isGood_r2, w ∈ wsX9_isGood := fun _ h => (List.mem_cons_of_mem _ (List.mem_append_left _ (List.mem_append_right _ (List.mem_append_left _ h))))
theorem ip_wsX9_isGood__wsX9_isGood_r3 : ∀ w ∈ wsX9_isGood_r3, w ∈ wsX9_isGood := fun _ h => (List.mem_cons_of_mem _ (List.mem_append_left _ (List.mem_append_right _ (List.mem_append_right _ (List.mem_append_left _ h)))))
theorem ip_wsX9_isGood__wsX9_isGood_r4 : ∀ w ∈ wsX9_isGood_r4, w ∈ wsX9_isGood := fun _ h => (List.mem_cons_of_mem _ (List.mem_append_left _ (List.mem_append_right _ (List.mem_append_right _ (List.mem_append_right _ h)))))
set_option maxRecDepth 20000 in
theorem ggX9_isGood_X9_lay : GoodIn wsX9_isGood wsX9_lay := goodIn_sub (List.forall_mem_cons.mpr ⟨(ip_wsX9_isGood__wsX9_isGood_r1 _ (List.mem_of_getElem? (i := 5) rfl)), (x_ap2 (x_ap2 (show ∀ w ∈ wsX9_lay_r1, w ∈ wsX9_isGood from (List.forall_mem_cons.mpr ⟨(ip_wsX9_isGood__wsX9_isGood_r1 _ (List.mem_of_getElem? (i := 6) rfl)), (List.forall_mem_cons.mpr ⟨(ip_wsX9_isGood__wsX9_isGood_r1 _ (List.mem_of_getElem? (i := 7) rfl)), (List.forall_mem_cons.mpr ⟨(ip_wsX9_isGood__wsX9_isGood_r1 _ (List.mem_of_getElem? (i := 0) rfl)), (List.forall_mem_cons.mpr ⟨(ip_wsX9_isGood__wsX9_isGood_r1 _ (List.mem_of_getElem? (i := 8) rfl)), (List.forall_mem_cons.mpr ⟨(ip_wsX9_isGood__wsX9_isGood_r1 _ (List.mem_of_getElem? (i := 9) rfl)), (List.forall_mem_cons.mpr ⟨(ip_wsX9_isGood__wsX9_isGood_r1 _ (List.mem_of_getElem? (i := 10) rfl)), (List.forall_mem_cons.mpr ⟨(ip_wsX9_isGood__wsX9_isGood_r1 _ (List.mem_of_getElem? (i := 11) rfl)), (List.forall_mem_cons.mpr ⟨(ip_wsX9_isGood__wsX9_isGood_r1 _ (List.mem_of_getElem? (i := 12) rfl)), (List.forall_mem_cons.mpr ⟨(ip_wsX9_isGood__wsX9_isGood_r1 _ (List.mem_of_getElem? (i := 4) rfl)), (List.forall_mem_cons.mpr ⟨(ip_wsX9_isGood__wsX9_isGood_r1 _ (List.mem_of_getElem? (i := 13) rfl)), (List.forall_mem_cons.mpr ⟨(ip_wsX9_isGood__wsX9_isGood_r1 _ (List.mem_of_getElem? (i := 14) rfl)), (List.forall_mem_cons.mpr ⟨(ip_wsX9_isGood__wsX9_isGood_r1 _ (List.mem_of_getElem? (i := 15) rfl)), (List.forall_mem_cons.mpr ⟨(ip_wsX9_isGood__wsX9_isGood_r1 _ (List.mem_of_getElem? (i := 16) rfl)), (List.forall_mem_cons.mpr ⟨(ip_wsX9_isGood__wsX9_isGood_r1 _ (List.mem_of_getElem? (i := 17) rfl)), (List.forall_mem_cons.mpr ⟨(ip_wsX9_isGood__wsX9_isGood_r1 _ (List.mem_of_getElem? (i := 18) rfl)), (List.forall_mem_cons.mpr ⟨(ip_wsX9_isGood__wsX9_isGood_r1 _ (List.mem_of_getElem? (i := 19) rfl)), (List.forall_mem_cons.mpr ⟨(ip_wsX9_isGood__wsX9_isGood_r1 _ (List.mem_of_getElem? (i := 20) rfl)), (List.forall_mem_cons.mpr ⟨(ip_wsX9_isGood__wsX9_isGood_r1 _ (List.mem_of_getElem? (i := 21) rfl)), (List.forall_mem_cons.mpr ⟨(ip_wsX9_isGood__wsX9_isGood_r1 _ (List.mem_of_getElem? (i := 22) rfl)), (List.forall_mem_cons.mpr ⟨(ip_wsX9_isGood__wsX9_isGood_r1 _ (List.mem_of_getElem? (i := 23) rfl)), (List.forall_mem_cons.mpr ⟨(ip_wsX9_isGood__wsX9_isGood_r2 _ (List.mem_of_getElem? (i := 0) rfl)), (List.forall_mem_cons.mpr ⟨(ip_wsX9_isGood__wsX9_isGood_r2 _ (List.mem_of_getElem? (i := 1) rfl)), (List.forall_mem_cons.mpr ⟨(ip_wsX9_isGood__wsX9_isGood_r2 _ (List.mem_of_getElem? (i := 2) rfl)), (List.forall_mem_cons.mpr ⟨(ip_wsX9_isGood__wsX9_isGood_r2 _ (List.mem_of_getElem? (i := 3) rfl)), (fun _ h => absurd h List.not_mem_nil)⟩)⟩)⟩)⟩)⟩)⟩)⟩)⟩)⟩)⟩)⟩)⟩)⟩)⟩)⟩)⟩)⟩)⟩)⟩)⟩)⟩)⟩)⟩)⟩)) (x_ap2 (show ∀ w ∈ wsX9_lay_r2, w ∈ wsX9_isGood from (List.forall_mem_cons.mpr ⟨(ip_wsX9_isGood__wsX9_isGood_r2 _ (List.mem_of_getElem? (i := 4) rfl)), (List.forall_mem_cons.mpr ⟨(ip_wsX9_isGood__wsX9_isGood_r2 _ (List.mem_of_getElem? (i := 5) rfl)), (List.forall_mem_cons.mpr ⟨(ip_wsX9_isGood__wsX9_isGood_r2 _ (List.mem_of_getElem? (i := 6) rfl)), (List.forall_mem_cons.mpr ⟨(ip_wsX9_isGood__wsX9_isGood_r2 _ (List.mem_of_getElem? (i := 7) rfl)), (List.forall_mem_cons.mpr ⟨(ip_wsX9_isGood__wsX9_isGood_r2 _ (List.mem_of_getElem? (i := 8) rfl)), (List.forall_mem_cons.mpr ⟨(ip_wsX9_isGood__wsX9_isGood_r2 _ (List.mem_of_getElem? (i := 9) rfl)), (List.forall_mem_cons.mpr ⟨(ip_wsX9_isGood__wsX9_isGood_r2 _ (List.mem_of_getElem? (i := 10) rfl)), (List.forall_mem_cons.mpr ⟨(ip_wsX9_isGood__wsX9_isGood_r2 _ (List.mem_of_getElem? (i := 11) rfl)), (List.forall_mem_cons.mpr ⟨(ip_wsX9_isGood__wsX9_isGood_r2 _ (List.mem_of_getElem? (i := 12) rfl)), (List.forall_mem_cons.mpr ⟨(ip_wsX9_isGood__wsX9_isGood_r2 _ (List.mem_of_getElem? (i := 13) rfl)), (List.forall_mem_cons.mpr ⟨(ip_wsX9_isGood__wsX9_isGood_r2 _ (List.mem_of_getElem? (i := 14) rfl)), (List.forall_mem_cons.mpr ⟨(ip_wsX9_isGood__wsX9_isGood_r2 _ (List.mem_of_getElem? (i := 15) rfl)), (List.forall_mem_cons.mpr ⟨(ip_wsX9_isGood__wsX9_isGood_r2 _ (List.mem_of_getElem? (i := 16) rfl)), (List.forall_mem_cons.mpr ⟨(ip_wsX9_isGood__wsX9_isGood_r2 _ (List.mem_of_getElem? (i := 17) rfl)), (List.forall_mem_cons.mpr ⟨(ip_wsX9_isGood__wsX9_isGood_r2 _ (List.mem_of_getElem? (i := 18) rfl)), (List.forall_mem_cons.mpr ⟨(ip_wsX9_isGood__wsX9_isGood_r2 _ (List.mem_of_getElem? (i := 19) rfl)), (List.forall_mem_cons.mpr ⟨(ip_wsX9_isGood__wsX9_isGood_r2 _ (List.mem_of_getElem? (i := 20) rfl)), (List.forall_mem_cons.mpr ⟨(ip_wsX9_isGood__wsX9_isGood_r2 _ (List.mem_of_getElem? (i := 21) rfl)), (List.forall_mem_cons.mpr ⟨(ip_wsX9_isGood__wsX9_isGood_r2 _ (List.mem_of_getElem? (i := 22) rfl)), (List.forall_mem_cons.mpr ⟨(ip_wsX9_isGood__wsX9_isGood_r2 _ (List.mem_of_getElem? (i := 23) rfl)), (List.forall_mem_cons.mpr ⟨(ip_wsX9_isGood__wsX9_isGood_r3 _ (List.mem_of_getElem? (i := 0) rfl)), (List.forall_mem_cons.mpr ⟨(ip_wsX9_isGood__wsX9_isGood_r3 _ (List.mem_of_getElem? (i := 1) rfl)), (List.forall_mem_cons.mpr ⟨(ip_wsX9_isGood__wsX9_isGood_r3 _ (List.mem_of_getElem? (i := 2) rfl)), (List.forall_mem_cons.mpr ⟨(ip_wsX9_isGood__wsX9_isGood_r3 _ (List.mem_of_getElem? (i := 3) rfl)), (fun _ h => absurd h List.not_mem_nil)⟩)⟩)⟩)⟩)⟩)⟩)⟩)⟩)⟩)⟩)⟩)⟩)⟩)⟩)⟩)⟩)⟩)⟩)⟩)⟩)⟩)⟩)⟩)⟩)) (x_ap2 (show ∀ w ∈ wsX9_lay_r3, w ∈ wsX9_isGood from (List.forall_mem_cons.mpr ⟨(ip_wsX9_isGood__wsX9_isGood_r3 _ (List.mem_of_getElem? (i := 4) rfl)), (List.forall_mem_cons.mpr ⟨(ip_wsX9_isGood__wsX9_isGood_r3 _ (List.mem_of_getElem? (i := 5) rfl)), (List.forall_mem_cons.mpr ⟨(ip_wsX9_isGood__wsX9_isGood_r3 _ (List.mem_of_getElem? (i := 6) rfl)), (List.forall_mem_cons.mpr ⟨(ip_wsX9_isGood__wsX9_isGood_r3 _ (List.mem_of_getElem? (i := 7) rfl)), (List.forall_mem_cons.mpr ⟨(ip_wsX9_isGood__wsX9_isGood_r3 _ (List.mem_of_getElem? (i := 8) rfl)), (List.forall_mem_cons.mpr ⟨(ip_wsX9_isGood__wsX9_isGood_r3 _ (List.mem_of_getElem? (i := 9) rfl)), (List.forall_mem_cons.mpr ⟨(ip_wsX9_isGood__wsX9_isGood_r3 _ (List.mem_of_getElem? (i := 10) rfl)), (List.forall_mem_cons.mpr ⟨(ip_wsX9_isGood__wsX9_isGood_r3 _ (List.mem_of_getElem? (i := 11) rfl)), (List.forall_mem_cons.mpr ⟨(ip_wsX9_isGood__wsX9_isGood_r3 _ (List.mem_of_getElem? (i := 12) rfl)), (List.forall_mem_cons.mpr ⟨(ip_wsX9_isGood__wsX9_isGood_r3 _ (List.mem_of_getElem? (i := 13) rfl)), (List.forall_mem_cons.mpr ⟨(ip_wsX9_isGood__wsX9_isGood_r3 _ (List.mem_of_getElem? (i := 14) rfl)), (List.forall_mem_cons.mpr ⟨(ip_wsX9_isGood__wsX9_isGood_r3 _ (List.mem_of_getElem? (i := 15) rfl)), (List.forall_mem_cons.mpr ⟨(ip_wsX9_isGood__wsX9_isGood_r3 _ (List.mem_of_getElem? (i := 16) rfl)), (List.forall_mem_cons.mpr ⟨(ip_wsX9_isGood__wsX9_isGood_r3 _ (List.mem_of_getElem? (i := 17) rfl)), (List.forall_mem_cons.mpr ⟨(ip_wsX9_isGood__wsX9_isGood_r3 _ (List.mem_of_getElem? (i := 18) rfl)), (List.forall_mem_cons.mpr ⟨(ip_wsX9_isGood__wsX9_isGood_r3 _ (List.mem_of_getElem? (i := 19) rfl)), (List.forall_mem_cons.mpr ⟨(ip_wsX9_isGood__wsX9_isGood_r3 _ (List.mem_of_getElem? (i := 20) rfl)), (List.forall_mem_cons.mpr ⟨(ip_wsX9_isGood__wsX9_isGood_r3 _ (List.mem_of_getElem? (i := 21) rfl)), (List.forall_mem_cons.mpr ⟨(ip_wsX9_isGood__wsX9_isGood_r3 _ (List.mem_of_getElem? (i := 22) rfl)), (List.forall_mem_cons.mpr ⟨(ip_wsX9_isGood__wsX9_isGood_r3 _ (List.mem_of_getElem? (i := 23) rfl)), (List.forall_mem_cons.mpr ⟨(ip_wsX9_isGood__wsX9_isGood_r4 _ (List.mem_of_getElem? (i := 0) rfl)), (List.forall_mem_cons.mpr ⟨(ip_wsX9_isGood__wsX9_isGood_r4 _ (List.mem_of_getElem? (i := 1) rfl)), (List.forall_mem_cons.mpr ⟨(ip_wsX9_isGood__wsX9_isGood_r4 _ (List.mem_of_getElem? (i := 2) rfl)), (List.forall_mem_cons.mpr ⟨(ip_wsX9_isGood__wsX9_isGood_r4 _ (List.mem_of_getElem? (i := 3) rfl)), (fun _ h => absurd h List.not_mem_nil)⟩)⟩)⟩)⟩)⟩)⟩)⟩)⟩)⟩)⟩)⟩)⟩)⟩)⟩)⟩)⟩)⟩)⟩)⟩)⟩)⟩)⟩)⟩)⟩)) (show ∀ w ∈ wsX9_lay_r4, w ∈ wsX9_isGood from (List.forall_mem_cons.mpr ⟨(ip_wsX9_isGood__wsX9_isGood_r4 _ (List.mem_of_getElem? (i := 4) rfl)), (List.forall_mem_cons.mpr ⟨(ip_wsX9_isGood__wsX9_isGood_r4 _ (List.mem_of_getElem? (i := 5) rfl)), (List.forall_mem_cons.mpr ⟨(ip_wsX9_isGood__wsX9_isGood_r4 _ (List.mem_of_getElem? (i := 6) rfl)), (List.forall_mem_cons.mpr ⟨(ip_wsX9_isGood__wsX9_isGood_r4 _ (List.mem_of_getElem? (i := 7) rfl)), (List.forall_mem_cons.mpr ⟨(ip_wsX9_isGood__wsX9_isGood_r4 _ (List.mem_of_getElem? (i := 8) rfl)), (List.forall_mem_cons.mpr ⟨(ip_wsX9_isGood__wsX9_isGood_r4 _ (List.mem_of_getElem? (i := 9) rfl)), (List.forall_mem_cons.mpr ⟨(ip_wsX9_isGood__wsX9_isGood_r4 _ (List.mem_of_getElem? (i := 10) rfl)), (List.forall_mem_cons.mpr ⟨(ip_wsX9_isGood__wsX9_isGood_r4 _ (List.mem_of_getElem? (i := 11) rfl)), (List.forall_mem_cons.mpr ⟨(ip_wsX9_isGood__wsX9_isGood_r4 _ (List.mem_of_getElem? (i := 12) rfl)), (List.forall_mem_cons.mpr ⟨(ip_wsX9_isGood__wsX9_isGood_r4 _ (List.mem_of_getElem? (i := 13) rfl)), (List.forall_mem_cons.mpr ⟨(ip_wsX9_isGood__wsX9_isGood_r4 _ (List.mem_of_getElem? (i := 14) rfl)), (List.forall_mem_cons.mpr ⟨(ip_wsX9_isGood__wsX9_isGood_r4 _ (List.mem_of_getElem? (i := 15) rfl)), (List.forall_mem_cons.mpr ⟨(ip_wsX9_isGood__wsX9_isGood_r4 _ (List.mem_of_getElem? (i := 16) rfl)), (List.forall_mem_cons.mpr ⟨(ip_wsX9_isGood__wsX9_isGood_r4 _ (List.mem_of_getElem? (i := 17) rfl)), (fun _ h => absurd h List.not_mem_nil)⟩)⟩)⟩)⟩)⟩)⟩)⟩)⟩)⟩)⟩)⟩)⟩)⟩)⟩))))) (fun _ h => (List.mem_cons_of_mem _ (List.mem_append_right _ h))))⟩) (by decide +kernel)
set_option maxRecDepth 20000 in
theorem gX9_isGood_X9_lay : GoodIn wsX9_isGood (wsV RX9 103 RX9 yX9_lay wsX9_lay) := goodIn_app (goodIn_of _ (by decide +kernel)) ggX9_isGood_X9_lay
theorem dX9_isGood_0 : decode cX9_isGood 0 = .ok (.aload_n 0, 1) := by decide +kernel
theorem dX9_isGood_1 : decode cX9_isGood 1 = .ok (.invokevirtual 103, 3) := by decide +kernel
theorem dX9_isGood_4 : decode cX9_isGood 4 = .ok (.aload_n 0, 1) := by decide +kernel
theorem dX9_isGood_5 : decode cX9_isGood 5 = .ok (.getfield 106, 3) := by decide +kernel
theorem dX9_isGood_8 : decode cX9_isGood 8 = .ok (.ireturn, 1) := by decide +kernel
theorem ip_wsX9_good__wsX9_good_r1 : ∀ w ∈ wsX9_good_r1, w ∈ wsX9_good := fun _ h => (List.mem_cons_of_mem _ (List.mem_append_left _ (List.mem_append_left _ h)))
theorem ip_wsX9_good__wsX9_good_r2 : ∀ w ∈ wsX9_good_r2, w ∈ wsX9_good := fun _ h => (List.mem_cons_of_mem _ (List.mem_append_left _ (List.mem_append_right _ (List.mem_append_left _ h))))
theorem ip_wsX9_good__wsX9_good_r3 : ∀ w ∈ wsX9_good_r3, w ∈ wsX9_good := fun _ h => (List.mem_cons_of_mem _ (List.mem_append_left _ (List.mem_append_right _ (List.mem_append_right _ (List.mem_append_left _ h)))))
theorem ip_wsX9_good__wsX9_good_r4 : ∀ w ∈ wsX9_good_r4, w ∈ wsX9_good := fun _ h => (List.mem_cons_of_mem _ (List.mem_append_left _ (List.mem_append_right _ (List.mem_append_right _ (List.mem_append_right _ h)))))
set_option maxRecDepth 20000 in
theorem ggX9_good_X9_isGood : GoodIn wsX9_good wsX9_isGood := goodIn_sub (List.forall_mem_cons.mpr ⟨(ip_wsX9_good__wsX9_good_r1 _ (List.mem_of_getElem? (i := 4) rfl)), (x_ap2 (x_ap2 (show ∀ w ∈ wsX9_isGood_r1, w ∈ wsX9_good from (List.forall_mem_cons.mpr ⟨(ip_wsX9_good__wsX9_good_r1 _ (List.mem_of_getElem? (i := 5) rfl)), (List.forall_mem_cons.mpr ⟨(ip_wsX9_good__wsX9_good_r1 _ (List.mem_of_getElem? (i := 6) rfl)), (List.forall_mem_cons.mpr ⟨(ip_wsX9_good__wsX9_good_r1 _ (List.mem_of_getElem? (i := 7) rfl)), (List.forall_mem_cons.mpr ⟨(ip_wsX9_good__wsX9_good_r1 _ (List.mem_of_getElem? (i := 8) rfl)), (List.forall_mem_cons.mpr ⟨(ip_wsX9_good__wsX9_good_r1 _ (List.mem_of_getElem? (i := 3) rfl)), (List.forall_mem_cons.mpr ⟨(ip_wsX9_good__wsX9_good_r1 _ (List.mem_of_getElem? (i := 9) rfl)), (List.forall_mem_cons.mpr ⟨(ip_wsX9_good__wsX9_good_r1 _ (List.mem_of_getElem? (i := 10) rfl)), (List.forall_mem_cons.mpr ⟨(ip_wsX9_good__wsX9_good_r1 _ (List.mem_of_getElem? (i := 11) rfl)), (List.forall_mem_cons.mpr ⟨(ip_wsX9_good__wsX9_good_r1 _ (List.mem_of_getElem? (i := 12) rfl)), (List.forall_mem_cons.mpr ⟨(ip_wsX9_good__wsX9_good_r1 _ (List.mem_of_getElem? (i := 13) rfl)), (List.forall_mem_cons.mpr ⟨(ip_wsX9_good__wsX9_good_r1 _ (List.mem_of_getElem? (i := 14) rfl)), (List.forall_mem_cons.mpr ⟨(ip_wsX9_good__wsX9_good_r1 _ (List.mem_of_getElem? (i := 15) rfl)), (List.forall_mem_cons.mpr ⟨(ip_wsX9_good__wsX9_good_r1 _ (List.mem_of_getElem? (i := 16) rfl)), (List.forall_mem_cons.mpr ⟨(ip_wsX9_good__wsX9_good_r1 _ (List.mem_of_getElem? (i := 17) rfl)), (List.forall_mem_cons.mpr ⟨(ip_wsX9_good__wsX9_good_r1 _ (List.mem_of_getElem? (i := 18) rfl)), (List.forall_mem_cons.mpr ⟨(ip_wsX9_good__wsX9_good_r1 _ (List.mem_of_getElem? (i := 19) rfl)), (List.forall_mem_cons.mpr ⟨(ip_wsX9_good__wsX9_good_r1 _ (List.mem_of_getElem? (i := 20) rfl)), (List.forall_mem_cons.mpr ⟨(ip_wsX9_good__wsX9_good_r1 _ (List.mem_of_getElem? (i := 21) rfl)), (List.forall_mem_cons.mpr ⟨(ip_wsX9_good__wsX9_good_r1 _ (List.mem_of_getElem? (i := 22) rfl)), (List.forall_mem_cons.mpr ⟨(ip_wsX9_good__wsX9_good_r1 _ (List.mem_of_getElem? (i := 23) rfl)), (List.forall_mem_cons.mpr ⟨(ip_wsX9_good__wsX9_good_r2 _ (List.mem_of_getElem? (i := 0) rfl)), (List.forall_mem_cons.mpr ⟨(ip_wsX9_good__wsX9_good_r2 _ (List.mem_of_getElem? (i := 1) rfl)), (List.forall_mem_cons.mpr ⟨(ip_wsX9_good__wsX9_good_r2 _ (List.mem_of_getElem? (i := 2) rfl)), (List.forall_mem_cons.mpr ⟨(ip_wsX9_good__wsX9_good_r2 _ (List.mem_of_getElem? (i := 3) rfl)), (fun _ h => absurd h List.not_mem_nil)⟩)⟩)⟩)⟩)⟩)⟩)⟩)⟩)⟩)⟩)⟩)⟩)⟩)⟩)⟩)⟩)⟩)⟩)⟩)⟩)⟩)⟩)⟩)⟩)) (x_ap2 (show ∀ w ∈ wsX9_isGood_r2, w ∈ wsX9_good from (List.forall_mem_cons.mpr ⟨(ip_wsX9_good__wsX9_good_r2 _ (List.mem_of_getElem? (i := 4) rfl)), (List.forall_mem_cons.mpr ⟨(ip_wsX9_good__wsX9_good_r2 _ (List.mem_of_getElem? (i := 5) rfl)), (List.forall_mem_cons.mpr ⟨(ip_wsX9_good__wsX9_good_r2 _ (List.mem_of_getElem? (i := 6) rfl)), (List.forall_mem_cons.mpr ⟨(ip_wsX9_good__wsX9_good_r2 _ (List.mem_of_getElem? (i := 7) rfl)), (List.forall_mem_cons.mpr ⟨(ip_wsX9_good__wsX9_good_r2 _ (List.mem_of_getElem? (i := 8) rfl)), (List.forall_mem_cons.mpr ⟨(ip_wsX9_good__wsX9_good_r2 _ (List.mem_of_getElem? (i := 9) rfl)), (List.forall_mem_cons.mpr ⟨(ip_wsX9_good__wsX9_good_r2 _ (List.mem_of_getElem? (i := 10) rfl)), (List.forall_mem_cons.mpr ⟨(ip_wsX9_good__wsX9_good_r2 _ (List.mem_of_getElem? (i := 11) rfl)), (List.forall_mem_cons.mpr ⟨(ip_wsX9_good__wsX9_good_r2 _ (List.mem_of_getElem? (i := 12) rfl)), (List.forall_mem_cons.mpr ⟨(ip_wsX9_good__wsX9_good_r2 _ (List.mem_of_getElem? (i := 13) rfl)), (List.forall_mem_cons.mpr ⟨(ip_wsX9_good__wsX9_good_r2 _ (List.mem_of_getElem? (i := 14) rfl)), (List.forall_mem_cons.mpr ⟨(ip_wsX9_good__wsX9_good_r2 _ (List.mem_of_getElem? (i := 15) rfl)), (List.forall_mem_cons.mpr ⟨(ip_wsX9_good__wsX9_good_r2 _ (List.mem_of_getElem? (i := 16) rfl)), (List.forall_mem_cons.mpr ⟨(ip_wsX9_good__wsX9_good_r2 _ (List.mem_of_getElem? (i := 17) rfl)), (List.forall_mem_cons.mpr ⟨(ip_wsX9_good__wsX9_good_r2 _ (List.mem_of_getElem? (i := 18) rfl)), (List.forall_mem_cons.mpr ⟨(ip_wsX9_good__wsX9_good_r2 _ (List.mem_of_getElem? (i := 19) rfl)), (List.forall_mem_cons.mpr ⟨(ip_wsX9_good__wsX9_good_r2 _ (List.mem_of_getElem? (i := 20) rfl)), (List.forall_mem_cons.mpr ⟨(ip_wsX9_good__wsX9_good_r2 _ (List.mem_of_getElem? (i := 21) rfl)), (List.forall_mem_cons.mpr ⟨(ip_wsX9_good__wsX9_good_r2 _ (List.mem_of_getElem? (i := 22) rfl)), (List.forall_mem_cons.mpr ⟨(ip_wsX9_good__wsX9_good_r2 _ (List.mem_of_getElem? (i := 23) rfl)), (List.forall_mem_cons.mpr ⟨(ip_wsX9_good__wsX9_good_r3 _ (List.mem_of_getElem? (i := 0) rfl)), (List.forall_mem_cons.mpr ⟨(ip_wsX9_good__wsX9_good_r3 _ (List.mem_of_getElem? (i := 1) rfl)), (List.forall_mem_cons.mpr ⟨(ip_wsX9_good__wsX9_good_r3 _ (List.mem_of_getElem? (i := 2) rfl)), (List.forall_mem_cons.mpr ⟨(ip_wsX9_good__wsX9_good_r3 _ (List.mem_of_getElem? (i := 3) rfl)), (fun _ h => absurd h List.not_mem_nil)⟩)⟩)⟩)⟩)⟩)⟩)⟩)⟩)⟩)⟩)⟩)⟩)⟩)⟩)⟩)⟩)⟩)⟩)⟩)⟩)⟩)⟩)⟩)⟩)) (x_ap2 (show ∀ w ∈ wsX9_isGood_r3, w ∈ wsX9_good from (List.forall_mem_cons.mpr ⟨(ip_wsX9_good__wsX9_good_r3 _ (List.mem_of_getElem? (i := 4) rfl)), (List.forall_mem_cons.mpr ⟨(ip_wsX9_good__wsX9_good_r3 _ (List.mem_of_getElem? (i := 5) rfl)), (List.forall_mem_cons.mpr ⟨(ip_wsX9_good__wsX9_good_r3 _ (List.mem_of_getElem? (i := 6) rfl)), (List.forall_mem_cons.mpr ⟨(ip_wsX9_good__wsX9_good_r3 _ (List.mem_of_getElem? (i := 7) rfl)), (List.forall_mem_cons.mpr ⟨(ip_wsX9_good__wsX9_good_r3 _ (List.mem_of_getElem? (i := 8) rfl)), (List.forall_mem_cons.mpr ⟨(ip_wsX9_good__wsX9_good_r3 _ (List.mem_of_getElem? (i := 9) rfl)), (List.forall_mem_cons.mpr ⟨(ip_wsX9_good__wsX9_good_r3 _ (List.mem_of_getElem? (i := 10) rfl)), (List.forall_mem_cons.mpr ⟨(ip_wsX9_good__wsX9_good_r3 _ (List.mem_of_getElem? (i := 11) rfl)), (List.forall_mem_cons.mpr ⟨(ip_wsX9_good__wsX9_good_r3 _ (List.mem_of_getElem? (i := 12) rfl)), (List.forall_mem_cons.mpr ⟨(ip_wsX9_good__wsX9_good_r3 _ (List.mem_of_getElem? (i := 13) rfl)), (List.forall_mem_cons.mpr ⟨(ip_wsX9_good__wsX9_good_r3 _ (List.mem_of_getElem? (i := 14) rfl)), (List.forall_mem_cons.mpr ⟨(ip_wsX9_good__wsX9_good_r3 _ (List.mem_of_getElem? (i := 15) rfl)), (List.forall_mem_cons.mpr ⟨(ip_wsX9_good__wsX9_good_r3 _ (List.mem_of_getElem? (i := 16) rfl)), (List.forall_mem_cons.mpr ⟨(ip_wsX9_good__wsX9_good_r3 _ (List.mem_of_getElem? (i := 17) rfl)), (List.forall_mem_cons.mpr ⟨(ip_wsX9_good__wsX9_good_r3 _ (List.mem_of_getElem? (i := 18) rfl)), (List.forall_mem_cons.mpr ⟨(ip_wsX9_good__wsX9_good_r3 _ (List.mem_of_getElem? (i := 19) rfl)), (List.forall_mem_cons.mpr ⟨(ip_wsX9_good__wsX9_good_r3 _ (List.mem_of_getElem? (i := 20) rfl)), (List.forall_mem_cons.mpr ⟨(ip_wsX9_good__wsX9_good_r3 _ (List.mem_of_getElem? (i := 21) rfl)), (List.forall_mem_cons.mpr ⟨(ip_wsX9_good__wsX9_good_r3 _ (List.mem_of_getElem? (i := 22) rfl)), (List.forall_mem_cons.mpr ⟨(ip_wsX9_good__wsX9_good_r3 _ (List.mem_of_getElem? (i := 23) rfl)), (List.forall_mem_cons.mpr ⟨(ip_wsX9_good__wsX9_good_r4 _ (List.mem_of_getElem? (i := 0) rfl)), (List.forall_mem_cons.mpr ⟨(ip_wsX9_good__wsX9_good_r4 _ (List.mem_of_getElem? (i := 1) rfl)), (List.forall_mem_cons.mpr ⟨(ip_wsX9_good__wsX9_good_r4 _ (List.mem_of_getElem? (i := 2) rfl)), (List.forall_mem_cons.mpr ⟨(ip_wsX9_good__wsX9_good_r4 _ (List.mem_of_getElem? (i := 3) rfl)), (fun _ h => absurd h List.not_mem_nil)⟩)⟩)⟩)⟩)⟩)⟩)⟩)⟩)⟩)⟩)⟩)⟩)⟩)⟩)⟩)⟩)⟩)⟩)⟩)⟩)⟩)⟩)⟩)⟩)) (show ∀ w ∈ wsX9_isGood_r4, w ∈ wsX9_good from (List.forall_mem_cons.mpr ⟨(ip_wsX9_good__wsX9_good_r4 _ (List.mem_of_getElem? (i := 4) rfl)), (List.forall_mem_cons.mpr ⟨(ip_wsX9_good__wsX9_good_r4 _ (List.mem_of_getElem? (i := 5) rfl)), (List.forall_mem_cons.mpr ⟨(ip_wsX9_good__wsX9_good_r4 _ (List.mem_of_getElem? (i := 6) rfl)), (List.forall_mem_cons.mpr ⟨(ip_wsX9_good__wsX9_good_r4 _ (List.mem_of_getElem? (i := 7) rfl)), (List.forall_mem_cons.mpr ⟨(ip_wsX9_good__wsX9_good_r4 _ (List.mem_of_getElem? (i := 8) rfl)), (List.forall_mem_cons.mpr ⟨(ip_wsX9_good__wsX9_good_r4 _ (List.mem_of_getElem? (i := 9) rfl)), (List.forall_mem_cons.mpr ⟨(ip_wsX9_good__wsX9_good_r4 _ (List.mem_of_getElem? (i := 10) rfl)), (List.forall_mem_cons.mpr ⟨(ip_wsX9_good__wsX9_good_r4 _ (List.mem_of_getElem? (i := 11) rfl)), (List.forall_mem_cons.mpr ⟨(ip_wsX9_good__wsX9_good_r4 _ (List.mem_of_getElem? (i := 12) rfl)), (List.forall_mem_cons.mpr ⟨(ip_wsX9_good__wsX9_good_r4 _ (List.mem_of_getElem? (i := 13) rfl)), (List.forall_mem_cons.mpr ⟨(ip_wsX9_good__wsX9_good_r4 _ (List.mem_of_getElem? (i := 14) rfl)), (List.forall_mem_cons.mpr ⟨(ip_wsX9_good__wsX9_good_r4 _ (List.mem_of_getElem? (i := 15) rfl)), (List.forall_mem_cons.mpr ⟨(ip_wsX9_good__wsX9_good_r4 _ (List.mem_of_getElem? (i := 16) rfl)), (List.forall_mem_cons.mpr ⟨(ip_wsX9_good__wsX9_good_r4 _ (List.mem_of_getElem? (i := 17) rfl)), (List.forall_mem_cons.mpr ⟨(ip_wsX9_good__wsX9_good_r4 _ (List.mem_of_getElem? (i := 18) rfl)), (List.forall_mem_cons.mpr ⟨(ip_wsX9_good__wsX9_good_r4 _ (List.mem_of_getElem? (i := 19) rfl)), (List.forall_mem_cons.mpr ⟨(ip_wsX9_good__wsX9_good_r4 _ (List.mem_of_getElem? (i := 20) rfl)), (List.forall_mem_cons.mpr ⟨(ip_wsX9_good__wsX9_good_r4 _ (List.mem_of_getElem? (i := 21) rfl)), (fun _ h => absurd h List.not_mem_nil)⟩)⟩)⟩)⟩)⟩)⟩)⟩)⟩)⟩)⟩)⟩)⟩)⟩)⟩)⟩)⟩)⟩)⟩))))) (fun _ h => (List.mem_cons_of_mem _ (List.mem_append_right _ h))))⟩) (by decide +kernel)
set_option maxRecDepth 20000 in
theorem gX9_good_X9_isGood : GoodIn wsX9_good (wsV RX9 109 RX9 yX9_isGood wsX9_isGood) := goodIn_app (goodIn_of _ (by decide +kernel)) ggX9_good_X9_isGood
theorem dX9_good_0 : decode cX9_good 0 = .ok (.aload_n 0, 1) := by decide +kernel
theorem dX9_good_1 : decode cX9_good 1 = .ok (.invokevirtual 109, 3) := by decide +kernel
theorem dX9_good_4 : decode cX9_good 4 = .ok (.ifCond .eq 7, 3) := by decide +kernel
theorem dX9_good_7 : decode cX9_good 7 = .ok (.iconst 1, 1) := by decide +kernel
theorem dX9_good_8 : decode cX9_good 8 = .ok (.goto 4, 3) := by decide +kernel
theorem dX9_good_11 : decode cX9_good 11 = .ok (.iconst 0, 1) := by decide +kernel
theorem dX9_good_12 : decode cX9_good 12 = .ok (.ireturn, 1) := by decide +kernel
set_option maxRecDepth 20000 in
theorem ggX9_on_X9_isNumber : GoodIn wsX9_on wsX9_isNumber := goodIn_sub (List.forall_mem_cons.mpr ⟨(List.mem_cons_of_mem _ (List.mem_append_left _ (List.mem_of_getElem? (i := 5) rfl))), (x_ap2 (List.forall_mem_cons.mpr ⟨(List.mem_cons_of_mem _ (List.mem_append_left _ (List.mem_of_getElem? (i := 6) rfl))), (List.forall_mem_cons.mpr ⟨(List.mem_cons_of_mem _ (List.mem_append_left _ (List.mem_of_getElem? (i := 7) rfl))), (List.forall_mem_cons.mpr ⟨(List.mem_cons_of_mem _ (List.mem_append_left _ (List.mem_of_getElem? (i := 8) rfl))), (List.forall_mem_cons.mpr ⟨(List.mem_cons_of_mem _ (List.mem_append_left _ (List.mem_of_getElem? (i := 4) rfl))), (List.forall_mem_cons.mpr ⟨(List.mem_cons_of_mem _ (List.mem_append_left _ (List.mem_of_getElem? (i := 9) rfl))), (fun _ h => absurd h List.not_mem_nil)⟩)⟩)⟩)⟩)⟩) (fun _ h => (List.mem_cons_of_mem _ (List.mem_append_right _ h))))⟩) (by decide +kernel)
set_option maxRecDepth 20000 in
theorem gX9_on_X9_isNumber : GoodIn wsX9_on (wsV RX9 70 RX9 yX9_isNumber wsX9_isNumber) := goodIn_app (goodIn_of _ (by decide +kernel)) ggX9_on_X9_isNumber
set_option maxRecDepth 20000 in
theorem ggX9_on_X9_mixOf : GoodIn wsX9_on wsX9_mixOf := goodIn_sub (List.forall_mem_cons.mpr ⟨(List.mem_cons_of_mem _ (List.mem_append_left _ (List.mem_of_getElem? (i := 13) rfl))), (x_ap2 (List.forall_mem_cons.mpr ⟨(List.mem_cons_of_mem _ (List.mem_append_left _ (List.mem_of_getElem? (i := 0) rfl))), (List.forall_mem_cons.mpr ⟨(List.mem_cons_of_mem _ (List.mem_append_left _ (List.mem_of_getElem? (i := 14) rfl))), (List.forall_mem_cons.mpr ⟨(List.mem_cons_of_mem _ (List.mem_append_left _ (List.mem_of_getElem? (i := 15) rfl))), (List.forall_mem_cons.mpr ⟨(List.mem_cons_of_mem _ (List.mem_append_left _ (List.mem_of_getElem? (i := 16) rfl))), (List.forall_mem_cons.mpr ⟨(List.mem_cons_of_mem _ (List.mem_append_left _ (List.mem_of_getElem? (i := 17) rfl))), (List.forall_mem_cons.mpr ⟨(List.mem_cons_of_mem _ (List.mem_append_left _ (List.mem_of_getElem? (i := 4) rfl))), (List.forall_mem_cons.mpr ⟨(List.mem_cons_of_mem _ (List.mem_append_left _ (List.mem_of_getElem? (i := 18) rfl))), (List.forall_mem_cons.mpr ⟨(List.mem_cons_of_mem _ (List.mem_append_left _ (List.mem_of_getElem? (i := 6) rfl))), (fun _ h => absurd h List.not_mem_nil)⟩)⟩)⟩)⟩)⟩)⟩)⟩)⟩) (fun _ h => (List.mem_cons_of_mem _ (List.mem_append_right _ h))))⟩) (by decide +kernel)
set_option maxRecDepth 20000 in
theorem gX9_on_X9_mixOf : GoodIn wsX9_on (wsV RX9 112 RX9 yX9_mixOf wsX9_mixOf) := goodIn_app (goodIn_of _ (by decide +kernel)) ggX9_on_X9_mixOf
set_option maxRecDepth 20000 in
theorem ggX9_on_X9_both : GoodIn wsX9_on wsX9_both := goodIn_sub (List.forall_mem_cons.mpr ⟨(List.mem_cons_of_mem _ (List.mem_append_left _ (List.mem_of_getElem? (i := 22) rfl))), (x_ap2 (List.forall_mem_cons.mpr ⟨(List.mem_cons_of_mem _ (List.mem_append_left _ (List.mem_of_getElem? (i := 15) rfl))), (List.forall_mem_cons.mpr ⟨(List.mem_cons_of_mem _ (List.mem_append_left _ (List.mem_of_getElem? (i := 16) rfl))), (List.forall_mem_cons.mpr ⟨(List.mem_cons_of_mem _ (List.mem_append_left _ (List.mem_of_getElem? (i := 17) rfl))), (List.forall_mem_cons.mpr ⟨(List.mem_cons_of_mem _ (List.mem_append_left _ (List.mem_of_getElem? (i := 4) rfl))), (List.forall_mem_cons.mpr ⟨(List.mem_cons_of_mem _ (List.mem_append_left _ (List.mem_of_getElem? (i := 18) rfl))), (List.forall_mem_cons.mpr ⟨(List.mem_cons_of_mem _ (List.mem_append_left _ (List.mem_of_getElem? (i := 6) rfl))), (fun _ h => absurd h List.not_mem_nil)⟩)⟩)⟩)⟩)⟩)⟩) (fun _ h => (List.mem_cons_of_mem _ (List.mem_append_right _ h))))⟩) (by decide +kernel)
set_option maxRecDepth 20000 in
theorem gX9_on_X9_both : GoodIn wsX9_on (wsV RX9 116 RX9 yX9_both wsX9_both) := goodIn_app (goodIn_of _ (by decide +kernel)) ggX9_on_X9_both
theorem dX9_on_0 : decode cX9_on 0 = .ok (.aload_n 0, 1) := by decide +kernel
theorem dX9_on_1 : decode cX9_on 1 = .ok (.iload_n 1, 1) := by decide +kernel
theorem dX9_on_2 : decode cX9_on 2 = .ok (.invokevirtual 70, 3) := by decide +kernel
theorem dX9_on_5 : decode cX9_on 5 = .ok (.ifCond .eq 37, 3) := by decide +kernel
theorem dX9_on_8 : decode cX9_on 8 = .ok (.aload_n 0, 1) := by decide +kernel
theorem dX9_on_9 : decode cX9_on 9 = .ok (.iload_n 2, 1) := by decide +kernel
theorem dX9_on_10 : decode cX9_on 10 = .ok (.invokevirtual 70, 3) := by decide +kernel
theorem dX9_on_13 : decode cX9_on 13 = .ok (.ifCond .eq 29, 3) := by decide +kernel
theorem dX9_on_16 : decode cX9_on 16 = .ok (.aload_n 0, 1) := by decide +kernel
theorem dX9_on_17 : decode cX9_on 17 = .ok (.iload_n 3, 1) := by decide +kernel
theorem dX9_on_18 : decode cX9_on 18 = .ok (.invokevirtual 70, 3) := by decide +kernel
theorem dX9_on_21 : decode cX9_on 21 = .ok (.ifCond .eq 21, 3) := by decide +kernel
theorem dX9_on_24 : decode cX9_on 24 = .ok (.aload_n 0, 1) := by decide +kernel
theorem dX9_on_25 : decode cX9_on 25 = .ok (.iload 4, 2) := by decide +kernel
theorem dX9_on_27 : decode cX9_on 27 = .ok (.invokevirtual 70, 3) := by decide +kernel
theorem dX9_on_30 : decode cX9_on 30 = .ok (.ifCond .eq 12, 3) := by decide +kernel
theorem dX9_on_33 : decode cX9_on 33 = .ok (.aload_n 0, 1) := by decide +kernel
theorem dX9_on_34 : decode cX9_on 34 = .ok (.iload 5, 2) := by decide +kernel
theorem dX9_on_36 : decode cX9_on 36 = .ok (.invokevirtual 70, 3) := by decide +kernel
theorem dX9_on_39 : decode cX9_on 39 = .ok (.ifCond .ne 6, 3) := by decide +kernel
theorem dX9_on_42 : decode cX9_on 42 = .ok (.bipush (-2), 2) := by decide +kernel
theorem dX9_on_44 : decode cX9_on 44 = .ok (.ireturn, 1) := by decide +kernel
theorem dX9_on_45 : decode cX9_on 45 = .ok (.aload_n 0, 1) := by decide +kernel
theorem dX9_on_46 : decode cX9_on 46 = .ok (.iload_n 1, 1) := by decide +kernel
theorem dX9_on_47 : decode cX9_on 47 = .ok (.iload_n 2, 1) := by decide +kernel
theorem dX9_on_48 : decode cX9_on 48 = .ok (.invokevirtual 112, 3) := by decide +kernel
theorem dX9_on_51 : decode cX9_on 51 = .ok (.aload_n 0, 1) := by decide +kernel
theorem dX9_on_52 : decode cX9_on 52 = .ok (.aload_n 0, 1) := by decide +kernel
theorem dX9_on_53 : decode cX9_on 53 = .ok (.getfield 50, 3) := by decide +kernel
theorem dX9_on_56 : decode cX9_on 56 = .ok (.iconst 0, 1) := by decide +kernel
theorem dX9_on_57 : decode cX9_on 57 = .ok (.iload_n 3, 1) := by decide +kernel
theorem dX9_on_58 : decode cX9_on 58 = .ok (.iload 4, 2) := by decide +kernel
theorem dX9_on_60 : decode cX9_on 60 = .ok (.iload 5, 2) := by decide +kernel
theorem dX9_on_62 : decode cX9_on 62 = .ok (.invokevirtual 116, 3) := by decide +kernel
theorem dX9_on_65 : decode cX9_on 65 = .ok (.ireturn, 1) := by decide +kernel
set_option maxRecDepth 20000 in
theorem ggX9_touching_X9_mixOf : GoodIn wsX9_touching wsX9_mixOf := goodIn_sub (List.forall_mem_cons.mpr ⟨(List.mem_cons_of_mem _ (List.mem_append_left _ (List.mem_of_getElem? (i := 6) rfl))), (x_ap2 (List.forall_mem_cons.mpr ⟨(List.mem_cons_of_mem _ (List.mem_append_left _ (List.mem_of_getElem? (i := 0) rfl))), (List.forall_mem_cons.mpr ⟨(List.mem_cons_of_mem _ (List.mem_append_left _ (List.mem_of_getElem? (i := 7) rfl))), (List.forall_mem_cons.mpr ⟨(List.mem_cons_of_mem _ (List.mem_append_left _ (List.mem_of_getElem? (i := 8) rfl))), (List.forall_mem_cons.mpr ⟨(List.mem_cons_of_mem _ (List.mem_append_left _ (List.mem_of_getElem? (i := 9) rfl))), (List.forall_mem_cons.mpr ⟨(List.mem_cons_of_mem _ (List.mem_append_left _ (List.mem_of_getElem? (i := 10) rfl))), (List.forall_mem_cons.mpr ⟨(List.mem_cons_of_mem _ (List.mem_append_left _ (List.mem_of_getElem? (i := 5) rfl))), (List.forall_mem_cons.mpr ⟨(List.mem_cons_of_mem _ (List.mem_append_left _ (List.mem_of_getElem? (i := 11) rfl))), (List.forall_mem_cons.mpr ⟨(List.mem_cons_of_mem _ (List.mem_append_left _ (List.mem_of_getElem? (i := 12) rfl))), (fun _ h => absurd h List.not_mem_nil)⟩)⟩)⟩)⟩)⟩)⟩)⟩)⟩) (fun _ h => (List.mem_cons_of_mem _ (List.mem_append_right _ h))))⟩) (by decide +kernel)
set_option maxRecDepth 20000 in
theorem gX9_touching_X9_mixOf : GoodIn wsX9_touching (wsV RX9 112 RX9 yX9_mixOf wsX9_mixOf) := goodIn_app (goodIn_of _ (by decide +kernel)) ggX9_touching_X9_mixOf
set_option maxRecDepth 20000 in
theorem ggX9_touching_X9_cofactorOf : GoodIn wsX9_touching wsX9_cofactorOf := goodIn_sub (List.forall_mem_cons.mpr ⟨(List.mem_cons_of_mem _ (List.mem_append_left _ (List.mem_of_getElem? (i := 16) rfl))), (x_ap2 (List.forall_mem_cons.mpr ⟨(List.mem_cons_of_mem _ (List.mem_append_left _ (List.mem_of_getElem? (i := 1) rfl))), (List.forall_mem_cons.mpr ⟨(List.mem_cons_of_mem _ (List.mem_append_left _ (List.mem_of_getElem? (i := 8) rfl))), (List.forall_mem_cons.mpr ⟨(List.mem_cons_of_mem _ (List.mem_append_left _ (List.mem_of_getElem? (i := 9) rfl))), (List.forall_mem_cons.mpr ⟨(List.mem_cons_of_mem _ (List.mem_append_left _ (List.mem_of_getElem? (i := 10) rfl))), (List.forall_mem_cons.mpr ⟨(List.mem_cons_of_mem _ (List.mem_append_left _ (List.mem_of_getElem? (i := 5) rfl))), (List.forall_mem_cons.mpr ⟨(List.mem_cons_of_mem _ (List.mem_append_left _ (List.mem_of_getElem? (i := 11) rfl))), (List.forall_mem_cons.mpr ⟨(List.mem_cons_of_mem _ (List.mem_append_left _ (List.mem_of_getElem? (i := 12) rfl))), (fun _ h => absurd h List.not_mem_nil)⟩)⟩)⟩)⟩)⟩)⟩)⟩) (fun _ h => (List.mem_cons_of_mem _ (List.mem_append_right _ h))))⟩) (by decide +kernel)
set_option maxRecDepth 20000 in
theorem gX9_touching_X9_cofactorOf : GoodIn wsX9_touching (wsV RX9 88 RX9 yX9_cofactorOf wsX9_cofactorOf) := goodIn_app (goodIn_of _ (by decide +kernel)) ggX9_touching_X9_cofactorOf
set_option maxRecDepth 20000 in
theorem ggX9_touching_X9_both : GoodIn wsX9_touching wsX9_both := goodIn_sub (List.forall_mem_cons.mpr ⟨(List.mem_cons_of_mem _ (List.mem_append_left _ (List.mem_of_getElem? (i := 20) rfl))), (x_ap2 (List.forall_mem_cons.mpr ⟨(List.mem_cons_of_mem _ (List.mem_append_left _ (List.mem_of_getElem? (i := 8) rfl))), (List.forall_mem_cons.mpr ⟨(List.mem_cons_of_mem _ (List.mem_append_left _ (List.mem_of_getElem? (i := 9) rfl))), (List.forall_mem_cons.mpr ⟨(List.mem_cons_of_mem _ (List.mem_append_left _ (List.mem_of_getElem? (i := 10) rfl))), (List.forall_mem_cons.mpr ⟨(List.mem_cons_of_mem _ (List.mem_append_left _ (List.mem_of_getElem? (i := 5) rfl))), (List.forall_mem_cons.mpr ⟨(List.mem_cons_of_mem _ (List.mem_append_left _ (List.mem_of_getElem? (i := 11) rfl))), (List.forall_mem_cons.mpr ⟨(List.mem_cons_of_mem _ (List.mem_append_left _ (List.mem_of_getElem? (i := 12) rfl))), (fun _ h => absurd h List.not_mem_nil)⟩)⟩)⟩)⟩)⟩)⟩) (fun _ h => (List.mem_cons_of_mem _ (List.mem_append_right _ h))))⟩) (by decide +kernel)
set_option maxRecDepth 20000 in
theorem gX9_touching_X9_both : GoodIn wsX9_touching (wsV RX9 116 RX9 yX9_both wsX9_both) := goodIn_app (goodIn_of _ (by decide +kernel)) ggX9_touching_X9_both
theorem dX9_touching_0 : decode cX9_touching 0 = .ok (.aload_n 0, 1) := by decide +kernel
theorem dX9_touching_1 : decode cX9_touching 1 = .ok (.iload_n 1, 1) := by decide +kernel
theorem dX9_touching_2 : decode cX9_touching 2 = .ok (.iload_n 2, 1) := by decide +kernel
theorem dX9_touching_3 : decode cX9_touching 3 = .ok (.invokevirtual 112, 3) := by decide +kernel
theorem dX9_touching_6 : decode cX9_touching 6 = .ok (.aload_n 0, 1) := by decide +kernel
theorem dX9_touching_7 : decode cX9_touching 7 = .ok (.aload_n 0, 1) := by decide +kernel
theorem dX9_touching_8 : decode cX9_touching 8 = .ok (.getfield 50, 3) := by decide +kernel
theorem dX9_touching_11 : decode cX9_touching 11 = .ok (.iconst 0, 1) := by decide +kernel
theorem dX9_touching_12 : decode cX9_touching 12 = .ok (.invokevirtual 88, 3) := by decide +kernel
theorem dX9_touching_15 : decode cX9_touching 15 = .ok (.aload_n 0, 1) := by decide +kernel
theorem dX9_touching_16 : decode cX9_touching 16 = .ok (.aload_n 0, 1) := by decide +kernel
theorem dX9_touching_17 : decode cX9_touching 17 = .ok (.getfield 53, 3) := by decide +kernel
theorem dX9_touching_20 : decode cX9_touching 20 = .ok (.iconst 0, 1) := by decide +kernel
theorem dX9_touching_21 : decode cX9_touching 21 = .ok (.iload_n 3, 1) := by decide +kernel
theorem dX9_touching_22 : decode cX9_touching 22 = .ok (.iload 4, 2) := by decide +kernel
theorem dX9_touching_24 : decode cX9_touching 24 = .ok (.iload 5, 2) := by decide +kernel
theorem dX9_touching_26 : decode cX9_touching 26 = .ok (.invokevirtual 116, 3) := by decide +kernel
theorem dX9_touching_29 : decode cX9_touching 29 = .ok (.ireturn, 1) := by decide +kernel
theorem ip_wsX9_touches__wsX9_touches_r1 : ∀ w ∈ wsX9_touches_r1, w ∈ wsX9_touches := fun _ h => (List.mem_cons_of_mem _ (List.mem_append_left _ (List.mem_append_left _ h)))
theorem ip_wsX9_touches__wsX9_touches_r2 : ∀ w ∈ wsX9_touches_r2, w ∈ wsX9_touches := fun _ h => (List.mem_cons_of_mem _ (List.mem_append_left _ (List.mem_append_right _ h)))
set_option maxRecDepth 20000 in
theorem ggX9_touches_X9_isNumber : GoodIn wsX9_touches wsX9_isNumber := goodIn_sub (List.forall_mem_cons.mpr ⟨(ip_wsX9_touches__wsX9_touches_r1 _ (List.mem_of_getElem? (i := 4) rfl)), (x_ap2 (List.forall_mem_cons.mpr ⟨(ip_wsX9_touches__wsX9_touches_r1 _ (List.mem_of_getElem? (i := 5) rfl)), (List.forall_mem_cons.mpr ⟨(ip_wsX9_touches__wsX9_touches_r1 _ (List.mem_of_getElem? (i := 6) rfl)), (List.forall_mem_cons.mpr ⟨(ip_wsX9_touches__wsX9_touches_r1 _ (List.mem_of_getElem? (i := 7) rfl)), (List.forall_mem_cons.mpr ⟨(ip_wsX9_touches__wsX9_touches_r1 _ (List.mem_of_getElem? (i := 3) rfl)), (List.forall_mem_cons.mpr ⟨(ip_wsX9_touches__wsX9_touches_r1 _ (List.mem_of_getElem? (i := 8) rfl)), (fun _ h => absurd h List.not_mem_nil)⟩)⟩)⟩)⟩)⟩) (fun _ h => (List.mem_cons_of_mem _ (List.mem_append_right _ h))))⟩) (by decide +kernel)
set_option maxRecDepth 20000 in
theorem gX9_touches_X9_isNumber : GoodIn wsX9_touches (wsV RX9 70 RX9 yX9_isNumber wsX9_isNumber) := goodIn_app (goodIn_of _ (by decide +kernel)) ggX9_touches_X9_isNumber
set_option maxRecDepth 20000 in
theorem ggX9_touches_X9_touching : GoodIn wsX9_touches wsX9_touching := goodIn_sub (List.forall_mem_cons.mpr ⟨(ip_wsX9_touches__wsX9_touches_r1 _ (List.mem_of_getElem? (i := 12) rfl)), (x_ap2 (List.forall_mem_cons.mpr ⟨(ip_wsX9_touches__wsX9_touches_r1 _ (List.mem_of_getElem? (i := 13) rfl)), (List.forall_mem_cons.mpr ⟨(ip_wsX9_touches__wsX9_touches_r1 _ (List.mem_of_getElem? (i := 14) rfl)), (List.forall_mem_cons.mpr ⟨(ip_wsX9_touches__wsX9_touches_r1 _ (List.mem_of_getElem? (i := 15) rfl)), (List.forall_mem_cons.mpr ⟨(ip_wsX9_touches__wsX9_touches_r1 _ (List.mem_of_getElem? (i := 16) rfl)), (List.forall_mem_cons.mpr ⟨(ip_wsX9_touches__wsX9_touches_r1 _ (List.mem_of_getElem? (i := 17) rfl)), (List.forall_mem_cons.mpr ⟨(ip_wsX9_touches__wsX9_touches_r1 _ (List.mem_of_getElem? (i := 3) rfl)), (List.forall_mem_cons.mpr ⟨(ip_wsX9_touches__wsX9_touches_r1 _ (List.mem_of_getElem? (i := 18) rfl)), (List.forall_mem_cons.mpr ⟨(ip_wsX9_touches__wsX9_touches_r1 _ (List.mem_of_getElem? (i := 19) rfl)), (List.forall_mem_cons.mpr ⟨(ip_wsX9_touches__wsX9_touches_r1 _ (List.mem_of_getElem? (i := 20) rfl)), (List.forall_mem_cons.mpr ⟨(ip_wsX9_touches__wsX9_touches_r1 _ (List.mem_of_getElem? (i := 21) rfl)), (List.forall_mem_cons.mpr ⟨(ip_wsX9_touches__wsX9_touches_r1 _ (List.mem_of_getElem? (i := 22) rfl)), (List.forall_mem_cons.mpr ⟨(ip_wsX9_touches__wsX9_touches_r1 _ (List.mem_of_getElem? (i := 23) rfl)), (List.forall_mem_cons.mpr ⟨(ip_wsX9_touches__wsX9_touches_r1 _ (List.mem_of_getElem? (i := 5) rfl)), (List.forall_mem_cons.mpr ⟨(ip_wsX9_touches__wsX9_touches_r2 _ (List.mem_of_getElem? (i := 0) rfl)), (List.forall_mem_cons.mpr ⟨(ip_wsX9_touches__wsX9_touches_r2 _ (List.mem_of_getElem? (i := 1) rfl)), (List.forall_mem_cons.mpr ⟨(ip_wsX9_touches__wsX9_touches_r2 _ (List.mem_of_getElem? (i := 2) rfl)), (List.forall_mem_cons.mpr ⟨(ip_wsX9_touches__wsX9_touches_r2 _ (List.mem_of_getElem? (i := 3) rfl)), (List.forall_mem_cons.mpr ⟨(ip_wsX9_touches__wsX9_touches_r2 _ (List.mem_of_getElem? (i := 4) rfl)), (List.forall_mem_cons.mpr ⟨(ip_wsX9_touches__wsX9_touches_r2 _ (List.mem_of_getElem? (i := 5) rfl)), (List.forall_mem_cons.mpr ⟨(ip_wsX9_touches__wsX9_touches_r2 _ (List.mem_of_getElem? (i := 6) rfl)), (List.forall_mem_cons.mpr ⟨(ip_wsX9_touches__wsX9_touches_r2 _ (List.mem_of_getElem? (i := 7) rfl)), (fun _ h => absurd h List.not_mem_nil)⟩)⟩)⟩)⟩)⟩)⟩)⟩)⟩)⟩)⟩)⟩)⟩)⟩)⟩)⟩)⟩)⟩)⟩)⟩)⟩)⟩) (fun _ h => (List.mem_cons_of_mem _ (List.mem_append_right _ h))))⟩) (by decide +kernel)
set_option maxRecDepth 20000 in
theorem gX9_touches_X9_touching : GoodIn wsX9_touches (wsV RX9 120 RX9 yX9_touching wsX9_touching) := goodIn_app (goodIn_of _ (by decide +kernel)) ggX9_touches_X9_touching
theorem dX9_touches_0 : decode cX9_touches 0 = .ok (.aload_n 0, 1) := by decide +kernel
theorem dX9_touches_1 : decode cX9_touches 1 = .ok (.iload_n 1, 1) := by decide +kernel
theorem dX9_touches_2 : decode cX9_touches 2 = .ok (.invokevirtual 70, 3) := by decide +kernel
theorem dX9_touches_5 : decode cX9_touches 5 = .ok (.ifCond .eq 37, 3) := by decide +kernel
theorem dX9_touches_8 : decode cX9_touches 8 = .ok (.aload_n 0, 1) := by decide +kernel
theorem dX9_touches_9 : decode cX9_touches 9 = .ok (.iload_n 2, 1) := by decide +kernel
theorem dX9_touches_10 : decode cX9_touches 10 = .ok (.invokevirtual 70, 3) := by decide +kernel
theorem dX9_touches_13 : decode cX9_touches 13 = .ok (.ifCond .eq 29, 3) := by decide +kernel
theorem dX9_touches_16 : decode cX9_touches 16 = .ok (.aload_n 0, 1) := by decide +kernel
theorem dX9_touches_17 : decode cX9_touches 17 = .ok (.iload_n 3, 1) := by decide +kernel
theorem dX9_touches_18 : decode cX9_touches 18 = .ok (.invokevirtual 70, 3) := by decide +kernel
theorem dX9_touches_21 : decode cX9_touches 21 = .ok (.ifCond .eq 21, 3) := by decide +kernel
theorem dX9_touches_24 : decode cX9_touches 24 = .ok (.aload_n 0, 1) := by decide +kernel
theorem dX9_touches_25 : decode cX9_touches 25 = .ok (.iload 4, 2) := by decide +kernel
theorem dX9_touches_27 : decode cX9_touches 27 = .ok (.invokevirtual 70, 3) := by decide +kernel
theorem dX9_touches_30 : decode cX9_touches 30 = .ok (.ifCond .eq 12, 3) := by decide +kernel
theorem dX9_touches_33 : decode cX9_touches 33 = .ok (.aload_n 0, 1) := by decide +kernel
theorem dX9_touches_34 : decode cX9_touches 34 = .ok (.iload 5, 2) := by decide +kernel
theorem dX9_touches_36 : decode cX9_touches 36 = .ok (.invokevirtual 70, 3) := by decide +kernel
theorem dX9_touches_39 : decode cX9_touches 39 = .ok (.ifCond .ne 6, 3) := by decide +kernel
theorem dX9_touches_42 : decode cX9_touches 42 = .ok (.bipush (-2), 2) := by decide +kernel
theorem dX9_touches_44 : decode cX9_touches 44 = .ok (.ireturn, 1) := by decide +kernel
theorem dX9_touches_45 : decode cX9_touches 45 = .ok (.aload_n 0, 1) := by decide +kernel
theorem dX9_touches_46 : decode cX9_touches 46 = .ok (.iload_n 1, 1) := by decide +kernel
theorem dX9_touches_47 : decode cX9_touches 47 = .ok (.iload_n 2, 1) := by decide +kernel
theorem dX9_touches_48 : decode cX9_touches 48 = .ok (.iload_n 3, 1) := by decide +kernel
theorem dX9_touches_49 : decode cX9_touches 49 = .ok (.iload 4, 2) := by decide +kernel
theorem dX9_touches_51 : decode cX9_touches 51 = .ok (.iload 5, 2) := by decide +kernel
theorem dX9_touches_53 : decode cX9_touches 53 = .ok (.invokevirtual 120, 3) := by decide +kernel
theorem dX9_touches_56 : decode cX9_touches 56 = .ok (.ireturn, 1) := by decide +kernel
set_option maxRecDepth 20000 in
theorem ggX9_form_X9_by : GoodIn wsX9_form wsX9_by := goodIn_sub (List.forall_mem_cons.mpr ⟨(List.mem_cons_of_mem _ (List.mem_append_left _ (List.mem_of_getElem? (i := 7) rfl))), (x_ap2 (List.forall_mem_cons.mpr ⟨(List.mem_cons_of_mem _ (List.mem_append_left _ (List.mem_of_getElem? (i := 8) rfl))), (List.forall_mem_cons.mpr ⟨(List.mem_cons_of_mem _ (List.mem_append_left _ (List.mem_of_getElem? (i := 9) rfl))), (List.forall_mem_cons.mpr ⟨(List.mem_cons_of_mem _ (List.mem_append_left _ (List.mem_of_getElem? (i := 10) rfl))), (List.forall_mem_cons.mpr ⟨(List.mem_cons_of_mem _ (List.mem_append_left _ (List.mem_of_getElem? (i := 11) rfl))), (List.forall_mem_cons.mpr ⟨(List.mem_cons_of_mem _ (List.mem_append_left _ (List.mem_of_getElem? (i := 6) rfl))), (List.forall_mem_cons.mpr ⟨(List.mem_cons_of_mem _ (List.mem_append_left _ (List.mem_of_getElem? (i := 12) rfl))), (fun _ h => absurd h List.not_mem_nil)⟩)⟩)⟩)⟩)⟩)⟩) (fun _ h => (List.mem_cons_of_mem _ (List.mem_append_right _ h))))⟩) (by decide +kernel)
set_option maxRecDepth 20000 in
theorem gX9_form_X9_by : GoodIn wsX9_form (wsV RX9 78 RX9 yX9_by wsX9_by) := goodIn_app (goodIn_of _ (by decide +kernel)) ggX9_form_X9_by
theorem dX9_form_0 : decode cX9_form 0 = .ok (.iload_n 3, 1) := by decide +kernel
theorem dX9_form_1 : decode cX9_form 1 = .ok (.ifCond .eq 7, 3) := by decide +kernel
theorem dX9_form_4 : decode cX9_form 4 = .ok (.iload_n 3, 1) := by decide +kernel
theorem dX9_form_5 : decode cX9_form 5 = .ok (.goto 12, 3) := by decide +kernel
theorem dX9_form_8 : decode cX9_form 8 = .ok (.iload_n 2, 1) := by decide +kernel
theorem dX9_form_9 : decode cX9_form 9 = .ok (.ifCond .eq 7, 3) := by decide +kernel
theorem dX9_form_12 : decode cX9_form 12 = .ok (.iload_n 2, 1) := by decide +kernel
theorem dX9_form_13 : decode cX9_form 13 = .ok (.goto 4, 3) := by decide +kernel
theorem dX9_form_16 : decode cX9_form 16 = .ok (.iload_n 1, 1) := by decide +kernel
theorem dX9_form_17 : decode cX9_form 17 = .ok (.istore 4, 2) := by decide +kernel
theorem dX9_form_19 : decode cX9_form 19 = .ok (.aload_n 0, 1) := by decide +kernel
theorem dX9_form_20 : decode cX9_form 20 = .ok (.aload_n 0, 1) := by decide +kernel
theorem dX9_form_21 : decode cX9_form 21 = .ok (.iload_n 1, 1) := by decide +kernel
theorem dX9_form_22 : decode cX9_form 22 = .ok (.iload 4, 2) := by decide +kernel
theorem dX9_form_24 : decode cX9_form 24 = .ok (.invokevirtual 78, 3) := by decide +kernel
theorem dX9_form_27 : decode cX9_form 27 = .ok (.putfield 124, 3) := by decide +kernel
theorem dX9_form_30 : decode cX9_form 30 = .ok (.aload_n 0, 1) := by decide +kernel
theorem dX9_form_31 : decode cX9_form 31 = .ok (.aload_n 0, 1) := by decide +kernel
theorem dX9_form_32 : decode cX9_form 32 = .ok (.iload_n 2, 1) := by decide +kernel
theorem dX9_form_33 : decode cX9_form 33 = .ok (.iload 4, 2) := by decide +kernel
theorem dX9_form_35 : decode cX9_form 35 = .ok (.invokevirtual 78, 3) := by decide +kernel
theorem dX9_form_38 : decode cX9_form 38 = .ok (.putfield 127, 3) := by decide +kernel
theorem dX9_form_41 : decode cX9_form 41 = .ok (.aload_n 0, 1) := by decide +kernel
theorem dX9_form_42 : decode cX9_form 42 = .ok (.aload_n 0, 1) := by decide +kernel
theorem dX9_form_43 : decode cX9_form 43 = .ok (.iload_n 3, 1) := by decide +kernel
theorem dX9_form_44 : decode cX9_form 44 = .ok (.iload 4, 2) := by decide +kernel
theorem dX9_form_46 : decode cX9_form 46 = .ok (.invokevirtual 78, 3) := by decide +kernel
theorem dX9_form_49 : decode cX9_form 49 = .ok (.putfield 130, 3) := by decide +kernel
theorem dX9_form_52 : decode cX9_form 52 = .ok (.return_, 1) := by decide +kernel
theorem dX9_rank_0 : decode cX9_rank 0 = .ok (.iload_n 3, 1) := by decide +kernel
theorem dX9_rank_1 : decode cX9_rank 1 = .ok (.iconst 1, 1) := by decide +kernel
theorem dX9_rank_2 : decode cX9_rank 2 = .ok (.if_icmp .ne 14, 3) := by decide +kernel
theorem dX9_rank_5 : decode cX9_rank 5 = .ok (.iload_n 2, 1) := by decide +kernel
theorem dX9_rank_6 : decode cX9_rank 6 = .ok (.aload_n 0, 1) := by decide +kernel
theorem dX9_rank_7 : decode cX9_rank 7 = .ok (.getfield 7, 3) := by decide +kernel
theorem dX9_rank_10 : decode cX9_rank 10 = .ok (.imul, 1) := by decide +kernel
theorem dX9_rank_11 : decode cX9_rank 11 = .ok (.iload_n 1, 1) := by decide +kernel
theorem dX9_rank_12 : decode cX9_rank 12 = .ok (.iadd, 1) := by decide +kernel
theorem dX9_rank_13 : decode cX9_rank 13 = .ok (.goto 36, 3) := by decide +kernel
theorem dX9_rank_16 : decode cX9_rank 16 = .ok (.iload_n 2, 1) := by decide +kernel
theorem dX9_rank_17 : decode cX9_rank 17 = .ok (.iconst 1, 1) := by decide +kernel
theorem dX9_rank_18 : decode cX9_rank 18 = .ok (.if_icmp .ne 17, 3) := by decide +kernel
theorem dX9_rank_21 : decode cX9_rank 21 = .ok (.aload_n 0, 1) := by decide +kernel
theorem dX9_rank_22 : decode cX9_rank 22 = .ok (.getfield 7, 3) := by decide +kernel
theorem dX9_rank_25 : decode cX9_rank 25 = .ok (.aload_n 0, 1) := by decide +kernel
theorem dX9_rank_26 : decode cX9_rank 26 = .ok (.getfield 7, 3) := by decide +kernel
theorem dX9_rank_29 : decode cX9_rank 29 = .ok (.imul, 1) := by decide +kernel
theorem dX9_rank_30 : decode cX9_rank 30 = .ok (.iload_n 1, 1) := by decide +kernel
theorem dX9_rank_31 : decode cX9_rank 31 = .ok (.iadd, 1) := by decide +kernel
theorem dX9_rank_32 : decode cX9_rank 32 = .ok (.goto 17, 3) := by decide +kernel
theorem dX9_rank_35 : decode cX9_rank 35 = .ok (.aload_n 0, 1) := by decide +kernel
theorem dX9_rank_36 : decode cX9_rank 36 = .ok (.getfield 7, 3) := by decide +kernel
theorem dX9_rank_39 : decode cX9_rank 39 = .ok (.aload_n 0, 1) := by decide +kernel
theorem dX9_rank_40 : decode cX9_rank 40 = .ok (.getfield 7, 3) := by decide +kernel
theorem dX9_rank_43 : decode cX9_rank 43 = .ok (.imul, 1) := by decide +kernel
theorem dX9_rank_44 : decode cX9_rank 44 = .ok (.aload_n 0, 1) := by decide +kernel
theorem dX9_rank_45 : decode cX9_rank 45 = .ok (.getfield 7, 3) := by decide +kernel
theorem dX9_rank_48 : decode cX9_rank 48 = .ok (.iadd, 1) := by decide +kernel
theorem dX9_rank_49 : decode cX9_rank 49 = .ok (.ireturn, 1) := by decide +kernel
set_option maxRecDepth 20000 in
theorem ggX9_cross_X9_of : GoodIn wsX9_cross wsX9_of := goodIn_sub (List.forall_mem_cons.mpr ⟨(List.mem_cons_of_mem _ (List.mem_append_left _ (List.mem_of_getElem? (i := 4) rfl))), (x_ap2 (List.forall_mem_cons.mpr ⟨(List.mem_cons_of_mem _ (List.mem_append_left _ (List.mem_of_getElem? (i := 5) rfl))), (fun _ h => absurd h List.not_mem_nil)⟩) (fun _ h => (List.mem_cons_of_mem _ (List.mem_append_right _ h))))⟩) (by decide +kernel)
set_option maxRecDepth 20000 in
theorem gX9_cross_X9_of : GoodIn wsX9_cross (wsV RX9 85 RX9 yX9_of wsX9_of) := goodIn_app (goodIn_of _ (by decide +kernel)) ggX9_cross_X9_of
set_option maxRecDepth 20000 in
theorem ggX9_cross_X9_form : GoodIn wsX9_cross wsX9_form := goodIn_sub (List.forall_mem_cons.mpr ⟨(List.mem_cons_of_mem _ (List.mem_append_left _ (List.mem_of_getElem? (i := 9) rfl))), (x_ap2 (List.forall_mem_cons.mpr ⟨(List.mem_cons_of_mem _ (List.mem_append_left _ (List.mem_of_getElem? (i := 10) rfl))), (List.forall_mem_cons.mpr ⟨(List.mem_cons_of_mem _ (List.mem_append_left _ (List.mem_of_getElem? (i := 11) rfl))), (List.forall_mem_cons.mpr ⟨(List.mem_cons_of_mem _ (List.mem_append_left _ (List.mem_of_getElem? (i := 12) rfl))), (List.forall_mem_cons.mpr ⟨(List.mem_cons_of_mem _ (List.mem_append_left _ (List.mem_of_getElem? (i := 13) rfl))), (List.forall_mem_cons.mpr ⟨(List.mem_cons_of_mem _ (List.mem_append_left _ (List.mem_of_getElem? (i := 14) rfl))), (List.forall_mem_cons.mpr ⟨(List.mem_cons_of_mem _ (List.mem_append_left _ (List.mem_of_getElem? (i := 15) rfl))), (List.forall_mem_cons.mpr ⟨(List.mem_cons_of_mem _ (List.mem_append_left _ (List.mem_of_getElem? (i := 3) rfl))), (List.forall_mem_cons.mpr ⟨(List.mem_cons_of_mem _ (List.mem_append_left _ (List.mem_of_getElem? (i := 16) rfl))), (List.forall_mem_cons.mpr ⟨(List.mem_cons_of_mem _ (List.mem_append_left _ (List.mem_of_getElem? (i := 5) rfl))), (List.forall_mem_cons.mpr ⟨(List.mem_cons_of_mem _ (List.mem_append_left _ (List.mem_of_getElem? (i := 17) rfl))), (List.forall_mem_cons.mpr ⟨(List.mem_cons_of_mem _ (List.mem_append_left _ (List.mem_of_getElem? (i := 18) rfl))), (List.forall_mem_cons.mpr ⟨(List.mem_cons_of_mem _ (List.mem_append_left _ (List.mem_of_getElem? (i := 19) rfl))), (List.forall_mem_cons.mpr ⟨(List.mem_cons_of_mem _ (List.mem_append_left _ (List.mem_of_getElem? (i := 20) rfl))), (fun _ h => absurd h List.not_mem_nil)⟩)⟩)⟩)⟩)⟩)⟩)⟩)⟩)⟩)⟩)⟩)⟩)⟩) (fun _ h => (List.mem_cons_of_mem _ (List.mem_append_right _ h))))⟩) (by decide +kernel)
set_option maxRecDepth 20000 in
theorem gX9_cross_X9_form : GoodIn wsX9_cross (wsV RX9 133 RX9 yX9_form wsX9_form) := goodIn_app (goodIn_of _ (by decide +kernel)) ggX9_cross_X9_form
theorem dX9_cross_0 : decode cX9_cross 0 = .ok (.aload_n 0, 1) := by decide +kernel
theorem dX9_cross_1 : decode cX9_cross 1 = .ok (.aload_n 0, 1) := by decide +kernel
theorem dX9_cross_2 : decode cX9_cross 2 = .ok (.iload_n 2, 1) := by decide +kernel
theorem dX9_cross_3 : decode cX9_cross 3 = .ok (.iload 6, 2) := by decide +kernel
theorem dX9_cross_5 : decode cX9_cross 5 = .ok (.imul, 1) := by decide +kernel
theorem dX9_cross_6 : decode cX9_cross 6 = .ok (.iload_n 3, 1) := by decide +kernel
theorem dX9_cross_7 : decode cX9_cross 7 = .ok (.iload 5, 2) := by decide +kernel
theorem dX9_cross_9 : decode cX9_cross 9 = .ok (.imul, 1) := by decide +kernel
theorem dX9_cross_10 : decode cX9_cross 10 = .ok (.isub, 1) := by decide +kernel
theorem dX9_cross_11 : decode cX9_cross 11 = .ok (.invokevirtual 85, 3) := by decide +kernel
theorem dX9_cross_14 : decode cX9_cross 14 = .ok (.aload_n 0, 1) := by decide +kernel
theorem dX9_cross_15 : decode cX9_cross 15 = .ok (.iload_n 3, 1) := by decide +kernel
theorem dX9_cross_16 : decode cX9_cross 16 = .ok (.iload 4, 2) := by decide +kernel
theorem dX9_cross_18 : decode cX9_cross 18 = .ok (.imul, 1) := by decide +kernel
theorem dX9_cross_19 : decode cX9_cross 19 = .ok (.iload_n 1, 1) := by decide +kernel
theorem dX9_cross_20 : decode cX9_cross 20 = .ok (.iload 6, 2) := by decide +kernel
theorem dX9_cross_22 : decode cX9_cross 22 = .ok (.imul, 1) := by decide +kernel
theorem dX9_cross_23 : decode cX9_cross 23 = .ok (.isub, 1) := by decide +kernel
theorem dX9_cross_24 : decode cX9_cross 24 = .ok (.invokevirtual 85, 3) := by decide +kernel
theorem dX9_cross_27 : decode cX9_cross 27 = .ok (.aload_n 0, 1) := by decide +kernel
theorem dX9_cross_28 : decode cX9_cross 28 = .ok (.iload_n 1, 1) := by decide +kernel
theorem dX9_cross_29 : decode cX9_cross 29 = .ok (.iload 5, 2) := by decide +kernel
theorem dX9_cross_31 : decode cX9_cross 31 = .ok (.imul, 1) := by decide +kernel
theorem dX9_cross_32 : decode cX9_cross 32 = .ok (.iload_n 2, 1) := by decide +kernel
theorem dX9_cross_33 : decode cX9_cross 33 = .ok (.iload 4, 2) := by decide +kernel
theorem dX9_cross_35 : decode cX9_cross 35 = .ok (.imul, 1) := by decide +kernel
theorem dX9_cross_36 : decode cX9_cross 36 = .ok (.isub, 1) := by decide +kernel
theorem dX9_cross_37 : decode cX9_cross 37 = .ok (.invokevirtual 85, 3) := by decide +kernel
theorem dX9_cross_40 : decode cX9_cross 40 = .ok (.invokevirtual 133, 3) := by decide +kernel
theorem dX9_cross_43 : decode cX9_cross 43 = .ok (.return_, 1) := by decide +kernel
set_option maxRecDepth 20000 in
theorem ggX9_layPoints_X9_both : GoodIn wsX9_layPoints wsX9_both := goodIn_sub (List.forall_mem_cons.mpr ⟨(List.mem_cons_of_mem _ (List.mem_append_left _ (List.mem_of_getElem? (i := 10) rfl))), (x_ap2 (List.forall_mem_cons.mpr ⟨(List.mem_cons_of_mem _ (List.mem_append_left _ (List.mem_of_getElem? (i := 11) rfl))), (List.forall_mem_cons.mpr ⟨(List.mem_cons_of_mem _ (List.mem_append_left _ (List.mem_of_getElem? (i := 12) rfl))), (List.forall_mem_cons.mpr ⟨(List.mem_cons_of_mem _ (List.mem_append_left _ (List.mem_of_getElem? (i := 13) rfl))), (List.forall_mem_cons.mpr ⟨(List.mem_cons_of_mem _ (List.mem_append_left _ (List.mem_of_getElem? (i := 9) rfl))), (List.forall_mem_cons.mpr ⟨(List.mem_cons_of_mem _ (List.mem_append_left _ (List.mem_of_getElem? (i := 14) rfl))), (List.forall_mem_cons.mpr ⟨(List.mem_cons_of_mem _ (List.mem_append_left _ (List.mem_of_getElem? (i := 1) rfl))), (fun _ h => absurd h List.not_mem_nil)⟩)⟩)⟩)⟩)⟩)⟩) (fun _ h => (List.mem_cons_of_mem _ (List.mem_append_right _ h))))⟩) (by decide +kernel)
set_option maxRecDepth 20000 in
theorem gX9_layPoints_X9_both : GoodIn wsX9_layPoints (wsV RX9 116 RX9 yX9_both wsX9_both) := goodIn_app (goodIn_of _ (by decide +kernel)) ggX9_layPoints_X9_both
theorem dX9_layPoints_0 : decode cX9_layPoints 0 = .ok (.aload_n 0, 1) := by decide +kernel
theorem dX9_layPoints_1 : decode cX9_layPoints 1 = .ok (.iconst 0, 1) := by decide +kernel
theorem dX9_layPoints_2 : decode cX9_layPoints 2 = .ok (.putfield 137, 3) := by decide +kernel
theorem dX9_layPoints_5 : decode cX9_layPoints 5 = .ok (.iconst 0, 1) := by decide +kernel
theorem dX9_layPoints_6 : decode cX9_layPoints 6 = .ok (.istore_n 1, 1) := by decide +kernel
theorem dX9_layPoints_7 : decode cX9_layPoints 7 = .ok (.iload_n 1, 1) := by decide +kernel
theorem dX9_layPoints_8 : decode cX9_layPoints 8 = .ok (.aload_n 0, 1) := by decide +kernel
theorem dX9_layPoints_9 : decode cX9_layPoints 9 = .ok (.getfield 7, 3) := by decide +kernel
theorem dX9_layPoints_12 : decode cX9_layPoints 12 = .ok (.aload_n 0, 1) := by decide +kernel
theorem dX9_layPoints_13 : decode cX9_layPoints 13 = .ok (.getfield 7, 3) := by decide +kernel
theorem dX9_layPoints_16 : decode cX9_layPoints 16 = .ok (.imul, 1) := by decide +kernel
theorem dX9_layPoints_17 : decode cX9_layPoints 17 = .ok (.aload_n 0, 1) := by decide +kernel
theorem dX9_layPoints_18 : decode cX9_layPoints 18 = .ok (.getfield 7, 3) := by decide +kernel
theorem dX9_layPoints_21 : decode cX9_layPoints 21 = .ok (.iadd, 1) := by decide +kernel
theorem dX9_layPoints_22 : decode cX9_layPoints 22 = .ok (.iconst 1, 1) := by decide +kernel
theorem dX9_layPoints_23 : decode cX9_layPoints 23 = .ok (.iadd, 1) := by decide +kernel
theorem dX9_layPoints_24 : decode cX9_layPoints 24 = .ok (.if_icmp .ge 188, 3) := by decide +kernel
theorem dX9_layPoints_27 : decode cX9_layPoints 27 = .ok (.iload_n 1, 1) := by decide +kernel
theorem dX9_layPoints_28 : decode cX9_layPoints 28 = .ok (.aload_n 0, 1) := by decide +kernel
theorem dX9_layPoints_29 : decode cX9_layPoints 29 = .ok (.getfield 7, 3) := by decide +kernel
theorem dX9_layPoints_32 : decode cX9_layPoints 32 = .ok (.aload_n 0, 1) := by decide +kernel
theorem dX9_layPoints_33 : decode cX9_layPoints 33 = .ok (.getfield 7, 3) := by decide +kernel
theorem dX9_layPoints_36 : decode cX9_layPoints 36 = .ok (.imul, 1) := by decide +kernel
theorem dX9_layPoints_37 : decode cX9_layPoints 37 = .ok (.if_icmp .ge 12, 3) := by decide +kernel
theorem dX9_layPoints_40 : decode cX9_layPoints 40 = .ok (.iload_n 1, 1) := by decide +kernel
theorem dX9_layPoints_41 : decode cX9_layPoints 41 = .ok (.aload_n 0, 1) := by decide +kernel
theorem dX9_layPoints_42 : decode cX9_layPoints 42 = .ok (.getfield 7, 3) := by decide +kernel
theorem dX9_layPoints_45 : decode cX9_layPoints 45 = .ok (.irem, 1) := by decide +kernel
theorem dX9_layPoints_46 : decode cX9_layPoints 46 = .ok (.goto 36, 3) := by decide +kernel
theorem dX9_layPoints_49 : decode cX9_layPoints 49 = .ok (.iload_n 1, 1) := by decide +kernel
theorem dX9_layPoints_50 : decode cX9_layPoints 50 = .ok (.aload_n 0, 1) := by decide +kernel
theorem dX9_layPoints_51 : decode cX9_layPoints 51 = .ok (.getfield 7, 3) := by decide +kernel
theorem dX9_layPoints_54 : decode cX9_layPoints 54 = .ok (.aload_n 0, 1) := by decide +kernel
theorem dX9_layPoints_55 : decode cX9_layPoints 55 = .ok (.getfield 7, 3) := by decide +kernel
theorem dX9_layPoints_58 : decode cX9_layPoints 58 = .ok (.imul, 1) := by decide +kernel
theorem dX9_layPoints_59 : decode cX9_layPoints 59 = .ok (.aload_n 0, 1) := by decide +kernel
theorem dX9_layPoints_60 : decode cX9_layPoints 60 = .ok (.getfield 7, 3) := by decide +kernel
theorem dX9_layPoints_63 : decode cX9_layPoints 63 = .ok (.iadd, 1) := by decide +kernel
theorem dX9_layPoints_64 : decode cX9_layPoints 64 = .ok (.if_icmp .ge 17, 3) := by decide +kernel
theorem dX9_layPoints_67 : decode cX9_layPoints 67 = .ok (.iload_n 1, 1) := by decide +kernel
theorem dX9_layPoints_68 : decode cX9_layPoints 68 = .ok (.aload_n 0, 1) := by decide +kernel
theorem dX9_layPoints_69 : decode cX9_layPoints 69 = .ok (.getfield 7, 3) := by decide +kernel
theorem dX9_layPoints_72 : decode cX9_layPoints 72 = .ok (.aload_n 0, 1) := by decide +kernel
theorem dX9_layPoints_73 : decode cX9_layPoints 73 = .ok (.getfield 7, 3) := by decide +kernel
theorem dX9_layPoints_76 : decode cX9_layPoints 76 = .ok (.imul, 1) := by decide +kernel
theorem dX9_layPoints_77 : decode cX9_layPoints 77 = .ok (.isub, 1) := by decide +kernel
theorem dX9_layPoints_78 : decode cX9_layPoints 78 = .ok (.goto 4, 3) := by decide +kernel
theorem dX9_layPoints_81 : decode cX9_layPoints 81 = .ok (.iconst 1, 1) := by decide +kernel
theorem dX9_layPoints_82 : decode cX9_layPoints 82 = .ok (.istore_n 2, 1) := by decide +kernel
theorem dX9_layPoints_83 : decode cX9_layPoints 83 = .ok (.iload_n 1, 1) := by decide +kernel
theorem dX9_layPoints_84 : decode cX9_layPoints 84 = .ok (.aload_n 0, 1) := by decide +kernel
theorem dX9_layPoints_85 : decode cX9_layPoints 85 = .ok (.getfield 7, 3) := by decide +kernel
theorem dX9_layPoints_88 : decode cX9_layPoints 88 = .ok (.aload_n 0, 1) := by decide +kernel
theorem dX9_layPoints_89 : decode cX9_layPoints 89 = .ok (.getfield 7, 3) := by decide +kernel
theorem dX9_layPoints_92 : decode cX9_layPoints 92 = .ok (.imul, 1) := by decide +kernel
theorem dX9_layPoints_93 : decode cX9_layPoints 93 = .ok (.if_icmp .ge 12, 3) := by decide +kernel
theorem dX9_layPoints_96 : decode cX9_layPoints 96 = .ok (.iload_n 1, 1) := by decide +kernel
theorem dX9_layPoints_97 : decode cX9_layPoints 97 = .ok (.aload_n 0, 1) := by decide +kernel
theorem dX9_layPoints_98 : decode cX9_layPoints 98 = .ok (.getfield 7, 3) := by decide +kernel
theorem dX9_layPoints_101 : decode cX9_layPoints 101 = .ok (.idiv, 1) := by decide +kernel
theorem dX9_layPoints_102 : decode cX9_layPoints 102 = .ok (.goto 26, 3) := by decide +kernel
theorem dX9_layPoints_105 : decode cX9_layPoints 105 = .ok (.iload_n 1, 1) := by decide +kernel
theorem dX9_layPoints_106 : decode cX9_layPoints 106 = .ok (.aload_n 0, 1) := by decide +kernel
theorem dX9_layPoints_107 : decode cX9_layPoints 107 = .ok (.getfield 7, 3) := by decide +kernel
theorem dX9_layPoints_110 : decode cX9_layPoints 110 = .ok (.aload_n 0, 1) := by decide +kernel
theorem dX9_layPoints_111 : decode cX9_layPoints 111 = .ok (.getfield 7, 3) := by decide +kernel
theorem dX9_layPoints_114 : decode cX9_layPoints 114 = .ok (.imul, 1) := by decide +kernel
theorem dX9_layPoints_115 : decode cX9_layPoints 115 = .ok (.aload_n 0, 1) := by decide +kernel
theorem dX9_layPoints_116 : decode cX9_layPoints 116 = .ok (.getfield 7, 3) := by decide +kernel
theorem dX9_layPoints_119 : decode cX9_layPoints 119 = .ok (.iadd, 1) := by decide +kernel
theorem dX9_layPoints_120 : decode cX9_layPoints 120 = .ok (.if_icmp .ge 7, 3) := by decide +kernel
theorem dX9_layPoints_123 : decode cX9_layPoints 123 = .ok (.iconst 1, 1) := by decide +kernel
theorem dX9_layPoints_124 : decode cX9_layPoints 124 = .ok (.goto 4, 3) := by decide +kernel
theorem dX9_layPoints_127 : decode cX9_layPoints 127 = .ok (.iconst 0, 1) := by decide +kernel
theorem dX9_layPoints_128 : decode cX9_layPoints 128 = .ok (.istore_n 3, 1) := by decide +kernel
theorem dX9_layPoints_129 : decode cX9_layPoints 129 = .ok (.iload_n 1, 1) := by decide +kernel
theorem dX9_layPoints_130 : decode cX9_layPoints 130 = .ok (.aload_n 0, 1) := by decide +kernel
theorem dX9_layPoints_131 : decode cX9_layPoints 131 = .ok (.getfield 7, 3) := by decide +kernel
theorem dX9_layPoints_134 : decode cX9_layPoints 134 = .ok (.aload_n 0, 1) := by decide +kernel
theorem dX9_layPoints_135 : decode cX9_layPoints 135 = .ok (.getfield 7, 3) := by decide +kernel
theorem dX9_layPoints_138 : decode cX9_layPoints 138 = .ok (.imul, 1) := by decide +kernel
theorem dX9_layPoints_139 : decode cX9_layPoints 139 = .ok (.if_icmp .ge 7, 3) := by decide +kernel
theorem dX9_layPoints_142 : decode cX9_layPoints 142 = .ok (.iconst 1, 1) := by decide +kernel
theorem dX9_layPoints_143 : decode cX9_layPoints 143 = .ok (.goto 4, 3) := by decide +kernel
theorem dX9_layPoints_146 : decode cX9_layPoints 146 = .ok (.iconst 0, 1) := by decide +kernel
theorem dX9_layPoints_147 : decode cX9_layPoints 147 = .ok (.istore 4, 2) := by decide +kernel
theorem dX9_layPoints_149 : decode cX9_layPoints 149 = .ok (.aload_n 0, 1) := by decide +kernel
theorem dX9_layPoints_150 : decode cX9_layPoints 150 = .ok (.aload_n 0, 1) := by decide +kernel
theorem dX9_layPoints_151 : decode cX9_layPoints 151 = .ok (.getfield 13, 3) := by decide +kernel
theorem dX9_layPoints_154 : decode cX9_layPoints 154 = .ok (.iconst 0, 1) := by decide +kernel
theorem dX9_layPoints_155 : decode cX9_layPoints 155 = .ok (.iload_n 2, 1) := by decide +kernel
theorem dX9_layPoints_156 : decode cX9_layPoints 156 = .ok (.iload_n 3, 1) := by decide +kernel
theorem dX9_layPoints_157 : decode cX9_layPoints 157 = .ok (.iload 4, 2) := by decide +kernel
theorem dX9_layPoints_159 : decode cX9_layPoints 159 = .ok (.invokevirtual 116, 3) := by decide +kernel
theorem dX9_layPoints_162 : decode cX9_layPoints 162 = .ok (.ifCond .ne 44, 3) := by decide +kernel
theorem dX9_layPoints_165 : decode cX9_layPoints 165 = .ok (.aload_n 0, 1) := by decide +kernel
theorem dX9_layPoints_166 : decode cX9_layPoints 166 = .ok (.getfield 20, 3) := by decide +kernel
theorem dX9_layPoints_169 : decode cX9_layPoints 169 = .ok (.aload_n 0, 1) := by decide +kernel
theorem dX9_layPoints_170 : decode cX9_layPoints 170 = .ok (.getfield 137, 3) := by decide +kernel
theorem dX9_layPoints_173 : decode cX9_layPoints 173 = .ok (.iload_n 2, 1) := by decide +kernel
theorem dX9_layPoints_174 : decode cX9_layPoints 174 = .ok (.iastore, 1) := by decide +kernel
theorem dX9_layPoints_175 : decode cX9_layPoints 175 = .ok (.aload_n 0, 1) := by decide +kernel
theorem dX9_layPoints_176 : decode cX9_layPoints 176 = .ok (.getfield 23, 3) := by decide +kernel
theorem dX9_layPoints_179 : decode cX9_layPoints 179 = .ok (.aload_n 0, 1) := by decide +kernel
theorem dX9_layPoints_180 : decode cX9_layPoints 180 = .ok (.getfield 137, 3) := by decide +kernel
theorem dX9_layPoints_183 : decode cX9_layPoints 183 = .ok (.iload_n 3, 1) := by decide +kernel
theorem dX9_layPoints_184 : decode cX9_layPoints 184 = .ok (.iastore, 1) := by decide +kernel
theorem dX9_layPoints_185 : decode cX9_layPoints 185 = .ok (.aload_n 0, 1) := by decide +kernel
theorem dX9_layPoints_186 : decode cX9_layPoints 186 = .ok (.getfield 26, 3) := by decide +kernel
theorem dX9_layPoints_189 : decode cX9_layPoints 189 = .ok (.aload_n 0, 1) := by decide +kernel
theorem dX9_layPoints_190 : decode cX9_layPoints 190 = .ok (.getfield 137, 3) := by decide +kernel
theorem dX9_layPoints_193 : decode cX9_layPoints 193 = .ok (.iload 4, 2) := by decide +kernel
theorem dX9_layPoints_195 : decode cX9_layPoints 195 = .ok (.iastore, 1) := by decide +kernel
theorem dX9_layPoints_196 : decode cX9_layPoints 196 = .ok (.aload_n 0, 1) := by decide +kernel
theorem dX9_layPoints_197 : decode cX9_layPoints 197 = .ok (.dup, 1) := by decide +kernel
theorem dX9_layPoints_198 : decode cX9_layPoints 198 = .ok (.getfield 137, 3) := by decide +kernel
theorem dX9_layPoints_201 : decode cX9_layPoints 201 = .ok (.iconst 1, 1) := by decide +kernel
theorem dX9_layPoints_202 : decode cX9_layPoints 202 = .ok (.iadd, 1) := by decide +kernel
theorem dX9_layPoints_203 : decode cX9_layPoints 203 = .ok (.putfield 137, 3) := by decide +kernel
theorem dX9_layPoints_206 : decode cX9_layPoints 206 = .ok (.iinc 1 1, 3) := by decide +kernel
theorem dX9_layPoints_209 : decode cX9_layPoints 209 = .ok (.goto (-202), 3) := by decide +kernel
theorem dX9_layPoints_212 : decode cX9_layPoints 212 = .ok (.return_, 1) := by decide +kernel
theorem ip_wsX9_layFlags__wsX9_layFlags_r1 : ∀ w ∈ wsX9_layFlags_r1, w ∈ wsX9_layFlags := fun _ h => (List.mem_cons_of_mem _ (List.mem_append_left _ (List.mem_append_left _ h)))
theorem ip_wsX9_layFlags__wsX9_layFlags_r2 : ∀ w ∈ wsX9_layFlags_r2, w ∈ wsX9_layFlags := fun _ h => (List.mem_cons_of_mem _ (List.mem_append_left _ (List.mem_append_right _ (List.mem_append_left _ h))))
theorem ip_wsX9_layFlags__wsX9_layFlags_r3 : ∀ w ∈ wsX9_layFlags_r3, w ∈ wsX9_layFlags := fun _ h => (List.mem_cons_of_mem _ (List.mem_append_left _ (List.mem_append_right _ (List.mem_append_right _ h))))
set_option maxRecDepth 20000 in
theorem ggX9_layFlags_X9_cofactorOf : GoodIn wsX9_layFlags wsX9_cofactorOf := goodIn_sub (List.forall_mem_cons.mpr ⟨(ip_wsX9_layFlags__wsX9_layFlags_r1 _ (List.mem_of_getElem? (i := 16) rfl)), (x_ap2 (List.forall_mem_cons.mpr ⟨(ip_wsX9_layFlags__wsX9_layFlags_r1 _ (List.mem_of_getElem? (i := 7) rfl)), (List.forall_mem_cons.mpr ⟨(ip_wsX9_layFlags__wsX9_layFlags_r1 _ (List.mem_of_getElem? (i := 17) rfl)), (List.forall_mem_cons.mpr ⟨(ip_wsX9_layFlags__wsX9_layFlags_r1 _ (List.mem_of_getElem? (i := 18) rfl)), (List.forall_mem_cons.mpr ⟨(ip_wsX9_layFlags__wsX9_layFlags_r1 _ (List.mem_of_getElem? (i := 19) rfl)), (List.forall_mem_cons.mpr ⟨(ip_wsX9_layFlags__wsX9_layFlags_r1 _ (List.mem_of_getElem? (i := 15) rfl)), (List.forall_mem_cons.mpr ⟨(ip_wsX9_layFlags__wsX9_layFlags_r1 _ (List.mem_of_getElem? (i := 20) rfl)), (List.forall_mem_cons.mpr ⟨(ip_wsX9_layFlags__wsX9_layFlags_r1 _ (List.mem_of_getElem? (i := 6) rfl)), (fun _ h => absurd h List.not_mem_nil)⟩)⟩)⟩)⟩)⟩)⟩)⟩) (fun _ h => (List.mem_cons_of_mem _ (List.mem_append_right _ h))))⟩) (by decide +kernel)
set_option maxRecDepth 20000 in
theorem gX9_layFlags_X9_cofactorOf : GoodIn wsX9_layFlags (wsV RX9 88 RX9 yX9_cofactorOf wsX9_cofactorOf) := goodIn_app (goodIn_of _ (by decide +kernel)) ggX9_layFlags_X9_cofactorOf
set_option maxRecDepth 20000 in
theorem ggX9_layFlags_X9_of : GoodIn wsX9_layFlags wsX9_of := goodIn_sub (List.forall_mem_cons.mpr ⟨(ip_wsX9_layFlags__wsX9_layFlags_r1 _ (List.mem_of_getElem? (i := 20) rfl)), (x_ap2 (List.forall_mem_cons.mpr ⟨(ip_wsX9_layFlags__wsX9_layFlags_r1 _ (List.mem_of_getElem? (i := 6) rfl)), (fun _ h => absurd h List.not_mem_nil)⟩) (fun _ h => (List.mem_cons_of_mem _ (List.mem_append_right _ h))))⟩) (by decide +kernel)
set_option maxRecDepth 20000 in
theorem gX9_layFlags_X9_of : GoodIn wsX9_layFlags (wsV RX9 85 RX9 yX9_of wsX9_of) := goodIn_app (goodIn_of _ (by decide +kernel)) ggX9_layFlags_X9_of
set_option maxRecDepth 20000 in
theorem ggX9_layFlags_X9_form : GoodIn wsX9_layFlags wsX9_form := goodIn_sub (List.forall_mem_cons.mpr ⟨(ip_wsX9_layFlags__wsX9_layFlags_r2 _ (List.mem_of_getElem? (i := 0) rfl)), (x_ap2 (List.forall_mem_cons.mpr ⟨(ip_wsX9_layFlags__wsX9_layFlags_r1 _ (List.mem_of_getElem? (i := 8) rfl)), (List.forall_mem_cons.mpr ⟨(ip_wsX9_layFlags__wsX9_layFlags_r1 _ (List.mem_of_getElem? (i := 9) rfl)), (List.forall_mem_cons.mpr ⟨(ip_wsX9_layFlags__wsX9_layFlags_r1 _ (List.mem_of_getElem? (i := 10) rfl)), (List.forall_mem_cons.mpr ⟨(ip_wsX9_layFlags__wsX9_layFlags_r2 _ (List.mem_of_getElem? (i := 1) rfl)), (List.forall_mem_cons.mpr ⟨(ip_wsX9_layFlags__wsX9_layFlags_r2 _ (List.mem_of_getElem? (i := 2) rfl)), (List.forall_mem_cons.mpr ⟨(ip_wsX9_layFlags__wsX9_layFlags_r2 _ (List.mem_of_getElem? (i := 3) rfl)), (List.forall_mem_cons.mpr ⟨(ip_wsX9_layFlags__wsX9_layFlags_r1 _ (List.mem_of_getElem? (i := 15) rfl)), (List.forall_mem_cons.mpr ⟨(ip_wsX9_layFlags__wsX9_layFlags_r2 _ (List.mem_of_getElem? (i := 4) rfl)), (List.forall_mem_cons.mpr ⟨(ip_wsX9_layFlags__wsX9_layFlags_r1 _ (List.mem_of_getElem? (i := 6) rfl)), (List.forall_mem_cons.mpr ⟨(ip_wsX9_layFlags__wsX9_layFlags_r2 _ (List.mem_of_getElem? (i := 5) rfl)), (List.forall_mem_cons.mpr ⟨(ip_wsX9_layFlags__wsX9_layFlags_r2 _ (List.mem_of_getElem? (i := 6) rfl)), (List.forall_mem_cons.mpr ⟨(ip_wsX9_layFlags__wsX9_layFlags_r2 _ (List.mem_of_getElem? (i := 7) rfl)), (List.forall_mem_cons.mpr ⟨(ip_wsX9_layFlags__wsX9_layFlags_r2 _ (List.mem_of_getElem? (i := 8) rfl)), (fun _ h => absurd h List.not_mem_nil)⟩)⟩)⟩)⟩)⟩)⟩)⟩)⟩)⟩)⟩)⟩)⟩)⟩) (fun _ h => (List.mem_cons_of_mem _ (List.mem_append_right _ h))))⟩) (by decide +kernel)
set_option maxRecDepth 20000 in
theorem gX9_layFlags_X9_form : GoodIn wsX9_layFlags (wsV RX9 133 RX9 yX9_form wsX9_form) := goodIn_app (goodIn_of _ (by decide +kernel)) ggX9_layFlags_X9_form
set_option maxRecDepth 20000 in
theorem ggX9_layFlags_X9_both : GoodIn wsX9_layFlags wsX9_both := goodIn_sub (List.forall_mem_cons.mpr ⟨(ip_wsX9_layFlags__wsX9_layFlags_r2 _ (List.mem_of_getElem? (i := 12) rfl)), (x_ap2 (List.forall_mem_cons.mpr ⟨(ip_wsX9_layFlags__wsX9_layFlags_r1 _ (List.mem_of_getElem? (i := 17) rfl)), (List.forall_mem_cons.mpr ⟨(ip_wsX9_layFlags__wsX9_layFlags_r1 _ (List.mem_of_getElem? (i := 18) rfl)), (List.forall_mem_cons.mpr ⟨(ip_wsX9_layFlags__wsX9_layFlags_r1 _ (List.mem_of_getElem? (i := 19) rfl)), (List.forall_mem_cons.mpr ⟨(ip_wsX9_layFlags__wsX9_layFlags_r1 _ (List.mem_of_getElem? (i := 15) rfl)), (List.forall_mem_cons.mpr ⟨(ip_wsX9_layFlags__wsX9_layFlags_r1 _ (List.mem_of_getElem? (i := 20) rfl)), (List.forall_mem_cons.mpr ⟨(ip_wsX9_layFlags__wsX9_layFlags_r1 _ (List.mem_of_getElem? (i := 6) rfl)), (fun _ h => absurd h List.not_mem_nil)⟩)⟩)⟩)⟩)⟩)⟩) (fun _ h => (List.mem_cons_of_mem _ (List.mem_append_right _ h))))⟩) (by decide +kernel)
set_option maxRecDepth 20000 in
theorem gX9_layFlags_X9_both : GoodIn wsX9_layFlags (wsV RX9 116 RX9 yX9_both wsX9_both) := goodIn_app (goodIn_of _ (by decide +kernel)) ggX9_layFlags_X9_both
set_option maxRecDepth 20000 in
theorem ggX9_layFlags_X9_addFlag : GoodIn wsX9_layFlags wsX9_addFlag := goodIn_sub (List.forall_mem_cons.mpr ⟨(ip_wsX9_layFlags__wsX9_layFlags_r2 _ (List.mem_of_getElem? (i := 16) rfl)), (x_ap2 (List.forall_mem_cons.mpr ⟨(ip_wsX9_layFlags__wsX9_layFlags_r1 _ (List.mem_of_getElem? (i := 1) rfl)), (List.forall_mem_cons.mpr ⟨(ip_wsX9_layFlags__wsX9_layFlags_r1 _ (List.mem_of_getElem? (i := 8) rfl)), (List.forall_mem_cons.mpr ⟨(ip_wsX9_layFlags__wsX9_layFlags_r1 _ (List.mem_of_getElem? (i := 9) rfl)), (List.forall_mem_cons.mpr ⟨(ip_wsX9_layFlags__wsX9_layFlags_r1 _ (List.mem_of_getElem? (i := 10) rfl)), (List.forall_mem_cons.mpr ⟨(ip_wsX9_layFlags__wsX9_layFlags_r2 _ (List.mem_of_getElem? (i := 17) rfl)), (List.forall_mem_cons.mpr ⟨(ip_wsX9_layFlags__wsX9_layFlags_r2 _ (List.mem_of_getElem? (i := 18) rfl)), (List.forall_mem_cons.mpr ⟨(ip_wsX9_layFlags__wsX9_layFlags_r2 _ (List.mem_of_getElem? (i := 19) rfl)), (List.forall_mem_cons.mpr ⟨(ip_wsX9_layFlags__wsX9_layFlags_r2 _ (List.mem_of_getElem? (i := 20) rfl)), (List.forall_mem_cons.mpr ⟨(ip_wsX9_layFlags__wsX9_layFlags_r2 _ (List.mem_of_getElem? (i := 21) rfl)), (List.forall_mem_cons.mpr ⟨(ip_wsX9_layFlags__wsX9_layFlags_r2 _ (List.mem_of_getElem? (i := 22) rfl)), (List.forall_mem_cons.mpr ⟨(ip_wsX9_layFlags__wsX9_layFlags_r2 _ (List.mem_of_getElem? (i := 23) rfl)), (List.forall_mem_cons.mpr ⟨(ip_wsX9_layFlags__wsX9_layFlags_r1 _ (List.mem_of_getElem? (i := 15) rfl)), (List.forall_mem_cons.mpr ⟨(ip_wsX9_layFlags__wsX9_layFlags_r3 _ (List.mem_of_getElem? (i := 0) rfl)), (List.forall_mem_cons.mpr ⟨(ip_wsX9_layFlags__wsX9_layFlags_r1 _ (List.mem_of_getElem? (i := 6) rfl)), (fun _ h => absurd h List.not_mem_nil)⟩)⟩)⟩)⟩)⟩)⟩)⟩)⟩)⟩)⟩)⟩)⟩)⟩)⟩) (fun _ h => (List.mem_cons_of_mem _ (List.mem_append_right _ h))))⟩) (by decide +kernel)
set_option maxRecDepth 20000 in
theorem gX9_layFlags_X9_addFlag : GoodIn wsX9_layFlags (wsV RX9 143 RX9 yX9_addFlag wsX9_addFlag) := goodIn_app (goodIn_of _ (by decide +kernel)) ggX9_layFlags_X9_addFlag
theorem dX9_layFlags_0 : decode cX9_layFlags 0 = .ok (.aload_n 0, 1) := by decide +kernel
theorem dX9_layFlags_1 : decode cX9_layFlags 1 = .ok (.aload_n 0, 1) := by decide +kernel
theorem dX9_layFlags_2 : decode cX9_layFlags 2 = .ok (.getfield 13, 3) := by decide +kernel
theorem dX9_layFlags_5 : decode cX9_layFlags 5 = .ok (.bipush 6, 2) := by decide +kernel
theorem dX9_layFlags_7 : decode cX9_layFlags 7 = .ok (.invokevirtual 88, 3) := by decide +kernel
theorem dX9_layFlags_10 : decode cX9_layFlags 10 = .ok (.aload_n 0, 1) := by decide +kernel
theorem dX9_layFlags_11 : decode cX9_layFlags 11 = .ok (.iconst 0, 1) := by decide +kernel
theorem dX9_layFlags_12 : decode cX9_layFlags 12 = .ok (.putfield 140, 3) := by decide +kernel
theorem dX9_layFlags_15 : decode cX9_layFlags 15 = .ok (.iconst 0, 1) := by decide +kernel
theorem dX9_layFlags_16 : decode cX9_layFlags 16 = .ok (.istore_n 1, 1) := by decide +kernel
theorem dX9_layFlags_17 : decode cX9_layFlags 17 = .ok (.iload_n 1, 1) := by decide +kernel
theorem dX9_layFlags_18 : decode cX9_layFlags 18 = .ok (.aload_n 0, 1) := by decide +kernel
theorem dX9_layFlags_19 : decode cX9_layFlags 19 = .ok (.getfield 137, 3) := by decide +kernel
theorem dX9_layFlags_22 : decode cX9_layFlags 22 = .ok (.if_icmp .ge 252, 3) := by decide +kernel
theorem dX9_layFlags_25 : decode cX9_layFlags 25 = .ok (.aload_n 0, 1) := by decide +kernel
theorem dX9_layFlags_26 : decode cX9_layFlags 26 = .ok (.getfield 20, 3) := by decide +kernel
theorem dX9_layFlags_29 : decode cX9_layFlags 29 = .ok (.iload_n 1, 1) := by decide +kernel
theorem dX9_layFlags_30 : decode cX9_layFlags 30 = .ok (.iaload, 1) := by decide +kernel
theorem dX9_layFlags_31 : decode cX9_layFlags 31 = .ok (.istore_n 2, 1) := by decide +kernel
theorem dX9_layFlags_32 : decode cX9_layFlags 32 = .ok (.aload_n 0, 1) := by decide +kernel
theorem dX9_layFlags_33 : decode cX9_layFlags 33 = .ok (.getfield 23, 3) := by decide +kernel
theorem dX9_layFlags_36 : decode cX9_layFlags 36 = .ok (.iload_n 1, 1) := by decide +kernel
theorem dX9_layFlags_37 : decode cX9_layFlags 37 = .ok (.iaload, 1) := by decide +kernel
theorem dX9_layFlags_38 : decode cX9_layFlags 38 = .ok (.istore_n 3, 1) := by decide +kernel
theorem dX9_layFlags_39 : decode cX9_layFlags 39 = .ok (.aload_n 0, 1) := by decide +kernel
theorem dX9_layFlags_40 : decode cX9_layFlags 40 = .ok (.getfield 26, 3) := by decide +kernel
theorem dX9_layFlags_43 : decode cX9_layFlags 43 = .ok (.iload_n 1, 1) := by decide +kernel
theorem dX9_layFlags_44 : decode cX9_layFlags 44 = .ok (.iaload, 1) := by decide +kernel
theorem dX9_layFlags_45 : decode cX9_layFlags 45 = .ok (.istore 4, 2) := by decide +kernel
theorem dX9_layFlags_47 : decode cX9_layFlags 47 = .ok (.aload_n 0, 1) := by decide +kernel
theorem dX9_layFlags_48 : decode cX9_layFlags 48 = .ok (.getfield 140, 3) := by decide +kernel
theorem dX9_layFlags_51 : decode cX9_layFlags 51 = .ok (.istore 5, 2) := by decide +kernel
theorem dX9_layFlags_53 : decode cX9_layFlags 53 = .ok (.iload 4, 2) := by decide +kernel
theorem dX9_layFlags_55 : decode cX9_layFlags 55 = .ok (.istore 6, 2) := by decide +kernel
theorem dX9_layFlags_57 : decode cX9_layFlags 57 = .ok (.iconst 0, 1) := by decide +kernel
theorem dX9_layFlags_58 : decode cX9_layFlags 58 = .ok (.istore 7, 2) := by decide +kernel
theorem dX9_layFlags_60 : decode cX9_layFlags 60 = .ok (.iload 4, 2) := by decide +kernel
theorem dX9_layFlags_62 : decode cX9_layFlags 62 = .ok (.ifCond .eq 12, 3) := by decide +kernel
theorem dX9_layFlags_65 : decode cX9_layFlags 65 = .ok (.aload_n 0, 1) := by decide +kernel
theorem dX9_layFlags_66 : decode cX9_layFlags 66 = .ok (.iload_n 2, 1) := by decide +kernel
theorem dX9_layFlags_67 : decode cX9_layFlags 67 = .ok (.ineg, 1) := by decide +kernel
theorem dX9_layFlags_68 : decode cX9_layFlags 68 = .ok (.invokevirtual 85, 3) := by decide +kernel
theorem dX9_layFlags_71 : decode cX9_layFlags 71 = .ok (.goto 4, 3) := by decide +kernel
theorem dX9_layFlags_74 : decode cX9_layFlags 74 = .ok (.iconst 1, 1) := by decide +kernel
theorem dX9_layFlags_75 : decode cX9_layFlags 75 = .ok (.istore 8, 2) := by decide +kernel
theorem dX9_layFlags_77 : decode cX9_layFlags 77 = .ok (.iload 4, 2) := by decide +kernel
theorem dX9_layFlags_79 : decode cX9_layFlags 79 = .ok (.ifCond .eq 7, 3) := by decide +kernel
theorem dX9_layFlags_82 : decode cX9_layFlags 82 = .ok (.iconst 0, 1) := by decide +kernel
theorem dX9_layFlags_83 : decode cX9_layFlags 83 = .ok (.goto 4, 3) := by decide +kernel
theorem dX9_layFlags_86 : decode cX9_layFlags 86 = .ok (.iload_n 3, 1) := by decide +kernel
theorem dX9_layFlags_87 : decode cX9_layFlags 87 = .ok (.istore 9, 2) := by decide +kernel
theorem dX9_layFlags_89 : decode cX9_layFlags 89 = .ok (.iload 4, 2) := by decide +kernel
theorem dX9_layFlags_91 : decode cX9_layFlags 91 = .ok (.ifCond .eq 8, 3) := by decide +kernel
theorem dX9_layFlags_94 : decode cX9_layFlags 94 = .ok (.iload 4, 2) := by decide +kernel
theorem dX9_layFlags_96 : decode cX9_layFlags 96 = .ok (.goto 9, 3) := by decide +kernel
theorem dX9_layFlags_99 : decode cX9_layFlags 99 = .ok (.aload_n 0, 1) := by decide +kernel
theorem dX9_layFlags_100 : decode cX9_layFlags 100 = .ok (.iload_n 2, 1) := by decide +kernel
theorem dX9_layFlags_101 : decode cX9_layFlags 101 = .ok (.ineg, 1) := by decide +kernel
theorem dX9_layFlags_102 : decode cX9_layFlags 102 = .ok (.invokevirtual 85, 3) := by decide +kernel
theorem dX9_layFlags_105 : decode cX9_layFlags 105 = .ok (.istore 10, 2) := by decide +kernel
theorem dX9_layFlags_107 : decode cX9_layFlags 107 = .ok (.iload 4, 2) := by decide +kernel
theorem dX9_layFlags_109 : decode cX9_layFlags 109 = .ok (.ifCond .eq 12, 3) := by decide +kernel
theorem dX9_layFlags_112 : decode cX9_layFlags 112 = .ok (.aload_n 0, 1) := by decide +kernel
theorem dX9_layFlags_113 : decode cX9_layFlags 113 = .ok (.iload_n 3, 1) := by decide +kernel
theorem dX9_layFlags_114 : decode cX9_layFlags 114 = .ok (.ineg, 1) := by decide +kernel
theorem dX9_layFlags_115 : decode cX9_layFlags 115 = .ok (.invokevirtual 85, 3) := by decide +kernel
theorem dX9_layFlags_118 : decode cX9_layFlags 118 = .ok (.goto 4, 3) := by decide +kernel
theorem dX9_layFlags_121 : decode cX9_layFlags 121 = .ok (.iconst 0, 1) := by decide +kernel
theorem dX9_layFlags_122 : decode cX9_layFlags 122 = .ok (.istore 11, 2) := by decide +kernel
theorem dX9_layFlags_124 : decode cX9_layFlags 124 = .ok (.iconst 0, 1) := by decide +kernel
theorem dX9_layFlags_125 : decode cX9_layFlags 125 = .ok (.istore 12, 2) := by decide +kernel
theorem dX9_layFlags_127 : decode cX9_layFlags 127 = .ok (.iload 12, 2) := by decide +kernel
theorem dX9_layFlags_129 : decode cX9_layFlags 129 = .ok (.aload_n 0, 1) := by decide +kernel
theorem dX9_layFlags_130 : decode cX9_layFlags 130 = .ok (.getfield 7, 3) := by decide +kernel
theorem dX9_layFlags_133 : decode cX9_layFlags 133 = .ok (.if_icmp .gt 122, 3) := by decide +kernel
theorem dX9_layFlags_136 : decode cX9_layFlags 136 = .ok (.iload 12, 2) := by decide +kernel
theorem dX9_layFlags_138 : decode cX9_layFlags 138 = .ok (.aload_n 0, 1) := by decide +kernel
theorem dX9_layFlags_139 : decode cX9_layFlags 139 = .ok (.getfield 7, 3) := by decide +kernel
theorem dX9_layFlags_142 : decode cX9_layFlags 142 = .ok (.if_icmp .ge 8, 3) := by decide +kernel
theorem dX9_layFlags_145 : decode cX9_layFlags 145 = .ok (.iload 12, 2) := by decide +kernel
theorem dX9_layFlags_147 : decode cX9_layFlags 147 = .ok (.goto 4, 3) := by decide +kernel
theorem dX9_layFlags_150 : decode cX9_layFlags 150 = .ok (.iconst 1, 1) := by decide +kernel
theorem dX9_layFlags_151 : decode cX9_layFlags 151 = .ok (.istore 13, 2) := by decide +kernel
theorem dX9_layFlags_153 : decode cX9_layFlags 153 = .ok (.iload 12, 2) := by decide +kernel
theorem dX9_layFlags_155 : decode cX9_layFlags 155 = .ok (.aload_n 0, 1) := by decide +kernel
theorem dX9_layFlags_156 : decode cX9_layFlags 156 = .ok (.getfield 7, 3) := by decide +kernel
theorem dX9_layFlags_159 : decode cX9_layFlags 159 = .ok (.if_icmp .ge 7, 3) := by decide +kernel
theorem dX9_layFlags_162 : decode cX9_layFlags 162 = .ok (.iconst 1, 1) := by decide +kernel
theorem dX9_layFlags_163 : decode cX9_layFlags 163 = .ok (.goto 4, 3) := by decide +kernel
theorem dX9_layFlags_166 : decode cX9_layFlags 166 = .ok (.iconst 0, 1) := by decide +kernel
theorem dX9_layFlags_167 : decode cX9_layFlags 167 = .ok (.istore 14, 2) := by decide +kernel
theorem dX9_layFlags_169 : decode cX9_layFlags 169 = .ok (.aload_n 0, 1) := by decide +kernel
theorem dX9_layFlags_170 : decode cX9_layFlags 170 = .ok (.aload_n 0, 1) := by decide +kernel
theorem dX9_layFlags_171 : decode cX9_layFlags 171 = .ok (.iload 13, 2) := by decide +kernel
theorem dX9_layFlags_173 : decode cX9_layFlags 173 = .ok (.iload 6, 2) := by decide +kernel
theorem dX9_layFlags_175 : decode cX9_layFlags 175 = .ok (.imul, 1) := by decide +kernel
theorem dX9_layFlags_176 : decode cX9_layFlags 176 = .ok (.iload 14, 2) := by decide +kernel
theorem dX9_layFlags_178 : decode cX9_layFlags 178 = .ok (.iload 9, 2) := by decide +kernel
theorem dX9_layFlags_180 : decode cX9_layFlags 180 = .ok (.imul, 1) := by decide +kernel
theorem dX9_layFlags_181 : decode cX9_layFlags 181 = .ok (.iadd, 1) := by decide +kernel
theorem dX9_layFlags_182 : decode cX9_layFlags 182 = .ok (.invokevirtual 85, 3) := by decide +kernel
theorem dX9_layFlags_185 : decode cX9_layFlags 185 = .ok (.aload_n 0, 1) := by decide +kernel
theorem dX9_layFlags_186 : decode cX9_layFlags 186 = .ok (.iload 13, 2) := by decide +kernel
theorem dX9_layFlags_188 : decode cX9_layFlags 188 = .ok (.iload 7, 2) := by decide +kernel
theorem dX9_layFlags_190 : decode cX9_layFlags 190 = .ok (.imul, 1) := by decide +kernel
theorem dX9_layFlags_191 : decode cX9_layFlags 191 = .ok (.iload 14, 2) := by decide +kernel
theorem dX9_layFlags_193 : decode cX9_layFlags 193 = .ok (.iload 10, 2) := by decide +kernel
theorem dX9_layFlags_195 : decode cX9_layFlags 195 = .ok (.imul, 1) := by decide +kernel
theorem dX9_layFlags_196 : decode cX9_layFlags 196 = .ok (.iadd, 1) := by decide +kernel
theorem dX9_layFlags_197 : decode cX9_layFlags 197 = .ok (.invokevirtual 85, 3) := by decide +kernel
theorem dX9_layFlags_200 : decode cX9_layFlags 200 = .ok (.aload_n 0, 1) := by decide +kernel
theorem dX9_layFlags_201 : decode cX9_layFlags 201 = .ok (.iload 13, 2) := by decide +kernel
theorem dX9_layFlags_203 : decode cX9_layFlags 203 = .ok (.iload 8, 2) := by decide +kernel
theorem dX9_layFlags_205 : decode cX9_layFlags 205 = .ok (.imul, 1) := by decide +kernel
theorem dX9_layFlags_206 : decode cX9_layFlags 206 = .ok (.iload 14, 2) := by decide +kernel
theorem dX9_layFlags_208 : decode cX9_layFlags 208 = .ok (.iload 11, 2) := by decide +kernel
theorem dX9_layFlags_210 : decode cX9_layFlags 210 = .ok (.imul, 1) := by decide +kernel
theorem dX9_layFlags_211 : decode cX9_layFlags 211 = .ok (.iadd, 1) := by decide +kernel
theorem dX9_layFlags_212 : decode cX9_layFlags 212 = .ok (.invokevirtual 85, 3) := by decide +kernel
theorem dX9_layFlags_215 : decode cX9_layFlags 215 = .ok (.invokevirtual 133, 3) := by decide +kernel
theorem dX9_layFlags_218 : decode cX9_layFlags 218 = .ok (.aload_n 0, 1) := by decide +kernel
theorem dX9_layFlags_219 : decode cX9_layFlags 219 = .ok (.aload_n 0, 1) := by decide +kernel
theorem dX9_layFlags_220 : decode cX9_layFlags 220 = .ok (.getfield 53, 3) := by decide +kernel
theorem dX9_layFlags_223 : decode cX9_layFlags 223 = .ok (.iconst 0, 1) := by decide +kernel
theorem dX9_layFlags_224 : decode cX9_layFlags 224 = .ok (.aload_n 0, 1) := by decide +kernel
theorem dX9_layFlags_225 : decode cX9_layFlags 225 = .ok (.getfield 124, 3) := by decide +kernel
theorem dX9_layFlags_228 : decode cX9_layFlags 228 = .ok (.aload_n 0, 1) := by decide +kernel
theorem dX9_layFlags_229 : decode cX9_layFlags 229 = .ok (.getfield 127, 3) := by decide +kernel
theorem dX9_layFlags_232 : decode cX9_layFlags 232 = .ok (.aload_n 0, 1) := by decide +kernel
theorem dX9_layFlags_233 : decode cX9_layFlags 233 = .ok (.getfield 130, 3) := by decide +kernel
theorem dX9_layFlags_236 : decode cX9_layFlags 236 = .ok (.invokevirtual 116, 3) := by decide +kernel
theorem dX9_layFlags_239 : decode cX9_layFlags 239 = .ok (.ifCond .ne 10, 3) := by decide +kernel
theorem dX9_layFlags_242 : decode cX9_layFlags 242 = .ok (.aload_n 0, 1) := by decide +kernel
theorem dX9_layFlags_243 : decode cX9_layFlags 243 = .ok (.iload_n 1, 1) := by decide +kernel
theorem dX9_layFlags_244 : decode cX9_layFlags 244 = .ok (.iload 5, 2) := by decide +kernel
theorem dX9_layFlags_246 : decode cX9_layFlags 246 = .ok (.invokevirtual 143, 3) := by decide +kernel
theorem dX9_layFlags_249 : decode cX9_layFlags 249 = .ok (.iinc 12 1, 3) := by decide +kernel
theorem dX9_layFlags_252 : decode cX9_layFlags 252 = .ok (.goto (-125), 3) := by decide +kernel
theorem dX9_layFlags_255 : decode cX9_layFlags 255 = .ok (.aload_n 0, 1) := by decide +kernel
theorem dX9_layFlags_256 : decode cX9_layFlags 256 = .ok (.getfield 29, 3) := by decide +kernel
theorem dX9_layFlags_259 : decode cX9_layFlags 259 = .ok (.iload_n 1, 1) := by decide +kernel
theorem dX9_layFlags_260 : decode cX9_layFlags 260 = .ok (.aload_n 0, 1) := by decide +kernel
theorem dX9_layFlags_261 : decode cX9_layFlags 261 = .ok (.getfield 140, 3) := by decide +kernel
theorem dX9_layFlags_264 : decode cX9_layFlags 264 = .ok (.iload 5, 2) := by decide +kernel
theorem dX9_layFlags_266 : decode cX9_layFlags 266 = .ok (.isub, 1) := by decide +kernel
theorem dX9_layFlags_267 : decode cX9_layFlags 267 = .ok (.iastore, 1) := by decide +kernel
theorem dX9_layFlags_268 : decode cX9_layFlags 268 = .ok (.iinc 1 1, 3) := by decide +kernel
theorem dX9_layFlags_271 : decode cX9_layFlags 271 = .ok (.goto (-254), 3) := by decide +kernel
theorem dX9_layFlags_274 : decode cX9_layFlags 274 = .ok (.return_, 1) := by decide +kernel
set_option maxRecDepth 20000 in
theorem ggX9_addFlag_X9_rank : GoodIn wsX9_addFlag wsX9_rank := goodIn_sub (List.forall_mem_cons.mpr ⟨(List.mem_cons_of_mem _ (List.mem_append_left _ (List.mem_of_getElem? (i := 12) rfl))), (x_ap2 (List.forall_mem_cons.mpr ⟨(List.mem_cons_of_mem _ (List.mem_append_left _ (List.mem_of_getElem? (i := 13) rfl))), (fun _ h => absurd h List.not_mem_nil)⟩) (fun _ h => (List.mem_cons_of_mem _ (List.mem_append_right _ h))))⟩) (by decide +kernel)
set_option maxRecDepth 20000 in
theorem gX9_addFlag_X9_rank : GoodIn wsX9_addFlag (wsV RX9 146 RX9 yX9_rank wsX9_rank) := goodIn_app (goodIn_of _ (by decide +kernel)) ggX9_addFlag_X9_rank
theorem dX9_addFlag_0 : decode cX9_addFlag 0 = .ok (.aload_n 0, 1) := by decide +kernel
theorem dX9_addFlag_1 : decode cX9_addFlag 1 = .ok (.getfield 140, 3) := by decide +kernel
theorem dX9_addFlag_4 : decode cX9_addFlag 4 = .ok (.istore_n 3, 1) := by decide +kernel
theorem dX9_addFlag_5 : decode cX9_addFlag 5 = .ok (.aload_n 0, 1) := by decide +kernel
theorem dX9_addFlag_6 : decode cX9_addFlag 6 = .ok (.aload_n 0, 1) := by decide +kernel
theorem dX9_addFlag_7 : decode cX9_addFlag 7 = .ok (.getfield 124, 3) := by decide +kernel
theorem dX9_addFlag_10 : decode cX9_addFlag 10 = .ok (.aload_n 0, 1) := by decide +kernel
theorem dX9_addFlag_11 : decode cX9_addFlag 11 = .ok (.getfield 127, 3) := by decide +kernel
theorem dX9_addFlag_14 : decode cX9_addFlag 14 = .ok (.aload_n 0, 1) := by decide +kernel
theorem dX9_addFlag_15 : decode cX9_addFlag 15 = .ok (.getfield 130, 3) := by decide +kernel
theorem dX9_addFlag_18 : decode cX9_addFlag 18 = .ok (.invokevirtual 146, 3) := by decide +kernel
theorem dX9_addFlag_21 : decode cX9_addFlag 21 = .ok (.istore 4, 2) := by decide +kernel
theorem dX9_addFlag_23 : decode cX9_addFlag 23 = .ok (.iload_n 3, 1) := by decide +kernel
theorem dX9_addFlag_24 : decode cX9_addFlag 24 = .ok (.iload_n 2, 1) := by decide +kernel
theorem dX9_addFlag_25 : decode cX9_addFlag 25 = .ok (.if_icmp .le 84, 3) := by decide +kernel
theorem dX9_addFlag_28 : decode cX9_addFlag 28 = .ok (.aload_n 0, 1) := by decide +kernel
theorem dX9_addFlag_29 : decode cX9_addFlag 29 = .ok (.aload_n 0, 1) := by decide +kernel
theorem dX9_addFlag_30 : decode cX9_addFlag 30 = .ok (.getfield 35, 3) := by decide +kernel
theorem dX9_addFlag_33 : decode cX9_addFlag 33 = .ok (.iload_n 3, 1) := by decide +kernel
theorem dX9_addFlag_34 : decode cX9_addFlag 34 = .ok (.iconst 1, 1) := by decide +kernel
theorem dX9_addFlag_35 : decode cX9_addFlag 35 = .ok (.isub, 1) := by decide +kernel
theorem dX9_addFlag_36 : decode cX9_addFlag 36 = .ok (.iaload, 1) := by decide +kernel
theorem dX9_addFlag_37 : decode cX9_addFlag 37 = .ok (.aload_n 0, 1) := by decide +kernel
theorem dX9_addFlag_38 : decode cX9_addFlag 38 = .ok (.getfield 38, 3) := by decide +kernel
theorem dX9_addFlag_41 : decode cX9_addFlag 41 = .ok (.iload_n 3, 1) := by decide +kernel
theorem dX9_addFlag_42 : decode cX9_addFlag 42 = .ok (.iconst 1, 1) := by decide +kernel
theorem dX9_addFlag_43 : decode cX9_addFlag 43 = .ok (.isub, 1) := by decide +kernel
theorem dX9_addFlag_44 : decode cX9_addFlag 44 = .ok (.iaload, 1) := by decide +kernel
theorem dX9_addFlag_45 : decode cX9_addFlag 45 = .ok (.aload_n 0, 1) := by decide +kernel
theorem dX9_addFlag_46 : decode cX9_addFlag 46 = .ok (.getfield 41, 3) := by decide +kernel
theorem dX9_addFlag_49 : decode cX9_addFlag 49 = .ok (.iload_n 3, 1) := by decide +kernel
theorem dX9_addFlag_50 : decode cX9_addFlag 50 = .ok (.iconst 1, 1) := by decide +kernel
theorem dX9_addFlag_51 : decode cX9_addFlag 51 = .ok (.isub, 1) := by decide +kernel
theorem dX9_addFlag_52 : decode cX9_addFlag 52 = .ok (.iaload, 1) := by decide +kernel
theorem dX9_addFlag_53 : decode cX9_addFlag 53 = .ok (.invokevirtual 146, 3) := by decide +kernel
theorem dX9_addFlag_56 : decode cX9_addFlag 56 = .ok (.iload 4, 2) := by decide +kernel
theorem dX9_addFlag_58 : decode cX9_addFlag 58 = .ok (.if_icmp .le 51, 3) := by decide +kernel
theorem dX9_addFlag_61 : decode cX9_addFlag 61 = .ok (.aload_n 0, 1) := by decide +kernel
theorem dX9_addFlag_62 : decode cX9_addFlag 62 = .ok (.getfield 35, 3) := by decide +kernel
theorem dX9_addFlag_65 : decode cX9_addFlag 65 = .ok (.iload_n 3, 1) := by decide +kernel
theorem dX9_addFlag_66 : decode cX9_addFlag 66 = .ok (.aload_n 0, 1) := by decide +kernel
theorem dX9_addFlag_67 : decode cX9_addFlag 67 = .ok (.getfield 35, 3) := by decide +kernel
theorem dX9_addFlag_70 : decode cX9_addFlag 70 = .ok (.iload_n 3, 1) := by decide +kernel
theorem dX9_addFlag_71 : decode cX9_addFlag 71 = .ok (.iconst 1, 1) := by decide +kernel
theorem dX9_addFlag_72 : decode cX9_addFlag 72 = .ok (.isub, 1) := by decide +kernel
theorem dX9_addFlag_73 : decode cX9_addFlag 73 = .ok (.iaload, 1) := by decide +kernel
theorem dX9_addFlag_74 : decode cX9_addFlag 74 = .ok (.iastore, 1) := by decide +kernel
theorem dX9_addFlag_75 : decode cX9_addFlag 75 = .ok (.aload_n 0, 1) := by decide +kernel
theorem dX9_addFlag_76 : decode cX9_addFlag 76 = .ok (.getfield 38, 3) := by decide +kernel
theorem dX9_addFlag_79 : decode cX9_addFlag 79 = .ok (.iload_n 3, 1) := by decide +kernel
theorem dX9_addFlag_80 : decode cX9_addFlag 80 = .ok (.aload_n 0, 1) := by decide +kernel
theorem dX9_addFlag_81 : decode cX9_addFlag 81 = .ok (.getfield 38, 3) := by decide +kernel
theorem dX9_addFlag_84 : decode cX9_addFlag 84 = .ok (.iload_n 3, 1) := by decide +kernel
theorem dX9_addFlag_85 : decode cX9_addFlag 85 = .ok (.iconst 1, 1) := by decide +kernel
theorem dX9_addFlag_86 : decode cX9_addFlag 86 = .ok (.isub, 1) := by decide +kernel
theorem dX9_addFlag_87 : decode cX9_addFlag 87 = .ok (.iaload, 1) := by decide +kernel
theorem dX9_addFlag_88 : decode cX9_addFlag 88 = .ok (.iastore, 1) := by decide +kernel
theorem dX9_addFlag_89 : decode cX9_addFlag 89 = .ok (.aload_n 0, 1) := by decide +kernel
theorem dX9_addFlag_90 : decode cX9_addFlag 90 = .ok (.getfield 41, 3) := by decide +kernel
theorem dX9_addFlag_93 : decode cX9_addFlag 93 = .ok (.iload_n 3, 1) := by decide +kernel
theorem dX9_addFlag_94 : decode cX9_addFlag 94 = .ok (.aload_n 0, 1) := by decide +kernel
theorem dX9_addFlag_95 : decode cX9_addFlag 95 = .ok (.getfield 41, 3) := by decide +kernel
theorem dX9_addFlag_98 : decode cX9_addFlag 98 = .ok (.iload_n 3, 1) := by decide +kernel
theorem dX9_addFlag_99 : decode cX9_addFlag 99 = .ok (.iconst 1, 1) := by decide +kernel
theorem dX9_addFlag_100 : decode cX9_addFlag 100 = .ok (.isub, 1) := by decide +kernel
theorem dX9_addFlag_101 : decode cX9_addFlag 101 = .ok (.iaload, 1) := by decide +kernel
theorem dX9_addFlag_102 : decode cX9_addFlag 102 = .ok (.iastore, 1) := by decide +kernel
theorem dX9_addFlag_103 : decode cX9_addFlag 103 = .ok (.iinc 3 (-1), 3) := by decide +kernel
theorem dX9_addFlag_106 : decode cX9_addFlag 106 = .ok (.goto (-83), 3) := by decide +kernel
theorem dX9_addFlag_109 : decode cX9_addFlag 109 = .ok (.aload_n 0, 1) := by decide +kernel
theorem dX9_addFlag_110 : decode cX9_addFlag 110 = .ok (.getfield 32, 3) := by decide +kernel
theorem dX9_addFlag_113 : decode cX9_addFlag 113 = .ok (.aload_n 0, 1) := by decide +kernel
theorem dX9_addFlag_114 : decode cX9_addFlag 114 = .ok (.getfield 140, 3) := by decide +kernel
theorem dX9_addFlag_117 : decode cX9_addFlag 117 = .ok (.iload_n 1, 1) := by decide +kernel
theorem dX9_addFlag_118 : decode cX9_addFlag 118 = .ok (.iastore, 1) := by decide +kernel
theorem dX9_addFlag_119 : decode cX9_addFlag 119 = .ok (.aload_n 0, 1) := by decide +kernel
theorem dX9_addFlag_120 : decode cX9_addFlag 120 = .ok (.getfield 35, 3) := by decide +kernel
theorem dX9_addFlag_123 : decode cX9_addFlag 123 = .ok (.iload_n 3, 1) := by decide +kernel
theorem dX9_addFlag_124 : decode cX9_addFlag 124 = .ok (.aload_n 0, 1) := by decide +kernel
theorem dX9_addFlag_125 : decode cX9_addFlag 125 = .ok (.getfield 124, 3) := by decide +kernel
theorem dX9_addFlag_128 : decode cX9_addFlag 128 = .ok (.iastore, 1) := by decide +kernel
theorem dX9_addFlag_129 : decode cX9_addFlag 129 = .ok (.aload_n 0, 1) := by decide +kernel
theorem dX9_addFlag_130 : decode cX9_addFlag 130 = .ok (.getfield 38, 3) := by decide +kernel
theorem dX9_addFlag_133 : decode cX9_addFlag 133 = .ok (.iload_n 3, 1) := by decide +kernel
theorem dX9_addFlag_134 : decode cX9_addFlag 134 = .ok (.aload_n 0, 1) := by decide +kernel
theorem dX9_addFlag_135 : decode cX9_addFlag 135 = .ok (.getfield 127, 3) := by decide +kernel
theorem dX9_addFlag_138 : decode cX9_addFlag 138 = .ok (.iastore, 1) := by decide +kernel
theorem dX9_addFlag_139 : decode cX9_addFlag 139 = .ok (.aload_n 0, 1) := by decide +kernel
theorem dX9_addFlag_140 : decode cX9_addFlag 140 = .ok (.getfield 41, 3) := by decide +kernel
theorem dX9_addFlag_143 : decode cX9_addFlag 143 = .ok (.iload_n 3, 1) := by decide +kernel
theorem dX9_addFlag_144 : decode cX9_addFlag 144 = .ok (.aload_n 0, 1) := by decide +kernel
theorem dX9_addFlag_145 : decode cX9_addFlag 145 = .ok (.getfield 130, 3) := by decide +kernel
theorem dX9_addFlag_148 : decode cX9_addFlag 148 = .ok (.iastore, 1) := by decide +kernel
theorem dX9_addFlag_149 : decode cX9_addFlag 149 = .ok (.aload_n 0, 1) := by decide +kernel
theorem dX9_addFlag_150 : decode cX9_addFlag 150 = .ok (.dup, 1) := by decide +kernel
theorem dX9_addFlag_151 : decode cX9_addFlag 151 = .ok (.getfield 140, 3) := by decide +kernel
theorem dX9_addFlag_154 : decode cX9_addFlag 154 = .ok (.iconst 1, 1) := by decide +kernel
theorem dX9_addFlag_155 : decode cX9_addFlag 155 = .ok (.iadd, 1) := by decide +kernel
theorem dX9_addFlag_156 : decode cX9_addFlag 156 = .ok (.putfield 140, 3) := by decide +kernel
theorem dX9_addFlag_159 : decode cX9_addFlag 159 = .ok (.return_, 1) := by decide +kernel
set_option maxRecDepth 20000 in
theorem ggX9_isOnLine_X9_of : GoodIn wsX9_isOnLine wsX9_of := goodIn_sub (List.forall_mem_cons.mpr ⟨(List.mem_cons_of_mem _ (List.mem_append_left _ (List.mem_of_getElem? (i := 10) rfl))), (x_ap2 (List.forall_mem_cons.mpr ⟨(List.mem_cons_of_mem _ (List.mem_append_left _ (List.mem_of_getElem? (i := 11) rfl))), (fun _ h => absurd h List.not_mem_nil)⟩) (fun _ h => (List.mem_cons_of_mem _ (List.mem_append_right _ h))))⟩) (by decide +kernel)
set_option maxRecDepth 20000 in
theorem gX9_isOnLine_X9_of : GoodIn wsX9_isOnLine (wsV RX9 85 RX9 yX9_of wsX9_of) := goodIn_app (goodIn_of _ (by decide +kernel)) ggX9_isOnLine_X9_of
theorem dX9_isOnLine_0 : decode cX9_isOnLine 0 = .ok (.aload_n 0, 1) := by decide +kernel
theorem dX9_isOnLine_1 : decode cX9_isOnLine 1 = .ok (.aload_n 0, 1) := by decide +kernel
theorem dX9_isOnLine_2 : decode cX9_isOnLine 2 = .ok (.getfield 35, 3) := by decide +kernel
theorem dX9_isOnLine_5 : decode cX9_isOnLine 5 = .ok (.iload_n 2, 1) := by decide +kernel
theorem dX9_isOnLine_6 : decode cX9_isOnLine 6 = .ok (.iaload, 1) := by decide +kernel
theorem dX9_isOnLine_7 : decode cX9_isOnLine 7 = .ok (.aload_n 0, 1) := by decide +kernel
theorem dX9_isOnLine_8 : decode cX9_isOnLine 8 = .ok (.getfield 20, 3) := by decide +kernel
theorem dX9_isOnLine_11 : decode cX9_isOnLine 11 = .ok (.iload_n 1, 1) := by decide +kernel
theorem dX9_isOnLine_12 : decode cX9_isOnLine 12 = .ok (.iaload, 1) := by decide +kernel
theorem dX9_isOnLine_13 : decode cX9_isOnLine 13 = .ok (.imul, 1) := by decide +kernel
theorem dX9_isOnLine_14 : decode cX9_isOnLine 14 = .ok (.aload_n 0, 1) := by decide +kernel
theorem dX9_isOnLine_15 : decode cX9_isOnLine 15 = .ok (.getfield 38, 3) := by decide +kernel
theorem dX9_isOnLine_18 : decode cX9_isOnLine 18 = .ok (.iload_n 2, 1) := by decide +kernel
theorem dX9_isOnLine_19 : decode cX9_isOnLine 19 = .ok (.iaload, 1) := by decide +kernel
theorem dX9_isOnLine_20 : decode cX9_isOnLine 20 = .ok (.aload_n 0, 1) := by decide +kernel
theorem dX9_isOnLine_21 : decode cX9_isOnLine 21 = .ok (.getfield 23, 3) := by decide +kernel
theorem dX9_isOnLine_24 : decode cX9_isOnLine 24 = .ok (.iload_n 1, 1) := by decide +kernel
theorem dX9_isOnLine_25 : decode cX9_isOnLine 25 = .ok (.iaload, 1) := by decide +kernel
theorem dX9_isOnLine_26 : decode cX9_isOnLine 26 = .ok (.imul, 1) := by decide +kernel
theorem dX9_isOnLine_27 : decode cX9_isOnLine 27 = .ok (.iadd, 1) := by decide +kernel
theorem dX9_isOnLine_28 : decode cX9_isOnLine 28 = .ok (.aload_n 0, 1) := by decide +kernel
theorem dX9_isOnLine_29 : decode cX9_isOnLine 29 = .ok (.getfield 41, 3) := by decide +kernel
theorem dX9_isOnLine_32 : decode cX9_isOnLine 32 = .ok (.iload_n 2, 1) := by decide +kernel
theorem dX9_isOnLine_33 : decode cX9_isOnLine 33 = .ok (.iaload, 1) := by decide +kernel
theorem dX9_isOnLine_34 : decode cX9_isOnLine 34 = .ok (.aload_n 0, 1) := by decide +kernel
theorem dX9_isOnLine_35 : decode cX9_isOnLine 35 = .ok (.getfield 26, 3) := by decide +kernel
theorem dX9_isOnLine_38 : decode cX9_isOnLine 38 = .ok (.iload_n 1, 1) := by decide +kernel
theorem dX9_isOnLine_39 : decode cX9_isOnLine 39 = .ok (.iaload, 1) := by decide +kernel
theorem dX9_isOnLine_40 : decode cX9_isOnLine 40 = .ok (.imul, 1) := by decide +kernel
theorem dX9_isOnLine_41 : decode cX9_isOnLine 41 = .ok (.iadd, 1) := by decide +kernel
theorem dX9_isOnLine_42 : decode cX9_isOnLine 42 = .ok (.invokevirtual 85, 3) := by decide +kernel
theorem dX9_isOnLine_45 : decode cX9_isOnLine 45 = .ok (.ifCond .ne 7, 3) := by decide +kernel
theorem dX9_isOnLine_48 : decode cX9_isOnLine 48 = .ok (.iconst 1, 1) := by decide +kernel
theorem dX9_isOnLine_49 : decode cX9_isOnLine 49 = .ok (.goto 4, 3) := by decide +kernel
theorem dX9_isOnLine_52 : decode cX9_isOnLine 52 = .ok (.iconst 0, 1) := by decide +kernel
theorem dX9_isOnLine_53 : decode cX9_isOnLine 53 = .ok (.ireturn, 1) := by decide +kernel
set_option maxRecDepth 20000 in
theorem ggX9_stepOf_X9_isOnLine : GoodIn wsX9_stepOf wsX9_isOnLine := goodIn_sub (List.forall_mem_cons.mpr ⟨(List.mem_cons_of_mem _ (List.mem_append_left _ (List.mem_of_getElem? (i := 10) rfl))), (x_ap2 (List.forall_mem_cons.mpr ⟨(List.mem_cons_of_mem _ (List.mem_append_left _ (List.mem_of_getElem? (i := 3) rfl))), (List.forall_mem_cons.mpr ⟨(List.mem_cons_of_mem _ (List.mem_append_left _ (List.mem_of_getElem? (i := 11) rfl))), (List.forall_mem_cons.mpr ⟨(List.mem_cons_of_mem _ (List.mem_append_left _ (List.mem_of_getElem? (i := 4) rfl))), (List.forall_mem_cons.mpr ⟨(List.mem_cons_of_mem _ (List.mem_append_left _ (List.mem_of_getElem? (i := 12) rfl))), (List.forall_mem_cons.mpr ⟨(List.mem_cons_of_mem _ (List.mem_append_left _ (List.mem_of_getElem? (i := 5) rfl))), (List.forall_mem_cons.mpr ⟨(List.mem_cons_of_mem _ (List.mem_append_left _ (List.mem_of_getElem? (i := 13) rfl))), (List.forall_mem_cons.mpr ⟨(List.mem_cons_of_mem _ (List.mem_append_left _ (List.mem_of_getElem? (i := 14) rfl))), (List.forall_mem_cons.mpr ⟨(List.mem_cons_of_mem _ (List.mem_append_left _ (List.mem_of_getElem? (i := 15) rfl))), (List.forall_mem_cons.mpr ⟨(List.mem_cons_of_mem _ (List.mem_append_left _ (List.mem_of_getElem? (i := 16) rfl))), (List.forall_mem_cons.mpr ⟨(List.mem_cons_of_mem _ (List.mem_append_left _ (List.mem_of_getElem? (i := 9) rfl))), (List.forall_mem_cons.mpr ⟨(List.mem_cons_of_mem _ (List.mem_append_left _ (List.mem_of_getElem? (i := 17) rfl))), (List.forall_mem_cons.mpr ⟨(List.mem_cons_of_mem _ (List.mem_append_left _ (List.mem_of_getElem? (i := 18) rfl))), (fun _ h => absurd h List.not_mem_nil)⟩)⟩)⟩)⟩)⟩)⟩)⟩)⟩)⟩)⟩)⟩)⟩) (fun _ h => (List.mem_cons_of_mem _ (List.mem_append_right _ h))))⟩) (by decide +kernel)
set_option maxRecDepth 20000 in
theorem gX9_stepOf_X9_isOnLine : GoodIn wsX9_stepOf (wsV RX9 150 RX9 yX9_isOnLine wsX9_isOnLine) := goodIn_app (goodIn_of _ (by decide +kernel)) ggX9_stepOf_X9_isOnLine
theorem dX9_stepOf_0 : decode cX9_stepOf 0 = .ok (.aload_n 0, 1) := by decide +kernel
theorem dX9_stepOf_1 : decode cX9_stepOf 1 = .ok (.getfield 32, 3) := by decide +kernel
theorem dX9_stepOf_4 : decode cX9_stepOf 4 = .ok (.iload_n 1, 1) := by decide +kernel
theorem dX9_stepOf_5 : decode cX9_stepOf 5 = .ok (.iaload, 1) := by decide +kernel
theorem dX9_stepOf_6 : decode cX9_stepOf 6 = .ok (.istore_n 2, 1) := by decide +kernel
theorem dX9_stepOf_7 : decode cX9_stepOf 7 = .ok (.iconst 0, 1) := by decide +kernel
theorem dX9_stepOf_8 : decode cX9_stepOf 8 = .ok (.istore_n 3, 1) := by decide +kernel
theorem dX9_stepOf_9 : decode cX9_stepOf 9 = .ok (.iload_n 3, 1) := by decide +kernel
theorem dX9_stepOf_10 : decode cX9_stepOf 10 = .ok (.aload_n 0, 1) := by decide +kernel
theorem dX9_stepOf_11 : decode cX9_stepOf 11 = .ok (.getfield 137, 3) := by decide +kernel
theorem dX9_stepOf_14 : decode cX9_stepOf 14 = .ok (.if_icmp .ge 34, 3) := by decide +kernel
theorem dX9_stepOf_17 : decode cX9_stepOf 17 = .ok (.iload_n 3, 1) := by decide +kernel
theorem dX9_stepOf_18 : decode cX9_stepOf 18 = .ok (.aload_n 0, 1) := by decide +kernel
theorem dX9_stepOf_19 : decode cX9_stepOf 19 = .ok (.getfield 32, 3) := by decide +kernel
theorem dX9_stepOf_22 : decode cX9_stepOf 22 = .ok (.iload_n 1, 1) := by decide +kernel
theorem dX9_stepOf_23 : decode cX9_stepOf 23 = .ok (.iaload, 1) := by decide +kernel
theorem dX9_stepOf_24 : decode cX9_stepOf 24 = .ok (.if_icmp .eq 16, 3) := by decide +kernel
theorem dX9_stepOf_27 : decode cX9_stepOf 27 = .ok (.aload_n 0, 1) := by decide +kernel
theorem dX9_stepOf_28 : decode cX9_stepOf 28 = .ok (.iload_n 3, 1) := by decide +kernel
theorem dX9_stepOf_29 : decode cX9_stepOf 29 = .ok (.iload_n 1, 1) := by decide +kernel
theorem dX9_stepOf_30 : decode cX9_stepOf 30 = .ok (.invokevirtual 150, 3) := by decide +kernel
theorem dX9_stepOf_33 : decode cX9_stepOf 33 = .ok (.ifCond .eq 7, 3) := by decide +kernel
theorem dX9_stepOf_36 : decode cX9_stepOf 36 = .ok (.iload_n 3, 1) := by decide +kernel
theorem dX9_stepOf_37 : decode cX9_stepOf 37 = .ok (.goto 4, 3) := by decide +kernel
theorem dX9_stepOf_40 : decode cX9_stepOf 40 = .ok (.iload_n 2, 1) := by decide +kernel
theorem dX9_stepOf_41 : decode cX9_stepOf 41 = .ok (.istore_n 2, 1) := by decide +kernel
theorem dX9_stepOf_42 : decode cX9_stepOf 42 = .ok (.iinc 3 1, 3) := by decide +kernel
theorem dX9_stepOf_45 : decode cX9_stepOf 45 = .ok (.goto (-36), 3) := by decide +kernel
theorem dX9_stepOf_48 : decode cX9_stepOf 48 = .ok (.bipush (-6), 2) := by decide +kernel
theorem dX9_stepOf_50 : decode cX9_stepOf 50 = .ok (.istore_n 3, 1) := by decide +kernel
theorem dX9_stepOf_51 : decode cX9_stepOf 51 = .ok (.bipush (-6), 2) := by decide +kernel
theorem dX9_stepOf_53 : decode cX9_stepOf 53 = .ok (.istore 4, 2) := by decide +kernel
theorem dX9_stepOf_55 : decode cX9_stepOf 55 = .ok (.iconst 0, 1) := by decide +kernel
theorem dX9_stepOf_56 : decode cX9_stepOf 56 = .ok (.istore 5, 2) := by decide +kernel
theorem dX9_stepOf_58 : decode cX9_stepOf 58 = .ok (.iload 5, 2) := by decide +kernel
theorem dX9_stepOf_60 : decode cX9_stepOf 60 = .ok (.aload_n 0, 1) := by decide +kernel
theorem dX9_stepOf_61 : decode cX9_stepOf 61 = .ok (.getfield 140, 3) := by decide +kernel
theorem dX9_stepOf_64 : decode cX9_stepOf 64 = .ok (.if_icmp .ge 101, 3) := by decide +kernel
theorem dX9_stepOf_67 : decode cX9_stepOf 67 = .ok (.aload_n 0, 1) := by decide +kernel
theorem dX9_stepOf_68 : decode cX9_stepOf 68 = .ok (.getfield 32, 3) := by decide +kernel
theorem dX9_stepOf_71 : decode cX9_stepOf 71 = .ok (.iload 5, 2) := by decide +kernel
theorem dX9_stepOf_73 : decode cX9_stepOf 73 = .ok (.iaload, 1) := by decide +kernel
theorem dX9_stepOf_74 : decode cX9_stepOf 74 = .ok (.iload_n 2, 1) := by decide +kernel
theorem dX9_stepOf_75 : decode cX9_stepOf 75 = .ok (.if_icmp .ne 84, 3) := by decide +kernel
theorem dX9_stepOf_78 : decode cX9_stepOf 78 = .ok (.aload_n 0, 1) := by decide +kernel
theorem dX9_stepOf_79 : decode cX9_stepOf 79 = .ok (.getfield 35, 3) := by decide +kernel
theorem dX9_stepOf_82 : decode cX9_stepOf 82 = .ok (.iload 5, 2) := by decide +kernel
theorem dX9_stepOf_84 : decode cX9_stepOf 84 = .ok (.iaload, 1) := by decide +kernel
theorem dX9_stepOf_85 : decode cX9_stepOf 85 = .ok (.aload_n 0, 1) := by decide +kernel
theorem dX9_stepOf_86 : decode cX9_stepOf 86 = .ok (.getfield 35, 3) := by decide +kernel
theorem dX9_stepOf_89 : decode cX9_stepOf 89 = .ok (.iload_n 1, 1) := by decide +kernel
theorem dX9_stepOf_90 : decode cX9_stepOf 90 = .ok (.iaload, 1) := by decide +kernel
theorem dX9_stepOf_91 : decode cX9_stepOf 91 = .ok (.if_icmp .ne 39, 3) := by decide +kernel
theorem dX9_stepOf_94 : decode cX9_stepOf 94 = .ok (.aload_n 0, 1) := by decide +kernel
theorem dX9_stepOf_95 : decode cX9_stepOf 95 = .ok (.getfield 38, 3) := by decide +kernel
theorem dX9_stepOf_98 : decode cX9_stepOf 98 = .ok (.iload 5, 2) := by decide +kernel
theorem dX9_stepOf_100 : decode cX9_stepOf 100 = .ok (.iaload, 1) := by decide +kernel
theorem dX9_stepOf_101 : decode cX9_stepOf 101 = .ok (.aload_n 0, 1) := by decide +kernel
theorem dX9_stepOf_102 : decode cX9_stepOf 102 = .ok (.getfield 38, 3) := by decide +kernel
theorem dX9_stepOf_105 : decode cX9_stepOf 105 = .ok (.iload_n 1, 1) := by decide +kernel
theorem dX9_stepOf_106 : decode cX9_stepOf 106 = .ok (.iaload, 1) := by decide +kernel
theorem dX9_stepOf_107 : decode cX9_stepOf 107 = .ok (.if_icmp .ne 23, 3) := by decide +kernel
theorem dX9_stepOf_110 : decode cX9_stepOf 110 = .ok (.aload_n 0, 1) := by decide +kernel
theorem dX9_stepOf_111 : decode cX9_stepOf 111 = .ok (.getfield 41, 3) := by decide +kernel
theorem dX9_stepOf_114 : decode cX9_stepOf 114 = .ok (.iload 5, 2) := by decide +kernel
theorem dX9_stepOf_116 : decode cX9_stepOf 116 = .ok (.iaload, 1) := by decide +kernel
theorem dX9_stepOf_117 : decode cX9_stepOf 117 = .ok (.aload_n 0, 1) := by decide +kernel
theorem dX9_stepOf_118 : decode cX9_stepOf 118 = .ok (.getfield 41, 3) := by decide +kernel
theorem dX9_stepOf_121 : decode cX9_stepOf 121 = .ok (.iload_n 1, 1) := by decide +kernel
theorem dX9_stepOf_122 : decode cX9_stepOf 122 = .ok (.iaload, 1) := by decide +kernel
theorem dX9_stepOf_123 : decode cX9_stepOf 123 = .ok (.if_icmp .ne 7, 3) := by decide +kernel
theorem dX9_stepOf_126 : decode cX9_stepOf 126 = .ok (.iconst 1, 1) := by decide +kernel
theorem dX9_stepOf_127 : decode cX9_stepOf 127 = .ok (.goto 4, 3) := by decide +kernel
theorem dX9_stepOf_130 : decode cX9_stepOf 130 = .ok (.iconst 0, 1) := by decide +kernel
theorem dX9_stepOf_131 : decode cX9_stepOf 131 = .ok (.istore 6, 2) := by decide +kernel
theorem dX9_stepOf_133 : decode cX9_stepOf 133 = .ok (.iload 6, 2) := by decide +kernel
theorem dX9_stepOf_135 : decode cX9_stepOf 135 = .ok (.ifCond .eq 8, 3) := by decide +kernel
theorem dX9_stepOf_138 : decode cX9_stepOf 138 = .ok (.iload 5, 2) := by decide +kernel
theorem dX9_stepOf_140 : decode cX9_stepOf 140 = .ok (.goto 4, 3) := by decide +kernel
theorem dX9_stepOf_143 : decode cX9_stepOf 143 = .ok (.iload_n 3, 1) := by decide +kernel
theorem dX9_stepOf_144 : decode cX9_stepOf 144 = .ok (.istore_n 3, 1) := by decide +kernel
theorem dX9_stepOf_145 : decode cX9_stepOf 145 = .ok (.iload 6, 2) := by decide +kernel
theorem dX9_stepOf_147 : decode cX9_stepOf 147 = .ok (.ifCond .eq 8, 3) := by decide +kernel
theorem dX9_stepOf_150 : decode cX9_stepOf 150 = .ok (.iload 4, 2) := by decide +kernel
theorem dX9_stepOf_152 : decode cX9_stepOf 152 = .ok (.goto 5, 3) := by decide +kernel
theorem dX9_stepOf_155 : decode cX9_stepOf 155 = .ok (.iload 5, 2) := by decide +kernel
theorem dX9_stepOf_157 : decode cX9_stepOf 157 = .ok (.istore 4, 2) := by decide +kernel
theorem dX9_stepOf_159 : decode cX9_stepOf 159 = .ok (.iinc 5 1, 3) := by decide +kernel
theorem dX9_stepOf_162 : decode cX9_stepOf 162 = .ok (.goto (-104), 3) := by decide +kernel
theorem dX9_stepOf_165 : decode cX9_stepOf 165 = .ok (.iload 4, 2) := by decide +kernel
theorem dX9_stepOf_167 : decode cX9_stepOf 167 = .ok (.ifCond .ge 7, 3) := by decide +kernel
theorem dX9_stepOf_170 : decode cX9_stepOf 170 = .ok (.iload_n 3, 1) := by decide +kernel
theorem dX9_stepOf_171 : decode cX9_stepOf 171 = .ok (.goto 5, 3) := by decide +kernel
theorem dX9_stepOf_174 : decode cX9_stepOf 174 = .ok (.iload 4, 2) := by decide +kernel
theorem dX9_stepOf_176 : decode cX9_stepOf 176 = .ok (.ireturn, 1) := by decide +kernel
set_option maxRecDepth 20000 in
theorem ggX9_laySeries_X9_by : GoodIn wsX9_laySeries wsX9_by := goodIn_sub (List.forall_mem_cons.mpr ⟨(List.mem_cons_of_mem _ (List.mem_append_left _ (List.mem_of_getElem? (i := 6) rfl))), (x_ap2 (List.forall_mem_cons.mpr ⟨(List.mem_cons_of_mem _ (List.mem_append_left _ (List.mem_of_getElem? (i := 7) rfl))), (List.forall_mem_cons.mpr ⟨(List.mem_cons_of_mem _ (List.mem_append_left _ (List.mem_of_getElem? (i := 8) rfl))), (List.forall_mem_cons.mpr ⟨(List.mem_cons_of_mem _ (List.mem_append_left _ (List.mem_of_getElem? (i := 9) rfl))), (List.forall_mem_cons.mpr ⟨(List.mem_cons_of_mem _ (List.mem_append_left _ (List.mem_of_getElem? (i := 10) rfl))), (List.forall_mem_cons.mpr ⟨(List.mem_cons_of_mem _ (List.mem_append_left _ (List.mem_of_getElem? (i := 5) rfl))), (List.forall_mem_cons.mpr ⟨(List.mem_cons_of_mem _ (List.mem_append_left _ (List.mem_of_getElem? (i := 11) rfl))), (fun _ h => absurd h List.not_mem_nil)⟩)⟩)⟩)⟩)⟩)⟩) (fun _ h => (List.mem_cons_of_mem _ (List.mem_append_right _ h))))⟩) (by decide +kernel)
set_option maxRecDepth 20000 in
theorem gX9_laySeries_X9_by : GoodIn wsX9_laySeries (wsV RX9 78 RX9 yX9_by wsX9_by) := goodIn_app (goodIn_of _ (by decide +kernel)) ggX9_laySeries_X9_by
set_option maxRecDepth 20000 in
theorem ggX9_laySeries_X9_of : GoodIn wsX9_laySeries wsX9_of := goodIn_sub (List.forall_mem_cons.mpr ⟨(List.mem_cons_of_mem _ (List.mem_append_left _ (List.mem_of_getElem? (i := 15) rfl))), (x_ap2 (List.forall_mem_cons.mpr ⟨(List.mem_cons_of_mem _ (List.mem_append_left _ (List.mem_of_getElem? (i := 7) rfl))), (fun _ h => absurd h List.not_mem_nil)⟩) (fun _ h => (List.mem_cons_of_mem _ (List.mem_append_right _ h))))⟩) (by decide +kernel)
set_option maxRecDepth 20000 in
theorem gX9_laySeries_X9_of : GoodIn wsX9_laySeries (wsV RX9 85 RX9 yX9_of wsX9_of) := goodIn_app (goodIn_of _ (by decide +kernel)) ggX9_laySeries_X9_of
theorem dX9_laySeries_0 : decode cX9_laySeries 0 = .ok (.iconst 0, 1) := by decide +kernel
theorem dX9_laySeries_1 : decode cX9_laySeries 1 = .ok (.istore_n 1, 1) := by decide +kernel
theorem dX9_laySeries_2 : decode cX9_laySeries 2 = .ok (.iload_n 1, 1) := by decide +kernel
theorem dX9_laySeries_3 : decode cX9_laySeries 3 = .ok (.bipush 32, 2) := by decide +kernel
theorem dX9_laySeries_5 : decode cX9_laySeries 5 = .ok (.if_icmp .ge 90, 3) := by decide +kernel
theorem dX9_laySeries_8 : decode cX9_laySeries 8 = .ok (.iload_n 1, 1) := by decide +kernel
theorem dX9_laySeries_9 : decode cX9_laySeries 9 = .ok (.iconst 4, 1) := by decide +kernel
theorem dX9_laySeries_10 : decode cX9_laySeries 10 = .ok (.if_icmp .ge 22, 3) := by decide +kernel
theorem dX9_laySeries_13 : decode cX9_laySeries 13 = .ok (.aload_n 0, 1) := by decide +kernel
theorem dX9_laySeries_14 : decode cX9_laySeries 14 = .ok (.aload_n 0, 1) := by decide +kernel
theorem dX9_laySeries_15 : decode cX9_laySeries 15 = .ok (.getfield 17, 3) := by decide +kernel
theorem dX9_laySeries_18 : decode cX9_laySeries 18 = .ok (.iload_n 1, 1) := by decide +kernel
theorem dX9_laySeries_19 : decode cX9_laySeries 19 = .ok (.iaload, 1) := by decide +kernel
theorem dX9_laySeries_20 : decode cX9_laySeries 20 = .ok (.aload_n 0, 1) := by decide +kernel
theorem dX9_laySeries_21 : decode cX9_laySeries 21 = .ok (.getfield 17, 3) := by decide +kernel
theorem dX9_laySeries_24 : decode cX9_laySeries 24 = .ok (.iconst 0, 1) := by decide +kernel
theorem dX9_laySeries_25 : decode cX9_laySeries 25 = .ok (.iaload, 1) := by decide +kernel
theorem dX9_laySeries_26 : decode cX9_laySeries 26 = .ok (.invokevirtual 78, 3) := by decide +kernel
theorem dX9_laySeries_29 : decode cX9_laySeries 29 = .ok (.goto 4, 3) := by decide +kernel
theorem dX9_laySeries_32 : decode cX9_laySeries 32 = .ok (.iconst 0, 1) := by decide +kernel
theorem dX9_laySeries_33 : decode cX9_laySeries 33 = .ok (.istore_n 2, 1) := by decide +kernel
theorem dX9_laySeries_34 : decode cX9_laySeries 34 = .ok (.iconst 1, 1) := by decide +kernel
theorem dX9_laySeries_35 : decode cX9_laySeries 35 = .ok (.istore_n 3, 1) := by decide +kernel
theorem dX9_laySeries_36 : decode cX9_laySeries 36 = .ok (.iload_n 3, 1) := by decide +kernel
theorem dX9_laySeries_37 : decode cX9_laySeries 37 = .ok (.iload_n 1, 1) := by decide +kernel
theorem dX9_laySeries_38 : decode cX9_laySeries 38 = .ok (.if_icmp .ge 31, 3) := by decide +kernel
theorem dX9_laySeries_41 : decode cX9_laySeries 41 = .ok (.aload_n 0, 1) := by decide +kernel
theorem dX9_laySeries_42 : decode cX9_laySeries 42 = .ok (.iload_n 2, 1) := by decide +kernel
theorem dX9_laySeries_43 : decode cX9_laySeries 43 = .ok (.aload_n 0, 1) := by decide +kernel
theorem dX9_laySeries_44 : decode cX9_laySeries 44 = .ok (.getfield 47, 3) := by decide +kernel
theorem dX9_laySeries_47 : decode cX9_laySeries 47 = .ok (.iload_n 3, 1) := by decide +kernel
theorem dX9_laySeries_48 : decode cX9_laySeries 48 = .ok (.iaload, 1) := by decide +kernel
theorem dX9_laySeries_49 : decode cX9_laySeries 49 = .ok (.aload_n 0, 1) := by decide +kernel
theorem dX9_laySeries_50 : decode cX9_laySeries 50 = .ok (.getfield 47, 3) := by decide +kernel
theorem dX9_laySeries_53 : decode cX9_laySeries 53 = .ok (.iload_n 1, 1) := by decide +kernel
theorem dX9_laySeries_54 : decode cX9_laySeries 54 = .ok (.iload_n 3, 1) := by decide +kernel
theorem dX9_laySeries_55 : decode cX9_laySeries 55 = .ok (.isub, 1) := by decide +kernel
theorem dX9_laySeries_56 : decode cX9_laySeries 56 = .ok (.iaload, 1) := by decide +kernel
theorem dX9_laySeries_57 : decode cX9_laySeries 57 = .ok (.imul, 1) := by decide +kernel
theorem dX9_laySeries_58 : decode cX9_laySeries 58 = .ok (.isub, 1) := by decide +kernel
theorem dX9_laySeries_59 : decode cX9_laySeries 59 = .ok (.invokevirtual 85, 3) := by decide +kernel
theorem dX9_laySeries_62 : decode cX9_laySeries 62 = .ok (.istore_n 2, 1) := by decide +kernel
theorem dX9_laySeries_63 : decode cX9_laySeries 63 = .ok (.iinc 3 1, 3) := by decide +kernel
theorem dX9_laySeries_66 : decode cX9_laySeries 66 = .ok (.goto (-30), 3) := by decide +kernel
theorem dX9_laySeries_69 : decode cX9_laySeries 69 = .ok (.aload_n 0, 1) := by decide +kernel
theorem dX9_laySeries_70 : decode cX9_laySeries 70 = .ok (.getfield 47, 3) := by decide +kernel
theorem dX9_laySeries_73 : decode cX9_laySeries 73 = .ok (.iload_n 1, 1) := by decide +kernel
theorem dX9_laySeries_74 : decode cX9_laySeries 74 = .ok (.iload_n 1, 1) := by decide +kernel
theorem dX9_laySeries_75 : decode cX9_laySeries 75 = .ok (.ifCond .ne 7, 3) := by decide +kernel
theorem dX9_laySeries_78 : decode cX9_laySeries 78 = .ok (.iconst 1, 1) := by decide +kernel
theorem dX9_laySeries_79 : decode cX9_laySeries 79 = .ok (.goto 9, 3) := by decide +kernel
theorem dX9_laySeries_82 : decode cX9_laySeries 82 = .ok (.aload_n 0, 1) := by decide +kernel
theorem dX9_laySeries_83 : decode cX9_laySeries 83 = .ok (.iload_n 2, 1) := by decide +kernel
theorem dX9_laySeries_84 : decode cX9_laySeries 84 = .ok (.iconst 2, 1) := by decide +kernel
theorem dX9_laySeries_85 : decode cX9_laySeries 85 = .ok (.invokevirtual 78, 3) := by decide +kernel
theorem dX9_laySeries_88 : decode cX9_laySeries 88 = .ok (.iastore, 1) := by decide +kernel
theorem dX9_laySeries_89 : decode cX9_laySeries 89 = .ok (.iinc 1 1, 3) := by decide +kernel
theorem dX9_laySeries_92 : decode cX9_laySeries 92 = .ok (.goto (-90), 3) := by decide +kernel
theorem dX9_laySeries_95 : decode cX9_laySeries 95 = .ok (.return_, 1) := by decide +kernel
theorem ip_wsX9_lay__wsX9_lay_r1 : ∀ w ∈ wsX9_lay_r1, w ∈ wsX9_lay := fun _ h => (List.mem_cons_of_mem _ (List.mem_append_left _ (List.mem_append_left _ h)))
theorem ip_wsX9_lay__wsX9_lay_r2 : ∀ w ∈ wsX9_lay_r2, w ∈ wsX9_lay := fun _ h => (List.mem_cons_of_mem _ (List.mem_append_left _ (List.mem_append_right _ (List.mem_append_left _ h))))
theorem ip_wsX9_lay__wsX9_lay_r3 : ∀ w ∈ wsX9_lay_r3, w ∈ wsX9_lay := fun _ h => (List.mem_cons_of_mem _ (List.mem_append_left _ (List.mem_append_right _ (List.mem_append_right _ (List.mem_append_left _ h)))))
theorem ip_wsX9_lay__wsX9_lay_r4 : ∀ w ∈ wsX9_lay_r4, w ∈ wsX9_lay := fun _ h => (List.mem_cons_of_mem _ (List.mem_append_left _ (List.mem_append_right _ (List.mem_append_right _ (List.mem_append_right _ h)))))
set_option maxRecDepth 20000 in
theorem ggX9_lay_X9_layCubic : GoodIn wsX9_lay wsX9_layCubic := goodIn_sub (List.forall_mem_cons.mpr ⟨(ip_wsX9_lay__wsX9_lay_r1 _ (List.mem_of_getElem? (i := 9) rfl)), (x_ap2 (x_ap2 (show ∀ w ∈ wsX9_layCubic_r1, w ∈ wsX9_lay from (List.forall_mem_cons.mpr ⟨(ip_wsX9_lay__wsX9_lay_r1 _ (List.mem_of_getElem? (i := 10) rfl)), (List.forall_mem_cons.mpr ⟨(ip_wsX9_lay__wsX9_lay_r1 _ (List.mem_of_getElem? (i := 1) rfl)), (List.forall_mem_cons.mpr ⟨(ip_wsX9_lay__wsX9_lay_r1 _ (List.mem_of_getElem? (i := 11) rfl)), (List.forall_mem_cons.mpr ⟨(ip_wsX9_lay__wsX9_lay_r1 _ (List.mem_of_getElem? (i := 12) rfl)), (List.forall_mem_cons.mpr ⟨(ip_wsX9_lay__wsX9_lay_r1 _ (List.mem_of_getElem? (i := 13) rfl)), (List.forall_mem_cons.mpr ⟨(ip_wsX9_lay__wsX9_lay_r1 _ (List.mem_of_getElem? (i := 14) rfl)), (List.forall_mem_cons.mpr ⟨(ip_wsX9_lay__wsX9_lay_r1 _ (List.mem_of_getElem? (i := 8) rfl)), (List.forall_mem_cons.mpr ⟨(ip_wsX9_lay__wsX9_lay_r1 _ (List.mem_of_getElem? (i := 15) rfl)), (List.forall_mem_cons.mpr ⟨(ip_wsX9_lay__wsX9_lay_r1 _ (List.mem_of_getElem? (i := 16) rfl)), (List.forall_mem_cons.mpr ⟨(ip_wsX9_lay__wsX9_lay_r1 _ (List.mem_of_getElem? (i := 17) rfl)), (List.forall_mem_cons.mpr ⟨(ip_wsX9_lay__wsX9_lay_r1 _ (List.mem_of_getElem? (i := 18) rfl)), (List.forall_mem_cons.mpr ⟨(ip_wsX9_lay__wsX9_lay_r1 _ (List.mem_of_getElem? (i := 19) rfl)), (List.forall_mem_cons.mpr ⟨(ip_wsX9_lay__wsX9_lay_r1 _ (List.mem_of_getElem? (i := 20) rfl)), (List.forall_mem_cons.mpr ⟨(ip_wsX9_lay__wsX9_lay_r1 _ (List.mem_of_getElem? (i := 21) rfl)), (List.forall_mem_cons.mpr ⟨(ip_wsX9_lay__wsX9_lay_r1 _ (List.mem_of_getElem? (i := 22) rfl)), (List.forall_mem_cons.mpr ⟨(ip_wsX9_lay__wsX9_lay_r1 _ (List.mem_of_getElem? (i := 23) rfl)), (List.forall_mem_cons.mpr ⟨(ip_wsX9_lay__wsX9_lay_r2 _ (List.mem_of_getElem? (i := 0) rfl)), (List.forall_mem_cons.mpr ⟨(ip_wsX9_lay__wsX9_lay_r2 _ (List.mem_of_getElem? (i := 1) rfl)), (List.forall_mem_cons.mpr ⟨(ip_wsX9_lay__wsX9_lay_r2 _ (List.mem_of_getElem? (i := 2) rfl)), (List.forall_mem_cons.mpr ⟨(ip_wsX9_lay__wsX9_lay_r2 _ (List.mem_of_getElem? (i := 3) rfl)), (List.forall_mem_cons.mpr ⟨(ip_wsX9_lay__wsX9_lay_r2 _ (List.mem_of_getElem? (i := 4) rfl)), (List.forall_mem_cons.mpr ⟨(ip_wsX9_lay__wsX9_lay_r2 _ (List.mem_of_getElem? (i := 5) rfl)), (List.forall_mem_cons.mpr ⟨(ip_wsX9_lay__wsX9_lay_r2 _ (List.mem_of_getElem? (i := 6) rfl)), (List.forall_mem_cons.mpr ⟨(ip_wsX9_lay__wsX9_lay_r2 _ (List.mem_of_getElem? (i := 7) rfl)), (fun _ h => absurd h List.not_mem_nil)⟩)⟩)⟩)⟩)⟩)⟩)⟩)⟩)⟩)⟩)⟩)⟩)⟩)⟩)⟩)⟩)⟩)⟩)⟩)⟩)⟩)⟩)⟩)⟩)) (show ∀ w ∈ wsX9_layCubic_r2, w ∈ wsX9_lay from (List.forall_mem_cons.mpr ⟨(ip_wsX9_lay__wsX9_lay_r2 _ (List.mem_of_getElem? (i := 8) rfl)), (fun _ h => absurd h List.not_mem_nil)⟩))) (fun _ h => (List.mem_cons_of_mem _ (List.mem_append_right _ h))))⟩) (by decide +kernel)
set_option maxRecDepth 20000 in
theorem gX9_lay_X9_layCubic : GoodIn wsX9_lay (wsV RX9 96 RX9 yX9_layCubic wsX9_layCubic) := goodIn_app (goodIn_of _ (by decide +kernel)) ggX9_lay_X9_layCubic
set_option maxRecDepth 20000 in
theorem ggX9_lay_X9_discriminant : GoodIn wsX9_lay wsX9_discriminant := goodIn_sub (List.forall_mem_cons.mpr ⟨(ip_wsX9_lay__wsX9_lay_r2 _ (List.mem_of_getElem? (i := 12) rfl)), (x_ap2 (List.forall_mem_cons.mpr ⟨(ip_wsX9_lay__wsX9_lay_r1 _ (List.mem_of_getElem? (i := 1) rfl)), (List.forall_mem_cons.mpr ⟨(ip_wsX9_lay__wsX9_lay_r1 _ (List.mem_of_getElem? (i := 11) rfl)), (List.forall_mem_cons.mpr ⟨(ip_wsX9_lay__wsX9_lay_r1 _ (List.mem_of_getElem? (i := 17) rfl)), (List.forall_mem_cons.mpr ⟨(ip_wsX9_lay__wsX9_lay_r1 _ (List.mem_of_getElem? (i := 18) rfl)), (List.forall_mem_cons.mpr ⟨(ip_wsX9_lay__wsX9_lay_r1 _ (List.mem_of_getElem? (i := 19) rfl)), (List.forall_mem_cons.mpr ⟨(ip_wsX9_lay__wsX9_lay_r1 _ (List.mem_of_getElem? (i := 8) rfl)), (List.forall_mem_cons.mpr ⟨(ip_wsX9_lay__wsX9_lay_r1 _ (List.mem_of_getElem? (i := 20) rfl)), (fun _ h => absurd h List.not_mem_nil)⟩)⟩)⟩)⟩)⟩)⟩)⟩) (fun _ h => (List.mem_cons_of_mem _ (List.mem_append_right _ h))))⟩) (by decide +kernel)
set_option maxRecDepth 20000 in
theorem gX9_lay_X9_discriminant : GoodIn wsX9_lay (wsV RX9 99 RX9 yX9_discriminant wsX9_discriminant) := goodIn_app (goodIn_of _ (by decide +kernel)) ggX9_lay_X9_discriminant
set_option maxRecDepth 20000 in
theorem ggX9_lay_X9_layPoints : GoodIn wsX9_lay wsX9_layPoints := goodIn_sub (List.forall_mem_cons.mpr ⟨(ip_wsX9_lay__wsX9_lay_r2 _ (List.mem_of_getElem? (i := 16) rfl)), (x_ap2 (List.forall_mem_cons.mpr ⟨(ip_wsX9_lay__wsX9_lay_r2 _ (List.mem_of_getElem? (i := 17) rfl)), (List.forall_mem_cons.mpr ⟨(ip_wsX9_lay__wsX9_lay_r1 _ (List.mem_of_getElem? (i := 11) rfl)), (List.forall_mem_cons.mpr ⟨(ip_wsX9_lay__wsX9_lay_r1 _ (List.mem_of_getElem? (i := 10) rfl)), (List.forall_mem_cons.mpr ⟨(ip_wsX9_lay__wsX9_lay_r2 _ (List.mem_of_getElem? (i := 18) rfl)), (List.forall_mem_cons.mpr ⟨(ip_wsX9_lay__wsX9_lay_r2 _ (List.mem_of_getElem? (i := 19) rfl)), (List.forall_mem_cons.mpr ⟨(ip_wsX9_lay__wsX9_lay_r2 _ (List.mem_of_getElem? (i := 20) rfl)), (List.forall_mem_cons.mpr ⟨(ip_wsX9_lay__wsX9_lay_r2 _ (List.mem_of_getElem? (i := 21) rfl)), (List.forall_mem_cons.mpr ⟨(ip_wsX9_lay__wsX9_lay_r2 _ (List.mem_of_getElem? (i := 22) rfl)), (List.forall_mem_cons.mpr ⟨(ip_wsX9_lay__wsX9_lay_r2 _ (List.mem_of_getElem? (i := 23) rfl)), (List.forall_mem_cons.mpr ⟨(ip_wsX9_lay__wsX9_lay_r1 _ (List.mem_of_getElem? (i := 8) rfl)), (List.forall_mem_cons.mpr ⟨(ip_wsX9_lay__wsX9_lay_r3 _ (List.mem_of_getElem? (i := 0) rfl)), (List.forall_mem_cons.mpr ⟨(ip_wsX9_lay__wsX9_lay_r1 _ (List.mem_of_getElem? (i := 17) rfl)), (List.forall_mem_cons.mpr ⟨(ip_wsX9_lay__wsX9_lay_r1 _ (List.mem_of_getElem? (i := 18) rfl)), (List.forall_mem_cons.mpr ⟨(ip_wsX9_lay__wsX9_lay_r1 _ (List.mem_of_getElem? (i := 19) rfl)), (List.forall_mem_cons.mpr ⟨(ip_wsX9_lay__wsX9_lay_r1 _ (List.mem_of_getElem? (i := 20) rfl)), (fun _ h => absurd h List.not_mem_nil)⟩)⟩)⟩)⟩)⟩)⟩)⟩)⟩)⟩)⟩)⟩)⟩)⟩)⟩)⟩) (fun _ h => (List.mem_cons_of_mem _ (List.mem_append_right _ h))))⟩) (by decide +kernel)
set_option maxRecDepth 20000 in
theorem gX9_lay_X9_layPoints : GoodIn wsX9_lay (wsV RX9 154 RX9 yX9_layPoints wsX9_layPoints) := goodIn_app (goodIn_of _ (by decide +kernel)) ggX9_lay_X9_layPoints
set_option maxRecDepth 20000 in
theorem ggX9_lay_X9_layFlags : GoodIn wsX9_lay wsX9_layFlags := goodIn_sub (List.forall_mem_cons.mpr ⟨(ip_wsX9_lay__wsX9_lay_r3 _ (List.mem_of_getElem? (i := 4) rfl)), (x_ap2 (x_ap2 (show ∀ w ∈ wsX9_layFlags_r1, w ∈ wsX9_lay from (List.forall_mem_cons.mpr ⟨(ip_wsX9_lay__wsX9_lay_r1 _ (List.mem_of_getElem? (i := 10) rfl)), (List.forall_mem_cons.mpr ⟨(ip_wsX9_lay__wsX9_lay_r1 _ (List.mem_of_getElem? (i := 3) rfl)), (List.forall_mem_cons.mpr ⟨(ip_wsX9_lay__wsX9_lay_r2 _ (List.mem_of_getElem? (i := 17) rfl)), (List.forall_mem_cons.mpr ⟨(ip_wsX9_lay__wsX9_lay_r2 _ (List.mem_of_getElem? (i := 18) rfl)), (List.forall_mem_cons.mpr ⟨(ip_wsX9_lay__wsX9_lay_r2 _ (List.mem_of_getElem? (i := 19) rfl)), (List.forall_mem_cons.mpr ⟨(ip_wsX9_lay__wsX9_lay_r2 _ (List.mem_of_getElem? (i := 20) rfl)), (List.forall_mem_cons.mpr ⟨(ip_wsX9_lay__wsX9_lay_r1 _ (List.mem_of_getElem? (i := 11) rfl)), (List.forall_mem_cons.mpr ⟨(ip_wsX9_lay__wsX9_lay_r1 _ (List.mem_of_getElem? (i := 16) rfl)), (List.forall_mem_cons.mpr ⟨(ip_wsX9_lay__wsX9_lay_r3 _ (List.mem_of_getElem? (i := 5) rfl)), (List.forall_mem_cons.mpr ⟨(ip_wsX9_lay__wsX9_lay_r3 _ (List.mem_of_getElem? (i := 6) rfl)), (List.forall_mem_cons.mpr ⟨(ip_wsX9_lay__wsX9_lay_r3 _ (List.mem_of_getElem? (i := 7) rfl)), (List.forall_mem_cons.mpr ⟨(ip_wsX9_lay__wsX9_lay_r3 _ (List.mem_of_getElem? (i := 8) rfl)), (List.forall_mem_cons.mpr ⟨(ip_wsX9_lay__wsX9_lay_r1 _ (List.mem_of_getElem? (i := 12) rfl)), (List.forall_mem_cons.mpr ⟨(ip_wsX9_lay__wsX9_lay_r1 _ (List.mem_of_getElem? (i := 13) rfl)), (List.forall_mem_cons.mpr ⟨(ip_wsX9_lay__wsX9_lay_r1 _ (List.mem_of_getElem? (i := 14) rfl)), (List.forall_mem_cons.mpr ⟨(ip_wsX9_lay__wsX9_lay_r1 _ (List.mem_of_getElem? (i := 8) rfl)), (List.forall_mem_cons.mpr ⟨(ip_wsX9_lay__wsX9_lay_r1 _ (List.mem_of_getElem? (i := 15) rfl)), (List.forall_mem_cons.mpr ⟨(ip_wsX9_lay__wsX9_lay_r1 _ (List.mem_of_getElem? (i := 17) rfl)), (List.forall_mem_cons.mpr ⟨(ip_wsX9_lay__wsX9_lay_r1 _ (List.mem_of_getElem? (i := 18) rfl)), (List.forall_mem_cons.mpr ⟨(ip_wsX9_lay__wsX9_lay_r1 _ (List.mem_of_getElem? (i := 19) rfl)), (List.forall_mem_cons.mpr ⟨(ip_wsX9_lay__wsX9_lay_r1 _ (List.mem_of_getElem? (i := 20) rfl)), (List.forall_mem_cons.mpr ⟨(ip_wsX9_lay__wsX9_lay_r3 _ (List.mem_of_getElem? (i := 9) rfl)), (List.forall_mem_cons.mpr ⟨(ip_wsX9_lay__wsX9_lay_r3 _ (List.mem_of_getElem? (i := 10) rfl)), (List.forall_mem_cons.mpr ⟨(ip_wsX9_lay__wsX9_lay_r3 _ (List.mem_of_getElem? (i := 11) rfl)), (fun _ h => absurd h List.not_mem_nil)⟩)⟩)⟩)⟩)⟩)⟩)⟩)⟩)⟩)⟩)⟩)⟩)⟩)⟩)⟩)⟩)⟩)⟩)⟩)⟩)⟩)⟩)⟩)⟩)) (x_ap2 (show ∀ w ∈ wsX9_layFlags_r2, w ∈ wsX9_lay from (List.forall_mem_cons.mpr ⟨(ip_wsX9_lay__wsX9_lay_r3 _ (List.mem_of_getElem? (i := 12) rfl)), (List.forall_mem_cons.mpr ⟨(ip_wsX9_lay__wsX9_lay_r2 _ (List.mem_of_getElem? (i := 1) rfl)), (List.forall_mem_cons.mpr ⟨(ip_wsX9_lay__wsX9_lay_r2 _ (List.mem_of_getElem? (i := 2) rfl)), (List.forall_mem_cons.mpr ⟨(ip_wsX9_lay__wsX9_lay_r2 _ (List.mem_of_getElem? (i := 3) rfl)), (List.forall_mem_cons.mpr ⟨(ip_wsX9_lay__wsX9_lay_r2 _ (List.mem_of_getElem? (i := 4) rfl)), (List.forall_mem_cons.mpr ⟨(ip_wsX9_lay__wsX9_lay_r2 _ (List.mem_of_getElem? (i := 5) rfl)), (List.forall_mem_cons.mpr ⟨(ip_wsX9_lay__wsX9_lay_r2 _ (List.mem_of_getElem? (i := 6) rfl)), (List.forall_mem_cons.mpr ⟨(ip_wsX9_lay__wsX9_lay_r2 _ (List.mem_of_getElem? (i := 7) rfl)), (List.forall_mem_cons.mpr ⟨(ip_wsX9_lay__wsX9_lay_r2 _ (List.mem_of_getElem? (i := 8) rfl)), (List.forall_mem_cons.mpr ⟨(ip_wsX9_lay__wsX9_lay_r2 _ (List.mem_of_getElem? (i := 21) rfl)), (List.forall_mem_cons.mpr ⟨(ip_wsX9_lay__wsX9_lay_r2 _ (List.mem_of_getElem? (i := 22) rfl)), (List.forall_mem_cons.mpr ⟨(ip_wsX9_lay__wsX9_lay_r2 _ (List.mem_of_getElem? (i := 23) rfl)), (List.forall_mem_cons.mpr ⟨(ip_wsX9_lay__wsX9_lay_r3 _ (List.mem_of_getElem? (i := 0) rfl)), (List.forall_mem_cons.mpr ⟨(ip_wsX9_lay__wsX9_lay_r3 _ (List.mem_of_getElem? (i := 13) rfl)), (List.forall_mem_cons.mpr ⟨(ip_wsX9_lay__wsX9_lay_r3 _ (List.mem_of_getElem? (i := 14) rfl)), (List.forall_mem_cons.mpr ⟨(ip_wsX9_lay__wsX9_lay_r3 _ (List.mem_of_getElem? (i := 15) rfl)), (List.forall_mem_cons.mpr ⟨(ip_wsX9_lay__wsX9_lay_r3 _ (List.mem_of_getElem? (i := 16) rfl)), (List.forall_mem_cons.mpr ⟨(ip_wsX9_lay__wsX9_lay_r3 _ (List.mem_of_getElem? (i := 17) rfl)), (List.forall_mem_cons.mpr ⟨(ip_wsX9_lay__wsX9_lay_r3 _ (List.mem_of_getElem? (i := 18) rfl)), (List.forall_mem_cons.mpr ⟨(ip_wsX9_lay__wsX9_lay_r3 _ (List.mem_of_getElem? (i := 19) rfl)), (List.forall_mem_cons.mpr ⟨(ip_wsX9_lay__wsX9_lay_r3 _ (List.mem_of_getElem? (i := 20) rfl)), (List.forall_mem_cons.mpr ⟨(ip_wsX9_lay__wsX9_lay_r3 _ (List.mem_of_getElem? (i := 21) rfl)), (List.forall_mem_cons.mpr ⟨(ip_wsX9_lay__wsX9_lay_r3 _ (List.mem_of_getElem? (i := 22) rfl)), (List.forall_mem_cons.mpr ⟨(ip_wsX9_lay__wsX9_lay_r3 _ (List.mem_of_getElem? (i := 23) rfl)), (fun _ h => absurd h List.not_mem_nil)⟩)⟩)⟩)⟩)⟩)⟩)⟩)⟩)⟩)⟩)⟩)⟩)⟩)⟩)⟩)⟩)⟩)⟩)⟩)⟩)⟩)⟩)⟩)⟩)) (show ∀ w ∈ wsX9_layFlags_r3, w ∈ wsX9_lay from (List.forall_mem_cons.mpr ⟨(ip_wsX9_lay__wsX9_lay_r4 _ (List.mem_of_getElem? (i := 0) rfl)), (fun _ h => absurd h List.not_mem_nil)⟩)))) (fun _ h => (List.mem_cons_of_mem _ (List.mem_append_right _ h))))⟩) (by decide +kernel)
set_option maxRecDepth 20000 in
theorem gX9_lay_X9_layFlags : GoodIn wsX9_lay (wsV RX9 157 RX9 yX9_layFlags wsX9_layFlags) := goodIn_app (goodIn_of _ (by decide +kernel)) ggX9_lay_X9_layFlags
set_option maxRecDepth 20000 in
theorem ggX9_lay_X9_stepOf : GoodIn wsX9_lay wsX9_stepOf := goodIn_sub (List.forall_mem_cons.mpr ⟨(ip_wsX9_lay__wsX9_lay_r4 _ (List.mem_of_getElem? (i := 4) rfl)), (x_ap2 (List.forall_mem_cons.mpr ⟨(ip_wsX9_lay__wsX9_lay_r3 _ (List.mem_of_getElem? (i := 20) rfl)), (List.forall_mem_cons.mpr ⟨(ip_wsX9_lay__wsX9_lay_r2 _ (List.mem_of_getElem? (i := 17) rfl)), (List.forall_mem_cons.mpr ⟨(ip_wsX9_lay__wsX9_lay_r1 _ (List.mem_of_getElem? (i := 3) rfl)), (List.forall_mem_cons.mpr ⟨(ip_wsX9_lay__wsX9_lay_r3 _ (List.mem_of_getElem? (i := 17) rfl)), (List.forall_mem_cons.mpr ⟨(ip_wsX9_lay__wsX9_lay_r3 _ (List.mem_of_getElem? (i := 18) rfl)), (List.forall_mem_cons.mpr ⟨(ip_wsX9_lay__wsX9_lay_r3 _ (List.mem_of_getElem? (i := 19) rfl)), (List.forall_mem_cons.mpr ⟨(ip_wsX9_lay__wsX9_lay_r4 _ (List.mem_of_getElem? (i := 5) rfl)), (List.forall_mem_cons.mpr ⟨(ip_wsX9_lay__wsX9_lay_r4 _ (List.mem_of_getElem? (i := 6) rfl)), (List.forall_mem_cons.mpr ⟨(ip_wsX9_lay__wsX9_lay_r4 _ (List.mem_of_getElem? (i := 7) rfl)), (List.forall_mem_cons.mpr ⟨(ip_wsX9_lay__wsX9_lay_r1 _ (List.mem_of_getElem? (i := 8) rfl)), (List.forall_mem_cons.mpr ⟨(ip_wsX9_lay__wsX9_lay_r4 _ (List.mem_of_getElem? (i := 8) rfl)), (List.forall_mem_cons.mpr ⟨(ip_wsX9_lay__wsX9_lay_r2 _ (List.mem_of_getElem? (i := 18) rfl)), (List.forall_mem_cons.mpr ⟨(ip_wsX9_lay__wsX9_lay_r2 _ (List.mem_of_getElem? (i := 19) rfl)), (List.forall_mem_cons.mpr ⟨(ip_wsX9_lay__wsX9_lay_r2 _ (List.mem_of_getElem? (i := 20) rfl)), (List.forall_mem_cons.mpr ⟨(ip_wsX9_lay__wsX9_lay_r1 _ (List.mem_of_getElem? (i := 17) rfl)), (List.forall_mem_cons.mpr ⟨(ip_wsX9_lay__wsX9_lay_r1 _ (List.mem_of_getElem? (i := 18) rfl)), (List.forall_mem_cons.mpr ⟨(ip_wsX9_lay__wsX9_lay_r1 _ (List.mem_of_getElem? (i := 19) rfl)), (List.forall_mem_cons.mpr ⟨(ip_wsX9_lay__wsX9_lay_r1 _ (List.mem_of_getElem? (i := 20) rfl)), (List.forall_mem_cons.mpr ⟨(ip_wsX9_lay__wsX9_lay_r1 _ (List.mem_of_getElem? (i := 11) rfl)), (fun _ h => absurd h List.not_mem_nil)⟩)⟩)⟩)⟩)⟩)⟩)⟩)⟩)⟩)⟩)⟩)⟩)⟩)⟩)⟩)⟩)⟩)⟩)⟩) (fun _ h => (List.mem_cons_of_mem _ (List.mem_append_right _ h))))⟩) (by decide +kernel)
set_option maxRecDepth 20000 in
theorem gX9_lay_X9_stepOf : GoodIn wsX9_lay (wsV RX9 160 RX9 yX9_stepOf wsX9_stepOf) := goodIn_app (goodIn_of _ (by decide +kernel)) ggX9_lay_X9_stepOf
set_option maxRecDepth 20000 in
theorem ggX9_lay_X9_laySeries : GoodIn wsX9_lay wsX9_laySeries := goodIn_sub (List.forall_mem_cons.mpr ⟨(ip_wsX9_lay__wsX9_lay_r4 _ (List.mem_of_getElem? (i := 12) rfl)), (x_ap2 (List.forall_mem_cons.mpr ⟨(ip_wsX9_lay__wsX9_lay_r1 _ (List.mem_of_getElem? (i := 1) rfl)), (List.forall_mem_cons.mpr ⟨(ip_wsX9_lay__wsX9_lay_r4 _ (List.mem_of_getElem? (i := 13) rfl)), (List.forall_mem_cons.mpr ⟨(ip_wsX9_lay__wsX9_lay_r2 _ (List.mem_of_getElem? (i := 1) rfl)), (List.forall_mem_cons.mpr ⟨(ip_wsX9_lay__wsX9_lay_r2 _ (List.mem_of_getElem? (i := 2) rfl)), (List.forall_mem_cons.mpr ⟨(ip_wsX9_lay__wsX9_lay_r2 _ (List.mem_of_getElem? (i := 3) rfl)), (List.forall_mem_cons.mpr ⟨(ip_wsX9_lay__wsX9_lay_r1 _ (List.mem_of_getElem? (i := 8) rfl)), (List.forall_mem_cons.mpr ⟨(ip_wsX9_lay__wsX9_lay_r2 _ (List.mem_of_getElem? (i := 4) rfl)), (List.forall_mem_cons.mpr ⟨(ip_wsX9_lay__wsX9_lay_r1 _ (List.mem_of_getElem? (i := 11) rfl)), (List.forall_mem_cons.mpr ⟨(ip_wsX9_lay__wsX9_lay_r2 _ (List.mem_of_getElem? (i := 5) rfl)), (List.forall_mem_cons.mpr ⟨(ip_wsX9_lay__wsX9_lay_r2 _ (List.mem_of_getElem? (i := 6) rfl)), (List.forall_mem_cons.mpr ⟨(ip_wsX9_lay__wsX9_lay_r2 _ (List.mem_of_getElem? (i := 7) rfl)), (List.forall_mem_cons.mpr ⟨(ip_wsX9_lay__wsX9_lay_r2 _ (List.mem_of_getElem? (i := 8) rfl)), (List.forall_mem_cons.mpr ⟨(ip_wsX9_lay__wsX9_lay_r1 _ (List.mem_of_getElem? (i := 17) rfl)), (List.forall_mem_cons.mpr ⟨(ip_wsX9_lay__wsX9_lay_r1 _ (List.mem_of_getElem? (i := 18) rfl)), (List.forall_mem_cons.mpr ⟨(ip_wsX9_lay__wsX9_lay_r1 _ (List.mem_of_getElem? (i := 19) rfl)), (List.forall_mem_cons.mpr ⟨(ip_wsX9_lay__wsX9_lay_r1 _ (List.mem_of_getElem? (i := 20) rfl)), (fun _ h => absurd h List.not_mem_nil)⟩)⟩)⟩)⟩)⟩)⟩)⟩)⟩)⟩)⟩)⟩)⟩)⟩)⟩)⟩)⟩) (fun _ h => (List.mem_cons_of_mem _ (List.mem_append_right _ h))))⟩) (by decide +kernel)
set_option maxRecDepth 20000 in
theorem gX9_lay_X9_laySeries : GoodIn wsX9_lay (wsV RX9 163 RX9 yX9_laySeries wsX9_laySeries) := goodIn_app (goodIn_of _ (by decide +kernel)) ggX9_lay_X9_laySeries
theorem dX9_lay_0 : decode cX9_lay 0 = .ok (.aload_n 0, 1) := by decide +kernel
theorem dX9_lay_1 : decode cX9_lay 1 = .ok (.getfield 66, 3) := by decide +kernel
theorem dX9_lay_4 : decode cX9_lay 4 = .ok (.ifCond .eq 4, 3) := by decide +kernel
theorem dX9_lay_7 : decode cX9_lay 7 = .ok (.return_, 1) := by decide +kernel
theorem dX9_lay_8 : decode cX9_lay 8 = .ok (.aload_n 0, 1) := by decide +kernel
theorem dX9_lay_9 : decode cX9_lay 9 = .ok (.iconst 1, 1) := by decide +kernel
theorem dX9_lay_10 : decode cX9_lay 10 = .ok (.putfield 66, 3) := by decide +kernel
theorem dX9_lay_13 : decode cX9_lay 13 = .ok (.aload_n 0, 1) := by decide +kernel
theorem dX9_lay_14 : decode cX9_lay 14 = .ok (.invokevirtual 96, 3) := by decide +kernel
theorem dX9_lay_17 : decode cX9_lay 17 = .ok (.aload_n 0, 1) := by decide +kernel
theorem dX9_lay_18 : decode cX9_lay 18 = .ok (.aload_n 0, 1) := by decide +kernel
theorem dX9_lay_19 : decode cX9_lay 19 = .ok (.getfield 17, 3) := by decide +kernel
theorem dX9_lay_22 : decode cX9_lay 22 = .ok (.iconst 0, 1) := by decide +kernel
theorem dX9_lay_23 : decode cX9_lay 23 = .ok (.iaload, 1) := by decide +kernel
theorem dX9_lay_24 : decode cX9_lay 24 = .ok (.ifCond .eq 23, 3) := by decide +kernel
theorem dX9_lay_27 : decode cX9_lay 27 = .ok (.aload_n 0, 1) := by decide +kernel
theorem dX9_lay_28 : decode cX9_lay 28 = .ok (.getfield 17, 3) := by decide +kernel
theorem dX9_lay_31 : decode cX9_lay 31 = .ok (.iconst 3, 1) := by decide +kernel
theorem dX9_lay_32 : decode cX9_lay 32 = .ok (.iaload, 1) := by decide +kernel
theorem dX9_lay_33 : decode cX9_lay 33 = .ok (.ifCond .eq 14, 3) := by decide +kernel
theorem dX9_lay_36 : decode cX9_lay 36 = .ok (.aload_n 0, 1) := by decide +kernel
theorem dX9_lay_37 : decode cX9_lay 37 = .ok (.invokevirtual 99, 3) := by decide +kernel
theorem dX9_lay_40 : decode cX9_lay 40 = .ok (.ifCond .eq 7, 3) := by decide +kernel
theorem dX9_lay_43 : decode cX9_lay 43 = .ok (.iconst 1, 1) := by decide +kernel
theorem dX9_lay_44 : decode cX9_lay 44 = .ok (.goto 4, 3) := by decide +kernel
theorem dX9_lay_47 : decode cX9_lay 47 = .ok (.iconst 0, 1) := by decide +kernel
theorem dX9_lay_48 : decode cX9_lay 48 = .ok (.putfield 106, 3) := by decide +kernel
theorem dX9_lay_51 : decode cX9_lay 51 = .ok (.aload_n 0, 1) := by decide +kernel
theorem dX9_lay_52 : decode cX9_lay 52 = .ok (.getfield 106, 3) := by decide +kernel
theorem dX9_lay_55 : decode cX9_lay 55 = .ok (.ifCond .ne 4, 3) := by decide +kernel
theorem dX9_lay_58 : decode cX9_lay 58 = .ok (.return_, 1) := by decide +kernel
theorem dX9_lay_59 : decode cX9_lay 59 = .ok (.aload_n 0, 1) := by decide +kernel
theorem dX9_lay_60 : decode cX9_lay 60 = .ok (.invokevirtual 154, 3) := by decide +kernel
theorem dX9_lay_63 : decode cX9_lay 63 = .ok (.aload_n 0, 1) := by decide +kernel
theorem dX9_lay_64 : decode cX9_lay 64 = .ok (.invokevirtual 157, 3) := by decide +kernel
theorem dX9_lay_67 : decode cX9_lay 67 = .ok (.iconst 0, 1) := by decide +kernel
theorem dX9_lay_68 : decode cX9_lay 68 = .ok (.istore_n 1, 1) := by decide +kernel
theorem dX9_lay_69 : decode cX9_lay 69 = .ok (.iload_n 1, 1) := by decide +kernel
theorem dX9_lay_70 : decode cX9_lay 70 = .ok (.aload_n 0, 1) := by decide +kernel
theorem dX9_lay_71 : decode cX9_lay 71 = .ok (.getfield 140, 3) := by decide +kernel
theorem dX9_lay_74 : decode cX9_lay 74 = .ok (.if_icmp .ge 20, 3) := by decide +kernel
theorem dX9_lay_77 : decode cX9_lay 77 = .ok (.aload_n 0, 1) := by decide +kernel
theorem dX9_lay_78 : decode cX9_lay 78 = .ok (.getfield 44, 3) := by decide +kernel
theorem dX9_lay_81 : decode cX9_lay 81 = .ok (.iload_n 1, 1) := by decide +kernel
theorem dX9_lay_82 : decode cX9_lay 82 = .ok (.aload_n 0, 1) := by decide +kernel
theorem dX9_lay_83 : decode cX9_lay 83 = .ok (.iload_n 1, 1) := by decide +kernel
theorem dX9_lay_84 : decode cX9_lay 84 = .ok (.invokevirtual 160, 3) := by decide +kernel
theorem dX9_lay_87 : decode cX9_lay 87 = .ok (.iastore, 1) := by decide +kernel
theorem dX9_lay_88 : decode cX9_lay 88 = .ok (.iinc 1 1, 3) := by decide +kernel
theorem dX9_lay_91 : decode cX9_lay 91 = .ok (.goto (-22), 3) := by decide +kernel
theorem dX9_lay_94 : decode cX9_lay 94 = .ok (.aload_n 0, 1) := by decide +kernel
theorem dX9_lay_95 : decode cX9_lay 95 = .ok (.invokevirtual 163, 3) := by decide +kernel
theorem dX9_lay_98 : decode cX9_lay 98 = .ok (.return_, 1) := by decide +kernel
theorem ip_wsX9_points__wsX9_points_r1 : ∀ w ∈ wsX9_points_r1, w ∈ wsX9_points := fun _ h => (List.mem_cons_of_mem _ (List.mem_append_left _ (List.mem_append_left _ h)))
theorem ip_wsX9_points__wsX9_points_r2 : ∀ w ∈ wsX9_points_r2, w ∈ wsX9_points := fun _ h => (List.mem_cons_of_mem _ (List.mem_append_left _ (List.mem_append_right _ (List.mem_append_left _ h))))
theorem ip_wsX9_points__wsX9_points_r3 : ∀ w ∈ wsX9_points_r3, w ∈ wsX9_points := fun _ h => (List.mem_cons_of_mem _ (List.mem_append_left _ (List.mem_append_right _ (List.mem_append_right _ (List.mem_append_left _ h)))))
theorem ip_wsX9_points__wsX9_points_r4 : ∀ w ∈ wsX9_points_r4, w ∈ wsX9_points := fun _ h => (List.mem_cons_of_mem _ (List.mem_append_left _ (List.mem_append_right _ (List.mem_append_right _ (List.mem_append_right _ h)))))
set_option maxRecDepth 20000 in
theorem ggX9_points_X9_isGood : GoodIn wsX9_points wsX9_isGood := goodIn_sub (List.forall_mem_cons.mpr ⟨(ip_wsX9_points__wsX9_points_r1 _ (List.mem_of_getElem? (i := 5) rfl)), (x_ap2 (x_ap2 (show ∀ w ∈ wsX9_isGood_r1, w ∈ wsX9_points from (List.forall_mem_cons.mpr ⟨(ip_wsX9_points__wsX9_points_r1 _ (List.mem_of_getElem? (i := 6) rfl)), (List.forall_mem_cons.mpr ⟨(ip_wsX9_points__wsX9_points_r1 _ (List.mem_of_getElem? (i := 7) rfl)), (List.forall_mem_cons.mpr ⟨(ip_wsX9_points__wsX9_points_r1 _ (List.mem_of_getElem? (i := 8) rfl)), (List.forall_mem_cons.mpr ⟨(ip_wsX9_points__wsX9_points_r1 _ (List.mem_of_getElem? (i := 9) rfl)), (List.forall_mem_cons.mpr ⟨(ip_wsX9_points__wsX9_points_r1 _ (List.mem_of_getElem? (i := 4) rfl)), (List.forall_mem_cons.mpr ⟨(ip_wsX9_points__wsX9_points_r1 _ (List.mem_of_getElem? (i := 10) rfl)), (List.forall_mem_cons.mpr ⟨(ip_wsX9_points__wsX9_points_r1 _ (List.mem_of_getElem? (i := 11) rfl)), (List.forall_mem_cons.mpr ⟨(ip_wsX9_points__wsX9_points_r1 _ (List.mem_of_getElem? (i := 12) rfl)), (List.forall_mem_cons.mpr ⟨(ip_wsX9_points__wsX9_points_r1 _ (List.mem_of_getElem? (i := 13) rfl)), (List.forall_mem_cons.mpr ⟨(ip_wsX9_points__wsX9_points_r1 _ (List.mem_of_getElem? (i := 14) rfl)), (List.forall_mem_cons.mpr ⟨(ip_wsX9_points__wsX9_points_r1 _ (List.mem_of_getElem? (i := 15) rfl)), (List.forall_mem_cons.mpr ⟨(ip_wsX9_points__wsX9_points_r1 _ (List.mem_of_getElem? (i := 16) rfl)), (List.forall_mem_cons.mpr ⟨(ip_wsX9_points__wsX9_points_r1 _ (List.mem_of_getElem? (i := 17) rfl)), (List.forall_mem_cons.mpr ⟨(ip_wsX9_points__wsX9_points_r1 _ (List.mem_of_getElem? (i := 18) rfl)), (List.forall_mem_cons.mpr ⟨(ip_wsX9_points__wsX9_points_r1 _ (List.mem_of_getElem? (i := 19) rfl)), (List.forall_mem_cons.mpr ⟨(ip_wsX9_points__wsX9_points_r1 _ (List.mem_of_getElem? (i := 20) rfl)), (List.forall_mem_cons.mpr ⟨(ip_wsX9_points__wsX9_points_r1 _ (List.mem_of_getElem? (i := 21) rfl)), (List.forall_mem_cons.mpr ⟨(ip_wsX9_points__wsX9_points_r1 _ (List.mem_of_getElem? (i := 22) rfl)), (List.forall_mem_cons.mpr ⟨(ip_wsX9_points__wsX9_points_r1 _ (List.mem_of_getElem? (i := 23) rfl)), (List.forall_mem_cons.mpr ⟨(ip_wsX9_points__wsX9_points_r2 _ (List.mem_of_getElem? (i := 0) rfl)), (List.forall_mem_cons.mpr ⟨(ip_wsX9_points__wsX9_points_r2 _ (List.mem_of_getElem? (i := 1) rfl)), (List.forall_mem_cons.mpr ⟨(ip_wsX9_points__wsX9_points_r2 _ (List.mem_of_getElem? (i := 2) rfl)), (List.forall_mem_cons.mpr ⟨(ip_wsX9_points__wsX9_points_r2 _ (List.mem_of_getElem? (i := 3) rfl)), (List.forall_mem_cons.mpr ⟨(ip_wsX9_points__wsX9_points_r2 _ (List.mem_of_getElem? (i := 4) rfl)), (fun _ h => absurd h List.not_mem_nil)⟩)⟩)⟩)⟩)⟩)⟩)⟩)⟩)⟩)⟩)⟩)⟩)⟩)⟩)⟩)⟩)⟩)⟩)⟩)⟩)⟩)⟩)⟩)⟩)) (x_ap2 (show ∀ w ∈ wsX9_isGood_r2, w ∈ wsX9_points from (List.forall_mem_cons.mpr ⟨(ip_wsX9_points__wsX9_points_r2 _ (List.mem_of_getElem? (i := 5) rfl)), (List.forall_mem_cons.mpr ⟨(ip_wsX9_points__wsX9_points_r2 _ (List.mem_of_getElem? (i := 6) rfl)), (List.forall_mem_cons.mpr ⟨(ip_wsX9_points__wsX9_points_r2 _ (List.mem_of_getElem? (i := 7) rfl)), (List.forall_mem_cons.mpr ⟨(ip_wsX9_points__wsX9_points_r2 _ (List.mem_of_getElem? (i := 8) rfl)), (List.forall_mem_cons.mpr ⟨(ip_wsX9_points__wsX9_points_r2 _ (List.mem_of_getElem? (i := 9) rfl)), (List.forall_mem_cons.mpr ⟨(ip_wsX9_points__wsX9_points_r2 _ (List.mem_of_getElem? (i := 10) rfl)), (List.forall_mem_cons.mpr ⟨(ip_wsX9_points__wsX9_points_r2 _ (List.mem_of_getElem? (i := 11) rfl)), (List.forall_mem_cons.mpr ⟨(ip_wsX9_points__wsX9_points_r2 _ (List.mem_of_getElem? (i := 12) rfl)), (List.forall_mem_cons.mpr ⟨(ip_wsX9_points__wsX9_points_r2 _ (List.mem_of_getElem? (i := 13) rfl)), (List.forall_mem_cons.mpr ⟨(ip_wsX9_points__wsX9_points_r2 _ (List.mem_of_getElem? (i := 14) rfl)), (List.forall_mem_cons.mpr ⟨(ip_wsX9_points__wsX9_points_r2 _ (List.mem_of_getElem? (i := 15) rfl)), (List.forall_mem_cons.mpr ⟨(ip_wsX9_points__wsX9_points_r2 _ (List.mem_of_getElem? (i := 16) rfl)), (List.forall_mem_cons.mpr ⟨(ip_wsX9_points__wsX9_points_r2 _ (List.mem_of_getElem? (i := 17) rfl)), (List.forall_mem_cons.mpr ⟨(ip_wsX9_points__wsX9_points_r2 _ (List.mem_of_getElem? (i := 18) rfl)), (List.forall_mem_cons.mpr ⟨(ip_wsX9_points__wsX9_points_r2 _ (List.mem_of_getElem? (i := 19) rfl)), (List.forall_mem_cons.mpr ⟨(ip_wsX9_points__wsX9_points_r2 _ (List.mem_of_getElem? (i := 20) rfl)), (List.forall_mem_cons.mpr ⟨(ip_wsX9_points__wsX9_points_r2 _ (List.mem_of_getElem? (i := 21) rfl)), (List.forall_mem_cons.mpr ⟨(ip_wsX9_points__wsX9_points_r2 _ (List.mem_of_getElem? (i := 22) rfl)), (List.forall_mem_cons.mpr ⟨(ip_wsX9_points__wsX9_points_r2 _ (List.mem_of_getElem? (i := 23) rfl)), (List.forall_mem_cons.mpr ⟨(ip_wsX9_points__wsX9_points_r3 _ (List.mem_of_getElem? (i := 0) rfl)), (List.forall_mem_cons.mpr ⟨(ip_wsX9_points__wsX9_points_r3 _ (List.mem_of_getElem? (i := 1) rfl)), (List.forall_mem_cons.mpr ⟨(ip_wsX9_points__wsX9_points_r1 _ (List.mem_of_getElem? (i := 0) rfl)), (List.forall_mem_cons.mpr ⟨(ip_wsX9_points__wsX9_points_r3 _ (List.mem_of_getElem? (i := 2) rfl)), (List.forall_mem_cons.mpr ⟨(ip_wsX9_points__wsX9_points_r3 _ (List.mem_of_getElem? (i := 3) rfl)), (fun _ h => absurd h List.not_mem_nil)⟩)⟩)⟩)⟩)⟩)⟩)⟩)⟩)⟩)⟩)⟩)⟩)⟩)⟩)⟩)⟩)⟩)⟩)⟩)⟩)⟩)⟩)⟩)⟩)) (x_ap2 (show ∀ w ∈ wsX9_isGood_r3, w ∈ wsX9_points from (List.forall_mem_cons.mpr ⟨(ip_wsX9_points__wsX9_points_r3 _ (List.mem_of_getElem? (i := 4) rfl)), (List.forall_mem_cons.mpr ⟨(ip_wsX9_points__wsX9_points_r3 _ (List.mem_of_getElem? (i := 5) rfl)), (List.forall_mem_cons.mpr ⟨(ip_wsX9_points__wsX9_points_r3 _ (List.mem_of_getElem? (i := 6) rfl)), (List.forall_mem_cons.mpr ⟨(ip_wsX9_points__wsX9_points_r3 _ (List.mem_of_getElem? (i := 7) rfl)), (List.forall_mem_cons.mpr ⟨(ip_wsX9_points__wsX9_points_r3 _ (List.mem_of_getElem? (i := 8) rfl)), (List.forall_mem_cons.mpr ⟨(ip_wsX9_points__wsX9_points_r3 _ (List.mem_of_getElem? (i := 9) rfl)), (List.forall_mem_cons.mpr ⟨(ip_wsX9_points__wsX9_points_r3 _ (List.mem_of_getElem? (i := 10) rfl)), (List.forall_mem_cons.mpr ⟨(ip_wsX9_points__wsX9_points_r3 _ (List.mem_of_getElem? (i := 11) rfl)), (List.forall_mem_cons.mpr ⟨(ip_wsX9_points__wsX9_points_r3 _ (List.mem_of_getElem? (i := 12) rfl)), (List.forall_mem_cons.mpr ⟨(ip_wsX9_points__wsX9_points_r3 _ (List.mem_of_getElem? (i := 13) rfl)), (List.forall_mem_cons.mpr ⟨(ip_wsX9_points__wsX9_points_r3 _ (List.mem_of_getElem? (i := 14) rfl)), (List.forall_mem_cons.mpr ⟨(ip_wsX9_points__wsX9_points_r3 _ (List.mem_of_getElem? (i := 15) rfl)), (List.forall_mem_cons.mpr ⟨(ip_wsX9_points__wsX9_points_r3 _ (List.mem_of_getElem? (i := 16) rfl)), (List.forall_mem_cons.mpr ⟨(ip_wsX9_points__wsX9_points_r3 _ (List.mem_of_getElem? (i := 17) rfl)), (List.forall_mem_cons.mpr ⟨(ip_wsX9_points__wsX9_points_r3 _ (List.mem_of_getElem? (i := 18) rfl)), (List.forall_mem_cons.mpr ⟨(ip_wsX9_points__wsX9_points_r3 _ (List.mem_of_getElem? (i := 19) rfl)), (List.forall_mem_cons.mpr ⟨(ip_wsX9_points__wsX9_points_r3 _ (List.mem_of_getElem? (i := 20) rfl)), (List.forall_mem_cons.mpr ⟨(ip_wsX9_points__wsX9_points_r3 _ (List.mem_of_getElem? (i := 21) rfl)), (List.forall_mem_cons.mpr ⟨(ip_wsX9_points__wsX9_points_r3 _ (List.mem_of_getElem? (i := 22) rfl)), (List.forall_mem_cons.mpr ⟨(ip_wsX9_points__wsX9_points_r3 _ (List.mem_of_getElem? (i := 23) rfl)), (List.forall_mem_cons.mpr ⟨(ip_wsX9_points__wsX9_points_r4 _ (List.mem_of_getElem? (i := 0) rfl)), (List.forall_mem_cons.mpr ⟨(ip_wsX9_points__wsX9_points_r4 _ (List.mem_of_getElem? (i := 1) rfl)), (List.forall_mem_cons.mpr ⟨(ip_wsX9_points__wsX9_points_r4 _ (List.mem_of_getElem? (i := 2) rfl)), (List.forall_mem_cons.mpr ⟨(ip_wsX9_points__wsX9_points_r4 _ (List.mem_of_getElem? (i := 3) rfl)), (fun _ h => absurd h List.not_mem_nil)⟩)⟩)⟩)⟩)⟩)⟩)⟩)⟩)⟩)⟩)⟩)⟩)⟩)⟩)⟩)⟩)⟩)⟩)⟩)⟩)⟩)⟩)⟩)⟩)) (show ∀ w ∈ wsX9_isGood_r4, w ∈ wsX9_points from (List.forall_mem_cons.mpr ⟨(ip_wsX9_points__wsX9_points_r4 _ (List.mem_of_getElem? (i := 4) rfl)), (List.forall_mem_cons.mpr ⟨(ip_wsX9_points__wsX9_points_r4 _ (List.mem_of_getElem? (i := 5) rfl)), (List.forall_mem_cons.mpr ⟨(ip_wsX9_points__wsX9_points_r4 _ (List.mem_of_getElem? (i := 6) rfl)), (List.forall_mem_cons.mpr ⟨(ip_wsX9_points__wsX9_points_r4 _ (List.mem_of_getElem? (i := 7) rfl)), (List.forall_mem_cons.mpr ⟨(ip_wsX9_points__wsX9_points_r4 _ (List.mem_of_getElem? (i := 8) rfl)), (List.forall_mem_cons.mpr ⟨(ip_wsX9_points__wsX9_points_r4 _ (List.mem_of_getElem? (i := 9) rfl)), (List.forall_mem_cons.mpr ⟨(ip_wsX9_points__wsX9_points_r4 _ (List.mem_of_getElem? (i := 10) rfl)), (List.forall_mem_cons.mpr ⟨(ip_wsX9_points__wsX9_points_r4 _ (List.mem_of_getElem? (i := 11) rfl)), (List.forall_mem_cons.mpr ⟨(ip_wsX9_points__wsX9_points_r4 _ (List.mem_of_getElem? (i := 12) rfl)), (List.forall_mem_cons.mpr ⟨(ip_wsX9_points__wsX9_points_r4 _ (List.mem_of_getElem? (i := 13) rfl)), (List.forall_mem_cons.mpr ⟨(ip_wsX9_points__wsX9_points_r4 _ (List.mem_of_getElem? (i := 14) rfl)), (List.forall_mem_cons.mpr ⟨(ip_wsX9_points__wsX9_points_r4 _ (List.mem_of_getElem? (i := 15) rfl)), (List.forall_mem_cons.mpr ⟨(ip_wsX9_points__wsX9_points_r4 _ (List.mem_of_getElem? (i := 16) rfl)), (List.forall_mem_cons.mpr ⟨(ip_wsX9_points__wsX9_points_r4 _ (List.mem_of_getElem? (i := 17) rfl)), (List.forall_mem_cons.mpr ⟨(ip_wsX9_points__wsX9_points_r4 _ (List.mem_of_getElem? (i := 18) rfl)), (List.forall_mem_cons.mpr ⟨(ip_wsX9_points__wsX9_points_r4 _ (List.mem_of_getElem? (i := 19) rfl)), (List.forall_mem_cons.mpr ⟨(ip_wsX9_points__wsX9_points_r4 _ (List.mem_of_getElem? (i := 20) rfl)), (List.forall_mem_cons.mpr ⟨(ip_wsX9_points__wsX9_points_r4 _ (List.mem_of_getElem? (i := 21) rfl)), (fun _ h => absurd h List.not_mem_nil)⟩)⟩)⟩)⟩)⟩)⟩)⟩)⟩)⟩)⟩)⟩)⟩)⟩)⟩)⟩)⟩)⟩)⟩))))) (fun _ h => (List.mem_cons_of_mem _ (List.mem_append_right _ h))))⟩) (by decide +kernel)
set_option maxRecDepth 20000 in
theorem gX9_points_X9_isGood : GoodIn wsX9_points (wsV RX9 109 RX9 yX9_isGood wsX9_isGood) := goodIn_app (goodIn_of _ (by decide +kernel)) ggX9_points_X9_isGood
theorem dX9_points_0 : decode cX9_points 0 = .ok (.aload_n 0, 1) := by decide +kernel
theorem dX9_points_1 : decode cX9_points 1 = .ok (.invokevirtual 109, 3) := by decide +kernel
theorem dX9_points_4 : decode cX9_points 4 = .ok (.ifCond .eq 10, 3) := by decide +kernel
theorem dX9_points_7 : decode cX9_points 7 = .ok (.aload_n 0, 1) := by decide +kernel
theorem dX9_points_8 : decode cX9_points 8 = .ok (.getfield 137, 3) := by decide +kernel
theorem dX9_points_11 : decode cX9_points 11 = .ok (.goto 5, 3) := by decide +kernel
theorem dX9_points_14 : decode cX9_points 14 = .ok (.bipush (-5), 2) := by decide +kernel
theorem dX9_points_16 : decode cX9_points 16 = .ok (.ireturn, 1) := by decide +kernel
theorem ip_wsX9_point__wsX9_point_r1 : ∀ w ∈ wsX9_point_r1, w ∈ wsX9_point := fun _ h => (List.mem_cons_of_mem _ (List.mem_append_left _ (List.mem_append_left _ h)))
theorem ip_wsX9_point__wsX9_point_r2 : ∀ w ∈ wsX9_point_r2, w ∈ wsX9_point := fun _ h => (List.mem_cons_of_mem _ (List.mem_append_left _ (List.mem_append_right _ (List.mem_append_left _ h))))
theorem ip_wsX9_point__wsX9_point_r3 : ∀ w ∈ wsX9_point_r3, w ∈ wsX9_point := fun _ h => (List.mem_cons_of_mem _ (List.mem_append_left _ (List.mem_append_right _ (List.mem_append_right _ (List.mem_append_left _ h)))))
theorem ip_wsX9_point__wsX9_point_r4 : ∀ w ∈ wsX9_point_r4, w ∈ wsX9_point := fun _ h => (List.mem_cons_of_mem _ (List.mem_append_left _ (List.mem_append_right _ (List.mem_append_right _ (List.mem_append_right _ (List.mem_append_left _ h))))))
theorem ip_wsX9_point__wsX9_point_r5 : ∀ w ∈ wsX9_point_r5, w ∈ wsX9_point := fun _ h => (List.mem_cons_of_mem _ (List.mem_append_left _ (List.mem_append_right _ (List.mem_append_right _ (List.mem_append_right _ (List.mem_append_right _ h))))))
set_option maxRecDepth 20000 in
theorem ggX9_point_X9_isGood : GoodIn wsX9_point wsX9_isGood := goodIn_sub (List.forall_mem_cons.mpr ⟨(ip_wsX9_point__wsX9_point_r1 _ (List.mem_of_getElem? (i := 9) rfl)), (x_ap2 (x_ap2 (show ∀ w ∈ wsX9_isGood_r1, w ∈ wsX9_point from (List.forall_mem_cons.mpr ⟨(ip_wsX9_point__wsX9_point_r1 _ (List.mem_of_getElem? (i := 10) rfl)), (List.forall_mem_cons.mpr ⟨(ip_wsX9_point__wsX9_point_r1 _ (List.mem_of_getElem? (i := 11) rfl)), (List.forall_mem_cons.mpr ⟨(ip_wsX9_point__wsX9_point_r1 _ (List.mem_of_getElem? (i := 12) rfl)), (List.forall_mem_cons.mpr ⟨(ip_wsX9_point__wsX9_point_r1 _ (List.mem_of_getElem? (i := 13) rfl)), (List.forall_mem_cons.mpr ⟨(ip_wsX9_point__wsX9_point_r1 _ (List.mem_of_getElem? (i := 8) rfl)), (List.forall_mem_cons.mpr ⟨(ip_wsX9_point__wsX9_point_r1 _ (List.mem_of_getElem? (i := 14) rfl)), (List.forall_mem_cons.mpr ⟨(ip_wsX9_point__wsX9_point_r1 _ (List.mem_of_getElem? (i := 15) rfl)), (List.forall_mem_cons.mpr ⟨(ip_wsX9_point__wsX9_point_r1 _ (List.mem_of_getElem? (i := 16) rfl)), (List.forall_mem_cons.mpr ⟨(ip_wsX9_point__wsX9_point_r1 _ (List.mem_of_getElem? (i := 17) rfl)), (List.forall_mem_cons.mpr ⟨(ip_wsX9_point__wsX9_point_r1 _ (List.mem_of_getElem? (i := 18) rfl)), (List.forall_mem_cons.mpr ⟨(ip_wsX9_point__wsX9_point_r1 _ (List.mem_of_getElem? (i := 19) rfl)), (List.forall_mem_cons.mpr ⟨(ip_wsX9_point__wsX9_point_r1 _ (List.mem_of_getElem? (i := 20) rfl)), (List.forall_mem_cons.mpr ⟨(ip_wsX9_point__wsX9_point_r1 _ (List.mem_of_getElem? (i := 21) rfl)), (List.forall_mem_cons.mpr ⟨(ip_wsX9_point__wsX9_point_r1 _ (List.mem_of_getElem? (i := 22) rfl)), (List.forall_mem_cons.mpr ⟨(ip_wsX9_point__wsX9_point_r1 _ (List.mem_of_getElem? (i := 23) rfl)), (List.forall_mem_cons.mpr ⟨(ip_wsX9_point__wsX9_point_r2 _ (List.mem_of_getElem? (i := 0) rfl)), (List.forall_mem_cons.mpr ⟨(ip_wsX9_point__wsX9_point_r2 _ (List.mem_of_getElem? (i := 1) rfl)), (List.forall_mem_cons.mpr ⟨(ip_wsX9_point__wsX9_point_r2 _ (List.mem_of_getElem? (i := 2) rfl)), (List.forall_mem_cons.mpr ⟨(ip_wsX9_point__wsX9_point_r2 _ (List.mem_of_getElem? (i := 3) rfl)), (List.forall_mem_cons.mpr ⟨(ip_wsX9_point__wsX9_point_r2 _ (List.mem_of_getElem? (i := 4) rfl)), (List.forall_mem_cons.mpr ⟨(ip_wsX9_point__wsX9_point_r2 _ (List.mem_of_getElem? (i := 5) rfl)), (List.forall_mem_cons.mpr ⟨(ip_wsX9_point__wsX9_point_r2 _ (List.mem_of_getElem? (i := 6) rfl)), (List.forall_mem_cons.mpr ⟨(ip_wsX9_point__wsX9_point_r2 _ (List.mem_of_getElem? (i := 7) rfl)), (List.forall_mem_cons.mpr ⟨(ip_wsX9_point__wsX9_point_r2 _ (List.mem_of_getElem? (i := 8) rfl)), (fun _ h => absurd h List.not_mem_nil)⟩)⟩)⟩)⟩)⟩)⟩)⟩)⟩)⟩)⟩)⟩)⟩)⟩)⟩)⟩)⟩)⟩)⟩)⟩)⟩)⟩)⟩)⟩)⟩)) (x_ap2 (show ∀ w ∈ wsX9_isGood_r2, w ∈ wsX9_point from (List.forall_mem_cons.mpr ⟨(ip_wsX9_point__wsX9_point_r2 _ (List.mem_of_getElem? (i := 9) rfl)), (List.forall_mem_cons.mpr ⟨(ip_wsX9_point__wsX9_point_r2 _ (List.mem_of_getElem? (i := 10) rfl)), (List.forall_mem_cons.mpr ⟨(ip_wsX9_point__wsX9_point_r2 _ (List.mem_of_getElem? (i := 11) rfl)), (List.forall_mem_cons.mpr ⟨(ip_wsX9_point__wsX9_point_r2 _ (List.mem_of_getElem? (i := 12) rfl)), (List.forall_mem_cons.mpr ⟨(ip_wsX9_point__wsX9_point_r2 _ (List.mem_of_getElem? (i := 13) rfl)), (List.forall_mem_cons.mpr ⟨(ip_wsX9_point__wsX9_point_r2 _ (List.mem_of_getElem? (i := 14) rfl)), (List.forall_mem_cons.mpr ⟨(ip_wsX9_point__wsX9_point_r2 _ (List.mem_of_getElem? (i := 15) rfl)), (List.forall_mem_cons.mpr ⟨(ip_wsX9_point__wsX9_point_r2 _ (List.mem_of_getElem? (i := 16) rfl)), (List.forall_mem_cons.mpr ⟨(ip_wsX9_point__wsX9_point_r2 _ (List.mem_of_getElem? (i := 17) rfl)), (List.forall_mem_cons.mpr ⟨(ip_wsX9_point__wsX9_point_r2 _ (List.mem_of_getElem? (i := 18) rfl)), (List.forall_mem_cons.mpr ⟨(ip_wsX9_point__wsX9_point_r2 _ (List.mem_of_getElem? (i := 19) rfl)), (List.forall_mem_cons.mpr ⟨(ip_wsX9_point__wsX9_point_r2 _ (List.mem_of_getElem? (i := 20) rfl)), (List.forall_mem_cons.mpr ⟨(ip_wsX9_point__wsX9_point_r2 _ (List.mem_of_getElem? (i := 21) rfl)), (List.forall_mem_cons.mpr ⟨(ip_wsX9_point__wsX9_point_r2 _ (List.mem_of_getElem? (i := 22) rfl)), (List.forall_mem_cons.mpr ⟨(ip_wsX9_point__wsX9_point_r2 _ (List.mem_of_getElem? (i := 23) rfl)), (List.forall_mem_cons.mpr ⟨(ip_wsX9_point__wsX9_point_r3 _ (List.mem_of_getElem? (i := 0) rfl)), (List.forall_mem_cons.mpr ⟨(ip_wsX9_point__wsX9_point_r3 _ (List.mem_of_getElem? (i := 1) rfl)), (List.forall_mem_cons.mpr ⟨(ip_wsX9_point__wsX9_point_r3 _ (List.mem_of_getElem? (i := 2) rfl)), (List.forall_mem_cons.mpr ⟨(ip_wsX9_point__wsX9_point_r3 _ (List.mem_of_getElem? (i := 3) rfl)), (List.forall_mem_cons.mpr ⟨(ip_wsX9_point__wsX9_point_r3 _ (List.mem_of_getElem? (i := 4) rfl)), (List.forall_mem_cons.mpr ⟨(ip_wsX9_point__wsX9_point_r3 _ (List.mem_of_getElem? (i := 5) rfl)), (List.forall_mem_cons.mpr ⟨(ip_wsX9_point__wsX9_point_r1 _ (List.mem_of_getElem? (i := 0) rfl)), (List.forall_mem_cons.mpr ⟨(ip_wsX9_point__wsX9_point_r1 _ (List.mem_of_getElem? (i := 1) rfl)), (List.forall_mem_cons.mpr ⟨(ip_wsX9_point__wsX9_point_r1 _ (List.mem_of_getElem? (i := 2) rfl)), (fun _ h => absurd h List.not_mem_nil)⟩)⟩)⟩)⟩)⟩)⟩)⟩)⟩)⟩)⟩)⟩)⟩)⟩)⟩)⟩)⟩)⟩)⟩)⟩)⟩)⟩)⟩)⟩)⟩)) (x_ap2 (show ∀ w ∈ wsX9_isGood_r3, w ∈ wsX9_point from (List.forall_mem_cons.mpr ⟨(ip_wsX9_point__wsX9_point_r1 _ (List.mem_of_getElem? (i := 3) rfl)), (List.forall_mem_cons.mpr ⟨(ip_wsX9_point__wsX9_point_r3 _ (List.mem_of_getElem? (i := 6) rfl)), (List.forall_mem_cons.mpr ⟨(ip_wsX9_point__wsX9_point_r3 _ (List.mem_of_getElem? (i := 7) rfl)), (List.forall_mem_cons.mpr ⟨(ip_wsX9_point__wsX9_point_r3 _ (List.mem_of_getElem? (i := 8) rfl)), (List.forall_mem_cons.mpr ⟨(ip_wsX9_point__wsX9_point_r3 _ (List.mem_of_getElem? (i := 9) rfl)), (List.forall_mem_cons.mpr ⟨(ip_wsX9_point__wsX9_point_r3 _ (List.mem_of_getElem? (i := 10) rfl)), (List.forall_mem_cons.mpr ⟨(ip_wsX9_point__wsX9_point_r3 _ (List.mem_of_getElem? (i := 11) rfl)), (List.forall_mem_cons.mpr ⟨(ip_wsX9_point__wsX9_point_r3 _ (List.mem_of_getElem? (i := 12) rfl)), (List.forall_mem_cons.mpr ⟨(ip_wsX9_point__wsX9_point_r3 _ (List.mem_of_getElem? (i := 13) rfl)), (List.forall_mem_cons.mpr ⟨(ip_wsX9_point__wsX9_point_r3 _ (List.mem_of_getElem? (i := 14) rfl)), (List.forall_mem_cons.mpr ⟨(ip_wsX9_point__wsX9_point_r3 _ (List.mem_of_getElem? (i := 15) rfl)), (List.forall_mem_cons.mpr ⟨(ip_wsX9_point__wsX9_point_r3 _ (List.mem_of_getElem? (i := 16) rfl)), (List.forall_mem_cons.mpr ⟨(ip_wsX9_point__wsX9_point_r1 _ (List.mem_of_getElem? (i := 4) rfl)), (List.forall_mem_cons.mpr ⟨(ip_wsX9_point__wsX9_point_r3 _ (List.mem_of_getElem? (i := 17) rfl)), (List.forall_mem_cons.mpr ⟨(ip_wsX9_point__wsX9_point_r3 _ (List.mem_of_getElem? (i := 18) rfl)), (List.forall_mem_cons.mpr ⟨(ip_wsX9_point__wsX9_point_r3 _ (List.mem_of_getElem? (i := 19) rfl)), (List.forall_mem_cons.mpr ⟨(ip_wsX9_point__wsX9_point_r3 _ (List.mem_of_getElem? (i := 20) rfl)), (List.forall_mem_cons.mpr ⟨(ip_wsX9_point__wsX9_point_r3 _ (List.mem_of_getElem? (i := 21) rfl)), (List.forall_mem_cons.mpr ⟨(ip_wsX9_point__wsX9_point_r3 _ (List.mem_of_getElem? (i := 22) rfl)), (List.forall_mem_cons.mpr ⟨(ip_wsX9_point__wsX9_point_r3 _ (List.mem_of_getElem? (i := 23) rfl)), (List.forall_mem_cons.mpr ⟨(ip_wsX9_point__wsX9_point_r4 _ (List.mem_of_getElem? (i := 0) rfl)), (List.forall_mem_cons.mpr ⟨(ip_wsX9_point__wsX9_point_r4 _ (List.mem_of_getElem? (i := 1) rfl)), (List.forall_mem_cons.mpr ⟨(ip_wsX9_point__wsX9_point_r4 _ (List.mem_of_getElem? (i := 2) rfl)), (List.forall_mem_cons.mpr ⟨(ip_wsX9_point__wsX9_point_r4 _ (List.mem_of_getElem? (i := 3) rfl)), (fun _ h => absurd h List.not_mem_nil)⟩)⟩)⟩)⟩)⟩)⟩)⟩)⟩)⟩)⟩)⟩)⟩)⟩)⟩)⟩)⟩)⟩)⟩)⟩)⟩)⟩)⟩)⟩)⟩)) (show ∀ w ∈ wsX9_isGood_r4, w ∈ wsX9_point from (List.forall_mem_cons.mpr ⟨(ip_wsX9_point__wsX9_point_r4 _ (List.mem_of_getElem? (i := 4) rfl)), (List.forall_mem_cons.mpr ⟨(ip_wsX9_point__wsX9_point_r4 _ (List.mem_of_getElem? (i := 5) rfl)), (List.forall_mem_cons.mpr ⟨(ip_wsX9_point__wsX9_point_r4 _ (List.mem_of_getElem? (i := 6) rfl)), (List.forall_mem_cons.mpr ⟨(ip_wsX9_point__wsX9_point_r4 _ (List.mem_of_getElem? (i := 7) rfl)), (List.forall_mem_cons.mpr ⟨(ip_wsX9_point__wsX9_point_r4 _ (List.mem_of_getElem? (i := 8) rfl)), (List.forall_mem_cons.mpr ⟨(ip_wsX9_point__wsX9_point_r4 _ (List.mem_of_getElem? (i := 9) rfl)), (List.forall_mem_cons.mpr ⟨(ip_wsX9_point__wsX9_point_r4 _ (List.mem_of_getElem? (i := 10) rfl)), (List.forall_mem_cons.mpr ⟨(ip_wsX9_point__wsX9_point_r4 _ (List.mem_of_getElem? (i := 11) rfl)), (List.forall_mem_cons.mpr ⟨(ip_wsX9_point__wsX9_point_r4 _ (List.mem_of_getElem? (i := 12) rfl)), (List.forall_mem_cons.mpr ⟨(ip_wsX9_point__wsX9_point_r4 _ (List.mem_of_getElem? (i := 13) rfl)), (List.forall_mem_cons.mpr ⟨(ip_wsX9_point__wsX9_point_r4 _ (List.mem_of_getElem? (i := 14) rfl)), (List.forall_mem_cons.mpr ⟨(ip_wsX9_point__wsX9_point_r4 _ (List.mem_of_getElem? (i := 15) rfl)), (List.forall_mem_cons.mpr ⟨(ip_wsX9_point__wsX9_point_r4 _ (List.mem_of_getElem? (i := 16) rfl)), (List.forall_mem_cons.mpr ⟨(ip_wsX9_point__wsX9_point_r4 _ (List.mem_of_getElem? (i := 17) rfl)), (List.forall_mem_cons.mpr ⟨(ip_wsX9_point__wsX9_point_r4 _ (List.mem_of_getElem? (i := 18) rfl)), (List.forall_mem_cons.mpr ⟨(ip_wsX9_point__wsX9_point_r4 _ (List.mem_of_getElem? (i := 19) rfl)), (List.forall_mem_cons.mpr ⟨(ip_wsX9_point__wsX9_point_r4 _ (List.mem_of_getElem? (i := 20) rfl)), (List.forall_mem_cons.mpr ⟨(ip_wsX9_point__wsX9_point_r4 _ (List.mem_of_getElem? (i := 21) rfl)), (fun _ h => absurd h List.not_mem_nil)⟩)⟩)⟩)⟩)⟩)⟩)⟩)⟩)⟩)⟩)⟩)⟩)⟩)⟩)⟩)⟩)⟩)⟩))))) (fun _ h => (List.mem_cons_of_mem _ (List.mem_append_right _ h))))⟩) (by decide +kernel)
set_option maxRecDepth 20000 in
theorem gX9_point_X9_isGood : GoodIn wsX9_point (wsV RX9 109 RX9 yX9_isGood wsX9_isGood) := goodIn_app (goodIn_of _ (by decide +kernel)) ggX9_point_X9_isGood
set_option maxRecDepth 20000 in
theorem ggX9_point_X9_in : GoodIn wsX9_point wsX9_in := goodIn_sub (List.forall_mem_cons.mpr ⟨(ip_wsX9_point__wsX9_point_r5 _ (List.mem_of_getElem? (i := 0) rfl)), (fun _ h => absurd h List.not_mem_nil)⟩) (by decide +kernel)
set_option maxRecDepth 20000 in
theorem gX9_point_X9_in : GoodIn wsX9_point (va_wsS RX9 62 yX9_in wsX9_in) := goodIn_app (goodIn_of _ (by decide +kernel)) ggX9_point_X9_in
theorem dX9_point_0 : decode cX9_point 0 = .ok (.aload_n 0, 1) := by decide +kernel
theorem dX9_point_1 : decode cX9_point 1 = .ok (.invokevirtual 109, 3) := by decide +kernel
theorem dX9_point_4 : decode cX9_point 4 = .ok (.ifCond .ne 6, 3) := by decide +kernel
theorem dX9_point_7 : decode cX9_point 7 = .ok (.bipush (-5), 2) := by decide +kernel
theorem dX9_point_9 : decode cX9_point 9 = .ok (.ireturn, 1) := by decide +kernel
theorem dX9_point_10 : decode cX9_point 10 = .ok (.iload_n 1, 1) := by decide +kernel
theorem dX9_point_11 : decode cX9_point 11 = .ok (.iconst 0, 1) := by decide +kernel
theorem dX9_point_12 : decode cX9_point 12 = .ok (.aload_n 0, 1) := by decide +kernel
theorem dX9_point_13 : decode cX9_point 13 = .ok (.getfield 137, 3) := by decide +kernel
theorem dX9_point_16 : decode cX9_point 16 = .ok (.iconst 1, 1) := by decide +kernel
theorem dX9_point_17 : decode cX9_point 17 = .ok (.isub, 1) := by decide +kernel
theorem dX9_point_18 : decode cX9_point 18 = .ok (.invokestatic 62, 3) := by decide +kernel
theorem dX9_point_21 : decode cX9_point 21 = .ok (.ifCond .ne 5, 3) := by decide +kernel
theorem dX9_point_24 : decode cX9_point 24 = .ok (.iconst (-1), 1) := by decide +kernel
theorem dX9_point_25 : decode cX9_point 25 = .ok (.ireturn, 1) := by decide +kernel
theorem dX9_point_26 : decode cX9_point 26 = .ok (.iload_n 2, 1) := by decide +kernel
theorem dX9_point_27 : decode cX9_point 27 = .ok (.ifCond .ne 12, 3) := by decide +kernel
theorem dX9_point_30 : decode cX9_point 30 = .ok (.aload_n 0, 1) := by decide +kernel
theorem dX9_point_31 : decode cX9_point 31 = .ok (.getfield 20, 3) := by decide +kernel
theorem dX9_point_34 : decode cX9_point 34 = .ok (.iload_n 1, 1) := by decide +kernel
theorem dX9_point_35 : decode cX9_point 35 = .ok (.iaload, 1) := by decide +kernel
theorem dX9_point_36 : decode cX9_point 36 = .ok (.goto 47, 3) := by decide +kernel
theorem dX9_point_39 : decode cX9_point 39 = .ok (.iload_n 2, 1) := by decide +kernel
theorem dX9_point_40 : decode cX9_point 40 = .ok (.iconst 1, 1) := by decide +kernel
theorem dX9_point_41 : decode cX9_point 41 = .ok (.if_icmp .ne 12, 3) := by decide +kernel
theorem dX9_point_44 : decode cX9_point 44 = .ok (.aload_n 0, 1) := by decide +kernel
theorem dX9_point_45 : decode cX9_point 45 = .ok (.getfield 23, 3) := by decide +kernel
theorem dX9_point_48 : decode cX9_point 48 = .ok (.iload_n 1, 1) := by decide +kernel
theorem dX9_point_49 : decode cX9_point 49 = .ok (.iaload, 1) := by decide +kernel
theorem dX9_point_50 : decode cX9_point 50 = .ok (.goto 33, 3) := by decide +kernel
theorem dX9_point_53 : decode cX9_point 53 = .ok (.iload_n 2, 1) := by decide +kernel
theorem dX9_point_54 : decode cX9_point 54 = .ok (.iconst 2, 1) := by decide +kernel
theorem dX9_point_55 : decode cX9_point 55 = .ok (.if_icmp .ne 12, 3) := by decide +kernel
theorem dX9_point_58 : decode cX9_point 58 = .ok (.aload_n 0, 1) := by decide +kernel
theorem dX9_point_59 : decode cX9_point 59 = .ok (.getfield 26, 3) := by decide +kernel
theorem dX9_point_62 : decode cX9_point 62 = .ok (.iload_n 1, 1) := by decide +kernel
theorem dX9_point_63 : decode cX9_point 63 = .ok (.iaload, 1) := by decide +kernel
theorem dX9_point_64 : decode cX9_point 64 = .ok (.goto 19, 3) := by decide +kernel
theorem dX9_point_67 : decode cX9_point 67 = .ok (.iload_n 2, 1) := by decide +kernel
theorem dX9_point_68 : decode cX9_point 68 = .ok (.iconst 3, 1) := by decide +kernel
theorem dX9_point_69 : decode cX9_point 69 = .ok (.if_icmp .ne 12, 3) := by decide +kernel
theorem dX9_point_72 : decode cX9_point 72 = .ok (.aload_n 0, 1) := by decide +kernel
theorem dX9_point_73 : decode cX9_point 73 = .ok (.getfield 29, 3) := by decide +kernel
theorem dX9_point_76 : decode cX9_point 76 = .ok (.iload_n 1, 1) := by decide +kernel
theorem dX9_point_77 : decode cX9_point 77 = .ok (.iaload, 1) := by decide +kernel
theorem dX9_point_78 : decode cX9_point 78 = .ok (.goto 5, 3) := by decide +kernel
theorem dX9_point_81 : decode cX9_point 81 = .ok (.bipush (-2), 2) := by decide +kernel
theorem dX9_point_83 : decode cX9_point 83 = .ok (.ireturn, 1) := by decide +kernel
theorem ip_wsX9_flags__wsX9_flags_r1 : ∀ w ∈ wsX9_flags_r1, w ∈ wsX9_flags := fun _ h => (List.mem_cons_of_mem _ (List.mem_append_left _ (List.mem_append_left _ h)))
theorem ip_wsX9_flags__wsX9_flags_r2 : ∀ w ∈ wsX9_flags_r2, w ∈ wsX9_flags := fun _ h => (List.mem_cons_of_mem _ (List.mem_append_left _ (List.mem_append_right _ (List.mem_append_left _ h))))
theorem ip_wsX9_flags__wsX9_flags_r3 : ∀ w ∈ wsX9_flags_r3, w ∈ wsX9_flags := fun _ h => (List.mem_cons_of_mem _ (List.mem_append_left _ (List.mem_append_right _ (List.mem_append_right _ (List.mem_append_left _ h)))))
theorem ip_wsX9_flags__wsX9_flags_r4 : ∀ w ∈ wsX9_flags_r4, w ∈ wsX9_flags := fun _ h => (List.mem_cons_of_mem _ (List.mem_append_left _ (List.mem_append_right _ (List.mem_append_right _ (List.mem_append_right _ h)))))
set_option maxRecDepth 20000 in
theorem ggX9_flags_X9_isGood : GoodIn wsX9_flags wsX9_isGood := goodIn_sub (List.forall_mem_cons.mpr ⟨(ip_wsX9_flags__wsX9_flags_r1 _ (List.mem_of_getElem? (i := 5) rfl)), (x_ap2 (x_ap2 (show ∀ w ∈ wsX9_isGood_r1, w ∈ wsX9_flags from (List.forall_mem_cons.mpr ⟨(ip_wsX9_flags__wsX9_flags_r1 _ (List.mem_of_getElem? (i := 6) rfl)), (List.forall_mem_cons.mpr ⟨(ip_wsX9_flags__wsX9_flags_r1 _ (List.mem_of_getElem? (i := 7) rfl)), (List.forall_mem_cons.mpr ⟨(ip_wsX9_flags__wsX9_flags_r1 _ (List.mem_of_getElem? (i := 8) rfl)), (List.forall_mem_cons.mpr ⟨(ip_wsX9_flags__wsX9_flags_r1 _ (List.mem_of_getElem? (i := 9) rfl)), (List.forall_mem_cons.mpr ⟨(ip_wsX9_flags__wsX9_flags_r1 _ (List.mem_of_getElem? (i := 4) rfl)), (List.forall_mem_cons.mpr ⟨(ip_wsX9_flags__wsX9_flags_r1 _ (List.mem_of_getElem? (i := 10) rfl)), (List.forall_mem_cons.mpr ⟨(ip_wsX9_flags__wsX9_flags_r1 _ (List.mem_of_getElem? (i := 11) rfl)), (List.forall_mem_cons.mpr ⟨(ip_wsX9_flags__wsX9_flags_r1 _ (List.mem_of_getElem? (i := 12) rfl)), (List.forall_mem_cons.mpr ⟨(ip_wsX9_flags__wsX9_flags_r1 _ (List.mem_of_getElem? (i := 0) rfl)), (List.forall_mem_cons.mpr ⟨(ip_wsX9_flags__wsX9_flags_r1 _ (List.mem_of_getElem? (i := 13) rfl)), (List.forall_mem_cons.mpr ⟨(ip_wsX9_flags__wsX9_flags_r1 _ (List.mem_of_getElem? (i := 14) rfl)), (List.forall_mem_cons.mpr ⟨(ip_wsX9_flags__wsX9_flags_r1 _ (List.mem_of_getElem? (i := 15) rfl)), (List.forall_mem_cons.mpr ⟨(ip_wsX9_flags__wsX9_flags_r1 _ (List.mem_of_getElem? (i := 16) rfl)), (List.forall_mem_cons.mpr ⟨(ip_wsX9_flags__wsX9_flags_r1 _ (List.mem_of_getElem? (i := 17) rfl)), (List.forall_mem_cons.mpr ⟨(ip_wsX9_flags__wsX9_flags_r1 _ (List.mem_of_getElem? (i := 18) rfl)), (List.forall_mem_cons.mpr ⟨(ip_wsX9_flags__wsX9_flags_r1 _ (List.mem_of_getElem? (i := 19) rfl)), (List.forall_mem_cons.mpr ⟨(ip_wsX9_flags__wsX9_flags_r1 _ (List.mem_of_getElem? (i := 20) rfl)), (List.forall_mem_cons.mpr ⟨(ip_wsX9_flags__wsX9_flags_r1 _ (List.mem_of_getElem? (i := 21) rfl)), (List.forall_mem_cons.mpr ⟨(ip_wsX9_flags__wsX9_flags_r1 _ (List.mem_of_getElem? (i := 22) rfl)), (List.forall_mem_cons.mpr ⟨(ip_wsX9_flags__wsX9_flags_r1 _ (List.mem_of_getElem? (i := 23) rfl)), (List.forall_mem_cons.mpr ⟨(ip_wsX9_flags__wsX9_flags_r2 _ (List.mem_of_getElem? (i := 0) rfl)), (List.forall_mem_cons.mpr ⟨(ip_wsX9_flags__wsX9_flags_r2 _ (List.mem_of_getElem? (i := 1) rfl)), (List.forall_mem_cons.mpr ⟨(ip_wsX9_flags__wsX9_flags_r2 _ (List.mem_of_getElem? (i := 2) rfl)), (List.forall_mem_cons.mpr ⟨(ip_wsX9_flags__wsX9_flags_r2 _ (List.mem_of_getElem? (i := 3) rfl)), (fun _ h => absurd h List.not_mem_nil)⟩)⟩)⟩)⟩)⟩)⟩)⟩)⟩)⟩)⟩)⟩)⟩)⟩)⟩)⟩)⟩)⟩)⟩)⟩)⟩)⟩)⟩)⟩)⟩)) (x_ap2 (show ∀ w ∈ wsX9_isGood_r2, w ∈ wsX9_flags from (List.forall_mem_cons.mpr ⟨(ip_wsX9_flags__wsX9_flags_r2 _ (List.mem_of_getElem? (i := 4) rfl)), (List.forall_mem_cons.mpr ⟨(ip_wsX9_flags__wsX9_flags_r2 _ (List.mem_of_getElem? (i := 5) rfl)), (List.forall_mem_cons.mpr ⟨(ip_wsX9_flags__wsX9_flags_r2 _ (List.mem_of_getElem? (i := 6) rfl)), (List.forall_mem_cons.mpr ⟨(ip_wsX9_flags__wsX9_flags_r2 _ (List.mem_of_getElem? (i := 7) rfl)), (List.forall_mem_cons.mpr ⟨(ip_wsX9_flags__wsX9_flags_r2 _ (List.mem_of_getElem? (i := 8) rfl)), (List.forall_mem_cons.mpr ⟨(ip_wsX9_flags__wsX9_flags_r2 _ (List.mem_of_getElem? (i := 9) rfl)), (List.forall_mem_cons.mpr ⟨(ip_wsX9_flags__wsX9_flags_r2 _ (List.mem_of_getElem? (i := 10) rfl)), (List.forall_mem_cons.mpr ⟨(ip_wsX9_flags__wsX9_flags_r2 _ (List.mem_of_getElem? (i := 11) rfl)), (List.forall_mem_cons.mpr ⟨(ip_wsX9_flags__wsX9_flags_r2 _ (List.mem_of_getElem? (i := 12) rfl)), (List.forall_mem_cons.mpr ⟨(ip_wsX9_flags__wsX9_flags_r2 _ (List.mem_of_getElem? (i := 13) rfl)), (List.forall_mem_cons.mpr ⟨(ip_wsX9_flags__wsX9_flags_r2 _ (List.mem_of_getElem? (i := 14) rfl)), (List.forall_mem_cons.mpr ⟨(ip_wsX9_flags__wsX9_flags_r2 _ (List.mem_of_getElem? (i := 15) rfl)), (List.forall_mem_cons.mpr ⟨(ip_wsX9_flags__wsX9_flags_r2 _ (List.mem_of_getElem? (i := 16) rfl)), (List.forall_mem_cons.mpr ⟨(ip_wsX9_flags__wsX9_flags_r2 _ (List.mem_of_getElem? (i := 17) rfl)), (List.forall_mem_cons.mpr ⟨(ip_wsX9_flags__wsX9_flags_r2 _ (List.mem_of_getElem? (i := 18) rfl)), (List.forall_mem_cons.mpr ⟨(ip_wsX9_flags__wsX9_flags_r2 _ (List.mem_of_getElem? (i := 19) rfl)), (List.forall_mem_cons.mpr ⟨(ip_wsX9_flags__wsX9_flags_r2 _ (List.mem_of_getElem? (i := 20) rfl)), (List.forall_mem_cons.mpr ⟨(ip_wsX9_flags__wsX9_flags_r2 _ (List.mem_of_getElem? (i := 21) rfl)), (List.forall_mem_cons.mpr ⟨(ip_wsX9_flags__wsX9_flags_r2 _ (List.mem_of_getElem? (i := 22) rfl)), (List.forall_mem_cons.mpr ⟨(ip_wsX9_flags__wsX9_flags_r2 _ (List.mem_of_getElem? (i := 23) rfl)), (List.forall_mem_cons.mpr ⟨(ip_wsX9_flags__wsX9_flags_r3 _ (List.mem_of_getElem? (i := 0) rfl)), (List.forall_mem_cons.mpr ⟨(ip_wsX9_flags__wsX9_flags_r3 _ (List.mem_of_getElem? (i := 1) rfl)), (List.forall_mem_cons.mpr ⟨(ip_wsX9_flags__wsX9_flags_r3 _ (List.mem_of_getElem? (i := 2) rfl)), (List.forall_mem_cons.mpr ⟨(ip_wsX9_flags__wsX9_flags_r3 _ (List.mem_of_getElem? (i := 3) rfl)), (fun _ h => absurd h List.not_mem_nil)⟩)⟩)⟩)⟩)⟩)⟩)⟩)⟩)⟩)⟩)⟩)⟩)⟩)⟩)⟩)⟩)⟩)⟩)⟩)⟩)⟩)⟩)⟩)⟩)) (x_ap2 (show ∀ w ∈ wsX9_isGood_r3, w ∈ wsX9_flags from (List.forall_mem_cons.mpr ⟨(ip_wsX9_flags__wsX9_flags_r3 _ (List.mem_of_getElem? (i := 4) rfl)), (List.forall_mem_cons.mpr ⟨(ip_wsX9_flags__wsX9_flags_r3 _ (List.mem_of_getElem? (i := 5) rfl)), (List.forall_mem_cons.mpr ⟨(ip_wsX9_flags__wsX9_flags_r3 _ (List.mem_of_getElem? (i := 6) rfl)), (List.forall_mem_cons.mpr ⟨(ip_wsX9_flags__wsX9_flags_r3 _ (List.mem_of_getElem? (i := 7) rfl)), (List.forall_mem_cons.mpr ⟨(ip_wsX9_flags__wsX9_flags_r3 _ (List.mem_of_getElem? (i := 8) rfl)), (List.forall_mem_cons.mpr ⟨(ip_wsX9_flags__wsX9_flags_r3 _ (List.mem_of_getElem? (i := 9) rfl)), (List.forall_mem_cons.mpr ⟨(ip_wsX9_flags__wsX9_flags_r3 _ (List.mem_of_getElem? (i := 10) rfl)), (List.forall_mem_cons.mpr ⟨(ip_wsX9_flags__wsX9_flags_r3 _ (List.mem_of_getElem? (i := 11) rfl)), (List.forall_mem_cons.mpr ⟨(ip_wsX9_flags__wsX9_flags_r3 _ (List.mem_of_getElem? (i := 12) rfl)), (List.forall_mem_cons.mpr ⟨(ip_wsX9_flags__wsX9_flags_r3 _ (List.mem_of_getElem? (i := 13) rfl)), (List.forall_mem_cons.mpr ⟨(ip_wsX9_flags__wsX9_flags_r3 _ (List.mem_of_getElem? (i := 14) rfl)), (List.forall_mem_cons.mpr ⟨(ip_wsX9_flags__wsX9_flags_r3 _ (List.mem_of_getElem? (i := 15) rfl)), (List.forall_mem_cons.mpr ⟨(ip_wsX9_flags__wsX9_flags_r3 _ (List.mem_of_getElem? (i := 16) rfl)), (List.forall_mem_cons.mpr ⟨(ip_wsX9_flags__wsX9_flags_r3 _ (List.mem_of_getElem? (i := 17) rfl)), (List.forall_mem_cons.mpr ⟨(ip_wsX9_flags__wsX9_flags_r3 _ (List.mem_of_getElem? (i := 18) rfl)), (List.forall_mem_cons.mpr ⟨(ip_wsX9_flags__wsX9_flags_r3 _ (List.mem_of_getElem? (i := 19) rfl)), (List.forall_mem_cons.mpr ⟨(ip_wsX9_flags__wsX9_flags_r3 _ (List.mem_of_getElem? (i := 20) rfl)), (List.forall_mem_cons.mpr ⟨(ip_wsX9_flags__wsX9_flags_r3 _ (List.mem_of_getElem? (i := 21) rfl)), (List.forall_mem_cons.mpr ⟨(ip_wsX9_flags__wsX9_flags_r3 _ (List.mem_of_getElem? (i := 22) rfl)), (List.forall_mem_cons.mpr ⟨(ip_wsX9_flags__wsX9_flags_r3 _ (List.mem_of_getElem? (i := 23) rfl)), (List.forall_mem_cons.mpr ⟨(ip_wsX9_flags__wsX9_flags_r4 _ (List.mem_of_getElem? (i := 0) rfl)), (List.forall_mem_cons.mpr ⟨(ip_wsX9_flags__wsX9_flags_r4 _ (List.mem_of_getElem? (i := 1) rfl)), (List.forall_mem_cons.mpr ⟨(ip_wsX9_flags__wsX9_flags_r4 _ (List.mem_of_getElem? (i := 2) rfl)), (List.forall_mem_cons.mpr ⟨(ip_wsX9_flags__wsX9_flags_r4 _ (List.mem_of_getElem? (i := 3) rfl)), (fun _ h => absurd h List.not_mem_nil)⟩)⟩)⟩)⟩)⟩)⟩)⟩)⟩)⟩)⟩)⟩)⟩)⟩)⟩)⟩)⟩)⟩)⟩)⟩)⟩)⟩)⟩)⟩)⟩)) (show ∀ w ∈ wsX9_isGood_r4, w ∈ wsX9_flags from (List.forall_mem_cons.mpr ⟨(ip_wsX9_flags__wsX9_flags_r4 _ (List.mem_of_getElem? (i := 4) rfl)), (List.forall_mem_cons.mpr ⟨(ip_wsX9_flags__wsX9_flags_r4 _ (List.mem_of_getElem? (i := 5) rfl)), (List.forall_mem_cons.mpr ⟨(ip_wsX9_flags__wsX9_flags_r4 _ (List.mem_of_getElem? (i := 6) rfl)), (List.forall_mem_cons.mpr ⟨(ip_wsX9_flags__wsX9_flags_r4 _ (List.mem_of_getElem? (i := 7) rfl)), (List.forall_mem_cons.mpr ⟨(ip_wsX9_flags__wsX9_flags_r4 _ (List.mem_of_getElem? (i := 8) rfl)), (List.forall_mem_cons.mpr ⟨(ip_wsX9_flags__wsX9_flags_r4 _ (List.mem_of_getElem? (i := 9) rfl)), (List.forall_mem_cons.mpr ⟨(ip_wsX9_flags__wsX9_flags_r4 _ (List.mem_of_getElem? (i := 10) rfl)), (List.forall_mem_cons.mpr ⟨(ip_wsX9_flags__wsX9_flags_r4 _ (List.mem_of_getElem? (i := 11) rfl)), (List.forall_mem_cons.mpr ⟨(ip_wsX9_flags__wsX9_flags_r4 _ (List.mem_of_getElem? (i := 12) rfl)), (List.forall_mem_cons.mpr ⟨(ip_wsX9_flags__wsX9_flags_r4 _ (List.mem_of_getElem? (i := 13) rfl)), (List.forall_mem_cons.mpr ⟨(ip_wsX9_flags__wsX9_flags_r4 _ (List.mem_of_getElem? (i := 14) rfl)), (List.forall_mem_cons.mpr ⟨(ip_wsX9_flags__wsX9_flags_r4 _ (List.mem_of_getElem? (i := 15) rfl)), (List.forall_mem_cons.mpr ⟨(ip_wsX9_flags__wsX9_flags_r4 _ (List.mem_of_getElem? (i := 16) rfl)), (List.forall_mem_cons.mpr ⟨(ip_wsX9_flags__wsX9_flags_r4 _ (List.mem_of_getElem? (i := 17) rfl)), (List.forall_mem_cons.mpr ⟨(ip_wsX9_flags__wsX9_flags_r4 _ (List.mem_of_getElem? (i := 18) rfl)), (List.forall_mem_cons.mpr ⟨(ip_wsX9_flags__wsX9_flags_r4 _ (List.mem_of_getElem? (i := 19) rfl)), (List.forall_mem_cons.mpr ⟨(ip_wsX9_flags__wsX9_flags_r4 _ (List.mem_of_getElem? (i := 20) rfl)), (List.forall_mem_cons.mpr ⟨(ip_wsX9_flags__wsX9_flags_r4 _ (List.mem_of_getElem? (i := 21) rfl)), (fun _ h => absurd h List.not_mem_nil)⟩)⟩)⟩)⟩)⟩)⟩)⟩)⟩)⟩)⟩)⟩)⟩)⟩)⟩)⟩)⟩)⟩)⟩))))) (fun _ h => (List.mem_cons_of_mem _ (List.mem_append_right _ h))))⟩) (by decide +kernel)
set_option maxRecDepth 20000 in
theorem gX9_flags_X9_isGood : GoodIn wsX9_flags (wsV RX9 109 RX9 yX9_isGood wsX9_isGood) := goodIn_app (goodIn_of _ (by decide +kernel)) ggX9_flags_X9_isGood
theorem dX9_flags_0 : decode cX9_flags 0 = .ok (.aload_n 0, 1) := by decide +kernel
theorem dX9_flags_1 : decode cX9_flags 1 = .ok (.invokevirtual 109, 3) := by decide +kernel
theorem dX9_flags_4 : decode cX9_flags 4 = .ok (.ifCond .eq 10, 3) := by decide +kernel
theorem dX9_flags_7 : decode cX9_flags 7 = .ok (.aload_n 0, 1) := by decide +kernel
theorem dX9_flags_8 : decode cX9_flags 8 = .ok (.getfield 140, 3) := by decide +kernel
theorem dX9_flags_11 : decode cX9_flags 11 = .ok (.goto 5, 3) := by decide +kernel
theorem dX9_flags_14 : decode cX9_flags 14 = .ok (.bipush (-5), 2) := by decide +kernel
theorem dX9_flags_16 : decode cX9_flags 16 = .ok (.ireturn, 1) := by decide +kernel
set_option maxRecDepth 20000 in
theorem ggX9_isFlag_X9_in : GoodIn wsX9_isFlag wsX9_in := goodIn_sub (List.forall_mem_cons.mpr ⟨(List.mem_cons_of_mem _ (List.mem_append_left _ (List.mem_of_getElem? (i := 4) rfl))), (fun _ h => absurd h List.not_mem_nil)⟩) (by decide +kernel)
set_option maxRecDepth 20000 in
theorem gX9_isFlag_X9_in : GoodIn wsX9_isFlag (va_wsS RX9 62 yX9_in wsX9_in) := goodIn_app (goodIn_of _ (by decide +kernel)) ggX9_isFlag_X9_in
theorem dX9_isFlag_0 : decode cX9_isFlag 0 = .ok (.iload_n 1, 1) := by decide +kernel
theorem dX9_isFlag_1 : decode cX9_isFlag 1 = .ok (.iconst 0, 1) := by decide +kernel
theorem dX9_isFlag_2 : decode cX9_isFlag 2 = .ok (.aload_n 0, 1) := by decide +kernel
theorem dX9_isFlag_3 : decode cX9_isFlag 3 = .ok (.getfield 140, 3) := by decide +kernel
theorem dX9_isFlag_6 : decode cX9_isFlag 6 = .ok (.iconst 1, 1) := by decide +kernel
theorem dX9_isFlag_7 : decode cX9_isFlag 7 = .ok (.isub, 1) := by decide +kernel
theorem dX9_isFlag_8 : decode cX9_isFlag 8 = .ok (.invokestatic 62, 3) := by decide +kernel
theorem dX9_isFlag_11 : decode cX9_isFlag 11 = .ok (.ireturn, 1) := by decide +kernel
theorem dX9_ahead_0 : decode cX9_ahead 0 = .ok (.bipush (-6), 2) := by decide +kernel
theorem dX9_ahead_2 : decode cX9_ahead 2 = .ok (.istore_n 2, 1) := by decide +kernel
theorem dX9_ahead_3 : decode cX9_ahead 3 = .ok (.iconst 0, 1) := by decide +kernel
theorem dX9_ahead_4 : decode cX9_ahead 4 = .ok (.istore_n 3, 1) := by decide +kernel
theorem dX9_ahead_5 : decode cX9_ahead 5 = .ok (.iload_n 3, 1) := by decide +kernel
theorem dX9_ahead_6 : decode cX9_ahead 6 = .ok (.aload_n 0, 1) := by decide +kernel
theorem dX9_ahead_7 : decode cX9_ahead 7 = .ok (.getfield 140, 3) := by decide +kernel
theorem dX9_ahead_10 : decode cX9_ahead 10 = .ok (.if_icmp .ge 25, 3) := by decide +kernel
theorem dX9_ahead_13 : decode cX9_ahead 13 = .ok (.aload_n 0, 1) := by decide +kernel
theorem dX9_ahead_14 : decode cX9_ahead 14 = .ok (.getfield 44, 3) := by decide +kernel
theorem dX9_ahead_17 : decode cX9_ahead 17 = .ok (.iload_n 3, 1) := by decide +kernel
theorem dX9_ahead_18 : decode cX9_ahead 18 = .ok (.iaload, 1) := by decide +kernel
theorem dX9_ahead_19 : decode cX9_ahead 19 = .ok (.iload_n 1, 1) := by decide +kernel
theorem dX9_ahead_20 : decode cX9_ahead 20 = .ok (.if_icmp .ne 7, 3) := by decide +kernel
theorem dX9_ahead_23 : decode cX9_ahead 23 = .ok (.iload_n 3, 1) := by decide +kernel
theorem dX9_ahead_24 : decode cX9_ahead 24 = .ok (.goto 4, 3) := by decide +kernel
theorem dX9_ahead_27 : decode cX9_ahead 27 = .ok (.iload_n 2, 1) := by decide +kernel
theorem dX9_ahead_28 : decode cX9_ahead 28 = .ok (.istore_n 2, 1) := by decide +kernel
theorem dX9_ahead_29 : decode cX9_ahead 29 = .ok (.iinc 3 1, 3) := by decide +kernel
theorem dX9_ahead_32 : decode cX9_ahead 32 = .ok (.goto (-27), 3) := by decide +kernel
theorem dX9_ahead_35 : decode cX9_ahead 35 = .ok (.iload_n 2, 1) := by decide +kernel
theorem dX9_ahead_36 : decode cX9_ahead 36 = .ok (.ireturn, 1) := by decide +kernel
theorem ip_wsX9_flag__wsX9_flag_r1 : ∀ w ∈ wsX9_flag_r1, w ∈ wsX9_flag := fun _ h => (List.mem_cons_of_mem _ (List.mem_append_left _ (List.mem_append_left _ h)))
theorem ip_wsX9_flag__wsX9_flag_r2 : ∀ w ∈ wsX9_flag_r2, w ∈ wsX9_flag := fun _ h => (List.mem_cons_of_mem _ (List.mem_append_left _ (List.mem_append_right _ (List.mem_append_left _ h))))
theorem ip_wsX9_flag__wsX9_flag_r3 : ∀ w ∈ wsX9_flag_r3, w ∈ wsX9_flag := fun _ h => (List.mem_cons_of_mem _ (List.mem_append_left _ (List.mem_append_right _ (List.mem_append_right _ (List.mem_append_left _ h)))))
theorem ip_wsX9_flag__wsX9_flag_r4 : ∀ w ∈ wsX9_flag_r4, w ∈ wsX9_flag := fun _ h => (List.mem_cons_of_mem _ (List.mem_append_left _ (List.mem_append_right _ (List.mem_append_right _ (List.mem_append_right _ (List.mem_append_left _ h))))))
theorem ip_wsX9_flag__wsX9_flag_r5 : ∀ w ∈ wsX9_flag_r5, w ∈ wsX9_flag := fun _ h => (List.mem_cons_of_mem _ (List.mem_append_left _ (List.mem_append_right _ (List.mem_append_right _ (List.mem_append_right _ (List.mem_append_right _ h))))))
set_option maxRecDepth 20000 in
theorem ggX9_flag_X9_isGood : GoodIn wsX9_flag wsX9_isGood := goodIn_sub (List.forall_mem_cons.mpr ⟨(ip_wsX9_flag__wsX9_flag_r1 _ (List.mem_of_getElem? (i := 9) rfl)), (x_ap2 (x_ap2 (show ∀ w ∈ wsX9_isGood_r1, w ∈ wsX9_flag from (List.forall_mem_cons.mpr ⟨(ip_wsX9_flag__wsX9_flag_r1 _ (List.mem_of_getElem? (i := 10) rfl)), (List.forall_mem_cons.mpr ⟨(ip_wsX9_flag__wsX9_flag_r1 _ (List.mem_of_getElem? (i := 11) rfl)), (List.forall_mem_cons.mpr ⟨(ip_wsX9_flag__wsX9_flag_r1 _ (List.mem_of_getElem? (i := 12) rfl)), (List.forall_mem_cons.mpr ⟨(ip_wsX9_flag__wsX9_flag_r1 _ (List.mem_of_getElem? (i := 13) rfl)), (List.forall_mem_cons.mpr ⟨(ip_wsX9_flag__wsX9_flag_r1 _ (List.mem_of_getElem? (i := 8) rfl)), (List.forall_mem_cons.mpr ⟨(ip_wsX9_flag__wsX9_flag_r1 _ (List.mem_of_getElem? (i := 14) rfl)), (List.forall_mem_cons.mpr ⟨(ip_wsX9_flag__wsX9_flag_r1 _ (List.mem_of_getElem? (i := 15) rfl)), (List.forall_mem_cons.mpr ⟨(ip_wsX9_flag__wsX9_flag_r1 _ (List.mem_of_getElem? (i := 16) rfl)), (List.forall_mem_cons.mpr ⟨(ip_wsX9_flag__wsX9_flag_r1 _ (List.mem_of_getElem? (i := 17) rfl)), (List.forall_mem_cons.mpr ⟨(ip_wsX9_flag__wsX9_flag_r1 _ (List.mem_of_getElem? (i := 4) rfl)), (List.forall_mem_cons.mpr ⟨(ip_wsX9_flag__wsX9_flag_r1 _ (List.mem_of_getElem? (i := 18) rfl)), (List.forall_mem_cons.mpr ⟨(ip_wsX9_flag__wsX9_flag_r1 _ (List.mem_of_getElem? (i := 19) rfl)), (List.forall_mem_cons.mpr ⟨(ip_wsX9_flag__wsX9_flag_r1 _ (List.mem_of_getElem? (i := 20) rfl)), (List.forall_mem_cons.mpr ⟨(ip_wsX9_flag__wsX9_flag_r1 _ (List.mem_of_getElem? (i := 21) rfl)), (List.forall_mem_cons.mpr ⟨(ip_wsX9_flag__wsX9_flag_r1 _ (List.mem_of_getElem? (i := 22) rfl)), (List.forall_mem_cons.mpr ⟨(ip_wsX9_flag__wsX9_flag_r1 _ (List.mem_of_getElem? (i := 23) rfl)), (List.forall_mem_cons.mpr ⟨(ip_wsX9_flag__wsX9_flag_r2 _ (List.mem_of_getElem? (i := 0) rfl)), (List.forall_mem_cons.mpr ⟨(ip_wsX9_flag__wsX9_flag_r2 _ (List.mem_of_getElem? (i := 1) rfl)), (List.forall_mem_cons.mpr ⟨(ip_wsX9_flag__wsX9_flag_r2 _ (List.mem_of_getElem? (i := 2) rfl)), (List.forall_mem_cons.mpr ⟨(ip_wsX9_flag__wsX9_flag_r2 _ (List.mem_of_getElem? (i := 3) rfl)), (List.forall_mem_cons.mpr ⟨(ip_wsX9_flag__wsX9_flag_r2 _ (List.mem_of_getElem? (i := 4) rfl)), (List.forall_mem_cons.mpr ⟨(ip_wsX9_flag__wsX9_flag_r2 _ (List.mem_of_getElem? (i := 5) rfl)), (List.forall_mem_cons.mpr ⟨(ip_wsX9_flag__wsX9_flag_r2 _ (List.mem_of_getElem? (i := 6) rfl)), (List.forall_mem_cons.mpr ⟨(ip_wsX9_flag__wsX9_flag_r2 _ (List.mem_of_getElem? (i := 7) rfl)), (fun _ h => absurd h List.not_mem_nil)⟩)⟩)⟩)⟩)⟩)⟩)⟩)⟩)⟩)⟩)⟩)⟩)⟩)⟩)⟩)⟩)⟩)⟩)⟩)⟩)⟩)⟩)⟩)⟩)) (x_ap2 (show ∀ w ∈ wsX9_isGood_r2, w ∈ wsX9_flag from (List.forall_mem_cons.mpr ⟨(ip_wsX9_flag__wsX9_flag_r2 _ (List.mem_of_getElem? (i := 8) rfl)), (List.forall_mem_cons.mpr ⟨(ip_wsX9_flag__wsX9_flag_r2 _ (List.mem_of_getElem? (i := 9) rfl)), (List.forall_mem_cons.mpr ⟨(ip_wsX9_flag__wsX9_flag_r2 _ (List.mem_of_getElem? (i := 10) rfl)), (List.forall_mem_cons.mpr ⟨(ip_wsX9_flag__wsX9_flag_r2 _ (List.mem_of_getElem? (i := 11) rfl)), (List.forall_mem_cons.mpr ⟨(ip_wsX9_flag__wsX9_flag_r2 _ (List.mem_of_getElem? (i := 12) rfl)), (List.forall_mem_cons.mpr ⟨(ip_wsX9_flag__wsX9_flag_r2 _ (List.mem_of_getElem? (i := 13) rfl)), (List.forall_mem_cons.mpr ⟨(ip_wsX9_flag__wsX9_flag_r2 _ (List.mem_of_getElem? (i := 14) rfl)), (List.forall_mem_cons.mpr ⟨(ip_wsX9_flag__wsX9_flag_r2 _ (List.mem_of_getElem? (i := 15) rfl)), (List.forall_mem_cons.mpr ⟨(ip_wsX9_flag__wsX9_flag_r2 _ (List.mem_of_getElem? (i := 16) rfl)), (List.forall_mem_cons.mpr ⟨(ip_wsX9_flag__wsX9_flag_r2 _ (List.mem_of_getElem? (i := 17) rfl)), (List.forall_mem_cons.mpr ⟨(ip_wsX9_flag__wsX9_flag_r2 _ (List.mem_of_getElem? (i := 18) rfl)), (List.forall_mem_cons.mpr ⟨(ip_wsX9_flag__wsX9_flag_r2 _ (List.mem_of_getElem? (i := 19) rfl)), (List.forall_mem_cons.mpr ⟨(ip_wsX9_flag__wsX9_flag_r2 _ (List.mem_of_getElem? (i := 20) rfl)), (List.forall_mem_cons.mpr ⟨(ip_wsX9_flag__wsX9_flag_r2 _ (List.mem_of_getElem? (i := 21) rfl)), (List.forall_mem_cons.mpr ⟨(ip_wsX9_flag__wsX9_flag_r2 _ (List.mem_of_getElem? (i := 22) rfl)), (List.forall_mem_cons.mpr ⟨(ip_wsX9_flag__wsX9_flag_r2 _ (List.mem_of_getElem? (i := 23) rfl)), (List.forall_mem_cons.mpr ⟨(ip_wsX9_flag__wsX9_flag_r3 _ (List.mem_of_getElem? (i := 0) rfl)), (List.forall_mem_cons.mpr ⟨(ip_wsX9_flag__wsX9_flag_r3 _ (List.mem_of_getElem? (i := 1) rfl)), (List.forall_mem_cons.mpr ⟨(ip_wsX9_flag__wsX9_flag_r3 _ (List.mem_of_getElem? (i := 2) rfl)), (List.forall_mem_cons.mpr ⟨(ip_wsX9_flag__wsX9_flag_r3 _ (List.mem_of_getElem? (i := 3) rfl)), (List.forall_mem_cons.mpr ⟨(ip_wsX9_flag__wsX9_flag_r3 _ (List.mem_of_getElem? (i := 4) rfl)), (List.forall_mem_cons.mpr ⟨(ip_wsX9_flag__wsX9_flag_r3 _ (List.mem_of_getElem? (i := 5) rfl)), (List.forall_mem_cons.mpr ⟨(ip_wsX9_flag__wsX9_flag_r3 _ (List.mem_of_getElem? (i := 6) rfl)), (List.forall_mem_cons.mpr ⟨(ip_wsX9_flag__wsX9_flag_r3 _ (List.mem_of_getElem? (i := 7) rfl)), (fun _ h => absurd h List.not_mem_nil)⟩)⟩)⟩)⟩)⟩)⟩)⟩)⟩)⟩)⟩)⟩)⟩)⟩)⟩)⟩)⟩)⟩)⟩)⟩)⟩)⟩)⟩)⟩)⟩)) (x_ap2 (show ∀ w ∈ wsX9_isGood_r3, w ∈ wsX9_flag from (List.forall_mem_cons.mpr ⟨(ip_wsX9_flag__wsX9_flag_r3 _ (List.mem_of_getElem? (i := 8) rfl)), (List.forall_mem_cons.mpr ⟨(ip_wsX9_flag__wsX9_flag_r3 _ (List.mem_of_getElem? (i := 9) rfl)), (List.forall_mem_cons.mpr ⟨(ip_wsX9_flag__wsX9_flag_r3 _ (List.mem_of_getElem? (i := 10) rfl)), (List.forall_mem_cons.mpr ⟨(ip_wsX9_flag__wsX9_flag_r3 _ (List.mem_of_getElem? (i := 11) rfl)), (List.forall_mem_cons.mpr ⟨(ip_wsX9_flag__wsX9_flag_r3 _ (List.mem_of_getElem? (i := 12) rfl)), (List.forall_mem_cons.mpr ⟨(ip_wsX9_flag__wsX9_flag_r3 _ (List.mem_of_getElem? (i := 13) rfl)), (List.forall_mem_cons.mpr ⟨(ip_wsX9_flag__wsX9_flag_r3 _ (List.mem_of_getElem? (i := 14) rfl)), (List.forall_mem_cons.mpr ⟨(ip_wsX9_flag__wsX9_flag_r3 _ (List.mem_of_getElem? (i := 15) rfl)), (List.forall_mem_cons.mpr ⟨(ip_wsX9_flag__wsX9_flag_r3 _ (List.mem_of_getElem? (i := 16) rfl)), (List.forall_mem_cons.mpr ⟨(ip_wsX9_flag__wsX9_flag_r3 _ (List.mem_of_getElem? (i := 17) rfl)), (List.forall_mem_cons.mpr ⟨(ip_wsX9_flag__wsX9_flag_r3 _ (List.mem_of_getElem? (i := 18) rfl)), (List.forall_mem_cons.mpr ⟨(ip_wsX9_flag__wsX9_flag_r3 _ (List.mem_of_getElem? (i := 19) rfl)), (List.forall_mem_cons.mpr ⟨(ip_wsX9_flag__wsX9_flag_r3 _ (List.mem_of_getElem? (i := 20) rfl)), (List.forall_mem_cons.mpr ⟨(ip_wsX9_flag__wsX9_flag_r3 _ (List.mem_of_getElem? (i := 21) rfl)), (List.forall_mem_cons.mpr ⟨(ip_wsX9_flag__wsX9_flag_r3 _ (List.mem_of_getElem? (i := 22) rfl)), (List.forall_mem_cons.mpr ⟨(ip_wsX9_flag__wsX9_flag_r3 _ (List.mem_of_getElem? (i := 23) rfl)), (List.forall_mem_cons.mpr ⟨(ip_wsX9_flag__wsX9_flag_r4 _ (List.mem_of_getElem? (i := 0) rfl)), (List.forall_mem_cons.mpr ⟨(ip_wsX9_flag__wsX9_flag_r4 _ (List.mem_of_getElem? (i := 1) rfl)), (List.forall_mem_cons.mpr ⟨(ip_wsX9_flag__wsX9_flag_r4 _ (List.mem_of_getElem? (i := 2) rfl)), (List.forall_mem_cons.mpr ⟨(ip_wsX9_flag__wsX9_flag_r4 _ (List.mem_of_getElem? (i := 3) rfl)), (List.forall_mem_cons.mpr ⟨(ip_wsX9_flag__wsX9_flag_r4 _ (List.mem_of_getElem? (i := 4) rfl)), (List.forall_mem_cons.mpr ⟨(ip_wsX9_flag__wsX9_flag_r1 _ (List.mem_of_getElem? (i := 1) rfl)), (List.forall_mem_cons.mpr ⟨(ip_wsX9_flag__wsX9_flag_r1 _ (List.mem_of_getElem? (i := 2) rfl)), (List.forall_mem_cons.mpr ⟨(ip_wsX9_flag__wsX9_flag_r1 _ (List.mem_of_getElem? (i := 3) rfl)), (fun _ h => absurd h List.not_mem_nil)⟩)⟩)⟩)⟩)⟩)⟩)⟩)⟩)⟩)⟩)⟩)⟩)⟩)⟩)⟩)⟩)⟩)⟩)⟩)⟩)⟩)⟩)⟩)⟩)) (show ∀ w ∈ wsX9_isGood_r4, w ∈ wsX9_flag from (List.forall_mem_cons.mpr ⟨(ip_wsX9_flag__wsX9_flag_r1 _ (List.mem_of_getElem? (i := 0) rfl)), (List.forall_mem_cons.mpr ⟨(ip_wsX9_flag__wsX9_flag_r4 _ (List.mem_of_getElem? (i := 5) rfl)), (List.forall_mem_cons.mpr ⟨(ip_wsX9_flag__wsX9_flag_r4 _ (List.mem_of_getElem? (i := 6) rfl)), (List.forall_mem_cons.mpr ⟨(ip_wsX9_flag__wsX9_flag_r4 _ (List.mem_of_getElem? (i := 7) rfl)), (List.forall_mem_cons.mpr ⟨(ip_wsX9_flag__wsX9_flag_r4 _ (List.mem_of_getElem? (i := 8) rfl)), (List.forall_mem_cons.mpr ⟨(ip_wsX9_flag__wsX9_flag_r4 _ (List.mem_of_getElem? (i := 9) rfl)), (List.forall_mem_cons.mpr ⟨(ip_wsX9_flag__wsX9_flag_r4 _ (List.mem_of_getElem? (i := 10) rfl)), (List.forall_mem_cons.mpr ⟨(ip_wsX9_flag__wsX9_flag_r4 _ (List.mem_of_getElem? (i := 11) rfl)), (List.forall_mem_cons.mpr ⟨(ip_wsX9_flag__wsX9_flag_r4 _ (List.mem_of_getElem? (i := 12) rfl)), (List.forall_mem_cons.mpr ⟨(ip_wsX9_flag__wsX9_flag_r4 _ (List.mem_of_getElem? (i := 13) rfl)), (List.forall_mem_cons.mpr ⟨(ip_wsX9_flag__wsX9_flag_r4 _ (List.mem_of_getElem? (i := 14) rfl)), (List.forall_mem_cons.mpr ⟨(ip_wsX9_flag__wsX9_flag_r4 _ (List.mem_of_getElem? (i := 15) rfl)), (List.forall_mem_cons.mpr ⟨(ip_wsX9_flag__wsX9_flag_r4 _ (List.mem_of_getElem? (i := 16) rfl)), (List.forall_mem_cons.mpr ⟨(ip_wsX9_flag__wsX9_flag_r4 _ (List.mem_of_getElem? (i := 17) rfl)), (List.forall_mem_cons.mpr ⟨(ip_wsX9_flag__wsX9_flag_r4 _ (List.mem_of_getElem? (i := 18) rfl)), (List.forall_mem_cons.mpr ⟨(ip_wsX9_flag__wsX9_flag_r4 _ (List.mem_of_getElem? (i := 19) rfl)), (List.forall_mem_cons.mpr ⟨(ip_wsX9_flag__wsX9_flag_r4 _ (List.mem_of_getElem? (i := 20) rfl)), (List.forall_mem_cons.mpr ⟨(ip_wsX9_flag__wsX9_flag_r4 _ (List.mem_of_getElem? (i := 21) rfl)), (fun _ h => absurd h List.not_mem_nil)⟩)⟩)⟩)⟩)⟩)⟩)⟩)⟩)⟩)⟩)⟩)⟩)⟩)⟩)⟩)⟩)⟩)⟩))))) (fun _ h => (List.mem_cons_of_mem _ (List.mem_append_right _ h))))⟩) (by decide +kernel)
set_option maxRecDepth 20000 in
theorem gX9_flag_X9_isGood : GoodIn wsX9_flag (wsV RX9 109 RX9 yX9_isGood wsX9_isGood) := goodIn_app (goodIn_of _ (by decide +kernel)) ggX9_flag_X9_isGood
set_option maxRecDepth 20000 in
theorem ggX9_flag_X9_isFlag : GoodIn wsX9_flag wsX9_isFlag := goodIn_sub (List.forall_mem_cons.mpr ⟨(ip_wsX9_flag__wsX9_flag_r5 _ (List.mem_of_getElem? (i := 1) rfl)), (x_ap2 (List.forall_mem_cons.mpr ⟨(ip_wsX9_flag__wsX9_flag_r1 _ (List.mem_of_getElem? (i := 17) rfl)), (List.forall_mem_cons.mpr ⟨(ip_wsX9_flag__wsX9_flag_r5 _ (List.mem_of_getElem? (i := 2) rfl)), (List.forall_mem_cons.mpr ⟨(ip_wsX9_flag__wsX9_flag_r5 _ (List.mem_of_getElem? (i := 3) rfl)), (List.forall_mem_cons.mpr ⟨(ip_wsX9_flag__wsX9_flag_r1 _ (List.mem_of_getElem? (i := 8) rfl)), (List.forall_mem_cons.mpr ⟨(ip_wsX9_flag__wsX9_flag_r5 _ (List.mem_of_getElem? (i := 4) rfl)), (fun _ h => absurd h List.not_mem_nil)⟩)⟩)⟩)⟩)⟩) (fun _ h => (List.mem_cons_of_mem _ (List.mem_append_right _ h))))⟩) (by decide +kernel)
set_option maxRecDepth 20000 in
theorem gX9_flag_X9_isFlag : GoodIn wsX9_flag (wsV RX9 166 RX9 yX9_isFlag wsX9_isFlag) := goodIn_app (goodIn_of _ (by decide +kernel)) ggX9_flag_X9_isFlag
set_option maxRecDepth 20000 in
theorem ggX9_flag_X9_ahead : GoodIn wsX9_flag wsX9_ahead := goodIn_sub (List.forall_mem_cons.mpr ⟨(ip_wsX9_flag__wsX9_flag_r5 _ (List.mem_of_getElem? (i := 8) rfl)), (x_ap2 (List.forall_mem_cons.mpr ⟨(ip_wsX9_flag__wsX9_flag_r1 _ (List.mem_of_getElem? (i := 17) rfl)), (List.forall_mem_cons.mpr ⟨(ip_wsX9_flag__wsX9_flag_r1 _ (List.mem_of_getElem? (i := 4) rfl)), (fun _ h => absurd h List.not_mem_nil)⟩)⟩) (fun _ h => (List.mem_cons_of_mem _ (List.mem_append_right _ h))))⟩) (by decide +kernel)
set_option maxRecDepth 20000 in
theorem gX9_flag_X9_ahead : GoodIn wsX9_flag (wsV RX9 169 RX9 yX9_ahead wsX9_ahead) := goodIn_app (goodIn_of _ (by decide +kernel)) ggX9_flag_X9_ahead
theorem dX9_flag_0 : decode cX9_flag 0 = .ok (.aload_n 0, 1) := by decide +kernel
theorem dX9_flag_1 : decode cX9_flag 1 = .ok (.invokevirtual 109, 3) := by decide +kernel
theorem dX9_flag_4 : decode cX9_flag 4 = .ok (.ifCond .ne 6, 3) := by decide +kernel
theorem dX9_flag_7 : decode cX9_flag 7 = .ok (.bipush (-5), 2) := by decide +kernel
theorem dX9_flag_9 : decode cX9_flag 9 = .ok (.ireturn, 1) := by decide +kernel
theorem dX9_flag_10 : decode cX9_flag 10 = .ok (.aload_n 0, 1) := by decide +kernel
theorem dX9_flag_11 : decode cX9_flag 11 = .ok (.iload_n 1, 1) := by decide +kernel
theorem dX9_flag_12 : decode cX9_flag 12 = .ok (.invokevirtual 166, 3) := by decide +kernel
theorem dX9_flag_15 : decode cX9_flag 15 = .ok (.ifCond .ne 5, 3) := by decide +kernel
theorem dX9_flag_18 : decode cX9_flag 18 = .ok (.iconst (-1), 1) := by decide +kernel
theorem dX9_flag_19 : decode cX9_flag 19 = .ok (.ireturn, 1) := by decide +kernel
theorem dX9_flag_20 : decode cX9_flag 20 = .ok (.iload_n 2, 1) := by decide +kernel
theorem dX9_flag_21 : decode cX9_flag 21 = .ok (.tableswitch 80 0 5 #[39, 46, 53, 60, 67, 74], 39) := by decide +kernel
theorem dX9_flag_60 : decode cX9_flag 60 = .ok (.aload_n 0, 1) := by decide +kernel
theorem dX9_flag_61 : decode cX9_flag 61 = .ok (.getfield 32, 3) := by decide +kernel
theorem dX9_flag_64 : decode cX9_flag 64 = .ok (.iload_n 1, 1) := by decide +kernel
theorem dX9_flag_65 : decode cX9_flag 65 = .ok (.iaload, 1) := by decide +kernel
theorem dX9_flag_66 : decode cX9_flag 66 = .ok (.ireturn, 1) := by decide +kernel
theorem dX9_flag_67 : decode cX9_flag 67 = .ok (.aload_n 0, 1) := by decide +kernel
theorem dX9_flag_68 : decode cX9_flag 68 = .ok (.getfield 35, 3) := by decide +kernel
theorem dX9_flag_71 : decode cX9_flag 71 = .ok (.iload_n 1, 1) := by decide +kernel
theorem dX9_flag_72 : decode cX9_flag 72 = .ok (.iaload, 1) := by decide +kernel
theorem dX9_flag_73 : decode cX9_flag 73 = .ok (.ireturn, 1) := by decide +kernel
theorem dX9_flag_74 : decode cX9_flag 74 = .ok (.aload_n 0, 1) := by decide +kernel
theorem dX9_flag_75 : decode cX9_flag 75 = .ok (.getfield 38, 3) := by decide +kernel
theorem dX9_flag_78 : decode cX9_flag 78 = .ok (.iload_n 1, 1) := by decide +kernel
theorem dX9_flag_79 : decode cX9_flag 79 = .ok (.iaload, 1) := by decide +kernel
theorem dX9_flag_80 : decode cX9_flag 80 = .ok (.ireturn, 1) := by decide +kernel
theorem dX9_flag_81 : decode cX9_flag 81 = .ok (.aload_n 0, 1) := by decide +kernel
theorem dX9_flag_82 : decode cX9_flag 82 = .ok (.getfield 41, 3) := by decide +kernel
theorem dX9_flag_85 : decode cX9_flag 85 = .ok (.iload_n 1, 1) := by decide +kernel
theorem dX9_flag_86 : decode cX9_flag 86 = .ok (.iaload, 1) := by decide +kernel
theorem dX9_flag_87 : decode cX9_flag 87 = .ok (.ireturn, 1) := by decide +kernel
theorem dX9_flag_88 : decode cX9_flag 88 = .ok (.aload_n 0, 1) := by decide +kernel
theorem dX9_flag_89 : decode cX9_flag 89 = .ok (.getfield 44, 3) := by decide +kernel
theorem dX9_flag_92 : decode cX9_flag 92 = .ok (.iload_n 1, 1) := by decide +kernel
theorem dX9_flag_93 : decode cX9_flag 93 = .ok (.iaload, 1) := by decide +kernel
theorem dX9_flag_94 : decode cX9_flag 94 = .ok (.ireturn, 1) := by decide +kernel
theorem dX9_flag_95 : decode cX9_flag 95 = .ok (.aload_n 0, 1) := by decide +kernel
theorem dX9_flag_96 : decode cX9_flag 96 = .ok (.iload_n 1, 1) := by decide +kernel
theorem dX9_flag_97 : decode cX9_flag 97 = .ok (.invokevirtual 169, 3) := by decide +kernel
theorem dX9_flag_100 : decode cX9_flag 100 = .ok (.ireturn, 1) := by decide +kernel
theorem dX9_flag_101 : decode cX9_flag 101 = .ok (.bipush (-2), 2) := by decide +kernel
theorem dX9_flag_103 : decode cX9_flag 103 = .ok (.ireturn, 1) := by decide +kernel
theorem dX9_ringOf_0 : decode cX9_ringOf 0 = .ok (.iconst 1, 1) := by decide +kernel
theorem dX9_ringOf_1 : decode cX9_ringOf 1 = .ok (.istore_n 2, 1) := by decide +kernel
theorem dX9_ringOf_2 : decode cX9_ringOf 2 = .ok (.aload_n 0, 1) := by decide +kernel
theorem dX9_ringOf_3 : decode cX9_ringOf 3 = .ok (.getfield 44, 3) := by decide +kernel
theorem dX9_ringOf_6 : decode cX9_ringOf 6 = .ok (.iload_n 1, 1) := by decide +kernel
theorem dX9_ringOf_7 : decode cX9_ringOf 7 = .ok (.iaload, 1) := by decide +kernel
theorem dX9_ringOf_8 : decode cX9_ringOf 8 = .ok (.istore_n 3, 1) := by decide +kernel
theorem dX9_ringOf_9 : decode cX9_ringOf 9 = .ok (.iload_n 3, 1) := by decide +kernel
theorem dX9_ringOf_10 : decode cX9_ringOf 10 = .ok (.iload_n 1, 1) := by decide +kernel
theorem dX9_ringOf_11 : decode cX9_ringOf 11 = .ok (.if_icmp .eq 23, 3) := by decide +kernel
theorem dX9_ringOf_14 : decode cX9_ringOf 14 = .ok (.iload_n 2, 1) := by decide +kernel
theorem dX9_ringOf_15 : decode cX9_ringOf 15 = .ok (.sipush 400, 3) := by decide +kernel
theorem dX9_ringOf_18 : decode cX9_ringOf 18 = .ok (.if_icmp .gt 16, 3) := by decide +kernel
theorem dX9_ringOf_21 : decode cX9_ringOf 21 = .ok (.iinc 2 1, 3) := by decide +kernel
theorem dX9_ringOf_24 : decode cX9_ringOf 24 = .ok (.aload_n 0, 1) := by decide +kernel
theorem dX9_ringOf_25 : decode cX9_ringOf 25 = .ok (.getfield 44, 3) := by decide +kernel
theorem dX9_ringOf_28 : decode cX9_ringOf 28 = .ok (.iload_n 3, 1) := by decide +kernel
theorem dX9_ringOf_29 : decode cX9_ringOf 29 = .ok (.iaload, 1) := by decide +kernel
theorem dX9_ringOf_30 : decode cX9_ringOf 30 = .ok (.istore_n 3, 1) := by decide +kernel
theorem dX9_ringOf_31 : decode cX9_ringOf 31 = .ok (.goto (-22), 3) := by decide +kernel
theorem dX9_ringOf_34 : decode cX9_ringOf 34 = .ok (.iload_n 2, 1) := by decide +kernel
theorem dX9_ringOf_35 : decode cX9_ringOf 35 = .ok (.ireturn, 1) := by decide +kernel
set_option maxRecDepth 20000 in
theorem ggX9_onFrom_X9_ringOf : GoodIn wsX9_onFrom wsX9_ringOf := goodIn_sub (List.forall_mem_cons.mpr ⟨(List.mem_cons_of_mem _ (List.mem_append_left _ (List.mem_of_getElem? (i := 5) rfl))), (x_ap2 (List.forall_mem_cons.mpr ⟨(List.mem_cons_of_mem _ (List.mem_append_left _ (List.mem_of_getElem? (i := 0) rfl))), (fun _ h => absurd h List.not_mem_nil)⟩) (fun _ h => (List.mem_cons_of_mem _ (List.mem_append_right _ h))))⟩) (by decide +kernel)
set_option maxRecDepth 20000 in
theorem gX9_onFrom_X9_ringOf : GoodIn wsX9_onFrom (wsV RX9 172 RX9 yX9_ringOf wsX9_ringOf) := goodIn_app (goodIn_of _ (by decide +kernel)) ggX9_onFrom_X9_ringOf
theorem dX9_onFrom_0 : decode cX9_onFrom 0 = .ok (.iload_n 1, 1) := by decide +kernel
theorem dX9_onFrom_1 : decode cX9_onFrom 1 = .ok (.istore_n 3, 1) := by decide +kernel
theorem dX9_onFrom_2 : decode cX9_onFrom 2 = .ok (.iload_n 2, 1) := by decide +kernel
theorem dX9_onFrom_3 : decode cX9_onFrom 3 = .ok (.aload_n 0, 1) := by decide +kernel
theorem dX9_onFrom_4 : decode cX9_onFrom 4 = .ok (.iload_n 1, 1) := by decide +kernel
theorem dX9_onFrom_5 : decode cX9_onFrom 5 = .ok (.invokevirtual 172, 3) := by decide +kernel
theorem dX9_onFrom_8 : decode cX9_onFrom 8 = .ok (.irem, 1) := by decide +kernel
theorem dX9_onFrom_9 : decode cX9_onFrom 9 = .ok (.istore 4, 2) := by decide +kernel
theorem dX9_onFrom_11 : decode cX9_onFrom 11 = .ok (.iload 4, 2) := by decide +kernel
theorem dX9_onFrom_13 : decode cX9_onFrom 13 = .ok (.ifCond .le 16, 3) := by decide +kernel
theorem dX9_onFrom_16 : decode cX9_onFrom 16 = .ok (.aload_n 0, 1) := by decide +kernel
theorem dX9_onFrom_17 : decode cX9_onFrom 17 = .ok (.getfield 44, 3) := by decide +kernel
theorem dX9_onFrom_20 : decode cX9_onFrom 20 = .ok (.iload_n 3, 1) := by decide +kernel
theorem dX9_onFrom_21 : decode cX9_onFrom 21 = .ok (.iaload, 1) := by decide +kernel
theorem dX9_onFrom_22 : decode cX9_onFrom 22 = .ok (.istore_n 3, 1) := by decide +kernel
theorem dX9_onFrom_23 : decode cX9_onFrom 23 = .ok (.iinc 4 (-1), 3) := by decide +kernel
theorem dX9_onFrom_26 : decode cX9_onFrom 26 = .ok (.goto (-15), 3) := by decide +kernel
theorem dX9_onFrom_29 : decode cX9_onFrom 29 = .ok (.iload_n 3, 1) := by decide +kernel
theorem dX9_onFrom_30 : decode cX9_onFrom 30 = .ok (.ireturn, 1) := by decide +kernel
theorem ip_wsX9_go__wsX9_go_r1 : ∀ w ∈ wsX9_go_r1, w ∈ wsX9_go := fun _ h => (List.mem_cons_of_mem _ (List.mem_append_left _ (List.mem_append_left _ h)))
theorem ip_wsX9_go__wsX9_go_r2 : ∀ w ∈ wsX9_go_r2, w ∈ wsX9_go := fun _ h => (List.mem_cons_of_mem _ (List.mem_append_left _ (List.mem_append_right _ (List.mem_append_left _ h))))
theorem ip_wsX9_go__wsX9_go_r3 : ∀ w ∈ wsX9_go_r3, w ∈ wsX9_go := fun _ h => (List.mem_cons_of_mem _ (List.mem_append_left _ (List.mem_append_right _ (List.mem_append_right _ (List.mem_append_left _ h)))))
theorem ip_wsX9_go__wsX9_go_r4 : ∀ w ∈ wsX9_go_r4, w ∈ wsX9_go := fun _ h => (List.mem_cons_of_mem _ (List.mem_append_left _ (List.mem_append_right _ (List.mem_append_right _ (List.mem_append_right _ (List.mem_append_left _ h))))))
theorem ip_wsX9_go__wsX9_go_r5 : ∀ w ∈ wsX9_go_r5, w ∈ wsX9_go := fun _ h => (List.mem_cons_of_mem _ (List.mem_append_left _ (List.mem_append_right _ (List.mem_append_right _ (List.mem_append_right _ (List.mem_append_right _ h))))))
set_option maxRecDepth 20000 in
theorem ggX9_go_X9_isGood : GoodIn wsX9_go wsX9_isGood := goodIn_sub (List.forall_mem_cons.mpr ⟨(ip_wsX9_go__wsX9_go_r1 _ (List.mem_of_getElem? (i := 5) rfl)), (x_ap2 (x_ap2 (show ∀ w ∈ wsX9_isGood_r1, w ∈ wsX9_go from (List.forall_mem_cons.mpr ⟨(ip_wsX9_go__wsX9_go_r1 _ (List.mem_of_getElem? (i := 6) rfl)), (List.forall_mem_cons.mpr ⟨(ip_wsX9_go__wsX9_go_r1 _ (List.mem_of_getElem? (i := 7) rfl)), (List.forall_mem_cons.mpr ⟨(ip_wsX9_go__wsX9_go_r1 _ (List.mem_of_getElem? (i := 8) rfl)), (List.forall_mem_cons.mpr ⟨(ip_wsX9_go__wsX9_go_r1 _ (List.mem_of_getElem? (i := 9) rfl)), (List.forall_mem_cons.mpr ⟨(ip_wsX9_go__wsX9_go_r1 _ (List.mem_of_getElem? (i := 4) rfl)), (List.forall_mem_cons.mpr ⟨(ip_wsX9_go__wsX9_go_r1 _ (List.mem_of_getElem? (i := 10) rfl)), (List.forall_mem_cons.mpr ⟨(ip_wsX9_go__wsX9_go_r1 _ (List.mem_of_getElem? (i := 11) rfl)), (List.forall_mem_cons.mpr ⟨(ip_wsX9_go__wsX9_go_r1 _ (List.mem_of_getElem? (i := 12) rfl)), (List.forall_mem_cons.mpr ⟨(ip_wsX9_go__wsX9_go_r1 _ (List.mem_of_getElem? (i := 13) rfl)), (List.forall_mem_cons.mpr ⟨(ip_wsX9_go__wsX9_go_r1 _ (List.mem_of_getElem? (i := 14) rfl)), (List.forall_mem_cons.mpr ⟨(ip_wsX9_go__wsX9_go_r1 _ (List.mem_of_getElem? (i := 15) rfl)), (List.forall_mem_cons.mpr ⟨(ip_wsX9_go__wsX9_go_r1 _ (List.mem_of_getElem? (i := 16) rfl)), (List.forall_mem_cons.mpr ⟨(ip_wsX9_go__wsX9_go_r1 _ (List.mem_of_getElem? (i := 17) rfl)), (List.forall_mem_cons.mpr ⟨(ip_wsX9_go__wsX9_go_r1 _ (List.mem_of_getElem? (i := 18) rfl)), (List.forall_mem_cons.mpr ⟨(ip_wsX9_go__wsX9_go_r1 _ (List.mem_of_getElem? (i := 19) rfl)), (List.forall_mem_cons.mpr ⟨(ip_wsX9_go__wsX9_go_r1 _ (List.mem_of_getElem? (i := 20) rfl)), (List.forall_mem_cons.mpr ⟨(ip_wsX9_go__wsX9_go_r1 _ (List.mem_of_getElem? (i := 21) rfl)), (List.forall_mem_cons.mpr ⟨(ip_wsX9_go__wsX9_go_r1 _ (List.mem_of_getElem? (i := 22) rfl)), (List.forall_mem_cons.mpr ⟨(ip_wsX9_go__wsX9_go_r1 _ (List.mem_of_getElem? (i := 23) rfl)), (List.forall_mem_cons.mpr ⟨(ip_wsX9_go__wsX9_go_r2 _ (List.mem_of_getElem? (i := 0) rfl)), (List.forall_mem_cons.mpr ⟨(ip_wsX9_go__wsX9_go_r2 _ (List.mem_of_getElem? (i := 1) rfl)), (List.forall_mem_cons.mpr ⟨(ip_wsX9_go__wsX9_go_r2 _ (List.mem_of_getElem? (i := 2) rfl)), (List.forall_mem_cons.mpr ⟨(ip_wsX9_go__wsX9_go_r2 _ (List.mem_of_getElem? (i := 3) rfl)), (List.forall_mem_cons.mpr ⟨(ip_wsX9_go__wsX9_go_r2 _ (List.mem_of_getElem? (i := 4) rfl)), (fun _ h => absurd h List.not_mem_nil)⟩)⟩)⟩)⟩)⟩)⟩)⟩)⟩)⟩)⟩)⟩)⟩)⟩)⟩)⟩)⟩)⟩)⟩)⟩)⟩)⟩)⟩)⟩)⟩)) (x_ap2 (show ∀ w ∈ wsX9_isGood_r2, w ∈ wsX9_go from (List.forall_mem_cons.mpr ⟨(ip_wsX9_go__wsX9_go_r2 _ (List.mem_of_getElem? (i := 5) rfl)), (List.forall_mem_cons.mpr ⟨(ip_wsX9_go__wsX9_go_r2 _ (List.mem_of_getElem? (i := 6) rfl)), (List.forall_mem_cons.mpr ⟨(ip_wsX9_go__wsX9_go_r2 _ (List.mem_of_getElem? (i := 7) rfl)), (List.forall_mem_cons.mpr ⟨(ip_wsX9_go__wsX9_go_r2 _ (List.mem_of_getElem? (i := 8) rfl)), (List.forall_mem_cons.mpr ⟨(ip_wsX9_go__wsX9_go_r2 _ (List.mem_of_getElem? (i := 9) rfl)), (List.forall_mem_cons.mpr ⟨(ip_wsX9_go__wsX9_go_r2 _ (List.mem_of_getElem? (i := 10) rfl)), (List.forall_mem_cons.mpr ⟨(ip_wsX9_go__wsX9_go_r2 _ (List.mem_of_getElem? (i := 11) rfl)), (List.forall_mem_cons.mpr ⟨(ip_wsX9_go__wsX9_go_r2 _ (List.mem_of_getElem? (i := 12) rfl)), (List.forall_mem_cons.mpr ⟨(ip_wsX9_go__wsX9_go_r2 _ (List.mem_of_getElem? (i := 13) rfl)), (List.forall_mem_cons.mpr ⟨(ip_wsX9_go__wsX9_go_r2 _ (List.mem_of_getElem? (i := 14) rfl)), (List.forall_mem_cons.mpr ⟨(ip_wsX9_go__wsX9_go_r2 _ (List.mem_of_getElem? (i := 15) rfl)), (List.forall_mem_cons.mpr ⟨(ip_wsX9_go__wsX9_go_r2 _ (List.mem_of_getElem? (i := 16) rfl)), (List.forall_mem_cons.mpr ⟨(ip_wsX9_go__wsX9_go_r2 _ (List.mem_of_getElem? (i := 17) rfl)), (List.forall_mem_cons.mpr ⟨(ip_wsX9_go__wsX9_go_r2 _ (List.mem_of_getElem? (i := 18) rfl)), (List.forall_mem_cons.mpr ⟨(ip_wsX9_go__wsX9_go_r2 _ (List.mem_of_getElem? (i := 19) rfl)), (List.forall_mem_cons.mpr ⟨(ip_wsX9_go__wsX9_go_r2 _ (List.mem_of_getElem? (i := 20) rfl)), (List.forall_mem_cons.mpr ⟨(ip_wsX9_go__wsX9_go_r2 _ (List.mem_of_getElem? (i := 21) rfl)), (List.forall_mem_cons.mpr ⟨(ip_wsX9_go__wsX9_go_r2 _ (List.mem_of_getElem? (i := 22) rfl)), (List.forall_mem_cons.mpr ⟨(ip_wsX9_go__wsX9_go_r2 _ (List.mem_of_getElem? (i := 23) rfl)), (List.forall_mem_cons.mpr ⟨(ip_wsX9_go__wsX9_go_r3 _ (List.mem_of_getElem? (i := 0) rfl)), (List.forall_mem_cons.mpr ⟨(ip_wsX9_go__wsX9_go_r3 _ (List.mem_of_getElem? (i := 1) rfl)), (List.forall_mem_cons.mpr ⟨(ip_wsX9_go__wsX9_go_r3 _ (List.mem_of_getElem? (i := 2) rfl)), (List.forall_mem_cons.mpr ⟨(ip_wsX9_go__wsX9_go_r3 _ (List.mem_of_getElem? (i := 3) rfl)), (List.forall_mem_cons.mpr ⟨(ip_wsX9_go__wsX9_go_r3 _ (List.mem_of_getElem? (i := 4) rfl)), (fun _ h => absurd h List.not_mem_nil)⟩)⟩)⟩)⟩)⟩)⟩)⟩)⟩)⟩)⟩)⟩)⟩)⟩)⟩)⟩)⟩)⟩)⟩)⟩)⟩)⟩)⟩)⟩)⟩)) (x_ap2 (show ∀ w ∈ wsX9_isGood_r3, w ∈ wsX9_go from (List.forall_mem_cons.mpr ⟨(ip_wsX9_go__wsX9_go_r3 _ (List.mem_of_getElem? (i := 5) rfl)), (List.forall_mem_cons.mpr ⟨(ip_wsX9_go__wsX9_go_r3 _ (List.mem_of_getElem? (i := 6) rfl)), (List.forall_mem_cons.mpr ⟨(ip_wsX9_go__wsX9_go_r3 _ (List.mem_of_getElem? (i := 7) rfl)), (List.forall_mem_cons.mpr ⟨(ip_wsX9_go__wsX9_go_r3 _ (List.mem_of_getElem? (i := 8) rfl)), (List.forall_mem_cons.mpr ⟨(ip_wsX9_go__wsX9_go_r3 _ (List.mem_of_getElem? (i := 9) rfl)), (List.forall_mem_cons.mpr ⟨(ip_wsX9_go__wsX9_go_r3 _ (List.mem_of_getElem? (i := 10) rfl)), (List.forall_mem_cons.mpr ⟨(ip_wsX9_go__wsX9_go_r3 _ (List.mem_of_getElem? (i := 11) rfl)), (List.forall_mem_cons.mpr ⟨(ip_wsX9_go__wsX9_go_r3 _ (List.mem_of_getElem? (i := 12) rfl)), (List.forall_mem_cons.mpr ⟨(ip_wsX9_go__wsX9_go_r3 _ (List.mem_of_getElem? (i := 13) rfl)), (List.forall_mem_cons.mpr ⟨(ip_wsX9_go__wsX9_go_r3 _ (List.mem_of_getElem? (i := 14) rfl)), (List.forall_mem_cons.mpr ⟨(ip_wsX9_go__wsX9_go_r3 _ (List.mem_of_getElem? (i := 15) rfl)), (List.forall_mem_cons.mpr ⟨(ip_wsX9_go__wsX9_go_r3 _ (List.mem_of_getElem? (i := 16) rfl)), (List.forall_mem_cons.mpr ⟨(ip_wsX9_go__wsX9_go_r3 _ (List.mem_of_getElem? (i := 17) rfl)), (List.forall_mem_cons.mpr ⟨(ip_wsX9_go__wsX9_go_r3 _ (List.mem_of_getElem? (i := 18) rfl)), (List.forall_mem_cons.mpr ⟨(ip_wsX9_go__wsX9_go_r3 _ (List.mem_of_getElem? (i := 19) rfl)), (List.forall_mem_cons.mpr ⟨(ip_wsX9_go__wsX9_go_r3 _ (List.mem_of_getElem? (i := 20) rfl)), (List.forall_mem_cons.mpr ⟨(ip_wsX9_go__wsX9_go_r3 _ (List.mem_of_getElem? (i := 21) rfl)), (List.forall_mem_cons.mpr ⟨(ip_wsX9_go__wsX9_go_r3 _ (List.mem_of_getElem? (i := 22) rfl)), (List.forall_mem_cons.mpr ⟨(ip_wsX9_go__wsX9_go_r3 _ (List.mem_of_getElem? (i := 23) rfl)), (List.forall_mem_cons.mpr ⟨(ip_wsX9_go__wsX9_go_r4 _ (List.mem_of_getElem? (i := 0) rfl)), (List.forall_mem_cons.mpr ⟨(ip_wsX9_go__wsX9_go_r4 _ (List.mem_of_getElem? (i := 1) rfl)), (List.forall_mem_cons.mpr ⟨(ip_wsX9_go__wsX9_go_r4 _ (List.mem_of_getElem? (i := 2) rfl)), (List.forall_mem_cons.mpr ⟨(ip_wsX9_go__wsX9_go_r4 _ (List.mem_of_getElem? (i := 3) rfl)), (List.forall_mem_cons.mpr ⟨(ip_wsX9_go__wsX9_go_r4 _ (List.mem_of_getElem? (i := 4) rfl)), (fun _ h => absurd h List.not_mem_nil)⟩)⟩)⟩)⟩)⟩)⟩)⟩)⟩)⟩)⟩)⟩)⟩)⟩)⟩)⟩)⟩)⟩)⟩)⟩)⟩)⟩)⟩)⟩)⟩)) (show ∀ w ∈ wsX9_isGood_r4, w ∈ wsX9_go from (List.forall_mem_cons.mpr ⟨(ip_wsX9_go__wsX9_go_r4 _ (List.mem_of_getElem? (i := 5) rfl)), (List.forall_mem_cons.mpr ⟨(ip_wsX9_go__wsX9_go_r4 _ (List.mem_of_getElem? (i := 6) rfl)), (List.forall_mem_cons.mpr ⟨(ip_wsX9_go__wsX9_go_r4 _ (List.mem_of_getElem? (i := 7) rfl)), (List.forall_mem_cons.mpr ⟨(ip_wsX9_go__wsX9_go_r4 _ (List.mem_of_getElem? (i := 8) rfl)), (List.forall_mem_cons.mpr ⟨(ip_wsX9_go__wsX9_go_r4 _ (List.mem_of_getElem? (i := 9) rfl)), (List.forall_mem_cons.mpr ⟨(ip_wsX9_go__wsX9_go_r4 _ (List.mem_of_getElem? (i := 10) rfl)), (List.forall_mem_cons.mpr ⟨(ip_wsX9_go__wsX9_go_r4 _ (List.mem_of_getElem? (i := 11) rfl)), (List.forall_mem_cons.mpr ⟨(ip_wsX9_go__wsX9_go_r4 _ (List.mem_of_getElem? (i := 12) rfl)), (List.forall_mem_cons.mpr ⟨(ip_wsX9_go__wsX9_go_r4 _ (List.mem_of_getElem? (i := 13) rfl)), (List.forall_mem_cons.mpr ⟨(ip_wsX9_go__wsX9_go_r4 _ (List.mem_of_getElem? (i := 14) rfl)), (List.forall_mem_cons.mpr ⟨(ip_wsX9_go__wsX9_go_r4 _ (List.mem_of_getElem? (i := 15) rfl)), (List.forall_mem_cons.mpr ⟨(ip_wsX9_go__wsX9_go_r4 _ (List.mem_of_getElem? (i := 16) rfl)), (List.forall_mem_cons.mpr ⟨(ip_wsX9_go__wsX9_go_r4 _ (List.mem_of_getElem? (i := 17) rfl)), (List.forall_mem_cons.mpr ⟨(ip_wsX9_go__wsX9_go_r4 _ (List.mem_of_getElem? (i := 18) rfl)), (List.forall_mem_cons.mpr ⟨(ip_wsX9_go__wsX9_go_r4 _ (List.mem_of_getElem? (i := 19) rfl)), (List.forall_mem_cons.mpr ⟨(ip_wsX9_go__wsX9_go_r4 _ (List.mem_of_getElem? (i := 20) rfl)), (List.forall_mem_cons.mpr ⟨(ip_wsX9_go__wsX9_go_r4 _ (List.mem_of_getElem? (i := 21) rfl)), (List.forall_mem_cons.mpr ⟨(ip_wsX9_go__wsX9_go_r4 _ (List.mem_of_getElem? (i := 22) rfl)), (fun _ h => absurd h List.not_mem_nil)⟩)⟩)⟩)⟩)⟩)⟩)⟩)⟩)⟩)⟩)⟩)⟩)⟩)⟩)⟩)⟩)⟩)⟩))))) (fun _ h => (List.mem_cons_of_mem _ (List.mem_append_right _ h))))⟩) (by decide +kernel)
set_option maxRecDepth 20000 in
theorem gX9_go_X9_isGood : GoodIn wsX9_go (wsV RX9 109 RX9 yX9_isGood wsX9_isGood) := goodIn_app (goodIn_of _ (by decide +kernel)) ggX9_go_X9_isGood
set_option maxRecDepth 20000 in
theorem ggX9_go_X9_isFlag : GoodIn wsX9_go wsX9_isFlag := goodIn_sub (List.forall_mem_cons.mpr ⟨(ip_wsX9_go__wsX9_go_r5 _ (List.mem_of_getElem? (i := 2) rfl)), (x_ap2 (List.forall_mem_cons.mpr ⟨(ip_wsX9_go__wsX9_go_r1 _ (List.mem_of_getElem? (i := 13) rfl)), (List.forall_mem_cons.mpr ⟨(ip_wsX9_go__wsX9_go_r5 _ (List.mem_of_getElem? (i := 3) rfl)), (List.forall_mem_cons.mpr ⟨(ip_wsX9_go__wsX9_go_r5 _ (List.mem_of_getElem? (i := 4) rfl)), (List.forall_mem_cons.mpr ⟨(ip_wsX9_go__wsX9_go_r1 _ (List.mem_of_getElem? (i := 4) rfl)), (List.forall_mem_cons.mpr ⟨(ip_wsX9_go__wsX9_go_r5 _ (List.mem_of_getElem? (i := 5) rfl)), (fun _ h => absurd h List.not_mem_nil)⟩)⟩)⟩)⟩)⟩) (fun _ h => (List.mem_cons_of_mem _ (List.mem_append_right _ h))))⟩) (by decide +kernel)
set_option maxRecDepth 20000 in
theorem gX9_go_X9_isFlag : GoodIn wsX9_go (wsV RX9 166 RX9 yX9_isFlag wsX9_isFlag) := goodIn_app (goodIn_of _ (by decide +kernel)) ggX9_go_X9_isFlag
set_option maxRecDepth 20000 in
theorem ggX9_go_X9_in : GoodIn wsX9_go wsX9_in := goodIn_sub (List.forall_mem_cons.mpr ⟨(ip_wsX9_go__wsX9_go_r5 _ (List.mem_of_getElem? (i := 5) rfl)), (fun _ h => absurd h List.not_mem_nil)⟩) (by decide +kernel)
set_option maxRecDepth 20000 in
theorem gX9_go_X9_in : GoodIn wsX9_go (va_wsS RX9 62 yX9_in wsX9_in) := goodIn_app (goodIn_of _ (by decide +kernel)) ggX9_go_X9_in
set_option maxRecDepth 20000 in
theorem ggX9_go_X9_onFrom : GoodIn wsX9_go wsX9_onFrom := goodIn_sub (List.forall_mem_cons.mpr ⟨(ip_wsX9_go__wsX9_go_r5 _ (List.mem_of_getElem? (i := 9) rfl)), (x_ap2 (List.forall_mem_cons.mpr ⟨(ip_wsX9_go__wsX9_go_r1 _ (List.mem_of_getElem? (i := 14) rfl)), (List.forall_mem_cons.mpr ⟨(ip_wsX9_go__wsX9_go_r5 _ (List.mem_of_getElem? (i := 10) rfl)), (List.forall_mem_cons.mpr ⟨(ip_wsX9_go__wsX9_go_r5 _ (List.mem_of_getElem? (i := 11) rfl)), (List.forall_mem_cons.mpr ⟨(ip_wsX9_go__wsX9_go_r5 _ (List.mem_of_getElem? (i := 12) rfl)), (List.forall_mem_cons.mpr ⟨(ip_wsX9_go__wsX9_go_r1 _ (List.mem_of_getElem? (i := 4) rfl)), (List.forall_mem_cons.mpr ⟨(ip_wsX9_go__wsX9_go_r5 _ (List.mem_of_getElem? (i := 13) rfl)), (fun _ h => absurd h List.not_mem_nil)⟩)⟩)⟩)⟩)⟩)⟩) (fun _ h => (List.mem_cons_of_mem _ (List.mem_append_right _ h))))⟩) (by decide +kernel)
set_option maxRecDepth 20000 in
theorem gX9_go_X9_onFrom : GoodIn wsX9_go (wsV RX9 176 RX9 yX9_onFrom wsX9_onFrom) := goodIn_app (goodIn_of _ (by decide +kernel)) ggX9_go_X9_onFrom
theorem dX9_go_0 : decode cX9_go 0 = .ok (.aload_n 0, 1) := by decide +kernel
theorem dX9_go_1 : decode cX9_go 1 = .ok (.invokevirtual 109, 3) := by decide +kernel
theorem dX9_go_4 : decode cX9_go 4 = .ok (.ifCond .ne 6, 3) := by decide +kernel
theorem dX9_go_7 : decode cX9_go 7 = .ok (.bipush (-5), 2) := by decide +kernel
theorem dX9_go_9 : decode cX9_go 9 = .ok (.ireturn, 1) := by decide +kernel
theorem dX9_go_10 : decode cX9_go 10 = .ok (.aload_n 0, 1) := by decide +kernel
theorem dX9_go_11 : decode cX9_go 11 = .ok (.iload_n 1, 1) := by decide +kernel
theorem dX9_go_12 : decode cX9_go 12 = .ok (.invokevirtual 166, 3) := by decide +kernel
theorem dX9_go_15 : decode cX9_go 15 = .ok (.ifCond .ne 5, 3) := by decide +kernel
theorem dX9_go_18 : decode cX9_go 18 = .ok (.iconst (-1), 1) := by decide +kernel
theorem dX9_go_19 : decode cX9_go 19 = .ok (.ireturn, 1) := by decide +kernel
theorem dX9_go_20 : decode cX9_go 20 = .ok (.iload_n 2, 1) := by decide +kernel
theorem dX9_go_21 : decode cX9_go 21 = .ok (.iconst 0, 1) := by decide +kernel
theorem dX9_go_22 : decode cX9_go 22 = .ok (.ldc 175, 2) := by decide +kernel
theorem dX9_go_24 : decode cX9_go 24 = .ok (.invokestatic 62, 3) := by decide +kernel
theorem dX9_go_27 : decode cX9_go 27 = .ok (.ifCond .eq 12, 3) := by decide +kernel
theorem dX9_go_30 : decode cX9_go 30 = .ok (.aload_n 0, 1) := by decide +kernel
theorem dX9_go_31 : decode cX9_go 31 = .ok (.iload_n 1, 1) := by decide +kernel
theorem dX9_go_32 : decode cX9_go 32 = .ok (.iload_n 2, 1) := by decide +kernel
theorem dX9_go_33 : decode cX9_go 33 = .ok (.invokevirtual 176, 3) := by decide +kernel
theorem dX9_go_36 : decode cX9_go 36 = .ok (.goto 5, 3) := by decide +kernel
theorem dX9_go_39 : decode cX9_go 39 = .ok (.bipush (-2), 2) := by decide +kernel
theorem dX9_go_41 : decode cX9_go 41 = .ok (.ireturn, 1) := by decide +kernel
theorem ip_wsX9_ring__wsX9_ring_r1 : ∀ w ∈ wsX9_ring_r1, w ∈ wsX9_ring := fun _ h => (List.mem_cons_of_mem _ (List.mem_append_left _ (List.mem_append_left _ h)))
theorem ip_wsX9_ring__wsX9_ring_r2 : ∀ w ∈ wsX9_ring_r2, w ∈ wsX9_ring := fun _ h => (List.mem_cons_of_mem _ (List.mem_append_left _ (List.mem_append_right _ (List.mem_append_left _ h))))
theorem ip_wsX9_ring__wsX9_ring_r3 : ∀ w ∈ wsX9_ring_r3, w ∈ wsX9_ring := fun _ h => (List.mem_cons_of_mem _ (List.mem_append_left _ (List.mem_append_right _ (List.mem_append_right _ (List.mem_append_left _ h)))))
theorem ip_wsX9_ring__wsX9_ring_r4 : ∀ w ∈ wsX9_ring_r4, w ∈ wsX9_ring := fun _ h => (List.mem_cons_of_mem _ (List.mem_append_left _ (List.mem_append_right _ (List.mem_append_right _ (List.mem_append_right _ (List.mem_append_left _ h))))))
theorem ip_wsX9_ring__wsX9_ring_r5 : ∀ w ∈ wsX9_ring_r5, w ∈ wsX9_ring := fun _ h => (List.mem_cons_of_mem _ (List.mem_append_left _ (List.mem_append_right _ (List.mem_append_right _ (List.mem_append_right _ (List.mem_append_right _ h))))))
set_option maxRecDepth 20000 in
theorem ggX9_ring_X9_isGood : GoodIn wsX9_ring wsX9_isGood := goodIn_sub (List.forall_mem_cons.mpr ⟨(ip_wsX9_ring__wsX9_ring_r1 _ (List.mem_of_getElem? (i := 4) rfl)), (x_ap2 (x_ap2 (show ∀ w ∈ wsX9_isGood_r1, w ∈ wsX9_ring from (List.forall_mem_cons.mpr ⟨(ip_wsX9_ring__wsX9_ring_r1 _ (List.mem_of_getElem? (i := 5) rfl)), (List.forall_mem_cons.mpr ⟨(ip_wsX9_ring__wsX9_ring_r1 _ (List.mem_of_getElem? (i := 6) rfl)), (List.forall_mem_cons.mpr ⟨(ip_wsX9_ring__wsX9_ring_r1 _ (List.mem_of_getElem? (i := 7) rfl)), (List.forall_mem_cons.mpr ⟨(ip_wsX9_ring__wsX9_ring_r1 _ (List.mem_of_getElem? (i := 8) rfl)), (List.forall_mem_cons.mpr ⟨(ip_wsX9_ring__wsX9_ring_r1 _ (List.mem_of_getElem? (i := 3) rfl)), (List.forall_mem_cons.mpr ⟨(ip_wsX9_ring__wsX9_ring_r1 _ (List.mem_of_getElem? (i := 9) rfl)), (List.forall_mem_cons.mpr ⟨(ip_wsX9_ring__wsX9_ring_r1 _ (List.mem_of_getElem? (i := 10) rfl)), (List.forall_mem_cons.mpr ⟨(ip_wsX9_ring__wsX9_ring_r1 _ (List.mem_of_getElem? (i := 11) rfl)), (List.forall_mem_cons.mpr ⟨(ip_wsX9_ring__wsX9_ring_r1 _ (List.mem_of_getElem? (i := 12) rfl)), (List.forall_mem_cons.mpr ⟨(ip_wsX9_ring__wsX9_ring_r1 _ (List.mem_of_getElem? (i := 13) rfl)), (List.forall_mem_cons.mpr ⟨(ip_wsX9_ring__wsX9_ring_r1 _ (List.mem_of_getElem? (i := 14) rfl)), (List.forall_mem_cons.mpr ⟨(ip_wsX9_ring__wsX9_ring_r1 _ (List.mem_of_getElem? (i := 15) rfl)), (List.forall_mem_cons.mpr ⟨(ip_wsX9_ring__wsX9_ring_r1 _ (List.mem_of_getElem? (i := 16) rfl)), (List.forall_mem_cons.mpr ⟨(ip_wsX9_ring__wsX9_ring_r1 _ (List.mem_of_getElem? (i := 17) rfl)), (List.forall_mem_cons.mpr ⟨(ip_wsX9_ring__wsX9_ring_r1 _ (List.mem_of_getElem? (i := 18) rfl)), (List.forall_mem_cons.mpr ⟨(ip_wsX9_ring__wsX9_ring_r1 _ (List.mem_of_getElem? (i := 19) rfl)), (List.forall_mem_cons.mpr ⟨(ip_wsX9_ring__wsX9_ring_r1 _ (List.mem_of_getElem? (i := 20) rfl)), (List.forall_mem_cons.mpr ⟨(ip_wsX9_ring__wsX9_ring_r1 _ (List.mem_of_getElem? (i := 21) rfl)), (List.forall_mem_cons.mpr ⟨(ip_wsX9_ring__wsX9_ring_r1 _ (List.mem_of_getElem? (i := 22) rfl)), (List.forall_mem_cons.mpr ⟨(ip_wsX9_ring__wsX9_ring_r1 _ (List.mem_of_getElem? (i := 23) rfl)), (List.forall_mem_cons.mpr ⟨(ip_wsX9_ring__wsX9_ring_r2 _ (List.mem_of_getElem? (i := 0) rfl)), (List.forall_mem_cons.mpr ⟨(ip_wsX9_ring__wsX9_ring_r2 _ (List.mem_of_getElem? (i := 1) rfl)), (List.forall_mem_cons.mpr ⟨(ip_wsX9_ring__wsX9_ring_r2 _ (List.mem_of_getElem? (i := 2) rfl)), (List.forall_mem_cons.mpr ⟨(ip_wsX9_ring__wsX9_ring_r2 _ (List.mem_of_getElem? (i := 3) rfl)), (fun _ h => absurd h List.not_mem_nil)⟩)⟩)⟩)⟩)⟩)⟩)⟩)⟩)⟩)⟩)⟩)⟩)⟩)⟩)⟩)⟩)⟩)⟩)⟩)⟩)⟩)⟩)⟩)⟩)) (x_ap2 (show ∀ w ∈ wsX9_isGood_r2, w ∈ wsX9_ring from (List.forall_mem_cons.mpr ⟨(ip_wsX9_ring__wsX9_ring_r2 _ (List.mem_of_getElem? (i := 4) rfl)), (List.forall_mem_cons.mpr ⟨(ip_wsX9_ring__wsX9_ring_r2 _ (List.mem_of_getElem? (i := 5) rfl)), (List.forall_mem_cons.mpr ⟨(ip_wsX9_ring__wsX9_ring_r2 _ (List.mem_of_getElem? (i := 6) rfl)), (List.forall_mem_cons.mpr ⟨(ip_wsX9_ring__wsX9_ring_r2 _ (List.mem_of_getElem? (i := 7) rfl)), (List.forall_mem_cons.mpr ⟨(ip_wsX9_ring__wsX9_ring_r2 _ (List.mem_of_getElem? (i := 8) rfl)), (List.forall_mem_cons.mpr ⟨(ip_wsX9_ring__wsX9_ring_r2 _ (List.mem_of_getElem? (i := 9) rfl)), (List.forall_mem_cons.mpr ⟨(ip_wsX9_ring__wsX9_ring_r2 _ (List.mem_of_getElem? (i := 10) rfl)), (List.forall_mem_cons.mpr ⟨(ip_wsX9_ring__wsX9_ring_r2 _ (List.mem_of_getElem? (i := 11) rfl)), (List.forall_mem_cons.mpr ⟨(ip_wsX9_ring__wsX9_ring_r2 _ (List.mem_of_getElem? (i := 12) rfl)), (List.forall_mem_cons.mpr ⟨(ip_wsX9_ring__wsX9_ring_r2 _ (List.mem_of_getElem? (i := 13) rfl)), (List.forall_mem_cons.mpr ⟨(ip_wsX9_ring__wsX9_ring_r2 _ (List.mem_of_getElem? (i := 14) rfl)), (List.forall_mem_cons.mpr ⟨(ip_wsX9_ring__wsX9_ring_r2 _ (List.mem_of_getElem? (i := 15) rfl)), (List.forall_mem_cons.mpr ⟨(ip_wsX9_ring__wsX9_ring_r2 _ (List.mem_of_getElem? (i := 16) rfl)), (List.forall_mem_cons.mpr ⟨(ip_wsX9_ring__wsX9_ring_r2 _ (List.mem_of_getElem? (i := 17) rfl)), (List.forall_mem_cons.mpr ⟨(ip_wsX9_ring__wsX9_ring_r2 _ (List.mem_of_getElem? (i := 18) rfl)), (List.forall_mem_cons.mpr ⟨(ip_wsX9_ring__wsX9_ring_r2 _ (List.mem_of_getElem? (i := 19) rfl)), (List.forall_mem_cons.mpr ⟨(ip_wsX9_ring__wsX9_ring_r2 _ (List.mem_of_getElem? (i := 20) rfl)), (List.forall_mem_cons.mpr ⟨(ip_wsX9_ring__wsX9_ring_r2 _ (List.mem_of_getElem? (i := 21) rfl)), (List.forall_mem_cons.mpr ⟨(ip_wsX9_ring__wsX9_ring_r2 _ (List.mem_of_getElem? (i := 22) rfl)), (List.forall_mem_cons.mpr ⟨(ip_wsX9_ring__wsX9_ring_r2 _ (List.mem_of_getElem? (i := 23) rfl)), (List.forall_mem_cons.mpr ⟨(ip_wsX9_ring__wsX9_ring_r3 _ (List.mem_of_getElem? (i := 0) rfl)), (List.forall_mem_cons.mpr ⟨(ip_wsX9_ring__wsX9_ring_r3 _ (List.mem_of_getElem? (i := 1) rfl)), (List.forall_mem_cons.mpr ⟨(ip_wsX9_ring__wsX9_ring_r3 _ (List.mem_of_getElem? (i := 2) rfl)), (List.forall_mem_cons.mpr ⟨(ip_wsX9_ring__wsX9_ring_r3 _ (List.mem_of_getElem? (i := 3) rfl)), (fun _ h => absurd h List.not_mem_nil)⟩)⟩)⟩)⟩)⟩)⟩)⟩)⟩)⟩)⟩)⟩)⟩)⟩)⟩)⟩)⟩)⟩)⟩)⟩)⟩)⟩)⟩)⟩)⟩)) (x_ap2 (show ∀ w ∈ wsX9_isGood_r3, w ∈ wsX9_ring from (List.forall_mem_cons.mpr ⟨(ip_wsX9_ring__wsX9_ring_r3 _ (List.mem_of_getElem? (i := 4) rfl)), (List.forall_mem_cons.mpr ⟨(ip_wsX9_ring__wsX9_ring_r3 _ (List.mem_of_getElem? (i := 5) rfl)), (List.forall_mem_cons.mpr ⟨(ip_wsX9_ring__wsX9_ring_r3 _ (List.mem_of_getElem? (i := 6) rfl)), (List.forall_mem_cons.mpr ⟨(ip_wsX9_ring__wsX9_ring_r3 _ (List.mem_of_getElem? (i := 7) rfl)), (List.forall_mem_cons.mpr ⟨(ip_wsX9_ring__wsX9_ring_r3 _ (List.mem_of_getElem? (i := 8) rfl)), (List.forall_mem_cons.mpr ⟨(ip_wsX9_ring__wsX9_ring_r3 _ (List.mem_of_getElem? (i := 9) rfl)), (List.forall_mem_cons.mpr ⟨(ip_wsX9_ring__wsX9_ring_r3 _ (List.mem_of_getElem? (i := 10) rfl)), (List.forall_mem_cons.mpr ⟨(ip_wsX9_ring__wsX9_ring_r3 _ (List.mem_of_getElem? (i := 11) rfl)), (List.forall_mem_cons.mpr ⟨(ip_wsX9_ring__wsX9_ring_r3 _ (List.mem_of_getElem? (i := 12) rfl)), (List.forall_mem_cons.mpr ⟨(ip_wsX9_ring__wsX9_ring_r3 _ (List.mem_of_getElem? (i := 13) rfl)), (List.forall_mem_cons.mpr ⟨(ip_wsX9_ring__wsX9_ring_r3 _ (List.mem_of_getElem? (i := 14) rfl)), (List.forall_mem_cons.mpr ⟨(ip_wsX9_ring__wsX9_ring_r3 _ (List.mem_of_getElem? (i := 15) rfl)), (List.forall_mem_cons.mpr ⟨(ip_wsX9_ring__wsX9_ring_r3 _ (List.mem_of_getElem? (i := 16) rfl)), (List.forall_mem_cons.mpr ⟨(ip_wsX9_ring__wsX9_ring_r3 _ (List.mem_of_getElem? (i := 17) rfl)), (List.forall_mem_cons.mpr ⟨(ip_wsX9_ring__wsX9_ring_r3 _ (List.mem_of_getElem? (i := 18) rfl)), (List.forall_mem_cons.mpr ⟨(ip_wsX9_ring__wsX9_ring_r3 _ (List.mem_of_getElem? (i := 19) rfl)), (List.forall_mem_cons.mpr ⟨(ip_wsX9_ring__wsX9_ring_r3 _ (List.mem_of_getElem? (i := 20) rfl)), (List.forall_mem_cons.mpr ⟨(ip_wsX9_ring__wsX9_ring_r3 _ (List.mem_of_getElem? (i := 21) rfl)), (List.forall_mem_cons.mpr ⟨(ip_wsX9_ring__wsX9_ring_r3 _ (List.mem_of_getElem? (i := 22) rfl)), (List.forall_mem_cons.mpr ⟨(ip_wsX9_ring__wsX9_ring_r3 _ (List.mem_of_getElem? (i := 23) rfl)), (List.forall_mem_cons.mpr ⟨(ip_wsX9_ring__wsX9_ring_r4 _ (List.mem_of_getElem? (i := 0) rfl)), (List.forall_mem_cons.mpr ⟨(ip_wsX9_ring__wsX9_ring_r4 _ (List.mem_of_getElem? (i := 1) rfl)), (List.forall_mem_cons.mpr ⟨(ip_wsX9_ring__wsX9_ring_r4 _ (List.mem_of_getElem? (i := 2) rfl)), (List.forall_mem_cons.mpr ⟨(ip_wsX9_ring__wsX9_ring_r4 _ (List.mem_of_getElem? (i := 3) rfl)), (fun _ h => absurd h List.not_mem_nil)⟩)⟩)⟩)⟩)⟩)⟩)⟩)⟩)⟩)⟩)⟩)⟩)⟩)⟩)⟩)⟩)⟩)⟩)⟩)⟩)⟩)⟩)⟩)⟩)) (show ∀ w ∈ wsX9_isGood_r4, w ∈ wsX9_ring from (List.forall_mem_cons.mpr ⟨(ip_wsX9_ring__wsX9_ring_r4 _ (List.mem_of_getElem? (i := 4) rfl)), (List.forall_mem_cons.mpr ⟨(ip_wsX9_ring__wsX9_ring_r4 _ (List.mem_of_getElem? (i := 5) rfl)), (List.forall_mem_cons.mpr ⟨(ip_wsX9_ring__wsX9_ring_r4 _ (List.mem_of_getElem? (i := 6) rfl)), (List.forall_mem_cons.mpr ⟨(ip_wsX9_ring__wsX9_ring_r4 _ (List.mem_of_getElem? (i := 7) rfl)), (List.forall_mem_cons.mpr ⟨(ip_wsX9_ring__wsX9_ring_r4 _ (List.mem_of_getElem? (i := 8) rfl)), (List.forall_mem_cons.mpr ⟨(ip_wsX9_ring__wsX9_ring_r4 _ (List.mem_of_getElem? (i := 9) rfl)), (List.forall_mem_cons.mpr ⟨(ip_wsX9_ring__wsX9_ring_r4 _ (List.mem_of_getElem? (i := 10) rfl)), (List.forall_mem_cons.mpr ⟨(ip_wsX9_ring__wsX9_ring_r4 _ (List.mem_of_getElem? (i := 11) rfl)), (List.forall_mem_cons.mpr ⟨(ip_wsX9_ring__wsX9_ring_r4 _ (List.mem_of_getElem? (i := 12) rfl)), (List.forall_mem_cons.mpr ⟨(ip_wsX9_ring__wsX9_ring_r4 _ (List.mem_of_getElem? (i := 13) rfl)), (List.forall_mem_cons.mpr ⟨(ip_wsX9_ring__wsX9_ring_r4 _ (List.mem_of_getElem? (i := 14) rfl)), (List.forall_mem_cons.mpr ⟨(ip_wsX9_ring__wsX9_ring_r4 _ (List.mem_of_getElem? (i := 15) rfl)), (List.forall_mem_cons.mpr ⟨(ip_wsX9_ring__wsX9_ring_r4 _ (List.mem_of_getElem? (i := 16) rfl)), (List.forall_mem_cons.mpr ⟨(ip_wsX9_ring__wsX9_ring_r4 _ (List.mem_of_getElem? (i := 17) rfl)), (List.forall_mem_cons.mpr ⟨(ip_wsX9_ring__wsX9_ring_r4 _ (List.mem_of_getElem? (i := 18) rfl)), (List.forall_mem_cons.mpr ⟨(ip_wsX9_ring__wsX9_ring_r4 _ (List.mem_of_getElem? (i := 19) rfl)), (List.forall_mem_cons.mpr ⟨(ip_wsX9_ring__wsX9_ring_r4 _ (List.mem_of_getElem? (i := 20) rfl)), (List.forall_mem_cons.mpr ⟨(ip_wsX9_ring__wsX9_ring_r4 _ (List.mem_of_getElem? (i := 21) rfl)), (fun _ h => absurd h List.not_mem_nil)⟩)⟩)⟩)⟩)⟩)⟩)⟩)⟩)⟩)⟩)⟩)⟩)⟩)⟩)⟩)⟩)⟩)⟩))))) (fun _ h => (List.mem_cons_of_mem _ (List.mem_append_right _ h))))⟩) (by decide +kernel)
set_option maxRecDepth 20000 in
theorem gX9_ring_X9_isGood : GoodIn wsX9_ring (wsV RX9 109 RX9 yX9_isGood wsX9_isGood) := goodIn_app (goodIn_of _ (by decide +kernel)) ggX9_ring_X9_isGood
set_option maxRecDepth 20000 in
theorem ggX9_ring_X9_isFlag : GoodIn wsX9_ring wsX9_isFlag := goodIn_sub (List.forall_mem_cons.mpr ⟨(ip_wsX9_ring__wsX9_ring_r5 _ (List.mem_of_getElem? (i := 1) rfl)), (x_ap2 (List.forall_mem_cons.mpr ⟨(ip_wsX9_ring__wsX9_ring_r1 _ (List.mem_of_getElem? (i := 12) rfl)), (List.forall_mem_cons.mpr ⟨(ip_wsX9_ring__wsX9_ring_r5 _ (List.mem_of_getElem? (i := 2) rfl)), (List.forall_mem_cons.mpr ⟨(ip_wsX9_ring__wsX9_ring_r5 _ (List.mem_of_getElem? (i := 3) rfl)), (List.forall_mem_cons.mpr ⟨(ip_wsX9_ring__wsX9_ring_r1 _ (List.mem_of_getElem? (i := 3) rfl)), (List.forall_mem_cons.mpr ⟨(ip_wsX9_ring__wsX9_ring_r5 _ (List.mem_of_getElem? (i := 4) rfl)), (fun _ h => absurd h List.not_mem_nil)⟩)⟩)⟩)⟩)⟩) (fun _ h => (List.mem_cons_of_mem _ (List.mem_append_right _ h))))⟩) (by decide +kernel)
set_option maxRecDepth 20000 in
theorem gX9_ring_X9_isFlag : GoodIn wsX9_ring (wsV RX9 166 RX9 yX9_isFlag wsX9_isFlag) := goodIn_app (goodIn_of _ (by decide +kernel)) ggX9_ring_X9_isFlag
set_option maxRecDepth 20000 in
theorem ggX9_ring_X9_ringOf : GoodIn wsX9_ring wsX9_ringOf := goodIn_sub (List.forall_mem_cons.mpr ⟨(ip_wsX9_ring__wsX9_ring_r5 _ (List.mem_of_getElem? (i := 8) rfl)), (x_ap2 (List.forall_mem_cons.mpr ⟨(ip_wsX9_ring__wsX9_ring_r1 _ (List.mem_of_getElem? (i := 13) rfl)), (fun _ h => absurd h List.not_mem_nil)⟩) (fun _ h => (List.mem_cons_of_mem _ (List.mem_append_right _ h))))⟩) (by decide +kernel)
set_option maxRecDepth 20000 in
theorem gX9_ring_X9_ringOf : GoodIn wsX9_ring (wsV RX9 172 RX9 yX9_ringOf wsX9_ringOf) := goodIn_app (goodIn_of _ (by decide +kernel)) ggX9_ring_X9_ringOf
theorem dX9_ring_0 : decode cX9_ring 0 = .ok (.aload_n 0, 1) := by decide +kernel
theorem dX9_ring_1 : decode cX9_ring 1 = .ok (.invokevirtual 109, 3) := by decide +kernel
theorem dX9_ring_4 : decode cX9_ring 4 = .ok (.ifCond .ne 6, 3) := by decide +kernel
theorem dX9_ring_7 : decode cX9_ring 7 = .ok (.bipush (-5), 2) := by decide +kernel
theorem dX9_ring_9 : decode cX9_ring 9 = .ok (.ireturn, 1) := by decide +kernel
theorem dX9_ring_10 : decode cX9_ring 10 = .ok (.aload_n 0, 1) := by decide +kernel
theorem dX9_ring_11 : decode cX9_ring 11 = .ok (.iload_n 1, 1) := by decide +kernel
theorem dX9_ring_12 : decode cX9_ring 12 = .ok (.invokevirtual 166, 3) := by decide +kernel
theorem dX9_ring_15 : decode cX9_ring 15 = .ok (.ifCond .eq 11, 3) := by decide +kernel
theorem dX9_ring_18 : decode cX9_ring 18 = .ok (.aload_n 0, 1) := by decide +kernel
theorem dX9_ring_19 : decode cX9_ring 19 = .ok (.iload_n 1, 1) := by decide +kernel
theorem dX9_ring_20 : decode cX9_ring 20 = .ok (.invokevirtual 172, 3) := by decide +kernel
theorem dX9_ring_23 : decode cX9_ring 23 = .ok (.goto 4, 3) := by decide +kernel
theorem dX9_ring_26 : decode cX9_ring 26 = .ok (.iconst (-1), 1) := by decide +kernel
theorem dX9_ring_27 : decode cX9_ring 27 = .ok (.ireturn, 1) := by decide +kernel
theorem ip_wsX9_rings__wsX9_rings_r1 : ∀ w ∈ wsX9_rings_r1, w ∈ wsX9_rings := fun _ h => (List.mem_cons_of_mem _ (List.mem_append_left _ (List.mem_append_left _ h)))
theorem ip_wsX9_rings__wsX9_rings_r2 : ∀ w ∈ wsX9_rings_r2, w ∈ wsX9_rings := fun _ h => (List.mem_cons_of_mem _ (List.mem_append_left _ (List.mem_append_right _ (List.mem_append_left _ h))))
theorem ip_wsX9_rings__wsX9_rings_r3 : ∀ w ∈ wsX9_rings_r3, w ∈ wsX9_rings := fun _ h => (List.mem_cons_of_mem _ (List.mem_append_left _ (List.mem_append_right _ (List.mem_append_right _ (List.mem_append_left _ h)))))
theorem ip_wsX9_rings__wsX9_rings_r4 : ∀ w ∈ wsX9_rings_r4, w ∈ wsX9_rings := fun _ h => (List.mem_cons_of_mem _ (List.mem_append_left _ (List.mem_append_right _ (List.mem_append_right _ (List.mem_append_right _ h)))))
set_option maxRecDepth 20000 in
theorem ggX9_rings_X9_isGood : GoodIn wsX9_rings wsX9_isGood := goodIn_sub (List.forall_mem_cons.mpr ⟨(ip_wsX9_rings__wsX9_rings_r1 _ (List.mem_of_getElem? (i := 6) rfl)), (x_ap2 (x_ap2 (show ∀ w ∈ wsX9_isGood_r1, w ∈ wsX9_rings from (List.forall_mem_cons.mpr ⟨(ip_wsX9_rings__wsX9_rings_r1 _ (List.mem_of_getElem? (i := 7) rfl)), (List.forall_mem_cons.mpr ⟨(ip_wsX9_rings__wsX9_rings_r1 _ (List.mem_of_getElem? (i := 8) rfl)), (List.forall_mem_cons.mpr ⟨(ip_wsX9_rings__wsX9_rings_r1 _ (List.mem_of_getElem? (i := 9) rfl)), (List.forall_mem_cons.mpr ⟨(ip_wsX9_rings__wsX9_rings_r1 _ (List.mem_of_getElem? (i := 10) rfl)), (List.forall_mem_cons.mpr ⟨(ip_wsX9_rings__wsX9_rings_r1 _ (List.mem_of_getElem? (i := 5) rfl)), (List.forall_mem_cons.mpr ⟨(ip_wsX9_rings__wsX9_rings_r1 _ (List.mem_of_getElem? (i := 11) rfl)), (List.forall_mem_cons.mpr ⟨(ip_wsX9_rings__wsX9_rings_r1 _ (List.mem_of_getElem? (i := 12) rfl)), (List.forall_mem_cons.mpr ⟨(ip_wsX9_rings__wsX9_rings_r1 _ (List.mem_of_getElem? (i := 13) rfl)), (List.forall_mem_cons.mpr ⟨(ip_wsX9_rings__wsX9_rings_r1 _ (List.mem_of_getElem? (i := 0) rfl)), (List.forall_mem_cons.mpr ⟨(ip_wsX9_rings__wsX9_rings_r1 _ (List.mem_of_getElem? (i := 1) rfl)), (List.forall_mem_cons.mpr ⟨(ip_wsX9_rings__wsX9_rings_r1 _ (List.mem_of_getElem? (i := 14) rfl)), (List.forall_mem_cons.mpr ⟨(ip_wsX9_rings__wsX9_rings_r1 _ (List.mem_of_getElem? (i := 15) rfl)), (List.forall_mem_cons.mpr ⟨(ip_wsX9_rings__wsX9_rings_r1 _ (List.mem_of_getElem? (i := 16) rfl)), (List.forall_mem_cons.mpr ⟨(ip_wsX9_rings__wsX9_rings_r1 _ (List.mem_of_getElem? (i := 17) rfl)), (List.forall_mem_cons.mpr ⟨(ip_wsX9_rings__wsX9_rings_r1 _ (List.mem_of_getElem? (i := 18) rfl)), (List.forall_mem_cons.mpr ⟨(ip_wsX9_rings__wsX9_rings_r1 _ (List.mem_of_getElem? (i := 19) rfl)), (List.forall_mem_cons.mpr ⟨(ip_wsX9_rings__wsX9_rings_r1 _ (List.mem_of_getElem? (i := 20) rfl)), (List.forall_mem_cons.mpr ⟨(ip_wsX9_rings__wsX9_rings_r1 _ (List.mem_of_getElem? (i := 21) rfl)), (List.forall_mem_cons.mpr ⟨(ip_wsX9_rings__wsX9_rings_r1 _ (List.mem_of_getElem? (i := 22) rfl)), (List.forall_mem_cons.mpr ⟨(ip_wsX9_rings__wsX9_rings_r1 _ (List.mem_of_getElem? (i := 23) rfl)), (List.forall_mem_cons.mpr ⟨(ip_wsX9_rings__wsX9_rings_r2 _ (List.mem_of_getElem? (i := 0) rfl)), (List.forall_mem_cons.mpr ⟨(ip_wsX9_rings__wsX9_rings_r2 _ (List.mem_of_getElem? (i := 1) rfl)), (List.forall_mem_cons.mpr ⟨(ip_wsX9_rings__wsX9_rings_r2 _ (List.mem_of_getElem? (i := 2) rfl)), (List.forall_mem_cons.mpr ⟨(ip_wsX9_rings__wsX9_rings_r2 _ (List.mem_of_getElem? (i := 3) rfl)), (fun _ h => absurd h List.not_mem_nil)⟩)⟩)⟩)⟩)⟩)⟩)⟩)⟩)⟩)⟩)⟩)⟩)⟩)⟩)⟩)⟩)⟩)⟩)⟩)⟩)⟩)⟩)⟩)⟩)) (x_ap2 (show ∀ w ∈ wsX9_isGood_r2, w ∈ wsX9_rings from (List.forall_mem_cons.mpr ⟨(ip_wsX9_rings__wsX9_rings_r2 _ (List.mem_of_getElem? (i := 4) rfl)), (List.forall_mem_cons.mpr ⟨(ip_wsX9_rings__wsX9_rings_r2 _ (List.mem_of_getElem? (i := 5) rfl)), (List.forall_mem_cons.mpr ⟨(ip_wsX9_rings__wsX9_rings_r2 _ (List.mem_of_getElem? (i := 6) rfl)), (List.forall_mem_cons.mpr ⟨(ip_wsX9_rings__wsX9_rings_r2 _ (List.mem_of_getElem? (i := 7) rfl)), (List.forall_mem_cons.mpr ⟨(ip_wsX9_rings__wsX9_rings_r2 _ (List.mem_of_getElem? (i := 8) rfl)), (List.forall_mem_cons.mpr ⟨(ip_wsX9_rings__wsX9_rings_r2 _ (List.mem_of_getElem? (i := 9) rfl)), (List.forall_mem_cons.mpr ⟨(ip_wsX9_rings__wsX9_rings_r2 _ (List.mem_of_getElem? (i := 10) rfl)), (List.forall_mem_cons.mpr ⟨(ip_wsX9_rings__wsX9_rings_r2 _ (List.mem_of_getElem? (i := 11) rfl)), (List.forall_mem_cons.mpr ⟨(ip_wsX9_rings__wsX9_rings_r2 _ (List.mem_of_getElem? (i := 12) rfl)), (List.forall_mem_cons.mpr ⟨(ip_wsX9_rings__wsX9_rings_r2 _ (List.mem_of_getElem? (i := 13) rfl)), (List.forall_mem_cons.mpr ⟨(ip_wsX9_rings__wsX9_rings_r2 _ (List.mem_of_getElem? (i := 14) rfl)), (List.forall_mem_cons.mpr ⟨(ip_wsX9_rings__wsX9_rings_r2 _ (List.mem_of_getElem? (i := 15) rfl)), (List.forall_mem_cons.mpr ⟨(ip_wsX9_rings__wsX9_rings_r2 _ (List.mem_of_getElem? (i := 16) rfl)), (List.forall_mem_cons.mpr ⟨(ip_wsX9_rings__wsX9_rings_r2 _ (List.mem_of_getElem? (i := 17) rfl)), (List.forall_mem_cons.mpr ⟨(ip_wsX9_rings__wsX9_rings_r2 _ (List.mem_of_getElem? (i := 18) rfl)), (List.forall_mem_cons.mpr ⟨(ip_wsX9_rings__wsX9_rings_r2 _ (List.mem_of_getElem? (i := 19) rfl)), (List.forall_mem_cons.mpr ⟨(ip_wsX9_rings__wsX9_rings_r2 _ (List.mem_of_getElem? (i := 20) rfl)), (List.forall_mem_cons.mpr ⟨(ip_wsX9_rings__wsX9_rings_r2 _ (List.mem_of_getElem? (i := 21) rfl)), (List.forall_mem_cons.mpr ⟨(ip_wsX9_rings__wsX9_rings_r2 _ (List.mem_of_getElem? (i := 22) rfl)), (List.forall_mem_cons.mpr ⟨(ip_wsX9_rings__wsX9_rings_r2 _ (List.mem_of_getElem? (i := 23) rfl)), (List.forall_mem_cons.mpr ⟨(ip_wsX9_rings__wsX9_rings_r3 _ (List.mem_of_getElem? (i := 0) rfl)), (List.forall_mem_cons.mpr ⟨(ip_wsX9_rings__wsX9_rings_r3 _ (List.mem_of_getElem? (i := 1) rfl)), (List.forall_mem_cons.mpr ⟨(ip_wsX9_rings__wsX9_rings_r3 _ (List.mem_of_getElem? (i := 2) rfl)), (List.forall_mem_cons.mpr ⟨(ip_wsX9_rings__wsX9_rings_r3 _ (List.mem_of_getElem? (i := 3) rfl)), (fun _ h => absurd h List.not_mem_nil)⟩)⟩)⟩)⟩)⟩)⟩)⟩)⟩)⟩)⟩)⟩)⟩)⟩)⟩)⟩)⟩)⟩)⟩)⟩)⟩)⟩)⟩)⟩)⟩)) (x_ap2 (show ∀ w ∈ wsX9_isGood_r3, w ∈ wsX9_rings from (List.forall_mem_cons.mpr ⟨(ip_wsX9_rings__wsX9_rings_r3 _ (List.mem_of_getElem? (i := 4) rfl)), (List.forall_mem_cons.mpr ⟨(ip_wsX9_rings__wsX9_rings_r3 _ (List.mem_of_getElem? (i := 5) rfl)), (List.forall_mem_cons.mpr ⟨(ip_wsX9_rings__wsX9_rings_r3 _ (List.mem_of_getElem? (i := 6) rfl)), (List.forall_mem_cons.mpr ⟨(ip_wsX9_rings__wsX9_rings_r3 _ (List.mem_of_getElem? (i := 7) rfl)), (List.forall_mem_cons.mpr ⟨(ip_wsX9_rings__wsX9_rings_r3 _ (List.mem_of_getElem? (i := 8) rfl)), (List.forall_mem_cons.mpr ⟨(ip_wsX9_rings__wsX9_rings_r3 _ (List.mem_of_getElem? (i := 9) rfl)), (List.forall_mem_cons.mpr ⟨(ip_wsX9_rings__wsX9_rings_r3 _ (List.mem_of_getElem? (i := 10) rfl)), (List.forall_mem_cons.mpr ⟨(ip_wsX9_rings__wsX9_rings_r3 _ (List.mem_of_getElem? (i := 11) rfl)), (List.forall_mem_cons.mpr ⟨(ip_wsX9_rings__wsX9_rings_r3 _ (List.mem_of_getElem? (i := 12) rfl)), (List.forall_mem_cons.mpr ⟨(ip_wsX9_rings__wsX9_rings_r3 _ (List.mem_of_getElem? (i := 13) rfl)), (List.forall_mem_cons.mpr ⟨(ip_wsX9_rings__wsX9_rings_r3 _ (List.mem_of_getElem? (i := 14) rfl)), (List.forall_mem_cons.mpr ⟨(ip_wsX9_rings__wsX9_rings_r3 _ (List.mem_of_getElem? (i := 15) rfl)), (List.forall_mem_cons.mpr ⟨(ip_wsX9_rings__wsX9_rings_r3 _ (List.mem_of_getElem? (i := 16) rfl)), (List.forall_mem_cons.mpr ⟨(ip_wsX9_rings__wsX9_rings_r3 _ (List.mem_of_getElem? (i := 17) rfl)), (List.forall_mem_cons.mpr ⟨(ip_wsX9_rings__wsX9_rings_r3 _ (List.mem_of_getElem? (i := 18) rfl)), (List.forall_mem_cons.mpr ⟨(ip_wsX9_rings__wsX9_rings_r3 _ (List.mem_of_getElem? (i := 19) rfl)), (List.forall_mem_cons.mpr ⟨(ip_wsX9_rings__wsX9_rings_r3 _ (List.mem_of_getElem? (i := 20) rfl)), (List.forall_mem_cons.mpr ⟨(ip_wsX9_rings__wsX9_rings_r3 _ (List.mem_of_getElem? (i := 21) rfl)), (List.forall_mem_cons.mpr ⟨(ip_wsX9_rings__wsX9_rings_r3 _ (List.mem_of_getElem? (i := 22) rfl)), (List.forall_mem_cons.mpr ⟨(ip_wsX9_rings__wsX9_rings_r3 _ (List.mem_of_getElem? (i := 23) rfl)), (List.forall_mem_cons.mpr ⟨(ip_wsX9_rings__wsX9_rings_r4 _ (List.mem_of_getElem? (i := 0) rfl)), (List.forall_mem_cons.mpr ⟨(ip_wsX9_rings__wsX9_rings_r4 _ (List.mem_of_getElem? (i := 1) rfl)), (List.forall_mem_cons.mpr ⟨(ip_wsX9_rings__wsX9_rings_r4 _ (List.mem_of_getElem? (i := 2) rfl)), (List.forall_mem_cons.mpr ⟨(ip_wsX9_rings__wsX9_rings_r4 _ (List.mem_of_getElem? (i := 3) rfl)), (fun _ h => absurd h List.not_mem_nil)⟩)⟩)⟩)⟩)⟩)⟩)⟩)⟩)⟩)⟩)⟩)⟩)⟩)⟩)⟩)⟩)⟩)⟩)⟩)⟩)⟩)⟩)⟩)⟩)) (show ∀ w ∈ wsX9_isGood_r4, w ∈ wsX9_rings from (List.forall_mem_cons.mpr ⟨(ip_wsX9_rings__wsX9_rings_r4 _ (List.mem_of_getElem? (i := 4) rfl)), (List.forall_mem_cons.mpr ⟨(ip_wsX9_rings__wsX9_rings_r4 _ (List.mem_of_getElem? (i := 5) rfl)), (List.forall_mem_cons.mpr ⟨(ip_wsX9_rings__wsX9_rings_r4 _ (List.mem_of_getElem? (i := 6) rfl)), (List.forall_mem_cons.mpr ⟨(ip_wsX9_rings__wsX9_rings_r4 _ (List.mem_of_getElem? (i := 7) rfl)), (List.forall_mem_cons.mpr ⟨(ip_wsX9_rings__wsX9_rings_r4 _ (List.mem_of_getElem? (i := 8) rfl)), (List.forall_mem_cons.mpr ⟨(ip_wsX9_rings__wsX9_rings_r4 _ (List.mem_of_getElem? (i := 9) rfl)), (List.forall_mem_cons.mpr ⟨(ip_wsX9_rings__wsX9_rings_r4 _ (List.mem_of_getElem? (i := 10) rfl)), (List.forall_mem_cons.mpr ⟨(ip_wsX9_rings__wsX9_rings_r4 _ (List.mem_of_getElem? (i := 11) rfl)), (List.forall_mem_cons.mpr ⟨(ip_wsX9_rings__wsX9_rings_r4 _ (List.mem_of_getElem? (i := 12) rfl)), (List.forall_mem_cons.mpr ⟨(ip_wsX9_rings__wsX9_rings_r4 _ (List.mem_of_getElem? (i := 13) rfl)), (List.forall_mem_cons.mpr ⟨(ip_wsX9_rings__wsX9_rings_r4 _ (List.mem_of_getElem? (i := 14) rfl)), (List.forall_mem_cons.mpr ⟨(ip_wsX9_rings__wsX9_rings_r4 _ (List.mem_of_getElem? (i := 15) rfl)), (List.forall_mem_cons.mpr ⟨(ip_wsX9_rings__wsX9_rings_r4 _ (List.mem_of_getElem? (i := 16) rfl)), (List.forall_mem_cons.mpr ⟨(ip_wsX9_rings__wsX9_rings_r4 _ (List.mem_of_getElem? (i := 17) rfl)), (List.forall_mem_cons.mpr ⟨(ip_wsX9_rings__wsX9_rings_r4 _ (List.mem_of_getElem? (i := 18) rfl)), (List.forall_mem_cons.mpr ⟨(ip_wsX9_rings__wsX9_rings_r4 _ (List.mem_of_getElem? (i := 19) rfl)), (List.forall_mem_cons.mpr ⟨(ip_wsX9_rings__wsX9_rings_r4 _ (List.mem_of_getElem? (i := 20) rfl)), (List.forall_mem_cons.mpr ⟨(ip_wsX9_rings__wsX9_rings_r4 _ (List.mem_of_getElem? (i := 21) rfl)), (fun _ h => absurd h List.not_mem_nil)⟩)⟩)⟩)⟩)⟩)⟩)⟩)⟩)⟩)⟩)⟩)⟩)⟩)⟩)⟩)⟩)⟩)⟩))))) (fun _ h => (List.mem_cons_of_mem _ (List.mem_append_right _ h))))⟩) (by decide +kernel)
set_option maxRecDepth 20000 in
theorem gX9_rings_X9_isGood : GoodIn wsX9_rings (wsV RX9 109 RX9 yX9_isGood wsX9_isGood) := goodIn_app (goodIn_of _ (by decide +kernel)) ggX9_rings_X9_isGood
theorem dX9_rings_0 : decode cX9_rings 0 = .ok (.aload_n 0, 1) := by decide +kernel
theorem dX9_rings_1 : decode cX9_rings 1 = .ok (.invokevirtual 109, 3) := by decide +kernel
theorem dX9_rings_4 : decode cX9_rings 4 = .ok (.ifCond .ne 6, 3) := by decide +kernel
theorem dX9_rings_7 : decode cX9_rings 7 = .ok (.bipush (-5), 2) := by decide +kernel
theorem dX9_rings_9 : decode cX9_rings 9 = .ok (.ireturn, 1) := by decide +kernel
theorem dX9_rings_10 : decode cX9_rings 10 = .ok (.iconst 0, 1) := by decide +kernel
theorem dX9_rings_11 : decode cX9_rings 11 = .ok (.istore_n 1, 1) := by decide +kernel
theorem dX9_rings_12 : decode cX9_rings 12 = .ok (.iconst 0, 1) := by decide +kernel
theorem dX9_rings_13 : decode cX9_rings 13 = .ok (.istore_n 2, 1) := by decide +kernel
theorem dX9_rings_14 : decode cX9_rings 14 = .ok (.iload_n 2, 1) := by decide +kernel
theorem dX9_rings_15 : decode cX9_rings 15 = .ok (.aload_n 0, 1) := by decide +kernel
theorem dX9_rings_16 : decode cX9_rings 16 = .ok (.getfield 140, 3) := by decide +kernel
theorem dX9_rings_19 : decode cX9_rings 19 = .ok (.if_icmp .ge 79, 3) := by decide +kernel
theorem dX9_rings_22 : decode cX9_rings 22 = .ok (.iconst 1, 1) := by decide +kernel
theorem dX9_rings_23 : decode cX9_rings 23 = .ok (.istore_n 3, 1) := by decide +kernel
theorem dX9_rings_24 : decode cX9_rings 24 = .ok (.aload_n 0, 1) := by decide +kernel
theorem dX9_rings_25 : decode cX9_rings 25 = .ok (.getfield 44, 3) := by decide +kernel
theorem dX9_rings_28 : decode cX9_rings 28 = .ok (.iload_n 2, 1) := by decide +kernel
theorem dX9_rings_29 : decode cX9_rings 29 = .ok (.iaload, 1) := by decide +kernel
theorem dX9_rings_30 : decode cX9_rings 30 = .ok (.istore 4, 2) := by decide +kernel
theorem dX9_rings_32 : decode cX9_rings 32 = .ok (.iconst 0, 1) := by decide +kernel
theorem dX9_rings_33 : decode cX9_rings 33 = .ok (.istore 5, 2) := by decide +kernel
theorem dX9_rings_35 : decode cX9_rings 35 = .ok (.iload 5, 2) := by decide +kernel
theorem dX9_rings_37 : decode cX9_rings 37 = .ok (.sipush 400, 3) := by decide +kernel
theorem dX9_rings_40 : decode cX9_rings 40 = .ok (.if_icmp .ge 40, 3) := by decide +kernel
theorem dX9_rings_43 : decode cX9_rings 43 = .ok (.iload 4, 2) := by decide +kernel
theorem dX9_rings_45 : decode cX9_rings 45 = .ok (.iload_n 2, 1) := by decide +kernel
theorem dX9_rings_46 : decode cX9_rings 46 = .ok (.if_icmp .eq 34, 3) := by decide +kernel
theorem dX9_rings_49 : decode cX9_rings 49 = .ok (.iload_n 3, 1) := by decide +kernel
theorem dX9_rings_50 : decode cX9_rings 50 = .ok (.ifCond .eq 13, 3) := by decide +kernel
theorem dX9_rings_53 : decode cX9_rings 53 = .ok (.iload 4, 2) := by decide +kernel
theorem dX9_rings_55 : decode cX9_rings 55 = .ok (.iload_n 2, 1) := by decide +kernel
theorem dX9_rings_56 : decode cX9_rings 56 = .ok (.if_icmp .le 7, 3) := by decide +kernel
theorem dX9_rings_59 : decode cX9_rings 59 = .ok (.iconst 1, 1) := by decide +kernel
theorem dX9_rings_60 : decode cX9_rings 60 = .ok (.goto 4, 3) := by decide +kernel
theorem dX9_rings_63 : decode cX9_rings 63 = .ok (.iconst 0, 1) := by decide +kernel
theorem dX9_rings_64 : decode cX9_rings 64 = .ok (.istore_n 3, 1) := by decide +kernel
theorem dX9_rings_65 : decode cX9_rings 65 = .ok (.aload_n 0, 1) := by decide +kernel
theorem dX9_rings_66 : decode cX9_rings 66 = .ok (.getfield 44, 3) := by decide +kernel
theorem dX9_rings_69 : decode cX9_rings 69 = .ok (.iload 4, 2) := by decide +kernel
theorem dX9_rings_71 : decode cX9_rings 71 = .ok (.iaload, 1) := by decide +kernel
theorem dX9_rings_72 : decode cX9_rings 72 = .ok (.istore 4, 2) := by decide +kernel
theorem dX9_rings_74 : decode cX9_rings 74 = .ok (.iinc 5 1, 3) := by decide +kernel
theorem dX9_rings_77 : decode cX9_rings 77 = .ok (.goto (-42), 3) := by decide +kernel
theorem dX9_rings_80 : decode cX9_rings 80 = .ok (.iload_n 1, 1) := by decide +kernel
theorem dX9_rings_81 : decode cX9_rings 81 = .ok (.iload_n 3, 1) := by decide +kernel
theorem dX9_rings_82 : decode cX9_rings 82 = .ok (.ifCond .eq 7, 3) := by decide +kernel
theorem dX9_rings_85 : decode cX9_rings 85 = .ok (.iconst 1, 1) := by decide +kernel
theorem dX9_rings_86 : decode cX9_rings 86 = .ok (.goto 4, 3) := by decide +kernel
theorem dX9_rings_89 : decode cX9_rings 89 = .ok (.iconst 0, 1) := by decide +kernel
theorem dX9_rings_90 : decode cX9_rings 90 = .ok (.iadd, 1) := by decide +kernel
theorem dX9_rings_91 : decode cX9_rings 91 = .ok (.istore_n 1, 1) := by decide +kernel
theorem dX9_rings_92 : decode cX9_rings 92 = .ok (.iinc 2 1, 3) := by decide +kernel
theorem dX9_rings_95 : decode cX9_rings 95 = .ok (.goto (-81), 3) := by decide +kernel
theorem dX9_rings_98 : decode cX9_rings 98 = .ok (.iload_n 1, 1) := by decide +kernel
theorem dX9_rings_99 : decode cX9_rings 99 = .ok (.ireturn, 1) := by decide +kernel
theorem ip_wsX9_series__wsX9_series_r1 : ∀ w ∈ wsX9_series_r1, w ∈ wsX9_series := fun _ h => (List.mem_cons_of_mem _ (List.mem_append_left _ (List.mem_append_left _ h)))
theorem ip_wsX9_series__wsX9_series_r2 : ∀ w ∈ wsX9_series_r2, w ∈ wsX9_series := fun _ h => (List.mem_cons_of_mem _ (List.mem_append_left _ (List.mem_append_right _ (List.mem_append_left _ h))))
theorem ip_wsX9_series__wsX9_series_r3 : ∀ w ∈ wsX9_series_r3, w ∈ wsX9_series := fun _ h => (List.mem_cons_of_mem _ (List.mem_append_left _ (List.mem_append_right _ (List.mem_append_right _ (List.mem_append_left _ h)))))
theorem ip_wsX9_series__wsX9_series_r4 : ∀ w ∈ wsX9_series_r4, w ∈ wsX9_series := fun _ h => (List.mem_cons_of_mem _ (List.mem_append_left _ (List.mem_append_right _ (List.mem_append_right _ (List.mem_append_right _ (List.mem_append_left _ h))))))
theorem ip_wsX9_series__wsX9_series_r5 : ∀ w ∈ wsX9_series_r5, w ∈ wsX9_series := fun _ h => (List.mem_cons_of_mem _ (List.mem_append_left _ (List.mem_append_right _ (List.mem_append_right _ (List.mem_append_right _ (List.mem_append_right _ h))))))
set_option maxRecDepth 20000 in
theorem ggX9_series_X9_isGood : GoodIn wsX9_series wsX9_isGood := goodIn_sub (List.forall_mem_cons.mpr ⟨(ip_wsX9_series__wsX9_series_r1 _ (List.mem_of_getElem? (i := 5) rfl)), (x_ap2 (x_ap2 (show ∀ w ∈ wsX9_isGood_r1, w ∈ wsX9_series from (List.forall_mem_cons.mpr ⟨(ip_wsX9_series__wsX9_series_r1 _ (List.mem_of_getElem? (i := 6) rfl)), (List.forall_mem_cons.mpr ⟨(ip_wsX9_series__wsX9_series_r1 _ (List.mem_of_getElem? (i := 7) rfl)), (List.forall_mem_cons.mpr ⟨(ip_wsX9_series__wsX9_series_r1 _ (List.mem_of_getElem? (i := 8) rfl)), (List.forall_mem_cons.mpr ⟨(ip_wsX9_series__wsX9_series_r1 _ (List.mem_of_getElem? (i := 9) rfl)), (List.forall_mem_cons.mpr ⟨(ip_wsX9_series__wsX9_series_r1 _ (List.mem_of_getElem? (i := 4) rfl)), (List.forall_mem_cons.mpr ⟨(ip_wsX9_series__wsX9_series_r1 _ (List.mem_of_getElem? (i := 10) rfl)), (List.forall_mem_cons.mpr ⟨(ip_wsX9_series__wsX9_series_r1 _ (List.mem_of_getElem? (i := 11) rfl)), (List.forall_mem_cons.mpr ⟨(ip_wsX9_series__wsX9_series_r1 _ (List.mem_of_getElem? (i := 12) rfl)), (List.forall_mem_cons.mpr ⟨(ip_wsX9_series__wsX9_series_r1 _ (List.mem_of_getElem? (i := 13) rfl)), (List.forall_mem_cons.mpr ⟨(ip_wsX9_series__wsX9_series_r1 _ (List.mem_of_getElem? (i := 14) rfl)), (List.forall_mem_cons.mpr ⟨(ip_wsX9_series__wsX9_series_r1 _ (List.mem_of_getElem? (i := 15) rfl)), (List.forall_mem_cons.mpr ⟨(ip_wsX9_series__wsX9_series_r1 _ (List.mem_of_getElem? (i := 16) rfl)), (List.forall_mem_cons.mpr ⟨(ip_wsX9_series__wsX9_series_r1 _ (List.mem_of_getElem? (i := 17) rfl)), (List.forall_mem_cons.mpr ⟨(ip_wsX9_series__wsX9_series_r1 _ (List.mem_of_getElem? (i := 18) rfl)), (List.forall_mem_cons.mpr ⟨(ip_wsX9_series__wsX9_series_r1 _ (List.mem_of_getElem? (i := 19) rfl)), (List.forall_mem_cons.mpr ⟨(ip_wsX9_series__wsX9_series_r1 _ (List.mem_of_getElem? (i := 20) rfl)), (List.forall_mem_cons.mpr ⟨(ip_wsX9_series__wsX9_series_r1 _ (List.mem_of_getElem? (i := 21) rfl)), (List.forall_mem_cons.mpr ⟨(ip_wsX9_series__wsX9_series_r1 _ (List.mem_of_getElem? (i := 22) rfl)), (List.forall_mem_cons.mpr ⟨(ip_wsX9_series__wsX9_series_r1 _ (List.mem_of_getElem? (i := 23) rfl)), (List.forall_mem_cons.mpr ⟨(ip_wsX9_series__wsX9_series_r2 _ (List.mem_of_getElem? (i := 0) rfl)), (List.forall_mem_cons.mpr ⟨(ip_wsX9_series__wsX9_series_r2 _ (List.mem_of_getElem? (i := 1) rfl)), (List.forall_mem_cons.mpr ⟨(ip_wsX9_series__wsX9_series_r2 _ (List.mem_of_getElem? (i := 2) rfl)), (List.forall_mem_cons.mpr ⟨(ip_wsX9_series__wsX9_series_r2 _ (List.mem_of_getElem? (i := 3) rfl)), (List.forall_mem_cons.mpr ⟨(ip_wsX9_series__wsX9_series_r2 _ (List.mem_of_getElem? (i := 4) rfl)), (fun _ h => absurd h List.not_mem_nil)⟩)⟩)⟩)⟩)⟩)⟩)⟩)⟩)⟩)⟩)⟩)⟩)⟩)⟩)⟩)⟩)⟩)⟩)⟩)⟩)⟩)⟩)⟩)⟩)) (x_ap2 (show ∀ w ∈ wsX9_isGood_r2, w ∈ wsX9_series from (List.forall_mem_cons.mpr ⟨(ip_wsX9_series__wsX9_series_r2 _ (List.mem_of_getElem? (i := 5) rfl)), (List.forall_mem_cons.mpr ⟨(ip_wsX9_series__wsX9_series_r2 _ (List.mem_of_getElem? (i := 6) rfl)), (List.forall_mem_cons.mpr ⟨(ip_wsX9_series__wsX9_series_r2 _ (List.mem_of_getElem? (i := 7) rfl)), (List.forall_mem_cons.mpr ⟨(ip_wsX9_series__wsX9_series_r2 _ (List.mem_of_getElem? (i := 8) rfl)), (List.forall_mem_cons.mpr ⟨(ip_wsX9_series__wsX9_series_r2 _ (List.mem_of_getElem? (i := 9) rfl)), (List.forall_mem_cons.mpr ⟨(ip_wsX9_series__wsX9_series_r2 _ (List.mem_of_getElem? (i := 10) rfl)), (List.forall_mem_cons.mpr ⟨(ip_wsX9_series__wsX9_series_r2 _ (List.mem_of_getElem? (i := 11) rfl)), (List.forall_mem_cons.mpr ⟨(ip_wsX9_series__wsX9_series_r2 _ (List.mem_of_getElem? (i := 12) rfl)), (List.forall_mem_cons.mpr ⟨(ip_wsX9_series__wsX9_series_r2 _ (List.mem_of_getElem? (i := 13) rfl)), (List.forall_mem_cons.mpr ⟨(ip_wsX9_series__wsX9_series_r2 _ (List.mem_of_getElem? (i := 14) rfl)), (List.forall_mem_cons.mpr ⟨(ip_wsX9_series__wsX9_series_r2 _ (List.mem_of_getElem? (i := 15) rfl)), (List.forall_mem_cons.mpr ⟨(ip_wsX9_series__wsX9_series_r2 _ (List.mem_of_getElem? (i := 16) rfl)), (List.forall_mem_cons.mpr ⟨(ip_wsX9_series__wsX9_series_r2 _ (List.mem_of_getElem? (i := 17) rfl)), (List.forall_mem_cons.mpr ⟨(ip_wsX9_series__wsX9_series_r2 _ (List.mem_of_getElem? (i := 18) rfl)), (List.forall_mem_cons.mpr ⟨(ip_wsX9_series__wsX9_series_r2 _ (List.mem_of_getElem? (i := 19) rfl)), (List.forall_mem_cons.mpr ⟨(ip_wsX9_series__wsX9_series_r2 _ (List.mem_of_getElem? (i := 20) rfl)), (List.forall_mem_cons.mpr ⟨(ip_wsX9_series__wsX9_series_r2 _ (List.mem_of_getElem? (i := 21) rfl)), (List.forall_mem_cons.mpr ⟨(ip_wsX9_series__wsX9_series_r2 _ (List.mem_of_getElem? (i := 22) rfl)), (List.forall_mem_cons.mpr ⟨(ip_wsX9_series__wsX9_series_r2 _ (List.mem_of_getElem? (i := 23) rfl)), (List.forall_mem_cons.mpr ⟨(ip_wsX9_series__wsX9_series_r3 _ (List.mem_of_getElem? (i := 0) rfl)), (List.forall_mem_cons.mpr ⟨(ip_wsX9_series__wsX9_series_r3 _ (List.mem_of_getElem? (i := 1) rfl)), (List.forall_mem_cons.mpr ⟨(ip_wsX9_series__wsX9_series_r3 _ (List.mem_of_getElem? (i := 2) rfl)), (List.forall_mem_cons.mpr ⟨(ip_wsX9_series__wsX9_series_r3 _ (List.mem_of_getElem? (i := 3) rfl)), (List.forall_mem_cons.mpr ⟨(ip_wsX9_series__wsX9_series_r3 _ (List.mem_of_getElem? (i := 4) rfl)), (fun _ h => absurd h List.not_mem_nil)⟩)⟩)⟩)⟩)⟩)⟩)⟩)⟩)⟩)⟩)⟩)⟩)⟩)⟩)⟩)⟩)⟩)⟩)⟩)⟩)⟩)⟩)⟩)⟩)) (x_ap2 (show ∀ w ∈ wsX9_isGood_r3, w ∈ wsX9_series from (List.forall_mem_cons.mpr ⟨(ip_wsX9_series__wsX9_series_r3 _ (List.mem_of_getElem? (i := 5) rfl)), (List.forall_mem_cons.mpr ⟨(ip_wsX9_series__wsX9_series_r3 _ (List.mem_of_getElem? (i := 6) rfl)), (List.forall_mem_cons.mpr ⟨(ip_wsX9_series__wsX9_series_r3 _ (List.mem_of_getElem? (i := 7) rfl)), (List.forall_mem_cons.mpr ⟨(ip_wsX9_series__wsX9_series_r3 _ (List.mem_of_getElem? (i := 8) rfl)), (List.forall_mem_cons.mpr ⟨(ip_wsX9_series__wsX9_series_r3 _ (List.mem_of_getElem? (i := 9) rfl)), (List.forall_mem_cons.mpr ⟨(ip_wsX9_series__wsX9_series_r3 _ (List.mem_of_getElem? (i := 10) rfl)), (List.forall_mem_cons.mpr ⟨(ip_wsX9_series__wsX9_series_r3 _ (List.mem_of_getElem? (i := 11) rfl)), (List.forall_mem_cons.mpr ⟨(ip_wsX9_series__wsX9_series_r3 _ (List.mem_of_getElem? (i := 12) rfl)), (List.forall_mem_cons.mpr ⟨(ip_wsX9_series__wsX9_series_r3 _ (List.mem_of_getElem? (i := 13) rfl)), (List.forall_mem_cons.mpr ⟨(ip_wsX9_series__wsX9_series_r3 _ (List.mem_of_getElem? (i := 14) rfl)), (List.forall_mem_cons.mpr ⟨(ip_wsX9_series__wsX9_series_r3 _ (List.mem_of_getElem? (i := 15) rfl)), (List.forall_mem_cons.mpr ⟨(ip_wsX9_series__wsX9_series_r3 _ (List.mem_of_getElem? (i := 16) rfl)), (List.forall_mem_cons.mpr ⟨(ip_wsX9_series__wsX9_series_r3 _ (List.mem_of_getElem? (i := 17) rfl)), (List.forall_mem_cons.mpr ⟨(ip_wsX9_series__wsX9_series_r3 _ (List.mem_of_getElem? (i := 18) rfl)), (List.forall_mem_cons.mpr ⟨(ip_wsX9_series__wsX9_series_r3 _ (List.mem_of_getElem? (i := 19) rfl)), (List.forall_mem_cons.mpr ⟨(ip_wsX9_series__wsX9_series_r3 _ (List.mem_of_getElem? (i := 20) rfl)), (List.forall_mem_cons.mpr ⟨(ip_wsX9_series__wsX9_series_r3 _ (List.mem_of_getElem? (i := 21) rfl)), (List.forall_mem_cons.mpr ⟨(ip_wsX9_series__wsX9_series_r3 _ (List.mem_of_getElem? (i := 22) rfl)), (List.forall_mem_cons.mpr ⟨(ip_wsX9_series__wsX9_series_r3 _ (List.mem_of_getElem? (i := 23) rfl)), (List.forall_mem_cons.mpr ⟨(ip_wsX9_series__wsX9_series_r4 _ (List.mem_of_getElem? (i := 0) rfl)), (List.forall_mem_cons.mpr ⟨(ip_wsX9_series__wsX9_series_r4 _ (List.mem_of_getElem? (i := 1) rfl)), (List.forall_mem_cons.mpr ⟨(ip_wsX9_series__wsX9_series_r4 _ (List.mem_of_getElem? (i := 2) rfl)), (List.forall_mem_cons.mpr ⟨(ip_wsX9_series__wsX9_series_r4 _ (List.mem_of_getElem? (i := 3) rfl)), (List.forall_mem_cons.mpr ⟨(ip_wsX9_series__wsX9_series_r4 _ (List.mem_of_getElem? (i := 4) rfl)), (fun _ h => absurd h List.not_mem_nil)⟩)⟩)⟩)⟩)⟩)⟩)⟩)⟩)⟩)⟩)⟩)⟩)⟩)⟩)⟩)⟩)⟩)⟩)⟩)⟩)⟩)⟩)⟩)⟩)) (show ∀ w ∈ wsX9_isGood_r4, w ∈ wsX9_series from (List.forall_mem_cons.mpr ⟨(ip_wsX9_series__wsX9_series_r4 _ (List.mem_of_getElem? (i := 5) rfl)), (List.forall_mem_cons.mpr ⟨(ip_wsX9_series__wsX9_series_r4 _ (List.mem_of_getElem? (i := 6) rfl)), (List.forall_mem_cons.mpr ⟨(ip_wsX9_series__wsX9_series_r4 _ (List.mem_of_getElem? (i := 7) rfl)), (List.forall_mem_cons.mpr ⟨(ip_wsX9_series__wsX9_series_r4 _ (List.mem_of_getElem? (i := 8) rfl)), (List.forall_mem_cons.mpr ⟨(ip_wsX9_series__wsX9_series_r4 _ (List.mem_of_getElem? (i := 9) rfl)), (List.forall_mem_cons.mpr ⟨(ip_wsX9_series__wsX9_series_r4 _ (List.mem_of_getElem? (i := 10) rfl)), (List.forall_mem_cons.mpr ⟨(ip_wsX9_series__wsX9_series_r4 _ (List.mem_of_getElem? (i := 11) rfl)), (List.forall_mem_cons.mpr ⟨(ip_wsX9_series__wsX9_series_r4 _ (List.mem_of_getElem? (i := 12) rfl)), (List.forall_mem_cons.mpr ⟨(ip_wsX9_series__wsX9_series_r4 _ (List.mem_of_getElem? (i := 13) rfl)), (List.forall_mem_cons.mpr ⟨(ip_wsX9_series__wsX9_series_r4 _ (List.mem_of_getElem? (i := 14) rfl)), (List.forall_mem_cons.mpr ⟨(ip_wsX9_series__wsX9_series_r4 _ (List.mem_of_getElem? (i := 15) rfl)), (List.forall_mem_cons.mpr ⟨(ip_wsX9_series__wsX9_series_r4 _ (List.mem_of_getElem? (i := 16) rfl)), (List.forall_mem_cons.mpr ⟨(ip_wsX9_series__wsX9_series_r4 _ (List.mem_of_getElem? (i := 17) rfl)), (List.forall_mem_cons.mpr ⟨(ip_wsX9_series__wsX9_series_r4 _ (List.mem_of_getElem? (i := 18) rfl)), (List.forall_mem_cons.mpr ⟨(ip_wsX9_series__wsX9_series_r4 _ (List.mem_of_getElem? (i := 19) rfl)), (List.forall_mem_cons.mpr ⟨(ip_wsX9_series__wsX9_series_r4 _ (List.mem_of_getElem? (i := 20) rfl)), (List.forall_mem_cons.mpr ⟨(ip_wsX9_series__wsX9_series_r4 _ (List.mem_of_getElem? (i := 21) rfl)), (List.forall_mem_cons.mpr ⟨(ip_wsX9_series__wsX9_series_r1 _ (List.mem_of_getElem? (i := 0) rfl)), (fun _ h => absurd h List.not_mem_nil)⟩)⟩)⟩)⟩)⟩)⟩)⟩)⟩)⟩)⟩)⟩)⟩)⟩)⟩)⟩)⟩)⟩)⟩))))) (fun _ h => (List.mem_cons_of_mem _ (List.mem_append_right _ h))))⟩) (by decide +kernel)
set_option maxRecDepth 20000 in
theorem gX9_series_X9_isGood : GoodIn wsX9_series (wsV RX9 109 RX9 yX9_isGood wsX9_isGood) := goodIn_app (goodIn_of _ (by decide +kernel)) ggX9_series_X9_isGood
set_option maxRecDepth 20000 in
theorem ggX9_series_X9_in : GoodIn wsX9_series wsX9_in := goodIn_sub (List.forall_mem_cons.mpr ⟨(ip_wsX9_series__wsX9_series_r5 _ (List.mem_of_getElem? (i := 0) rfl)), (fun _ h => absurd h List.not_mem_nil)⟩) (by decide +kernel)
set_option maxRecDepth 20000 in
theorem gX9_series_X9_in : GoodIn wsX9_series (va_wsS RX9 62 yX9_in wsX9_in) := goodIn_app (goodIn_of _ (by decide +kernel)) ggX9_series_X9_in
theorem dX9_series_0 : decode cX9_series 0 = .ok (.aload_n 0, 1) := by decide +kernel
theorem dX9_series_1 : decode cX9_series 1 = .ok (.invokevirtual 109, 3) := by decide +kernel
theorem dX9_series_4 : decode cX9_series 4 = .ok (.ifCond .ne 6, 3) := by decide +kernel
theorem dX9_series_7 : decode cX9_series 7 = .ok (.bipush (-5), 2) := by decide +kernel
theorem dX9_series_9 : decode cX9_series 9 = .ok (.ireturn, 1) := by decide +kernel
theorem dX9_series_10 : decode cX9_series 10 = .ok (.iload_n 1, 1) := by decide +kernel
theorem dX9_series_11 : decode cX9_series 11 = .ok (.iconst 0, 1) := by decide +kernel
theorem dX9_series_12 : decode cX9_series 12 = .ok (.bipush 31, 2) := by decide +kernel
theorem dX9_series_14 : decode cX9_series 14 = .ok (.invokestatic 62, 3) := by decide +kernel
theorem dX9_series_17 : decode cX9_series 17 = .ok (.ifCond .eq 12, 3) := by decide +kernel
theorem dX9_series_20 : decode cX9_series 20 = .ok (.aload_n 0, 1) := by decide +kernel
theorem dX9_series_21 : decode cX9_series 21 = .ok (.getfield 47, 3) := by decide +kernel
theorem dX9_series_24 : decode cX9_series 24 = .ok (.iload_n 1, 1) := by decide +kernel
theorem dX9_series_25 : decode cX9_series 25 = .ok (.iaload, 1) := by decide +kernel
theorem dX9_series_26 : decode cX9_series 26 = .ok (.goto 5, 3) := by decide +kernel
theorem dX9_series_29 : decode cX9_series 29 = .ok (.bipush (-2), 2) := by decide +kernel
theorem dX9_series_31 : decode cX9_series 31 = .ok (.ireturn, 1) := by decide +kernel
set_option maxRecDepth 20000 in
theorem ggX9_determinantOf_X9_of : GoodIn wsX9_determinantOf wsX9_of := goodIn_sub (List.forall_mem_cons.mpr ⟨(List.mem_cons_of_mem _ (List.mem_append_left _ (List.mem_of_getElem? (i := 7) rfl))), (x_ap2 (List.forall_mem_cons.mpr ⟨(List.mem_cons_of_mem _ (List.mem_append_left _ (List.mem_of_getElem? (i := 2) rfl))), (fun _ h => absurd h List.not_mem_nil)⟩) (fun _ h => (List.mem_cons_of_mem _ (List.mem_append_right _ h))))⟩) (by decide +kernel)
set_option maxRecDepth 20000 in
theorem gX9_determinantOf_X9_of : GoodIn wsX9_determinantOf (wsV RX9 85 RX9 yX9_of wsX9_of) := goodIn_app (goodIn_of _ (by decide +kernel)) ggX9_determinantOf_X9_of
set_option maxRecDepth 20000 in
theorem ggX9_determinantOf_X9_by : GoodIn wsX9_determinantOf wsX9_by := goodIn_sub (List.forall_mem_cons.mpr ⟨(List.mem_cons_of_mem _ (List.mem_append_left _ (List.mem_of_getElem? (i := 11) rfl))), (x_ap2 (List.forall_mem_cons.mpr ⟨(List.mem_cons_of_mem _ (List.mem_append_left _ (List.mem_of_getElem? (i := 2) rfl))), (List.forall_mem_cons.mpr ⟨(List.mem_cons_of_mem _ (List.mem_append_left _ (List.mem_of_getElem? (i := 12) rfl))), (List.forall_mem_cons.mpr ⟨(List.mem_cons_of_mem _ (List.mem_append_left _ (List.mem_of_getElem? (i := 13) rfl))), (List.forall_mem_cons.mpr ⟨(List.mem_cons_of_mem _ (List.mem_append_left _ (List.mem_of_getElem? (i := 14) rfl))), (List.forall_mem_cons.mpr ⟨(List.mem_cons_of_mem _ (List.mem_append_left _ (List.mem_of_getElem? (i := 6) rfl))), (List.forall_mem_cons.mpr ⟨(List.mem_cons_of_mem _ (List.mem_append_left _ (List.mem_of_getElem? (i := 15) rfl))), (fun _ h => absurd h List.not_mem_nil)⟩)⟩)⟩)⟩)⟩)⟩) (fun _ h => (List.mem_cons_of_mem _ (List.mem_append_right _ h))))⟩) (by decide +kernel)
set_option maxRecDepth 20000 in
theorem gX9_determinantOf_X9_by : GoodIn wsX9_determinantOf (wsV RX9 78 RX9 yX9_by wsX9_by) := goodIn_app (goodIn_of _ (by decide +kernel)) ggX9_determinantOf_X9_by
theorem dX9_determinantOf_0 : decode cX9_determinantOf 0 = .ok (.iload_n 1, 1) := by decide +kernel
theorem dX9_determinantOf_1 : decode cX9_determinantOf 1 = .ok (.iconst 2, 1) := by decide +kernel
theorem dX9_determinantOf_2 : decode cX9_determinantOf 2 = .ok (.irem, 1) := by decide +kernel
theorem dX9_determinantOf_3 : decode cX9_determinantOf 3 = .ok (.iconst 1, 1) := by decide +kernel
theorem dX9_determinantOf_4 : decode cX9_determinantOf 4 = .ok (.if_icmp .ne 9, 3) := by decide +kernel
theorem dX9_determinantOf_7 : decode cX9_determinantOf 7 = .ok (.iload_n 1, 1) := by decide +kernel
theorem dX9_determinantOf_8 : decode cX9_determinantOf 8 = .ok (.iconst 2, 1) := by decide +kernel
theorem dX9_determinantOf_9 : decode cX9_determinantOf 9 = .ok (.idiv, 1) := by decide +kernel
theorem dX9_determinantOf_10 : decode cX9_determinantOf 10 = .ok (.goto 8, 3) := by decide +kernel
theorem dX9_determinantOf_13 : decode cX9_determinantOf 13 = .ok (.iload_n 1, 1) := by decide +kernel
theorem dX9_determinantOf_14 : decode cX9_determinantOf 14 = .ok (.iconst 2, 1) := by decide +kernel
theorem dX9_determinantOf_15 : decode cX9_determinantOf 15 = .ok (.idiv, 1) := by decide +kernel
theorem dX9_determinantOf_16 : decode cX9_determinantOf 16 = .ok (.iconst 1, 1) := by decide +kernel
theorem dX9_determinantOf_17 : decode cX9_determinantOf 17 = .ok (.isub, 1) := by decide +kernel
theorem dX9_determinantOf_18 : decode cX9_determinantOf 18 = .ok (.istore_n 2, 1) := by decide +kernel
theorem dX9_determinantOf_19 : decode cX9_determinantOf 19 = .ok (.iload_n 1, 1) := by decide +kernel
theorem dX9_determinantOf_20 : decode cX9_determinantOf 20 = .ok (.iconst 2, 1) := by decide +kernel
theorem dX9_determinantOf_21 : decode cX9_determinantOf 21 = .ok (.irem, 1) := by decide +kernel
theorem dX9_determinantOf_22 : decode cX9_determinantOf 22 = .ok (.iconst 1, 1) := by decide +kernel
theorem dX9_determinantOf_23 : decode cX9_determinantOf 23 = .ok (.if_icmp .ne 7, 3) := by decide +kernel
theorem dX9_determinantOf_26 : decode cX9_determinantOf 26 = .ok (.iconst 2, 1) := by decide +kernel
theorem dX9_determinantOf_27 : decode cX9_determinantOf 27 = .ok (.goto 4, 3) := by decide +kernel
theorem dX9_determinantOf_30 : decode cX9_determinantOf 30 = .ok (.iconst 3, 1) := by decide +kernel
theorem dX9_determinantOf_31 : decode cX9_determinantOf 31 = .ok (.istore_n 3, 1) := by decide +kernel
theorem dX9_determinantOf_32 : decode cX9_determinantOf 32 = .ok (.iconst 0, 1) := by decide +kernel
theorem dX9_determinantOf_33 : decode cX9_determinantOf 33 = .ok (.istore 4, 2) := by decide +kernel
theorem dX9_determinantOf_35 : decode cX9_determinantOf 35 = .ok (.iload 4, 2) := by decide +kernel
theorem dX9_determinantOf_37 : decode cX9_determinantOf 37 = .ok (.iload_n 2, 1) := by decide +kernel
theorem dX9_determinantOf_38 : decode cX9_determinantOf 38 = .ok (.if_icmp .ge 49, 3) := by decide +kernel
theorem dX9_determinantOf_41 : decode cX9_determinantOf 41 = .ok (.iconst 0, 1) := by decide +kernel
theorem dX9_determinantOf_42 : decode cX9_determinantOf 42 = .ok (.istore 5, 2) := by decide +kernel
theorem dX9_determinantOf_44 : decode cX9_determinantOf 44 = .ok (.iload 5, 2) := by decide +kernel
theorem dX9_determinantOf_46 : decode cX9_determinantOf 46 = .ok (.iload_n 2, 1) := by decide +kernel
theorem dX9_determinantOf_47 : decode cX9_determinantOf 47 = .ok (.if_icmp .ge 34, 3) := by decide +kernel
theorem dX9_determinantOf_50 : decode cX9_determinantOf 50 = .ok (.aload_n 0, 1) := by decide +kernel
theorem dX9_determinantOf_51 : decode cX9_determinantOf 51 = .ok (.getfield 56, 3) := by decide +kernel
theorem dX9_determinantOf_54 : decode cX9_determinantOf 54 = .ok (.bipush 15, 2) := by decide +kernel
theorem dX9_determinantOf_56 : decode cX9_determinantOf 56 = .ok (.iload 4, 2) := by decide +kernel
theorem dX9_determinantOf_58 : decode cX9_determinantOf 58 = .ok (.imul, 1) := by decide +kernel
theorem dX9_determinantOf_59 : decode cX9_determinantOf 59 = .ok (.iload 5, 2) := by decide +kernel
theorem dX9_determinantOf_61 : decode cX9_determinantOf 61 = .ok (.iadd, 1) := by decide +kernel
theorem dX9_determinantOf_62 : decode cX9_determinantOf 62 = .ok (.aload_n 0, 1) := by decide +kernel
theorem dX9_determinantOf_63 : decode cX9_determinantOf 63 = .ok (.getfield 47, 3) := by decide +kernel
theorem dX9_determinantOf_66 : decode cX9_determinantOf 66 = .ok (.iload_n 3, 1) := by decide +kernel
theorem dX9_determinantOf_67 : decode cX9_determinantOf 67 = .ok (.iload 4, 2) := by decide +kernel
theorem dX9_determinantOf_69 : decode cX9_determinantOf 69 = .ok (.iadd, 1) := by decide +kernel
theorem dX9_determinantOf_70 : decode cX9_determinantOf 70 = .ok (.iload 5, 2) := by decide +kernel
theorem dX9_determinantOf_72 : decode cX9_determinantOf 72 = .ok (.iadd, 1) := by decide +kernel
theorem dX9_determinantOf_73 : decode cX9_determinantOf 73 = .ok (.iaload, 1) := by decide +kernel
theorem dX9_determinantOf_74 : decode cX9_determinantOf 74 = .ok (.iastore, 1) := by decide +kernel
theorem dX9_determinantOf_75 : decode cX9_determinantOf 75 = .ok (.iinc 5 1, 3) := by decide +kernel
theorem dX9_determinantOf_78 : decode cX9_determinantOf 78 = .ok (.goto (-34), 3) := by decide +kernel
theorem dX9_determinantOf_81 : decode cX9_determinantOf 81 = .ok (.iinc 4 1, 3) := by decide +kernel
theorem dX9_determinantOf_84 : decode cX9_determinantOf 84 = .ok (.goto (-49), 3) := by decide +kernel
theorem dX9_determinantOf_87 : decode cX9_determinantOf 87 = .ok (.iconst 1, 1) := by decide +kernel
theorem dX9_determinantOf_88 : decode cX9_determinantOf 88 = .ok (.istore 4, 2) := by decide +kernel
theorem dX9_determinantOf_90 : decode cX9_determinantOf 90 = .ok (.iconst 0, 1) := by decide +kernel
theorem dX9_determinantOf_91 : decode cX9_determinantOf 91 = .ok (.istore 5, 2) := by decide +kernel
theorem dX9_determinantOf_93 : decode cX9_determinantOf 93 = .ok (.iload 5, 2) := by decide +kernel
theorem dX9_determinantOf_95 : decode cX9_determinantOf 95 = .ok (.iload_n 2, 1) := by decide +kernel
theorem dX9_determinantOf_96 : decode cX9_determinantOf 96 = .ok (.if_icmp .ge 272, 3) := by decide +kernel
theorem dX9_determinantOf_99 : decode cX9_determinantOf 99 = .ok (.iload 5, 2) := by decide +kernel
theorem dX9_determinantOf_101 : decode cX9_determinantOf 101 = .ok (.istore 6, 2) := by decide +kernel
theorem dX9_determinantOf_103 : decode cX9_determinantOf 103 = .ok (.iload 6, 2) := by decide +kernel
theorem dX9_determinantOf_105 : decode cX9_determinantOf 105 = .ok (.iload_n 2, 1) := by decide +kernel
theorem dX9_determinantOf_106 : decode cX9_determinantOf 106 = .ok (.if_icmp .ge 25, 3) := by decide +kernel
theorem dX9_determinantOf_109 : decode cX9_determinantOf 109 = .ok (.aload_n 0, 1) := by decide +kernel
theorem dX9_determinantOf_110 : decode cX9_determinantOf 110 = .ok (.getfield 56, 3) := by decide +kernel
theorem dX9_determinantOf_113 : decode cX9_determinantOf 113 = .ok (.bipush 15, 2) := by decide +kernel
theorem dX9_determinantOf_115 : decode cX9_determinantOf 115 = .ok (.iload 6, 2) := by decide +kernel
theorem dX9_determinantOf_117 : decode cX9_determinantOf 117 = .ok (.imul, 1) := by decide +kernel
theorem dX9_determinantOf_118 : decode cX9_determinantOf 118 = .ok (.iload 5, 2) := by decide +kernel
theorem dX9_determinantOf_120 : decode cX9_determinantOf 120 = .ok (.iadd, 1) := by decide +kernel
theorem dX9_determinantOf_121 : decode cX9_determinantOf 121 = .ok (.iaload, 1) := by decide +kernel
theorem dX9_determinantOf_122 : decode cX9_determinantOf 122 = .ok (.ifCond .ne 9, 3) := by decide +kernel
theorem dX9_determinantOf_125 : decode cX9_determinantOf 125 = .ok (.iinc 6 1, 3) := by decide +kernel
theorem dX9_determinantOf_128 : decode cX9_determinantOf 128 = .ok (.goto (-25), 3) := by decide +kernel
theorem dX9_determinantOf_131 : decode cX9_determinantOf 131 = .ok (.iload 6, 2) := by decide +kernel
theorem dX9_determinantOf_133 : decode cX9_determinantOf 133 = .ok (.iload_n 2, 1) := by decide +kernel
theorem dX9_determinantOf_134 : decode cX9_determinantOf 134 = .ok (.if_icmp .ne 5, 3) := by decide +kernel
theorem dX9_determinantOf_137 : decode cX9_determinantOf 137 = .ok (.iconst 0, 1) := by decide +kernel
theorem dX9_determinantOf_138 : decode cX9_determinantOf 138 = .ok (.ireturn, 1) := by decide +kernel
theorem dX9_determinantOf_139 : decode cX9_determinantOf 139 = .ok (.iload 6, 2) := by decide +kernel
theorem dX9_determinantOf_141 : decode cX9_determinantOf 141 = .ok (.iload 5, 2) := by decide +kernel
theorem dX9_determinantOf_143 : decode cX9_determinantOf 143 = .ok (.if_icmp .eq 83, 3) := by decide +kernel
theorem dX9_determinantOf_146 : decode cX9_determinantOf 146 = .ok (.aload_n 0, 1) := by decide +kernel
theorem dX9_determinantOf_147 : decode cX9_determinantOf 147 = .ok (.iload 4, 2) := by decide +kernel
theorem dX9_determinantOf_149 : decode cX9_determinantOf 149 = .ok (.ineg, 1) := by decide +kernel
theorem dX9_determinantOf_150 : decode cX9_determinantOf 150 = .ok (.invokevirtual 85, 3) := by decide +kernel
theorem dX9_determinantOf_153 : decode cX9_determinantOf 153 = .ok (.istore 4, 2) := by decide +kernel
theorem dX9_determinantOf_155 : decode cX9_determinantOf 155 = .ok (.iconst 0, 1) := by decide +kernel
theorem dX9_determinantOf_156 : decode cX9_determinantOf 156 = .ok (.istore 7, 2) := by decide +kernel
theorem dX9_determinantOf_158 : decode cX9_determinantOf 158 = .ok (.iload 7, 2) := by decide +kernel
theorem dX9_determinantOf_160 : decode cX9_determinantOf 160 = .ok (.iload_n 2, 1) := by decide +kernel
theorem dX9_determinantOf_161 : decode cX9_determinantOf 161 = .ok (.if_icmp .ge 65, 3) := by decide +kernel
theorem dX9_determinantOf_164 : decode cX9_determinantOf 164 = .ok (.aload_n 0, 1) := by decide +kernel
theorem dX9_determinantOf_165 : decode cX9_determinantOf 165 = .ok (.getfield 56, 3) := by decide +kernel
theorem dX9_determinantOf_168 : decode cX9_determinantOf 168 = .ok (.bipush 15, 2) := by decide +kernel
theorem dX9_determinantOf_170 : decode cX9_determinantOf 170 = .ok (.iload 6, 2) := by decide +kernel
theorem dX9_determinantOf_172 : decode cX9_determinantOf 172 = .ok (.imul, 1) := by decide +kernel
theorem dX9_determinantOf_173 : decode cX9_determinantOf 173 = .ok (.iload 7, 2) := by decide +kernel
theorem dX9_determinantOf_175 : decode cX9_determinantOf 175 = .ok (.iadd, 1) := by decide +kernel
theorem dX9_determinantOf_176 : decode cX9_determinantOf 176 = .ok (.iaload, 1) := by decide +kernel
theorem dX9_determinantOf_177 : decode cX9_determinantOf 177 = .ok (.istore 8, 2) := by decide +kernel
theorem dX9_determinantOf_179 : decode cX9_determinantOf 179 = .ok (.aload_n 0, 1) := by decide +kernel
theorem dX9_determinantOf_180 : decode cX9_determinantOf 180 = .ok (.getfield 56, 3) := by decide +kernel
theorem dX9_determinantOf_183 : decode cX9_determinantOf 183 = .ok (.bipush 15, 2) := by decide +kernel
theorem dX9_determinantOf_185 : decode cX9_determinantOf 185 = .ok (.iload 6, 2) := by decide +kernel
theorem dX9_determinantOf_187 : decode cX9_determinantOf 187 = .ok (.imul, 1) := by decide +kernel
theorem dX9_determinantOf_188 : decode cX9_determinantOf 188 = .ok (.iload 7, 2) := by decide +kernel
theorem dX9_determinantOf_190 : decode cX9_determinantOf 190 = .ok (.iadd, 1) := by decide +kernel
theorem dX9_determinantOf_191 : decode cX9_determinantOf 191 = .ok (.aload_n 0, 1) := by decide +kernel
theorem dX9_determinantOf_192 : decode cX9_determinantOf 192 = .ok (.getfield 56, 3) := by decide +kernel
theorem dX9_determinantOf_195 : decode cX9_determinantOf 195 = .ok (.bipush 15, 2) := by decide +kernel
theorem dX9_determinantOf_197 : decode cX9_determinantOf 197 = .ok (.iload 5, 2) := by decide +kernel
theorem dX9_determinantOf_199 : decode cX9_determinantOf 199 = .ok (.imul, 1) := by decide +kernel
theorem dX9_determinantOf_200 : decode cX9_determinantOf 200 = .ok (.iload 7, 2) := by decide +kernel
theorem dX9_determinantOf_202 : decode cX9_determinantOf 202 = .ok (.iadd, 1) := by decide +kernel
theorem dX9_determinantOf_203 : decode cX9_determinantOf 203 = .ok (.iaload, 1) := by decide +kernel
theorem dX9_determinantOf_204 : decode cX9_determinantOf 204 = .ok (.iastore, 1) := by decide +kernel
theorem dX9_determinantOf_205 : decode cX9_determinantOf 205 = .ok (.aload_n 0, 1) := by decide +kernel
theorem dX9_determinantOf_206 : decode cX9_determinantOf 206 = .ok (.getfield 56, 3) := by decide +kernel
theorem dX9_determinantOf_209 : decode cX9_determinantOf 209 = .ok (.bipush 15, 2) := by decide +kernel
theorem dX9_determinantOf_211 : decode cX9_determinantOf 211 = .ok (.iload 5, 2) := by decide +kernel
theorem dX9_determinantOf_213 : decode cX9_determinantOf 213 = .ok (.imul, 1) := by decide +kernel
theorem dX9_determinantOf_214 : decode cX9_determinantOf 214 = .ok (.iload 7, 2) := by decide +kernel
theorem dX9_determinantOf_216 : decode cX9_determinantOf 216 = .ok (.iadd, 1) := by decide +kernel
theorem dX9_determinantOf_217 : decode cX9_determinantOf 217 = .ok (.iload 8, 2) := by decide +kernel
theorem dX9_determinantOf_219 : decode cX9_determinantOf 219 = .ok (.iastore, 1) := by decide +kernel
theorem dX9_determinantOf_220 : decode cX9_determinantOf 220 = .ok (.iinc 7 1, 3) := by decide +kernel
theorem dX9_determinantOf_223 : decode cX9_determinantOf 223 = .ok (.goto (-65), 3) := by decide +kernel
theorem dX9_determinantOf_226 : decode cX9_determinantOf 226 = .ok (.iload 4, 2) := by decide +kernel
theorem dX9_determinantOf_228 : decode cX9_determinantOf 228 = .ok (.aload_n 0, 1) := by decide +kernel
theorem dX9_determinantOf_229 : decode cX9_determinantOf 229 = .ok (.getfield 56, 3) := by decide +kernel
theorem dX9_determinantOf_232 : decode cX9_determinantOf 232 = .ok (.bipush 15, 2) := by decide +kernel
theorem dX9_determinantOf_234 : decode cX9_determinantOf 234 = .ok (.iload 5, 2) := by decide +kernel
theorem dX9_determinantOf_236 : decode cX9_determinantOf 236 = .ok (.imul, 1) := by decide +kernel
theorem dX9_determinantOf_237 : decode cX9_determinantOf 237 = .ok (.iload 5, 2) := by decide +kernel
theorem dX9_determinantOf_239 : decode cX9_determinantOf 239 = .ok (.iadd, 1) := by decide +kernel
theorem dX9_determinantOf_240 : decode cX9_determinantOf 240 = .ok (.iaload, 1) := by decide +kernel
theorem dX9_determinantOf_241 : decode cX9_determinantOf 241 = .ok (.imul, 1) := by decide +kernel
theorem dX9_determinantOf_242 : decode cX9_determinantOf 242 = .ok (.aload_n 0, 1) := by decide +kernel
theorem dX9_determinantOf_243 : decode cX9_determinantOf 243 = .ok (.getfield 7, 3) := by decide +kernel
theorem dX9_determinantOf_246 : decode cX9_determinantOf 246 = .ok (.irem, 1) := by decide +kernel
theorem dX9_determinantOf_247 : decode cX9_determinantOf 247 = .ok (.istore 4, 2) := by decide +kernel
theorem dX9_determinantOf_249 : decode cX9_determinantOf 249 = .ok (.iload 5, 2) := by decide +kernel
theorem dX9_determinantOf_251 : decode cX9_determinantOf 251 = .ok (.iconst 1, 1) := by decide +kernel
theorem dX9_determinantOf_252 : decode cX9_determinantOf 252 = .ok (.iadd, 1) := by decide +kernel
theorem dX9_determinantOf_253 : decode cX9_determinantOf 253 = .ok (.istore 7, 2) := by decide +kernel
theorem dX9_determinantOf_255 : decode cX9_determinantOf 255 = .ok (.iload 7, 2) := by decide +kernel
theorem dX9_determinantOf_257 : decode cX9_determinantOf 257 = .ok (.iload_n 2, 1) := by decide +kernel
theorem dX9_determinantOf_258 : decode cX9_determinantOf 258 = .ok (.if_icmp .ge 104, 3) := by decide +kernel
theorem dX9_determinantOf_261 : decode cX9_determinantOf 261 = .ok (.aload_n 0, 1) := by decide +kernel
theorem dX9_determinantOf_262 : decode cX9_determinantOf 262 = .ok (.aload_n 0, 1) := by decide +kernel
theorem dX9_determinantOf_263 : decode cX9_determinantOf 263 = .ok (.getfield 56, 3) := by decide +kernel
theorem dX9_determinantOf_266 : decode cX9_determinantOf 266 = .ok (.bipush 15, 2) := by decide +kernel
theorem dX9_determinantOf_268 : decode cX9_determinantOf 268 = .ok (.iload 7, 2) := by decide +kernel
theorem dX9_determinantOf_270 : decode cX9_determinantOf 270 = .ok (.imul, 1) := by decide +kernel
theorem dX9_determinantOf_271 : decode cX9_determinantOf 271 = .ok (.iload 5, 2) := by decide +kernel
theorem dX9_determinantOf_273 : decode cX9_determinantOf 273 = .ok (.iadd, 1) := by decide +kernel
theorem dX9_determinantOf_274 : decode cX9_determinantOf 274 = .ok (.iaload, 1) := by decide +kernel
theorem dX9_determinantOf_275 : decode cX9_determinantOf 275 = .ok (.aload_n 0, 1) := by decide +kernel
theorem dX9_determinantOf_276 : decode cX9_determinantOf 276 = .ok (.getfield 56, 3) := by decide +kernel
theorem dX9_determinantOf_279 : decode cX9_determinantOf 279 = .ok (.bipush 15, 2) := by decide +kernel
theorem dX9_determinantOf_281 : decode cX9_determinantOf 281 = .ok (.iload 5, 2) := by decide +kernel
theorem dX9_determinantOf_283 : decode cX9_determinantOf 283 = .ok (.imul, 1) := by decide +kernel
theorem dX9_determinantOf_284 : decode cX9_determinantOf 284 = .ok (.iload 5, 2) := by decide +kernel
theorem dX9_determinantOf_286 : decode cX9_determinantOf 286 = .ok (.iadd, 1) := by decide +kernel
theorem dX9_determinantOf_287 : decode cX9_determinantOf 287 = .ok (.iaload, 1) := by decide +kernel
theorem dX9_determinantOf_288 : decode cX9_determinantOf 288 = .ok (.invokevirtual 78, 3) := by decide +kernel
theorem dX9_determinantOf_291 : decode cX9_determinantOf 291 = .ok (.istore 8, 2) := by decide +kernel
theorem dX9_determinantOf_293 : decode cX9_determinantOf 293 = .ok (.iload 5, 2) := by decide +kernel
theorem dX9_determinantOf_295 : decode cX9_determinantOf 295 = .ok (.istore 9, 2) := by decide +kernel
theorem dX9_determinantOf_297 : decode cX9_determinantOf 297 = .ok (.iload 9, 2) := by decide +kernel
theorem dX9_determinantOf_299 : decode cX9_determinantOf 299 = .ok (.iload_n 2, 1) := by decide +kernel
theorem dX9_determinantOf_300 : decode cX9_determinantOf 300 = .ok (.if_icmp .ge 56, 3) := by decide +kernel
theorem dX9_determinantOf_303 : decode cX9_determinantOf 303 = .ok (.aload_n 0, 1) := by decide +kernel
theorem dX9_determinantOf_304 : decode cX9_determinantOf 304 = .ok (.getfield 56, 3) := by decide +kernel
theorem dX9_determinantOf_307 : decode cX9_determinantOf 307 = .ok (.bipush 15, 2) := by decide +kernel
theorem dX9_determinantOf_309 : decode cX9_determinantOf 309 = .ok (.iload 7, 2) := by decide +kernel
theorem dX9_determinantOf_311 : decode cX9_determinantOf 311 = .ok (.imul, 1) := by decide +kernel
theorem dX9_determinantOf_312 : decode cX9_determinantOf 312 = .ok (.iload 9, 2) := by decide +kernel
theorem dX9_determinantOf_314 : decode cX9_determinantOf 314 = .ok (.iadd, 1) := by decide +kernel
theorem dX9_determinantOf_315 : decode cX9_determinantOf 315 = .ok (.aload_n 0, 1) := by decide +kernel
theorem dX9_determinantOf_316 : decode cX9_determinantOf 316 = .ok (.aload_n 0, 1) := by decide +kernel
theorem dX9_determinantOf_317 : decode cX9_determinantOf 317 = .ok (.getfield 56, 3) := by decide +kernel
theorem dX9_determinantOf_320 : decode cX9_determinantOf 320 = .ok (.bipush 15, 2) := by decide +kernel
theorem dX9_determinantOf_322 : decode cX9_determinantOf 322 = .ok (.iload 7, 2) := by decide +kernel
theorem dX9_determinantOf_324 : decode cX9_determinantOf 324 = .ok (.imul, 1) := by decide +kernel
theorem dX9_determinantOf_325 : decode cX9_determinantOf 325 = .ok (.iload 9, 2) := by decide +kernel
theorem dX9_determinantOf_327 : decode cX9_determinantOf 327 = .ok (.iadd, 1) := by decide +kernel
theorem dX9_determinantOf_328 : decode cX9_determinantOf 328 = .ok (.iaload, 1) := by decide +kernel
theorem dX9_determinantOf_329 : decode cX9_determinantOf 329 = .ok (.iload 8, 2) := by decide +kernel
theorem dX9_determinantOf_331 : decode cX9_determinantOf 331 = .ok (.aload_n 0, 1) := by decide +kernel
theorem dX9_determinantOf_332 : decode cX9_determinantOf 332 = .ok (.getfield 56, 3) := by decide +kernel
theorem dX9_determinantOf_335 : decode cX9_determinantOf 335 = .ok (.bipush 15, 2) := by decide +kernel
theorem dX9_determinantOf_337 : decode cX9_determinantOf 337 = .ok (.iload 5, 2) := by decide +kernel
theorem dX9_determinantOf_339 : decode cX9_determinantOf 339 = .ok (.imul, 1) := by decide +kernel
theorem dX9_determinantOf_340 : decode cX9_determinantOf 340 = .ok (.iload 9, 2) := by decide +kernel
theorem dX9_determinantOf_342 : decode cX9_determinantOf 342 = .ok (.iadd, 1) := by decide +kernel
theorem dX9_determinantOf_343 : decode cX9_determinantOf 343 = .ok (.iaload, 1) := by decide +kernel
theorem dX9_determinantOf_344 : decode cX9_determinantOf 344 = .ok (.imul, 1) := by decide +kernel
theorem dX9_determinantOf_345 : decode cX9_determinantOf 345 = .ok (.isub, 1) := by decide +kernel
theorem dX9_determinantOf_346 : decode cX9_determinantOf 346 = .ok (.invokevirtual 85, 3) := by decide +kernel
theorem dX9_determinantOf_349 : decode cX9_determinantOf 349 = .ok (.iastore, 1) := by decide +kernel
theorem dX9_determinantOf_350 : decode cX9_determinantOf 350 = .ok (.iinc 9 1, 3) := by decide +kernel
theorem dX9_determinantOf_353 : decode cX9_determinantOf 353 = .ok (.goto (-56), 3) := by decide +kernel
theorem dX9_determinantOf_356 : decode cX9_determinantOf 356 = .ok (.iinc 7 1, 3) := by decide +kernel
theorem dX9_determinantOf_359 : decode cX9_determinantOf 359 = .ok (.goto (-104), 3) := by decide +kernel
theorem dX9_determinantOf_362 : decode cX9_determinantOf 362 = .ok (.iinc 5 1, 3) := by decide +kernel
theorem dX9_determinantOf_365 : decode cX9_determinantOf 365 = .ok (.goto (-272), 3) := by decide +kernel
theorem dX9_determinantOf_368 : decode cX9_determinantOf 368 = .ok (.iload 4, 2) := by decide +kernel
theorem dX9_determinantOf_370 : decode cX9_determinantOf 370 = .ok (.ireturn, 1) := by decide +kernel
theorem ip_wsX9_determinant__wsX9_determinant_r1 : ∀ w ∈ wsX9_determinant_r1, w ∈ wsX9_determinant := fun _ h => (List.mem_cons_of_mem _ (List.mem_append_left _ (List.mem_append_left _ h)))
theorem ip_wsX9_determinant__wsX9_determinant_r2 : ∀ w ∈ wsX9_determinant_r2, w ∈ wsX9_determinant := fun _ h => (List.mem_cons_of_mem _ (List.mem_append_left _ (List.mem_append_right _ (List.mem_append_left _ h))))
theorem ip_wsX9_determinant__wsX9_determinant_r3 : ∀ w ∈ wsX9_determinant_r3, w ∈ wsX9_determinant := fun _ h => (List.mem_cons_of_mem _ (List.mem_append_left _ (List.mem_append_right _ (List.mem_append_right _ (List.mem_append_left _ h)))))
theorem ip_wsX9_determinant__wsX9_determinant_r4 : ∀ w ∈ wsX9_determinant_r4, w ∈ wsX9_determinant := fun _ h => (List.mem_cons_of_mem _ (List.mem_append_left _ (List.mem_append_right _ (List.mem_append_right _ (List.mem_append_right _ (List.mem_append_left _ h))))))
theorem ip_wsX9_determinant__wsX9_determinant_r5 : ∀ w ∈ wsX9_determinant_r5, w ∈ wsX9_determinant := fun _ h => (List.mem_cons_of_mem _ (List.mem_append_left _ (List.mem_append_right _ (List.mem_append_right _ (List.mem_append_right _ (List.mem_append_right _ h))))))
set_option maxRecDepth 20000 in
theorem ggX9_determinant_X9_isGood : GoodIn wsX9_determinant wsX9_isGood := goodIn_sub (List.forall_mem_cons.mpr ⟨(ip_wsX9_determinant__wsX9_determinant_r1 _ (List.mem_of_getElem? (i := 4) rfl)), (x_ap2 (x_ap2 (show ∀ w ∈ wsX9_isGood_r1, w ∈ wsX9_determinant from (List.forall_mem_cons.mpr ⟨(ip_wsX9_determinant__wsX9_determinant_r1 _ (List.mem_of_getElem? (i := 5) rfl)), (List.forall_mem_cons.mpr ⟨(ip_wsX9_determinant__wsX9_determinant_r1 _ (List.mem_of_getElem? (i := 6) rfl)), (List.forall_mem_cons.mpr ⟨(ip_wsX9_determinant__wsX9_determinant_r1 _ (List.mem_of_getElem? (i := 7) rfl)), (List.forall_mem_cons.mpr ⟨(ip_wsX9_determinant__wsX9_determinant_r1 _ (List.mem_of_getElem? (i := 8) rfl)), (List.forall_mem_cons.mpr ⟨(ip_wsX9_determinant__wsX9_determinant_r1 _ (List.mem_of_getElem? (i := 3) rfl)), (List.forall_mem_cons.mpr ⟨(ip_wsX9_determinant__wsX9_determinant_r1 _ (List.mem_of_getElem? (i := 9) rfl)), (List.forall_mem_cons.mpr ⟨(ip_wsX9_determinant__wsX9_determinant_r1 _ (List.mem_of_getElem? (i := 10) rfl)), (List.forall_mem_cons.mpr ⟨(ip_wsX9_determinant__wsX9_determinant_r1 _ (List.mem_of_getElem? (i := 11) rfl)), (List.forall_mem_cons.mpr ⟨(ip_wsX9_determinant__wsX9_determinant_r1 _ (List.mem_of_getElem? (i := 12) rfl)), (List.forall_mem_cons.mpr ⟨(ip_wsX9_determinant__wsX9_determinant_r1 _ (List.mem_of_getElem? (i := 13) rfl)), (List.forall_mem_cons.mpr ⟨(ip_wsX9_determinant__wsX9_determinant_r1 _ (List.mem_of_getElem? (i := 14) rfl)), (List.forall_mem_cons.mpr ⟨(ip_wsX9_determinant__wsX9_determinant_r1 _ (List.mem_of_getElem? (i := 15) rfl)), (List.forall_mem_cons.mpr ⟨(ip_wsX9_determinant__wsX9_determinant_r1 _ (List.mem_of_getElem? (i := 16) rfl)), (List.forall_mem_cons.mpr ⟨(ip_wsX9_determinant__wsX9_determinant_r1 _ (List.mem_of_getElem? (i := 17) rfl)), (List.forall_mem_cons.mpr ⟨(ip_wsX9_determinant__wsX9_determinant_r1 _ (List.mem_of_getElem? (i := 18) rfl)), (List.forall_mem_cons.mpr ⟨(ip_wsX9_determinant__wsX9_determinant_r1 _ (List.mem_of_getElem? (i := 19) rfl)), (List.forall_mem_cons.mpr ⟨(ip_wsX9_determinant__wsX9_determinant_r1 _ (List.mem_of_getElem? (i := 20) rfl)), (List.forall_mem_cons.mpr ⟨(ip_wsX9_determinant__wsX9_determinant_r1 _ (List.mem_of_getElem? (i := 21) rfl)), (List.forall_mem_cons.mpr ⟨(ip_wsX9_determinant__wsX9_determinant_r1 _ (List.mem_of_getElem? (i := 22) rfl)), (List.forall_mem_cons.mpr ⟨(ip_wsX9_determinant__wsX9_determinant_r1 _ (List.mem_of_getElem? (i := 23) rfl)), (List.forall_mem_cons.mpr ⟨(ip_wsX9_determinant__wsX9_determinant_r2 _ (List.mem_of_getElem? (i := 0) rfl)), (List.forall_mem_cons.mpr ⟨(ip_wsX9_determinant__wsX9_determinant_r2 _ (List.mem_of_getElem? (i := 1) rfl)), (List.forall_mem_cons.mpr ⟨(ip_wsX9_determinant__wsX9_determinant_r2 _ (List.mem_of_getElem? (i := 2) rfl)), (List.forall_mem_cons.mpr ⟨(ip_wsX9_determinant__wsX9_determinant_r2 _ (List.mem_of_getElem? (i := 3) rfl)), (fun _ h => absurd h List.not_mem_nil)⟩)⟩)⟩)⟩)⟩)⟩)⟩)⟩)⟩)⟩)⟩)⟩)⟩)⟩)⟩)⟩)⟩)⟩)⟩)⟩)⟩)⟩)⟩)⟩)) (x_ap2 (show ∀ w ∈ wsX9_isGood_r2, w ∈ wsX9_determinant from (List.forall_mem_cons.mpr ⟨(ip_wsX9_determinant__wsX9_determinant_r2 _ (List.mem_of_getElem? (i := 4) rfl)), (List.forall_mem_cons.mpr ⟨(ip_wsX9_determinant__wsX9_determinant_r2 _ (List.mem_of_getElem? (i := 5) rfl)), (List.forall_mem_cons.mpr ⟨(ip_wsX9_determinant__wsX9_determinant_r2 _ (List.mem_of_getElem? (i := 6) rfl)), (List.forall_mem_cons.mpr ⟨(ip_wsX9_determinant__wsX9_determinant_r2 _ (List.mem_of_getElem? (i := 7) rfl)), (List.forall_mem_cons.mpr ⟨(ip_wsX9_determinant__wsX9_determinant_r2 _ (List.mem_of_getElem? (i := 8) rfl)), (List.forall_mem_cons.mpr ⟨(ip_wsX9_determinant__wsX9_determinant_r2 _ (List.mem_of_getElem? (i := 9) rfl)), (List.forall_mem_cons.mpr ⟨(ip_wsX9_determinant__wsX9_determinant_r2 _ (List.mem_of_getElem? (i := 10) rfl)), (List.forall_mem_cons.mpr ⟨(ip_wsX9_determinant__wsX9_determinant_r2 _ (List.mem_of_getElem? (i := 11) rfl)), (List.forall_mem_cons.mpr ⟨(ip_wsX9_determinant__wsX9_determinant_r2 _ (List.mem_of_getElem? (i := 12) rfl)), (List.forall_mem_cons.mpr ⟨(ip_wsX9_determinant__wsX9_determinant_r2 _ (List.mem_of_getElem? (i := 13) rfl)), (List.forall_mem_cons.mpr ⟨(ip_wsX9_determinant__wsX9_determinant_r2 _ (List.mem_of_getElem? (i := 14) rfl)), (List.forall_mem_cons.mpr ⟨(ip_wsX9_determinant__wsX9_determinant_r2 _ (List.mem_of_getElem? (i := 15) rfl)), (List.forall_mem_cons.mpr ⟨(ip_wsX9_determinant__wsX9_determinant_r2 _ (List.mem_of_getElem? (i := 16) rfl)), (List.forall_mem_cons.mpr ⟨(ip_wsX9_determinant__wsX9_determinant_r2 _ (List.mem_of_getElem? (i := 17) rfl)), (List.forall_mem_cons.mpr ⟨(ip_wsX9_determinant__wsX9_determinant_r2 _ (List.mem_of_getElem? (i := 18) rfl)), (List.forall_mem_cons.mpr ⟨(ip_wsX9_determinant__wsX9_determinant_r2 _ (List.mem_of_getElem? (i := 19) rfl)), (List.forall_mem_cons.mpr ⟨(ip_wsX9_determinant__wsX9_determinant_r2 _ (List.mem_of_getElem? (i := 20) rfl)), (List.forall_mem_cons.mpr ⟨(ip_wsX9_determinant__wsX9_determinant_r2 _ (List.mem_of_getElem? (i := 21) rfl)), (List.forall_mem_cons.mpr ⟨(ip_wsX9_determinant__wsX9_determinant_r2 _ (List.mem_of_getElem? (i := 22) rfl)), (List.forall_mem_cons.mpr ⟨(ip_wsX9_determinant__wsX9_determinant_r2 _ (List.mem_of_getElem? (i := 23) rfl)), (List.forall_mem_cons.mpr ⟨(ip_wsX9_determinant__wsX9_determinant_r3 _ (List.mem_of_getElem? (i := 0) rfl)), (List.forall_mem_cons.mpr ⟨(ip_wsX9_determinant__wsX9_determinant_r3 _ (List.mem_of_getElem? (i := 1) rfl)), (List.forall_mem_cons.mpr ⟨(ip_wsX9_determinant__wsX9_determinant_r3 _ (List.mem_of_getElem? (i := 2) rfl)), (List.forall_mem_cons.mpr ⟨(ip_wsX9_determinant__wsX9_determinant_r3 _ (List.mem_of_getElem? (i := 3) rfl)), (fun _ h => absurd h List.not_mem_nil)⟩)⟩)⟩)⟩)⟩)⟩)⟩)⟩)⟩)⟩)⟩)⟩)⟩)⟩)⟩)⟩)⟩)⟩)⟩)⟩)⟩)⟩)⟩)⟩)) (x_ap2 (show ∀ w ∈ wsX9_isGood_r3, w ∈ wsX9_determinant from (List.forall_mem_cons.mpr ⟨(ip_wsX9_determinant__wsX9_determinant_r3 _ (List.mem_of_getElem? (i := 4) rfl)), (List.forall_mem_cons.mpr ⟨(ip_wsX9_determinant__wsX9_determinant_r3 _ (List.mem_of_getElem? (i := 5) rfl)), (List.forall_mem_cons.mpr ⟨(ip_wsX9_determinant__wsX9_determinant_r3 _ (List.mem_of_getElem? (i := 6) rfl)), (List.forall_mem_cons.mpr ⟨(ip_wsX9_determinant__wsX9_determinant_r3 _ (List.mem_of_getElem? (i := 7) rfl)), (List.forall_mem_cons.mpr ⟨(ip_wsX9_determinant__wsX9_determinant_r3 _ (List.mem_of_getElem? (i := 8) rfl)), (List.forall_mem_cons.mpr ⟨(ip_wsX9_determinant__wsX9_determinant_r3 _ (List.mem_of_getElem? (i := 9) rfl)), (List.forall_mem_cons.mpr ⟨(ip_wsX9_determinant__wsX9_determinant_r3 _ (List.mem_of_getElem? (i := 10) rfl)), (List.forall_mem_cons.mpr ⟨(ip_wsX9_determinant__wsX9_determinant_r3 _ (List.mem_of_getElem? (i := 11) rfl)), (List.forall_mem_cons.mpr ⟨(ip_wsX9_determinant__wsX9_determinant_r3 _ (List.mem_of_getElem? (i := 12) rfl)), (List.forall_mem_cons.mpr ⟨(ip_wsX9_determinant__wsX9_determinant_r3 _ (List.mem_of_getElem? (i := 13) rfl)), (List.forall_mem_cons.mpr ⟨(ip_wsX9_determinant__wsX9_determinant_r3 _ (List.mem_of_getElem? (i := 14) rfl)), (List.forall_mem_cons.mpr ⟨(ip_wsX9_determinant__wsX9_determinant_r3 _ (List.mem_of_getElem? (i := 15) rfl)), (List.forall_mem_cons.mpr ⟨(ip_wsX9_determinant__wsX9_determinant_r3 _ (List.mem_of_getElem? (i := 16) rfl)), (List.forall_mem_cons.mpr ⟨(ip_wsX9_determinant__wsX9_determinant_r3 _ (List.mem_of_getElem? (i := 17) rfl)), (List.forall_mem_cons.mpr ⟨(ip_wsX9_determinant__wsX9_determinant_r3 _ (List.mem_of_getElem? (i := 18) rfl)), (List.forall_mem_cons.mpr ⟨(ip_wsX9_determinant__wsX9_determinant_r3 _ (List.mem_of_getElem? (i := 19) rfl)), (List.forall_mem_cons.mpr ⟨(ip_wsX9_determinant__wsX9_determinant_r3 _ (List.mem_of_getElem? (i := 20) rfl)), (List.forall_mem_cons.mpr ⟨(ip_wsX9_determinant__wsX9_determinant_r3 _ (List.mem_of_getElem? (i := 21) rfl)), (List.forall_mem_cons.mpr ⟨(ip_wsX9_determinant__wsX9_determinant_r3 _ (List.mem_of_getElem? (i := 22) rfl)), (List.forall_mem_cons.mpr ⟨(ip_wsX9_determinant__wsX9_determinant_r3 _ (List.mem_of_getElem? (i := 23) rfl)), (List.forall_mem_cons.mpr ⟨(ip_wsX9_determinant__wsX9_determinant_r4 _ (List.mem_of_getElem? (i := 0) rfl)), (List.forall_mem_cons.mpr ⟨(ip_wsX9_determinant__wsX9_determinant_r4 _ (List.mem_of_getElem? (i := 1) rfl)), (List.forall_mem_cons.mpr ⟨(ip_wsX9_determinant__wsX9_determinant_r4 _ (List.mem_of_getElem? (i := 2) rfl)), (List.forall_mem_cons.mpr ⟨(ip_wsX9_determinant__wsX9_determinant_r4 _ (List.mem_of_getElem? (i := 3) rfl)), (fun _ h => absurd h List.not_mem_nil)⟩)⟩)⟩)⟩)⟩)⟩)⟩)⟩)⟩)⟩)⟩)⟩)⟩)⟩)⟩)⟩)⟩)⟩)⟩)⟩)⟩)⟩)⟩)⟩)) (show ∀ w ∈ wsX9_isGood_r4, w ∈ wsX9_determinant from (List.forall_mem_cons.mpr ⟨(ip_wsX9_determinant__wsX9_determinant_r4 _ (List.mem_of_getElem? (i := 4) rfl)), (List.forall_mem_cons.mpr ⟨(ip_wsX9_determinant__wsX9_determinant_r4 _ (List.mem_of_getElem? (i := 5) rfl)), (List.forall_mem_cons.mpr ⟨(ip_wsX9_determinant__wsX9_determinant_r4 _ (List.mem_of_getElem? (i := 6) rfl)), (List.forall_mem_cons.mpr ⟨(ip_wsX9_determinant__wsX9_determinant_r4 _ (List.mem_of_getElem? (i := 7) rfl)), (List.forall_mem_cons.mpr ⟨(ip_wsX9_determinant__wsX9_determinant_r4 _ (List.mem_of_getElem? (i := 8) rfl)), (List.forall_mem_cons.mpr ⟨(ip_wsX9_determinant__wsX9_determinant_r4 _ (List.mem_of_getElem? (i := 9) rfl)), (List.forall_mem_cons.mpr ⟨(ip_wsX9_determinant__wsX9_determinant_r4 _ (List.mem_of_getElem? (i := 10) rfl)), (List.forall_mem_cons.mpr ⟨(ip_wsX9_determinant__wsX9_determinant_r4 _ (List.mem_of_getElem? (i := 11) rfl)), (List.forall_mem_cons.mpr ⟨(ip_wsX9_determinant__wsX9_determinant_r4 _ (List.mem_of_getElem? (i := 12) rfl)), (List.forall_mem_cons.mpr ⟨(ip_wsX9_determinant__wsX9_determinant_r4 _ (List.mem_of_getElem? (i := 13) rfl)), (List.forall_mem_cons.mpr ⟨(ip_wsX9_determinant__wsX9_determinant_r4 _ (List.mem_of_getElem? (i := 14) rfl)), (List.forall_mem_cons.mpr ⟨(ip_wsX9_determinant__wsX9_determinant_r4 _ (List.mem_of_getElem? (i := 15) rfl)), (List.forall_mem_cons.mpr ⟨(ip_wsX9_determinant__wsX9_determinant_r4 _ (List.mem_of_getElem? (i := 16) rfl)), (List.forall_mem_cons.mpr ⟨(ip_wsX9_determinant__wsX9_determinant_r4 _ (List.mem_of_getElem? (i := 17) rfl)), (List.forall_mem_cons.mpr ⟨(ip_wsX9_determinant__wsX9_determinant_r4 _ (List.mem_of_getElem? (i := 18) rfl)), (List.forall_mem_cons.mpr ⟨(ip_wsX9_determinant__wsX9_determinant_r4 _ (List.mem_of_getElem? (i := 19) rfl)), (List.forall_mem_cons.mpr ⟨(ip_wsX9_determinant__wsX9_determinant_r4 _ (List.mem_of_getElem? (i := 20) rfl)), (List.forall_mem_cons.mpr ⟨(ip_wsX9_determinant__wsX9_determinant_r4 _ (List.mem_of_getElem? (i := 21) rfl)), (fun _ h => absurd h List.not_mem_nil)⟩)⟩)⟩)⟩)⟩)⟩)⟩)⟩)⟩)⟩)⟩)⟩)⟩)⟩)⟩)⟩)⟩)⟩))))) (fun _ h => (List.mem_cons_of_mem _ (List.mem_append_right _ h))))⟩) (by decide +kernel)
set_option maxRecDepth 20000 in
theorem gX9_determinant_X9_isGood : GoodIn wsX9_determinant (wsV RX9 109 RX9 yX9_isGood wsX9_isGood) := goodIn_app (goodIn_of _ (by decide +kernel)) ggX9_determinant_X9_isGood
set_option maxRecDepth 20000 in
theorem ggX9_determinant_X9_in : GoodIn wsX9_determinant wsX9_in := goodIn_sub (List.forall_mem_cons.mpr ⟨(ip_wsX9_determinant__wsX9_determinant_r5 _ (List.mem_of_getElem? (i := 0) rfl)), (fun _ h => absurd h List.not_mem_nil)⟩) (by decide +kernel)
set_option maxRecDepth 20000 in
theorem gX9_determinant_X9_in : GoodIn wsX9_determinant (va_wsS RX9 62 yX9_in wsX9_in) := goodIn_app (goodIn_of _ (by decide +kernel)) ggX9_determinant_X9_in
set_option maxRecDepth 20000 in
theorem ggX9_determinant_X9_determinantOf : GoodIn wsX9_determinant wsX9_determinantOf := goodIn_sub (List.forall_mem_cons.mpr ⟨(ip_wsX9_determinant__wsX9_determinant_r5 _ (List.mem_of_getElem? (i := 4) rfl)), (x_ap2 (List.forall_mem_cons.mpr ⟨(ip_wsX9_determinant__wsX9_determinant_r5 _ (List.mem_of_getElem? (i := 5) rfl)), (List.forall_mem_cons.mpr ⟨(ip_wsX9_determinant__wsX9_determinant_r4 _ (List.mem_of_getElem? (i := 21) rfl)), (List.forall_mem_cons.mpr ⟨(ip_wsX9_determinant__wsX9_determinant_r1 _ (List.mem_of_getElem? (i := 19) rfl)), (List.forall_mem_cons.mpr ⟨(ip_wsX9_determinant__wsX9_determinant_r2 _ (List.mem_of_getElem? (i := 1) rfl)), (List.forall_mem_cons.mpr ⟨(ip_wsX9_determinant__wsX9_determinant_r2 _ (List.mem_of_getElem? (i := 2) rfl)), (List.forall_mem_cons.mpr ⟨(ip_wsX9_determinant__wsX9_determinant_r2 _ (List.mem_of_getElem? (i := 3) rfl)), (List.forall_mem_cons.mpr ⟨(ip_wsX9_determinant__wsX9_determinant_r1 _ (List.mem_of_getElem? (i := 3) rfl)), (List.forall_mem_cons.mpr ⟨(ip_wsX9_determinant__wsX9_determinant_r2 _ (List.mem_of_getElem? (i := 4) rfl)), (List.forall_mem_cons.mpr ⟨(ip_wsX9_determinant__wsX9_determinant_r2 _ (List.mem_of_getElem? (i := 9) rfl)), (List.forall_mem_cons.mpr ⟨(ip_wsX9_determinant__wsX9_determinant_r2 _ (List.mem_of_getElem? (i := 10) rfl)), (List.forall_mem_cons.mpr ⟨(ip_wsX9_determinant__wsX9_determinant_r2 _ (List.mem_of_getElem? (i := 11) rfl)), (List.forall_mem_cons.mpr ⟨(ip_wsX9_determinant__wsX9_determinant_r2 _ (List.mem_of_getElem? (i := 12) rfl)), (List.forall_mem_cons.mpr ⟨(ip_wsX9_determinant__wsX9_determinant_r2 _ (List.mem_of_getElem? (i := 13) rfl)), (List.forall_mem_cons.mpr ⟨(ip_wsX9_determinant__wsX9_determinant_r2 _ (List.mem_of_getElem? (i := 14) rfl)), (List.forall_mem_cons.mpr ⟨(ip_wsX9_determinant__wsX9_determinant_r2 _ (List.mem_of_getElem? (i := 15) rfl)), (List.forall_mem_cons.mpr ⟨(ip_wsX9_determinant__wsX9_determinant_r2 _ (List.mem_of_getElem? (i := 16) rfl)), (fun _ h => absurd h List.not_mem_nil)⟩)⟩)⟩)⟩)⟩)⟩)⟩)⟩)⟩)⟩)⟩)⟩)⟩)⟩)⟩)⟩) (fun _ h => (List.mem_cons_of_mem _ (List.mem_append_right _ h))))⟩) (by decide +kernel)
set_option maxRecDepth 20000 in
theorem gX9_determinant_X9_determinantOf : GoodIn wsX9_determinant (wsV RX9 179 RX9 yX9_determinantOf wsX9_determinantOf) := goodIn_app (goodIn_of _ (by decide +kernel)) ggX9_determinant_X9_determinantOf
theorem dX9_determinant_0 : decode cX9_determinant 0 = .ok (.aload_n 0, 1) := by decide +kernel
theorem dX9_determinant_1 : decode cX9_determinant 1 = .ok (.invokevirtual 109, 3) := by decide +kernel
theorem dX9_determinant_4 : decode cX9_determinant 4 = .ok (.ifCond .ne 6, 3) := by decide +kernel
theorem dX9_determinant_7 : decode cX9_determinant 7 = .ok (.bipush (-5), 2) := by decide +kernel
theorem dX9_determinant_9 : decode cX9_determinant 9 = .ok (.ireturn, 1) := by decide +kernel
theorem dX9_determinant_10 : decode cX9_determinant 10 = .ok (.iload_n 1, 1) := by decide +kernel
theorem dX9_determinant_11 : decode cX9_determinant 11 = .ok (.iconst 3, 1) := by decide +kernel
theorem dX9_determinant_12 : decode cX9_determinant 12 = .ok (.bipush 31, 2) := by decide +kernel
theorem dX9_determinant_14 : decode cX9_determinant 14 = .ok (.invokestatic 62, 3) := by decide +kernel
theorem dX9_determinant_17 : decode cX9_determinant 17 = .ok (.ifCond .eq 11, 3) := by decide +kernel
theorem dX9_determinant_20 : decode cX9_determinant 20 = .ok (.aload_n 0, 1) := by decide +kernel
theorem dX9_determinant_21 : decode cX9_determinant 21 = .ok (.iload_n 1, 1) := by decide +kernel
theorem dX9_determinant_22 : decode cX9_determinant 22 = .ok (.invokevirtual 179, 3) := by decide +kernel
theorem dX9_determinant_25 : decode cX9_determinant 25 = .ok (.goto 5, 3) := by decide +kernel
theorem dX9_determinant_28 : decode cX9_determinant 28 = .ok (.bipush (-2), 2) := by decide +kernel
theorem dX9_determinant_30 : decode cX9_determinant 30 = .ok (.ireturn, 1) := by decide +kernel
theorem ip_wsX9_closes__wsX9_closes_r1 : ∀ w ∈ wsX9_closes_r1, w ∈ wsX9_closes := fun _ h => (List.mem_cons_of_mem _ (List.mem_append_left _ (List.mem_append_left _ h)))
theorem ip_wsX9_closes__wsX9_closes_r2 : ∀ w ∈ wsX9_closes_r2, w ∈ wsX9_closes := fun _ h => (List.mem_cons_of_mem _ (List.mem_append_left _ (List.mem_append_right _ (List.mem_append_left _ h))))
theorem ip_wsX9_closes__wsX9_closes_r3 : ∀ w ∈ wsX9_closes_r3, w ∈ wsX9_closes := fun _ h => (List.mem_cons_of_mem _ (List.mem_append_left _ (List.mem_append_right _ (List.mem_append_right _ (List.mem_append_left _ h)))))
theorem ip_wsX9_closes__wsX9_closes_r4 : ∀ w ∈ wsX9_closes_r4, w ∈ wsX9_closes := fun _ h => (List.mem_cons_of_mem _ (List.mem_append_left _ (List.mem_append_right _ (List.mem_append_right _ (List.mem_append_right _ (List.mem_append_left _ h))))))
theorem ip_wsX9_closes__wsX9_closes_r5 : ∀ w ∈ wsX9_closes_r5, w ∈ wsX9_closes := fun _ h => (List.mem_cons_of_mem _ (List.mem_append_left _ (List.mem_append_right _ (List.mem_append_right _ (List.mem_append_right _ (List.mem_append_right _ h))))))
set_option maxRecDepth 20000 in
theorem ggX9_closes_X9_isGood : GoodIn wsX9_closes wsX9_isGood := goodIn_sub (List.forall_mem_cons.mpr ⟨(ip_wsX9_closes__wsX9_closes_r1 _ (List.mem_of_getElem? (i := 4) rfl)), (x_ap2 (x_ap2 (show ∀ w ∈ wsX9_isGood_r1, w ∈ wsX9_closes from (List.forall_mem_cons.mpr ⟨(ip_wsX9_closes__wsX9_closes_r1 _ (List.mem_of_getElem? (i := 5) rfl)), (List.forall_mem_cons.mpr ⟨(ip_wsX9_closes__wsX9_closes_r1 _ (List.mem_of_getElem? (i := 6) rfl)), (List.forall_mem_cons.mpr ⟨(ip_wsX9_closes__wsX9_closes_r1 _ (List.mem_of_getElem? (i := 7) rfl)), (List.forall_mem_cons.mpr ⟨(ip_wsX9_closes__wsX9_closes_r1 _ (List.mem_of_getElem? (i := 8) rfl)), (List.forall_mem_cons.mpr ⟨(ip_wsX9_closes__wsX9_closes_r1 _ (List.mem_of_getElem? (i := 3) rfl)), (List.forall_mem_cons.mpr ⟨(ip_wsX9_closes__wsX9_closes_r1 _ (List.mem_of_getElem? (i := 9) rfl)), (List.forall_mem_cons.mpr ⟨(ip_wsX9_closes__wsX9_closes_r1 _ (List.mem_of_getElem? (i := 10) rfl)), (List.forall_mem_cons.mpr ⟨(ip_wsX9_closes__wsX9_closes_r1 _ (List.mem_of_getElem? (i := 11) rfl)), (List.forall_mem_cons.mpr ⟨(ip_wsX9_closes__wsX9_closes_r1 _ (List.mem_of_getElem? (i := 12) rfl)), (List.forall_mem_cons.mpr ⟨(ip_wsX9_closes__wsX9_closes_r1 _ (List.mem_of_getElem? (i := 13) rfl)), (List.forall_mem_cons.mpr ⟨(ip_wsX9_closes__wsX9_closes_r1 _ (List.mem_of_getElem? (i := 14) rfl)), (List.forall_mem_cons.mpr ⟨(ip_wsX9_closes__wsX9_closes_r1 _ (List.mem_of_getElem? (i := 15) rfl)), (List.forall_mem_cons.mpr ⟨(ip_wsX9_closes__wsX9_closes_r1 _ (List.mem_of_getElem? (i := 16) rfl)), (List.forall_mem_cons.mpr ⟨(ip_wsX9_closes__wsX9_closes_r1 _ (List.mem_of_getElem? (i := 17) rfl)), (List.forall_mem_cons.mpr ⟨(ip_wsX9_closes__wsX9_closes_r1 _ (List.mem_of_getElem? (i := 18) rfl)), (List.forall_mem_cons.mpr ⟨(ip_wsX9_closes__wsX9_closes_r1 _ (List.mem_of_getElem? (i := 19) rfl)), (List.forall_mem_cons.mpr ⟨(ip_wsX9_closes__wsX9_closes_r1 _ (List.mem_of_getElem? (i := 20) rfl)), (List.forall_mem_cons.mpr ⟨(ip_wsX9_closes__wsX9_closes_r1 _ (List.mem_of_getElem? (i := 21) rfl)), (List.forall_mem_cons.mpr ⟨(ip_wsX9_closes__wsX9_closes_r1 _ (List.mem_of_getElem? (i := 22) rfl)), (List.forall_mem_cons.mpr ⟨(ip_wsX9_closes__wsX9_closes_r1 _ (List.mem_of_getElem? (i := 23) rfl)), (List.forall_mem_cons.mpr ⟨(ip_wsX9_closes__wsX9_closes_r2 _ (List.mem_of_getElem? (i := 0) rfl)), (List.forall_mem_cons.mpr ⟨(ip_wsX9_closes__wsX9_closes_r2 _ (List.mem_of_getElem? (i := 1) rfl)), (List.forall_mem_cons.mpr ⟨(ip_wsX9_closes__wsX9_closes_r2 _ (List.mem_of_getElem? (i := 2) rfl)), (List.forall_mem_cons.mpr ⟨(ip_wsX9_closes__wsX9_closes_r2 _ (List.mem_of_getElem? (i := 3) rfl)), (fun _ h => absurd h List.not_mem_nil)⟩)⟩)⟩)⟩)⟩)⟩)⟩)⟩)⟩)⟩)⟩)⟩)⟩)⟩)⟩)⟩)⟩)⟩)⟩)⟩)⟩)⟩)⟩)⟩)) (x_ap2 (show ∀ w ∈ wsX9_isGood_r2, w ∈ wsX9_closes from (List.forall_mem_cons.mpr ⟨(ip_wsX9_closes__wsX9_closes_r2 _ (List.mem_of_getElem? (i := 4) rfl)), (List.forall_mem_cons.mpr ⟨(ip_wsX9_closes__wsX9_closes_r2 _ (List.mem_of_getElem? (i := 5) rfl)), (List.forall_mem_cons.mpr ⟨(ip_wsX9_closes__wsX9_closes_r2 _ (List.mem_of_getElem? (i := 6) rfl)), (List.forall_mem_cons.mpr ⟨(ip_wsX9_closes__wsX9_closes_r2 _ (List.mem_of_getElem? (i := 7) rfl)), (List.forall_mem_cons.mpr ⟨(ip_wsX9_closes__wsX9_closes_r2 _ (List.mem_of_getElem? (i := 8) rfl)), (List.forall_mem_cons.mpr ⟨(ip_wsX9_closes__wsX9_closes_r2 _ (List.mem_of_getElem? (i := 9) rfl)), (List.forall_mem_cons.mpr ⟨(ip_wsX9_closes__wsX9_closes_r2 _ (List.mem_of_getElem? (i := 10) rfl)), (List.forall_mem_cons.mpr ⟨(ip_wsX9_closes__wsX9_closes_r2 _ (List.mem_of_getElem? (i := 11) rfl)), (List.forall_mem_cons.mpr ⟨(ip_wsX9_closes__wsX9_closes_r2 _ (List.mem_of_getElem? (i := 12) rfl)), (List.forall_mem_cons.mpr ⟨(ip_wsX9_closes__wsX9_closes_r2 _ (List.mem_of_getElem? (i := 13) rfl)), (List.forall_mem_cons.mpr ⟨(ip_wsX9_closes__wsX9_closes_r2 _ (List.mem_of_getElem? (i := 14) rfl)), (List.forall_mem_cons.mpr ⟨(ip_wsX9_closes__wsX9_closes_r2 _ (List.mem_of_getElem? (i := 15) rfl)), (List.forall_mem_cons.mpr ⟨(ip_wsX9_closes__wsX9_closes_r2 _ (List.mem_of_getElem? (i := 16) rfl)), (List.forall_mem_cons.mpr ⟨(ip_wsX9_closes__wsX9_closes_r2 _ (List.mem_of_getElem? (i := 17) rfl)), (List.forall_mem_cons.mpr ⟨(ip_wsX9_closes__wsX9_closes_r2 _ (List.mem_of_getElem? (i := 18) rfl)), (List.forall_mem_cons.mpr ⟨(ip_wsX9_closes__wsX9_closes_r2 _ (List.mem_of_getElem? (i := 19) rfl)), (List.forall_mem_cons.mpr ⟨(ip_wsX9_closes__wsX9_closes_r2 _ (List.mem_of_getElem? (i := 20) rfl)), (List.forall_mem_cons.mpr ⟨(ip_wsX9_closes__wsX9_closes_r2 _ (List.mem_of_getElem? (i := 21) rfl)), (List.forall_mem_cons.mpr ⟨(ip_wsX9_closes__wsX9_closes_r2 _ (List.mem_of_getElem? (i := 22) rfl)), (List.forall_mem_cons.mpr ⟨(ip_wsX9_closes__wsX9_closes_r2 _ (List.mem_of_getElem? (i := 23) rfl)), (List.forall_mem_cons.mpr ⟨(ip_wsX9_closes__wsX9_closes_r3 _ (List.mem_of_getElem? (i := 0) rfl)), (List.forall_mem_cons.mpr ⟨(ip_wsX9_closes__wsX9_closes_r3 _ (List.mem_of_getElem? (i := 1) rfl)), (List.forall_mem_cons.mpr ⟨(ip_wsX9_closes__wsX9_closes_r3 _ (List.mem_of_getElem? (i := 2) rfl)), (List.forall_mem_cons.mpr ⟨(ip_wsX9_closes__wsX9_closes_r3 _ (List.mem_of_getElem? (i := 3) rfl)), (fun _ h => absurd h List.not_mem_nil)⟩)⟩)⟩)⟩)⟩)⟩)⟩)⟩)⟩)⟩)⟩)⟩)⟩)⟩)⟩)⟩)⟩)⟩)⟩)⟩)⟩)⟩)⟩)⟩)) (x_ap2 (show ∀ w ∈ wsX9_isGood_r3, w ∈ wsX9_closes from (List.forall_mem_cons.mpr ⟨(ip_wsX9_closes__wsX9_closes_r3 _ (List.mem_of_getElem? (i := 4) rfl)), (List.forall_mem_cons.mpr ⟨(ip_wsX9_closes__wsX9_closes_r3 _ (List.mem_of_getElem? (i := 5) rfl)), (List.forall_mem_cons.mpr ⟨(ip_wsX9_closes__wsX9_closes_r3 _ (List.mem_of_getElem? (i := 6) rfl)), (List.forall_mem_cons.mpr ⟨(ip_wsX9_closes__wsX9_closes_r3 _ (List.mem_of_getElem? (i := 7) rfl)), (List.forall_mem_cons.mpr ⟨(ip_wsX9_closes__wsX9_closes_r3 _ (List.mem_of_getElem? (i := 8) rfl)), (List.forall_mem_cons.mpr ⟨(ip_wsX9_closes__wsX9_closes_r3 _ (List.mem_of_getElem? (i := 9) rfl)), (List.forall_mem_cons.mpr ⟨(ip_wsX9_closes__wsX9_closes_r3 _ (List.mem_of_getElem? (i := 10) rfl)), (List.forall_mem_cons.mpr ⟨(ip_wsX9_closes__wsX9_closes_r3 _ (List.mem_of_getElem? (i := 11) rfl)), (List.forall_mem_cons.mpr ⟨(ip_wsX9_closes__wsX9_closes_r3 _ (List.mem_of_getElem? (i := 12) rfl)), (List.forall_mem_cons.mpr ⟨(ip_wsX9_closes__wsX9_closes_r3 _ (List.mem_of_getElem? (i := 13) rfl)), (List.forall_mem_cons.mpr ⟨(ip_wsX9_closes__wsX9_closes_r3 _ (List.mem_of_getElem? (i := 14) rfl)), (List.forall_mem_cons.mpr ⟨(ip_wsX9_closes__wsX9_closes_r3 _ (List.mem_of_getElem? (i := 15) rfl)), (List.forall_mem_cons.mpr ⟨(ip_wsX9_closes__wsX9_closes_r3 _ (List.mem_of_getElem? (i := 16) rfl)), (List.forall_mem_cons.mpr ⟨(ip_wsX9_closes__wsX9_closes_r3 _ (List.mem_of_getElem? (i := 17) rfl)), (List.forall_mem_cons.mpr ⟨(ip_wsX9_closes__wsX9_closes_r3 _ (List.mem_of_getElem? (i := 18) rfl)), (List.forall_mem_cons.mpr ⟨(ip_wsX9_closes__wsX9_closes_r3 _ (List.mem_of_getElem? (i := 19) rfl)), (List.forall_mem_cons.mpr ⟨(ip_wsX9_closes__wsX9_closes_r3 _ (List.mem_of_getElem? (i := 20) rfl)), (List.forall_mem_cons.mpr ⟨(ip_wsX9_closes__wsX9_closes_r3 _ (List.mem_of_getElem? (i := 21) rfl)), (List.forall_mem_cons.mpr ⟨(ip_wsX9_closes__wsX9_closes_r3 _ (List.mem_of_getElem? (i := 22) rfl)), (List.forall_mem_cons.mpr ⟨(ip_wsX9_closes__wsX9_closes_r3 _ (List.mem_of_getElem? (i := 23) rfl)), (List.forall_mem_cons.mpr ⟨(ip_wsX9_closes__wsX9_closes_r4 _ (List.mem_of_getElem? (i := 0) rfl)), (List.forall_mem_cons.mpr ⟨(ip_wsX9_closes__wsX9_closes_r4 _ (List.mem_of_getElem? (i := 1) rfl)), (List.forall_mem_cons.mpr ⟨(ip_wsX9_closes__wsX9_closes_r4 _ (List.mem_of_getElem? (i := 2) rfl)), (List.forall_mem_cons.mpr ⟨(ip_wsX9_closes__wsX9_closes_r4 _ (List.mem_of_getElem? (i := 3) rfl)), (fun _ h => absurd h List.not_mem_nil)⟩)⟩)⟩)⟩)⟩)⟩)⟩)⟩)⟩)⟩)⟩)⟩)⟩)⟩)⟩)⟩)⟩)⟩)⟩)⟩)⟩)⟩)⟩)⟩)) (show ∀ w ∈ wsX9_isGood_r4, w ∈ wsX9_closes from (List.forall_mem_cons.mpr ⟨(ip_wsX9_closes__wsX9_closes_r4 _ (List.mem_of_getElem? (i := 4) rfl)), (List.forall_mem_cons.mpr ⟨(ip_wsX9_closes__wsX9_closes_r4 _ (List.mem_of_getElem? (i := 5) rfl)), (List.forall_mem_cons.mpr ⟨(ip_wsX9_closes__wsX9_closes_r4 _ (List.mem_of_getElem? (i := 6) rfl)), (List.forall_mem_cons.mpr ⟨(ip_wsX9_closes__wsX9_closes_r4 _ (List.mem_of_getElem? (i := 7) rfl)), (List.forall_mem_cons.mpr ⟨(ip_wsX9_closes__wsX9_closes_r4 _ (List.mem_of_getElem? (i := 8) rfl)), (List.forall_mem_cons.mpr ⟨(ip_wsX9_closes__wsX9_closes_r4 _ (List.mem_of_getElem? (i := 9) rfl)), (List.forall_mem_cons.mpr ⟨(ip_wsX9_closes__wsX9_closes_r4 _ (List.mem_of_getElem? (i := 10) rfl)), (List.forall_mem_cons.mpr ⟨(ip_wsX9_closes__wsX9_closes_r4 _ (List.mem_of_getElem? (i := 11) rfl)), (List.forall_mem_cons.mpr ⟨(ip_wsX9_closes__wsX9_closes_r4 _ (List.mem_of_getElem? (i := 12) rfl)), (List.forall_mem_cons.mpr ⟨(ip_wsX9_closes__wsX9_closes_r4 _ (List.mem_of_getElem? (i := 13) rfl)), (List.forall_mem_cons.mpr ⟨(ip_wsX9_closes__wsX9_closes_r4 _ (List.mem_of_getElem? (i := 14) rfl)), (List.forall_mem_cons.mpr ⟨(ip_wsX9_closes__wsX9_closes_r4 _ (List.mem_of_getElem? (i := 15) rfl)), (List.forall_mem_cons.mpr ⟨(ip_wsX9_closes__wsX9_closes_r4 _ (List.mem_of_getElem? (i := 16) rfl)), (List.forall_mem_cons.mpr ⟨(ip_wsX9_closes__wsX9_closes_r4 _ (List.mem_of_getElem? (i := 17) rfl)), (List.forall_mem_cons.mpr ⟨(ip_wsX9_closes__wsX9_closes_r4 _ (List.mem_of_getElem? (i := 18) rfl)), (List.forall_mem_cons.mpr ⟨(ip_wsX9_closes__wsX9_closes_r4 _ (List.mem_of_getElem? (i := 19) rfl)), (List.forall_mem_cons.mpr ⟨(ip_wsX9_closes__wsX9_closes_r4 _ (List.mem_of_getElem? (i := 20) rfl)), (List.forall_mem_cons.mpr ⟨(ip_wsX9_closes__wsX9_closes_r4 _ (List.mem_of_getElem? (i := 21) rfl)), (fun _ h => absurd h List.not_mem_nil)⟩)⟩)⟩)⟩)⟩)⟩)⟩)⟩)⟩)⟩)⟩)⟩)⟩)⟩)⟩)⟩)⟩)⟩))))) (fun _ h => (List.mem_cons_of_mem _ (List.mem_append_right _ h))))⟩) (by decide +kernel)
set_option maxRecDepth 20000 in
theorem gX9_closes_X9_isGood : GoodIn wsX9_closes (wsV RX9 109 RX9 yX9_isGood wsX9_isGood) := goodIn_app (goodIn_of _ (by decide +kernel)) ggX9_closes_X9_isGood
set_option maxRecDepth 20000 in
theorem ggX9_closes_X9_in : GoodIn wsX9_closes wsX9_in := goodIn_sub (List.forall_mem_cons.mpr ⟨(ip_wsX9_closes__wsX9_closes_r5 _ (List.mem_of_getElem? (i := 0) rfl)), (fun _ h => absurd h List.not_mem_nil)⟩) (by decide +kernel)
set_option maxRecDepth 20000 in
theorem gX9_closes_X9_in : GoodIn wsX9_closes (va_wsS RX9 62 yX9_in wsX9_in) := goodIn_app (goodIn_of _ (by decide +kernel)) ggX9_closes_X9_in
set_option maxRecDepth 20000 in
theorem ggX9_closes_X9_determinantOf : GoodIn wsX9_closes wsX9_determinantOf := goodIn_sub (List.forall_mem_cons.mpr ⟨(ip_wsX9_closes__wsX9_closes_r5 _ (List.mem_of_getElem? (i := 4) rfl)), (x_ap2 (List.forall_mem_cons.mpr ⟨(ip_wsX9_closes__wsX9_closes_r5 _ (List.mem_of_getElem? (i := 5) rfl)), (List.forall_mem_cons.mpr ⟨(ip_wsX9_closes__wsX9_closes_r4 _ (List.mem_of_getElem? (i := 21) rfl)), (List.forall_mem_cons.mpr ⟨(ip_wsX9_closes__wsX9_closes_r1 _ (List.mem_of_getElem? (i := 19) rfl)), (List.forall_mem_cons.mpr ⟨(ip_wsX9_closes__wsX9_closes_r2 _ (List.mem_of_getElem? (i := 1) rfl)), (List.forall_mem_cons.mpr ⟨(ip_wsX9_closes__wsX9_closes_r2 _ (List.mem_of_getElem? (i := 2) rfl)), (List.forall_mem_cons.mpr ⟨(ip_wsX9_closes__wsX9_closes_r2 _ (List.mem_of_getElem? (i := 3) rfl)), (List.forall_mem_cons.mpr ⟨(ip_wsX9_closes__wsX9_closes_r1 _ (List.mem_of_getElem? (i := 3) rfl)), (List.forall_mem_cons.mpr ⟨(ip_wsX9_closes__wsX9_closes_r2 _ (List.mem_of_getElem? (i := 4) rfl)), (List.forall_mem_cons.mpr ⟨(ip_wsX9_closes__wsX9_closes_r2 _ (List.mem_of_getElem? (i := 9) rfl)), (List.forall_mem_cons.mpr ⟨(ip_wsX9_closes__wsX9_closes_r2 _ (List.mem_of_getElem? (i := 10) rfl)), (List.forall_mem_cons.mpr ⟨(ip_wsX9_closes__wsX9_closes_r2 _ (List.mem_of_getElem? (i := 11) rfl)), (List.forall_mem_cons.mpr ⟨(ip_wsX9_closes__wsX9_closes_r2 _ (List.mem_of_getElem? (i := 12) rfl)), (List.forall_mem_cons.mpr ⟨(ip_wsX9_closes__wsX9_closes_r2 _ (List.mem_of_getElem? (i := 13) rfl)), (List.forall_mem_cons.mpr ⟨(ip_wsX9_closes__wsX9_closes_r2 _ (List.mem_of_getElem? (i := 14) rfl)), (List.forall_mem_cons.mpr ⟨(ip_wsX9_closes__wsX9_closes_r2 _ (List.mem_of_getElem? (i := 15) rfl)), (List.forall_mem_cons.mpr ⟨(ip_wsX9_closes__wsX9_closes_r2 _ (List.mem_of_getElem? (i := 16) rfl)), (fun _ h => absurd h List.not_mem_nil)⟩)⟩)⟩)⟩)⟩)⟩)⟩)⟩)⟩)⟩)⟩)⟩)⟩)⟩)⟩)⟩) (fun _ h => (List.mem_cons_of_mem _ (List.mem_append_right _ h))))⟩) (by decide +kernel)
set_option maxRecDepth 20000 in
theorem gX9_closes_X9_determinantOf : GoodIn wsX9_closes (wsV RX9 179 RX9 yX9_determinantOf wsX9_determinantOf) := goodIn_app (goodIn_of _ (by decide +kernel)) ggX9_closes_X9_determinantOf
theorem dX9_closes_0 : decode cX9_closes 0 = .ok (.aload_n 0, 1) := by decide +kernel
theorem dX9_closes_1 : decode cX9_closes 1 = .ok (.invokevirtual 109, 3) := by decide +kernel
theorem dX9_closes_4 : decode cX9_closes 4 = .ok (.ifCond .ne 6, 3) := by decide +kernel
theorem dX9_closes_7 : decode cX9_closes 7 = .ok (.bipush (-5), 2) := by decide +kernel
theorem dX9_closes_9 : decode cX9_closes 9 = .ok (.ireturn, 1) := by decide +kernel
theorem dX9_closes_10 : decode cX9_closes 10 = .ok (.iload_n 1, 1) := by decide +kernel
theorem dX9_closes_11 : decode cX9_closes 11 = .ok (.iconst 1, 1) := by decide +kernel
theorem dX9_closes_12 : decode cX9_closes 12 = .ok (.bipush 31, 2) := by decide +kernel
theorem dX9_closes_14 : decode cX9_closes 14 = .ok (.invokestatic 62, 3) := by decide +kernel
theorem dX9_closes_17 : decode cX9_closes 17 = .ok (.ifCond .ne 8, 3) := by decide +kernel
theorem dX9_closes_20 : decode cX9_closes 20 = .ok (.bipush (-2), 2) := by decide +kernel
theorem dX9_closes_22 : decode cX9_closes 22 = .ok (.goto 21, 3) := by decide +kernel
theorem dX9_closes_25 : decode cX9_closes 25 = .ok (.iload_n 1, 1) := by decide +kernel
theorem dX9_closes_26 : decode cX9_closes 26 = .ok (.iconst 2, 1) := by decide +kernel
theorem dX9_closes_27 : decode cX9_closes 27 = .ok (.if_icmp .le 15, 3) := by decide +kernel
theorem dX9_closes_30 : decode cX9_closes 30 = .ok (.aload_n 0, 1) := by decide +kernel
theorem dX9_closes_31 : decode cX9_closes 31 = .ok (.iload_n 1, 1) := by decide +kernel
theorem dX9_closes_32 : decode cX9_closes 32 = .ok (.invokevirtual 179, 3) := by decide +kernel
theorem dX9_closes_35 : decode cX9_closes 35 = .ok (.ifCond .ne 7, 3) := by decide +kernel
theorem dX9_closes_38 : decode cX9_closes 38 = .ok (.iconst 1, 1) := by decide +kernel
theorem dX9_closes_39 : decode cX9_closes 39 = .ok (.goto 4, 3) := by decide +kernel
theorem dX9_closes_42 : decode cX9_closes 42 = .ok (.iconst 0, 1) := by decide +kernel
theorem dX9_closes_43 : decode cX9_closes 43 = .ok (.ireturn, 1) := by decide +kernel
theorem ip_wsX9_least__wsX9_least_r1 : ∀ w ∈ wsX9_least_r1, w ∈ wsX9_least := fun _ h => (List.mem_cons_of_mem _ (List.mem_append_left _ (List.mem_append_left _ h)))
theorem ip_wsX9_least__wsX9_least_r2 : ∀ w ∈ wsX9_least_r2, w ∈ wsX9_least := fun _ h => (List.mem_cons_of_mem _ (List.mem_append_left _ (List.mem_append_right _ (List.mem_append_left _ h))))
theorem ip_wsX9_least__wsX9_least_r3 : ∀ w ∈ wsX9_least_r3, w ∈ wsX9_least := fun _ h => (List.mem_cons_of_mem _ (List.mem_append_left _ (List.mem_append_right _ (List.mem_append_right _ (List.mem_append_left _ h)))))
theorem ip_wsX9_least__wsX9_least_r4 : ∀ w ∈ wsX9_least_r4, w ∈ wsX9_least := fun _ h => (List.mem_cons_of_mem _ (List.mem_append_left _ (List.mem_append_right _ (List.mem_append_right _ (List.mem_append_right _ (List.mem_append_left _ h))))))
theorem ip_wsX9_least__wsX9_least_r5 : ∀ w ∈ wsX9_least_r5, w ∈ wsX9_least := fun _ h => (List.mem_cons_of_mem _ (List.mem_append_left _ (List.mem_append_right _ (List.mem_append_right _ (List.mem_append_right _ (List.mem_append_right _ h))))))
set_option maxRecDepth 20000 in
theorem ggX9_least_X9_isGood : GoodIn wsX9_least wsX9_isGood := goodIn_sub (List.forall_mem_cons.mpr ⟨(ip_wsX9_least__wsX9_least_r1 _ (List.mem_of_getElem? (i := 4) rfl)), (x_ap2 (x_ap2 (show ∀ w ∈ wsX9_isGood_r1, w ∈ wsX9_least from (List.forall_mem_cons.mpr ⟨(ip_wsX9_least__wsX9_least_r1 _ (List.mem_of_getElem? (i := 5) rfl)), (List.forall_mem_cons.mpr ⟨(ip_wsX9_least__wsX9_least_r1 _ (List.mem_of_getElem? (i := 6) rfl)), (List.forall_mem_cons.mpr ⟨(ip_wsX9_least__wsX9_least_r1 _ (List.mem_of_getElem? (i := 7) rfl)), (List.forall_mem_cons.mpr ⟨(ip_wsX9_least__wsX9_least_r1 _ (List.mem_of_getElem? (i := 8) rfl)), (List.forall_mem_cons.mpr ⟨(ip_wsX9_least__wsX9_least_r1 _ (List.mem_of_getElem? (i := 3) rfl)), (List.forall_mem_cons.mpr ⟨(ip_wsX9_least__wsX9_least_r1 _ (List.mem_of_getElem? (i := 9) rfl)), (List.forall_mem_cons.mpr ⟨(ip_wsX9_least__wsX9_least_r1 _ (List.mem_of_getElem? (i := 10) rfl)), (List.forall_mem_cons.mpr ⟨(ip_wsX9_least__wsX9_least_r1 _ (List.mem_of_getElem? (i := 11) rfl)), (List.forall_mem_cons.mpr ⟨(ip_wsX9_least__wsX9_least_r1 _ (List.mem_of_getElem? (i := 12) rfl)), (List.forall_mem_cons.mpr ⟨(ip_wsX9_least__wsX9_least_r1 _ (List.mem_of_getElem? (i := 13) rfl)), (List.forall_mem_cons.mpr ⟨(ip_wsX9_least__wsX9_least_r1 _ (List.mem_of_getElem? (i := 14) rfl)), (List.forall_mem_cons.mpr ⟨(ip_wsX9_least__wsX9_least_r1 _ (List.mem_of_getElem? (i := 15) rfl)), (List.forall_mem_cons.mpr ⟨(ip_wsX9_least__wsX9_least_r1 _ (List.mem_of_getElem? (i := 16) rfl)), (List.forall_mem_cons.mpr ⟨(ip_wsX9_least__wsX9_least_r1 _ (List.mem_of_getElem? (i := 17) rfl)), (List.forall_mem_cons.mpr ⟨(ip_wsX9_least__wsX9_least_r1 _ (List.mem_of_getElem? (i := 18) rfl)), (List.forall_mem_cons.mpr ⟨(ip_wsX9_least__wsX9_least_r1 _ (List.mem_of_getElem? (i := 19) rfl)), (List.forall_mem_cons.mpr ⟨(ip_wsX9_least__wsX9_least_r1 _ (List.mem_of_getElem? (i := 20) rfl)), (List.forall_mem_cons.mpr ⟨(ip_wsX9_least__wsX9_least_r1 _ (List.mem_of_getElem? (i := 21) rfl)), (List.forall_mem_cons.mpr ⟨(ip_wsX9_least__wsX9_least_r1 _ (List.mem_of_getElem? (i := 22) rfl)), (List.forall_mem_cons.mpr ⟨(ip_wsX9_least__wsX9_least_r1 _ (List.mem_of_getElem? (i := 23) rfl)), (List.forall_mem_cons.mpr ⟨(ip_wsX9_least__wsX9_least_r2 _ (List.mem_of_getElem? (i := 0) rfl)), (List.forall_mem_cons.mpr ⟨(ip_wsX9_least__wsX9_least_r2 _ (List.mem_of_getElem? (i := 1) rfl)), (List.forall_mem_cons.mpr ⟨(ip_wsX9_least__wsX9_least_r2 _ (List.mem_of_getElem? (i := 2) rfl)), (List.forall_mem_cons.mpr ⟨(ip_wsX9_least__wsX9_least_r2 _ (List.mem_of_getElem? (i := 3) rfl)), (fun _ h => absurd h List.not_mem_nil)⟩)⟩)⟩)⟩)⟩)⟩)⟩)⟩)⟩)⟩)⟩)⟩)⟩)⟩)⟩)⟩)⟩)⟩)⟩)⟩)⟩)⟩)⟩)⟩)) (x_ap2 (show ∀ w ∈ wsX9_isGood_r2, w ∈ wsX9_least from (List.forall_mem_cons.mpr ⟨(ip_wsX9_least__wsX9_least_r2 _ (List.mem_of_getElem? (i := 4) rfl)), (List.forall_mem_cons.mpr ⟨(ip_wsX9_least__wsX9_least_r2 _ (List.mem_of_getElem? (i := 5) rfl)), (List.forall_mem_cons.mpr ⟨(ip_wsX9_least__wsX9_least_r2 _ (List.mem_of_getElem? (i := 6) rfl)), (List.forall_mem_cons.mpr ⟨(ip_wsX9_least__wsX9_least_r2 _ (List.mem_of_getElem? (i := 7) rfl)), (List.forall_mem_cons.mpr ⟨(ip_wsX9_least__wsX9_least_r2 _ (List.mem_of_getElem? (i := 8) rfl)), (List.forall_mem_cons.mpr ⟨(ip_wsX9_least__wsX9_least_r2 _ (List.mem_of_getElem? (i := 9) rfl)), (List.forall_mem_cons.mpr ⟨(ip_wsX9_least__wsX9_least_r2 _ (List.mem_of_getElem? (i := 10) rfl)), (List.forall_mem_cons.mpr ⟨(ip_wsX9_least__wsX9_least_r2 _ (List.mem_of_getElem? (i := 11) rfl)), (List.forall_mem_cons.mpr ⟨(ip_wsX9_least__wsX9_least_r2 _ (List.mem_of_getElem? (i := 12) rfl)), (List.forall_mem_cons.mpr ⟨(ip_wsX9_least__wsX9_least_r2 _ (List.mem_of_getElem? (i := 13) rfl)), (List.forall_mem_cons.mpr ⟨(ip_wsX9_least__wsX9_least_r2 _ (List.mem_of_getElem? (i := 14) rfl)), (List.forall_mem_cons.mpr ⟨(ip_wsX9_least__wsX9_least_r2 _ (List.mem_of_getElem? (i := 15) rfl)), (List.forall_mem_cons.mpr ⟨(ip_wsX9_least__wsX9_least_r2 _ (List.mem_of_getElem? (i := 16) rfl)), (List.forall_mem_cons.mpr ⟨(ip_wsX9_least__wsX9_least_r2 _ (List.mem_of_getElem? (i := 17) rfl)), (List.forall_mem_cons.mpr ⟨(ip_wsX9_least__wsX9_least_r2 _ (List.mem_of_getElem? (i := 18) rfl)), (List.forall_mem_cons.mpr ⟨(ip_wsX9_least__wsX9_least_r2 _ (List.mem_of_getElem? (i := 19) rfl)), (List.forall_mem_cons.mpr ⟨(ip_wsX9_least__wsX9_least_r2 _ (List.mem_of_getElem? (i := 20) rfl)), (List.forall_mem_cons.mpr ⟨(ip_wsX9_least__wsX9_least_r2 _ (List.mem_of_getElem? (i := 21) rfl)), (List.forall_mem_cons.mpr ⟨(ip_wsX9_least__wsX9_least_r2 _ (List.mem_of_getElem? (i := 22) rfl)), (List.forall_mem_cons.mpr ⟨(ip_wsX9_least__wsX9_least_r2 _ (List.mem_of_getElem? (i := 23) rfl)), (List.forall_mem_cons.mpr ⟨(ip_wsX9_least__wsX9_least_r3 _ (List.mem_of_getElem? (i := 0) rfl)), (List.forall_mem_cons.mpr ⟨(ip_wsX9_least__wsX9_least_r3 _ (List.mem_of_getElem? (i := 1) rfl)), (List.forall_mem_cons.mpr ⟨(ip_wsX9_least__wsX9_least_r3 _ (List.mem_of_getElem? (i := 2) rfl)), (List.forall_mem_cons.mpr ⟨(ip_wsX9_least__wsX9_least_r3 _ (List.mem_of_getElem? (i := 3) rfl)), (fun _ h => absurd h List.not_mem_nil)⟩)⟩)⟩)⟩)⟩)⟩)⟩)⟩)⟩)⟩)⟩)⟩)⟩)⟩)⟩)⟩)⟩)⟩)⟩)⟩)⟩)⟩)⟩)⟩)) (x_ap2 (show ∀ w ∈ wsX9_isGood_r3, w ∈ wsX9_least from (List.forall_mem_cons.mpr ⟨(ip_wsX9_least__wsX9_least_r3 _ (List.mem_of_getElem? (i := 4) rfl)), (List.forall_mem_cons.mpr ⟨(ip_wsX9_least__wsX9_least_r3 _ (List.mem_of_getElem? (i := 5) rfl)), (List.forall_mem_cons.mpr ⟨(ip_wsX9_least__wsX9_least_r3 _ (List.mem_of_getElem? (i := 6) rfl)), (List.forall_mem_cons.mpr ⟨(ip_wsX9_least__wsX9_least_r3 _ (List.mem_of_getElem? (i := 7) rfl)), (List.forall_mem_cons.mpr ⟨(ip_wsX9_least__wsX9_least_r3 _ (List.mem_of_getElem? (i := 8) rfl)), (List.forall_mem_cons.mpr ⟨(ip_wsX9_least__wsX9_least_r3 _ (List.mem_of_getElem? (i := 9) rfl)), (List.forall_mem_cons.mpr ⟨(ip_wsX9_least__wsX9_least_r3 _ (List.mem_of_getElem? (i := 10) rfl)), (List.forall_mem_cons.mpr ⟨(ip_wsX9_least__wsX9_least_r3 _ (List.mem_of_getElem? (i := 11) rfl)), (List.forall_mem_cons.mpr ⟨(ip_wsX9_least__wsX9_least_r3 _ (List.mem_of_getElem? (i := 12) rfl)), (List.forall_mem_cons.mpr ⟨(ip_wsX9_least__wsX9_least_r3 _ (List.mem_of_getElem? (i := 13) rfl)), (List.forall_mem_cons.mpr ⟨(ip_wsX9_least__wsX9_least_r3 _ (List.mem_of_getElem? (i := 14) rfl)), (List.forall_mem_cons.mpr ⟨(ip_wsX9_least__wsX9_least_r3 _ (List.mem_of_getElem? (i := 15) rfl)), (List.forall_mem_cons.mpr ⟨(ip_wsX9_least__wsX9_least_r3 _ (List.mem_of_getElem? (i := 16) rfl)), (List.forall_mem_cons.mpr ⟨(ip_wsX9_least__wsX9_least_r3 _ (List.mem_of_getElem? (i := 17) rfl)), (List.forall_mem_cons.mpr ⟨(ip_wsX9_least__wsX9_least_r3 _ (List.mem_of_getElem? (i := 18) rfl)), (List.forall_mem_cons.mpr ⟨(ip_wsX9_least__wsX9_least_r3 _ (List.mem_of_getElem? (i := 19) rfl)), (List.forall_mem_cons.mpr ⟨(ip_wsX9_least__wsX9_least_r3 _ (List.mem_of_getElem? (i := 20) rfl)), (List.forall_mem_cons.mpr ⟨(ip_wsX9_least__wsX9_least_r3 _ (List.mem_of_getElem? (i := 21) rfl)), (List.forall_mem_cons.mpr ⟨(ip_wsX9_least__wsX9_least_r3 _ (List.mem_of_getElem? (i := 22) rfl)), (List.forall_mem_cons.mpr ⟨(ip_wsX9_least__wsX9_least_r3 _ (List.mem_of_getElem? (i := 23) rfl)), (List.forall_mem_cons.mpr ⟨(ip_wsX9_least__wsX9_least_r4 _ (List.mem_of_getElem? (i := 0) rfl)), (List.forall_mem_cons.mpr ⟨(ip_wsX9_least__wsX9_least_r4 _ (List.mem_of_getElem? (i := 1) rfl)), (List.forall_mem_cons.mpr ⟨(ip_wsX9_least__wsX9_least_r4 _ (List.mem_of_getElem? (i := 2) rfl)), (List.forall_mem_cons.mpr ⟨(ip_wsX9_least__wsX9_least_r4 _ (List.mem_of_getElem? (i := 3) rfl)), (fun _ h => absurd h List.not_mem_nil)⟩)⟩)⟩)⟩)⟩)⟩)⟩)⟩)⟩)⟩)⟩)⟩)⟩)⟩)⟩)⟩)⟩)⟩)⟩)⟩)⟩)⟩)⟩)⟩)) (show ∀ w ∈ wsX9_isGood_r4, w ∈ wsX9_least from (List.forall_mem_cons.mpr ⟨(ip_wsX9_least__wsX9_least_r4 _ (List.mem_of_getElem? (i := 4) rfl)), (List.forall_mem_cons.mpr ⟨(ip_wsX9_least__wsX9_least_r4 _ (List.mem_of_getElem? (i := 5) rfl)), (List.forall_mem_cons.mpr ⟨(ip_wsX9_least__wsX9_least_r4 _ (List.mem_of_getElem? (i := 6) rfl)), (List.forall_mem_cons.mpr ⟨(ip_wsX9_least__wsX9_least_r4 _ (List.mem_of_getElem? (i := 7) rfl)), (List.forall_mem_cons.mpr ⟨(ip_wsX9_least__wsX9_least_r4 _ (List.mem_of_getElem? (i := 8) rfl)), (List.forall_mem_cons.mpr ⟨(ip_wsX9_least__wsX9_least_r4 _ (List.mem_of_getElem? (i := 9) rfl)), (List.forall_mem_cons.mpr ⟨(ip_wsX9_least__wsX9_least_r4 _ (List.mem_of_getElem? (i := 10) rfl)), (List.forall_mem_cons.mpr ⟨(ip_wsX9_least__wsX9_least_r4 _ (List.mem_of_getElem? (i := 11) rfl)), (List.forall_mem_cons.mpr ⟨(ip_wsX9_least__wsX9_least_r4 _ (List.mem_of_getElem? (i := 12) rfl)), (List.forall_mem_cons.mpr ⟨(ip_wsX9_least__wsX9_least_r4 _ (List.mem_of_getElem? (i := 13) rfl)), (List.forall_mem_cons.mpr ⟨(ip_wsX9_least__wsX9_least_r4 _ (List.mem_of_getElem? (i := 14) rfl)), (List.forall_mem_cons.mpr ⟨(ip_wsX9_least__wsX9_least_r4 _ (List.mem_of_getElem? (i := 15) rfl)), (List.forall_mem_cons.mpr ⟨(ip_wsX9_least__wsX9_least_r4 _ (List.mem_of_getElem? (i := 16) rfl)), (List.forall_mem_cons.mpr ⟨(ip_wsX9_least__wsX9_least_r4 _ (List.mem_of_getElem? (i := 17) rfl)), (List.forall_mem_cons.mpr ⟨(ip_wsX9_least__wsX9_least_r4 _ (List.mem_of_getElem? (i := 18) rfl)), (List.forall_mem_cons.mpr ⟨(ip_wsX9_least__wsX9_least_r4 _ (List.mem_of_getElem? (i := 19) rfl)), (List.forall_mem_cons.mpr ⟨(ip_wsX9_least__wsX9_least_r4 _ (List.mem_of_getElem? (i := 20) rfl)), (List.forall_mem_cons.mpr ⟨(ip_wsX9_least__wsX9_least_r4 _ (List.mem_of_getElem? (i := 21) rfl)), (fun _ h => absurd h List.not_mem_nil)⟩)⟩)⟩)⟩)⟩)⟩)⟩)⟩)⟩)⟩)⟩)⟩)⟩)⟩)⟩)⟩)⟩)⟩))))) (fun _ h => (List.mem_cons_of_mem _ (List.mem_append_right _ h))))⟩) (by decide +kernel)
set_option maxRecDepth 20000 in
theorem gX9_least_X9_isGood : GoodIn wsX9_least (wsV RX9 109 RX9 yX9_isGood wsX9_isGood) := goodIn_app (goodIn_of _ (by decide +kernel)) ggX9_least_X9_isGood
set_option maxRecDepth 20000 in
theorem ggX9_least_X9_determinantOf : GoodIn wsX9_least wsX9_determinantOf := goodIn_sub (List.forall_mem_cons.mpr ⟨(ip_wsX9_least__wsX9_least_r5 _ (List.mem_of_getElem? (i := 1) rfl)), (x_ap2 (List.forall_mem_cons.mpr ⟨(ip_wsX9_least__wsX9_least_r5 _ (List.mem_of_getElem? (i := 2) rfl)), (List.forall_mem_cons.mpr ⟨(ip_wsX9_least__wsX9_least_r4 _ (List.mem_of_getElem? (i := 21) rfl)), (List.forall_mem_cons.mpr ⟨(ip_wsX9_least__wsX9_least_r1 _ (List.mem_of_getElem? (i := 19) rfl)), (List.forall_mem_cons.mpr ⟨(ip_wsX9_least__wsX9_least_r2 _ (List.mem_of_getElem? (i := 1) rfl)), (List.forall_mem_cons.mpr ⟨(ip_wsX9_least__wsX9_least_r2 _ (List.mem_of_getElem? (i := 2) rfl)), (List.forall_mem_cons.mpr ⟨(ip_wsX9_least__wsX9_least_r2 _ (List.mem_of_getElem? (i := 3) rfl)), (List.forall_mem_cons.mpr ⟨(ip_wsX9_least__wsX9_least_r1 _ (List.mem_of_getElem? (i := 3) rfl)), (List.forall_mem_cons.mpr ⟨(ip_wsX9_least__wsX9_least_r2 _ (List.mem_of_getElem? (i := 4) rfl)), (List.forall_mem_cons.mpr ⟨(ip_wsX9_least__wsX9_least_r2 _ (List.mem_of_getElem? (i := 9) rfl)), (List.forall_mem_cons.mpr ⟨(ip_wsX9_least__wsX9_least_r2 _ (List.mem_of_getElem? (i := 10) rfl)), (List.forall_mem_cons.mpr ⟨(ip_wsX9_least__wsX9_least_r2 _ (List.mem_of_getElem? (i := 11) rfl)), (List.forall_mem_cons.mpr ⟨(ip_wsX9_least__wsX9_least_r2 _ (List.mem_of_getElem? (i := 12) rfl)), (List.forall_mem_cons.mpr ⟨(ip_wsX9_least__wsX9_least_r2 _ (List.mem_of_getElem? (i := 13) rfl)), (List.forall_mem_cons.mpr ⟨(ip_wsX9_least__wsX9_least_r2 _ (List.mem_of_getElem? (i := 14) rfl)), (List.forall_mem_cons.mpr ⟨(ip_wsX9_least__wsX9_least_r2 _ (List.mem_of_getElem? (i := 15) rfl)), (List.forall_mem_cons.mpr ⟨(ip_wsX9_least__wsX9_least_r2 _ (List.mem_of_getElem? (i := 16) rfl)), (fun _ h => absurd h List.not_mem_nil)⟩)⟩)⟩)⟩)⟩)⟩)⟩)⟩)⟩)⟩)⟩)⟩)⟩)⟩)⟩)⟩) (fun _ h => (List.mem_cons_of_mem _ (List.mem_append_right _ h))))⟩) (by decide +kernel)
set_option maxRecDepth 20000 in
theorem gX9_least_X9_determinantOf : GoodIn wsX9_least (wsV RX9 179 RX9 yX9_determinantOf wsX9_determinantOf) := goodIn_app (goodIn_of _ (by decide +kernel)) ggX9_least_X9_determinantOf
theorem dX9_least_0 : decode cX9_least 0 = .ok (.aload_n 0, 1) := by decide +kernel
theorem dX9_least_1 : decode cX9_least 1 = .ok (.invokevirtual 109, 3) := by decide +kernel
theorem dX9_least_4 : decode cX9_least 4 = .ok (.ifCond .ne 6, 3) := by decide +kernel
theorem dX9_least_7 : decode cX9_least 7 = .ok (.bipush (-5), 2) := by decide +kernel
theorem dX9_least_9 : decode cX9_least 9 = .ok (.ireturn, 1) := by decide +kernel
theorem dX9_least_10 : decode cX9_least 10 = .ok (.iconst 3, 1) := by decide +kernel
theorem dX9_least_11 : decode cX9_least 11 = .ok (.istore_n 1, 1) := by decide +kernel
theorem dX9_least_12 : decode cX9_least 12 = .ok (.iload_n 1, 1) := by decide +kernel
theorem dX9_least_13 : decode cX9_least 13 = .ok (.bipush 31, 2) := by decide +kernel
theorem dX9_least_15 : decode cX9_least 15 = .ok (.if_icmp .gt 19, 3) := by decide +kernel
theorem dX9_least_18 : decode cX9_least 18 = .ok (.aload_n 0, 1) := by decide +kernel
theorem dX9_least_19 : decode cX9_least 19 = .ok (.iload_n 1, 1) := by decide +kernel
theorem dX9_least_20 : decode cX9_least 20 = .ok (.invokevirtual 179, 3) := by decide +kernel
theorem dX9_least_23 : decode cX9_least 23 = .ok (.ifCond .ne 5, 3) := by decide +kernel
theorem dX9_least_26 : decode cX9_least 26 = .ok (.iload_n 1, 1) := by decide +kernel
theorem dX9_least_27 : decode cX9_least 27 = .ok (.ireturn, 1) := by decide +kernel
theorem dX9_least_28 : decode cX9_least 28 = .ok (.iinc 1 1, 3) := by decide +kernel
theorem dX9_least_31 : decode cX9_least 31 = .ok (.goto (-19), 3) := by decide +kernel
theorem dX9_least_34 : decode cX9_least 34 = .ok (.bipush (-6), 2) := by decide +kernel
theorem dX9_least_36 : decode cX9_least 36 = .ok (.ireturn, 1) := by decide +kernel
set_option maxRecDepth 20000 in
theorem ggX9_cubeAt_X9_of : GoodIn wsX9_cubeAt wsX9_of := goodIn_sub (List.forall_mem_cons.mpr ⟨(List.mem_cons_of_mem _ (List.mem_append_left _ (List.mem_of_getElem? (i := 5) rfl))), (x_ap2 (List.forall_mem_cons.mpr ⟨(List.mem_cons_of_mem _ (List.mem_append_left _ (List.mem_of_getElem? (i := 6) rfl))), (fun _ h => absurd h List.not_mem_nil)⟩) (fun _ h => (List.mem_cons_of_mem _ (List.mem_append_right _ h))))⟩) (by decide +kernel)
set_option maxRecDepth 20000 in
theorem gX9_cubeAt_X9_of : GoodIn wsX9_cubeAt (wsV RX9 85 RX9 yX9_of wsX9_of) := goodIn_app (goodIn_of _ (by decide +kernel)) ggX9_cubeAt_X9_of
set_option maxRecDepth 20000 in
theorem ggX9_cubeAt_X9_by : GoodIn wsX9_cubeAt wsX9_by := goodIn_sub (List.forall_mem_cons.mpr ⟨(List.mem_cons_of_mem _ (List.mem_append_left _ (List.mem_of_getElem? (i := 10) rfl))), (x_ap2 (List.forall_mem_cons.mpr ⟨(List.mem_cons_of_mem _ (List.mem_append_left _ (List.mem_of_getElem? (i := 6) rfl))), (List.forall_mem_cons.mpr ⟨(List.mem_cons_of_mem _ (List.mem_append_left _ (List.mem_of_getElem? (i := 11) rfl))), (List.forall_mem_cons.mpr ⟨(List.mem_cons_of_mem _ (List.mem_append_left _ (List.mem_of_getElem? (i := 12) rfl))), (List.forall_mem_cons.mpr ⟨(List.mem_cons_of_mem _ (List.mem_append_left _ (List.mem_of_getElem? (i := 13) rfl))), (List.forall_mem_cons.mpr ⟨(List.mem_cons_of_mem _ (List.mem_append_left _ (List.mem_of_getElem? (i := 4) rfl))), (List.forall_mem_cons.mpr ⟨(List.mem_cons_of_mem _ (List.mem_append_left _ (List.mem_of_getElem? (i := 14) rfl))), (fun _ h => absurd h List.not_mem_nil)⟩)⟩)⟩)⟩)⟩)⟩) (fun _ h => (List.mem_cons_of_mem _ (List.mem_append_right _ h))))⟩) (by decide +kernel)
set_option maxRecDepth 20000 in
theorem gX9_cubeAt_X9_by : GoodIn wsX9_cubeAt (wsV RX9 78 RX9 yX9_by wsX9_by) := goodIn_app (goodIn_of _ (by decide +kernel)) ggX9_cubeAt_X9_by
theorem dX9_cubeAt_0 : decode cX9_cubeAt 0 = .ok (.aload_n 0, 1) := by decide +kernel
theorem dX9_cubeAt_1 : decode cX9_cubeAt 1 = .ok (.getfield 17, 3) := by decide +kernel
theorem dX9_cubeAt_4 : decode cX9_cubeAt 4 = .ok (.iconst 3, 1) := by decide +kernel
theorem dX9_cubeAt_5 : decode cX9_cubeAt 5 = .ok (.iaload, 1) := by decide +kernel
theorem dX9_cubeAt_6 : decode cX9_cubeAt 6 = .ok (.istore_n 2, 1) := by decide +kernel
theorem dX9_cubeAt_7 : decode cX9_cubeAt 7 = .ok (.aload_n 0, 1) := by decide +kernel
theorem dX9_cubeAt_8 : decode cX9_cubeAt 8 = .ok (.iload_n 2, 1) := by decide +kernel
theorem dX9_cubeAt_9 : decode cX9_cubeAt 9 = .ok (.iload_n 1, 1) := by decide +kernel
theorem dX9_cubeAt_10 : decode cX9_cubeAt 10 = .ok (.imul, 1) := by decide +kernel
theorem dX9_cubeAt_11 : decode cX9_cubeAt 11 = .ok (.aload_n 0, 1) := by decide +kernel
theorem dX9_cubeAt_12 : decode cX9_cubeAt 12 = .ok (.getfield 17, 3) := by decide +kernel
theorem dX9_cubeAt_15 : decode cX9_cubeAt 15 = .ok (.iconst 2, 1) := by decide +kernel
theorem dX9_cubeAt_16 : decode cX9_cubeAt 16 = .ok (.iaload, 1) := by decide +kernel
theorem dX9_cubeAt_17 : decode cX9_cubeAt 17 = .ok (.iadd, 1) := by decide +kernel
theorem dX9_cubeAt_18 : decode cX9_cubeAt 18 = .ok (.invokevirtual 85, 3) := by decide +kernel
theorem dX9_cubeAt_21 : decode cX9_cubeAt 21 = .ok (.istore_n 2, 1) := by decide +kernel
theorem dX9_cubeAt_22 : decode cX9_cubeAt 22 = .ok (.aload_n 0, 1) := by decide +kernel
theorem dX9_cubeAt_23 : decode cX9_cubeAt 23 = .ok (.iload_n 2, 1) := by decide +kernel
theorem dX9_cubeAt_24 : decode cX9_cubeAt 24 = .ok (.iload_n 1, 1) := by decide +kernel
theorem dX9_cubeAt_25 : decode cX9_cubeAt 25 = .ok (.imul, 1) := by decide +kernel
theorem dX9_cubeAt_26 : decode cX9_cubeAt 26 = .ok (.aload_n 0, 1) := by decide +kernel
theorem dX9_cubeAt_27 : decode cX9_cubeAt 27 = .ok (.getfield 17, 3) := by decide +kernel
theorem dX9_cubeAt_30 : decode cX9_cubeAt 30 = .ok (.iconst 1, 1) := by decide +kernel
theorem dX9_cubeAt_31 : decode cX9_cubeAt 31 = .ok (.iaload, 1) := by decide +kernel
theorem dX9_cubeAt_32 : decode cX9_cubeAt 32 = .ok (.iadd, 1) := by decide +kernel
theorem dX9_cubeAt_33 : decode cX9_cubeAt 33 = .ok (.invokevirtual 85, 3) := by decide +kernel
theorem dX9_cubeAt_36 : decode cX9_cubeAt 36 = .ok (.istore_n 2, 1) := by decide +kernel
theorem dX9_cubeAt_37 : decode cX9_cubeAt 37 = .ok (.aload_n 0, 1) := by decide +kernel
theorem dX9_cubeAt_38 : decode cX9_cubeAt 38 = .ok (.iload_n 2, 1) := by decide +kernel
theorem dX9_cubeAt_39 : decode cX9_cubeAt 39 = .ok (.iload_n 1, 1) := by decide +kernel
theorem dX9_cubeAt_40 : decode cX9_cubeAt 40 = .ok (.imul, 1) := by decide +kernel
theorem dX9_cubeAt_41 : decode cX9_cubeAt 41 = .ok (.aload_n 0, 1) := by decide +kernel
theorem dX9_cubeAt_42 : decode cX9_cubeAt 42 = .ok (.getfield 17, 3) := by decide +kernel
theorem dX9_cubeAt_45 : decode cX9_cubeAt 45 = .ok (.iconst 0, 1) := by decide +kernel
theorem dX9_cubeAt_46 : decode cX9_cubeAt 46 = .ok (.iaload, 1) := by decide +kernel
theorem dX9_cubeAt_47 : decode cX9_cubeAt 47 = .ok (.iadd, 1) := by decide +kernel
theorem dX9_cubeAt_48 : decode cX9_cubeAt 48 = .ok (.invokevirtual 85, 3) := by decide +kernel
theorem dX9_cubeAt_51 : decode cX9_cubeAt 51 = .ok (.istore_n 2, 1) := by decide +kernel
theorem dX9_cubeAt_52 : decode cX9_cubeAt 52 = .ok (.aload_n 0, 1) := by decide +kernel
theorem dX9_cubeAt_53 : decode cX9_cubeAt 53 = .ok (.iload_n 2, 1) := by decide +kernel
theorem dX9_cubeAt_54 : decode cX9_cubeAt 54 = .ok (.aload_n 0, 1) := by decide +kernel
theorem dX9_cubeAt_55 : decode cX9_cubeAt 55 = .ok (.getfield 17, 3) := by decide +kernel
theorem dX9_cubeAt_58 : decode cX9_cubeAt 58 = .ok (.iconst 0, 1) := by decide +kernel
theorem dX9_cubeAt_59 : decode cX9_cubeAt 59 = .ok (.iaload, 1) := by decide +kernel
theorem dX9_cubeAt_60 : decode cX9_cubeAt 60 = .ok (.invokevirtual 78, 3) := by decide +kernel
theorem dX9_cubeAt_63 : decode cX9_cubeAt 63 = .ok (.ireturn, 1) := by decide +kernel
set_option maxRecDepth 20000 in
theorem ggX9_addOne_X9_by : GoodIn wsX9_addOne wsX9_by := goodIn_sub (List.forall_mem_cons.mpr ⟨(List.mem_cons_of_mem _ (List.mem_append_left _ (List.mem_of_getElem? (i := 8) rfl))), (x_ap2 (List.forall_mem_cons.mpr ⟨(List.mem_cons_of_mem _ (List.mem_append_left _ (List.mem_of_getElem? (i := 9) rfl))), (List.forall_mem_cons.mpr ⟨(List.mem_cons_of_mem _ (List.mem_append_left _ (List.mem_of_getElem? (i := 10) rfl))), (List.forall_mem_cons.mpr ⟨(List.mem_cons_of_mem _ (List.mem_append_left _ (List.mem_of_getElem? (i := 11) rfl))), (List.forall_mem_cons.mpr ⟨(List.mem_cons_of_mem _ (List.mem_append_left _ (List.mem_of_getElem? (i := 12) rfl))), (List.forall_mem_cons.mpr ⟨(List.mem_cons_of_mem _ (List.mem_append_left _ (List.mem_of_getElem? (i := 7) rfl))), (List.forall_mem_cons.mpr ⟨(List.mem_cons_of_mem _ (List.mem_append_left _ (List.mem_of_getElem? (i := 13) rfl))), (fun _ h => absurd h List.not_mem_nil)⟩)⟩)⟩)⟩)⟩)⟩) (fun _ h => (List.mem_cons_of_mem _ (List.mem_append_right _ h))))⟩) (by decide +kernel)
set_option maxRecDepth 20000 in
theorem gX9_addOne_X9_by : GoodIn wsX9_addOne (wsV RX9 78 RX9 yX9_by wsX9_by) := goodIn_app (goodIn_of _ (by decide +kernel)) ggX9_addOne_X9_by
set_option maxRecDepth 20000 in
theorem ggX9_addOne_X9_of : GoodIn wsX9_addOne wsX9_of := goodIn_sub (List.forall_mem_cons.mpr ⟨(List.mem_cons_of_mem _ (List.mem_append_left _ (List.mem_of_getElem? (i := 17) rfl))), (x_ap2 (List.forall_mem_cons.mpr ⟨(List.mem_cons_of_mem _ (List.mem_append_left _ (List.mem_of_getElem? (i := 9) rfl))), (fun _ h => absurd h List.not_mem_nil)⟩) (fun _ h => (List.mem_cons_of_mem _ (List.mem_append_right _ h))))⟩) (by decide +kernel)
set_option maxRecDepth 20000 in
theorem gX9_addOne_X9_of : GoodIn wsX9_addOne (wsV RX9 85 RX9 yX9_of wsX9_of) := goodIn_app (goodIn_of _ (by decide +kernel)) ggX9_addOne_X9_of
theorem dX9_addOne_0 : decode cX9_addOne 0 = .ok (.aload_n 0, 1) := by decide +kernel
theorem dX9_addOne_1 : decode cX9_addOne 1 = .ok (.getfield 182, 3) := by decide +kernel
theorem dX9_addOne_4 : decode cX9_addOne 4 = .ok (.ifCond .eq 19, 3) := by decide +kernel
theorem dX9_addOne_7 : decode cX9_addOne 7 = .ok (.aload_n 0, 1) := by decide +kernel
theorem dX9_addOne_8 : decode cX9_addOne 8 = .ok (.iconst 0, 1) := by decide +kernel
theorem dX9_addOne_9 : decode cX9_addOne 9 = .ok (.putfield 182, 3) := by decide +kernel
theorem dX9_addOne_12 : decode cX9_addOne 12 = .ok (.aload_n 0, 1) := by decide +kernel
theorem dX9_addOne_13 : decode cX9_addOne 13 = .ok (.iconst 0, 1) := by decide +kernel
theorem dX9_addOne_14 : decode cX9_addOne 14 = .ok (.putfield 185, 3) := by decide +kernel
theorem dX9_addOne_17 : decode cX9_addOne 17 = .ok (.aload_n 0, 1) := by decide +kernel
theorem dX9_addOne_18 : decode cX9_addOne 18 = .ok (.iconst 1, 1) := by decide +kernel
theorem dX9_addOne_19 : decode cX9_addOne 19 = .ok (.putfield 188, 3) := by decide +kernel
theorem dX9_addOne_22 : decode cX9_addOne 22 = .ok (.return_, 1) := by decide +kernel
theorem dX9_addOne_23 : decode cX9_addOne 23 = .ok (.aload_n 0, 1) := by decide +kernel
theorem dX9_addOne_24 : decode cX9_addOne 24 = .ok (.aload_n 0, 1) := by decide +kernel
theorem dX9_addOne_25 : decode cX9_addOne 25 = .ok (.getfield 17, 3) := by decide +kernel
theorem dX9_addOne_28 : decode cX9_addOne 28 = .ok (.iconst 3, 1) := by decide +kernel
theorem dX9_addOne_29 : decode cX9_addOne 29 = .ok (.iaload, 1) := by decide +kernel
theorem dX9_addOne_30 : decode cX9_addOne 30 = .ok (.aload_n 0, 1) := by decide +kernel
theorem dX9_addOne_31 : decode cX9_addOne 31 = .ok (.getfield 17, 3) := by decide +kernel
theorem dX9_addOne_34 : decode cX9_addOne 34 = .ok (.iconst 0, 1) := by decide +kernel
theorem dX9_addOne_35 : decode cX9_addOne 35 = .ok (.iaload, 1) := by decide +kernel
theorem dX9_addOne_36 : decode cX9_addOne 36 = .ok (.invokevirtual 78, 3) := by decide +kernel
theorem dX9_addOne_39 : decode cX9_addOne 39 = .ok (.istore_n 1, 1) := by decide +kernel
theorem dX9_addOne_40 : decode cX9_addOne 40 = .ok (.aload_n 0, 1) := by decide +kernel
theorem dX9_addOne_41 : decode cX9_addOne 41 = .ok (.aload_n 0, 1) := by decide +kernel
theorem dX9_addOne_42 : decode cX9_addOne 42 = .ok (.getfield 17, 3) := by decide +kernel
theorem dX9_addOne_45 : decode cX9_addOne 45 = .ok (.iconst 2, 1) := by decide +kernel
theorem dX9_addOne_46 : decode cX9_addOne 46 = .ok (.iaload, 1) := by decide +kernel
theorem dX9_addOne_47 : decode cX9_addOne 47 = .ok (.aload_n 0, 1) := by decide +kernel
theorem dX9_addOne_48 : decode cX9_addOne 48 = .ok (.getfield 17, 3) := by decide +kernel
theorem dX9_addOne_51 : decode cX9_addOne 51 = .ok (.iconst 0, 1) := by decide +kernel
theorem dX9_addOne_52 : decode cX9_addOne 52 = .ok (.iaload, 1) := by decide +kernel
theorem dX9_addOne_53 : decode cX9_addOne 53 = .ok (.invokevirtual 78, 3) := by decide +kernel
theorem dX9_addOne_56 : decode cX9_addOne 56 = .ok (.istore_n 2, 1) := by decide +kernel
theorem dX9_addOne_57 : decode cX9_addOne 57 = .ok (.aload_n 0, 1) := by decide +kernel
theorem dX9_addOne_58 : decode cX9_addOne 58 = .ok (.aload_n 0, 1) := by decide +kernel
theorem dX9_addOne_59 : decode cX9_addOne 59 = .ok (.getfield 17, 3) := by decide +kernel
theorem dX9_addOne_62 : decode cX9_addOne 62 = .ok (.iconst 1, 1) := by decide +kernel
theorem dX9_addOne_63 : decode cX9_addOne 63 = .ok (.iaload, 1) := by decide +kernel
theorem dX9_addOne_64 : decode cX9_addOne 64 = .ok (.aload_n 0, 1) := by decide +kernel
theorem dX9_addOne_65 : decode cX9_addOne 65 = .ok (.getfield 17, 3) := by decide +kernel
theorem dX9_addOne_68 : decode cX9_addOne 68 = .ok (.iconst 0, 1) := by decide +kernel
theorem dX9_addOne_69 : decode cX9_addOne 69 = .ok (.iaload, 1) := by decide +kernel
theorem dX9_addOne_70 : decode cX9_addOne 70 = .ok (.invokevirtual 78, 3) := by decide +kernel
theorem dX9_addOne_73 : decode cX9_addOne 73 = .ok (.istore_n 3, 1) := by decide +kernel
theorem dX9_addOne_74 : decode cX9_addOne 74 = .ok (.aload_n 0, 1) := by decide +kernel
theorem dX9_addOne_75 : decode cX9_addOne 75 = .ok (.getfield 185, 3) := by decide +kernel
theorem dX9_addOne_78 : decode cX9_addOne 78 = .ok (.ifCond .ne 28, 3) := by decide +kernel
theorem dX9_addOne_81 : decode cX9_addOne 81 = .ok (.aload_n 0, 1) := by decide +kernel
theorem dX9_addOne_82 : decode cX9_addOne 82 = .ok (.getfield 188, 3) := by decide +kernel
theorem dX9_addOne_85 : decode cX9_addOne 85 = .ok (.iconst 1, 1) := by decide +kernel
theorem dX9_addOne_86 : decode cX9_addOne 86 = .ok (.if_icmp .eq 9, 3) := by decide +kernel
theorem dX9_addOne_89 : decode cX9_addOne 89 = .ok (.aload_n 0, 1) := by decide +kernel
theorem dX9_addOne_90 : decode cX9_addOne 90 = .ok (.iconst 1, 1) := by decide +kernel
theorem dX9_addOne_91 : decode cX9_addOne 91 = .ok (.putfield 182, 3) := by decide +kernel
theorem dX9_addOne_94 : decode cX9_addOne 94 = .ok (.return_, 1) := by decide +kernel
theorem dX9_addOne_95 : decode cX9_addOne 95 = .ok (.aload_n 0, 1) := by decide +kernel
theorem dX9_addOne_96 : decode cX9_addOne 96 = .ok (.iload_n 3, 1) := by decide +kernel
theorem dX9_addOne_97 : decode cX9_addOne 97 = .ok (.iconst 2, 1) := by decide +kernel
theorem dX9_addOne_98 : decode cX9_addOne 98 = .ok (.invokevirtual 78, 3) := by decide +kernel
theorem dX9_addOne_101 : decode cX9_addOne 101 = .ok (.istore 4, 2) := by decide +kernel
theorem dX9_addOne_103 : decode cX9_addOne 103 = .ok (.goto 23, 3) := by decide +kernel
theorem dX9_addOne_106 : decode cX9_addOne 106 = .ok (.aload_n 0, 1) := by decide +kernel
theorem dX9_addOne_107 : decode cX9_addOne 107 = .ok (.aload_n 0, 1) := by decide +kernel
theorem dX9_addOne_108 : decode cX9_addOne 108 = .ok (.aload_n 0, 1) := by decide +kernel
theorem dX9_addOne_109 : decode cX9_addOne 109 = .ok (.getfield 188, 3) := by decide +kernel
theorem dX9_addOne_112 : decode cX9_addOne 112 = .ok (.iconst 1, 1) := by decide +kernel
theorem dX9_addOne_113 : decode cX9_addOne 113 = .ok (.isub, 1) := by decide +kernel
theorem dX9_addOne_114 : decode cX9_addOne 114 = .ok (.invokevirtual 85, 3) := by decide +kernel
theorem dX9_addOne_117 : decode cX9_addOne 117 = .ok (.aload_n 0, 1) := by decide +kernel
theorem dX9_addOne_118 : decode cX9_addOne 118 = .ok (.getfield 185, 3) := by decide +kernel
theorem dX9_addOne_121 : decode cX9_addOne 121 = .ok (.invokevirtual 78, 3) := by decide +kernel
theorem dX9_addOne_124 : decode cX9_addOne 124 = .ok (.istore 4, 2) := by decide +kernel
theorem dX9_addOne_126 : decode cX9_addOne 126 = .ok (.aload_n 0, 1) := by decide +kernel
theorem dX9_addOne_127 : decode cX9_addOne 127 = .ok (.aload_n 0, 1) := by decide +kernel
theorem dX9_addOne_128 : decode cX9_addOne 128 = .ok (.aload_n 0, 1) := by decide +kernel
theorem dX9_addOne_129 : decode cX9_addOne 129 = .ok (.iload 4, 2) := by decide +kernel
theorem dX9_addOne_131 : decode cX9_addOne 131 = .ok (.iload 4, 2) := by decide +kernel
theorem dX9_addOne_133 : decode cX9_addOne 133 = .ok (.imul, 1) := by decide +kernel
theorem dX9_addOne_134 : decode cX9_addOne 134 = .ok (.iload_n 2, 1) := by decide +kernel
theorem dX9_addOne_135 : decode cX9_addOne 135 = .ok (.isub, 1) := by decide +kernel
theorem dX9_addOne_136 : decode cX9_addOne 136 = .ok (.invokevirtual 85, 3) := by decide +kernel
theorem dX9_addOne_139 : decode cX9_addOne 139 = .ok (.iload_n 1, 1) := by decide +kernel
theorem dX9_addOne_140 : decode cX9_addOne 140 = .ok (.invokevirtual 78, 3) := by decide +kernel
theorem dX9_addOne_143 : decode cX9_addOne 143 = .ok (.aload_n 0, 1) := by decide +kernel
theorem dX9_addOne_144 : decode cX9_addOne 144 = .ok (.getfield 185, 3) := by decide +kernel
theorem dX9_addOne_147 : decode cX9_addOne 147 = .ok (.isub, 1) := by decide +kernel
theorem dX9_addOne_148 : decode cX9_addOne 148 = .ok (.invokevirtual 85, 3) := by decide +kernel
theorem dX9_addOne_151 : decode cX9_addOne 151 = .ok (.istore 5, 2) := by decide +kernel
theorem dX9_addOne_153 : decode cX9_addOne 153 = .ok (.aload_n 0, 1) := by decide +kernel
theorem dX9_addOne_154 : decode cX9_addOne 154 = .ok (.iconst 1, 1) := by decide +kernel
theorem dX9_addOne_155 : decode cX9_addOne 155 = .ok (.iload 4, 2) := by decide +kernel
theorem dX9_addOne_157 : decode cX9_addOne 157 = .ok (.iload 5, 2) := by decide +kernel
theorem dX9_addOne_159 : decode cX9_addOne 159 = .ok (.imul, 1) := by decide +kernel
theorem dX9_addOne_160 : decode cX9_addOne 160 = .ok (.iadd, 1) := by decide +kernel
theorem dX9_addOne_161 : decode cX9_addOne 161 = .ok (.ineg, 1) := by decide +kernel
theorem dX9_addOne_162 : decode cX9_addOne 162 = .ok (.invokevirtual 85, 3) := by decide +kernel
theorem dX9_addOne_165 : decode cX9_addOne 165 = .ok (.istore 6, 2) := by decide +kernel
theorem dX9_addOne_167 : decode cX9_addOne 167 = .ok (.aload_n 0, 1) := by decide +kernel
theorem dX9_addOne_168 : decode cX9_addOne 168 = .ok (.iload 5, 2) := by decide +kernel
theorem dX9_addOne_170 : decode cX9_addOne 170 = .ok (.putfield 185, 3) := by decide +kernel
theorem dX9_addOne_173 : decode cX9_addOne 173 = .ok (.aload_n 0, 1) := by decide +kernel
theorem dX9_addOne_174 : decode cX9_addOne 174 = .ok (.iload 6, 2) := by decide +kernel
theorem dX9_addOne_176 : decode cX9_addOne 176 = .ok (.putfield 188, 3) := by decide +kernel
theorem dX9_addOne_179 : decode cX9_addOne 179 = .ok (.return_, 1) := by decide +kernel
set_option maxRecDepth 20000 in
theorem ggX9_multipleOf_X9_addOne : GoodIn wsX9_multipleOf wsX9_addOne := goodIn_sub (List.forall_mem_cons.mpr ⟨(List.mem_cons_of_mem _ (List.mem_append_left _ (List.mem_of_getElem? (i := 7) rfl))), (x_ap2 (List.forall_mem_cons.mpr ⟨(List.mem_cons_of_mem _ (List.mem_append_left _ (List.mem_of_getElem? (i := 0) rfl))), (List.forall_mem_cons.mpr ⟨(List.mem_cons_of_mem _ (List.mem_append_left _ (List.mem_of_getElem? (i := 1) rfl))), (List.forall_mem_cons.mpr ⟨(List.mem_cons_of_mem _ (List.mem_append_left _ (List.mem_of_getElem? (i := 2) rfl))), (List.forall_mem_cons.mpr ⟨(List.mem_cons_of_mem _ (List.mem_append_left _ (List.mem_of_getElem? (i := 8) rfl))), (List.forall_mem_cons.mpr ⟨(List.mem_cons_of_mem _ (List.mem_append_left _ (List.mem_of_getElem? (i := 9) rfl))), (List.forall_mem_cons.mpr ⟨(List.mem_cons_of_mem _ (List.mem_append_left _ (List.mem_of_getElem? (i := 10) rfl))), (List.forall_mem_cons.mpr ⟨(List.mem_cons_of_mem _ (List.mem_append_left _ (List.mem_of_getElem? (i := 11) rfl))), (List.forall_mem_cons.mpr ⟨(List.mem_cons_of_mem _ (List.mem_append_left _ (List.mem_of_getElem? (i := 6) rfl))), (List.forall_mem_cons.mpr ⟨(List.mem_cons_of_mem _ (List.mem_append_left _ (List.mem_of_getElem? (i := 12) rfl))), (List.forall_mem_cons.mpr ⟨(List.mem_cons_of_mem _ (List.mem_append_left _ (List.mem_of_getElem? (i := 13) rfl))), (List.forall_mem_cons.mpr ⟨(List.mem_cons_of_mem _ (List.mem_append_left _ (List.mem_of_getElem? (i := 14) rfl))), (List.forall_mem_cons.mpr ⟨(List.mem_cons_of_mem _ (List.mem_append_left _ (List.mem_of_getElem? (i := 15) rfl))), (List.forall_mem_cons.mpr ⟨(List.mem_cons_of_mem _ (List.mem_append_left _ (List.mem_of_getElem? (i := 16) rfl))), (List.forall_mem_cons.mpr ⟨(List.mem_cons_of_mem _ (List.mem_append_left _ (List.mem_of_getElem? (i := 17) rfl))), (List.forall_mem_cons.mpr ⟨(List.mem_cons_of_mem _ (List.mem_append_left _ (List.mem_of_getElem? (i := 18) rfl))), (List.forall_mem_cons.mpr ⟨(List.mem_cons_of_mem _ (List.mem_append_left _ (List.mem_of_getElem? (i := 19) rfl))), (List.forall_mem_cons.mpr ⟨(List.mem_cons_of_mem _ (List.mem_append_left _ (List.mem_of_getElem? (i := 20) rfl))), (List.forall_mem_cons.mpr ⟨(List.mem_cons_of_mem _ (List.mem_append_left _ (List.mem_of_getElem? (i := 21) rfl))), (fun _ h => absurd h List.not_mem_nil)⟩)⟩)⟩)⟩)⟩)⟩)⟩)⟩)⟩)⟩)⟩)⟩)⟩)⟩)⟩)⟩)⟩)⟩) (fun _ h => (List.mem_cons_of_mem _ (List.mem_append_right _ h))))⟩) (by decide +kernel)
set_option maxRecDepth 20000 in
theorem gX9_multipleOf_X9_addOne : GoodIn wsX9_multipleOf (wsV RX9 191 RX9 yX9_addOne wsX9_addOne) := goodIn_app (goodIn_of _ (by decide +kernel)) ggX9_multipleOf_X9_addOne
theorem dX9_multipleOf_0 : decode cX9_multipleOf 0 = .ok (.aload_n 0, 1) := by decide +kernel
theorem dX9_multipleOf_1 : decode cX9_multipleOf 1 = .ok (.iconst 1, 1) := by decide +kernel
theorem dX9_multipleOf_2 : decode cX9_multipleOf 2 = .ok (.putfield 182, 3) := by decide +kernel
theorem dX9_multipleOf_5 : decode cX9_multipleOf 5 = .ok (.aload_n 0, 1) := by decide +kernel
theorem dX9_multipleOf_6 : decode cX9_multipleOf 6 = .ok (.iconst 0, 1) := by decide +kernel
theorem dX9_multipleOf_7 : decode cX9_multipleOf 7 = .ok (.putfield 185, 3) := by decide +kernel
theorem dX9_multipleOf_10 : decode cX9_multipleOf 10 = .ok (.aload_n 0, 1) := by decide +kernel
theorem dX9_multipleOf_11 : decode cX9_multipleOf 11 = .ok (.iconst 0, 1) := by decide +kernel
theorem dX9_multipleOf_12 : decode cX9_multipleOf 12 = .ok (.putfield 188, 3) := by decide +kernel
theorem dX9_multipleOf_15 : decode cX9_multipleOf 15 = .ok (.iconst 0, 1) := by decide +kernel
theorem dX9_multipleOf_16 : decode cX9_multipleOf 16 = .ok (.istore_n 2, 1) := by decide +kernel
theorem dX9_multipleOf_17 : decode cX9_multipleOf 17 = .ok (.iload_n 2, 1) := by decide +kernel
theorem dX9_multipleOf_18 : decode cX9_multipleOf 18 = .ok (.iload_n 1, 1) := by decide +kernel
theorem dX9_multipleOf_19 : decode cX9_multipleOf 19 = .ok (.if_icmp .ge 13, 3) := by decide +kernel
theorem dX9_multipleOf_22 : decode cX9_multipleOf 22 = .ok (.aload_n 0, 1) := by decide +kernel
theorem dX9_multipleOf_23 : decode cX9_multipleOf 23 = .ok (.invokevirtual 191, 3) := by decide +kernel
theorem dX9_multipleOf_26 : decode cX9_multipleOf 26 = .ok (.iinc 2 1, 3) := by decide +kernel
theorem dX9_multipleOf_29 : decode cX9_multipleOf 29 = .ok (.goto (-12), 3) := by decide +kernel
theorem dX9_multipleOf_32 : decode cX9_multipleOf 32 = .ok (.return_, 1) := by decide +kernel
theorem ip_wsX9_multiple__wsX9_multiple_r1 : ∀ w ∈ wsX9_multiple_r1, w ∈ wsX9_multiple := fun _ h => (List.mem_cons_of_mem _ (List.mem_append_left _ (List.mem_append_left _ h)))
theorem ip_wsX9_multiple__wsX9_multiple_r2 : ∀ w ∈ wsX9_multiple_r2, w ∈ wsX9_multiple := fun _ h => (List.mem_cons_of_mem _ (List.mem_append_left _ (List.mem_append_right _ (List.mem_append_left _ h))))
theorem ip_wsX9_multiple__wsX9_multiple_r3 : ∀ w ∈ wsX9_multiple_r3, w ∈ wsX9_multiple := fun _ h => (List.mem_cons_of_mem _ (List.mem_append_left _ (List.mem_append_right _ (List.mem_append_right _ (List.mem_append_left _ h)))))
theorem ip_wsX9_multiple__wsX9_multiple_r4 : ∀ w ∈ wsX9_multiple_r4, w ∈ wsX9_multiple := fun _ h => (List.mem_cons_of_mem _ (List.mem_append_left _ (List.mem_append_right _ (List.mem_append_right _ (List.mem_append_right _ (List.mem_append_left _ h))))))
theorem ip_wsX9_multiple__wsX9_multiple_r5 : ∀ w ∈ wsX9_multiple_r5, w ∈ wsX9_multiple := fun _ h => (List.mem_cons_of_mem _ (List.mem_append_left _ (List.mem_append_right _ (List.mem_append_right _ (List.mem_append_right _ (List.mem_append_right _ h))))))
set_option maxRecDepth 20000 in
theorem ggX9_multiple_X9_isGood : GoodIn wsX9_multiple wsX9_isGood := goodIn_sub (List.forall_mem_cons.mpr ⟨(ip_wsX9_multiple__wsX9_multiple_r1 _ (List.mem_of_getElem? (i := 7) rfl)), (x_ap2 (x_ap2 (show ∀ w ∈ wsX9_isGood_r1, w ∈ wsX9_multiple from (List.forall_mem_cons.mpr ⟨(ip_wsX9_multiple__wsX9_multiple_r1 _ (List.mem_of_getElem? (i := 8) rfl)), (List.forall_mem_cons.mpr ⟨(ip_wsX9_multiple__wsX9_multiple_r1 _ (List.mem_of_getElem? (i := 9) rfl)), (List.forall_mem_cons.mpr ⟨(ip_wsX9_multiple__wsX9_multiple_r1 _ (List.mem_of_getElem? (i := 10) rfl)), (List.forall_mem_cons.mpr ⟨(ip_wsX9_multiple__wsX9_multiple_r1 _ (List.mem_of_getElem? (i := 11) rfl)), (List.forall_mem_cons.mpr ⟨(ip_wsX9_multiple__wsX9_multiple_r1 _ (List.mem_of_getElem? (i := 6) rfl)), (List.forall_mem_cons.mpr ⟨(ip_wsX9_multiple__wsX9_multiple_r1 _ (List.mem_of_getElem? (i := 12) rfl)), (List.forall_mem_cons.mpr ⟨(ip_wsX9_multiple__wsX9_multiple_r1 _ (List.mem_of_getElem? (i := 13) rfl)), (List.forall_mem_cons.mpr ⟨(ip_wsX9_multiple__wsX9_multiple_r1 _ (List.mem_of_getElem? (i := 14) rfl)), (List.forall_mem_cons.mpr ⟨(ip_wsX9_multiple__wsX9_multiple_r1 _ (List.mem_of_getElem? (i := 15) rfl)), (List.forall_mem_cons.mpr ⟨(ip_wsX9_multiple__wsX9_multiple_r1 _ (List.mem_of_getElem? (i := 16) rfl)), (List.forall_mem_cons.mpr ⟨(ip_wsX9_multiple__wsX9_multiple_r1 _ (List.mem_of_getElem? (i := 17) rfl)), (List.forall_mem_cons.mpr ⟨(ip_wsX9_multiple__wsX9_multiple_r1 _ (List.mem_of_getElem? (i := 18) rfl)), (List.forall_mem_cons.mpr ⟨(ip_wsX9_multiple__wsX9_multiple_r1 _ (List.mem_of_getElem? (i := 19) rfl)), (List.forall_mem_cons.mpr ⟨(ip_wsX9_multiple__wsX9_multiple_r1 _ (List.mem_of_getElem? (i := 20) rfl)), (List.forall_mem_cons.mpr ⟨(ip_wsX9_multiple__wsX9_multiple_r1 _ (List.mem_of_getElem? (i := 21) rfl)), (List.forall_mem_cons.mpr ⟨(ip_wsX9_multiple__wsX9_multiple_r1 _ (List.mem_of_getElem? (i := 22) rfl)), (List.forall_mem_cons.mpr ⟨(ip_wsX9_multiple__wsX9_multiple_r1 _ (List.mem_of_getElem? (i := 23) rfl)), (List.forall_mem_cons.mpr ⟨(ip_wsX9_multiple__wsX9_multiple_r2 _ (List.mem_of_getElem? (i := 0) rfl)), (List.forall_mem_cons.mpr ⟨(ip_wsX9_multiple__wsX9_multiple_r2 _ (List.mem_of_getElem? (i := 1) rfl)), (List.forall_mem_cons.mpr ⟨(ip_wsX9_multiple__wsX9_multiple_r2 _ (List.mem_of_getElem? (i := 2) rfl)), (List.forall_mem_cons.mpr ⟨(ip_wsX9_multiple__wsX9_multiple_r2 _ (List.mem_of_getElem? (i := 3) rfl)), (List.forall_mem_cons.mpr ⟨(ip_wsX9_multiple__wsX9_multiple_r2 _ (List.mem_of_getElem? (i := 4) rfl)), (List.forall_mem_cons.mpr ⟨(ip_wsX9_multiple__wsX9_multiple_r2 _ (List.mem_of_getElem? (i := 5) rfl)), (List.forall_mem_cons.mpr ⟨(ip_wsX9_multiple__wsX9_multiple_r2 _ (List.mem_of_getElem? (i := 6) rfl)), (fun _ h => absurd h List.not_mem_nil)⟩)⟩)⟩)⟩)⟩)⟩)⟩)⟩)⟩)⟩)⟩)⟩)⟩)⟩)⟩)⟩)⟩)⟩)⟩)⟩)⟩)⟩)⟩)⟩)) (x_ap2 (show ∀ w ∈ wsX9_isGood_r2, w ∈ wsX9_multiple from (List.forall_mem_cons.mpr ⟨(ip_wsX9_multiple__wsX9_multiple_r2 _ (List.mem_of_getElem? (i := 7) rfl)), (List.forall_mem_cons.mpr ⟨(ip_wsX9_multiple__wsX9_multiple_r2 _ (List.mem_of_getElem? (i := 8) rfl)), (List.forall_mem_cons.mpr ⟨(ip_wsX9_multiple__wsX9_multiple_r2 _ (List.mem_of_getElem? (i := 9) rfl)), (List.forall_mem_cons.mpr ⟨(ip_wsX9_multiple__wsX9_multiple_r2 _ (List.mem_of_getElem? (i := 10) rfl)), (List.forall_mem_cons.mpr ⟨(ip_wsX9_multiple__wsX9_multiple_r2 _ (List.mem_of_getElem? (i := 11) rfl)), (List.forall_mem_cons.mpr ⟨(ip_wsX9_multiple__wsX9_multiple_r2 _ (List.mem_of_getElem? (i := 12) rfl)), (List.forall_mem_cons.mpr ⟨(ip_wsX9_multiple__wsX9_multiple_r2 _ (List.mem_of_getElem? (i := 13) rfl)), (List.forall_mem_cons.mpr ⟨(ip_wsX9_multiple__wsX9_multiple_r2 _ (List.mem_of_getElem? (i := 14) rfl)), (List.forall_mem_cons.mpr ⟨(ip_wsX9_multiple__wsX9_multiple_r2 _ (List.mem_of_getElem? (i := 15) rfl)), (List.forall_mem_cons.mpr ⟨(ip_wsX9_multiple__wsX9_multiple_r2 _ (List.mem_of_getElem? (i := 16) rfl)), (List.forall_mem_cons.mpr ⟨(ip_wsX9_multiple__wsX9_multiple_r2 _ (List.mem_of_getElem? (i := 17) rfl)), (List.forall_mem_cons.mpr ⟨(ip_wsX9_multiple__wsX9_multiple_r2 _ (List.mem_of_getElem? (i := 18) rfl)), (List.forall_mem_cons.mpr ⟨(ip_wsX9_multiple__wsX9_multiple_r2 _ (List.mem_of_getElem? (i := 19) rfl)), (List.forall_mem_cons.mpr ⟨(ip_wsX9_multiple__wsX9_multiple_r2 _ (List.mem_of_getElem? (i := 20) rfl)), (List.forall_mem_cons.mpr ⟨(ip_wsX9_multiple__wsX9_multiple_r2 _ (List.mem_of_getElem? (i := 21) rfl)), (List.forall_mem_cons.mpr ⟨(ip_wsX9_multiple__wsX9_multiple_r2 _ (List.mem_of_getElem? (i := 22) rfl)), (List.forall_mem_cons.mpr ⟨(ip_wsX9_multiple__wsX9_multiple_r2 _ (List.mem_of_getElem? (i := 23) rfl)), (List.forall_mem_cons.mpr ⟨(ip_wsX9_multiple__wsX9_multiple_r3 _ (List.mem_of_getElem? (i := 0) rfl)), (List.forall_mem_cons.mpr ⟨(ip_wsX9_multiple__wsX9_multiple_r3 _ (List.mem_of_getElem? (i := 1) rfl)), (List.forall_mem_cons.mpr ⟨(ip_wsX9_multiple__wsX9_multiple_r3 _ (List.mem_of_getElem? (i := 2) rfl)), (List.forall_mem_cons.mpr ⟨(ip_wsX9_multiple__wsX9_multiple_r3 _ (List.mem_of_getElem? (i := 3) rfl)), (List.forall_mem_cons.mpr ⟨(ip_wsX9_multiple__wsX9_multiple_r3 _ (List.mem_of_getElem? (i := 4) rfl)), (List.forall_mem_cons.mpr ⟨(ip_wsX9_multiple__wsX9_multiple_r3 _ (List.mem_of_getElem? (i := 5) rfl)), (List.forall_mem_cons.mpr ⟨(ip_wsX9_multiple__wsX9_multiple_r3 _ (List.mem_of_getElem? (i := 6) rfl)), (fun _ h => absurd h List.not_mem_nil)⟩)⟩)⟩)⟩)⟩)⟩)⟩)⟩)⟩)⟩)⟩)⟩)⟩)⟩)⟩)⟩)⟩)⟩)⟩)⟩)⟩)⟩)⟩)⟩)) (x_ap2 (show ∀ w ∈ wsX9_isGood_r3, w ∈ wsX9_multiple from (List.forall_mem_cons.mpr ⟨(ip_wsX9_multiple__wsX9_multiple_r3 _ (List.mem_of_getElem? (i := 7) rfl)), (List.forall_mem_cons.mpr ⟨(ip_wsX9_multiple__wsX9_multiple_r3 _ (List.mem_of_getElem? (i := 8) rfl)), (List.forall_mem_cons.mpr ⟨(ip_wsX9_multiple__wsX9_multiple_r3 _ (List.mem_of_getElem? (i := 9) rfl)), (List.forall_mem_cons.mpr ⟨(ip_wsX9_multiple__wsX9_multiple_r3 _ (List.mem_of_getElem? (i := 10) rfl)), (List.forall_mem_cons.mpr ⟨(ip_wsX9_multiple__wsX9_multiple_r3 _ (List.mem_of_getElem? (i := 11) rfl)), (List.forall_mem_cons.mpr ⟨(ip_wsX9_multiple__wsX9_multiple_r3 _ (List.mem_of_getElem? (i := 12) rfl)), (List.forall_mem_cons.mpr ⟨(ip_wsX9_multiple__wsX9_multiple_r3 _ (List.mem_of_getElem? (i := 13) rfl)), (List.forall_mem_cons.mpr ⟨(ip_wsX9_multiple__wsX9_multiple_r3 _ (List.mem_of_getElem? (i := 14) rfl)), (List.forall_mem_cons.mpr ⟨(ip_wsX9_multiple__wsX9_multiple_r3 _ (List.mem_of_getElem? (i := 15) rfl)), (List.forall_mem_cons.mpr ⟨(ip_wsX9_multiple__wsX9_multiple_r3 _ (List.mem_of_getElem? (i := 16) rfl)), (List.forall_mem_cons.mpr ⟨(ip_wsX9_multiple__wsX9_multiple_r3 _ (List.mem_of_getElem? (i := 17) rfl)), (List.forall_mem_cons.mpr ⟨(ip_wsX9_multiple__wsX9_multiple_r3 _ (List.mem_of_getElem? (i := 18) rfl)), (List.forall_mem_cons.mpr ⟨(ip_wsX9_multiple__wsX9_multiple_r3 _ (List.mem_of_getElem? (i := 19) rfl)), (List.forall_mem_cons.mpr ⟨(ip_wsX9_multiple__wsX9_multiple_r3 _ (List.mem_of_getElem? (i := 20) rfl)), (List.forall_mem_cons.mpr ⟨(ip_wsX9_multiple__wsX9_multiple_r3 _ (List.mem_of_getElem? (i := 21) rfl)), (List.forall_mem_cons.mpr ⟨(ip_wsX9_multiple__wsX9_multiple_r3 _ (List.mem_of_getElem? (i := 22) rfl)), (List.forall_mem_cons.mpr ⟨(ip_wsX9_multiple__wsX9_multiple_r3 _ (List.mem_of_getElem? (i := 23) rfl)), (List.forall_mem_cons.mpr ⟨(ip_wsX9_multiple__wsX9_multiple_r4 _ (List.mem_of_getElem? (i := 0) rfl)), (List.forall_mem_cons.mpr ⟨(ip_wsX9_multiple__wsX9_multiple_r4 _ (List.mem_of_getElem? (i := 1) rfl)), (List.forall_mem_cons.mpr ⟨(ip_wsX9_multiple__wsX9_multiple_r4 _ (List.mem_of_getElem? (i := 2) rfl)), (List.forall_mem_cons.mpr ⟨(ip_wsX9_multiple__wsX9_multiple_r4 _ (List.mem_of_getElem? (i := 3) rfl)), (List.forall_mem_cons.mpr ⟨(ip_wsX9_multiple__wsX9_multiple_r4 _ (List.mem_of_getElem? (i := 4) rfl)), (List.forall_mem_cons.mpr ⟨(ip_wsX9_multiple__wsX9_multiple_r4 _ (List.mem_of_getElem? (i := 5) rfl)), (List.forall_mem_cons.mpr ⟨(ip_wsX9_multiple__wsX9_multiple_r4 _ (List.mem_of_getElem? (i := 6) rfl)), (fun _ h => absurd h List.not_mem_nil)⟩)⟩)⟩)⟩)⟩)⟩)⟩)⟩)⟩)⟩)⟩)⟩)⟩)⟩)⟩)⟩)⟩)⟩)⟩)⟩)⟩)⟩)⟩)⟩)) (show ∀ w ∈ wsX9_isGood_r4, w ∈ wsX9_multiple from (List.forall_mem_cons.mpr ⟨(ip_wsX9_multiple__wsX9_multiple_r4 _ (List.mem_of_getElem? (i := 7) rfl)), (List.forall_mem_cons.mpr ⟨(ip_wsX9_multiple__wsX9_multiple_r4 _ (List.mem_of_getElem? (i := 8) rfl)), (List.forall_mem_cons.mpr ⟨(ip_wsX9_multiple__wsX9_multiple_r4 _ (List.mem_of_getElem? (i := 9) rfl)), (List.forall_mem_cons.mpr ⟨(ip_wsX9_multiple__wsX9_multiple_r4 _ (List.mem_of_getElem? (i := 10) rfl)), (List.forall_mem_cons.mpr ⟨(ip_wsX9_multiple__wsX9_multiple_r4 _ (List.mem_of_getElem? (i := 11) rfl)), (List.forall_mem_cons.mpr ⟨(ip_wsX9_multiple__wsX9_multiple_r4 _ (List.mem_of_getElem? (i := 12) rfl)), (List.forall_mem_cons.mpr ⟨(ip_wsX9_multiple__wsX9_multiple_r4 _ (List.mem_of_getElem? (i := 13) rfl)), (List.forall_mem_cons.mpr ⟨(ip_wsX9_multiple__wsX9_multiple_r4 _ (List.mem_of_getElem? (i := 14) rfl)), (List.forall_mem_cons.mpr ⟨(ip_wsX9_multiple__wsX9_multiple_r4 _ (List.mem_of_getElem? (i := 15) rfl)), (List.forall_mem_cons.mpr ⟨(ip_wsX9_multiple__wsX9_multiple_r4 _ (List.mem_of_getElem? (i := 16) rfl)), (List.forall_mem_cons.mpr ⟨(ip_wsX9_multiple__wsX9_multiple_r4 _ (List.mem_of_getElem? (i := 17) rfl)), (List.forall_mem_cons.mpr ⟨(ip_wsX9_multiple__wsX9_multiple_r4 _ (List.mem_of_getElem? (i := 18) rfl)), (List.forall_mem_cons.mpr ⟨(ip_wsX9_multiple__wsX9_multiple_r4 _ (List.mem_of_getElem? (i := 19) rfl)), (List.forall_mem_cons.mpr ⟨(ip_wsX9_multiple__wsX9_multiple_r4 _ (List.mem_of_getElem? (i := 20) rfl)), (List.forall_mem_cons.mpr ⟨(ip_wsX9_multiple__wsX9_multiple_r4 _ (List.mem_of_getElem? (i := 21) rfl)), (List.forall_mem_cons.mpr ⟨(ip_wsX9_multiple__wsX9_multiple_r4 _ (List.mem_of_getElem? (i := 22) rfl)), (List.forall_mem_cons.mpr ⟨(ip_wsX9_multiple__wsX9_multiple_r4 _ (List.mem_of_getElem? (i := 23) rfl)), (List.forall_mem_cons.mpr ⟨(ip_wsX9_multiple__wsX9_multiple_r5 _ (List.mem_of_getElem? (i := 0) rfl)), (fun _ h => absurd h List.not_mem_nil)⟩)⟩)⟩)⟩)⟩)⟩)⟩)⟩)⟩)⟩)⟩)⟩)⟩)⟩)⟩)⟩)⟩)⟩))))) (fun _ h => (List.mem_cons_of_mem _ (List.mem_append_right _ h))))⟩) (by decide +kernel)
set_option maxRecDepth 20000 in
theorem gX9_multiple_X9_isGood : GoodIn wsX9_multiple (wsV RX9 109 RX9 yX9_isGood wsX9_isGood) := goodIn_app (goodIn_of _ (by decide +kernel)) ggX9_multiple_X9_isGood
set_option maxRecDepth 20000 in
theorem ggX9_multiple_X9_in : GoodIn wsX9_multiple wsX9_in := goodIn_sub (List.forall_mem_cons.mpr ⟨(ip_wsX9_multiple__wsX9_multiple_r5 _ (List.mem_of_getElem? (i := 3) rfl)), (fun _ h => absurd h List.not_mem_nil)⟩) (by decide +kernel)
set_option maxRecDepth 20000 in
theorem gX9_multiple_X9_in : GoodIn wsX9_multiple (va_wsS RX9 62 yX9_in wsX9_in) := goodIn_app (goodIn_of _ (by decide +kernel)) ggX9_multiple_X9_in
set_option maxRecDepth 20000 in
theorem ggX9_multiple_X9_multipleOf : GoodIn wsX9_multiple wsX9_multipleOf := goodIn_sub (List.forall_mem_cons.mpr ⟨(ip_wsX9_multiple__wsX9_multiple_r5 _ (List.mem_of_getElem? (i := 7) rfl)), (x_ap2 (List.forall_mem_cons.mpr ⟨(ip_wsX9_multiple__wsX9_multiple_r1 _ (List.mem_of_getElem? (i := 0) rfl)), (List.forall_mem_cons.mpr ⟨(ip_wsX9_multiple__wsX9_multiple_r1 _ (List.mem_of_getElem? (i := 1) rfl)), (List.forall_mem_cons.mpr ⟨(ip_wsX9_multiple__wsX9_multiple_r1 _ (List.mem_of_getElem? (i := 2) rfl)), (List.forall_mem_cons.mpr ⟨(ip_wsX9_multiple__wsX9_multiple_r5 _ (List.mem_of_getElem? (i := 8) rfl)), (List.forall_mem_cons.mpr ⟨(ip_wsX9_multiple__wsX9_multiple_r5 _ (List.mem_of_getElem? (i := 9) rfl)), (List.forall_mem_cons.mpr ⟨(ip_wsX9_multiple__wsX9_multiple_r5 _ (List.mem_of_getElem? (i := 10) rfl)), (List.forall_mem_cons.mpr ⟨(ip_wsX9_multiple__wsX9_multiple_r1 _ (List.mem_of_getElem? (i := 6) rfl)), (List.forall_mem_cons.mpr ⟨(ip_wsX9_multiple__wsX9_multiple_r5 _ (List.mem_of_getElem? (i := 11) rfl)), (List.forall_mem_cons.mpr ⟨(ip_wsX9_multiple__wsX9_multiple_r1 _ (List.mem_of_getElem? (i := 14) rfl)), (List.forall_mem_cons.mpr ⟨(ip_wsX9_multiple__wsX9_multiple_r2 _ (List.mem_of_getElem? (i := 12) rfl)), (List.forall_mem_cons.mpr ⟨(ip_wsX9_multiple__wsX9_multiple_r2 _ (List.mem_of_getElem? (i := 13) rfl)), (List.forall_mem_cons.mpr ⟨(ip_wsX9_multiple__wsX9_multiple_r2 _ (List.mem_of_getElem? (i := 14) rfl)), (List.forall_mem_cons.mpr ⟨(ip_wsX9_multiple__wsX9_multiple_r2 _ (List.mem_of_getElem? (i := 15) rfl)), (List.forall_mem_cons.mpr ⟨(ip_wsX9_multiple__wsX9_multiple_r1 _ (List.mem_of_getElem? (i := 22) rfl)), (List.forall_mem_cons.mpr ⟨(ip_wsX9_multiple__wsX9_multiple_r2 _ (List.mem_of_getElem? (i := 16) rfl)), (List.forall_mem_cons.mpr ⟨(ip_wsX9_multiple__wsX9_multiple_r2 _ (List.mem_of_getElem? (i := 17) rfl)), (List.forall_mem_cons.mpr ⟨(ip_wsX9_multiple__wsX9_multiple_r2 _ (List.mem_of_getElem? (i := 18) rfl)), (List.forall_mem_cons.mpr ⟨(ip_wsX9_multiple__wsX9_multiple_r2 _ (List.mem_of_getElem? (i := 19) rfl)), (List.forall_mem_cons.mpr ⟨(ip_wsX9_multiple__wsX9_multiple_r2 _ (List.mem_of_getElem? (i := 4) rfl)), (List.forall_mem_cons.mpr ⟨(ip_wsX9_multiple__wsX9_multiple_r2 _ (List.mem_of_getElem? (i := 5) rfl)), (List.forall_mem_cons.mpr ⟨(ip_wsX9_multiple__wsX9_multiple_r2 _ (List.mem_of_getElem? (i := 6) rfl)), (List.forall_mem_cons.mpr ⟨(ip_wsX9_multiple__wsX9_multiple_r2 _ (List.mem_of_getElem? (i := 7) rfl)), (fun _ h => absurd h List.not_mem_nil)⟩)⟩)⟩)⟩)⟩)⟩)⟩)⟩)⟩)⟩)⟩)⟩)⟩)⟩)⟩)⟩)⟩)⟩)⟩)⟩)⟩)⟩) (fun _ h => (List.mem_cons_of_mem _ (List.mem_append_right _ h))))⟩) (by decide +kernel)
set_option maxRecDepth 20000 in
theorem gX9_multiple_X9_multipleOf : GoodIn wsX9_multiple (wsV RX9 194 RX9 yX9_multipleOf wsX9_multipleOf) := goodIn_app (goodIn_of _ (by decide +kernel)) ggX9_multiple_X9_multipleOf
theorem dX9_multiple_0 : decode cX9_multiple 0 = .ok (.aload_n 0, 1) := by decide +kernel
theorem dX9_multiple_1 : decode cX9_multiple 1 = .ok (.invokevirtual 109, 3) := by decide +kernel
theorem dX9_multiple_4 : decode cX9_multiple 4 = .ok (.ifCond .ne 6, 3) := by decide +kernel
theorem dX9_multiple_7 : decode cX9_multiple 7 = .ok (.bipush (-5), 2) := by decide +kernel
theorem dX9_multiple_9 : decode cX9_multiple 9 = .ok (.ireturn, 1) := by decide +kernel
theorem dX9_multiple_10 : decode cX9_multiple 10 = .ok (.iload_n 1, 1) := by decide +kernel
theorem dX9_multiple_11 : decode cX9_multiple 11 = .ok (.iconst 0, 1) := by decide +kernel
theorem dX9_multiple_12 : decode cX9_multiple 12 = .ok (.sipush 1000, 3) := by decide +kernel
theorem dX9_multiple_15 : decode cX9_multiple 15 = .ok (.invokestatic 62, 3) := by decide +kernel
theorem dX9_multiple_18 : decode cX9_multiple 18 = .ok (.ifCond .eq 12, 3) := by decide +kernel
theorem dX9_multiple_21 : decode cX9_multiple 21 = .ok (.iload_n 2, 1) := by decide +kernel
theorem dX9_multiple_22 : decode cX9_multiple 22 = .ok (.iconst 0, 1) := by decide +kernel
theorem dX9_multiple_23 : decode cX9_multiple 23 = .ok (.iconst 1, 1) := by decide +kernel
theorem dX9_multiple_24 : decode cX9_multiple 24 = .ok (.invokestatic 62, 3) := by decide +kernel
theorem dX9_multiple_27 : decode cX9_multiple 27 = .ok (.ifCond .ne 6, 3) := by decide +kernel
theorem dX9_multiple_30 : decode cX9_multiple 30 = .ok (.bipush (-2), 2) := by decide +kernel
theorem dX9_multiple_32 : decode cX9_multiple 32 = .ok (.ireturn, 1) := by decide +kernel
theorem dX9_multiple_33 : decode cX9_multiple 33 = .ok (.aload_n 0, 1) := by decide +kernel
theorem dX9_multiple_34 : decode cX9_multiple 34 = .ok (.iload_n 1, 1) := by decide +kernel
theorem dX9_multiple_35 : decode cX9_multiple 35 = .ok (.invokevirtual 194, 3) := by decide +kernel
theorem dX9_multiple_38 : decode cX9_multiple 38 = .ok (.aload_n 0, 1) := by decide +kernel
theorem dX9_multiple_39 : decode cX9_multiple 39 = .ok (.getfield 182, 3) := by decide +kernel
theorem dX9_multiple_42 : decode cX9_multiple 42 = .ok (.ifCond .eq 8, 3) := by decide +kernel
theorem dX9_multiple_45 : decode cX9_multiple 45 = .ok (.bipush (-6), 2) := by decide +kernel
theorem dX9_multiple_47 : decode cX9_multiple 47 = .ok (.goto 18, 3) := by decide +kernel
theorem dX9_multiple_50 : decode cX9_multiple 50 = .ok (.iload_n 2, 1) := by decide +kernel
theorem dX9_multiple_51 : decode cX9_multiple 51 = .ok (.ifCond .ne 10, 3) := by decide +kernel
theorem dX9_multiple_54 : decode cX9_multiple 54 = .ok (.aload_n 0, 1) := by decide +kernel
theorem dX9_multiple_55 : decode cX9_multiple 55 = .ok (.getfield 185, 3) := by decide +kernel
theorem dX9_multiple_58 : decode cX9_multiple 58 = .ok (.goto 7, 3) := by decide +kernel
theorem dX9_multiple_61 : decode cX9_multiple 61 = .ok (.aload_n 0, 1) := by decide +kernel
theorem dX9_multiple_62 : decode cX9_multiple 62 = .ok (.getfield 188, 3) := by decide +kernel
theorem dX9_multiple_65 : decode cX9_multiple 65 = .ok (.ireturn, 1) := by decide +kernel
theorem ip_wsX9_orderOf__wsX9_orderOf_r1 : ∀ w ∈ wsX9_orderOf_r1, w ∈ wsX9_orderOf := fun _ h => (List.mem_cons_of_mem _ (List.mem_append_left _ (List.mem_append_left _ h)))
theorem ip_wsX9_orderOf__wsX9_orderOf_r2 : ∀ w ∈ wsX9_orderOf_r2, w ∈ wsX9_orderOf := fun _ h => (List.mem_cons_of_mem _ (List.mem_append_left _ (List.mem_append_right _ h)))
set_option maxRecDepth 20000 in
theorem ggX9_orderOf_X9_multipleOf : GoodIn wsX9_orderOf wsX9_multipleOf := goodIn_sub (List.forall_mem_cons.mpr ⟨(ip_wsX9_orderOf__wsX9_orderOf_r1 _ (List.mem_of_getElem? (i := 5) rfl)), (x_ap2 (List.forall_mem_cons.mpr ⟨(ip_wsX9_orderOf__wsX9_orderOf_r1 _ (List.mem_of_getElem? (i := 0) rfl)), (List.forall_mem_cons.mpr ⟨(ip_wsX9_orderOf__wsX9_orderOf_r1 _ (List.mem_of_getElem? (i := 6) rfl)), (List.forall_mem_cons.mpr ⟨(ip_wsX9_orderOf__wsX9_orderOf_r1 _ (List.mem_of_getElem? (i := 7) rfl)), (List.forall_mem_cons.mpr ⟨(ip_wsX9_orderOf__wsX9_orderOf_r1 _ (List.mem_of_getElem? (i := 8) rfl)), (List.forall_mem_cons.mpr ⟨(ip_wsX9_orderOf__wsX9_orderOf_r1 _ (List.mem_of_getElem? (i := 9) rfl)), (List.forall_mem_cons.mpr ⟨(ip_wsX9_orderOf__wsX9_orderOf_r1 _ (List.mem_of_getElem? (i := 10) rfl)), (List.forall_mem_cons.mpr ⟨(ip_wsX9_orderOf__wsX9_orderOf_r1 _ (List.mem_of_getElem? (i := 4) rfl)), (List.forall_mem_cons.mpr ⟨(ip_wsX9_orderOf__wsX9_orderOf_r1 _ (List.mem_of_getElem? (i := 11) rfl)), (List.forall_mem_cons.mpr ⟨(ip_wsX9_orderOf__wsX9_orderOf_r1 _ (List.mem_of_getElem? (i := 12) rfl)), (List.forall_mem_cons.mpr ⟨(ip_wsX9_orderOf__wsX9_orderOf_r1 _ (List.mem_of_getElem? (i := 13) rfl)), (List.forall_mem_cons.mpr ⟨(ip_wsX9_orderOf__wsX9_orderOf_r1 _ (List.mem_of_getElem? (i := 14) rfl)), (List.forall_mem_cons.mpr ⟨(ip_wsX9_orderOf__wsX9_orderOf_r1 _ (List.mem_of_getElem? (i := 15) rfl)), (List.forall_mem_cons.mpr ⟨(ip_wsX9_orderOf__wsX9_orderOf_r1 _ (List.mem_of_getElem? (i := 16) rfl)), (List.forall_mem_cons.mpr ⟨(ip_wsX9_orderOf__wsX9_orderOf_r1 _ (List.mem_of_getElem? (i := 17) rfl)), (List.forall_mem_cons.mpr ⟨(ip_wsX9_orderOf__wsX9_orderOf_r1 _ (List.mem_of_getElem? (i := 18) rfl)), (List.forall_mem_cons.mpr ⟨(ip_wsX9_orderOf__wsX9_orderOf_r1 _ (List.mem_of_getElem? (i := 19) rfl)), (List.forall_mem_cons.mpr ⟨(ip_wsX9_orderOf__wsX9_orderOf_r1 _ (List.mem_of_getElem? (i := 20) rfl)), (List.forall_mem_cons.mpr ⟨(ip_wsX9_orderOf__wsX9_orderOf_r1 _ (List.mem_of_getElem? (i := 21) rfl)), (List.forall_mem_cons.mpr ⟨(ip_wsX9_orderOf__wsX9_orderOf_r1 _ (List.mem_of_getElem? (i := 22) rfl)), (List.forall_mem_cons.mpr ⟨(ip_wsX9_orderOf__wsX9_orderOf_r1 _ (List.mem_of_getElem? (i := 23) rfl)), (List.forall_mem_cons.mpr ⟨(ip_wsX9_orderOf__wsX9_orderOf_r2 _ (List.mem_of_getElem? (i := 0) rfl)), (List.forall_mem_cons.mpr ⟨(ip_wsX9_orderOf__wsX9_orderOf_r2 _ (List.mem_of_getElem? (i := 1) rfl)), (fun _ h => absurd h List.not_mem_nil)⟩)⟩)⟩)⟩)⟩)⟩)⟩)⟩)⟩)⟩)⟩)⟩)⟩)⟩)⟩)⟩)⟩)⟩)⟩)⟩)⟩)⟩) (fun _ h => (List.mem_cons_of_mem _ (List.mem_append_right _ h))))⟩) (by decide +kernel)
set_option maxRecDepth 20000 in
theorem gX9_orderOf_X9_multipleOf : GoodIn wsX9_orderOf (wsV RX9 194 RX9 yX9_multipleOf wsX9_multipleOf) := goodIn_app (goodIn_of _ (by decide +kernel)) ggX9_orderOf_X9_multipleOf
set_option maxRecDepth 20000 in
theorem ggX9_orderOf_X9_addOne : GoodIn wsX9_orderOf wsX9_addOne := goodIn_sub (List.forall_mem_cons.mpr ⟨(ip_wsX9_orderOf__wsX9_orderOf_r1 _ (List.mem_of_getElem? (i := 11) rfl)), (x_ap2 (List.forall_mem_cons.mpr ⟨(ip_wsX9_orderOf__wsX9_orderOf_r1 _ (List.mem_of_getElem? (i := 0) rfl)), (List.forall_mem_cons.mpr ⟨(ip_wsX9_orderOf__wsX9_orderOf_r1 _ (List.mem_of_getElem? (i := 6) rfl)), (List.forall_mem_cons.mpr ⟨(ip_wsX9_orderOf__wsX9_orderOf_r1 _ (List.mem_of_getElem? (i := 7) rfl)), (List.forall_mem_cons.mpr ⟨(ip_wsX9_orderOf__wsX9_orderOf_r1 _ (List.mem_of_getElem? (i := 12) rfl)), (List.forall_mem_cons.mpr ⟨(ip_wsX9_orderOf__wsX9_orderOf_r1 _ (List.mem_of_getElem? (i := 13) rfl)), (List.forall_mem_cons.mpr ⟨(ip_wsX9_orderOf__wsX9_orderOf_r1 _ (List.mem_of_getElem? (i := 14) rfl)), (List.forall_mem_cons.mpr ⟨(ip_wsX9_orderOf__wsX9_orderOf_r1 _ (List.mem_of_getElem? (i := 15) rfl)), (List.forall_mem_cons.mpr ⟨(ip_wsX9_orderOf__wsX9_orderOf_r1 _ (List.mem_of_getElem? (i := 4) rfl)), (List.forall_mem_cons.mpr ⟨(ip_wsX9_orderOf__wsX9_orderOf_r1 _ (List.mem_of_getElem? (i := 16) rfl)), (List.forall_mem_cons.mpr ⟨(ip_wsX9_orderOf__wsX9_orderOf_r1 _ (List.mem_of_getElem? (i := 17) rfl)), (List.forall_mem_cons.mpr ⟨(ip_wsX9_orderOf__wsX9_orderOf_r1 _ (List.mem_of_getElem? (i := 18) rfl)), (List.forall_mem_cons.mpr ⟨(ip_wsX9_orderOf__wsX9_orderOf_r1 _ (List.mem_of_getElem? (i := 19) rfl)), (List.forall_mem_cons.mpr ⟨(ip_wsX9_orderOf__wsX9_orderOf_r1 _ (List.mem_of_getElem? (i := 20) rfl)), (List.forall_mem_cons.mpr ⟨(ip_wsX9_orderOf__wsX9_orderOf_r1 _ (List.mem_of_getElem? (i := 21) rfl)), (List.forall_mem_cons.mpr ⟨(ip_wsX9_orderOf__wsX9_orderOf_r1 _ (List.mem_of_getElem? (i := 22) rfl)), (List.forall_mem_cons.mpr ⟨(ip_wsX9_orderOf__wsX9_orderOf_r1 _ (List.mem_of_getElem? (i := 23) rfl)), (List.forall_mem_cons.mpr ⟨(ip_wsX9_orderOf__wsX9_orderOf_r2 _ (List.mem_of_getElem? (i := 0) rfl)), (List.forall_mem_cons.mpr ⟨(ip_wsX9_orderOf__wsX9_orderOf_r2 _ (List.mem_of_getElem? (i := 1) rfl)), (fun _ h => absurd h List.not_mem_nil)⟩)⟩)⟩)⟩)⟩)⟩)⟩)⟩)⟩)⟩)⟩)⟩)⟩)⟩)⟩)⟩)⟩)⟩) (fun _ h => (List.mem_cons_of_mem _ (List.mem_append_right _ h))))⟩) (by decide +kernel)
set_option maxRecDepth 20000 in
theorem gX9_orderOf_X9_addOne : GoodIn wsX9_orderOf (wsV RX9 191 RX9 yX9_addOne wsX9_addOne) := goodIn_app (goodIn_of _ (by decide +kernel)) ggX9_orderOf_X9_addOne
theorem dX9_orderOf_0 : decode cX9_orderOf 0 = .ok (.aload_n 0, 1) := by decide +kernel
theorem dX9_orderOf_1 : decode cX9_orderOf 1 = .ok (.iconst 1, 1) := by decide +kernel
theorem dX9_orderOf_2 : decode cX9_orderOf 2 = .ok (.invokevirtual 194, 3) := by decide +kernel
theorem dX9_orderOf_5 : decode cX9_orderOf 5 = .ok (.iconst 1, 1) := by decide +kernel
theorem dX9_orderOf_6 : decode cX9_orderOf 6 = .ok (.istore_n 1, 1) := by decide +kernel
theorem dX9_orderOf_7 : decode cX9_orderOf 7 = .ok (.aload_n 0, 1) := by decide +kernel
theorem dX9_orderOf_8 : decode cX9_orderOf 8 = .ok (.getfield 182, 3) := by decide +kernel
theorem dX9_orderOf_11 : decode cX9_orderOf 11 = .ok (.ifCond .ne 13, 3) := by decide +kernel
theorem dX9_orderOf_14 : decode cX9_orderOf 14 = .ok (.aload_n 0, 1) := by decide +kernel
theorem dX9_orderOf_15 : decode cX9_orderOf 15 = .ok (.invokevirtual 191, 3) := by decide +kernel
theorem dX9_orderOf_18 : decode cX9_orderOf 18 = .ok (.iinc 1 1, 3) := by decide +kernel
theorem dX9_orderOf_21 : decode cX9_orderOf 21 = .ok (.goto (-14), 3) := by decide +kernel
theorem dX9_orderOf_24 : decode cX9_orderOf 24 = .ok (.iload_n 1, 1) := by decide +kernel
theorem dX9_orderOf_25 : decode cX9_orderOf 25 = .ok (.ireturn, 1) := by decide +kernel
theorem ip_wsX9_order__wsX9_order_r1 : ∀ w ∈ wsX9_order_r1, w ∈ wsX9_order := fun _ h => (List.mem_cons_of_mem _ (List.mem_append_left _ (List.mem_append_left _ h)))
theorem ip_wsX9_order__wsX9_order_r2 : ∀ w ∈ wsX9_order_r2, w ∈ wsX9_order := fun _ h => (List.mem_cons_of_mem _ (List.mem_append_left _ (List.mem_append_right _ (List.mem_append_left _ h))))
theorem ip_wsX9_order__wsX9_order_r3 : ∀ w ∈ wsX9_order_r3, w ∈ wsX9_order := fun _ h => (List.mem_cons_of_mem _ (List.mem_append_left _ (List.mem_append_right _ (List.mem_append_right _ (List.mem_append_left _ h)))))
theorem ip_wsX9_order__wsX9_order_r4 : ∀ w ∈ wsX9_order_r4, w ∈ wsX9_order := fun _ h => (List.mem_cons_of_mem _ (List.mem_append_left _ (List.mem_append_right _ (List.mem_append_right _ (List.mem_append_right _ (List.mem_append_left _ h))))))
theorem ip_wsX9_order__wsX9_order_r5 : ∀ w ∈ wsX9_order_r5, w ∈ wsX9_order := fun _ h => (List.mem_cons_of_mem _ (List.mem_append_left _ (List.mem_append_right _ (List.mem_append_right _ (List.mem_append_right _ (List.mem_append_right _ h))))))
set_option maxRecDepth 20000 in
theorem ggX9_order_X9_isGood : GoodIn wsX9_order wsX9_isGood := goodIn_sub (List.forall_mem_cons.mpr ⟨(ip_wsX9_order__wsX9_order_r1 _ (List.mem_of_getElem? (i := 4) rfl)), (x_ap2 (x_ap2 (show ∀ w ∈ wsX9_isGood_r1, w ∈ wsX9_order from (List.forall_mem_cons.mpr ⟨(ip_wsX9_order__wsX9_order_r1 _ (List.mem_of_getElem? (i := 5) rfl)), (List.forall_mem_cons.mpr ⟨(ip_wsX9_order__wsX9_order_r1 _ (List.mem_of_getElem? (i := 6) rfl)), (List.forall_mem_cons.mpr ⟨(ip_wsX9_order__wsX9_order_r1 _ (List.mem_of_getElem? (i := 7) rfl)), (List.forall_mem_cons.mpr ⟨(ip_wsX9_order__wsX9_order_r1 _ (List.mem_of_getElem? (i := 8) rfl)), (List.forall_mem_cons.mpr ⟨(ip_wsX9_order__wsX9_order_r1 _ (List.mem_of_getElem? (i := 3) rfl)), (List.forall_mem_cons.mpr ⟨(ip_wsX9_order__wsX9_order_r1 _ (List.mem_of_getElem? (i := 9) rfl)), (List.forall_mem_cons.mpr ⟨(ip_wsX9_order__wsX9_order_r1 _ (List.mem_of_getElem? (i := 10) rfl)), (List.forall_mem_cons.mpr ⟨(ip_wsX9_order__wsX9_order_r1 _ (List.mem_of_getElem? (i := 11) rfl)), (List.forall_mem_cons.mpr ⟨(ip_wsX9_order__wsX9_order_r1 _ (List.mem_of_getElem? (i := 12) rfl)), (List.forall_mem_cons.mpr ⟨(ip_wsX9_order__wsX9_order_r1 _ (List.mem_of_getElem? (i := 13) rfl)), (List.forall_mem_cons.mpr ⟨(ip_wsX9_order__wsX9_order_r1 _ (List.mem_of_getElem? (i := 14) rfl)), (List.forall_mem_cons.mpr ⟨(ip_wsX9_order__wsX9_order_r1 _ (List.mem_of_getElem? (i := 15) rfl)), (List.forall_mem_cons.mpr ⟨(ip_wsX9_order__wsX9_order_r1 _ (List.mem_of_getElem? (i := 16) rfl)), (List.forall_mem_cons.mpr ⟨(ip_wsX9_order__wsX9_order_r1 _ (List.mem_of_getElem? (i := 17) rfl)), (List.forall_mem_cons.mpr ⟨(ip_wsX9_order__wsX9_order_r1 _ (List.mem_of_getElem? (i := 18) rfl)), (List.forall_mem_cons.mpr ⟨(ip_wsX9_order__wsX9_order_r1 _ (List.mem_of_getElem? (i := 19) rfl)), (List.forall_mem_cons.mpr ⟨(ip_wsX9_order__wsX9_order_r1 _ (List.mem_of_getElem? (i := 20) rfl)), (List.forall_mem_cons.mpr ⟨(ip_wsX9_order__wsX9_order_r1 _ (List.mem_of_getElem? (i := 21) rfl)), (List.forall_mem_cons.mpr ⟨(ip_wsX9_order__wsX9_order_r1 _ (List.mem_of_getElem? (i := 22) rfl)), (List.forall_mem_cons.mpr ⟨(ip_wsX9_order__wsX9_order_r1 _ (List.mem_of_getElem? (i := 23) rfl)), (List.forall_mem_cons.mpr ⟨(ip_wsX9_order__wsX9_order_r2 _ (List.mem_of_getElem? (i := 0) rfl)), (List.forall_mem_cons.mpr ⟨(ip_wsX9_order__wsX9_order_r2 _ (List.mem_of_getElem? (i := 1) rfl)), (List.forall_mem_cons.mpr ⟨(ip_wsX9_order__wsX9_order_r2 _ (List.mem_of_getElem? (i := 2) rfl)), (List.forall_mem_cons.mpr ⟨(ip_wsX9_order__wsX9_order_r2 _ (List.mem_of_getElem? (i := 3) rfl)), (fun _ h => absurd h List.not_mem_nil)⟩)⟩)⟩)⟩)⟩)⟩)⟩)⟩)⟩)⟩)⟩)⟩)⟩)⟩)⟩)⟩)⟩)⟩)⟩)⟩)⟩)⟩)⟩)⟩)) (x_ap2 (show ∀ w ∈ wsX9_isGood_r2, w ∈ wsX9_order from (List.forall_mem_cons.mpr ⟨(ip_wsX9_order__wsX9_order_r2 _ (List.mem_of_getElem? (i := 4) rfl)), (List.forall_mem_cons.mpr ⟨(ip_wsX9_order__wsX9_order_r2 _ (List.mem_of_getElem? (i := 5) rfl)), (List.forall_mem_cons.mpr ⟨(ip_wsX9_order__wsX9_order_r2 _ (List.mem_of_getElem? (i := 6) rfl)), (List.forall_mem_cons.mpr ⟨(ip_wsX9_order__wsX9_order_r2 _ (List.mem_of_getElem? (i := 7) rfl)), (List.forall_mem_cons.mpr ⟨(ip_wsX9_order__wsX9_order_r2 _ (List.mem_of_getElem? (i := 8) rfl)), (List.forall_mem_cons.mpr ⟨(ip_wsX9_order__wsX9_order_r2 _ (List.mem_of_getElem? (i := 9) rfl)), (List.forall_mem_cons.mpr ⟨(ip_wsX9_order__wsX9_order_r2 _ (List.mem_of_getElem? (i := 10) rfl)), (List.forall_mem_cons.mpr ⟨(ip_wsX9_order__wsX9_order_r2 _ (List.mem_of_getElem? (i := 11) rfl)), (List.forall_mem_cons.mpr ⟨(ip_wsX9_order__wsX9_order_r2 _ (List.mem_of_getElem? (i := 12) rfl)), (List.forall_mem_cons.mpr ⟨(ip_wsX9_order__wsX9_order_r2 _ (List.mem_of_getElem? (i := 13) rfl)), (List.forall_mem_cons.mpr ⟨(ip_wsX9_order__wsX9_order_r2 _ (List.mem_of_getElem? (i := 14) rfl)), (List.forall_mem_cons.mpr ⟨(ip_wsX9_order__wsX9_order_r2 _ (List.mem_of_getElem? (i := 15) rfl)), (List.forall_mem_cons.mpr ⟨(ip_wsX9_order__wsX9_order_r2 _ (List.mem_of_getElem? (i := 16) rfl)), (List.forall_mem_cons.mpr ⟨(ip_wsX9_order__wsX9_order_r2 _ (List.mem_of_getElem? (i := 17) rfl)), (List.forall_mem_cons.mpr ⟨(ip_wsX9_order__wsX9_order_r2 _ (List.mem_of_getElem? (i := 18) rfl)), (List.forall_mem_cons.mpr ⟨(ip_wsX9_order__wsX9_order_r2 _ (List.mem_of_getElem? (i := 19) rfl)), (List.forall_mem_cons.mpr ⟨(ip_wsX9_order__wsX9_order_r2 _ (List.mem_of_getElem? (i := 20) rfl)), (List.forall_mem_cons.mpr ⟨(ip_wsX9_order__wsX9_order_r2 _ (List.mem_of_getElem? (i := 21) rfl)), (List.forall_mem_cons.mpr ⟨(ip_wsX9_order__wsX9_order_r2 _ (List.mem_of_getElem? (i := 22) rfl)), (List.forall_mem_cons.mpr ⟨(ip_wsX9_order__wsX9_order_r2 _ (List.mem_of_getElem? (i := 23) rfl)), (List.forall_mem_cons.mpr ⟨(ip_wsX9_order__wsX9_order_r3 _ (List.mem_of_getElem? (i := 0) rfl)), (List.forall_mem_cons.mpr ⟨(ip_wsX9_order__wsX9_order_r3 _ (List.mem_of_getElem? (i := 1) rfl)), (List.forall_mem_cons.mpr ⟨(ip_wsX9_order__wsX9_order_r3 _ (List.mem_of_getElem? (i := 2) rfl)), (List.forall_mem_cons.mpr ⟨(ip_wsX9_order__wsX9_order_r3 _ (List.mem_of_getElem? (i := 3) rfl)), (fun _ h => absurd h List.not_mem_nil)⟩)⟩)⟩)⟩)⟩)⟩)⟩)⟩)⟩)⟩)⟩)⟩)⟩)⟩)⟩)⟩)⟩)⟩)⟩)⟩)⟩)⟩)⟩)⟩)) (x_ap2 (show ∀ w ∈ wsX9_isGood_r3, w ∈ wsX9_order from (List.forall_mem_cons.mpr ⟨(ip_wsX9_order__wsX9_order_r3 _ (List.mem_of_getElem? (i := 4) rfl)), (List.forall_mem_cons.mpr ⟨(ip_wsX9_order__wsX9_order_r3 _ (List.mem_of_getElem? (i := 5) rfl)), (List.forall_mem_cons.mpr ⟨(ip_wsX9_order__wsX9_order_r3 _ (List.mem_of_getElem? (i := 6) rfl)), (List.forall_mem_cons.mpr ⟨(ip_wsX9_order__wsX9_order_r3 _ (List.mem_of_getElem? (i := 7) rfl)), (List.forall_mem_cons.mpr ⟨(ip_wsX9_order__wsX9_order_r3 _ (List.mem_of_getElem? (i := 8) rfl)), (List.forall_mem_cons.mpr ⟨(ip_wsX9_order__wsX9_order_r3 _ (List.mem_of_getElem? (i := 9) rfl)), (List.forall_mem_cons.mpr ⟨(ip_wsX9_order__wsX9_order_r3 _ (List.mem_of_getElem? (i := 10) rfl)), (List.forall_mem_cons.mpr ⟨(ip_wsX9_order__wsX9_order_r3 _ (List.mem_of_getElem? (i := 11) rfl)), (List.forall_mem_cons.mpr ⟨(ip_wsX9_order__wsX9_order_r3 _ (List.mem_of_getElem? (i := 12) rfl)), (List.forall_mem_cons.mpr ⟨(ip_wsX9_order__wsX9_order_r3 _ (List.mem_of_getElem? (i := 13) rfl)), (List.forall_mem_cons.mpr ⟨(ip_wsX9_order__wsX9_order_r3 _ (List.mem_of_getElem? (i := 14) rfl)), (List.forall_mem_cons.mpr ⟨(ip_wsX9_order__wsX9_order_r3 _ (List.mem_of_getElem? (i := 15) rfl)), (List.forall_mem_cons.mpr ⟨(ip_wsX9_order__wsX9_order_r3 _ (List.mem_of_getElem? (i := 16) rfl)), (List.forall_mem_cons.mpr ⟨(ip_wsX9_order__wsX9_order_r3 _ (List.mem_of_getElem? (i := 17) rfl)), (List.forall_mem_cons.mpr ⟨(ip_wsX9_order__wsX9_order_r3 _ (List.mem_of_getElem? (i := 18) rfl)), (List.forall_mem_cons.mpr ⟨(ip_wsX9_order__wsX9_order_r3 _ (List.mem_of_getElem? (i := 19) rfl)), (List.forall_mem_cons.mpr ⟨(ip_wsX9_order__wsX9_order_r3 _ (List.mem_of_getElem? (i := 20) rfl)), (List.forall_mem_cons.mpr ⟨(ip_wsX9_order__wsX9_order_r3 _ (List.mem_of_getElem? (i := 21) rfl)), (List.forall_mem_cons.mpr ⟨(ip_wsX9_order__wsX9_order_r3 _ (List.mem_of_getElem? (i := 22) rfl)), (List.forall_mem_cons.mpr ⟨(ip_wsX9_order__wsX9_order_r3 _ (List.mem_of_getElem? (i := 23) rfl)), (List.forall_mem_cons.mpr ⟨(ip_wsX9_order__wsX9_order_r4 _ (List.mem_of_getElem? (i := 0) rfl)), (List.forall_mem_cons.mpr ⟨(ip_wsX9_order__wsX9_order_r4 _ (List.mem_of_getElem? (i := 1) rfl)), (List.forall_mem_cons.mpr ⟨(ip_wsX9_order__wsX9_order_r4 _ (List.mem_of_getElem? (i := 2) rfl)), (List.forall_mem_cons.mpr ⟨(ip_wsX9_order__wsX9_order_r4 _ (List.mem_of_getElem? (i := 3) rfl)), (fun _ h => absurd h List.not_mem_nil)⟩)⟩)⟩)⟩)⟩)⟩)⟩)⟩)⟩)⟩)⟩)⟩)⟩)⟩)⟩)⟩)⟩)⟩)⟩)⟩)⟩)⟩)⟩)⟩)) (show ∀ w ∈ wsX9_isGood_r4, w ∈ wsX9_order from (List.forall_mem_cons.mpr ⟨(ip_wsX9_order__wsX9_order_r4 _ (List.mem_of_getElem? (i := 4) rfl)), (List.forall_mem_cons.mpr ⟨(ip_wsX9_order__wsX9_order_r4 _ (List.mem_of_getElem? (i := 5) rfl)), (List.forall_mem_cons.mpr ⟨(ip_wsX9_order__wsX9_order_r4 _ (List.mem_of_getElem? (i := 6) rfl)), (List.forall_mem_cons.mpr ⟨(ip_wsX9_order__wsX9_order_r4 _ (List.mem_of_getElem? (i := 7) rfl)), (List.forall_mem_cons.mpr ⟨(ip_wsX9_order__wsX9_order_r4 _ (List.mem_of_getElem? (i := 8) rfl)), (List.forall_mem_cons.mpr ⟨(ip_wsX9_order__wsX9_order_r4 _ (List.mem_of_getElem? (i := 9) rfl)), (List.forall_mem_cons.mpr ⟨(ip_wsX9_order__wsX9_order_r4 _ (List.mem_of_getElem? (i := 10) rfl)), (List.forall_mem_cons.mpr ⟨(ip_wsX9_order__wsX9_order_r4 _ (List.mem_of_getElem? (i := 11) rfl)), (List.forall_mem_cons.mpr ⟨(ip_wsX9_order__wsX9_order_r4 _ (List.mem_of_getElem? (i := 12) rfl)), (List.forall_mem_cons.mpr ⟨(ip_wsX9_order__wsX9_order_r4 _ (List.mem_of_getElem? (i := 13) rfl)), (List.forall_mem_cons.mpr ⟨(ip_wsX9_order__wsX9_order_r4 _ (List.mem_of_getElem? (i := 14) rfl)), (List.forall_mem_cons.mpr ⟨(ip_wsX9_order__wsX9_order_r4 _ (List.mem_of_getElem? (i := 15) rfl)), (List.forall_mem_cons.mpr ⟨(ip_wsX9_order__wsX9_order_r4 _ (List.mem_of_getElem? (i := 16) rfl)), (List.forall_mem_cons.mpr ⟨(ip_wsX9_order__wsX9_order_r4 _ (List.mem_of_getElem? (i := 17) rfl)), (List.forall_mem_cons.mpr ⟨(ip_wsX9_order__wsX9_order_r4 _ (List.mem_of_getElem? (i := 18) rfl)), (List.forall_mem_cons.mpr ⟨(ip_wsX9_order__wsX9_order_r4 _ (List.mem_of_getElem? (i := 19) rfl)), (List.forall_mem_cons.mpr ⟨(ip_wsX9_order__wsX9_order_r4 _ (List.mem_of_getElem? (i := 20) rfl)), (List.forall_mem_cons.mpr ⟨(ip_wsX9_order__wsX9_order_r4 _ (List.mem_of_getElem? (i := 21) rfl)), (fun _ h => absurd h List.not_mem_nil)⟩)⟩)⟩)⟩)⟩)⟩)⟩)⟩)⟩)⟩)⟩)⟩)⟩)⟩)⟩)⟩)⟩)⟩))))) (fun _ h => (List.mem_cons_of_mem _ (List.mem_append_right _ h))))⟩) (by decide +kernel)
set_option maxRecDepth 20000 in
theorem gX9_order_X9_isGood : GoodIn wsX9_order (wsV RX9 109 RX9 yX9_isGood wsX9_isGood) := goodIn_app (goodIn_of _ (by decide +kernel)) ggX9_order_X9_isGood
set_option maxRecDepth 20000 in
theorem ggX9_order_X9_orderOf : GoodIn wsX9_order wsX9_orderOf := goodIn_sub (List.forall_mem_cons.mpr ⟨(ip_wsX9_order__wsX9_order_r5 _ (List.mem_of_getElem? (i := 1) rfl)), (x_ap2 (x_ap2 (show ∀ w ∈ wsX9_orderOf_r1, w ∈ wsX9_order from (List.forall_mem_cons.mpr ⟨(ip_wsX9_order__wsX9_order_r5 _ (List.mem_of_getElem? (i := 2) rfl)), (List.forall_mem_cons.mpr ⟨(ip_wsX9_order__wsX9_order_r5 _ (List.mem_of_getElem? (i := 3) rfl)), (List.forall_mem_cons.mpr ⟨(ip_wsX9_order__wsX9_order_r5 _ (List.mem_of_getElem? (i := 4) rfl)), (List.forall_mem_cons.mpr ⟨(ip_wsX9_order__wsX9_order_r5 _ (List.mem_of_getElem? (i := 5) rfl)), (List.forall_mem_cons.mpr ⟨(ip_wsX9_order__wsX9_order_r1 _ (List.mem_of_getElem? (i := 3) rfl)), (List.forall_mem_cons.mpr ⟨(ip_wsX9_order__wsX9_order_r5 _ (List.mem_of_getElem? (i := 6) rfl)), (List.forall_mem_cons.mpr ⟨(ip_wsX9_order__wsX9_order_r5 _ (List.mem_of_getElem? (i := 7) rfl)), (List.forall_mem_cons.mpr ⟨(ip_wsX9_order__wsX9_order_r5 _ (List.mem_of_getElem? (i := 8) rfl)), (List.forall_mem_cons.mpr ⟨(ip_wsX9_order__wsX9_order_r5 _ (List.mem_of_getElem? (i := 9) rfl)), (List.forall_mem_cons.mpr ⟨(ip_wsX9_order__wsX9_order_r5 _ (List.mem_of_getElem? (i := 10) rfl)), (List.forall_mem_cons.mpr ⟨(ip_wsX9_order__wsX9_order_r5 _ (List.mem_of_getElem? (i := 11) rfl)), (List.forall_mem_cons.mpr ⟨(ip_wsX9_order__wsX9_order_r5 _ (List.mem_of_getElem? (i := 12) rfl)), (List.forall_mem_cons.mpr ⟨(ip_wsX9_order__wsX9_order_r1 _ (List.mem_of_getElem? (i := 11) rfl)), (List.forall_mem_cons.mpr ⟨(ip_wsX9_order__wsX9_order_r2 _ (List.mem_of_getElem? (i := 9) rfl)), (List.forall_mem_cons.mpr ⟨(ip_wsX9_order__wsX9_order_r2 _ (List.mem_of_getElem? (i := 10) rfl)), (List.forall_mem_cons.mpr ⟨(ip_wsX9_order__wsX9_order_r2 _ (List.mem_of_getElem? (i := 11) rfl)), (List.forall_mem_cons.mpr ⟨(ip_wsX9_order__wsX9_order_r2 _ (List.mem_of_getElem? (i := 12) rfl)), (List.forall_mem_cons.mpr ⟨(ip_wsX9_order__wsX9_order_r1 _ (List.mem_of_getElem? (i := 19) rfl)), (List.forall_mem_cons.mpr ⟨(ip_wsX9_order__wsX9_order_r2 _ (List.mem_of_getElem? (i := 13) rfl)), (List.forall_mem_cons.mpr ⟨(ip_wsX9_order__wsX9_order_r2 _ (List.mem_of_getElem? (i := 14) rfl)), (List.forall_mem_cons.mpr ⟨(ip_wsX9_order__wsX9_order_r2 _ (List.mem_of_getElem? (i := 15) rfl)), (List.forall_mem_cons.mpr ⟨(ip_wsX9_order__wsX9_order_r2 _ (List.mem_of_getElem? (i := 16) rfl)), (List.forall_mem_cons.mpr ⟨(ip_wsX9_order__wsX9_order_r2 _ (List.mem_of_getElem? (i := 1) rfl)), (List.forall_mem_cons.mpr ⟨(ip_wsX9_order__wsX9_order_r2 _ (List.mem_of_getElem? (i := 2) rfl)), (fun _ h => absurd h List.not_mem_nil)⟩)⟩)⟩)⟩)⟩)⟩)⟩)⟩)⟩)⟩)⟩)⟩)⟩)⟩)⟩)⟩)⟩)⟩)⟩)⟩)⟩)⟩)⟩)⟩)) (show ∀ w ∈ wsX9_orderOf_r2, w ∈ wsX9_order from (List.forall_mem_cons.mpr ⟨(ip_wsX9_order__wsX9_order_r2 _ (List.mem_of_getElem? (i := 3) rfl)), (List.forall_mem_cons.mpr ⟨(ip_wsX9_order__wsX9_order_r2 _ (List.mem_of_getElem? (i := 4) rfl)), (fun _ h => absurd h List.not_mem_nil)⟩)⟩))) (fun _ h => (List.mem_cons_of_mem _ (List.mem_append_right _ h))))⟩) (by decide +kernel)
set_option maxRecDepth 20000 in
theorem gX9_order_X9_orderOf : GoodIn wsX9_order (wsV RX9 198 RX9 yX9_orderOf wsX9_orderOf) := goodIn_app (goodIn_of _ (by decide +kernel)) ggX9_order_X9_orderOf
theorem dX9_order_0 : decode cX9_order 0 = .ok (.aload_n 0, 1) := by decide +kernel
theorem dX9_order_1 : decode cX9_order 1 = .ok (.invokevirtual 109, 3) := by decide +kernel
theorem dX9_order_4 : decode cX9_order 4 = .ok (.ifCond .eq 10, 3) := by decide +kernel
theorem dX9_order_7 : decode cX9_order 7 = .ok (.aload_n 0, 1) := by decide +kernel
theorem dX9_order_8 : decode cX9_order 8 = .ok (.invokevirtual 198, 3) := by decide +kernel
theorem dX9_order_11 : decode cX9_order 11 = .ok (.goto 5, 3) := by decide +kernel
theorem dX9_order_14 : decode cX9_order 14 = .ok (.bipush (-5), 2) := by decide +kernel
theorem dX9_order_16 : decode cX9_order 16 = .ok (.ireturn, 1) := by decide +kernel
theorem ip_wsX9_curve__wsX9_curve_r1 : ∀ w ∈ wsX9_curve_r1, w ∈ wsX9_curve := fun _ h => (List.mem_cons_of_mem _ (List.mem_append_left _ (List.mem_append_left _ h)))
theorem ip_wsX9_curve__wsX9_curve_r2 : ∀ w ∈ wsX9_curve_r2, w ∈ wsX9_curve := fun _ h => (List.mem_cons_of_mem _ (List.mem_append_left _ (List.mem_append_right _ (List.mem_append_left _ h))))
theorem ip_wsX9_curve__wsX9_curve_r3 : ∀ w ∈ wsX9_curve_r3, w ∈ wsX9_curve := fun _ h => (List.mem_cons_of_mem _ (List.mem_append_left _ (List.mem_append_right _ (List.mem_append_right _ (List.mem_append_left _ h)))))
theorem ip_wsX9_curve__wsX9_curve_r4 : ∀ w ∈ wsX9_curve_r4, w ∈ wsX9_curve := fun _ h => (List.mem_cons_of_mem _ (List.mem_append_left _ (List.mem_append_right _ (List.mem_append_right _ (List.mem_append_right _ (List.mem_append_left _ h))))))
theorem ip_wsX9_curve__wsX9_curve_r5 : ∀ w ∈ wsX9_curve_r5, w ∈ wsX9_curve := fun _ h => (List.mem_cons_of_mem _ (List.mem_append_left _ (List.mem_append_right _ (List.mem_append_right _ (List.mem_append_right _ (List.mem_append_right _ h))))))
set_option maxRecDepth 20000 in
theorem ggX9_curve_X9_isGood : GoodIn wsX9_curve wsX9_isGood := goodIn_sub (List.forall_mem_cons.mpr ⟨(ip_wsX9_curve__wsX9_curve_r1 _ (List.mem_of_getElem? (i := 5) rfl)), (x_ap2 (x_ap2 (show ∀ w ∈ wsX9_isGood_r1, w ∈ wsX9_curve from (List.forall_mem_cons.mpr ⟨(ip_wsX9_curve__wsX9_curve_r1 _ (List.mem_of_getElem? (i := 6) rfl)), (List.forall_mem_cons.mpr ⟨(ip_wsX9_curve__wsX9_curve_r1 _ (List.mem_of_getElem? (i := 7) rfl)), (List.forall_mem_cons.mpr ⟨(ip_wsX9_curve__wsX9_curve_r1 _ (List.mem_of_getElem? (i := 8) rfl)), (List.forall_mem_cons.mpr ⟨(ip_wsX9_curve__wsX9_curve_r1 _ (List.mem_of_getElem? (i := 9) rfl)), (List.forall_mem_cons.mpr ⟨(ip_wsX9_curve__wsX9_curve_r1 _ (List.mem_of_getElem? (i := 4) rfl)), (List.forall_mem_cons.mpr ⟨(ip_wsX9_curve__wsX9_curve_r1 _ (List.mem_of_getElem? (i := 10) rfl)), (List.forall_mem_cons.mpr ⟨(ip_wsX9_curve__wsX9_curve_r1 _ (List.mem_of_getElem? (i := 11) rfl)), (List.forall_mem_cons.mpr ⟨(ip_wsX9_curve__wsX9_curve_r1 _ (List.mem_of_getElem? (i := 12) rfl)), (List.forall_mem_cons.mpr ⟨(ip_wsX9_curve__wsX9_curve_r1 _ (List.mem_of_getElem? (i := 13) rfl)), (List.forall_mem_cons.mpr ⟨(ip_wsX9_curve__wsX9_curve_r1 _ (List.mem_of_getElem? (i := 14) rfl)), (List.forall_mem_cons.mpr ⟨(ip_wsX9_curve__wsX9_curve_r1 _ (List.mem_of_getElem? (i := 15) rfl)), (List.forall_mem_cons.mpr ⟨(ip_wsX9_curve__wsX9_curve_r1 _ (List.mem_of_getElem? (i := 16) rfl)), (List.forall_mem_cons.mpr ⟨(ip_wsX9_curve__wsX9_curve_r1 _ (List.mem_of_getElem? (i := 17) rfl)), (List.forall_mem_cons.mpr ⟨(ip_wsX9_curve__wsX9_curve_r1 _ (List.mem_of_getElem? (i := 18) rfl)), (List.forall_mem_cons.mpr ⟨(ip_wsX9_curve__wsX9_curve_r1 _ (List.mem_of_getElem? (i := 19) rfl)), (List.forall_mem_cons.mpr ⟨(ip_wsX9_curve__wsX9_curve_r1 _ (List.mem_of_getElem? (i := 0) rfl)), (List.forall_mem_cons.mpr ⟨(ip_wsX9_curve__wsX9_curve_r1 _ (List.mem_of_getElem? (i := 20) rfl)), (List.forall_mem_cons.mpr ⟨(ip_wsX9_curve__wsX9_curve_r1 _ (List.mem_of_getElem? (i := 21) rfl)), (List.forall_mem_cons.mpr ⟨(ip_wsX9_curve__wsX9_curve_r1 _ (List.mem_of_getElem? (i := 22) rfl)), (List.forall_mem_cons.mpr ⟨(ip_wsX9_curve__wsX9_curve_r1 _ (List.mem_of_getElem? (i := 23) rfl)), (List.forall_mem_cons.mpr ⟨(ip_wsX9_curve__wsX9_curve_r2 _ (List.mem_of_getElem? (i := 0) rfl)), (List.forall_mem_cons.mpr ⟨(ip_wsX9_curve__wsX9_curve_r2 _ (List.mem_of_getElem? (i := 1) rfl)), (List.forall_mem_cons.mpr ⟨(ip_wsX9_curve__wsX9_curve_r2 _ (List.mem_of_getElem? (i := 2) rfl)), (List.forall_mem_cons.mpr ⟨(ip_wsX9_curve__wsX9_curve_r2 _ (List.mem_of_getElem? (i := 3) rfl)), (fun _ h => absurd h List.not_mem_nil)⟩)⟩)⟩)⟩)⟩)⟩)⟩)⟩)⟩)⟩)⟩)⟩)⟩)⟩)⟩)⟩)⟩)⟩)⟩)⟩)⟩)⟩)⟩)⟩)) (x_ap2 (show ∀ w ∈ wsX9_isGood_r2, w ∈ wsX9_curve from (List.forall_mem_cons.mpr ⟨(ip_wsX9_curve__wsX9_curve_r2 _ (List.mem_of_getElem? (i := 4) rfl)), (List.forall_mem_cons.mpr ⟨(ip_wsX9_curve__wsX9_curve_r2 _ (List.mem_of_getElem? (i := 5) rfl)), (List.forall_mem_cons.mpr ⟨(ip_wsX9_curve__wsX9_curve_r2 _ (List.mem_of_getElem? (i := 6) rfl)), (List.forall_mem_cons.mpr ⟨(ip_wsX9_curve__wsX9_curve_r2 _ (List.mem_of_getElem? (i := 7) rfl)), (List.forall_mem_cons.mpr ⟨(ip_wsX9_curve__wsX9_curve_r2 _ (List.mem_of_getElem? (i := 8) rfl)), (List.forall_mem_cons.mpr ⟨(ip_wsX9_curve__wsX9_curve_r2 _ (List.mem_of_getElem? (i := 9) rfl)), (List.forall_mem_cons.mpr ⟨(ip_wsX9_curve__wsX9_curve_r2 _ (List.mem_of_getElem? (i := 10) rfl)), (List.forall_mem_cons.mpr ⟨(ip_wsX9_curve__wsX9_curve_r2 _ (List.mem_of_getElem? (i := 11) rfl)), (List.forall_mem_cons.mpr ⟨(ip_wsX9_curve__wsX9_curve_r2 _ (List.mem_of_getElem? (i := 12) rfl)), (List.forall_mem_cons.mpr ⟨(ip_wsX9_curve__wsX9_curve_r2 _ (List.mem_of_getElem? (i := 13) rfl)), (List.forall_mem_cons.mpr ⟨(ip_wsX9_curve__wsX9_curve_r2 _ (List.mem_of_getElem? (i := 14) rfl)), (List.forall_mem_cons.mpr ⟨(ip_wsX9_curve__wsX9_curve_r2 _ (List.mem_of_getElem? (i := 15) rfl)), (List.forall_mem_cons.mpr ⟨(ip_wsX9_curve__wsX9_curve_r2 _ (List.mem_of_getElem? (i := 16) rfl)), (List.forall_mem_cons.mpr ⟨(ip_wsX9_curve__wsX9_curve_r2 _ (List.mem_of_getElem? (i := 17) rfl)), (List.forall_mem_cons.mpr ⟨(ip_wsX9_curve__wsX9_curve_r2 _ (List.mem_of_getElem? (i := 18) rfl)), (List.forall_mem_cons.mpr ⟨(ip_wsX9_curve__wsX9_curve_r2 _ (List.mem_of_getElem? (i := 19) rfl)), (List.forall_mem_cons.mpr ⟨(ip_wsX9_curve__wsX9_curve_r2 _ (List.mem_of_getElem? (i := 20) rfl)), (List.forall_mem_cons.mpr ⟨(ip_wsX9_curve__wsX9_curve_r2 _ (List.mem_of_getElem? (i := 21) rfl)), (List.forall_mem_cons.mpr ⟨(ip_wsX9_curve__wsX9_curve_r2 _ (List.mem_of_getElem? (i := 22) rfl)), (List.forall_mem_cons.mpr ⟨(ip_wsX9_curve__wsX9_curve_r2 _ (List.mem_of_getElem? (i := 23) rfl)), (List.forall_mem_cons.mpr ⟨(ip_wsX9_curve__wsX9_curve_r3 _ (List.mem_of_getElem? (i := 0) rfl)), (List.forall_mem_cons.mpr ⟨(ip_wsX9_curve__wsX9_curve_r3 _ (List.mem_of_getElem? (i := 1) rfl)), (List.forall_mem_cons.mpr ⟨(ip_wsX9_curve__wsX9_curve_r3 _ (List.mem_of_getElem? (i := 2) rfl)), (List.forall_mem_cons.mpr ⟨(ip_wsX9_curve__wsX9_curve_r3 _ (List.mem_of_getElem? (i := 3) rfl)), (fun _ h => absurd h List.not_mem_nil)⟩)⟩)⟩)⟩)⟩)⟩)⟩)⟩)⟩)⟩)⟩)⟩)⟩)⟩)⟩)⟩)⟩)⟩)⟩)⟩)⟩)⟩)⟩)⟩)) (x_ap2 (show ∀ w ∈ wsX9_isGood_r3, w ∈ wsX9_curve from (List.forall_mem_cons.mpr ⟨(ip_wsX9_curve__wsX9_curve_r3 _ (List.mem_of_getElem? (i := 4) rfl)), (List.forall_mem_cons.mpr ⟨(ip_wsX9_curve__wsX9_curve_r3 _ (List.mem_of_getElem? (i := 5) rfl)), (List.forall_mem_cons.mpr ⟨(ip_wsX9_curve__wsX9_curve_r3 _ (List.mem_of_getElem? (i := 6) rfl)), (List.forall_mem_cons.mpr ⟨(ip_wsX9_curve__wsX9_curve_r3 _ (List.mem_of_getElem? (i := 7) rfl)), (List.forall_mem_cons.mpr ⟨(ip_wsX9_curve__wsX9_curve_r3 _ (List.mem_of_getElem? (i := 8) rfl)), (List.forall_mem_cons.mpr ⟨(ip_wsX9_curve__wsX9_curve_r3 _ (List.mem_of_getElem? (i := 9) rfl)), (List.forall_mem_cons.mpr ⟨(ip_wsX9_curve__wsX9_curve_r3 _ (List.mem_of_getElem? (i := 10) rfl)), (List.forall_mem_cons.mpr ⟨(ip_wsX9_curve__wsX9_curve_r3 _ (List.mem_of_getElem? (i := 11) rfl)), (List.forall_mem_cons.mpr ⟨(ip_wsX9_curve__wsX9_curve_r3 _ (List.mem_of_getElem? (i := 12) rfl)), (List.forall_mem_cons.mpr ⟨(ip_wsX9_curve__wsX9_curve_r3 _ (List.mem_of_getElem? (i := 13) rfl)), (List.forall_mem_cons.mpr ⟨(ip_wsX9_curve__wsX9_curve_r3 _ (List.mem_of_getElem? (i := 14) rfl)), (List.forall_mem_cons.mpr ⟨(ip_wsX9_curve__wsX9_curve_r3 _ (List.mem_of_getElem? (i := 15) rfl)), (List.forall_mem_cons.mpr ⟨(ip_wsX9_curve__wsX9_curve_r3 _ (List.mem_of_getElem? (i := 16) rfl)), (List.forall_mem_cons.mpr ⟨(ip_wsX9_curve__wsX9_curve_r3 _ (List.mem_of_getElem? (i := 17) rfl)), (List.forall_mem_cons.mpr ⟨(ip_wsX9_curve__wsX9_curve_r3 _ (List.mem_of_getElem? (i := 18) rfl)), (List.forall_mem_cons.mpr ⟨(ip_wsX9_curve__wsX9_curve_r3 _ (List.mem_of_getElem? (i := 19) rfl)), (List.forall_mem_cons.mpr ⟨(ip_wsX9_curve__wsX9_curve_r3 _ (List.mem_of_getElem? (i := 20) rfl)), (List.forall_mem_cons.mpr ⟨(ip_wsX9_curve__wsX9_curve_r3 _ (List.mem_of_getElem? (i := 21) rfl)), (List.forall_mem_cons.mpr ⟨(ip_wsX9_curve__wsX9_curve_r3 _ (List.mem_of_getElem? (i := 22) rfl)), (List.forall_mem_cons.mpr ⟨(ip_wsX9_curve__wsX9_curve_r3 _ (List.mem_of_getElem? (i := 23) rfl)), (List.forall_mem_cons.mpr ⟨(ip_wsX9_curve__wsX9_curve_r4 _ (List.mem_of_getElem? (i := 0) rfl)), (List.forall_mem_cons.mpr ⟨(ip_wsX9_curve__wsX9_curve_r4 _ (List.mem_of_getElem? (i := 1) rfl)), (List.forall_mem_cons.mpr ⟨(ip_wsX9_curve__wsX9_curve_r4 _ (List.mem_of_getElem? (i := 2) rfl)), (List.forall_mem_cons.mpr ⟨(ip_wsX9_curve__wsX9_curve_r4 _ (List.mem_of_getElem? (i := 3) rfl)), (fun _ h => absurd h List.not_mem_nil)⟩)⟩)⟩)⟩)⟩)⟩)⟩)⟩)⟩)⟩)⟩)⟩)⟩)⟩)⟩)⟩)⟩)⟩)⟩)⟩)⟩)⟩)⟩)⟩)) (show ∀ w ∈ wsX9_isGood_r4, w ∈ wsX9_curve from (List.forall_mem_cons.mpr ⟨(ip_wsX9_curve__wsX9_curve_r4 _ (List.mem_of_getElem? (i := 4) rfl)), (List.forall_mem_cons.mpr ⟨(ip_wsX9_curve__wsX9_curve_r4 _ (List.mem_of_getElem? (i := 5) rfl)), (List.forall_mem_cons.mpr ⟨(ip_wsX9_curve__wsX9_curve_r4 _ (List.mem_of_getElem? (i := 6) rfl)), (List.forall_mem_cons.mpr ⟨(ip_wsX9_curve__wsX9_curve_r4 _ (List.mem_of_getElem? (i := 7) rfl)), (List.forall_mem_cons.mpr ⟨(ip_wsX9_curve__wsX9_curve_r4 _ (List.mem_of_getElem? (i := 8) rfl)), (List.forall_mem_cons.mpr ⟨(ip_wsX9_curve__wsX9_curve_r4 _ (List.mem_of_getElem? (i := 9) rfl)), (List.forall_mem_cons.mpr ⟨(ip_wsX9_curve__wsX9_curve_r4 _ (List.mem_of_getElem? (i := 10) rfl)), (List.forall_mem_cons.mpr ⟨(ip_wsX9_curve__wsX9_curve_r4 _ (List.mem_of_getElem? (i := 11) rfl)), (List.forall_mem_cons.mpr ⟨(ip_wsX9_curve__wsX9_curve_r4 _ (List.mem_of_getElem? (i := 12) rfl)), (List.forall_mem_cons.mpr ⟨(ip_wsX9_curve__wsX9_curve_r4 _ (List.mem_of_getElem? (i := 13) rfl)), (List.forall_mem_cons.mpr ⟨(ip_wsX9_curve__wsX9_curve_r4 _ (List.mem_of_getElem? (i := 14) rfl)), (List.forall_mem_cons.mpr ⟨(ip_wsX9_curve__wsX9_curve_r4 _ (List.mem_of_getElem? (i := 15) rfl)), (List.forall_mem_cons.mpr ⟨(ip_wsX9_curve__wsX9_curve_r4 _ (List.mem_of_getElem? (i := 16) rfl)), (List.forall_mem_cons.mpr ⟨(ip_wsX9_curve__wsX9_curve_r4 _ (List.mem_of_getElem? (i := 17) rfl)), (List.forall_mem_cons.mpr ⟨(ip_wsX9_curve__wsX9_curve_r4 _ (List.mem_of_getElem? (i := 18) rfl)), (List.forall_mem_cons.mpr ⟨(ip_wsX9_curve__wsX9_curve_r4 _ (List.mem_of_getElem? (i := 19) rfl)), (List.forall_mem_cons.mpr ⟨(ip_wsX9_curve__wsX9_curve_r4 _ (List.mem_of_getElem? (i := 20) rfl)), (List.forall_mem_cons.mpr ⟨(ip_wsX9_curve__wsX9_curve_r4 _ (List.mem_of_getElem? (i := 21) rfl)), (fun _ h => absurd h List.not_mem_nil)⟩)⟩)⟩)⟩)⟩)⟩)⟩)⟩)⟩)⟩)⟩)⟩)⟩)⟩)⟩)⟩)⟩)⟩))))) (fun _ h => (List.mem_cons_of_mem _ (List.mem_append_right _ h))))⟩) (by decide +kernel)
set_option maxRecDepth 20000 in
theorem gX9_curve_X9_isGood : GoodIn wsX9_curve (wsV RX9 109 RX9 yX9_isGood wsX9_isGood) := goodIn_app (goodIn_of _ (by decide +kernel)) ggX9_curve_X9_isGood
set_option maxRecDepth 20000 in
theorem ggX9_curve_X9_cubeAt : GoodIn wsX9_curve wsX9_cubeAt := goodIn_sub (List.forall_mem_cons.mpr ⟨(ip_wsX9_curve__wsX9_curve_r5 _ (List.mem_of_getElem? (i := 1) rfl)), (x_ap2 (List.forall_mem_cons.mpr ⟨(ip_wsX9_curve__wsX9_curve_r1 _ (List.mem_of_getElem? (i := 12) rfl)), (List.forall_mem_cons.mpr ⟨(ip_wsX9_curve__wsX9_curve_r2 _ (List.mem_of_getElem? (i := 1) rfl)), (List.forall_mem_cons.mpr ⟨(ip_wsX9_curve__wsX9_curve_r2 _ (List.mem_of_getElem? (i := 2) rfl)), (List.forall_mem_cons.mpr ⟨(ip_wsX9_curve__wsX9_curve_r2 _ (List.mem_of_getElem? (i := 3) rfl)), (List.forall_mem_cons.mpr ⟨(ip_wsX9_curve__wsX9_curve_r1 _ (List.mem_of_getElem? (i := 4) rfl)), (List.forall_mem_cons.mpr ⟨(ip_wsX9_curve__wsX9_curve_r2 _ (List.mem_of_getElem? (i := 4) rfl)), (List.forall_mem_cons.mpr ⟨(ip_wsX9_curve__wsX9_curve_r1 _ (List.mem_of_getElem? (i := 0) rfl)), (List.forall_mem_cons.mpr ⟨(ip_wsX9_curve__wsX9_curve_r2 _ (List.mem_of_getElem? (i := 9) rfl)), (List.forall_mem_cons.mpr ⟨(ip_wsX9_curve__wsX9_curve_r2 _ (List.mem_of_getElem? (i := 10) rfl)), (List.forall_mem_cons.mpr ⟨(ip_wsX9_curve__wsX9_curve_r2 _ (List.mem_of_getElem? (i := 11) rfl)), (List.forall_mem_cons.mpr ⟨(ip_wsX9_curve__wsX9_curve_r2 _ (List.mem_of_getElem? (i := 12) rfl)), (List.forall_mem_cons.mpr ⟨(ip_wsX9_curve__wsX9_curve_r2 _ (List.mem_of_getElem? (i := 13) rfl)), (List.forall_mem_cons.mpr ⟨(ip_wsX9_curve__wsX9_curve_r2 _ (List.mem_of_getElem? (i := 14) rfl)), (List.forall_mem_cons.mpr ⟨(ip_wsX9_curve__wsX9_curve_r2 _ (List.mem_of_getElem? (i := 15) rfl)), (List.forall_mem_cons.mpr ⟨(ip_wsX9_curve__wsX9_curve_r2 _ (List.mem_of_getElem? (i := 16) rfl)), (fun _ h => absurd h List.not_mem_nil)⟩)⟩)⟩)⟩)⟩)⟩)⟩)⟩)⟩)⟩)⟩)⟩)⟩)⟩)⟩) (fun _ h => (List.mem_cons_of_mem _ (List.mem_append_right _ h))))⟩) (by decide +kernel)
set_option maxRecDepth 20000 in
theorem gX9_curve_X9_cubeAt : GoodIn wsX9_curve (wsV RX9 201 RX9 yX9_cubeAt wsX9_cubeAt) := goodIn_app (goodIn_of _ (by decide +kernel)) ggX9_curve_X9_cubeAt
set_option maxRecDepth 20000 in
theorem ggX9_curve_X9_rootOf : GoodIn wsX9_curve wsX9_rootOf := goodIn_sub (List.forall_mem_cons.mpr ⟨(ip_wsX9_curve__wsX9_curve_r5 _ (List.mem_of_getElem? (i := 5) rfl)), (x_ap2 (List.forall_mem_cons.mpr ⟨(ip_wsX9_curve__wsX9_curve_r1 _ (List.mem_of_getElem? (i := 0) rfl)), (fun _ h => absurd h List.not_mem_nil)⟩) (fun _ h => (List.mem_cons_of_mem _ (List.mem_append_right _ h))))⟩) (by decide +kernel)
set_option maxRecDepth 20000 in
theorem gX9_curve_X9_rootOf : GoodIn wsX9_curve (wsV RX9 81 RX9 yX9_rootOf wsX9_rootOf) := goodIn_app (goodIn_of _ (by decide +kernel)) ggX9_curve_X9_rootOf
theorem dX9_curve_0 : decode cX9_curve 0 = .ok (.aload_n 0, 1) := by decide +kernel
theorem dX9_curve_1 : decode cX9_curve 1 = .ok (.invokevirtual 109, 3) := by decide +kernel
theorem dX9_curve_4 : decode cX9_curve 4 = .ok (.ifCond .ne 6, 3) := by decide +kernel
theorem dX9_curve_7 : decode cX9_curve 7 = .ok (.bipush (-5), 2) := by decide +kernel
theorem dX9_curve_9 : decode cX9_curve 9 = .ok (.ireturn, 1) := by decide +kernel
theorem dX9_curve_10 : decode cX9_curve 10 = .ok (.iconst 1, 1) := by decide +kernel
theorem dX9_curve_11 : decode cX9_curve 11 = .ok (.istore_n 1, 1) := by decide +kernel
theorem dX9_curve_12 : decode cX9_curve 12 = .ok (.iconst 0, 1) := by decide +kernel
theorem dX9_curve_13 : decode cX9_curve 13 = .ok (.istore_n 2, 1) := by decide +kernel
theorem dX9_curve_14 : decode cX9_curve 14 = .ok (.iload_n 2, 1) := by decide +kernel
theorem dX9_curve_15 : decode cX9_curve 15 = .ok (.aload_n 0, 1) := by decide +kernel
theorem dX9_curve_16 : decode cX9_curve 16 = .ok (.getfield 7, 3) := by decide +kernel
theorem dX9_curve_19 : decode cX9_curve 19 = .ok (.if_icmp .ge 39, 3) := by decide +kernel
theorem dX9_curve_22 : decode cX9_curve 22 = .ok (.aload_n 0, 1) := by decide +kernel
theorem dX9_curve_23 : decode cX9_curve 23 = .ok (.iload_n 2, 1) := by decide +kernel
theorem dX9_curve_24 : decode cX9_curve 24 = .ok (.invokevirtual 201, 3) := by decide +kernel
theorem dX9_curve_27 : decode cX9_curve 27 = .ok (.istore_n 3, 1) := by decide +kernel
theorem dX9_curve_28 : decode cX9_curve 28 = .ok (.iload_n 1, 1) := by decide +kernel
theorem dX9_curve_29 : decode cX9_curve 29 = .ok (.iload_n 3, 1) := by decide +kernel
theorem dX9_curve_30 : decode cX9_curve 30 = .ok (.ifCond .ne 7, 3) := by decide +kernel
theorem dX9_curve_33 : decode cX9_curve 33 = .ok (.iconst 1, 1) := by decide +kernel
theorem dX9_curve_34 : decode cX9_curve 34 = .ok (.goto 16, 3) := by decide +kernel
theorem dX9_curve_37 : decode cX9_curve 37 = .ok (.aload_n 0, 1) := by decide +kernel
theorem dX9_curve_38 : decode cX9_curve 38 = .ok (.iload_n 3, 1) := by decide +kernel
theorem dX9_curve_39 : decode cX9_curve 39 = .ok (.invokevirtual 81, 3) := by decide +kernel
theorem dX9_curve_42 : decode cX9_curve 42 = .ok (.ifCond .lt 7, 3) := by decide +kernel
theorem dX9_curve_45 : decode cX9_curve 45 = .ok (.iconst 2, 1) := by decide +kernel
theorem dX9_curve_46 : decode cX9_curve 46 = .ok (.goto 4, 3) := by decide +kernel
theorem dX9_curve_49 : decode cX9_curve 49 = .ok (.iconst 0, 1) := by decide +kernel
theorem dX9_curve_50 : decode cX9_curve 50 = .ok (.iadd, 1) := by decide +kernel
theorem dX9_curve_51 : decode cX9_curve 51 = .ok (.istore_n 1, 1) := by decide +kernel
theorem dX9_curve_52 : decode cX9_curve 52 = .ok (.iinc 2 1, 3) := by decide +kernel
theorem dX9_curve_55 : decode cX9_curve 55 = .ok (.goto (-41), 3) := by decide +kernel
theorem dX9_curve_58 : decode cX9_curve 58 = .ok (.iload_n 1, 1) := by decide +kernel
theorem dX9_curve_59 : decode cX9_curve 59 = .ok (.ireturn, 1) := by decide +kernel
theorem ip_wsX9_chordOf__wsX9_chordOf_r1 : ∀ w ∈ wsX9_chordOf_r1, w ∈ wsX9_chordOf := fun _ h => (List.mem_cons_of_mem _ (List.mem_append_left _ (List.mem_append_left _ h)))
theorem ip_wsX9_chordOf__wsX9_chordOf_r2 : ∀ w ∈ wsX9_chordOf_r2, w ∈ wsX9_chordOf := fun _ h => (List.mem_cons_of_mem _ (List.mem_append_left _ (List.mem_append_right _ h)))
set_option maxRecDepth 20000 in
theorem ggX9_chordOf_X9_cross : GoodIn wsX9_chordOf wsX9_cross := goodIn_sub (List.forall_mem_cons.mpr ⟨(ip_wsX9_chordOf__wsX9_chordOf_r1 _ (List.mem_of_getElem? (i := 9) rfl)), (x_ap2 (List.forall_mem_cons.mpr ⟨(ip_wsX9_chordOf__wsX9_chordOf_r1 _ (List.mem_of_getElem? (i := 10) rfl)), (List.forall_mem_cons.mpr ⟨(ip_wsX9_chordOf__wsX9_chordOf_r1 _ (List.mem_of_getElem? (i := 11) rfl)), (List.forall_mem_cons.mpr ⟨(ip_wsX9_chordOf__wsX9_chordOf_r1 _ (List.mem_of_getElem? (i := 12) rfl)), (List.forall_mem_cons.mpr ⟨(ip_wsX9_chordOf__wsX9_chordOf_r1 _ (List.mem_of_getElem? (i := 8) rfl)), (List.forall_mem_cons.mpr ⟨(ip_wsX9_chordOf__wsX9_chordOf_r1 _ (List.mem_of_getElem? (i := 13) rfl)), (List.forall_mem_cons.mpr ⟨(ip_wsX9_chordOf__wsX9_chordOf_r1 _ (List.mem_of_getElem? (i := 14) rfl)), (List.forall_mem_cons.mpr ⟨(ip_wsX9_chordOf__wsX9_chordOf_r1 _ (List.mem_of_getElem? (i := 15) rfl)), (List.forall_mem_cons.mpr ⟨(ip_wsX9_chordOf__wsX9_chordOf_r1 _ (List.mem_of_getElem? (i := 16) rfl)), (List.forall_mem_cons.mpr ⟨(ip_wsX9_chordOf__wsX9_chordOf_r1 _ (List.mem_of_getElem? (i := 17) rfl)), (List.forall_mem_cons.mpr ⟨(ip_wsX9_chordOf__wsX9_chordOf_r1 _ (List.mem_of_getElem? (i := 18) rfl)), (List.forall_mem_cons.mpr ⟨(ip_wsX9_chordOf__wsX9_chordOf_r1 _ (List.mem_of_getElem? (i := 19) rfl)), (List.forall_mem_cons.mpr ⟨(ip_wsX9_chordOf__wsX9_chordOf_r1 _ (List.mem_of_getElem? (i := 20) rfl)), (List.forall_mem_cons.mpr ⟨(ip_wsX9_chordOf__wsX9_chordOf_r1 _ (List.mem_of_getElem? (i := 21) rfl)), (List.forall_mem_cons.mpr ⟨(ip_wsX9_chordOf__wsX9_chordOf_r1 _ (List.mem_of_getElem? (i := 22) rfl)), (List.forall_mem_cons.mpr ⟨(ip_wsX9_chordOf__wsX9_chordOf_r1 _ (List.mem_of_getElem? (i := 23) rfl)), (List.forall_mem_cons.mpr ⟨(ip_wsX9_chordOf__wsX9_chordOf_r2 _ (List.mem_of_getElem? (i := 0) rfl)), (List.forall_mem_cons.mpr ⟨(ip_wsX9_chordOf__wsX9_chordOf_r2 _ (List.mem_of_getElem? (i := 1) rfl)), (List.forall_mem_cons.mpr ⟨(ip_wsX9_chordOf__wsX9_chordOf_r2 _ (List.mem_of_getElem? (i := 2) rfl)), (List.forall_mem_cons.mpr ⟨(ip_wsX9_chordOf__wsX9_chordOf_r2 _ (List.mem_of_getElem? (i := 3) rfl)), (List.forall_mem_cons.mpr ⟨(ip_wsX9_chordOf__wsX9_chordOf_r2 _ (List.mem_of_getElem? (i := 4) rfl)), (List.forall_mem_cons.mpr ⟨(ip_wsX9_chordOf__wsX9_chordOf_r2 _ (List.mem_of_getElem? (i := 5) rfl)), (fun _ h => absurd h List.not_mem_nil)⟩)⟩)⟩)⟩)⟩)⟩)⟩)⟩)⟩)⟩)⟩)⟩)⟩)⟩)⟩)⟩)⟩)⟩)⟩)⟩)⟩) (fun _ h => (List.mem_cons_of_mem _ (List.mem_append_right _ h))))⟩) (by decide +kernel)
set_option maxRecDepth 20000 in
theorem gX9_chordOf_X9_cross : GoodIn wsX9_chordOf (wsV RX9 204 RX9 yX9_cross wsX9_cross) := goodIn_app (goodIn_of _ (by decide +kernel)) ggX9_chordOf_X9_cross
set_option maxRecDepth 20000 in
theorem ggX9_chordOf_X9_of : GoodIn wsX9_chordOf wsX9_of := goodIn_sub (List.forall_mem_cons.mpr ⟨(ip_wsX9_chordOf__wsX9_chordOf_r1 _ (List.mem_of_getElem? (i := 13) rfl)), (x_ap2 (List.forall_mem_cons.mpr ⟨(ip_wsX9_chordOf__wsX9_chordOf_r1 _ (List.mem_of_getElem? (i := 14) rfl)), (fun _ h => absurd h List.not_mem_nil)⟩) (fun _ h => (List.mem_cons_of_mem _ (List.mem_append_right _ h))))⟩) (by decide +kernel)
set_option maxRecDepth 20000 in
theorem gX9_chordOf_X9_of : GoodIn wsX9_chordOf (wsV RX9 85 RX9 yX9_of wsX9_of) := goodIn_app (goodIn_of _ (by decide +kernel)) ggX9_chordOf_X9_of
set_option maxRecDepth 20000 in
theorem ggX9_chordOf_X9_form : GoodIn wsX9_chordOf wsX9_form := goodIn_sub (List.forall_mem_cons.mpr ⟨(ip_wsX9_chordOf__wsX9_chordOf_r1 _ (List.mem_of_getElem? (i := 18) rfl)), (x_ap2 (List.forall_mem_cons.mpr ⟨(ip_wsX9_chordOf__wsX9_chordOf_r1 _ (List.mem_of_getElem? (i := 19) rfl)), (List.forall_mem_cons.mpr ⟨(ip_wsX9_chordOf__wsX9_chordOf_r1 _ (List.mem_of_getElem? (i := 20) rfl)), (List.forall_mem_cons.mpr ⟨(ip_wsX9_chordOf__wsX9_chordOf_r1 _ (List.mem_of_getElem? (i := 21) rfl)), (List.forall_mem_cons.mpr ⟨(ip_wsX9_chordOf__wsX9_chordOf_r1 _ (List.mem_of_getElem? (i := 22) rfl)), (List.forall_mem_cons.mpr ⟨(ip_wsX9_chordOf__wsX9_chordOf_r1 _ (List.mem_of_getElem? (i := 23) rfl)), (List.forall_mem_cons.mpr ⟨(ip_wsX9_chordOf__wsX9_chordOf_r2 _ (List.mem_of_getElem? (i := 0) rfl)), (List.forall_mem_cons.mpr ⟨(ip_wsX9_chordOf__wsX9_chordOf_r1 _ (List.mem_of_getElem? (i := 8) rfl)), (List.forall_mem_cons.mpr ⟨(ip_wsX9_chordOf__wsX9_chordOf_r2 _ (List.mem_of_getElem? (i := 1) rfl)), (List.forall_mem_cons.mpr ⟨(ip_wsX9_chordOf__wsX9_chordOf_r1 _ (List.mem_of_getElem? (i := 14) rfl)), (List.forall_mem_cons.mpr ⟨(ip_wsX9_chordOf__wsX9_chordOf_r2 _ (List.mem_of_getElem? (i := 2) rfl)), (List.forall_mem_cons.mpr ⟨(ip_wsX9_chordOf__wsX9_chordOf_r2 _ (List.mem_of_getElem? (i := 3) rfl)), (List.forall_mem_cons.mpr ⟨(ip_wsX9_chordOf__wsX9_chordOf_r2 _ (List.mem_of_getElem? (i := 4) rfl)), (List.forall_mem_cons.mpr ⟨(ip_wsX9_chordOf__wsX9_chordOf_r2 _ (List.mem_of_getElem? (i := 5) rfl)), (fun _ h => absurd h List.not_mem_nil)⟩)⟩)⟩)⟩)⟩)⟩)⟩)⟩)⟩)⟩)⟩)⟩)⟩) (fun _ h => (List.mem_cons_of_mem _ (List.mem_append_right _ h))))⟩) (by decide +kernel)
set_option maxRecDepth 20000 in
theorem gX9_chordOf_X9_form : GoodIn wsX9_chordOf (wsV RX9 133 RX9 yX9_form wsX9_form) := goodIn_app (goodIn_of _ (by decide +kernel)) ggX9_chordOf_X9_form
theorem dX9_chordOf_0 : decode cX9_chordOf 0 = .ok (.aload_n 0, 1) := by decide +kernel
theorem dX9_chordOf_1 : decode cX9_chordOf 1 = .ok (.getfield 32, 3) := by decide +kernel
theorem dX9_chordOf_4 : decode cX9_chordOf 4 = .ok (.iload_n 1, 1) := by decide +kernel
theorem dX9_chordOf_5 : decode cX9_chordOf 5 = .ok (.iaload, 1) := by decide +kernel
theorem dX9_chordOf_6 : decode cX9_chordOf 6 = .ok (.istore_n 3, 1) := by decide +kernel
theorem dX9_chordOf_7 : decode cX9_chordOf 7 = .ok (.aload_n 0, 1) := by decide +kernel
theorem dX9_chordOf_8 : decode cX9_chordOf 8 = .ok (.getfield 32, 3) := by decide +kernel
theorem dX9_chordOf_11 : decode cX9_chordOf 11 = .ok (.iload_n 2, 1) := by decide +kernel
theorem dX9_chordOf_12 : decode cX9_chordOf 12 = .ok (.iaload, 1) := by decide +kernel
theorem dX9_chordOf_13 : decode cX9_chordOf 13 = .ok (.istore 4, 2) := by decide +kernel
theorem dX9_chordOf_15 : decode cX9_chordOf 15 = .ok (.iload_n 3, 1) := by decide +kernel
theorem dX9_chordOf_16 : decode cX9_chordOf 16 = .ok (.iload 4, 2) := by decide +kernel
theorem dX9_chordOf_18 : decode cX9_chordOf 18 = .ok (.if_icmp .eq 47, 3) := by decide +kernel
theorem dX9_chordOf_21 : decode cX9_chordOf 21 = .ok (.aload_n 0, 1) := by decide +kernel
theorem dX9_chordOf_22 : decode cX9_chordOf 22 = .ok (.aload_n 0, 1) := by decide +kernel
theorem dX9_chordOf_23 : decode cX9_chordOf 23 = .ok (.getfield 20, 3) := by decide +kernel
theorem dX9_chordOf_26 : decode cX9_chordOf 26 = .ok (.iload_n 3, 1) := by decide +kernel
theorem dX9_chordOf_27 : decode cX9_chordOf 27 = .ok (.iaload, 1) := by decide +kernel
theorem dX9_chordOf_28 : decode cX9_chordOf 28 = .ok (.aload_n 0, 1) := by decide +kernel
theorem dX9_chordOf_29 : decode cX9_chordOf 29 = .ok (.getfield 23, 3) := by decide +kernel
theorem dX9_chordOf_32 : decode cX9_chordOf 32 = .ok (.iload_n 3, 1) := by decide +kernel
theorem dX9_chordOf_33 : decode cX9_chordOf 33 = .ok (.iaload, 1) := by decide +kernel
theorem dX9_chordOf_34 : decode cX9_chordOf 34 = .ok (.aload_n 0, 1) := by decide +kernel
theorem dX9_chordOf_35 : decode cX9_chordOf 35 = .ok (.getfield 26, 3) := by decide +kernel
theorem dX9_chordOf_38 : decode cX9_chordOf 38 = .ok (.iload_n 3, 1) := by decide +kernel
theorem dX9_chordOf_39 : decode cX9_chordOf 39 = .ok (.iaload, 1) := by decide +kernel
theorem dX9_chordOf_40 : decode cX9_chordOf 40 = .ok (.aload_n 0, 1) := by decide +kernel
theorem dX9_chordOf_41 : decode cX9_chordOf 41 = .ok (.getfield 20, 3) := by decide +kernel
theorem dX9_chordOf_44 : decode cX9_chordOf 44 = .ok (.iload 4, 2) := by decide +kernel
theorem dX9_chordOf_46 : decode cX9_chordOf 46 = .ok (.iaload, 1) := by decide +kernel
theorem dX9_chordOf_47 : decode cX9_chordOf 47 = .ok (.aload_n 0, 1) := by decide +kernel
theorem dX9_chordOf_48 : decode cX9_chordOf 48 = .ok (.getfield 23, 3) := by decide +kernel
theorem dX9_chordOf_51 : decode cX9_chordOf 51 = .ok (.iload 4, 2) := by decide +kernel
theorem dX9_chordOf_53 : decode cX9_chordOf 53 = .ok (.iaload, 1) := by decide +kernel
theorem dX9_chordOf_54 : decode cX9_chordOf 54 = .ok (.aload_n 0, 1) := by decide +kernel
theorem dX9_chordOf_55 : decode cX9_chordOf 55 = .ok (.getfield 26, 3) := by decide +kernel
theorem dX9_chordOf_58 : decode cX9_chordOf 58 = .ok (.iload 4, 2) := by decide +kernel
theorem dX9_chordOf_60 : decode cX9_chordOf 60 = .ok (.iaload, 1) := by decide +kernel
theorem dX9_chordOf_61 : decode cX9_chordOf 61 = .ok (.invokevirtual 204, 3) := by decide +kernel
theorem dX9_chordOf_64 : decode cX9_chordOf 64 = .ok (.return_, 1) := by decide +kernel
theorem dX9_chordOf_65 : decode cX9_chordOf 65 = .ok (.aload_n 0, 1) := by decide +kernel
theorem dX9_chordOf_66 : decode cX9_chordOf 66 = .ok (.getfield 20, 3) := by decide +kernel
theorem dX9_chordOf_69 : decode cX9_chordOf 69 = .ok (.iload_n 3, 1) := by decide +kernel
theorem dX9_chordOf_70 : decode cX9_chordOf 70 = .ok (.iaload, 1) := by decide +kernel
theorem dX9_chordOf_71 : decode cX9_chordOf 71 = .ok (.istore 5, 2) := by decide +kernel
theorem dX9_chordOf_73 : decode cX9_chordOf 73 = .ok (.aload_n 0, 1) := by decide +kernel
theorem dX9_chordOf_74 : decode cX9_chordOf 74 = .ok (.getfield 23, 3) := by decide +kernel
theorem dX9_chordOf_77 : decode cX9_chordOf 77 = .ok (.iload_n 3, 1) := by decide +kernel
theorem dX9_chordOf_78 : decode cX9_chordOf 78 = .ok (.iaload, 1) := by decide +kernel
theorem dX9_chordOf_79 : decode cX9_chordOf 79 = .ok (.istore 6, 2) := by decide +kernel
theorem dX9_chordOf_81 : decode cX9_chordOf 81 = .ok (.aload_n 0, 1) := by decide +kernel
theorem dX9_chordOf_82 : decode cX9_chordOf 82 = .ok (.getfield 26, 3) := by decide +kernel
theorem dX9_chordOf_85 : decode cX9_chordOf 85 = .ok (.iload_n 3, 1) := by decide +kernel
theorem dX9_chordOf_86 : decode cX9_chordOf 86 = .ok (.iaload, 1) := by decide +kernel
theorem dX9_chordOf_87 : decode cX9_chordOf 87 = .ok (.istore 7, 2) := by decide +kernel
theorem dX9_chordOf_89 : decode cX9_chordOf 89 = .ok (.aload_n 0, 1) := by decide +kernel
theorem dX9_chordOf_90 : decode cX9_chordOf 90 = .ok (.aload_n 0, 1) := by decide +kernel
theorem dX9_chordOf_91 : decode cX9_chordOf 91 = .ok (.aload_n 0, 1) := by decide +kernel
theorem dX9_chordOf_92 : decode cX9_chordOf 92 = .ok (.getfield 13, 3) := by decide +kernel
theorem dX9_chordOf_95 : decode cX9_chordOf 95 = .ok (.iconst 0, 1) := by decide +kernel
theorem dX9_chordOf_96 : decode cX9_chordOf 96 = .ok (.iaload, 1) := by decide +kernel
theorem dX9_chordOf_97 : decode cX9_chordOf 97 = .ok (.iload 5, 2) := by decide +kernel
theorem dX9_chordOf_99 : decode cX9_chordOf 99 = .ok (.imul, 1) := by decide +kernel
theorem dX9_chordOf_100 : decode cX9_chordOf 100 = .ok (.aload_n 0, 1) := by decide +kernel
theorem dX9_chordOf_101 : decode cX9_chordOf 101 = .ok (.getfield 13, 3) := by decide +kernel
theorem dX9_chordOf_104 : decode cX9_chordOf 104 = .ok (.iconst 5, 1) := by decide +kernel
theorem dX9_chordOf_105 : decode cX9_chordOf 105 = .ok (.iaload, 1) := by decide +kernel
theorem dX9_chordOf_106 : decode cX9_chordOf 106 = .ok (.iload 6, 2) := by decide +kernel
theorem dX9_chordOf_108 : decode cX9_chordOf 108 = .ok (.imul, 1) := by decide +kernel
theorem dX9_chordOf_109 : decode cX9_chordOf 109 = .ok (.iadd, 1) := by decide +kernel
theorem dX9_chordOf_110 : decode cX9_chordOf 110 = .ok (.aload_n 0, 1) := by decide +kernel
theorem dX9_chordOf_111 : decode cX9_chordOf 111 = .ok (.getfield 13, 3) := by decide +kernel
theorem dX9_chordOf_114 : decode cX9_chordOf 114 = .ok (.iconst 4, 1) := by decide +kernel
theorem dX9_chordOf_115 : decode cX9_chordOf 115 = .ok (.iaload, 1) := by decide +kernel
theorem dX9_chordOf_116 : decode cX9_chordOf 116 = .ok (.iload 7, 2) := by decide +kernel
theorem dX9_chordOf_118 : decode cX9_chordOf 118 = .ok (.imul, 1) := by decide +kernel
theorem dX9_chordOf_119 : decode cX9_chordOf 119 = .ok (.iadd, 1) := by decide +kernel
theorem dX9_chordOf_120 : decode cX9_chordOf 120 = .ok (.invokevirtual 85, 3) := by decide +kernel
theorem dX9_chordOf_123 : decode cX9_chordOf 123 = .ok (.aload_n 0, 1) := by decide +kernel
theorem dX9_chordOf_124 : decode cX9_chordOf 124 = .ok (.aload_n 0, 1) := by decide +kernel
theorem dX9_chordOf_125 : decode cX9_chordOf 125 = .ok (.getfield 13, 3) := by decide +kernel
theorem dX9_chordOf_128 : decode cX9_chordOf 128 = .ok (.iconst 5, 1) := by decide +kernel
theorem dX9_chordOf_129 : decode cX9_chordOf 129 = .ok (.iaload, 1) := by decide +kernel
theorem dX9_chordOf_130 : decode cX9_chordOf 130 = .ok (.iload 5, 2) := by decide +kernel
theorem dX9_chordOf_132 : decode cX9_chordOf 132 = .ok (.imul, 1) := by decide +kernel
theorem dX9_chordOf_133 : decode cX9_chordOf 133 = .ok (.aload_n 0, 1) := by decide +kernel
theorem dX9_chordOf_134 : decode cX9_chordOf 134 = .ok (.getfield 13, 3) := by decide +kernel
theorem dX9_chordOf_137 : decode cX9_chordOf 137 = .ok (.iconst 1, 1) := by decide +kernel
theorem dX9_chordOf_138 : decode cX9_chordOf 138 = .ok (.iaload, 1) := by decide +kernel
theorem dX9_chordOf_139 : decode cX9_chordOf 139 = .ok (.iload 6, 2) := by decide +kernel
theorem dX9_chordOf_141 : decode cX9_chordOf 141 = .ok (.imul, 1) := by decide +kernel
theorem dX9_chordOf_142 : decode cX9_chordOf 142 = .ok (.iadd, 1) := by decide +kernel
theorem dX9_chordOf_143 : decode cX9_chordOf 143 = .ok (.aload_n 0, 1) := by decide +kernel
theorem dX9_chordOf_144 : decode cX9_chordOf 144 = .ok (.getfield 13, 3) := by decide +kernel
theorem dX9_chordOf_147 : decode cX9_chordOf 147 = .ok (.iconst 3, 1) := by decide +kernel
theorem dX9_chordOf_148 : decode cX9_chordOf 148 = .ok (.iaload, 1) := by decide +kernel
theorem dX9_chordOf_149 : decode cX9_chordOf 149 = .ok (.iload 7, 2) := by decide +kernel
theorem dX9_chordOf_151 : decode cX9_chordOf 151 = .ok (.imul, 1) := by decide +kernel
theorem dX9_chordOf_152 : decode cX9_chordOf 152 = .ok (.iadd, 1) := by decide +kernel
theorem dX9_chordOf_153 : decode cX9_chordOf 153 = .ok (.invokevirtual 85, 3) := by decide +kernel
theorem dX9_chordOf_156 : decode cX9_chordOf 156 = .ok (.aload_n 0, 1) := by decide +kernel
theorem dX9_chordOf_157 : decode cX9_chordOf 157 = .ok (.aload_n 0, 1) := by decide +kernel
theorem dX9_chordOf_158 : decode cX9_chordOf 158 = .ok (.getfield 13, 3) := by decide +kernel
theorem dX9_chordOf_161 : decode cX9_chordOf 161 = .ok (.iconst 4, 1) := by decide +kernel
theorem dX9_chordOf_162 : decode cX9_chordOf 162 = .ok (.iaload, 1) := by decide +kernel
theorem dX9_chordOf_163 : decode cX9_chordOf 163 = .ok (.iload 5, 2) := by decide +kernel
theorem dX9_chordOf_165 : decode cX9_chordOf 165 = .ok (.imul, 1) := by decide +kernel
theorem dX9_chordOf_166 : decode cX9_chordOf 166 = .ok (.aload_n 0, 1) := by decide +kernel
theorem dX9_chordOf_167 : decode cX9_chordOf 167 = .ok (.getfield 13, 3) := by decide +kernel
theorem dX9_chordOf_170 : decode cX9_chordOf 170 = .ok (.iconst 3, 1) := by decide +kernel
theorem dX9_chordOf_171 : decode cX9_chordOf 171 = .ok (.iaload, 1) := by decide +kernel
theorem dX9_chordOf_172 : decode cX9_chordOf 172 = .ok (.iload 6, 2) := by decide +kernel
theorem dX9_chordOf_174 : decode cX9_chordOf 174 = .ok (.imul, 1) := by decide +kernel
theorem dX9_chordOf_175 : decode cX9_chordOf 175 = .ok (.iadd, 1) := by decide +kernel
theorem dX9_chordOf_176 : decode cX9_chordOf 176 = .ok (.aload_n 0, 1) := by decide +kernel
theorem dX9_chordOf_177 : decode cX9_chordOf 177 = .ok (.getfield 13, 3) := by decide +kernel
theorem dX9_chordOf_180 : decode cX9_chordOf 180 = .ok (.iconst 2, 1) := by decide +kernel
theorem dX9_chordOf_181 : decode cX9_chordOf 181 = .ok (.iaload, 1) := by decide +kernel
theorem dX9_chordOf_182 : decode cX9_chordOf 182 = .ok (.iload 7, 2) := by decide +kernel
theorem dX9_chordOf_184 : decode cX9_chordOf 184 = .ok (.imul, 1) := by decide +kernel
theorem dX9_chordOf_185 : decode cX9_chordOf 185 = .ok (.iadd, 1) := by decide +kernel
theorem dX9_chordOf_186 : decode cX9_chordOf 186 = .ok (.invokevirtual 85, 3) := by decide +kernel
theorem dX9_chordOf_189 : decode cX9_chordOf 189 = .ok (.invokevirtual 133, 3) := by decide +kernel
theorem dX9_chordOf_192 : decode cX9_chordOf 192 = .ok (.return_, 1) := by decide +kernel
theorem ip_wsX9_chord__wsX9_chord_r1 : ∀ w ∈ wsX9_chord_r1, w ∈ wsX9_chord := fun _ h => (List.mem_cons_of_mem _ (List.mem_append_left _ (List.mem_append_left _ h)))
theorem ip_wsX9_chord__wsX9_chord_r2 : ∀ w ∈ wsX9_chord_r2, w ∈ wsX9_chord := fun _ h => (List.mem_cons_of_mem _ (List.mem_append_left _ (List.mem_append_right _ (List.mem_append_left _ h))))
theorem ip_wsX9_chord__wsX9_chord_r3 : ∀ w ∈ wsX9_chord_r3, w ∈ wsX9_chord := fun _ h => (List.mem_cons_of_mem _ (List.mem_append_left _ (List.mem_append_right _ (List.mem_append_right _ (List.mem_append_left _ h)))))
theorem ip_wsX9_chord__wsX9_chord_r4 : ∀ w ∈ wsX9_chord_r4, w ∈ wsX9_chord := fun _ h => (List.mem_cons_of_mem _ (List.mem_append_left _ (List.mem_append_right _ (List.mem_append_right _ (List.mem_append_right _ (List.mem_append_left _ h))))))
theorem ip_wsX9_chord__wsX9_chord_r5 : ∀ w ∈ wsX9_chord_r5, w ∈ wsX9_chord := fun _ h => (List.mem_cons_of_mem _ (List.mem_append_left _ (List.mem_append_right _ (List.mem_append_right _ (List.mem_append_right _ (List.mem_append_right _ (List.mem_append_left _ h)))))))
theorem ip_wsX9_chord__wsX9_chord_r6 : ∀ w ∈ wsX9_chord_r6, w ∈ wsX9_chord := fun _ h => (List.mem_cons_of_mem _ (List.mem_append_left _ (List.mem_append_right _ (List.mem_append_right _ (List.mem_append_right _ (List.mem_append_right _ (List.mem_append_right _ h)))))))
set_option maxRecDepth 20000 in
theorem ggX9_chord_X9_isGood : GoodIn wsX9_chord wsX9_isGood := goodIn_sub (List.forall_mem_cons.mpr ⟨(ip_wsX9_chord__wsX9_chord_r1 _ (List.mem_of_getElem? (i := 9) rfl)), (x_ap2 (x_ap2 (show ∀ w ∈ wsX9_isGood_r1, w ∈ wsX9_chord from (List.forall_mem_cons.mpr ⟨(ip_wsX9_chord__wsX9_chord_r1 _ (List.mem_of_getElem? (i := 10) rfl)), (List.forall_mem_cons.mpr ⟨(ip_wsX9_chord__wsX9_chord_r1 _ (List.mem_of_getElem? (i := 11) rfl)), (List.forall_mem_cons.mpr ⟨(ip_wsX9_chord__wsX9_chord_r1 _ (List.mem_of_getElem? (i := 12) rfl)), (List.forall_mem_cons.mpr ⟨(ip_wsX9_chord__wsX9_chord_r1 _ (List.mem_of_getElem? (i := 13) rfl)), (List.forall_mem_cons.mpr ⟨(ip_wsX9_chord__wsX9_chord_r1 _ (List.mem_of_getElem? (i := 8) rfl)), (List.forall_mem_cons.mpr ⟨(ip_wsX9_chord__wsX9_chord_r1 _ (List.mem_of_getElem? (i := 14) rfl)), (List.forall_mem_cons.mpr ⟨(ip_wsX9_chord__wsX9_chord_r1 _ (List.mem_of_getElem? (i := 15) rfl)), (List.forall_mem_cons.mpr ⟨(ip_wsX9_chord__wsX9_chord_r1 _ (List.mem_of_getElem? (i := 16) rfl)), (List.forall_mem_cons.mpr ⟨(ip_wsX9_chord__wsX9_chord_r1 _ (List.mem_of_getElem? (i := 17) rfl)), (List.forall_mem_cons.mpr ⟨(ip_wsX9_chord__wsX9_chord_r1 _ (List.mem_of_getElem? (i := 18) rfl)), (List.forall_mem_cons.mpr ⟨(ip_wsX9_chord__wsX9_chord_r1 _ (List.mem_of_getElem? (i := 19) rfl)), (List.forall_mem_cons.mpr ⟨(ip_wsX9_chord__wsX9_chord_r1 _ (List.mem_of_getElem? (i := 20) rfl)), (List.forall_mem_cons.mpr ⟨(ip_wsX9_chord__wsX9_chord_r1 _ (List.mem_of_getElem? (i := 21) rfl)), (List.forall_mem_cons.mpr ⟨(ip_wsX9_chord__wsX9_chord_r1 _ (List.mem_of_getElem? (i := 22) rfl)), (List.forall_mem_cons.mpr ⟨(ip_wsX9_chord__wsX9_chord_r1 _ (List.mem_of_getElem? (i := 23) rfl)), (List.forall_mem_cons.mpr ⟨(ip_wsX9_chord__wsX9_chord_r2 _ (List.mem_of_getElem? (i := 0) rfl)), (List.forall_mem_cons.mpr ⟨(ip_wsX9_chord__wsX9_chord_r2 _ (List.mem_of_getElem? (i := 1) rfl)), (List.forall_mem_cons.mpr ⟨(ip_wsX9_chord__wsX9_chord_r2 _ (List.mem_of_getElem? (i := 2) rfl)), (List.forall_mem_cons.mpr ⟨(ip_wsX9_chord__wsX9_chord_r2 _ (List.mem_of_getElem? (i := 3) rfl)), (List.forall_mem_cons.mpr ⟨(ip_wsX9_chord__wsX9_chord_r2 _ (List.mem_of_getElem? (i := 4) rfl)), (List.forall_mem_cons.mpr ⟨(ip_wsX9_chord__wsX9_chord_r2 _ (List.mem_of_getElem? (i := 5) rfl)), (List.forall_mem_cons.mpr ⟨(ip_wsX9_chord__wsX9_chord_r2 _ (List.mem_of_getElem? (i := 6) rfl)), (List.forall_mem_cons.mpr ⟨(ip_wsX9_chord__wsX9_chord_r2 _ (List.mem_of_getElem? (i := 7) rfl)), (List.forall_mem_cons.mpr ⟨(ip_wsX9_chord__wsX9_chord_r2 _ (List.mem_of_getElem? (i := 8) rfl)), (fun _ h => absurd h List.not_mem_nil)⟩)⟩)⟩)⟩)⟩)⟩)⟩)⟩)⟩)⟩)⟩)⟩)⟩)⟩)⟩)⟩)⟩)⟩)⟩)⟩)⟩)⟩)⟩)⟩)) (x_ap2 (show ∀ w ∈ wsX9_isGood_r2, w ∈ wsX9_chord from (List.forall_mem_cons.mpr ⟨(ip_wsX9_chord__wsX9_chord_r2 _ (List.mem_of_getElem? (i := 9) rfl)), (List.forall_mem_cons.mpr ⟨(ip_wsX9_chord__wsX9_chord_r2 _ (List.mem_of_getElem? (i := 10) rfl)), (List.forall_mem_cons.mpr ⟨(ip_wsX9_chord__wsX9_chord_r2 _ (List.mem_of_getElem? (i := 11) rfl)), (List.forall_mem_cons.mpr ⟨(ip_wsX9_chord__wsX9_chord_r2 _ (List.mem_of_getElem? (i := 12) rfl)), (List.forall_mem_cons.mpr ⟨(ip_wsX9_chord__wsX9_chord_r2 _ (List.mem_of_getElem? (i := 13) rfl)), (List.forall_mem_cons.mpr ⟨(ip_wsX9_chord__wsX9_chord_r2 _ (List.mem_of_getElem? (i := 14) rfl)), (List.forall_mem_cons.mpr ⟨(ip_wsX9_chord__wsX9_chord_r2 _ (List.mem_of_getElem? (i := 15) rfl)), (List.forall_mem_cons.mpr ⟨(ip_wsX9_chord__wsX9_chord_r2 _ (List.mem_of_getElem? (i := 16) rfl)), (List.forall_mem_cons.mpr ⟨(ip_wsX9_chord__wsX9_chord_r2 _ (List.mem_of_getElem? (i := 17) rfl)), (List.forall_mem_cons.mpr ⟨(ip_wsX9_chord__wsX9_chord_r2 _ (List.mem_of_getElem? (i := 18) rfl)), (List.forall_mem_cons.mpr ⟨(ip_wsX9_chord__wsX9_chord_r2 _ (List.mem_of_getElem? (i := 19) rfl)), (List.forall_mem_cons.mpr ⟨(ip_wsX9_chord__wsX9_chord_r2 _ (List.mem_of_getElem? (i := 20) rfl)), (List.forall_mem_cons.mpr ⟨(ip_wsX9_chord__wsX9_chord_r2 _ (List.mem_of_getElem? (i := 21) rfl)), (List.forall_mem_cons.mpr ⟨(ip_wsX9_chord__wsX9_chord_r2 _ (List.mem_of_getElem? (i := 22) rfl)), (List.forall_mem_cons.mpr ⟨(ip_wsX9_chord__wsX9_chord_r2 _ (List.mem_of_getElem? (i := 23) rfl)), (List.forall_mem_cons.mpr ⟨(ip_wsX9_chord__wsX9_chord_r3 _ (List.mem_of_getElem? (i := 0) rfl)), (List.forall_mem_cons.mpr ⟨(ip_wsX9_chord__wsX9_chord_r3 _ (List.mem_of_getElem? (i := 1) rfl)), (List.forall_mem_cons.mpr ⟨(ip_wsX9_chord__wsX9_chord_r3 _ (List.mem_of_getElem? (i := 2) rfl)), (List.forall_mem_cons.mpr ⟨(ip_wsX9_chord__wsX9_chord_r3 _ (List.mem_of_getElem? (i := 3) rfl)), (List.forall_mem_cons.mpr ⟨(ip_wsX9_chord__wsX9_chord_r3 _ (List.mem_of_getElem? (i := 4) rfl)), (List.forall_mem_cons.mpr ⟨(ip_wsX9_chord__wsX9_chord_r3 _ (List.mem_of_getElem? (i := 5) rfl)), (List.forall_mem_cons.mpr ⟨(ip_wsX9_chord__wsX9_chord_r3 _ (List.mem_of_getElem? (i := 6) rfl)), (List.forall_mem_cons.mpr ⟨(ip_wsX9_chord__wsX9_chord_r3 _ (List.mem_of_getElem? (i := 7) rfl)), (List.forall_mem_cons.mpr ⟨(ip_wsX9_chord__wsX9_chord_r3 _ (List.mem_of_getElem? (i := 8) rfl)), (fun _ h => absurd h List.not_mem_nil)⟩)⟩)⟩)⟩)⟩)⟩)⟩)⟩)⟩)⟩)⟩)⟩)⟩)⟩)⟩)⟩)⟩)⟩)⟩)⟩)⟩)⟩)⟩)⟩)) (x_ap2 (show ∀ w ∈ wsX9_isGood_r3, w ∈ wsX9_chord from (List.forall_mem_cons.mpr ⟨(ip_wsX9_chord__wsX9_chord_r3 _ (List.mem_of_getElem? (i := 9) rfl)), (List.forall_mem_cons.mpr ⟨(ip_wsX9_chord__wsX9_chord_r3 _ (List.mem_of_getElem? (i := 10) rfl)), (List.forall_mem_cons.mpr ⟨(ip_wsX9_chord__wsX9_chord_r3 _ (List.mem_of_getElem? (i := 11) rfl)), (List.forall_mem_cons.mpr ⟨(ip_wsX9_chord__wsX9_chord_r3 _ (List.mem_of_getElem? (i := 12) rfl)), (List.forall_mem_cons.mpr ⟨(ip_wsX9_chord__wsX9_chord_r3 _ (List.mem_of_getElem? (i := 13) rfl)), (List.forall_mem_cons.mpr ⟨(ip_wsX9_chord__wsX9_chord_r3 _ (List.mem_of_getElem? (i := 14) rfl)), (List.forall_mem_cons.mpr ⟨(ip_wsX9_chord__wsX9_chord_r3 _ (List.mem_of_getElem? (i := 15) rfl)), (List.forall_mem_cons.mpr ⟨(ip_wsX9_chord__wsX9_chord_r3 _ (List.mem_of_getElem? (i := 16) rfl)), (List.forall_mem_cons.mpr ⟨(ip_wsX9_chord__wsX9_chord_r3 _ (List.mem_of_getElem? (i := 17) rfl)), (List.forall_mem_cons.mpr ⟨(ip_wsX9_chord__wsX9_chord_r1 _ (List.mem_of_getElem? (i := 0) rfl)), (List.forall_mem_cons.mpr ⟨(ip_wsX9_chord__wsX9_chord_r1 _ (List.mem_of_getElem? (i := 1) rfl)), (List.forall_mem_cons.mpr ⟨(ip_wsX9_chord__wsX9_chord_r1 _ (List.mem_of_getElem? (i := 2) rfl)), (List.forall_mem_cons.mpr ⟨(ip_wsX9_chord__wsX9_chord_r3 _ (List.mem_of_getElem? (i := 18) rfl)), (List.forall_mem_cons.mpr ⟨(ip_wsX9_chord__wsX9_chord_r3 _ (List.mem_of_getElem? (i := 19) rfl)), (List.forall_mem_cons.mpr ⟨(ip_wsX9_chord__wsX9_chord_r3 _ (List.mem_of_getElem? (i := 20) rfl)), (List.forall_mem_cons.mpr ⟨(ip_wsX9_chord__wsX9_chord_r3 _ (List.mem_of_getElem? (i := 21) rfl)), (List.forall_mem_cons.mpr ⟨(ip_wsX9_chord__wsX9_chord_r3 _ (List.mem_of_getElem? (i := 22) rfl)), (List.forall_mem_cons.mpr ⟨(ip_wsX9_chord__wsX9_chord_r3 _ (List.mem_of_getElem? (i := 23) rfl)), (List.forall_mem_cons.mpr ⟨(ip_wsX9_chord__wsX9_chord_r4 _ (List.mem_of_getElem? (i := 0) rfl)), (List.forall_mem_cons.mpr ⟨(ip_wsX9_chord__wsX9_chord_r4 _ (List.mem_of_getElem? (i := 1) rfl)), (List.forall_mem_cons.mpr ⟨(ip_wsX9_chord__wsX9_chord_r4 _ (List.mem_of_getElem? (i := 2) rfl)), (List.forall_mem_cons.mpr ⟨(ip_wsX9_chord__wsX9_chord_r4 _ (List.mem_of_getElem? (i := 3) rfl)), (List.forall_mem_cons.mpr ⟨(ip_wsX9_chord__wsX9_chord_r4 _ (List.mem_of_getElem? (i := 4) rfl)), (List.forall_mem_cons.mpr ⟨(ip_wsX9_chord__wsX9_chord_r4 _ (List.mem_of_getElem? (i := 5) rfl)), (fun _ h => absurd h List.not_mem_nil)⟩)⟩)⟩)⟩)⟩)⟩)⟩)⟩)⟩)⟩)⟩)⟩)⟩)⟩)⟩)⟩)⟩)⟩)⟩)⟩)⟩)⟩)⟩)⟩)) (show ∀ w ∈ wsX9_isGood_r4, w ∈ wsX9_chord from (List.forall_mem_cons.mpr ⟨(ip_wsX9_chord__wsX9_chord_r4 _ (List.mem_of_getElem? (i := 6) rfl)), (List.forall_mem_cons.mpr ⟨(ip_wsX9_chord__wsX9_chord_r4 _ (List.mem_of_getElem? (i := 7) rfl)), (List.forall_mem_cons.mpr ⟨(ip_wsX9_chord__wsX9_chord_r4 _ (List.mem_of_getElem? (i := 8) rfl)), (List.forall_mem_cons.mpr ⟨(ip_wsX9_chord__wsX9_chord_r4 _ (List.mem_of_getElem? (i := 9) rfl)), (List.forall_mem_cons.mpr ⟨(ip_wsX9_chord__wsX9_chord_r4 _ (List.mem_of_getElem? (i := 10) rfl)), (List.forall_mem_cons.mpr ⟨(ip_wsX9_chord__wsX9_chord_r4 _ (List.mem_of_getElem? (i := 11) rfl)), (List.forall_mem_cons.mpr ⟨(ip_wsX9_chord__wsX9_chord_r4 _ (List.mem_of_getElem? (i := 12) rfl)), (List.forall_mem_cons.mpr ⟨(ip_wsX9_chord__wsX9_chord_r4 _ (List.mem_of_getElem? (i := 13) rfl)), (List.forall_mem_cons.mpr ⟨(ip_wsX9_chord__wsX9_chord_r4 _ (List.mem_of_getElem? (i := 14) rfl)), (List.forall_mem_cons.mpr ⟨(ip_wsX9_chord__wsX9_chord_r4 _ (List.mem_of_getElem? (i := 15) rfl)), (List.forall_mem_cons.mpr ⟨(ip_wsX9_chord__wsX9_chord_r4 _ (List.mem_of_getElem? (i := 16) rfl)), (List.forall_mem_cons.mpr ⟨(ip_wsX9_chord__wsX9_chord_r4 _ (List.mem_of_getElem? (i := 17) rfl)), (List.forall_mem_cons.mpr ⟨(ip_wsX9_chord__wsX9_chord_r4 _ (List.mem_of_getElem? (i := 18) rfl)), (List.forall_mem_cons.mpr ⟨(ip_wsX9_chord__wsX9_chord_r4 _ (List.mem_of_getElem? (i := 19) rfl)), (List.forall_mem_cons.mpr ⟨(ip_wsX9_chord__wsX9_chord_r4 _ (List.mem_of_getElem? (i := 20) rfl)), (List.forall_mem_cons.mpr ⟨(ip_wsX9_chord__wsX9_chord_r4 _ (List.mem_of_getElem? (i := 21) rfl)), (List.forall_mem_cons.mpr ⟨(ip_wsX9_chord__wsX9_chord_r4 _ (List.mem_of_getElem? (i := 22) rfl)), (List.forall_mem_cons.mpr ⟨(ip_wsX9_chord__wsX9_chord_r4 _ (List.mem_of_getElem? (i := 23) rfl)), (fun _ h => absurd h List.not_mem_nil)⟩)⟩)⟩)⟩)⟩)⟩)⟩)⟩)⟩)⟩)⟩)⟩)⟩)⟩)⟩)⟩)⟩)⟩))))) (fun _ h => (List.mem_cons_of_mem _ (List.mem_append_right _ h))))⟩) (by decide +kernel)
set_option maxRecDepth 20000 in
theorem gX9_chord_X9_isGood : GoodIn wsX9_chord (wsV RX9 109 RX9 yX9_isGood wsX9_isGood) := goodIn_app (goodIn_of _ (by decide +kernel)) ggX9_chord_X9_isGood
set_option maxRecDepth 20000 in
theorem ggX9_chord_X9_isFlag : GoodIn wsX9_chord wsX9_isFlag := goodIn_sub (List.forall_mem_cons.mpr ⟨(ip_wsX9_chord__wsX9_chord_r5 _ (List.mem_of_getElem? (i := 3) rfl)), (x_ap2 (List.forall_mem_cons.mpr ⟨(ip_wsX9_chord__wsX9_chord_r1 _ (List.mem_of_getElem? (i := 17) rfl)), (List.forall_mem_cons.mpr ⟨(ip_wsX9_chord__wsX9_chord_r5 _ (List.mem_of_getElem? (i := 4) rfl)), (List.forall_mem_cons.mpr ⟨(ip_wsX9_chord__wsX9_chord_r5 _ (List.mem_of_getElem? (i := 5) rfl)), (List.forall_mem_cons.mpr ⟨(ip_wsX9_chord__wsX9_chord_r1 _ (List.mem_of_getElem? (i := 8) rfl)), (List.forall_mem_cons.mpr ⟨(ip_wsX9_chord__wsX9_chord_r5 _ (List.mem_of_getElem? (i := 6) rfl)), (fun _ h => absurd h List.not_mem_nil)⟩)⟩)⟩)⟩)⟩) (fun _ h => (List.mem_cons_of_mem _ (List.mem_append_right _ h))))⟩) (by decide +kernel)
set_option maxRecDepth 20000 in
theorem gX9_chord_X9_isFlag : GoodIn wsX9_chord (wsV RX9 166 RX9 yX9_isFlag wsX9_isFlag) := goodIn_app (goodIn_of _ (by decide +kernel)) ggX9_chord_X9_isFlag
set_option maxRecDepth 20000 in
theorem ggX9_chord_X9_in : GoodIn wsX9_chord wsX9_in := goodIn_sub (List.forall_mem_cons.mpr ⟨(ip_wsX9_chord__wsX9_chord_r5 _ (List.mem_of_getElem? (i := 6) rfl)), (fun _ h => absurd h List.not_mem_nil)⟩) (by decide +kernel)
set_option maxRecDepth 20000 in
theorem gX9_chord_X9_in : GoodIn wsX9_chord (va_wsS RX9 62 yX9_in wsX9_in) := goodIn_app (goodIn_of _ (by decide +kernel)) ggX9_chord_X9_in
set_option maxRecDepth 20000 in
theorem ggX9_chord_X9_onFrom : GoodIn wsX9_chord wsX9_onFrom := goodIn_sub (List.forall_mem_cons.mpr ⟨(ip_wsX9_chord__wsX9_chord_r5 _ (List.mem_of_getElem? (i := 10) rfl)), (x_ap2 (List.forall_mem_cons.mpr ⟨(ip_wsX9_chord__wsX9_chord_r1 _ (List.mem_of_getElem? (i := 18) rfl)), (List.forall_mem_cons.mpr ⟨(ip_wsX9_chord__wsX9_chord_r5 _ (List.mem_of_getElem? (i := 11) rfl)), (List.forall_mem_cons.mpr ⟨(ip_wsX9_chord__wsX9_chord_r5 _ (List.mem_of_getElem? (i := 12) rfl)), (List.forall_mem_cons.mpr ⟨(ip_wsX9_chord__wsX9_chord_r5 _ (List.mem_of_getElem? (i := 13) rfl)), (List.forall_mem_cons.mpr ⟨(ip_wsX9_chord__wsX9_chord_r1 _ (List.mem_of_getElem? (i := 8) rfl)), (List.forall_mem_cons.mpr ⟨(ip_wsX9_chord__wsX9_chord_r5 _ (List.mem_of_getElem? (i := 14) rfl)), (fun _ h => absurd h List.not_mem_nil)⟩)⟩)⟩)⟩)⟩)⟩) (fun _ h => (List.mem_cons_of_mem _ (List.mem_append_right _ h))))⟩) (by decide +kernel)
set_option maxRecDepth 20000 in
theorem gX9_chord_X9_onFrom : GoodIn wsX9_chord (wsV RX9 176 RX9 yX9_onFrom wsX9_onFrom) := goodIn_app (goodIn_of _ (by decide +kernel)) ggX9_chord_X9_onFrom
set_option maxRecDepth 20000 in
theorem ggX9_chord_X9_chordOf : GoodIn wsX9_chord wsX9_chordOf := goodIn_sub (List.forall_mem_cons.mpr ⟨(ip_wsX9_chord__wsX9_chord_r5 _ (List.mem_of_getElem? (i := 18) rfl)), (x_ap2 (x_ap2 (show ∀ w ∈ wsX9_chordOf_r1, w ∈ wsX9_chord from (List.forall_mem_cons.mpr ⟨(ip_wsX9_chord__wsX9_chord_r4 _ (List.mem_of_getElem? (i := 6) rfl)), (List.forall_mem_cons.mpr ⟨(ip_wsX9_chord__wsX9_chord_r3 _ (List.mem_of_getElem? (i := 7) rfl)), (List.forall_mem_cons.mpr ⟨(ip_wsX9_chord__wsX9_chord_r3 _ (List.mem_of_getElem? (i := 8) rfl)), (List.forall_mem_cons.mpr ⟨(ip_wsX9_chord__wsX9_chord_r3 _ (List.mem_of_getElem? (i := 9) rfl)), (List.forall_mem_cons.mpr ⟨(ip_wsX9_chord__wsX9_chord_r1 _ (List.mem_of_getElem? (i := 23) rfl)), (List.forall_mem_cons.mpr ⟨(ip_wsX9_chord__wsX9_chord_r5 _ (List.mem_of_getElem? (i := 19) rfl)), (List.forall_mem_cons.mpr ⟨(ip_wsX9_chord__wsX9_chord_r5 _ (List.mem_of_getElem? (i := 20) rfl)), (List.forall_mem_cons.mpr ⟨(ip_wsX9_chord__wsX9_chord_r5 _ (List.mem_of_getElem? (i := 21) rfl)), (List.forall_mem_cons.mpr ⟨(ip_wsX9_chord__wsX9_chord_r1 _ (List.mem_of_getElem? (i := 8) rfl)), (List.forall_mem_cons.mpr ⟨(ip_wsX9_chord__wsX9_chord_r5 _ (List.mem_of_getElem? (i := 22) rfl)), (List.forall_mem_cons.mpr ⟨(ip_wsX9_chord__wsX9_chord_r2 _ (List.mem_of_getElem? (i := 6) rfl)), (List.forall_mem_cons.mpr ⟨(ip_wsX9_chord__wsX9_chord_r2 _ (List.mem_of_getElem? (i := 7) rfl)), (List.forall_mem_cons.mpr ⟨(ip_wsX9_chord__wsX9_chord_r2 _ (List.mem_of_getElem? (i := 8) rfl)), (List.forall_mem_cons.mpr ⟨(ip_wsX9_chord__wsX9_chord_r2 _ (List.mem_of_getElem? (i := 9) rfl)), (List.forall_mem_cons.mpr ⟨(ip_wsX9_chord__wsX9_chord_r2 _ (List.mem_of_getElem? (i := 0) rfl)), (List.forall_mem_cons.mpr ⟨(ip_wsX9_chord__wsX9_chord_r3 _ (List.mem_of_getElem? (i := 19) rfl)), (List.forall_mem_cons.mpr ⟨(ip_wsX9_chord__wsX9_chord_r3 _ (List.mem_of_getElem? (i := 20) rfl)), (List.forall_mem_cons.mpr ⟨(ip_wsX9_chord__wsX9_chord_r3 _ (List.mem_of_getElem? (i := 21) rfl)), (List.forall_mem_cons.mpr ⟨(ip_wsX9_chord__wsX9_chord_r3 _ (List.mem_of_getElem? (i := 22) rfl)), (List.forall_mem_cons.mpr ⟨(ip_wsX9_chord__wsX9_chord_r1 _ (List.mem_of_getElem? (i := 0) rfl)), (List.forall_mem_cons.mpr ⟨(ip_wsX9_chord__wsX9_chord_r1 _ (List.mem_of_getElem? (i := 1) rfl)), (List.forall_mem_cons.mpr ⟨(ip_wsX9_chord__wsX9_chord_r1 _ (List.mem_of_getElem? (i := 2) rfl)), (List.forall_mem_cons.mpr ⟨(ip_wsX9_chord__wsX9_chord_r2 _ (List.mem_of_getElem? (i := 14) rfl)), (List.forall_mem_cons.mpr ⟨(ip_wsX9_chord__wsX9_chord_r2 _ (List.mem_of_getElem? (i := 15) rfl)), (fun _ h => absurd h List.not_mem_nil)⟩)⟩)⟩)⟩)⟩)⟩)⟩)⟩)⟩)⟩)⟩)⟩)⟩)⟩)⟩)⟩)⟩)⟩)⟩)⟩)⟩)⟩)⟩)⟩)) (show ∀ w ∈ wsX9_chordOf_r2, w ∈ wsX9_chord from (List.forall_mem_cons.mpr ⟨(ip_wsX9_chord__wsX9_chord_r2 _ (List.mem_of_getElem? (i := 16) rfl)), (List.forall_mem_cons.mpr ⟨(ip_wsX9_chord__wsX9_chord_r2 _ (List.mem_of_getElem? (i := 17) rfl)), (List.forall_mem_cons.mpr ⟨(ip_wsX9_chord__wsX9_chord_r2 _ (List.mem_of_getElem? (i := 18) rfl)), (List.forall_mem_cons.mpr ⟨(ip_wsX9_chord__wsX9_chord_r2 _ (List.mem_of_getElem? (i := 19) rfl)), (List.forall_mem_cons.mpr ⟨(ip_wsX9_chord__wsX9_chord_r2 _ (List.mem_of_getElem? (i := 20) rfl)), (List.forall_mem_cons.mpr ⟨(ip_wsX9_chord__wsX9_chord_r2 _ (List.mem_of_getElem? (i := 21) rfl)), (fun _ h => absurd h List.not_mem_nil)⟩)⟩)⟩)⟩)⟩)⟩))) (fun _ h => (List.mem_cons_of_mem _ (List.mem_append_right _ h))))⟩) (by decide +kernel)
set_option maxRecDepth 20000 in
theorem gX9_chord_X9_chordOf : GoodIn wsX9_chord (wsV RX9 208 RX9 yX9_chordOf wsX9_chordOf) := goodIn_app (goodIn_of _ (by decide +kernel)) ggX9_chord_X9_chordOf
set_option maxRecDepth 20000 in
theorem ggX9_chord_X9_multipleOf : GoodIn wsX9_chord wsX9_multipleOf := goodIn_sub (List.forall_mem_cons.mpr ⟨(ip_wsX9_chord__wsX9_chord_r6 _ (List.mem_of_getElem? (i := 2) rfl)), (x_ap2 (List.forall_mem_cons.mpr ⟨(ip_wsX9_chord__wsX9_chord_r1 _ (List.mem_of_getElem? (i := 3) rfl)), (List.forall_mem_cons.mpr ⟨(ip_wsX9_chord__wsX9_chord_r1 _ (List.mem_of_getElem? (i := 4) rfl)), (List.forall_mem_cons.mpr ⟨(ip_wsX9_chord__wsX9_chord_r6 _ (List.mem_of_getElem? (i := 3) rfl)), (List.forall_mem_cons.mpr ⟨(ip_wsX9_chord__wsX9_chord_r6 _ (List.mem_of_getElem? (i := 4) rfl)), (List.forall_mem_cons.mpr ⟨(ip_wsX9_chord__wsX9_chord_r6 _ (List.mem_of_getElem? (i := 5) rfl)), (List.forall_mem_cons.mpr ⟨(ip_wsX9_chord__wsX9_chord_r6 _ (List.mem_of_getElem? (i := 6) rfl)), (List.forall_mem_cons.mpr ⟨(ip_wsX9_chord__wsX9_chord_r1 _ (List.mem_of_getElem? (i := 8) rfl)), (List.forall_mem_cons.mpr ⟨(ip_wsX9_chord__wsX9_chord_r6 _ (List.mem_of_getElem? (i := 7) rfl)), (List.forall_mem_cons.mpr ⟨(ip_wsX9_chord__wsX9_chord_r1 _ (List.mem_of_getElem? (i := 16) rfl)), (List.forall_mem_cons.mpr ⟨(ip_wsX9_chord__wsX9_chord_r2 _ (List.mem_of_getElem? (i := 14) rfl)), (List.forall_mem_cons.mpr ⟨(ip_wsX9_chord__wsX9_chord_r2 _ (List.mem_of_getElem? (i := 15) rfl)), (List.forall_mem_cons.mpr ⟨(ip_wsX9_chord__wsX9_chord_r2 _ (List.mem_of_getElem? (i := 16) rfl)), (List.forall_mem_cons.mpr ⟨(ip_wsX9_chord__wsX9_chord_r2 _ (List.mem_of_getElem? (i := 17) rfl)), (List.forall_mem_cons.mpr ⟨(ip_wsX9_chord__wsX9_chord_r2 _ (List.mem_of_getElem? (i := 0) rfl)), (List.forall_mem_cons.mpr ⟨(ip_wsX9_chord__wsX9_chord_r2 _ (List.mem_of_getElem? (i := 18) rfl)), (List.forall_mem_cons.mpr ⟨(ip_wsX9_chord__wsX9_chord_r2 _ (List.mem_of_getElem? (i := 19) rfl)), (List.forall_mem_cons.mpr ⟨(ip_wsX9_chord__wsX9_chord_r2 _ (List.mem_of_getElem? (i := 20) rfl)), (List.forall_mem_cons.mpr ⟨(ip_wsX9_chord__wsX9_chord_r2 _ (List.mem_of_getElem? (i := 21) rfl)), (List.forall_mem_cons.mpr ⟨(ip_wsX9_chord__wsX9_chord_r2 _ (List.mem_of_getElem? (i := 6) rfl)), (List.forall_mem_cons.mpr ⟨(ip_wsX9_chord__wsX9_chord_r2 _ (List.mem_of_getElem? (i := 7) rfl)), (List.forall_mem_cons.mpr ⟨(ip_wsX9_chord__wsX9_chord_r2 _ (List.mem_of_getElem? (i := 8) rfl)), (List.forall_mem_cons.mpr ⟨(ip_wsX9_chord__wsX9_chord_r2 _ (List.mem_of_getElem? (i := 9) rfl)), (fun _ h => absurd h List.not_mem_nil)⟩)⟩)⟩)⟩)⟩)⟩)⟩)⟩)⟩)⟩)⟩)⟩)⟩)⟩)⟩)⟩)⟩)⟩)⟩)⟩)⟩)⟩) (fun _ h => (List.mem_cons_of_mem _ (List.mem_append_right _ h))))⟩) (by decide +kernel)
set_option maxRecDepth 20000 in
theorem gX9_chord_X9_multipleOf : GoodIn wsX9_chord (wsV RX9 194 RX9 yX9_multipleOf wsX9_multipleOf) := goodIn_app (goodIn_of _ (by decide +kernel)) ggX9_chord_X9_multipleOf
set_option maxRecDepth 20000 in
theorem ggX9_chord_X9_touching : GoodIn wsX9_chord wsX9_touching := goodIn_sub (List.forall_mem_cons.mpr ⟨(ip_wsX9_chord__wsX9_chord_r6 _ (List.mem_of_getElem? (i := 11) rfl)), (x_ap2 (List.forall_mem_cons.mpr ⟨(ip_wsX9_chord__wsX9_chord_r6 _ (List.mem_of_getElem? (i := 12) rfl)), (List.forall_mem_cons.mpr ⟨(ip_wsX9_chord__wsX9_chord_r2 _ (List.mem_of_getElem? (i := 5) rfl)), (List.forall_mem_cons.mpr ⟨(ip_wsX9_chord__wsX9_chord_r6 _ (List.mem_of_getElem? (i := 13) rfl)), (List.forall_mem_cons.mpr ⟨(ip_wsX9_chord__wsX9_chord_r6 _ (List.mem_of_getElem? (i := 14) rfl)), (List.forall_mem_cons.mpr ⟨(ip_wsX9_chord__wsX9_chord_r6 _ (List.mem_of_getElem? (i := 15) rfl)), (List.forall_mem_cons.mpr ⟨(ip_wsX9_chord__wsX9_chord_r1 _ (List.mem_of_getElem? (i := 8) rfl)), (List.forall_mem_cons.mpr ⟨(ip_wsX9_chord__wsX9_chord_r6 _ (List.mem_of_getElem? (i := 16) rfl)), (List.forall_mem_cons.mpr ⟨(ip_wsX9_chord__wsX9_chord_r1 _ (List.mem_of_getElem? (i := 23) rfl)), (List.forall_mem_cons.mpr ⟨(ip_wsX9_chord__wsX9_chord_r2 _ (List.mem_of_getElem? (i := 6) rfl)), (List.forall_mem_cons.mpr ⟨(ip_wsX9_chord__wsX9_chord_r2 _ (List.mem_of_getElem? (i := 7) rfl)), (List.forall_mem_cons.mpr ⟨(ip_wsX9_chord__wsX9_chord_r2 _ (List.mem_of_getElem? (i := 8) rfl)), (List.forall_mem_cons.mpr ⟨(ip_wsX9_chord__wsX9_chord_r2 _ (List.mem_of_getElem? (i := 9) rfl)), (List.forall_mem_cons.mpr ⟨(ip_wsX9_chord__wsX9_chord_r2 _ (List.mem_of_getElem? (i := 0) rfl)), (List.forall_mem_cons.mpr ⟨(ip_wsX9_chord__wsX9_chord_r2 _ (List.mem_of_getElem? (i := 1) rfl)), (List.forall_mem_cons.mpr ⟨(ip_wsX9_chord__wsX9_chord_r2 _ (List.mem_of_getElem? (i := 2) rfl)), (List.forall_mem_cons.mpr ⟨(ip_wsX9_chord__wsX9_chord_r2 _ (List.mem_of_getElem? (i := 3) rfl)), (List.forall_mem_cons.mpr ⟨(ip_wsX9_chord__wsX9_chord_r2 _ (List.mem_of_getElem? (i := 4) rfl)), (List.forall_mem_cons.mpr ⟨(ip_wsX9_chord__wsX9_chord_r3 _ (List.mem_of_getElem? (i := 10) rfl)), (List.forall_mem_cons.mpr ⟨(ip_wsX9_chord__wsX9_chord_r3 _ (List.mem_of_getElem? (i := 11) rfl)), (List.forall_mem_cons.mpr ⟨(ip_wsX9_chord__wsX9_chord_r3 _ (List.mem_of_getElem? (i := 12) rfl)), (List.forall_mem_cons.mpr ⟨(ip_wsX9_chord__wsX9_chord_r3 _ (List.mem_of_getElem? (i := 13) rfl)), (fun _ h => absurd h List.not_mem_nil)⟩)⟩)⟩)⟩)⟩)⟩)⟩)⟩)⟩)⟩)⟩)⟩)⟩)⟩)⟩)⟩)⟩)⟩)⟩)⟩)⟩) (fun _ h => (List.mem_cons_of_mem _ (List.mem_append_right _ h))))⟩) (by decide +kernel)
set_option maxRecDepth 20000 in
theorem gX9_chord_X9_touching : GoodIn wsX9_chord (wsV RX9 120 RX9 yX9_touching wsX9_touching) := goodIn_app (goodIn_of _ (by decide +kernel)) ggX9_chord_X9_touching
theorem dX9_chord_0 : decode cX9_chord 0 = .ok (.aload_n 0, 1) := by decide +kernel
theorem dX9_chord_1 : decode cX9_chord 1 = .ok (.invokevirtual 109, 3) := by decide +kernel
theorem dX9_chord_4 : decode cX9_chord 4 = .ok (.ifCond .ne 6, 3) := by decide +kernel
theorem dX9_chord_7 : decode cX9_chord 7 = .ok (.bipush (-5), 2) := by decide +kernel
theorem dX9_chord_9 : decode cX9_chord 9 = .ok (.ireturn, 1) := by decide +kernel
theorem dX9_chord_10 : decode cX9_chord 10 = .ok (.aload_n 0, 1) := by decide +kernel
theorem dX9_chord_11 : decode cX9_chord 11 = .ok (.iload_n 1, 1) := by decide +kernel
theorem dX9_chord_12 : decode cX9_chord 12 = .ok (.invokevirtual 166, 3) := by decide +kernel
theorem dX9_chord_15 : decode cX9_chord 15 = .ok (.ifCond .ne 5, 3) := by decide +kernel
theorem dX9_chord_18 : decode cX9_chord 18 = .ok (.iconst (-1), 1) := by decide +kernel
theorem dX9_chord_19 : decode cX9_chord 19 = .ok (.ireturn, 1) := by decide +kernel
theorem dX9_chord_20 : decode cX9_chord 20 = .ok (.iload_n 2, 1) := by decide +kernel
theorem dX9_chord_21 : decode cX9_chord 21 = .ok (.iconst 0, 1) := by decide +kernel
theorem dX9_chord_22 : decode cX9_chord 22 = .ok (.sipush 1000, 3) := by decide +kernel
theorem dX9_chord_25 : decode cX9_chord 25 = .ok (.invokestatic 62, 3) := by decide +kernel
theorem dX9_chord_28 : decode cX9_chord 28 = .ok (.ifCond .eq 12, 3) := by decide +kernel
theorem dX9_chord_31 : decode cX9_chord 31 = .ok (.iload_n 3, 1) := by decide +kernel
theorem dX9_chord_32 : decode cX9_chord 32 = .ok (.iconst 0, 1) := by decide +kernel
theorem dX9_chord_33 : decode cX9_chord 33 = .ok (.iconst 3, 1) := by decide +kernel
theorem dX9_chord_34 : decode cX9_chord 34 = .ok (.invokestatic 62, 3) := by decide +kernel
theorem dX9_chord_37 : decode cX9_chord 37 = .ok (.ifCond .ne 6, 3) := by decide +kernel
theorem dX9_chord_40 : decode cX9_chord 40 = .ok (.bipush (-2), 2) := by decide +kernel
theorem dX9_chord_42 : decode cX9_chord 42 = .ok (.ireturn, 1) := by decide +kernel
theorem dX9_chord_43 : decode cX9_chord 43 = .ok (.aload_n 0, 1) := by decide +kernel
theorem dX9_chord_44 : decode cX9_chord 44 = .ok (.iload_n 1, 1) := by decide +kernel
theorem dX9_chord_45 : decode cX9_chord 45 = .ok (.aload_n 0, 1) := by decide +kernel
theorem dX9_chord_46 : decode cX9_chord 46 = .ok (.iload_n 1, 1) := by decide +kernel
theorem dX9_chord_47 : decode cX9_chord 47 = .ok (.iload_n 2, 1) := by decide +kernel
theorem dX9_chord_48 : decode cX9_chord 48 = .ok (.invokevirtual 176, 3) := by decide +kernel
theorem dX9_chord_51 : decode cX9_chord 51 = .ok (.invokevirtual 208, 3) := by decide +kernel
theorem dX9_chord_54 : decode cX9_chord 54 = .ok (.iload_n 3, 1) := by decide +kernel
theorem dX9_chord_55 : decode cX9_chord 55 = .ok (.iconst 3, 1) := by decide +kernel
theorem dX9_chord_56 : decode cX9_chord 56 = .ok (.if_icmp .ge 31, 3) := by decide +kernel
theorem dX9_chord_59 : decode cX9_chord 59 = .ok (.iload_n 3, 1) := by decide +kernel
theorem dX9_chord_60 : decode cX9_chord 60 = .ok (.ifCond .ne 10, 3) := by decide +kernel
theorem dX9_chord_63 : decode cX9_chord 63 = .ok (.aload_n 0, 1) := by decide +kernel
theorem dX9_chord_64 : decode cX9_chord 64 = .ok (.getfield 124, 3) := by decide +kernel
theorem dX9_chord_67 : decode cX9_chord 67 = .ok (.goto 19, 3) := by decide +kernel
theorem dX9_chord_70 : decode cX9_chord 70 = .ok (.iload_n 3, 1) := by decide +kernel
theorem dX9_chord_71 : decode cX9_chord 71 = .ok (.iconst 1, 1) := by decide +kernel
theorem dX9_chord_72 : decode cX9_chord 72 = .ok (.if_icmp .ne 10, 3) := by decide +kernel
theorem dX9_chord_75 : decode cX9_chord 75 = .ok (.aload_n 0, 1) := by decide +kernel
theorem dX9_chord_76 : decode cX9_chord 76 = .ok (.getfield 127, 3) := by decide +kernel
theorem dX9_chord_79 : decode cX9_chord 79 = .ok (.goto 7, 3) := by decide +kernel
theorem dX9_chord_82 : decode cX9_chord 82 = .ok (.aload_n 0, 1) := by decide +kernel
theorem dX9_chord_83 : decode cX9_chord 83 = .ok (.getfield 130, 3) := by decide +kernel
theorem dX9_chord_86 : decode cX9_chord 86 = .ok (.ireturn, 1) := by decide +kernel
theorem dX9_chord_87 : decode cX9_chord 87 = .ok (.aload_n 0, 1) := by decide +kernel
theorem dX9_chord_88 : decode cX9_chord 88 = .ok (.iload_n 2, 1) := by decide +kernel
theorem dX9_chord_89 : decode cX9_chord 89 = .ok (.invokevirtual 194, 3) := by decide +kernel
theorem dX9_chord_92 : decode cX9_chord 92 = .ok (.aload_n 0, 1) := by decide +kernel
theorem dX9_chord_93 : decode cX9_chord 93 = .ok (.getfield 182, 3) := by decide +kernel
theorem dX9_chord_96 : decode cX9_chord 96 = .ok (.ifCond .eq 24, 3) := by decide +kernel
theorem dX9_chord_99 : decode cX9_chord 99 = .ok (.aload_n 0, 1) := by decide +kernel
theorem dX9_chord_100 : decode cX9_chord 100 = .ok (.iconst 1, 1) := by decide +kernel
theorem dX9_chord_101 : decode cX9_chord 101 = .ok (.iconst 0, 1) := by decide +kernel
theorem dX9_chord_102 : decode cX9_chord 102 = .ok (.aload_n 0, 1) := by decide +kernel
theorem dX9_chord_103 : decode cX9_chord 103 = .ok (.getfield 124, 3) := by decide +kernel
theorem dX9_chord_106 : decode cX9_chord 106 = .ok (.aload_n 0, 1) := by decide +kernel
theorem dX9_chord_107 : decode cX9_chord 107 = .ok (.getfield 127, 3) := by decide +kernel
theorem dX9_chord_110 : decode cX9_chord 110 = .ok (.aload_n 0, 1) := by decide +kernel
theorem dX9_chord_111 : decode cX9_chord 111 = .ok (.getfield 130, 3) := by decide +kernel
theorem dX9_chord_114 : decode cX9_chord 114 = .ok (.invokevirtual 120, 3) := by decide +kernel
theorem dX9_chord_117 : decode cX9_chord 117 = .ok (.goto 24, 3) := by decide +kernel
theorem dX9_chord_120 : decode cX9_chord 120 = .ok (.aload_n 0, 1) := by decide +kernel
theorem dX9_chord_121 : decode cX9_chord 121 = .ok (.aload_n 0, 1) := by decide +kernel
theorem dX9_chord_122 : decode cX9_chord 122 = .ok (.getfield 185, 3) := by decide +kernel
theorem dX9_chord_125 : decode cX9_chord 125 = .ok (.iconst 1, 1) := by decide +kernel
theorem dX9_chord_126 : decode cX9_chord 126 = .ok (.aload_n 0, 1) := by decide +kernel
theorem dX9_chord_127 : decode cX9_chord 127 = .ok (.getfield 124, 3) := by decide +kernel
theorem dX9_chord_130 : decode cX9_chord 130 = .ok (.aload_n 0, 1) := by decide +kernel
theorem dX9_chord_131 : decode cX9_chord 131 = .ok (.getfield 127, 3) := by decide +kernel
theorem dX9_chord_134 : decode cX9_chord 134 = .ok (.aload_n 0, 1) := by decide +kernel
theorem dX9_chord_135 : decode cX9_chord 135 = .ok (.getfield 130, 3) := by decide +kernel
theorem dX9_chord_138 : decode cX9_chord 138 = .ok (.invokevirtual 120, 3) := by decide +kernel
theorem dX9_chord_141 : decode cX9_chord 141 = .ok (.istore 4, 2) := by decide +kernel
theorem dX9_chord_143 : decode cX9_chord 143 = .ok (.iload 4, 2) := by decide +kernel
theorem dX9_chord_145 : decode cX9_chord 145 = .ok (.ifCond .ne 7, 3) := by decide +kernel
theorem dX9_chord_148 : decode cX9_chord 148 = .ok (.iconst 1, 1) := by decide +kernel
theorem dX9_chord_149 : decode cX9_chord 149 = .ok (.goto 4, 3) := by decide +kernel
theorem dX9_chord_152 : decode cX9_chord 152 = .ok (.iconst 0, 1) := by decide +kernel
theorem dX9_chord_153 : decode cX9_chord 153 = .ok (.ireturn, 1) := by decide +kernel
theorem ip_wsX9_all__wsX9_all_r1 : ∀ w ∈ wsX9_all_r1, w ∈ wsX9_all := fun _ h => (List.mem_cons_of_mem _ (List.mem_append_left _ (List.mem_append_left _ h)))
theorem ip_wsX9_all__wsX9_all_r2 : ∀ w ∈ wsX9_all_r2, w ∈ wsX9_all := fun _ h => (List.mem_cons_of_mem _ (List.mem_append_left _ (List.mem_append_right _ (List.mem_append_left _ h))))
theorem ip_wsX9_all__wsX9_all_r3 : ∀ w ∈ wsX9_all_r3, w ∈ wsX9_all := fun _ h => (List.mem_cons_of_mem _ (List.mem_append_left _ (List.mem_append_right _ (List.mem_append_right _ (List.mem_append_left _ h)))))
theorem ip_wsX9_all__wsX9_all_r4 : ∀ w ∈ wsX9_all_r4, w ∈ wsX9_all := fun _ h => (List.mem_cons_of_mem _ (List.mem_append_left _ (List.mem_append_right _ (List.mem_append_right _ (List.mem_append_right _ (List.mem_append_left _ h))))))
theorem ip_wsX9_all__wsX9_all_r5 : ∀ w ∈ wsX9_all_r5, w ∈ wsX9_all := fun _ h => (List.mem_cons_of_mem _ (List.mem_append_left _ (List.mem_append_right _ (List.mem_append_right _ (List.mem_append_right _ (List.mem_append_right _ (List.mem_append_left _ h)))))))
theorem ip_wsX9_all__wsX9_all_r6 : ∀ w ∈ wsX9_all_r6, w ∈ wsX9_all := fun _ h => (List.mem_cons_of_mem _ (List.mem_append_left _ (List.mem_append_right _ (List.mem_append_right _ (List.mem_append_right _ (List.mem_append_right _ (List.mem_append_right _ h)))))))
set_option maxRecDepth 20000 in
theorem ggX9_all_X9_isGood : GoodIn wsX9_all wsX9_isGood := goodIn_sub (List.forall_mem_cons.mpr ⟨(ip_wsX9_all__wsX9_all_r1 _ (List.mem_of_getElem? (i := 8) rfl)), (x_ap2 (x_ap2 (show ∀ w ∈ wsX9_isGood_r1, w ∈ wsX9_all from (List.forall_mem_cons.mpr ⟨(ip_wsX9_all__wsX9_all_r1 _ (List.mem_of_getElem? (i := 9) rfl)), (List.forall_mem_cons.mpr ⟨(ip_wsX9_all__wsX9_all_r1 _ (List.mem_of_getElem? (i := 10) rfl)), (List.forall_mem_cons.mpr ⟨(ip_wsX9_all__wsX9_all_r1 _ (List.mem_of_getElem? (i := 11) rfl)), (List.forall_mem_cons.mpr ⟨(ip_wsX9_all__wsX9_all_r1 _ (List.mem_of_getElem? (i := 12) rfl)), (List.forall_mem_cons.mpr ⟨(ip_wsX9_all__wsX9_all_r1 _ (List.mem_of_getElem? (i := 7) rfl)), (List.forall_mem_cons.mpr ⟨(ip_wsX9_all__wsX9_all_r1 _ (List.mem_of_getElem? (i := 13) rfl)), (List.forall_mem_cons.mpr ⟨(ip_wsX9_all__wsX9_all_r1 _ (List.mem_of_getElem? (i := 14) rfl)), (List.forall_mem_cons.mpr ⟨(ip_wsX9_all__wsX9_all_r1 _ (List.mem_of_getElem? (i := 15) rfl)), (List.forall_mem_cons.mpr ⟨(ip_wsX9_all__wsX9_all_r1 _ (List.mem_of_getElem? (i := 0) rfl)), (List.forall_mem_cons.mpr ⟨(ip_wsX9_all__wsX9_all_r1 _ (List.mem_of_getElem? (i := 16) rfl)), (List.forall_mem_cons.mpr ⟨(ip_wsX9_all__wsX9_all_r1 _ (List.mem_of_getElem? (i := 17) rfl)), (List.forall_mem_cons.mpr ⟨(ip_wsX9_all__wsX9_all_r1 _ (List.mem_of_getElem? (i := 18) rfl)), (List.forall_mem_cons.mpr ⟨(ip_wsX9_all__wsX9_all_r1 _ (List.mem_of_getElem? (i := 19) rfl)), (List.forall_mem_cons.mpr ⟨(ip_wsX9_all__wsX9_all_r1 _ (List.mem_of_getElem? (i := 20) rfl)), (List.forall_mem_cons.mpr ⟨(ip_wsX9_all__wsX9_all_r1 _ (List.mem_of_getElem? (i := 21) rfl)), (List.forall_mem_cons.mpr ⟨(ip_wsX9_all__wsX9_all_r1 _ (List.mem_of_getElem? (i := 22) rfl)), (List.forall_mem_cons.mpr ⟨(ip_wsX9_all__wsX9_all_r1 _ (List.mem_of_getElem? (i := 23) rfl)), (List.forall_mem_cons.mpr ⟨(ip_wsX9_all__wsX9_all_r2 _ (List.mem_of_getElem? (i := 0) rfl)), (List.forall_mem_cons.mpr ⟨(ip_wsX9_all__wsX9_all_r2 _ (List.mem_of_getElem? (i := 1) rfl)), (List.forall_mem_cons.mpr ⟨(ip_wsX9_all__wsX9_all_r2 _ (List.mem_of_getElem? (i := 2) rfl)), (List.forall_mem_cons.mpr ⟨(ip_wsX9_all__wsX9_all_r2 _ (List.mem_of_getElem? (i := 3) rfl)), (List.forall_mem_cons.mpr ⟨(ip_wsX9_all__wsX9_all_r2 _ (List.mem_of_getElem? (i := 4) rfl)), (List.forall_mem_cons.mpr ⟨(ip_wsX9_all__wsX9_all_r2 _ (List.mem_of_getElem? (i := 5) rfl)), (List.forall_mem_cons.mpr ⟨(ip_wsX9_all__wsX9_all_r2 _ (List.mem_of_getElem? (i := 6) rfl)), (fun _ h => absurd h List.not_mem_nil)⟩)⟩)⟩)⟩)⟩)⟩)⟩)⟩)⟩)⟩)⟩)⟩)⟩)⟩)⟩)⟩)⟩)⟩)⟩)⟩)⟩)⟩)⟩)⟩)) (x_ap2 (show ∀ w ∈ wsX9_isGood_r2, w ∈ wsX9_all from (List.forall_mem_cons.mpr ⟨(ip_wsX9_all__wsX9_all_r2 _ (List.mem_of_getElem? (i := 7) rfl)), (List.forall_mem_cons.mpr ⟨(ip_wsX9_all__wsX9_all_r2 _ (List.mem_of_getElem? (i := 8) rfl)), (List.forall_mem_cons.mpr ⟨(ip_wsX9_all__wsX9_all_r2 _ (List.mem_of_getElem? (i := 9) rfl)), (List.forall_mem_cons.mpr ⟨(ip_wsX9_all__wsX9_all_r2 _ (List.mem_of_getElem? (i := 10) rfl)), (List.forall_mem_cons.mpr ⟨(ip_wsX9_all__wsX9_all_r2 _ (List.mem_of_getElem? (i := 11) rfl)), (List.forall_mem_cons.mpr ⟨(ip_wsX9_all__wsX9_all_r2 _ (List.mem_of_getElem? (i := 12) rfl)), (List.forall_mem_cons.mpr ⟨(ip_wsX9_all__wsX9_all_r2 _ (List.mem_of_getElem? (i := 13) rfl)), (List.forall_mem_cons.mpr ⟨(ip_wsX9_all__wsX9_all_r2 _ (List.mem_of_getElem? (i := 14) rfl)), (List.forall_mem_cons.mpr ⟨(ip_wsX9_all__wsX9_all_r2 _ (List.mem_of_getElem? (i := 15) rfl)), (List.forall_mem_cons.mpr ⟨(ip_wsX9_all__wsX9_all_r2 _ (List.mem_of_getElem? (i := 16) rfl)), (List.forall_mem_cons.mpr ⟨(ip_wsX9_all__wsX9_all_r2 _ (List.mem_of_getElem? (i := 17) rfl)), (List.forall_mem_cons.mpr ⟨(ip_wsX9_all__wsX9_all_r2 _ (List.mem_of_getElem? (i := 18) rfl)), (List.forall_mem_cons.mpr ⟨(ip_wsX9_all__wsX9_all_r2 _ (List.mem_of_getElem? (i := 19) rfl)), (List.forall_mem_cons.mpr ⟨(ip_wsX9_all__wsX9_all_r2 _ (List.mem_of_getElem? (i := 20) rfl)), (List.forall_mem_cons.mpr ⟨(ip_wsX9_all__wsX9_all_r2 _ (List.mem_of_getElem? (i := 21) rfl)), (List.forall_mem_cons.mpr ⟨(ip_wsX9_all__wsX9_all_r2 _ (List.mem_of_getElem? (i := 22) rfl)), (List.forall_mem_cons.mpr ⟨(ip_wsX9_all__wsX9_all_r2 _ (List.mem_of_getElem? (i := 23) rfl)), (List.forall_mem_cons.mpr ⟨(ip_wsX9_all__wsX9_all_r3 _ (List.mem_of_getElem? (i := 0) rfl)), (List.forall_mem_cons.mpr ⟨(ip_wsX9_all__wsX9_all_r3 _ (List.mem_of_getElem? (i := 1) rfl)), (List.forall_mem_cons.mpr ⟨(ip_wsX9_all__wsX9_all_r3 _ (List.mem_of_getElem? (i := 2) rfl)), (List.forall_mem_cons.mpr ⟨(ip_wsX9_all__wsX9_all_r3 _ (List.mem_of_getElem? (i := 3) rfl)), (List.forall_mem_cons.mpr ⟨(ip_wsX9_all__wsX9_all_r3 _ (List.mem_of_getElem? (i := 4) rfl)), (List.forall_mem_cons.mpr ⟨(ip_wsX9_all__wsX9_all_r3 _ (List.mem_of_getElem? (i := 5) rfl)), (List.forall_mem_cons.mpr ⟨(ip_wsX9_all__wsX9_all_r3 _ (List.mem_of_getElem? (i := 6) rfl)), (fun _ h => absurd h List.not_mem_nil)⟩)⟩)⟩)⟩)⟩)⟩)⟩)⟩)⟩)⟩)⟩)⟩)⟩)⟩)⟩)⟩)⟩)⟩)⟩)⟩)⟩)⟩)⟩)⟩)) (x_ap2 (show ∀ w ∈ wsX9_isGood_r3, w ∈ wsX9_all from (List.forall_mem_cons.mpr ⟨(ip_wsX9_all__wsX9_all_r3 _ (List.mem_of_getElem? (i := 7) rfl)), (List.forall_mem_cons.mpr ⟨(ip_wsX9_all__wsX9_all_r3 _ (List.mem_of_getElem? (i := 8) rfl)), (List.forall_mem_cons.mpr ⟨(ip_wsX9_all__wsX9_all_r3 _ (List.mem_of_getElem? (i := 9) rfl)), (List.forall_mem_cons.mpr ⟨(ip_wsX9_all__wsX9_all_r3 _ (List.mem_of_getElem? (i := 10) rfl)), (List.forall_mem_cons.mpr ⟨(ip_wsX9_all__wsX9_all_r3 _ (List.mem_of_getElem? (i := 11) rfl)), (List.forall_mem_cons.mpr ⟨(ip_wsX9_all__wsX9_all_r3 _ (List.mem_of_getElem? (i := 12) rfl)), (List.forall_mem_cons.mpr ⟨(ip_wsX9_all__wsX9_all_r3 _ (List.mem_of_getElem? (i := 13) rfl)), (List.forall_mem_cons.mpr ⟨(ip_wsX9_all__wsX9_all_r3 _ (List.mem_of_getElem? (i := 14) rfl)), (List.forall_mem_cons.mpr ⟨(ip_wsX9_all__wsX9_all_r3 _ (List.mem_of_getElem? (i := 15) rfl)), (List.forall_mem_cons.mpr ⟨(ip_wsX9_all__wsX9_all_r1 _ (List.mem_of_getElem? (i := 1) rfl)), (List.forall_mem_cons.mpr ⟨(ip_wsX9_all__wsX9_all_r1 _ (List.mem_of_getElem? (i := 2) rfl)), (List.forall_mem_cons.mpr ⟨(ip_wsX9_all__wsX9_all_r1 _ (List.mem_of_getElem? (i := 3) rfl)), (List.forall_mem_cons.mpr ⟨(ip_wsX9_all__wsX9_all_r3 _ (List.mem_of_getElem? (i := 16) rfl)), (List.forall_mem_cons.mpr ⟨(ip_wsX9_all__wsX9_all_r3 _ (List.mem_of_getElem? (i := 17) rfl)), (List.forall_mem_cons.mpr ⟨(ip_wsX9_all__wsX9_all_r3 _ (List.mem_of_getElem? (i := 18) rfl)), (List.forall_mem_cons.mpr ⟨(ip_wsX9_all__wsX9_all_r3 _ (List.mem_of_getElem? (i := 19) rfl)), (List.forall_mem_cons.mpr ⟨(ip_wsX9_all__wsX9_all_r3 _ (List.mem_of_getElem? (i := 20) rfl)), (List.forall_mem_cons.mpr ⟨(ip_wsX9_all__wsX9_all_r3 _ (List.mem_of_getElem? (i := 21) rfl)), (List.forall_mem_cons.mpr ⟨(ip_wsX9_all__wsX9_all_r3 _ (List.mem_of_getElem? (i := 22) rfl)), (List.forall_mem_cons.mpr ⟨(ip_wsX9_all__wsX9_all_r3 _ (List.mem_of_getElem? (i := 23) rfl)), (List.forall_mem_cons.mpr ⟨(ip_wsX9_all__wsX9_all_r4 _ (List.mem_of_getElem? (i := 0) rfl)), (List.forall_mem_cons.mpr ⟨(ip_wsX9_all__wsX9_all_r4 _ (List.mem_of_getElem? (i := 1) rfl)), (List.forall_mem_cons.mpr ⟨(ip_wsX9_all__wsX9_all_r4 _ (List.mem_of_getElem? (i := 2) rfl)), (List.forall_mem_cons.mpr ⟨(ip_wsX9_all__wsX9_all_r4 _ (List.mem_of_getElem? (i := 3) rfl)), (fun _ h => absurd h List.not_mem_nil)⟩)⟩)⟩)⟩)⟩)⟩)⟩)⟩)⟩)⟩)⟩)⟩)⟩)⟩)⟩)⟩)⟩)⟩)⟩)⟩)⟩)⟩)⟩)⟩)) (show ∀ w ∈ wsX9_isGood_r4, w ∈ wsX9_all from (List.forall_mem_cons.mpr ⟨(ip_wsX9_all__wsX9_all_r4 _ (List.mem_of_getElem? (i := 4) rfl)), (List.forall_mem_cons.mpr ⟨(ip_wsX9_all__wsX9_all_r4 _ (List.mem_of_getElem? (i := 5) rfl)), (List.forall_mem_cons.mpr ⟨(ip_wsX9_all__wsX9_all_r4 _ (List.mem_of_getElem? (i := 6) rfl)), (List.forall_mem_cons.mpr ⟨(ip_wsX9_all__wsX9_all_r4 _ (List.mem_of_getElem? (i := 7) rfl)), (List.forall_mem_cons.mpr ⟨(ip_wsX9_all__wsX9_all_r4 _ (List.mem_of_getElem? (i := 8) rfl)), (List.forall_mem_cons.mpr ⟨(ip_wsX9_all__wsX9_all_r4 _ (List.mem_of_getElem? (i := 9) rfl)), (List.forall_mem_cons.mpr ⟨(ip_wsX9_all__wsX9_all_r4 _ (List.mem_of_getElem? (i := 10) rfl)), (List.forall_mem_cons.mpr ⟨(ip_wsX9_all__wsX9_all_r4 _ (List.mem_of_getElem? (i := 11) rfl)), (List.forall_mem_cons.mpr ⟨(ip_wsX9_all__wsX9_all_r4 _ (List.mem_of_getElem? (i := 12) rfl)), (List.forall_mem_cons.mpr ⟨(ip_wsX9_all__wsX9_all_r4 _ (List.mem_of_getElem? (i := 13) rfl)), (List.forall_mem_cons.mpr ⟨(ip_wsX9_all__wsX9_all_r4 _ (List.mem_of_getElem? (i := 14) rfl)), (List.forall_mem_cons.mpr ⟨(ip_wsX9_all__wsX9_all_r4 _ (List.mem_of_getElem? (i := 15) rfl)), (List.forall_mem_cons.mpr ⟨(ip_wsX9_all__wsX9_all_r4 _ (List.mem_of_getElem? (i := 16) rfl)), (List.forall_mem_cons.mpr ⟨(ip_wsX9_all__wsX9_all_r4 _ (List.mem_of_getElem? (i := 17) rfl)), (List.forall_mem_cons.mpr ⟨(ip_wsX9_all__wsX9_all_r4 _ (List.mem_of_getElem? (i := 18) rfl)), (List.forall_mem_cons.mpr ⟨(ip_wsX9_all__wsX9_all_r4 _ (List.mem_of_getElem? (i := 19) rfl)), (List.forall_mem_cons.mpr ⟨(ip_wsX9_all__wsX9_all_r4 _ (List.mem_of_getElem? (i := 20) rfl)), (List.forall_mem_cons.mpr ⟨(ip_wsX9_all__wsX9_all_r4 _ (List.mem_of_getElem? (i := 21) rfl)), (fun _ h => absurd h List.not_mem_nil)⟩)⟩)⟩)⟩)⟩)⟩)⟩)⟩)⟩)⟩)⟩)⟩)⟩)⟩)⟩)⟩)⟩)⟩))))) (fun _ h => (List.mem_cons_of_mem _ (List.mem_append_right _ h))))⟩) (by decide +kernel)
set_option maxRecDepth 20000 in
theorem gX9_all_X9_isGood : GoodIn wsX9_all (wsV RX9 109 RX9 yX9_isGood wsX9_isGood) := goodIn_app (goodIn_of _ (by decide +kernel)) ggX9_all_X9_isGood
set_option maxRecDepth 20000 in
theorem ggX9_all_X9_in : GoodIn wsX9_all wsX9_in := goodIn_sub (List.forall_mem_cons.mpr ⟨(ip_wsX9_all__wsX9_all_r5 _ (List.mem_of_getElem? (i := 0) rfl)), (fun _ h => absurd h List.not_mem_nil)⟩) (by decide +kernel)
set_option maxRecDepth 20000 in
theorem gX9_all_X9_in : GoodIn wsX9_all (va_wsS RX9 62 yX9_in wsX9_in) := goodIn_app (goodIn_of _ (by decide +kernel)) ggX9_all_X9_in
set_option maxRecDepth 20000 in
theorem ggX9_all_X9_isNumber : GoodIn wsX9_all wsX9_isNumber := goodIn_sub (List.forall_mem_cons.mpr ⟨(ip_wsX9_all__wsX9_all_r5 _ (List.mem_of_getElem? (i := 4) rfl)), (x_ap2 (List.forall_mem_cons.mpr ⟨(ip_wsX9_all__wsX9_all_r1 _ (List.mem_of_getElem? (i := 22) rfl)), (List.forall_mem_cons.mpr ⟨(ip_wsX9_all__wsX9_all_r4 _ (List.mem_of_getElem? (i := 22) rfl)), (List.forall_mem_cons.mpr ⟨(ip_wsX9_all__wsX9_all_r4 _ (List.mem_of_getElem? (i := 23) rfl)), (List.forall_mem_cons.mpr ⟨(ip_wsX9_all__wsX9_all_r1 _ (List.mem_of_getElem? (i := 7) rfl)), (List.forall_mem_cons.mpr ⟨(ip_wsX9_all__wsX9_all_r5 _ (List.mem_of_getElem? (i := 0) rfl)), (fun _ h => absurd h List.not_mem_nil)⟩)⟩)⟩)⟩)⟩) (fun _ h => (List.mem_cons_of_mem _ (List.mem_append_right _ h))))⟩) (by decide +kernel)
set_option maxRecDepth 20000 in
theorem gX9_all_X9_isNumber : GoodIn wsX9_all (wsV RX9 70 RX9 yX9_isNumber wsX9_isNumber) := goodIn_app (goodIn_of _ (by decide +kernel)) ggX9_all_X9_isNumber
set_option maxRecDepth 20000 in
theorem ggX9_all_X9_onFrom : GoodIn wsX9_all wsX9_onFrom := goodIn_sub (List.forall_mem_cons.mpr ⟨(ip_wsX9_all__wsX9_all_r5 _ (List.mem_of_getElem? (i := 8) rfl)), (x_ap2 (List.forall_mem_cons.mpr ⟨(ip_wsX9_all__wsX9_all_r1 _ (List.mem_of_getElem? (i := 16) rfl)), (List.forall_mem_cons.mpr ⟨(ip_wsX9_all__wsX9_all_r5 _ (List.mem_of_getElem? (i := 9) rfl)), (List.forall_mem_cons.mpr ⟨(ip_wsX9_all__wsX9_all_r5 _ (List.mem_of_getElem? (i := 10) rfl)), (List.forall_mem_cons.mpr ⟨(ip_wsX9_all__wsX9_all_r5 _ (List.mem_of_getElem? (i := 11) rfl)), (List.forall_mem_cons.mpr ⟨(ip_wsX9_all__wsX9_all_r1 _ (List.mem_of_getElem? (i := 7) rfl)), (List.forall_mem_cons.mpr ⟨(ip_wsX9_all__wsX9_all_r5 _ (List.mem_of_getElem? (i := 12) rfl)), (fun _ h => absurd h List.not_mem_nil)⟩)⟩)⟩)⟩)⟩)⟩) (fun _ h => (List.mem_cons_of_mem _ (List.mem_append_right _ h))))⟩) (by decide +kernel)
set_option maxRecDepth 20000 in
theorem gX9_all_X9_onFrom : GoodIn wsX9_all (wsV RX9 176 RX9 yX9_onFrom wsX9_onFrom) := goodIn_app (goodIn_of _ (by decide +kernel)) ggX9_all_X9_onFrom
set_option maxRecDepth 20000 in
theorem ggX9_all_X9_chordOf : GoodIn wsX9_all wsX9_chordOf := goodIn_sub (List.forall_mem_cons.mpr ⟨(ip_wsX9_all__wsX9_all_r5 _ (List.mem_of_getElem? (i := 16) rfl)), (x_ap2 (x_ap2 (show ∀ w ∈ wsX9_chordOf_r1, w ∈ wsX9_all from (List.forall_mem_cons.mpr ⟨(ip_wsX9_all__wsX9_all_r4 _ (List.mem_of_getElem? (i := 4) rfl)), (List.forall_mem_cons.mpr ⟨(ip_wsX9_all__wsX9_all_r3 _ (List.mem_of_getElem? (i := 5) rfl)), (List.forall_mem_cons.mpr ⟨(ip_wsX9_all__wsX9_all_r3 _ (List.mem_of_getElem? (i := 6) rfl)), (List.forall_mem_cons.mpr ⟨(ip_wsX9_all__wsX9_all_r3 _ (List.mem_of_getElem? (i := 7) rfl)), (List.forall_mem_cons.mpr ⟨(ip_wsX9_all__wsX9_all_r1 _ (List.mem_of_getElem? (i := 21) rfl)), (List.forall_mem_cons.mpr ⟨(ip_wsX9_all__wsX9_all_r5 _ (List.mem_of_getElem? (i := 17) rfl)), (List.forall_mem_cons.mpr ⟨(ip_wsX9_all__wsX9_all_r5 _ (List.mem_of_getElem? (i := 18) rfl)), (List.forall_mem_cons.mpr ⟨(ip_wsX9_all__wsX9_all_r5 _ (List.mem_of_getElem? (i := 19) rfl)), (List.forall_mem_cons.mpr ⟨(ip_wsX9_all__wsX9_all_r1 _ (List.mem_of_getElem? (i := 7) rfl)), (List.forall_mem_cons.mpr ⟨(ip_wsX9_all__wsX9_all_r5 _ (List.mem_of_getElem? (i := 20) rfl)), (List.forall_mem_cons.mpr ⟨(ip_wsX9_all__wsX9_all_r2 _ (List.mem_of_getElem? (i := 4) rfl)), (List.forall_mem_cons.mpr ⟨(ip_wsX9_all__wsX9_all_r2 _ (List.mem_of_getElem? (i := 5) rfl)), (List.forall_mem_cons.mpr ⟨(ip_wsX9_all__wsX9_all_r2 _ (List.mem_of_getElem? (i := 6) rfl)), (List.forall_mem_cons.mpr ⟨(ip_wsX9_all__wsX9_all_r2 _ (List.mem_of_getElem? (i := 7) rfl)), (List.forall_mem_cons.mpr ⟨(ip_wsX9_all__wsX9_all_r1 _ (List.mem_of_getElem? (i := 22) rfl)), (List.forall_mem_cons.mpr ⟨(ip_wsX9_all__wsX9_all_r3 _ (List.mem_of_getElem? (i := 17) rfl)), (List.forall_mem_cons.mpr ⟨(ip_wsX9_all__wsX9_all_r3 _ (List.mem_of_getElem? (i := 18) rfl)), (List.forall_mem_cons.mpr ⟨(ip_wsX9_all__wsX9_all_r3 _ (List.mem_of_getElem? (i := 19) rfl)), (List.forall_mem_cons.mpr ⟨(ip_wsX9_all__wsX9_all_r3 _ (List.mem_of_getElem? (i := 20) rfl)), (List.forall_mem_cons.mpr ⟨(ip_wsX9_all__wsX9_all_r1 _ (List.mem_of_getElem? (i := 1) rfl)), (List.forall_mem_cons.mpr ⟨(ip_wsX9_all__wsX9_all_r1 _ (List.mem_of_getElem? (i := 2) rfl)), (List.forall_mem_cons.mpr ⟨(ip_wsX9_all__wsX9_all_r1 _ (List.mem_of_getElem? (i := 3) rfl)), (List.forall_mem_cons.mpr ⟨(ip_wsX9_all__wsX9_all_r2 _ (List.mem_of_getElem? (i := 12) rfl)), (List.forall_mem_cons.mpr ⟨(ip_wsX9_all__wsX9_all_r2 _ (List.mem_of_getElem? (i := 13) rfl)), (fun _ h => absurd h List.not_mem_nil)⟩)⟩)⟩)⟩)⟩)⟩)⟩)⟩)⟩)⟩)⟩)⟩)⟩)⟩)⟩)⟩)⟩)⟩)⟩)⟩)⟩)⟩)⟩)⟩)) (show ∀ w ∈ wsX9_chordOf_r2, w ∈ wsX9_all from (List.forall_mem_cons.mpr ⟨(ip_wsX9_all__wsX9_all_r2 _ (List.mem_of_getElem? (i := 14) rfl)), (List.forall_mem_cons.mpr ⟨(ip_wsX9_all__wsX9_all_r2 _ (List.mem_of_getElem? (i := 15) rfl)), (List.forall_mem_cons.mpr ⟨(ip_wsX9_all__wsX9_all_r2 _ (List.mem_of_getElem? (i := 16) rfl)), (List.forall_mem_cons.mpr ⟨(ip_wsX9_all__wsX9_all_r2 _ (List.mem_of_getElem? (i := 17) rfl)), (List.forall_mem_cons.mpr ⟨(ip_wsX9_all__wsX9_all_r2 _ (List.mem_of_getElem? (i := 18) rfl)), (List.forall_mem_cons.mpr ⟨(ip_wsX9_all__wsX9_all_r2 _ (List.mem_of_getElem? (i := 19) rfl)), (fun _ h => absurd h List.not_mem_nil)⟩)⟩)⟩)⟩)⟩)⟩))) (fun _ h => (List.mem_cons_of_mem _ (List.mem_append_right _ h))))⟩) (by decide +kernel)
set_option maxRecDepth 20000 in
theorem gX9_all_X9_chordOf : GoodIn wsX9_all (wsV RX9 208 RX9 yX9_chordOf wsX9_chordOf) := goodIn_app (goodIn_of _ (by decide +kernel)) ggX9_all_X9_chordOf
set_option maxRecDepth 20000 in
theorem ggX9_all_X9_touching : GoodIn wsX9_all wsX9_touching := goodIn_sub (List.forall_mem_cons.mpr ⟨(ip_wsX9_all__wsX9_all_r6 _ (List.mem_of_getElem? (i := 0) rfl)), (x_ap2 (List.forall_mem_cons.mpr ⟨(ip_wsX9_all__wsX9_all_r6 _ (List.mem_of_getElem? (i := 1) rfl)), (List.forall_mem_cons.mpr ⟨(ip_wsX9_all__wsX9_all_r2 _ (List.mem_of_getElem? (i := 3) rfl)), (List.forall_mem_cons.mpr ⟨(ip_wsX9_all__wsX9_all_r6 _ (List.mem_of_getElem? (i := 2) rfl)), (List.forall_mem_cons.mpr ⟨(ip_wsX9_all__wsX9_all_r6 _ (List.mem_of_getElem? (i := 3) rfl)), (List.forall_mem_cons.mpr ⟨(ip_wsX9_all__wsX9_all_r6 _ (List.mem_of_getElem? (i := 4) rfl)), (List.forall_mem_cons.mpr ⟨(ip_wsX9_all__wsX9_all_r1 _ (List.mem_of_getElem? (i := 7) rfl)), (List.forall_mem_cons.mpr ⟨(ip_wsX9_all__wsX9_all_r6 _ (List.mem_of_getElem? (i := 5) rfl)), (List.forall_mem_cons.mpr ⟨(ip_wsX9_all__wsX9_all_r1 _ (List.mem_of_getElem? (i := 21) rfl)), (List.forall_mem_cons.mpr ⟨(ip_wsX9_all__wsX9_all_r2 _ (List.mem_of_getElem? (i := 4) rfl)), (List.forall_mem_cons.mpr ⟨(ip_wsX9_all__wsX9_all_r2 _ (List.mem_of_getElem? (i := 5) rfl)), (List.forall_mem_cons.mpr ⟨(ip_wsX9_all__wsX9_all_r2 _ (List.mem_of_getElem? (i := 6) rfl)), (List.forall_mem_cons.mpr ⟨(ip_wsX9_all__wsX9_all_r2 _ (List.mem_of_getElem? (i := 7) rfl)), (List.forall_mem_cons.mpr ⟨(ip_wsX9_all__wsX9_all_r1 _ (List.mem_of_getElem? (i := 22) rfl)), (List.forall_mem_cons.mpr ⟨(ip_wsX9_all__wsX9_all_r1 _ (List.mem_of_getElem? (i := 23) rfl)), (List.forall_mem_cons.mpr ⟨(ip_wsX9_all__wsX9_all_r2 _ (List.mem_of_getElem? (i := 0) rfl)), (List.forall_mem_cons.mpr ⟨(ip_wsX9_all__wsX9_all_r2 _ (List.mem_of_getElem? (i := 1) rfl)), (List.forall_mem_cons.mpr ⟨(ip_wsX9_all__wsX9_all_r2 _ (List.mem_of_getElem? (i := 2) rfl)), (List.forall_mem_cons.mpr ⟨(ip_wsX9_all__wsX9_all_r3 _ (List.mem_of_getElem? (i := 8) rfl)), (List.forall_mem_cons.mpr ⟨(ip_wsX9_all__wsX9_all_r3 _ (List.mem_of_getElem? (i := 9) rfl)), (List.forall_mem_cons.mpr ⟨(ip_wsX9_all__wsX9_all_r3 _ (List.mem_of_getElem? (i := 10) rfl)), (List.forall_mem_cons.mpr ⟨(ip_wsX9_all__wsX9_all_r3 _ (List.mem_of_getElem? (i := 11) rfl)), (fun _ h => absurd h List.not_mem_nil)⟩)⟩)⟩)⟩)⟩)⟩)⟩)⟩)⟩)⟩)⟩)⟩)⟩)⟩)⟩)⟩)⟩)⟩)⟩)⟩)⟩) (fun _ h => (List.mem_cons_of_mem _ (List.mem_append_right _ h))))⟩) (by decide +kernel)
set_option maxRecDepth 20000 in
theorem gX9_all_X9_touching : GoodIn wsX9_all (wsV RX9 120 RX9 yX9_touching wsX9_touching) := goodIn_app (goodIn_of _ (by decide +kernel)) ggX9_all_X9_touching
theorem dX9_all_0 : decode cX9_all 0 = .ok (.aload_n 0, 1) := by decide +kernel
theorem dX9_all_1 : decode cX9_all 1 = .ok (.invokevirtual 109, 3) := by decide +kernel
theorem dX9_all_4 : decode cX9_all 4 = .ok (.ifCond .ne 6, 3) := by decide +kernel
theorem dX9_all_7 : decode cX9_all 7 = .ok (.bipush (-5), 2) := by decide +kernel
theorem dX9_all_9 : decode cX9_all 9 = .ok (.ireturn, 1) := by decide +kernel
theorem dX9_all_10 : decode cX9_all 10 = .ok (.iload_n 1, 1) := by decide +kernel
theorem dX9_all_11 : decode cX9_all 11 = .ok (.iconst 0, 1) := by decide +kernel
theorem dX9_all_12 : decode cX9_all 12 = .ok (.sipush 1000, 3) := by decide +kernel
theorem dX9_all_15 : decode cX9_all 15 = .ok (.invokestatic 62, 3) := by decide +kernel
theorem dX9_all_18 : decode cX9_all 18 = .ok (.ifCond .eq 27, 3) := by decide +kernel
theorem dX9_all_21 : decode cX9_all 21 = .ok (.aload_n 0, 1) := by decide +kernel
theorem dX9_all_22 : decode cX9_all 22 = .ok (.iload_n 2, 1) := by decide +kernel
theorem dX9_all_23 : decode cX9_all 23 = .ok (.invokevirtual 70, 3) := by decide +kernel
theorem dX9_all_26 : decode cX9_all 26 = .ok (.ifCond .eq 19, 3) := by decide +kernel
theorem dX9_all_29 : decode cX9_all 29 = .ok (.aload_n 0, 1) := by decide +kernel
theorem dX9_all_30 : decode cX9_all 30 = .ok (.iload_n 3, 1) := by decide +kernel
theorem dX9_all_31 : decode cX9_all 31 = .ok (.invokevirtual 70, 3) := by decide +kernel
theorem dX9_all_34 : decode cX9_all 34 = .ok (.ifCond .eq 11, 3) := by decide +kernel
theorem dX9_all_37 : decode cX9_all 37 = .ok (.iload_n 2, 1) := by decide +kernel
theorem dX9_all_38 : decode cX9_all 38 = .ok (.ifCond .ne 10, 3) := by decide +kernel
theorem dX9_all_41 : decode cX9_all 41 = .ok (.iload_n 3, 1) := by decide +kernel
theorem dX9_all_42 : decode cX9_all 42 = .ok (.ifCond .ne 6, 3) := by decide +kernel
theorem dX9_all_45 : decode cX9_all 45 = .ok (.bipush (-2), 2) := by decide +kernel
theorem dX9_all_47 : decode cX9_all 47 = .ok (.ireturn, 1) := by decide +kernel
theorem dX9_all_48 : decode cX9_all 48 = .ok (.iconst 0, 1) := by decide +kernel
theorem dX9_all_49 : decode cX9_all 49 = .ok (.istore 4, 2) := by decide +kernel
theorem dX9_all_51 : decode cX9_all 51 = .ok (.iconst 0, 1) := by decide +kernel
theorem dX9_all_52 : decode cX9_all 52 = .ok (.istore 5, 2) := by decide +kernel
theorem dX9_all_54 : decode cX9_all 54 = .ok (.iload 5, 2) := by decide +kernel
theorem dX9_all_56 : decode cX9_all 56 = .ok (.aload_n 0, 1) := by decide +kernel
theorem dX9_all_57 : decode cX9_all 57 = .ok (.getfield 140, 3) := by decide +kernel
theorem dX9_all_60 : decode cX9_all 60 = .ok (.if_icmp .ge 53, 3) := by decide +kernel
theorem dX9_all_63 : decode cX9_all 63 = .ok (.aload_n 0, 1) := by decide +kernel
theorem dX9_all_64 : decode cX9_all 64 = .ok (.iload 5, 2) := by decide +kernel
theorem dX9_all_66 : decode cX9_all 66 = .ok (.aload_n 0, 1) := by decide +kernel
theorem dX9_all_67 : decode cX9_all 67 = .ok (.iload 5, 2) := by decide +kernel
theorem dX9_all_69 : decode cX9_all 69 = .ok (.iload_n 1, 1) := by decide +kernel
theorem dX9_all_70 : decode cX9_all 70 = .ok (.invokevirtual 176, 3) := by decide +kernel
theorem dX9_all_73 : decode cX9_all 73 = .ok (.invokevirtual 208, 3) := by decide +kernel
theorem dX9_all_76 : decode cX9_all 76 = .ok (.iload 4, 2) := by decide +kernel
theorem dX9_all_78 : decode cX9_all 78 = .ok (.aload_n 0, 1) := by decide +kernel
theorem dX9_all_79 : decode cX9_all 79 = .ok (.iload_n 2, 1) := by decide +kernel
theorem dX9_all_80 : decode cX9_all 80 = .ok (.iload_n 3, 1) := by decide +kernel
theorem dX9_all_81 : decode cX9_all 81 = .ok (.aload_n 0, 1) := by decide +kernel
theorem dX9_all_82 : decode cX9_all 82 = .ok (.getfield 124, 3) := by decide +kernel
theorem dX9_all_85 : decode cX9_all 85 = .ok (.aload_n 0, 1) := by decide +kernel
theorem dX9_all_86 : decode cX9_all 86 = .ok (.getfield 127, 3) := by decide +kernel
theorem dX9_all_89 : decode cX9_all 89 = .ok (.aload_n 0, 1) := by decide +kernel
theorem dX9_all_90 : decode cX9_all 90 = .ok (.getfield 130, 3) := by decide +kernel
theorem dX9_all_93 : decode cX9_all 93 = .ok (.invokevirtual 120, 3) := by decide +kernel
theorem dX9_all_96 : decode cX9_all 96 = .ok (.ifCond .ne 7, 3) := by decide +kernel
theorem dX9_all_99 : decode cX9_all 99 = .ok (.iconst 1, 1) := by decide +kernel
theorem dX9_all_100 : decode cX9_all 100 = .ok (.goto 4, 3) := by decide +kernel
theorem dX9_all_103 : decode cX9_all 103 = .ok (.iconst 0, 1) := by decide +kernel
theorem dX9_all_104 : decode cX9_all 104 = .ok (.iadd, 1) := by decide +kernel
theorem dX9_all_105 : decode cX9_all 105 = .ok (.istore 4, 2) := by decide +kernel
theorem dX9_all_107 : decode cX9_all 107 = .ok (.iinc 5 1, 3) := by decide +kernel
theorem dX9_all_110 : decode cX9_all 110 = .ok (.goto (-56), 3) := by decide +kernel
theorem dX9_all_113 : decode cX9_all 113 = .ok (.iload 4, 2) := by decide +kernel
theorem dX9_all_115 : decode cX9_all 115 = .ok (.ireturn, 1) := by decide +kernel
