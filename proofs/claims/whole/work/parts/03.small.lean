theorem x_ap2 {t a b : List Cond} (ha : ∀ w ∈ a, w ∈ t) (hb : ∀ w ∈ b, w ∈ t) : ∀ w ∈ a ++ b, w ∈ t := fun w h => (List.mem_append.mp h).elim (ha w) (hb w)
theorem dX0_init_0 : decode cX0_init 0 = .ok (.aload_n 0, 1) := by decide +kernel
theorem dX0_init_1 : decode cX0_init 1 = .ok (.invokespecial 1, 3) := by decide +kernel
theorem dX0_init_4 : decode cX0_init 4 = .ok (.aload_n 0, 1) := by decide +kernel
theorem dX0_init_5 : decode cX0_init 5 = .ok (.aload_n 1, 1) := by decide +kernel
theorem dX0_init_6 : decode cX0_init 6 = .ok (.putfield 7, 3) := by decide +kernel
theorem dX0_init_9 : decode cX0_init 9 = .ok (.return_, 1) := by decide +kernel
theorem ip_wsX0_take__wsX0_take_r1 : ∀ w ∈ wsX0_take_r1, w ∈ wsX0_take := fun _ h => (List.mem_cons_of_mem _ (List.mem_append_left _ (List.mem_append_left _ (List.mem_append_left _ (List.mem_append_left _ h)))))
theorem ip_wsX0_take__wsX0_take_r2 : ∀ w ∈ wsX0_take_r2, w ∈ wsX0_take := fun _ h => (List.mem_cons_of_mem _ (List.mem_append_left _ (List.mem_append_left _ (List.mem_append_left _ (List.mem_append_right _ h)))))
set_option maxRecDepth 20000 in
theorem ggX0_take_X2_wholeDeterminant : GoodIn wsX0_take wsX2_wholeDeterminant := goodIn_sub (List.forall_mem_cons.mpr ⟨(ip_wsX0_take__wsX0_take_r1 _ (List.mem_of_getElem? (i := 8) rfl)), (x_ap2 (x_ap2 (List.forall_mem_cons.mpr ⟨(ip_wsX0_take__wsX0_take_r1 _ (List.mem_of_getElem? (i := 9) rfl)), (List.forall_mem_cons.mpr ⟨(ip_wsX0_take__wsX0_take_r1 _ (List.mem_of_getElem? (i := 10) rfl)), (List.forall_mem_cons.mpr ⟨(ip_wsX0_take__wsX0_take_r1 _ (List.mem_of_getElem? (i := 11) rfl)), (List.forall_mem_cons.mpr ⟨(ip_wsX0_take__wsX0_take_r1 _ (List.mem_of_getElem? (i := 12) rfl)), (List.forall_mem_cons.mpr ⟨(ip_wsX0_take__wsX0_take_r1 _ (List.mem_of_getElem? (i := 13) rfl)), (List.forall_mem_cons.mpr ⟨(ip_wsX0_take__wsX0_take_r1 _ (List.mem_of_getElem? (i := 14) rfl)), (List.forall_mem_cons.mpr ⟨(ip_wsX0_take__wsX0_take_r1 _ (List.mem_of_getElem? (i := 15) rfl)), (List.forall_mem_cons.mpr ⟨(ip_wsX0_take__wsX0_take_r1 _ (List.mem_of_getElem? (i := 16) rfl)), (List.forall_mem_cons.mpr ⟨(ip_wsX0_take__wsX0_take_r1 _ (List.mem_of_getElem? (i := 17) rfl)), (List.forall_mem_cons.mpr ⟨(ip_wsX0_take__wsX0_take_r1 _ (List.mem_of_getElem? (i := 18) rfl)), (List.forall_mem_cons.mpr ⟨(ip_wsX0_take__wsX0_take_r1 _ (List.mem_of_getElem? (i := 19) rfl)), (List.forall_mem_cons.mpr ⟨(ip_wsX0_take__wsX0_take_r1 _ (List.mem_of_getElem? (i := 20) rfl)), (List.forall_mem_cons.mpr ⟨(ip_wsX0_take__wsX0_take_r1 _ (List.mem_of_getElem? (i := 21) rfl)), (fun _ h => absurd h List.not_mem_nil)⟩)⟩)⟩)⟩)⟩)⟩)⟩)⟩)⟩)⟩)⟩)⟩)⟩) (fun _ h => (List.mem_cons_of_mem _ (List.mem_append_left _ (List.mem_append_right _ h))))) (fun _ h => (List.mem_cons_of_mem _ (List.mem_append_right _ h))))⟩) (by decide +kernel)
set_option maxRecDepth 20000 in
theorem gX0_take_X2_wholeDeterminant : GoodIn wsX0_take (wsV RX0 13 RX2 yX2_wholeDeterminant wsX2_wholeDeterminant) := goodIn_app (goodIn_of _ (by decide +kernel)) ggX0_take_X2_wholeDeterminant
set_option maxRecDepth 20000 in
theorem ggX0_take_X2_against : GoodIn wsX0_take wsX2_against := goodIn_sub (List.forall_mem_cons.mpr ⟨(ip_wsX0_take__wsX0_take_r2 _ (List.mem_of_getElem? (i := 1) rfl)), (x_ap2 (x_ap2 (List.forall_mem_cons.mpr ⟨(ip_wsX0_take__wsX0_take_r1 _ (List.mem_of_getElem? (i := 9) rfl)), (List.forall_mem_cons.mpr ⟨(ip_wsX0_take__wsX0_take_r1 _ (List.mem_of_getElem? (i := 10) rfl)), (List.forall_mem_cons.mpr ⟨(ip_wsX0_take__wsX0_take_r1 _ (List.mem_of_getElem? (i := 11) rfl)), (List.forall_mem_cons.mpr ⟨(ip_wsX0_take__wsX0_take_r1 _ (List.mem_of_getElem? (i := 12) rfl)), (List.forall_mem_cons.mpr ⟨(ip_wsX0_take__wsX0_take_r1 _ (List.mem_of_getElem? (i := 13) rfl)), (List.forall_mem_cons.mpr ⟨(ip_wsX0_take__wsX0_take_r1 _ (List.mem_of_getElem? (i := 15) rfl)), (List.forall_mem_cons.mpr ⟨(ip_wsX0_take__wsX0_take_r1 _ (List.mem_of_getElem? (i := 14) rfl)), (List.forall_mem_cons.mpr ⟨(ip_wsX0_take__wsX0_take_r1 _ (List.mem_of_getElem? (i := 16) rfl)), (List.forall_mem_cons.mpr ⟨(ip_wsX0_take__wsX0_take_r1 _ (List.mem_of_getElem? (i := 17) rfl)), (List.forall_mem_cons.mpr ⟨(ip_wsX0_take__wsX0_take_r1 _ (List.mem_of_getElem? (i := 18) rfl)), (List.forall_mem_cons.mpr ⟨(ip_wsX0_take__wsX0_take_r1 _ (List.mem_of_getElem? (i := 19) rfl)), (List.forall_mem_cons.mpr ⟨(ip_wsX0_take__wsX0_take_r1 _ (List.mem_of_getElem? (i := 20) rfl)), (List.forall_mem_cons.mpr ⟨(ip_wsX0_take__wsX0_take_r1 _ (List.mem_of_getElem? (i := 21) rfl)), (fun _ h => absurd h List.not_mem_nil)⟩)⟩)⟩)⟩)⟩)⟩)⟩)⟩)⟩)⟩)⟩)⟩)⟩) (fun _ h => (List.mem_cons_of_mem _ (List.mem_append_left _ (List.mem_append_right _ h))))) (fun _ h => (List.mem_cons_of_mem _ (List.mem_append_right _ h))))⟩) (by decide +kernel)
set_option maxRecDepth 20000 in
theorem gX0_take_X2_against : GoodIn wsX0_take (wsV RX0 23 RX2 yX2_against wsX2_against) := goodIn_app (goodIn_of _ (by decide +kernel)) ggX0_take_X2_against
theorem dX0_take_0 : decode cX0_take 0 = .ok (.aload_n 0, 1) := by decide +kernel
theorem dX0_take_1 : decode cX0_take 1 = .ok (.aload_n 3, 1) := by decide +kernel
theorem dX0_take_2 : decode cX0_take 2 = .ok (.invokevirtual 13, 3) := by decide +kernel
theorem dX0_take_5 : decode cX0_take 5 = .ok (.putfield 19, 3) := by decide +kernel
theorem dX0_take_8 : decode cX0_take 8 = .ok (.aload_n 0, 1) := by decide +kernel
theorem dX0_take_9 : decode cX0_take 9 = .ok (.aload 4, 2) := by decide +kernel
theorem dX0_take_11 : decode cX0_take 11 = .ok (.aload_n 1, 1) := by decide +kernel
theorem dX0_take_12 : decode cX0_take 12 = .ok (.invokevirtual 23, 3) := by decide +kernel
theorem dX0_take_15 : decode cX0_take 15 = .ok (.putfield 27, 3) := by decide +kernel
theorem dX0_take_18 : decode cX0_take 18 = .ok (.aload_n 0, 1) := by decide +kernel
theorem dX0_take_19 : decode cX0_take 19 = .ok (.aload_n 2, 1) := by decide +kernel
theorem dX0_take_20 : decode cX0_take 20 = .ok (.aload_n 3, 1) := by decide +kernel
theorem dX0_take_21 : decode cX0_take 21 = .ok (.invokevirtual 23, 3) := by decide +kernel
theorem dX0_take_24 : decode cX0_take 24 = .ok (.putfield 30, 3) := by decide +kernel
theorem dX0_take_27 : decode cX0_take 27 = .ok (.aload_n 0, 1) := by decide +kernel
theorem dX0_take_28 : decode cX0_take 28 = .ok (.aload_n 1, 1) := by decide +kernel
theorem dX0_take_29 : decode cX0_take 29 = .ok (.invokevirtual 13, 3) := by decide +kernel
theorem dX0_take_32 : decode cX0_take 32 = .ok (.putfield 33, 3) := by decide +kernel
theorem dX0_take_35 : decode cX0_take 35 = .ok (.return_, 1) := by decide +kernel
theorem dX0_part_0 : decode cX0_part 0 = .ok (.iload_n 1, 1) := by decide +kernel
theorem dX0_part_1 : decode cX0_part 1 = .ok (.tableswitch 51 0 3 #[31, 36, 41, 46], 31) := by decide +kernel
theorem dX0_part_32 : decode cX0_part 32 = .ok (.aload_n 0, 1) := by decide +kernel
theorem dX0_part_33 : decode cX0_part 33 = .ok (.getfield 19, 3) := by decide +kernel
theorem dX0_part_36 : decode cX0_part 36 = .ok (.ireturn, 1) := by decide +kernel
theorem dX0_part_37 : decode cX0_part 37 = .ok (.aload_n 0, 1) := by decide +kernel
theorem dX0_part_38 : decode cX0_part 38 = .ok (.getfield 27, 3) := by decide +kernel
theorem dX0_part_41 : decode cX0_part 41 = .ok (.ireturn, 1) := by decide +kernel
theorem dX0_part_42 : decode cX0_part 42 = .ok (.aload_n 0, 1) := by decide +kernel
theorem dX0_part_43 : decode cX0_part 43 = .ok (.getfield 30, 3) := by decide +kernel
theorem dX0_part_46 : decode cX0_part 46 = .ok (.ireturn, 1) := by decide +kernel
theorem dX0_part_47 : decode cX0_part 47 = .ok (.aload_n 0, 1) := by decide +kernel
theorem dX0_part_48 : decode cX0_part 48 = .ok (.getfield 33, 3) := by decide +kernel
theorem dX0_part_51 : decode cX0_part 51 = .ok (.ireturn, 1) := by decide +kernel
theorem dX0_part_52 : decode cX0_part 52 = .ok (.iconst 0, 1) := by decide +kernel
theorem dX0_part_53 : decode cX0_part 53 = .ok (.ireturn, 1) := by decide +kernel
set_option maxRecDepth 20000 in
theorem ggX0_partByFirst_X0_part : GoodIn wsX0_partByFirst wsX0_part := goodIn_sub (List.forall_mem_cons.mpr ⟨(List.mem_cons_of_mem _ (List.mem_append_left _ (List.mem_append_left _ (List.mem_of_getElem? (i := 6) rfl)))), (x_ap2 (List.forall_mem_cons.mpr ⟨(List.mem_cons_of_mem _ (List.mem_append_left _ (List.mem_append_left _ (List.mem_of_getElem? (i := 1) rfl)))), (List.forall_mem_cons.mpr ⟨(List.mem_cons_of_mem _ (List.mem_append_left _ (List.mem_append_left _ (List.mem_of_getElem? (i := 7) rfl)))), (List.forall_mem_cons.mpr ⟨(List.mem_cons_of_mem _ (List.mem_append_left _ (List.mem_append_left _ (List.mem_of_getElem? (i := 8) rfl)))), (List.forall_mem_cons.mpr ⟨(List.mem_cons_of_mem _ (List.mem_append_left _ (List.mem_append_left _ (List.mem_of_getElem? (i := 9) rfl)))), (fun _ h => absurd h List.not_mem_nil)⟩)⟩)⟩)⟩) (fun _ h => (List.mem_cons_of_mem _ (List.mem_append_left _ (List.mem_append_right _ h)))))⟩) (by decide +kernel)
set_option maxRecDepth 20000 in
theorem gX0_partByFirst_X0_part : GoodIn wsX0_partByFirst (wsV RX0 36 RX0 yX0_part wsX0_part) := goodIn_app (goodIn_of _ (by decide +kernel)) ggX0_partByFirst_X0_part
set_option maxRecDepth 20000 in
theorem ggX0_partByFirst_X4_inverseOf : GoodIn wsX0_partByFirst wsX4_inverseOf := goodIn_sub (List.forall_mem_cons.mpr ⟨(List.mem_cons_of_mem _ (List.mem_append_left _ (List.mem_append_left _ (List.mem_of_getElem? (i := 14) rfl)))), (x_ap2 (List.forall_mem_cons.mpr ⟨(List.mem_cons_of_mem _ (List.mem_append_left _ (List.mem_append_left _ (List.mem_of_getElem? (i := 15) rfl)))), (List.forall_mem_cons.mpr ⟨(List.mem_cons_of_mem _ (List.mem_append_left _ (List.mem_append_left _ (List.mem_of_getElem? (i := 16) rfl)))), (fun _ h => absurd h List.not_mem_nil)⟩)⟩) (fun _ h => (List.mem_cons_of_mem _ (List.mem_append_right _ h))))⟩) (by decide +kernel)
set_option maxRecDepth 20000 in
theorem gX0_partByFirst_X4_inverseOf : GoodIn wsX0_partByFirst (wsV RX0 40 RX4 yX4_inverseOf wsX4_inverseOf) := goodIn_app (goodIn_of _ (by decide +kernel)) ggX0_partByFirst_X4_inverseOf
set_option maxRecDepth 20000 in
theorem ggX0_partByFirst_X4_rest : GoodIn wsX0_partByFirst wsX4_rest := goodIn_sub (List.forall_mem_cons.mpr ⟨(List.mem_cons_of_mem _ (List.mem_append_left _ (List.mem_append_left _ (List.mem_of_getElem? (i := 20) rfl)))), (x_ap2 (List.forall_mem_cons.mpr ⟨(List.mem_cons_of_mem _ (List.mem_append_left _ (List.mem_append_left _ (List.mem_of_getElem? (i := 15) rfl)))), (fun _ h => absurd h List.not_mem_nil)⟩) (fun _ h => (List.mem_cons_of_mem _ (List.mem_append_right _ h))))⟩) (by decide +kernel)
set_option maxRecDepth 20000 in
theorem gX0_partByFirst_X4_rest : GoodIn wsX0_partByFirst (wsV RX0 45 RX4 yX4_rest wsX4_rest) := goodIn_app (goodIn_of _ (by decide +kernel)) ggX0_partByFirst_X4_rest
theorem dX0_partByFirst_0 : decode cX0_partByFirst 0 = .ok (.aload_n 0, 1) := by decide +kernel
theorem dX0_partByFirst_1 : decode cX0_partByFirst 1 = .ok (.getfield 7, 3) := by decide +kernel
theorem dX0_partByFirst_4 : decode cX0_partByFirst 4 = .ok (.aload_n 0, 1) := by decide +kernel
theorem dX0_partByFirst_5 : decode cX0_partByFirst 5 = .ok (.iload_n 1, 1) := by decide +kernel
theorem dX0_partByFirst_6 : decode cX0_partByFirst 6 = .ok (.invokevirtual 36, 3) := by decide +kernel
theorem dX0_partByFirst_9 : decode cX0_partByFirst 9 = .ok (.aload_n 0, 1) := by decide +kernel
theorem dX0_partByFirst_10 : decode cX0_partByFirst 10 = .ok (.getfield 7, 3) := by decide +kernel
theorem dX0_partByFirst_13 : decode cX0_partByFirst 13 = .ok (.aload_n 0, 1) := by decide +kernel
theorem dX0_partByFirst_14 : decode cX0_partByFirst 14 = .ok (.getfield 19, 3) := by decide +kernel
theorem dX0_partByFirst_17 : decode cX0_partByFirst 17 = .ok (.invokevirtual 40, 3) := by decide +kernel
theorem dX0_partByFirst_20 : decode cX0_partByFirst 20 = .ok (.imul, 1) := by decide +kernel
theorem dX0_partByFirst_21 : decode cX0_partByFirst 21 = .ok (.invokevirtual 45, 3) := by decide +kernel
theorem dX0_partByFirst_24 : decode cX0_partByFirst 24 = .ok (.ireturn, 1) := by decide +kernel
set_option maxRecDepth 20000 in
theorem ggX0_discriminant_X4_rest : GoodIn wsX0_discriminant wsX4_rest := goodIn_sub (List.forall_mem_cons.mpr ⟨(List.mem_cons_of_mem _ (List.mem_append_left _ (List.mem_append_left _ (List.mem_of_getElem? (i := 9) rfl)))), (x_ap2 (List.forall_mem_cons.mpr ⟨(List.mem_cons_of_mem _ (List.mem_append_left _ (List.mem_append_left _ (List.mem_of_getElem? (i := 10) rfl)))), (fun _ h => absurd h List.not_mem_nil)⟩) (fun _ h => (List.mem_cons_of_mem _ (List.mem_append_right _ h))))⟩) (by decide +kernel)
set_option maxRecDepth 20000 in
theorem gX0_discriminant_X4_rest : GoodIn wsX0_discriminant (wsV RX0 45 RX4 yX4_rest wsX4_rest) := goodIn_app (goodIn_of _ (by decide +kernel)) ggX0_discriminant_X4_rest
theorem dX0_discriminant_0 : decode cX0_discriminant 0 = .ok (.aload_n 0, 1) := by decide +kernel
theorem dX0_discriminant_1 : decode cX0_discriminant 1 = .ok (.getfield 7, 3) := by decide +kernel
theorem dX0_discriminant_4 : decode cX0_discriminant 4 = .ok (.aload_n 0, 1) := by decide +kernel
theorem dX0_discriminant_5 : decode cX0_discriminant 5 = .ok (.getfield 27, 3) := by decide +kernel
theorem dX0_discriminant_8 : decode cX0_discriminant 8 = .ok (.aload_n 0, 1) := by decide +kernel
theorem dX0_discriminant_9 : decode cX0_discriminant 9 = .ok (.getfield 30, 3) := by decide +kernel
theorem dX0_discriminant_12 : decode cX0_discriminant 12 = .ok (.imul, 1) := by decide +kernel
theorem dX0_discriminant_13 : decode cX0_discriminant 13 = .ok (.invokevirtual 45, 3) := by decide +kernel
theorem dX0_discriminant_16 : decode cX0_discriminant 16 = .ok (.istore_n 1, 1) := by decide +kernel
theorem dX0_discriminant_17 : decode cX0_discriminant 17 = .ok (.aload_n 0, 1) := by decide +kernel
theorem dX0_discriminant_18 : decode cX0_discriminant 18 = .ok (.getfield 7, 3) := by decide +kernel
theorem dX0_discriminant_21 : decode cX0_discriminant 21 = .ok (.aload_n 0, 1) := by decide +kernel
theorem dX0_discriminant_22 : decode cX0_discriminant 22 = .ok (.getfield 19, 3) := by decide +kernel
theorem dX0_discriminant_25 : decode cX0_discriminant 25 = .ok (.aload_n 0, 1) := by decide +kernel
theorem dX0_discriminant_26 : decode cX0_discriminant 26 = .ok (.getfield 33, 3) := by decide +kernel
theorem dX0_discriminant_29 : decode cX0_discriminant 29 = .ok (.imul, 1) := by decide +kernel
theorem dX0_discriminant_30 : decode cX0_discriminant 30 = .ok (.invokevirtual 45, 3) := by decide +kernel
theorem dX0_discriminant_33 : decode cX0_discriminant 33 = .ok (.istore_n 2, 1) := by decide +kernel
theorem dX0_discriminant_34 : decode cX0_discriminant 34 = .ok (.aload_n 0, 1) := by decide +kernel
theorem dX0_discriminant_35 : decode cX0_discriminant 35 = .ok (.getfield 7, 3) := by decide +kernel
theorem dX0_discriminant_38 : decode cX0_discriminant 38 = .ok (.aload_n 0, 1) := by decide +kernel
theorem dX0_discriminant_39 : decode cX0_discriminant 39 = .ok (.getfield 27, 3) := by decide +kernel
theorem dX0_discriminant_42 : decode cX0_discriminant 42 = .ok (.aload_n 0, 1) := by decide +kernel
theorem dX0_discriminant_43 : decode cX0_discriminant 43 = .ok (.getfield 27, 3) := by decide +kernel
theorem dX0_discriminant_46 : decode cX0_discriminant 46 = .ok (.imul, 1) := by decide +kernel
theorem dX0_discriminant_47 : decode cX0_discriminant 47 = .ok (.aload_n 0, 1) := by decide +kernel
theorem dX0_discriminant_48 : decode cX0_discriminant 48 = .ok (.getfield 27, 3) := by decide +kernel
theorem dX0_discriminant_51 : decode cX0_discriminant 51 = .ok (.imul, 1) := by decide +kernel
theorem dX0_discriminant_52 : decode cX0_discriminant 52 = .ok (.invokevirtual 45, 3) := by decide +kernel
theorem dX0_discriminant_55 : decode cX0_discriminant 55 = .ok (.istore_n 3, 1) := by decide +kernel
theorem dX0_discriminant_56 : decode cX0_discriminant 56 = .ok (.aload_n 0, 1) := by decide +kernel
theorem dX0_discriminant_57 : decode cX0_discriminant 57 = .ok (.getfield 7, 3) := by decide +kernel
theorem dX0_discriminant_60 : decode cX0_discriminant 60 = .ok (.aload_n 0, 1) := by decide +kernel
theorem dX0_discriminant_61 : decode cX0_discriminant 61 = .ok (.getfield 30, 3) := by decide +kernel
theorem dX0_discriminant_64 : decode cX0_discriminant 64 = .ok (.aload_n 0, 1) := by decide +kernel
theorem dX0_discriminant_65 : decode cX0_discriminant 65 = .ok (.getfield 30, 3) := by decide +kernel
theorem dX0_discriminant_68 : decode cX0_discriminant 68 = .ok (.imul, 1) := by decide +kernel
theorem dX0_discriminant_69 : decode cX0_discriminant 69 = .ok (.aload_n 0, 1) := by decide +kernel
theorem dX0_discriminant_70 : decode cX0_discriminant 70 = .ok (.getfield 30, 3) := by decide +kernel
theorem dX0_discriminant_73 : decode cX0_discriminant 73 = .ok (.imul, 1) := by decide +kernel
theorem dX0_discriminant_74 : decode cX0_discriminant 74 = .ok (.invokevirtual 45, 3) := by decide +kernel
theorem dX0_discriminant_77 : decode cX0_discriminant 77 = .ok (.istore 4, 2) := by decide +kernel
theorem dX0_discriminant_79 : decode cX0_discriminant 79 = .ok (.aload_n 0, 1) := by decide +kernel
theorem dX0_discriminant_80 : decode cX0_discriminant 80 = .ok (.getfield 7, 3) := by decide +kernel
theorem dX0_discriminant_83 : decode cX0_discriminant 83 = .ok (.iload_n 1, 1) := by decide +kernel
theorem dX0_discriminant_84 : decode cX0_discriminant 84 = .ok (.iload_n 1, 1) := by decide +kernel
theorem dX0_discriminant_85 : decode cX0_discriminant 85 = .ok (.imul, 1) := by decide +kernel
theorem dX0_discriminant_86 : decode cX0_discriminant 86 = .ok (.iconst 4, 1) := by decide +kernel
theorem dX0_discriminant_87 : decode cX0_discriminant 87 = .ok (.aload_n 0, 1) := by decide +kernel
theorem dX0_discriminant_88 : decode cX0_discriminant 88 = .ok (.getfield 19, 3) := by decide +kernel
theorem dX0_discriminant_91 : decode cX0_discriminant 91 = .ok (.imul, 1) := by decide +kernel
theorem dX0_discriminant_92 : decode cX0_discriminant 92 = .ok (.iload 4, 2) := by decide +kernel
theorem dX0_discriminant_94 : decode cX0_discriminant 94 = .ok (.imul, 1) := by decide +kernel
theorem dX0_discriminant_95 : decode cX0_discriminant 95 = .ok (.isub, 1) := by decide +kernel
theorem dX0_discriminant_96 : decode cX0_discriminant 96 = .ok (.iconst 4, 1) := by decide +kernel
theorem dX0_discriminant_97 : decode cX0_discriminant 97 = .ok (.aload_n 0, 1) := by decide +kernel
theorem dX0_discriminant_98 : decode cX0_discriminant 98 = .ok (.getfield 33, 3) := by decide +kernel
theorem dX0_discriminant_101 : decode cX0_discriminant 101 = .ok (.imul, 1) := by decide +kernel
theorem dX0_discriminant_102 : decode cX0_discriminant 102 = .ok (.iload_n 3, 1) := by decide +kernel
theorem dX0_discriminant_103 : decode cX0_discriminant 103 = .ok (.imul, 1) := by decide +kernel
theorem dX0_discriminant_104 : decode cX0_discriminant 104 = .ok (.isub, 1) := by decide +kernel
theorem dX0_discriminant_105 : decode cX0_discriminant 105 = .ok (.bipush 27, 2) := by decide +kernel
theorem dX0_discriminant_107 : decode cX0_discriminant 107 = .ok (.iload_n 2, 1) := by decide +kernel
theorem dX0_discriminant_108 : decode cX0_discriminant 108 = .ok (.imul, 1) := by decide +kernel
theorem dX0_discriminant_109 : decode cX0_discriminant 109 = .ok (.iload_n 2, 1) := by decide +kernel
theorem dX0_discriminant_110 : decode cX0_discriminant 110 = .ok (.imul, 1) := by decide +kernel
theorem dX0_discriminant_111 : decode cX0_discriminant 111 = .ok (.isub, 1) := by decide +kernel
theorem dX0_discriminant_112 : decode cX0_discriminant 112 = .ok (.bipush 18, 2) := by decide +kernel
theorem dX0_discriminant_114 : decode cX0_discriminant 114 = .ok (.iload_n 2, 1) := by decide +kernel
theorem dX0_discriminant_115 : decode cX0_discriminant 115 = .ok (.imul, 1) := by decide +kernel
theorem dX0_discriminant_116 : decode cX0_discriminant 116 = .ok (.iload_n 1, 1) := by decide +kernel
theorem dX0_discriminant_117 : decode cX0_discriminant 117 = .ok (.imul, 1) := by decide +kernel
theorem dX0_discriminant_118 : decode cX0_discriminant 118 = .ok (.iadd, 1) := by decide +kernel
theorem dX0_discriminant_119 : decode cX0_discriminant 119 = .ok (.invokevirtual 45, 3) := by decide +kernel
theorem dX0_discriminant_122 : decode cX0_discriminant 122 = .ok (.ireturn, 1) := by decide +kernel
set_option maxRecDepth 20000 in
theorem ggX0_isGood_X0_discriminant : GoodIn wsX0_isGood wsX0_discriminant := goodIn_sub (List.forall_mem_cons.mpr ⟨(List.mem_cons_of_mem _ (List.mem_append_left _ (List.mem_append_left _ (List.mem_of_getElem? (i := 6) rfl)))), (x_ap2 (x_ap2 (List.forall_mem_cons.mpr ⟨(List.mem_cons_of_mem _ (List.mem_append_left _ (List.mem_append_left _ (List.mem_of_getElem? (i := 7) rfl)))), (List.forall_mem_cons.mpr ⟨(List.mem_cons_of_mem _ (List.mem_append_left _ (List.mem_append_left _ (List.mem_of_getElem? (i := 8) rfl)))), (List.forall_mem_cons.mpr ⟨(List.mem_cons_of_mem _ (List.mem_append_left _ (List.mem_append_left _ (List.mem_of_getElem? (i := 9) rfl)))), (List.forall_mem_cons.mpr ⟨(List.mem_cons_of_mem _ (List.mem_append_left _ (List.mem_append_left _ (List.mem_of_getElem? (i := 0) rfl)))), (List.forall_mem_cons.mpr ⟨(List.mem_cons_of_mem _ (List.mem_append_left _ (List.mem_append_left _ (List.mem_of_getElem? (i := 1) rfl)))), (List.forall_mem_cons.mpr ⟨(List.mem_cons_of_mem _ (List.mem_append_left _ (List.mem_append_left _ (List.mem_of_getElem? (i := 10) rfl)))), (List.forall_mem_cons.mpr ⟨(List.mem_cons_of_mem _ (List.mem_append_left _ (List.mem_append_left _ (List.mem_of_getElem? (i := 11) rfl)))), (List.forall_mem_cons.mpr ⟨(List.mem_cons_of_mem _ (List.mem_append_left _ (List.mem_append_left _ (List.mem_of_getElem? (i := 12) rfl)))), (List.forall_mem_cons.mpr ⟨(List.mem_cons_of_mem _ (List.mem_append_left _ (List.mem_append_left _ (List.mem_of_getElem? (i := 13) rfl)))), (List.forall_mem_cons.mpr ⟨(List.mem_cons_of_mem _ (List.mem_append_left _ (List.mem_append_left _ (List.mem_of_getElem? (i := 14) rfl)))), (List.forall_mem_cons.mpr ⟨(List.mem_cons_of_mem _ (List.mem_append_left _ (List.mem_append_left _ (List.mem_of_getElem? (i := 15) rfl)))), (fun _ h => absurd h List.not_mem_nil)⟩)⟩)⟩)⟩)⟩)⟩)⟩)⟩)⟩)⟩)⟩) (fun _ h => (List.mem_cons_of_mem _ (List.mem_append_left _ (List.mem_append_right _ h))))) (fun _ h => (List.mem_cons_of_mem _ (List.mem_append_right _ h))))⟩) (by decide +kernel)
set_option maxRecDepth 20000 in
theorem gX0_isGood_X0_discriminant : GoodIn wsX0_isGood (wsV RX0 48 RX0 yX0_discriminant wsX0_discriminant) := goodIn_app (goodIn_of _ (by decide +kernel)) ggX0_isGood_X0_discriminant
theorem dX0_isGood_0 : decode cX0_isGood 0 = .ok (.aload_n 0, 1) := by decide +kernel
theorem dX0_isGood_1 : decode cX0_isGood 1 = .ok (.getfield 19, 3) := by decide +kernel
theorem dX0_isGood_4 : decode cX0_isGood 4 = .ok (.ifCond .eq 21, 3) := by decide +kernel
theorem dX0_isGood_7 : decode cX0_isGood 7 = .ok (.aload_n 0, 1) := by decide +kernel
theorem dX0_isGood_8 : decode cX0_isGood 8 = .ok (.getfield 33, 3) := by decide +kernel
theorem dX0_isGood_11 : decode cX0_isGood 11 = .ok (.ifCond .eq 14, 3) := by decide +kernel
theorem dX0_isGood_14 : decode cX0_isGood 14 = .ok (.aload_n 0, 1) := by decide +kernel
theorem dX0_isGood_15 : decode cX0_isGood 15 = .ok (.invokevirtual 48, 3) := by decide +kernel
theorem dX0_isGood_18 : decode cX0_isGood 18 = .ok (.ifCond .eq 7, 3) := by decide +kernel
theorem dX0_isGood_21 : decode cX0_isGood 21 = .ok (.iconst 1, 1) := by decide +kernel
theorem dX0_isGood_22 : decode cX0_isGood 22 = .ok (.goto 4, 3) := by decide +kernel
theorem dX0_isGood_25 : decode cX0_isGood 25 = .ok (.iconst 0, 1) := by decide +kernel
theorem dX0_isGood_26 : decode cX0_isGood 26 = .ok (.ireturn, 1) := by decide +kernel
theorem dX1_init_0 : decode cX1_init 0 = .ok (.aload_n 0, 1) := by decide +kernel
theorem dX1_init_1 : decode cX1_init 1 = .ok (.invokespecial 3, 3) := by decide +kernel
theorem dX1_init_4 : decode cX1_init 4 = .ok (.aload_n 0, 1) := by decide +kernel
theorem dX1_init_5 : decode cX1_init 5 = .ok (.sipush 256, 3) := by decide +kernel
theorem dX1_init_8 : decode cX1_init 8 = .ok (.newarray .int, 2) := by decide +kernel
theorem dX1_init_10 : decode cX1_init 10 = .ok (.putfield 11, 3) := by decide +kernel
theorem dX1_init_13 : decode cX1_init 13 = .ok (.aload_n 0, 1) := by decide +kernel
theorem dX1_init_14 : decode cX1_init 14 = .ok (.sipush 256, 3) := by decide +kernel
theorem dX1_init_17 : decode cX1_init 17 = .ok (.newarray .int, 2) := by decide +kernel
theorem dX1_init_19 : decode cX1_init 19 = .ok (.putfield 15, 3) := by decide +kernel
theorem dX1_init_22 : decode cX1_init 22 = .ok (.aload_n 0, 1) := by decide +kernel
theorem dX1_init_23 : decode cX1_init 23 = .ok (.aload_n 1, 1) := by decide +kernel
theorem dX1_init_24 : decode cX1_init 24 = .ok (.putfield 18, 3) := by decide +kernel
theorem dX1_init_27 : decode cX1_init 27 = .ok (.return_, 1) := by decide +kernel
theorem dX1_closing_0 : decode cX1_closing 0 = .ok (.aload_n 0, 1) := by decide +kernel
theorem dX1_closing_1 : decode cX1_closing 1 = .ok (.getfield 22, 3) := by decide +kernel
theorem dX1_closing_4 : decode cX1_closing 4 = .ok (.ireturn, 1) := by decide +kernel
theorem dX1_countPoints_0 : decode cX1_countPoints 0 = .ok (.aload_n 0, 1) := by decide +kernel
theorem dX1_countPoints_1 : decode cX1_countPoints 1 = .ok (.getfield 26, 3) := by decide +kernel
theorem dX1_countPoints_4 : decode cX1_countPoints 4 = .ok (.ireturn, 1) := by decide +kernel
theorem dX1_acrossAt_0 : decode cX1_acrossAt 0 = .ok (.iload_n 1, 1) := by decide +kernel
theorem dX1_acrossAt_1 : decode cX1_acrossAt 1 = .ok (.ifCond .lt 11, 3) := by decide +kernel
theorem dX1_acrossAt_4 : decode cX1_acrossAt 4 = .ok (.aload_n 0, 1) := by decide +kernel
theorem dX1_acrossAt_5 : decode cX1_acrossAt 5 = .ok (.getfield 22, 3) := by decide +kernel
theorem dX1_acrossAt_8 : decode cX1_acrossAt 8 = .ok (.iconst 1, 1) := by decide +kernel
theorem dX1_acrossAt_9 : decode cX1_acrossAt 9 = .ok (.if_icmp .ge 8, 3) := by decide +kernel
theorem dX1_acrossAt_12 : decode cX1_acrossAt 12 = .ok (.bipush (-6), 2) := by decide +kernel
theorem dX1_acrossAt_14 : decode cX1_acrossAt 14 = .ok (.goto 14, 3) := by decide +kernel
theorem dX1_acrossAt_17 : decode cX1_acrossAt 17 = .ok (.aload_n 0, 1) := by decide +kernel
theorem dX1_acrossAt_18 : decode cX1_acrossAt 18 = .ok (.getfield 11, 3) := by decide +kernel
theorem dX1_acrossAt_21 : decode cX1_acrossAt 21 = .ok (.iload_n 1, 1) := by decide +kernel
theorem dX1_acrossAt_22 : decode cX1_acrossAt 22 = .ok (.aload_n 0, 1) := by decide +kernel
theorem dX1_acrossAt_23 : decode cX1_acrossAt 23 = .ok (.getfield 22, 3) := by decide +kernel
theorem dX1_acrossAt_26 : decode cX1_acrossAt 26 = .ok (.irem, 1) := by decide +kernel
theorem dX1_acrossAt_27 : decode cX1_acrossAt 27 = .ok (.iaload, 1) := by decide +kernel
theorem dX1_acrossAt_28 : decode cX1_acrossAt 28 = .ok (.ireturn, 1) := by decide +kernel
theorem dX1_upAt_0 : decode cX1_upAt 0 = .ok (.iload_n 1, 1) := by decide +kernel
theorem dX1_upAt_1 : decode cX1_upAt 1 = .ok (.ifCond .lt 11, 3) := by decide +kernel
theorem dX1_upAt_4 : decode cX1_upAt 4 = .ok (.aload_n 0, 1) := by decide +kernel
theorem dX1_upAt_5 : decode cX1_upAt 5 = .ok (.getfield 22, 3) := by decide +kernel
theorem dX1_upAt_8 : decode cX1_upAt 8 = .ok (.iconst 1, 1) := by decide +kernel
theorem dX1_upAt_9 : decode cX1_upAt 9 = .ok (.if_icmp .ge 8, 3) := by decide +kernel
theorem dX1_upAt_12 : decode cX1_upAt 12 = .ok (.bipush (-6), 2) := by decide +kernel
theorem dX1_upAt_14 : decode cX1_upAt 14 = .ok (.goto 14, 3) := by decide +kernel
theorem dX1_upAt_17 : decode cX1_upAt 17 = .ok (.aload_n 0, 1) := by decide +kernel
theorem dX1_upAt_18 : decode cX1_upAt 18 = .ok (.getfield 15, 3) := by decide +kernel
theorem dX1_upAt_21 : decode cX1_upAt 21 = .ok (.iload_n 1, 1) := by decide +kernel
theorem dX1_upAt_22 : decode cX1_upAt 22 = .ok (.aload_n 0, 1) := by decide +kernel
theorem dX1_upAt_23 : decode cX1_upAt 23 = .ok (.getfield 22, 3) := by decide +kernel
theorem dX1_upAt_26 : decode cX1_upAt 26 = .ok (.irem, 1) := by decide +kernel
theorem dX1_upAt_27 : decode cX1_upAt 27 = .ok (.iaload, 1) := by decide +kernel
theorem dX1_upAt_28 : decode cX1_upAt 28 = .ok (.ireturn, 1) := by decide +kernel
theorem ip_wsX1_findMultiples__wsX1_findMultiples_r1 : ∀ w ∈ wsX1_findMultiples_r1, w ∈ wsX1_findMultiples := fun _ h => (List.mem_cons_of_mem _ (List.mem_append_left _ (List.mem_append_left _ (List.mem_append_left _ (List.mem_append_left _ h)))))
theorem ip_wsX1_findMultiples__wsX1_findMultiples_r2 : ∀ w ∈ wsX1_findMultiples_r2, w ∈ wsX1_findMultiples := fun _ h => (List.mem_cons_of_mem _ (List.mem_append_left _ (List.mem_append_left _ (List.mem_append_left _ (List.mem_append_right _ h)))))
set_option maxRecDepth 20000 in
theorem ggX1_findMultiples_X0_partByFirst : GoodIn wsX1_findMultiples wsX0_partByFirst := goodIn_sub (List.forall_mem_cons.mpr ⟨(ip_wsX1_findMultiples__wsX1_findMultiples_r1 _ (List.mem_of_getElem? (i := 8) rfl)), (x_ap2 (x_ap2 (List.forall_mem_cons.mpr ⟨(ip_wsX1_findMultiples__wsX1_findMultiples_r1 _ (List.mem_of_getElem? (i := 9) rfl)), (List.forall_mem_cons.mpr ⟨(ip_wsX1_findMultiples__wsX1_findMultiples_r1 _ (List.mem_of_getElem? (i := 10) rfl)), (List.forall_mem_cons.mpr ⟨(ip_wsX1_findMultiples__wsX1_findMultiples_r1 _ (List.mem_of_getElem? (i := 11) rfl)), (List.forall_mem_cons.mpr ⟨(ip_wsX1_findMultiples__wsX1_findMultiples_r1 _ (List.mem_of_getElem? (i := 12) rfl)), (List.forall_mem_cons.mpr ⟨(ip_wsX1_findMultiples__wsX1_findMultiples_r1 _ (List.mem_of_getElem? (i := 13) rfl)), (List.forall_mem_cons.mpr ⟨(ip_wsX1_findMultiples__wsX1_findMultiples_r1 _ (List.mem_of_getElem? (i := 7) rfl)), (List.forall_mem_cons.mpr ⟨(ip_wsX1_findMultiples__wsX1_findMultiples_r1 _ (List.mem_of_getElem? (i := 14) rfl)), (List.forall_mem_cons.mpr ⟨(ip_wsX1_findMultiples__wsX1_findMultiples_r1 _ (List.mem_of_getElem? (i := 15) rfl)), (List.forall_mem_cons.mpr ⟨(ip_wsX1_findMultiples__wsX1_findMultiples_r1 _ (List.mem_of_getElem? (i := 16) rfl)), (List.forall_mem_cons.mpr ⟨(ip_wsX1_findMultiples__wsX1_findMultiples_r1 _ (List.mem_of_getElem? (i := 17) rfl)), (List.forall_mem_cons.mpr ⟨(ip_wsX1_findMultiples__wsX1_findMultiples_r1 _ (List.mem_of_getElem? (i := 18) rfl)), (List.forall_mem_cons.mpr ⟨(ip_wsX1_findMultiples__wsX1_findMultiples_r1 _ (List.mem_of_getElem? (i := 19) rfl)), (List.forall_mem_cons.mpr ⟨(ip_wsX1_findMultiples__wsX1_findMultiples_r1 _ (List.mem_of_getElem? (i := 20) rfl)), (List.forall_mem_cons.mpr ⟨(ip_wsX1_findMultiples__wsX1_findMultiples_r1 _ (List.mem_of_getElem? (i := 21) rfl)), (List.forall_mem_cons.mpr ⟨(ip_wsX1_findMultiples__wsX1_findMultiples_r1 _ (List.mem_of_getElem? (i := 22) rfl)), (List.forall_mem_cons.mpr ⟨(ip_wsX1_findMultiples__wsX1_findMultiples_r1 _ (List.mem_of_getElem? (i := 23) rfl)), (List.forall_mem_cons.mpr ⟨(ip_wsX1_findMultiples__wsX1_findMultiples_r2 _ (List.mem_of_getElem? (i := 0) rfl)), (List.forall_mem_cons.mpr ⟨(ip_wsX1_findMultiples__wsX1_findMultiples_r2 _ (List.mem_of_getElem? (i := 1) rfl)), (List.forall_mem_cons.mpr ⟨(ip_wsX1_findMultiples__wsX1_findMultiples_r2 _ (List.mem_of_getElem? (i := 2) rfl)), (List.forall_mem_cons.mpr ⟨(ip_wsX1_findMultiples__wsX1_findMultiples_r2 _ (List.mem_of_getElem? (i := 3) rfl)), (List.forall_mem_cons.mpr ⟨(ip_wsX1_findMultiples__wsX1_findMultiples_r2 _ (List.mem_of_getElem? (i := 4) rfl)), (fun _ h => absurd h List.not_mem_nil)⟩)⟩)⟩)⟩)⟩)⟩)⟩)⟩)⟩)⟩)⟩)⟩)⟩)⟩)⟩)⟩)⟩)⟩)⟩)⟩)⟩) (fun _ h => (List.mem_cons_of_mem _ (List.mem_append_left _ (List.mem_append_right _ h))))) (fun _ h => (List.mem_cons_of_mem _ (List.mem_append_right _ h))))⟩) (by decide +kernel)
set_option maxRecDepth 20000 in
theorem gX1_findMultiples_X0_partByFirst : GoodIn wsX1_findMultiples (wsV RX1 29 RX0 yX0_partByFirst wsX0_partByFirst) := goodIn_app (goodIn_of _ (by decide +kernel)) ggX1_findMultiples_X0_partByFirst
set_option maxRecDepth 20000 in
theorem ggX1_findMultiples_X4_inverseOf : GoodIn wsX1_findMultiples wsX4_inverseOf := goodIn_sub (List.forall_mem_cons.mpr ⟨(ip_wsX1_findMultiples__wsX1_findMultiples_r1 _ (List.mem_of_getElem? (i := 22) rfl)), (x_ap2 (List.forall_mem_cons.mpr ⟨(ip_wsX1_findMultiples__wsX1_findMultiples_r1 _ (List.mem_of_getElem? (i := 23) rfl)), (List.forall_mem_cons.mpr ⟨(ip_wsX1_findMultiples__wsX1_findMultiples_r2 _ (List.mem_of_getElem? (i := 0) rfl)), (fun _ h => absurd h List.not_mem_nil)⟩)⟩) (fun _ h => (List.mem_cons_of_mem _ (List.mem_append_right _ h))))⟩) (by decide +kernel)
set_option maxRecDepth 20000 in
theorem gX1_findMultiples_X4_inverseOf : GoodIn wsX1_findMultiples (wsV RX1 35 RX4 yX4_inverseOf wsX4_inverseOf) := goodIn_app (goodIn_of _ (by decide +kernel)) ggX1_findMultiples_X4_inverseOf
set_option maxRecDepth 20000 in
theorem ggX1_findMultiples_X4_rest : GoodIn wsX1_findMultiples wsX4_rest := goodIn_sub (List.forall_mem_cons.mpr ⟨(ip_wsX1_findMultiples__wsX1_findMultiples_r2 _ (List.mem_of_getElem? (i := 4) rfl)), (x_ap2 (List.forall_mem_cons.mpr ⟨(ip_wsX1_findMultiples__wsX1_findMultiples_r1 _ (List.mem_of_getElem? (i := 23) rfl)), (fun _ h => absurd h List.not_mem_nil)⟩) (fun _ h => (List.mem_cons_of_mem _ (List.mem_append_right _ h))))⟩) (by decide +kernel)
set_option maxRecDepth 20000 in
theorem gX1_findMultiples_X4_rest : GoodIn wsX1_findMultiples (wsV RX1 40 RX4 yX4_rest wsX4_rest) := goodIn_app (goodIn_of _ (by decide +kernel)) ggX1_findMultiples_X4_rest
theorem dX1_findMultiples_0 : decode cX1_findMultiples 0 = .ok (.aload_n 1, 1) := by decide +kernel
theorem dX1_findMultiples_1 : decode cX1_findMultiples 1 = .ok (.iconst 1, 1) := by decide +kernel
theorem dX1_findMultiples_2 : decode cX1_findMultiples 2 = .ok (.invokevirtual 29, 3) := by decide +kernel
theorem dX1_findMultiples_5 : decode cX1_findMultiples 5 = .ok (.istore_n 2, 1) := by decide +kernel
theorem dX1_findMultiples_6 : decode cX1_findMultiples 6 = .ok (.aload_n 1, 1) := by decide +kernel
theorem dX1_findMultiples_7 : decode cX1_findMultiples 7 = .ok (.iconst 2, 1) := by decide +kernel
theorem dX1_findMultiples_8 : decode cX1_findMultiples 8 = .ok (.invokevirtual 29, 3) := by decide +kernel
theorem dX1_findMultiples_11 : decode cX1_findMultiples 11 = .ok (.istore_n 3, 1) := by decide +kernel
theorem dX1_findMultiples_12 : decode cX1_findMultiples 12 = .ok (.aload_n 0, 1) := by decide +kernel
theorem dX1_findMultiples_13 : decode cX1_findMultiples 13 = .ok (.getfield 18, 3) := by decide +kernel
theorem dX1_findMultiples_16 : decode cX1_findMultiples 16 = .ok (.aload_n 1, 1) := by decide +kernel
theorem dX1_findMultiples_17 : decode cX1_findMultiples 17 = .ok (.iconst 3, 1) := by decide +kernel
theorem dX1_findMultiples_18 : decode cX1_findMultiples 18 = .ok (.invokevirtual 29, 3) := by decide +kernel
theorem dX1_findMultiples_21 : decode cX1_findMultiples 21 = .ok (.invokevirtual 35, 3) := by decide +kernel
theorem dX1_findMultiples_24 : decode cX1_findMultiples 24 = .ok (.istore 4, 2) := by decide +kernel
theorem dX1_findMultiples_26 : decode cX1_findMultiples 26 = .ok (.aload_n 0, 1) := by decide +kernel
theorem dX1_findMultiples_27 : decode cX1_findMultiples 27 = .ok (.getfield 18, 3) := by decide +kernel
theorem dX1_findMultiples_30 : decode cX1_findMultiples 30 = .ok (.iconst (-1), 1) := by decide +kernel
theorem dX1_findMultiples_31 : decode cX1_findMultiples 31 = .ok (.invokevirtual 40, 3) := by decide +kernel
theorem dX1_findMultiples_34 : decode cX1_findMultiples 34 = .ok (.istore 5, 2) := by decide +kernel
theorem dX1_findMultiples_36 : decode cX1_findMultiples 36 = .ok (.aload_n 0, 1) := by decide +kernel
theorem dX1_findMultiples_37 : decode cX1_findMultiples 37 = .ok (.getfield 11, 3) := by decide +kernel
theorem dX1_findMultiples_40 : decode cX1_findMultiples 40 = .ok (.iconst 0, 1) := by decide +kernel
theorem dX1_findMultiples_41 : decode cX1_findMultiples 41 = .ok (.bipush (-6), 2) := by decide +kernel
theorem dX1_findMultiples_43 : decode cX1_findMultiples 43 = .ok (.iastore, 1) := by decide +kernel
theorem dX1_findMultiples_44 : decode cX1_findMultiples 44 = .ok (.aload_n 0, 1) := by decide +kernel
theorem dX1_findMultiples_45 : decode cX1_findMultiples 45 = .ok (.getfield 15, 3) := by decide +kernel
theorem dX1_findMultiples_48 : decode cX1_findMultiples 48 = .ok (.iconst 0, 1) := by decide +kernel
theorem dX1_findMultiples_49 : decode cX1_findMultiples 49 = .ok (.bipush (-6), 2) := by decide +kernel
theorem dX1_findMultiples_51 : decode cX1_findMultiples 51 = .ok (.iastore, 1) := by decide +kernel
theorem dX1_findMultiples_52 : decode cX1_findMultiples 52 = .ok (.iconst 0, 1) := by decide +kernel
theorem dX1_findMultiples_53 : decode cX1_findMultiples 53 = .ok (.istore 6, 2) := by decide +kernel
theorem dX1_findMultiples_55 : decode cX1_findMultiples 55 = .ok (.iconst 1, 1) := by decide +kernel
theorem dX1_findMultiples_56 : decode cX1_findMultiples 56 = .ok (.istore 7, 2) := by decide +kernel
theorem dX1_findMultiples_58 : decode cX1_findMultiples 58 = .ok (.iconst 1, 1) := by decide +kernel
theorem dX1_findMultiples_59 : decode cX1_findMultiples 59 = .ok (.istore 8, 2) := by decide +kernel
theorem dX1_findMultiples_61 : decode cX1_findMultiples 61 = .ok (.iload 8, 2) := by decide +kernel
theorem dX1_findMultiples_63 : decode cX1_findMultiples 63 = .ok (.sipush 255, 3) := by decide +kernel
theorem dX1_findMultiples_66 : decode cX1_findMultiples 66 = .ok (.if_icmp .ge 123, 3) := by decide +kernel
theorem dX1_findMultiples_69 : decode cX1_findMultiples 69 = .ok (.iload 6, 2) := by decide +kernel
theorem dX1_findMultiples_71 : decode cX1_findMultiples 71 = .ok (.ifCond .ne 10, 3) := by decide +kernel
theorem dX1_findMultiples_74 : decode cX1_findMultiples 74 = .ok (.iload 7, 2) := by decide +kernel
theorem dX1_findMultiples_76 : decode cX1_findMultiples 76 = .ok (.iload 5, 2) := by decide +kernel
theorem dX1_findMultiples_78 : decode cX1_findMultiples 78 = .ok (.if_icmp .eq 111, 3) := by decide +kernel
theorem dX1_findMultiples_81 : decode cX1_findMultiples 81 = .ok (.aload_n 0, 1) := by decide +kernel
theorem dX1_findMultiples_82 : decode cX1_findMultiples 82 = .ok (.getfield 11, 3) := by decide +kernel
theorem dX1_findMultiples_85 : decode cX1_findMultiples 85 = .ok (.iload 8, 2) := by decide +kernel
theorem dX1_findMultiples_87 : decode cX1_findMultiples 87 = .ok (.iload 6, 2) := by decide +kernel
theorem dX1_findMultiples_89 : decode cX1_findMultiples 89 = .ok (.iastore, 1) := by decide +kernel
theorem dX1_findMultiples_90 : decode cX1_findMultiples 90 = .ok (.aload_n 0, 1) := by decide +kernel
theorem dX1_findMultiples_91 : decode cX1_findMultiples 91 = .ok (.getfield 15, 3) := by decide +kernel
theorem dX1_findMultiples_94 : decode cX1_findMultiples 94 = .ok (.iload 8, 2) := by decide +kernel
theorem dX1_findMultiples_96 : decode cX1_findMultiples 96 = .ok (.iload 7, 2) := by decide +kernel
theorem dX1_findMultiples_98 : decode cX1_findMultiples 98 = .ok (.iastore, 1) := by decide +kernel
theorem dX1_findMultiples_99 : decode cX1_findMultiples 99 = .ok (.iload 6, 2) := by decide +kernel
theorem dX1_findMultiples_101 : decode cX1_findMultiples 101 = .ok (.ifCond .ne 16, 3) := by decide +kernel
theorem dX1_findMultiples_104 : decode cX1_findMultiples 104 = .ok (.iload_n 2, 1) := by decide +kernel
theorem dX1_findMultiples_105 : decode cX1_findMultiples 105 = .ok (.aload_n 0, 1) := by decide +kernel
theorem dX1_findMultiples_106 : decode cX1_findMultiples 106 = .ok (.getfield 18, 3) := by decide +kernel
theorem dX1_findMultiples_109 : decode cX1_findMultiples 109 = .ok (.iconst 2, 1) := by decide +kernel
theorem dX1_findMultiples_110 : decode cX1_findMultiples 110 = .ok (.invokevirtual 35, 3) := by decide +kernel
theorem dX1_findMultiples_113 : decode cX1_findMultiples 113 = .ok (.imul, 1) := by decide +kernel
theorem dX1_findMultiples_114 : decode cX1_findMultiples 114 = .ok (.goto 17, 3) := by decide +kernel
theorem dX1_findMultiples_117 : decode cX1_findMultiples 117 = .ok (.iload 7, 2) := by decide +kernel
theorem dX1_findMultiples_119 : decode cX1_findMultiples 119 = .ok (.iconst 1, 1) := by decide +kernel
theorem dX1_findMultiples_120 : decode cX1_findMultiples 120 = .ok (.isub, 1) := by decide +kernel
theorem dX1_findMultiples_121 : decode cX1_findMultiples 121 = .ok (.aload_n 0, 1) := by decide +kernel
theorem dX1_findMultiples_122 : decode cX1_findMultiples 122 = .ok (.getfield 18, 3) := by decide +kernel
theorem dX1_findMultiples_125 : decode cX1_findMultiples 125 = .ok (.iload 6, 2) := by decide +kernel
theorem dX1_findMultiples_127 : decode cX1_findMultiples 127 = .ok (.invokevirtual 35, 3) := by decide +kernel
theorem dX1_findMultiples_130 : decode cX1_findMultiples 130 = .ok (.imul, 1) := by decide +kernel
theorem dX1_findMultiples_131 : decode cX1_findMultiples 131 = .ok (.istore 9, 2) := by decide +kernel
theorem dX1_findMultiples_133 : decode cX1_findMultiples 133 = .ok (.aload_n 0, 1) := by decide +kernel
theorem dX1_findMultiples_134 : decode cX1_findMultiples 134 = .ok (.getfield 18, 3) := by decide +kernel
theorem dX1_findMultiples_137 : decode cX1_findMultiples 137 = .ok (.iload 9, 2) := by decide +kernel
theorem dX1_findMultiples_139 : decode cX1_findMultiples 139 = .ok (.invokevirtual 40, 3) := by decide +kernel
theorem dX1_findMultiples_142 : decode cX1_findMultiples 142 = .ok (.istore 9, 2) := by decide +kernel
theorem dX1_findMultiples_144 : decode cX1_findMultiples 144 = .ok (.aload_n 0, 1) := by decide +kernel
theorem dX1_findMultiples_145 : decode cX1_findMultiples 145 = .ok (.getfield 18, 3) := by decide +kernel
theorem dX1_findMultiples_148 : decode cX1_findMultiples 148 = .ok (.iload 9, 2) := by decide +kernel
theorem dX1_findMultiples_150 : decode cX1_findMultiples 150 = .ok (.iload 9, 2) := by decide +kernel
theorem dX1_findMultiples_152 : decode cX1_findMultiples 152 = .ok (.imul, 1) := by decide +kernel
theorem dX1_findMultiples_153 : decode cX1_findMultiples 153 = .ok (.iload_n 3, 1) := by decide +kernel
theorem dX1_findMultiples_154 : decode cX1_findMultiples 154 = .ok (.isub, 1) := by decide +kernel
theorem dX1_findMultiples_155 : decode cX1_findMultiples 155 = .ok (.iload 4, 2) := by decide +kernel
theorem dX1_findMultiples_157 : decode cX1_findMultiples 157 = .ok (.imul, 1) := by decide +kernel
theorem dX1_findMultiples_158 : decode cX1_findMultiples 158 = .ok (.iload 6, 2) := by decide +kernel
theorem dX1_findMultiples_160 : decode cX1_findMultiples 160 = .ok (.isub, 1) := by decide +kernel
theorem dX1_findMultiples_161 : decode cX1_findMultiples 161 = .ok (.invokevirtual 40, 3) := by decide +kernel
theorem dX1_findMultiples_164 : decode cX1_findMultiples 164 = .ok (.istore 6, 2) := by decide +kernel
theorem dX1_findMultiples_166 : decode cX1_findMultiples 166 = .ok (.aload_n 0, 1) := by decide +kernel
theorem dX1_findMultiples_167 : decode cX1_findMultiples 167 = .ok (.getfield 18, 3) := by decide +kernel
theorem dX1_findMultiples_170 : decode cX1_findMultiples 170 = .ok (.iload 9, 2) := by decide +kernel
theorem dX1_findMultiples_172 : decode cX1_findMultiples 172 = .ok (.ineg, 1) := by decide +kernel
theorem dX1_findMultiples_173 : decode cX1_findMultiples 173 = .ok (.iload 6, 2) := by decide +kernel
theorem dX1_findMultiples_175 : decode cX1_findMultiples 175 = .ok (.imul, 1) := by decide +kernel
theorem dX1_findMultiples_176 : decode cX1_findMultiples 176 = .ok (.iconst 1, 1) := by decide +kernel
theorem dX1_findMultiples_177 : decode cX1_findMultiples 177 = .ok (.isub, 1) := by decide +kernel
theorem dX1_findMultiples_178 : decode cX1_findMultiples 178 = .ok (.invokevirtual 40, 3) := by decide +kernel
theorem dX1_findMultiples_181 : decode cX1_findMultiples 181 = .ok (.istore 7, 2) := by decide +kernel
theorem dX1_findMultiples_183 : decode cX1_findMultiples 183 = .ok (.iinc 8 1, 3) := by decide +kernel
theorem dX1_findMultiples_186 : decode cX1_findMultiples 186 = .ok (.goto (-125), 3) := by decide +kernel
theorem dX1_findMultiples_189 : decode cX1_findMultiples 189 = .ok (.aload_n 0, 1) := by decide +kernel
theorem dX1_findMultiples_190 : decode cX1_findMultiples 190 = .ok (.getfield 11, 3) := by decide +kernel
theorem dX1_findMultiples_193 : decode cX1_findMultiples 193 = .ok (.iload 8, 2) := by decide +kernel
theorem dX1_findMultiples_195 : decode cX1_findMultiples 195 = .ok (.iload 6, 2) := by decide +kernel
theorem dX1_findMultiples_197 : decode cX1_findMultiples 197 = .ok (.iastore, 1) := by decide +kernel
theorem dX1_findMultiples_198 : decode cX1_findMultiples 198 = .ok (.aload_n 0, 1) := by decide +kernel
theorem dX1_findMultiples_199 : decode cX1_findMultiples 199 = .ok (.getfield 15, 3) := by decide +kernel
theorem dX1_findMultiples_202 : decode cX1_findMultiples 202 = .ok (.iload 8, 2) := by decide +kernel
theorem dX1_findMultiples_204 : decode cX1_findMultiples 204 = .ok (.iload 7, 2) := by decide +kernel
theorem dX1_findMultiples_206 : decode cX1_findMultiples 206 = .ok (.iastore, 1) := by decide +kernel
theorem dX1_findMultiples_207 : decode cX1_findMultiples 207 = .ok (.aload_n 0, 1) := by decide +kernel
theorem dX1_findMultiples_208 : decode cX1_findMultiples 208 = .ok (.iload 8, 2) := by decide +kernel
theorem dX1_findMultiples_210 : decode cX1_findMultiples 210 = .ok (.iconst 1, 1) := by decide +kernel
theorem dX1_findMultiples_211 : decode cX1_findMultiples 211 = .ok (.iadd, 1) := by decide +kernel
theorem dX1_findMultiples_212 : decode cX1_findMultiples 212 = .ok (.putfield 22, 3) := by decide +kernel
theorem dX1_findMultiples_215 : decode cX1_findMultiples 215 = .ok (.return_, 1) := by decide +kernel
theorem ip_wsX1_findCount__wsX1_findCount_r1 : ∀ w ∈ wsX1_findCount_r1, w ∈ wsX1_findCount := fun _ h => (List.mem_cons_of_mem _ (List.mem_append_left _ (List.mem_append_left _ (List.mem_append_left _ (List.mem_append_left _ h)))))
theorem ip_wsX1_findCount__wsX1_findCount_r2 : ∀ w ∈ wsX1_findCount_r2, w ∈ wsX1_findCount := fun _ h => (List.mem_cons_of_mem _ (List.mem_append_left _ (List.mem_append_left _ (List.mem_append_left _ (List.mem_append_right _ h)))))
set_option maxRecDepth 20000 in
theorem ggX1_findCount_X0_partByFirst : GoodIn wsX1_findCount wsX0_partByFirst := goodIn_sub (List.forall_mem_cons.mpr ⟨(ip_wsX1_findCount__wsX1_findCount_r1 _ (List.mem_of_getElem? (i := 6) rfl)), (x_ap2 (x_ap2 (List.forall_mem_cons.mpr ⟨(ip_wsX1_findCount__wsX1_findCount_r1 _ (List.mem_of_getElem? (i := 7) rfl)), (List.forall_mem_cons.mpr ⟨(ip_wsX1_findCount__wsX1_findCount_r1 _ (List.mem_of_getElem? (i := 8) rfl)), (List.forall_mem_cons.mpr ⟨(ip_wsX1_findCount__wsX1_findCount_r1 _ (List.mem_of_getElem? (i := 9) rfl)), (List.forall_mem_cons.mpr ⟨(ip_wsX1_findCount__wsX1_findCount_r1 _ (List.mem_of_getElem? (i := 10) rfl)), (List.forall_mem_cons.mpr ⟨(ip_wsX1_findCount__wsX1_findCount_r1 _ (List.mem_of_getElem? (i := 11) rfl)), (List.forall_mem_cons.mpr ⟨(ip_wsX1_findCount__wsX1_findCount_r1 _ (List.mem_of_getElem? (i := 5) rfl)), (List.forall_mem_cons.mpr ⟨(ip_wsX1_findCount__wsX1_findCount_r1 _ (List.mem_of_getElem? (i := 12) rfl)), (List.forall_mem_cons.mpr ⟨(ip_wsX1_findCount__wsX1_findCount_r1 _ (List.mem_of_getElem? (i := 13) rfl)), (List.forall_mem_cons.mpr ⟨(ip_wsX1_findCount__wsX1_findCount_r1 _ (List.mem_of_getElem? (i := 14) rfl)), (List.forall_mem_cons.mpr ⟨(ip_wsX1_findCount__wsX1_findCount_r1 _ (List.mem_of_getElem? (i := 15) rfl)), (List.forall_mem_cons.mpr ⟨(ip_wsX1_findCount__wsX1_findCount_r1 _ (List.mem_of_getElem? (i := 16) rfl)), (List.forall_mem_cons.mpr ⟨(ip_wsX1_findCount__wsX1_findCount_r1 _ (List.mem_of_getElem? (i := 17) rfl)), (List.forall_mem_cons.mpr ⟨(ip_wsX1_findCount__wsX1_findCount_r1 _ (List.mem_of_getElem? (i := 18) rfl)), (List.forall_mem_cons.mpr ⟨(ip_wsX1_findCount__wsX1_findCount_r1 _ (List.mem_of_getElem? (i := 19) rfl)), (List.forall_mem_cons.mpr ⟨(ip_wsX1_findCount__wsX1_findCount_r1 _ (List.mem_of_getElem? (i := 20) rfl)), (List.forall_mem_cons.mpr ⟨(ip_wsX1_findCount__wsX1_findCount_r1 _ (List.mem_of_getElem? (i := 21) rfl)), (List.forall_mem_cons.mpr ⟨(ip_wsX1_findCount__wsX1_findCount_r1 _ (List.mem_of_getElem? (i := 22) rfl)), (List.forall_mem_cons.mpr ⟨(ip_wsX1_findCount__wsX1_findCount_r1 _ (List.mem_of_getElem? (i := 23) rfl)), (List.forall_mem_cons.mpr ⟨(ip_wsX1_findCount__wsX1_findCount_r2 _ (List.mem_of_getElem? (i := 0) rfl)), (List.forall_mem_cons.mpr ⟨(ip_wsX1_findCount__wsX1_findCount_r2 _ (List.mem_of_getElem? (i := 1) rfl)), (List.forall_mem_cons.mpr ⟨(ip_wsX1_findCount__wsX1_findCount_r2 _ (List.mem_of_getElem? (i := 2) rfl)), (fun _ h => absurd h List.not_mem_nil)⟩)⟩)⟩)⟩)⟩)⟩)⟩)⟩)⟩)⟩)⟩)⟩)⟩)⟩)⟩)⟩)⟩)⟩)⟩)⟩)⟩) (fun _ h => (List.mem_cons_of_mem _ (List.mem_append_left _ (List.mem_append_right _ h))))) (fun _ h => (List.mem_cons_of_mem _ (List.mem_append_right _ h))))⟩) (by decide +kernel)
set_option maxRecDepth 20000 in
theorem gX1_findCount_X0_partByFirst : GoodIn wsX1_findCount (wsV RX1 29 RX0 yX0_partByFirst wsX0_partByFirst) := goodIn_app (goodIn_of _ (by decide +kernel)) ggX1_findCount_X0_partByFirst
set_option maxRecDepth 20000 in
theorem ggX1_findCount_X4_prime : GoodIn wsX1_findCount wsX4_prime := goodIn_sub (List.forall_mem_cons.mpr ⟨(ip_wsX1_findCount__wsX1_findCount_r2 _ (List.mem_of_getElem? (i := 6) rfl)), (x_ap2 (List.forall_mem_cons.mpr ⟨(ip_wsX1_findCount__wsX1_findCount_r1 _ (List.mem_of_getElem? (i := 21) rfl)), (fun _ h => absurd h List.not_mem_nil)⟩) (fun _ h => (List.mem_cons_of_mem _ (List.mem_append_right _ h))))⟩) (by decide +kernel)
set_option maxRecDepth 20000 in
theorem gX1_findCount_X4_prime : GoodIn wsX1_findCount (wsV RX1 43 RX4 yX4_prime wsX4_prime) := goodIn_app (goodIn_of _ (by decide +kernel)) ggX1_findCount_X4_prime
set_option maxRecDepth 20000 in
theorem ggX1_findCount_X4_rest : GoodIn wsX1_findCount wsX4_rest := goodIn_sub (List.forall_mem_cons.mpr ⟨(ip_wsX1_findCount__wsX1_findCount_r2 _ (List.mem_of_getElem? (i := 2) rfl)), (x_ap2 (List.forall_mem_cons.mpr ⟨(ip_wsX1_findCount__wsX1_findCount_r1 _ (List.mem_of_getElem? (i := 21) rfl)), (fun _ h => absurd h List.not_mem_nil)⟩) (fun _ h => (List.mem_cons_of_mem _ (List.mem_append_right _ h))))⟩) (by decide +kernel)
set_option maxRecDepth 20000 in
theorem gX1_findCount_X4_rest : GoodIn wsX1_findCount (wsV RX1 40 RX4 yX4_rest wsX4_rest) := goodIn_app (goodIn_of _ (by decide +kernel)) ggX1_findCount_X4_rest
set_option maxRecDepth 20000 in
theorem ggX1_findCount_X4_rootOf : GoodIn wsX1_findCount wsX4_rootOf := goodIn_sub (List.forall_mem_cons.mpr ⟨(ip_wsX1_findCount__wsX1_findCount_r2 _ (List.mem_of_getElem? (i := 11) rfl)), (x_ap2 (List.forall_mem_cons.mpr ⟨(ip_wsX1_findCount__wsX1_findCount_r2 _ (List.mem_of_getElem? (i := 12) rfl)), (List.forall_mem_cons.mpr ⟨(ip_wsX1_findCount__wsX1_findCount_r2 _ (List.mem_of_getElem? (i := 13) rfl)), (List.forall_mem_cons.mpr ⟨(ip_wsX1_findCount__wsX1_findCount_r2 _ (List.mem_of_getElem? (i := 0) rfl)), (List.forall_mem_cons.mpr ⟨(ip_wsX1_findCount__wsX1_findCount_r2 _ (List.mem_of_getElem? (i := 1) rfl)), (List.forall_mem_cons.mpr ⟨(ip_wsX1_findCount__wsX1_findCount_r1 _ (List.mem_of_getElem? (i := 19) rfl)), (List.forall_mem_cons.mpr ⟨(ip_wsX1_findCount__wsX1_findCount_r2 _ (List.mem_of_getElem? (i := 2) rfl)), (List.forall_mem_cons.mpr ⟨(ip_wsX1_findCount__wsX1_findCount_r1 _ (List.mem_of_getElem? (i := 21) rfl)), (fun _ h => absurd h List.not_mem_nil)⟩)⟩)⟩)⟩)⟩)⟩)⟩) (fun _ h => (List.mem_cons_of_mem _ (List.mem_append_right _ h))))⟩) (by decide +kernel)
set_option maxRecDepth 20000 in
theorem gX1_findCount_X4_rootOf : GoodIn wsX1_findCount (wsV RX1 47 RX4 yX4_rootOf wsX4_rootOf) := goodIn_app (goodIn_of _ (by decide +kernel)) ggX1_findCount_X4_rootOf
theorem dX1_findCount_0 : decode cX1_findCount 0 = .ok (.aload_n 1, 1) := by decide +kernel
theorem dX1_findCount_1 : decode cX1_findCount 1 = .ok (.iconst 1, 1) := by decide +kernel
theorem dX1_findCount_2 : decode cX1_findCount 2 = .ok (.invokevirtual 29, 3) := by decide +kernel
theorem dX1_findCount_5 : decode cX1_findCount 5 = .ok (.istore_n 2, 1) := by decide +kernel
theorem dX1_findCount_6 : decode cX1_findCount 6 = .ok (.aload_n 1, 1) := by decide +kernel
theorem dX1_findCount_7 : decode cX1_findCount 7 = .ok (.iconst 2, 1) := by decide +kernel
theorem dX1_findCount_8 : decode cX1_findCount 8 = .ok (.invokevirtual 29, 3) := by decide +kernel
theorem dX1_findCount_11 : decode cX1_findCount 11 = .ok (.istore_n 3, 1) := by decide +kernel
theorem dX1_findCount_12 : decode cX1_findCount 12 = .ok (.aload_n 1, 1) := by decide +kernel
theorem dX1_findCount_13 : decode cX1_findCount 13 = .ok (.iconst 3, 1) := by decide +kernel
theorem dX1_findCount_14 : decode cX1_findCount 14 = .ok (.invokevirtual 29, 3) := by decide +kernel
theorem dX1_findCount_17 : decode cX1_findCount 17 = .ok (.istore 4, 2) := by decide +kernel
theorem dX1_findCount_19 : decode cX1_findCount 19 = .ok (.aload_n 0, 1) := by decide +kernel
theorem dX1_findCount_20 : decode cX1_findCount 20 = .ok (.iconst 1, 1) := by decide +kernel
theorem dX1_findCount_21 : decode cX1_findCount 21 = .ok (.putfield 26, 3) := by decide +kernel
theorem dX1_findCount_24 : decode cX1_findCount 24 = .ok (.iconst 0, 1) := by decide +kernel
theorem dX1_findCount_25 : decode cX1_findCount 25 = .ok (.istore 5, 2) := by decide +kernel
theorem dX1_findCount_27 : decode cX1_findCount 27 = .ok (.iload 5, 2) := by decide +kernel
theorem dX1_findCount_29 : decode cX1_findCount 29 = .ok (.aload_n 0, 1) := by decide +kernel
theorem dX1_findCount_30 : decode cX1_findCount 30 = .ok (.getfield 18, 3) := by decide +kernel
theorem dX1_findCount_33 : decode cX1_findCount 33 = .ok (.invokevirtual 43, 3) := by decide +kernel
theorem dX1_findCount_36 : decode cX1_findCount 36 = .ok (.if_icmp .ge 79, 3) := by decide +kernel
theorem dX1_findCount_39 : decode cX1_findCount 39 = .ok (.aload_n 0, 1) := by decide +kernel
theorem dX1_findCount_40 : decode cX1_findCount 40 = .ok (.getfield 18, 3) := by decide +kernel
theorem dX1_findCount_43 : decode cX1_findCount 43 = .ok (.aload_n 0, 1) := by decide +kernel
theorem dX1_findCount_44 : decode cX1_findCount 44 = .ok (.getfield 18, 3) := by decide +kernel
theorem dX1_findCount_47 : decode cX1_findCount 47 = .ok (.iload 4, 2) := by decide +kernel
theorem dX1_findCount_49 : decode cX1_findCount 49 = .ok (.iload 5, 2) := by decide +kernel
theorem dX1_findCount_51 : decode cX1_findCount 51 = .ok (.imul, 1) := by decide +kernel
theorem dX1_findCount_52 : decode cX1_findCount 52 = .ok (.iload_n 3, 1) := by decide +kernel
theorem dX1_findCount_53 : decode cX1_findCount 53 = .ok (.iadd, 1) := by decide +kernel
theorem dX1_findCount_54 : decode cX1_findCount 54 = .ok (.iload 5, 2) := by decide +kernel
theorem dX1_findCount_56 : decode cX1_findCount 56 = .ok (.imul, 1) := by decide +kernel
theorem dX1_findCount_57 : decode cX1_findCount 57 = .ok (.iload_n 2, 1) := by decide +kernel
theorem dX1_findCount_58 : decode cX1_findCount 58 = .ok (.iadd, 1) := by decide +kernel
theorem dX1_findCount_59 : decode cX1_findCount 59 = .ok (.invokevirtual 40, 3) := by decide +kernel
theorem dX1_findCount_62 : decode cX1_findCount 62 = .ok (.iload 5, 2) := by decide +kernel
theorem dX1_findCount_64 : decode cX1_findCount 64 = .ok (.imul, 1) := by decide +kernel
theorem dX1_findCount_65 : decode cX1_findCount 65 = .ok (.iconst 1, 1) := by decide +kernel
theorem dX1_findCount_66 : decode cX1_findCount 66 = .ok (.iadd, 1) := by decide +kernel
theorem dX1_findCount_67 : decode cX1_findCount 67 = .ok (.invokevirtual 40, 3) := by decide +kernel
theorem dX1_findCount_70 : decode cX1_findCount 70 = .ok (.istore 6, 2) := by decide +kernel
theorem dX1_findCount_72 : decode cX1_findCount 72 = .ok (.aload_n 0, 1) := by decide +kernel
theorem dX1_findCount_73 : decode cX1_findCount 73 = .ok (.getfield 18, 3) := by decide +kernel
theorem dX1_findCount_76 : decode cX1_findCount 76 = .ok (.iload 6, 2) := by decide +kernel
theorem dX1_findCount_78 : decode cX1_findCount 78 = .ok (.invokevirtual 47, 3) := by decide +kernel
theorem dX1_findCount_81 : decode cX1_findCount 81 = .ok (.istore 7, 2) := by decide +kernel
theorem dX1_findCount_83 : decode cX1_findCount 83 = .ok (.iload 7, 2) := by decide +kernel
theorem dX1_findCount_85 : decode cX1_findCount 85 = .ok (.bipush (-6), 2) := by decide +kernel
theorem dX1_findCount_87 : decode cX1_findCount 87 = .ok (.if_icmp .eq 22, 3) := by decide +kernel
theorem dX1_findCount_90 : decode cX1_findCount 90 = .ok (.aload_n 0, 1) := by decide +kernel
theorem dX1_findCount_91 : decode cX1_findCount 91 = .ok (.dup, 1) := by decide +kernel
theorem dX1_findCount_92 : decode cX1_findCount 92 = .ok (.getfield 26, 3) := by decide +kernel
theorem dX1_findCount_95 : decode cX1_findCount 95 = .ok (.iload 7, 2) := by decide +kernel
theorem dX1_findCount_97 : decode cX1_findCount 97 = .ok (.ifCond .ne 7, 3) := by decide +kernel
theorem dX1_findCount_100 : decode cX1_findCount 100 = .ok (.iconst 1, 1) := by decide +kernel
theorem dX1_findCount_101 : decode cX1_findCount 101 = .ok (.goto 4, 3) := by decide +kernel
theorem dX1_findCount_104 : decode cX1_findCount 104 = .ok (.iconst 2, 1) := by decide +kernel
theorem dX1_findCount_105 : decode cX1_findCount 105 = .ok (.iadd, 1) := by decide +kernel
theorem dX1_findCount_106 : decode cX1_findCount 106 = .ok (.putfield 26, 3) := by decide +kernel
theorem dX1_findCount_109 : decode cX1_findCount 109 = .ok (.iinc 5 1, 3) := by decide +kernel
theorem dX1_findCount_112 : decode cX1_findCount 112 = .ok (.goto (-85), 3) := by decide +kernel
theorem dX1_findCount_115 : decode cX1_findCount 115 = .ok (.return_, 1) := by decide +kernel
theorem dX2_init_0 : decode cX2_init 0 = .ok (.aload_n 0, 1) := by decide +kernel
theorem dX2_init_1 : decode cX2_init 1 = .ok (.invokespecial 1, 3) := by decide +kernel
theorem dX2_init_4 : decode cX2_init 4 = .ok (.aload_n 0, 1) := by decide +kernel
theorem dX2_init_5 : decode cX2_init 5 = .ok (.aload_n 1, 1) := by decide +kernel
theorem dX2_init_6 : decode cX2_init 6 = .ok (.putfield 7, 3) := by decide +kernel
theorem dX2_init_9 : decode cX2_init 9 = .ok (.return_, 1) := by decide +kernel
set_option maxRecDepth 20000 in
theorem ggX2_take_X4_rest : GoodIn wsX2_take wsX4_rest := goodIn_sub (List.forall_mem_cons.mpr ⟨(List.mem_cons_of_mem _ (List.mem_append_left _ (List.mem_append_left _ (List.mem_of_getElem? (i := 11) rfl)))), (x_ap2 (List.forall_mem_cons.mpr ⟨(List.mem_cons_of_mem _ (List.mem_append_left _ (List.mem_append_left _ (List.mem_of_getElem? (i := 12) rfl)))), (fun _ h => absurd h List.not_mem_nil)⟩) (fun _ h => (List.mem_cons_of_mem _ (List.mem_append_right _ h))))⟩) (by decide +kernel)
set_option maxRecDepth 20000 in
theorem gX2_take_X4_rest : GoodIn wsX2_take (wsV RX2 13 RX4 yX4_rest wsX4_rest) := goodIn_app (goodIn_of _ (by decide +kernel)) ggX2_take_X4_rest
theorem dX2_take_0 : decode cX2_take 0 = .ok (.aload_n 0, 1) := by decide +kernel
theorem dX2_take_1 : decode cX2_take 1 = .ok (.aload_n 0, 1) := by decide +kernel
theorem dX2_take_2 : decode cX2_take 2 = .ok (.getfield 7, 3) := by decide +kernel
theorem dX2_take_5 : decode cX2_take 5 = .ok (.iload_n 1, 1) := by decide +kernel
theorem dX2_take_6 : decode cX2_take 6 = .ok (.invokevirtual 13, 3) := by decide +kernel
theorem dX2_take_9 : decode cX2_take 9 = .ok (.putfield 19, 3) := by decide +kernel
theorem dX2_take_12 : decode cX2_take 12 = .ok (.aload_n 0, 1) := by decide +kernel
theorem dX2_take_13 : decode cX2_take 13 = .ok (.aload_n 0, 1) := by decide +kernel
theorem dX2_take_14 : decode cX2_take 14 = .ok (.getfield 7, 3) := by decide +kernel
theorem dX2_take_17 : decode cX2_take 17 = .ok (.iload_n 2, 1) := by decide +kernel
theorem dX2_take_18 : decode cX2_take 18 = .ok (.invokevirtual 13, 3) := by decide +kernel
theorem dX2_take_21 : decode cX2_take 21 = .ok (.putfield 23, 3) := by decide +kernel
theorem dX2_take_24 : decode cX2_take 24 = .ok (.aload_n 0, 1) := by decide +kernel
theorem dX2_take_25 : decode cX2_take 25 = .ok (.aload_n 0, 1) := by decide +kernel
theorem dX2_take_26 : decode cX2_take 26 = .ok (.getfield 7, 3) := by decide +kernel
theorem dX2_take_29 : decode cX2_take 29 = .ok (.iload_n 3, 1) := by decide +kernel
theorem dX2_take_30 : decode cX2_take 30 = .ok (.invokevirtual 13, 3) := by decide +kernel
theorem dX2_take_33 : decode cX2_take 33 = .ok (.putfield 26, 3) := by decide +kernel
theorem dX2_take_36 : decode cX2_take 36 = .ok (.aload_n 0, 1) := by decide +kernel
theorem dX2_take_37 : decode cX2_take 37 = .ok (.aload_n 0, 1) := by decide +kernel
theorem dX2_take_38 : decode cX2_take 38 = .ok (.getfield 7, 3) := by decide +kernel
theorem dX2_take_41 : decode cX2_take 41 = .ok (.iload 4, 2) := by decide +kernel
theorem dX2_take_43 : decode cX2_take 43 = .ok (.invokevirtual 13, 3) := by decide +kernel
theorem dX2_take_46 : decode cX2_take 46 = .ok (.putfield 29, 3) := by decide +kernel
theorem dX2_take_49 : decode cX2_take 49 = .ok (.aload_n 0, 1) := by decide +kernel
theorem dX2_take_50 : decode cX2_take 50 = .ok (.aload_n 0, 1) := by decide +kernel
theorem dX2_take_51 : decode cX2_take 51 = .ok (.getfield 7, 3) := by decide +kernel
theorem dX2_take_54 : decode cX2_take 54 = .ok (.iload 5, 2) := by decide +kernel
theorem dX2_take_56 : decode cX2_take 56 = .ok (.invokevirtual 13, 3) := by decide +kernel
theorem dX2_take_59 : decode cX2_take 59 = .ok (.putfield 32, 3) := by decide +kernel
theorem dX2_take_62 : decode cX2_take 62 = .ok (.aload_n 0, 1) := by decide +kernel
theorem dX2_take_63 : decode cX2_take 63 = .ok (.aload_n 0, 1) := by decide +kernel
theorem dX2_take_64 : decode cX2_take 64 = .ok (.getfield 7, 3) := by decide +kernel
theorem dX2_take_67 : decode cX2_take 67 = .ok (.iload 6, 2) := by decide +kernel
theorem dX2_take_69 : decode cX2_take 69 = .ok (.invokevirtual 13, 3) := by decide +kernel
theorem dX2_take_72 : decode cX2_take 72 = .ok (.putfield 35, 3) := by decide +kernel
theorem dX2_take_75 : decode cX2_take 75 = .ok (.return_, 1) := by decide +kernel
set_option maxRecDepth 20000 in
theorem ggX2_takeMix_X2_take : GoodIn wsX2_takeMix wsX2_take := goodIn_sub (List.forall_mem_cons.mpr ⟨(List.mem_cons_of_mem _ (List.mem_append_left _ (List.mem_append_left _ (List.mem_of_getElem? (i := 10) rfl)))), (x_ap2 (x_ap2 (List.forall_mem_cons.mpr ⟨(List.mem_cons_of_mem _ (List.mem_append_left _ (List.mem_append_left _ (List.mem_of_getElem? (i := 11) rfl)))), (List.forall_mem_cons.mpr ⟨(List.mem_cons_of_mem _ (List.mem_append_left _ (List.mem_append_left _ (List.mem_of_getElem? (i := 0) rfl)))), (List.forall_mem_cons.mpr ⟨(List.mem_cons_of_mem _ (List.mem_append_left _ (List.mem_append_left _ (List.mem_of_getElem? (i := 1) rfl)))), (List.forall_mem_cons.mpr ⟨(List.mem_cons_of_mem _ (List.mem_append_left _ (List.mem_append_left _ (List.mem_of_getElem? (i := 2) rfl)))), (List.forall_mem_cons.mpr ⟨(List.mem_cons_of_mem _ (List.mem_append_left _ (List.mem_append_left _ (List.mem_of_getElem? (i := 3) rfl)))), (List.forall_mem_cons.mpr ⟨(List.mem_cons_of_mem _ (List.mem_append_left _ (List.mem_append_left _ (List.mem_of_getElem? (i := 4) rfl)))), (List.forall_mem_cons.mpr ⟨(List.mem_cons_of_mem _ (List.mem_append_left _ (List.mem_append_left _ (List.mem_of_getElem? (i := 5) rfl)))), (List.forall_mem_cons.mpr ⟨(List.mem_cons_of_mem _ (List.mem_append_left _ (List.mem_append_left _ (List.mem_of_getElem? (i := 12) rfl)))), (List.forall_mem_cons.mpr ⟨(List.mem_cons_of_mem _ (List.mem_append_left _ (List.mem_append_left _ (List.mem_of_getElem? (i := 13) rfl)))), (List.forall_mem_cons.mpr ⟨(List.mem_cons_of_mem _ (List.mem_append_left _ (List.mem_append_left _ (List.mem_of_getElem? (i := 14) rfl)))), (List.forall_mem_cons.mpr ⟨(List.mem_cons_of_mem _ (List.mem_append_left _ (List.mem_append_left _ (List.mem_of_getElem? (i := 15) rfl)))), (List.forall_mem_cons.mpr ⟨(List.mem_cons_of_mem _ (List.mem_append_left _ (List.mem_append_left _ (List.mem_of_getElem? (i := 16) rfl)))), (List.forall_mem_cons.mpr ⟨(List.mem_cons_of_mem _ (List.mem_append_left _ (List.mem_append_left _ (List.mem_of_getElem? (i := 17) rfl)))), (fun _ h => absurd h List.not_mem_nil)⟩)⟩)⟩)⟩)⟩)⟩)⟩)⟩)⟩)⟩)⟩)⟩)⟩) (fun _ h => (List.mem_cons_of_mem _ (List.mem_append_left _ (List.mem_append_right _ h))))) (fun _ h => (List.mem_cons_of_mem _ (List.mem_append_right _ h))))⟩) (by decide +kernel)
set_option maxRecDepth 20000 in
theorem gX2_takeMix_X2_take : GoodIn wsX2_takeMix (wsV RX2 38 RX2 yX2_take wsX2_take) := goodIn_app (goodIn_of _ (by decide +kernel)) ggX2_takeMix_X2_take
theorem dX2_takeMix_0 : decode cX2_takeMix 0 = .ok (.aload_n 0, 1) := by decide +kernel
theorem dX2_takeMix_1 : decode cX2_takeMix 1 = .ok (.iload_n 1, 1) := by decide +kernel
theorem dX2_takeMix_2 : decode cX2_takeMix 2 = .ok (.aload_n 2, 1) := by decide +kernel
theorem dX2_takeMix_3 : decode cX2_takeMix 3 = .ok (.getfield 19, 3) := by decide +kernel
theorem dX2_takeMix_6 : decode cX2_takeMix 6 = .ok (.imul, 1) := by decide +kernel
theorem dX2_takeMix_7 : decode cX2_takeMix 7 = .ok (.iload_n 3, 1) := by decide +kernel
theorem dX2_takeMix_8 : decode cX2_takeMix 8 = .ok (.aload 4, 2) := by decide +kernel
theorem dX2_takeMix_10 : decode cX2_takeMix 10 = .ok (.getfield 19, 3) := by decide +kernel
theorem dX2_takeMix_13 : decode cX2_takeMix 13 = .ok (.imul, 1) := by decide +kernel
theorem dX2_takeMix_14 : decode cX2_takeMix 14 = .ok (.iadd, 1) := by decide +kernel
theorem dX2_takeMix_15 : decode cX2_takeMix 15 = .ok (.iload_n 1, 1) := by decide +kernel
theorem dX2_takeMix_16 : decode cX2_takeMix 16 = .ok (.aload_n 2, 1) := by decide +kernel
theorem dX2_takeMix_17 : decode cX2_takeMix 17 = .ok (.getfield 23, 3) := by decide +kernel
theorem dX2_takeMix_20 : decode cX2_takeMix 20 = .ok (.imul, 1) := by decide +kernel
theorem dX2_takeMix_21 : decode cX2_takeMix 21 = .ok (.iload_n 3, 1) := by decide +kernel
theorem dX2_takeMix_22 : decode cX2_takeMix 22 = .ok (.aload 4, 2) := by decide +kernel
theorem dX2_takeMix_24 : decode cX2_takeMix 24 = .ok (.getfield 23, 3) := by decide +kernel
theorem dX2_takeMix_27 : decode cX2_takeMix 27 = .ok (.imul, 1) := by decide +kernel
theorem dX2_takeMix_28 : decode cX2_takeMix 28 = .ok (.iadd, 1) := by decide +kernel
theorem dX2_takeMix_29 : decode cX2_takeMix 29 = .ok (.iload_n 1, 1) := by decide +kernel
theorem dX2_takeMix_30 : decode cX2_takeMix 30 = .ok (.aload_n 2, 1) := by decide +kernel
theorem dX2_takeMix_31 : decode cX2_takeMix 31 = .ok (.getfield 26, 3) := by decide +kernel
theorem dX2_takeMix_34 : decode cX2_takeMix 34 = .ok (.imul, 1) := by decide +kernel
theorem dX2_takeMix_35 : decode cX2_takeMix 35 = .ok (.iload_n 3, 1) := by decide +kernel
theorem dX2_takeMix_36 : decode cX2_takeMix 36 = .ok (.aload 4, 2) := by decide +kernel
theorem dX2_takeMix_38 : decode cX2_takeMix 38 = .ok (.getfield 26, 3) := by decide +kernel
theorem dX2_takeMix_41 : decode cX2_takeMix 41 = .ok (.imul, 1) := by decide +kernel
theorem dX2_takeMix_42 : decode cX2_takeMix 42 = .ok (.iadd, 1) := by decide +kernel
theorem dX2_takeMix_43 : decode cX2_takeMix 43 = .ok (.iload_n 1, 1) := by decide +kernel
theorem dX2_takeMix_44 : decode cX2_takeMix 44 = .ok (.aload_n 2, 1) := by decide +kernel
theorem dX2_takeMix_45 : decode cX2_takeMix 45 = .ok (.getfield 29, 3) := by decide +kernel
theorem dX2_takeMix_48 : decode cX2_takeMix 48 = .ok (.imul, 1) := by decide +kernel
theorem dX2_takeMix_49 : decode cX2_takeMix 49 = .ok (.iload_n 3, 1) := by decide +kernel
theorem dX2_takeMix_50 : decode cX2_takeMix 50 = .ok (.aload 4, 2) := by decide +kernel
theorem dX2_takeMix_52 : decode cX2_takeMix 52 = .ok (.getfield 29, 3) := by decide +kernel
theorem dX2_takeMix_55 : decode cX2_takeMix 55 = .ok (.imul, 1) := by decide +kernel
theorem dX2_takeMix_56 : decode cX2_takeMix 56 = .ok (.iadd, 1) := by decide +kernel
theorem dX2_takeMix_57 : decode cX2_takeMix 57 = .ok (.iload_n 1, 1) := by decide +kernel
theorem dX2_takeMix_58 : decode cX2_takeMix 58 = .ok (.aload_n 2, 1) := by decide +kernel
theorem dX2_takeMix_59 : decode cX2_takeMix 59 = .ok (.getfield 32, 3) := by decide +kernel
theorem dX2_takeMix_62 : decode cX2_takeMix 62 = .ok (.imul, 1) := by decide +kernel
theorem dX2_takeMix_63 : decode cX2_takeMix 63 = .ok (.iload_n 3, 1) := by decide +kernel
theorem dX2_takeMix_64 : decode cX2_takeMix 64 = .ok (.aload 4, 2) := by decide +kernel
theorem dX2_takeMix_66 : decode cX2_takeMix 66 = .ok (.getfield 32, 3) := by decide +kernel
theorem dX2_takeMix_69 : decode cX2_takeMix 69 = .ok (.imul, 1) := by decide +kernel
theorem dX2_takeMix_70 : decode cX2_takeMix 70 = .ok (.iadd, 1) := by decide +kernel
theorem dX2_takeMix_71 : decode cX2_takeMix 71 = .ok (.iload_n 1, 1) := by decide +kernel
theorem dX2_takeMix_72 : decode cX2_takeMix 72 = .ok (.aload_n 2, 1) := by decide +kernel
theorem dX2_takeMix_73 : decode cX2_takeMix 73 = .ok (.getfield 35, 3) := by decide +kernel
theorem dX2_takeMix_76 : decode cX2_takeMix 76 = .ok (.imul, 1) := by decide +kernel
theorem dX2_takeMix_77 : decode cX2_takeMix 77 = .ok (.iload_n 3, 1) := by decide +kernel
theorem dX2_takeMix_78 : decode cX2_takeMix 78 = .ok (.aload 4, 2) := by decide +kernel
theorem dX2_takeMix_80 : decode cX2_takeMix 80 = .ok (.getfield 35, 3) := by decide +kernel
theorem dX2_takeMix_83 : decode cX2_takeMix 83 = .ok (.imul, 1) := by decide +kernel
theorem dX2_takeMix_84 : decode cX2_takeMix 84 = .ok (.iadd, 1) := by decide +kernel
theorem dX2_takeMix_85 : decode cX2_takeMix 85 = .ok (.invokevirtual 38, 3) := by decide +kernel
theorem dX2_takeMix_88 : decode cX2_takeMix 88 = .ok (.return_, 1) := by decide +kernel
set_option maxRecDepth 20000 in
theorem ggX2_takeCofactors_X2_take : GoodIn wsX2_takeCofactors wsX2_take := goodIn_sub (List.forall_mem_cons.mpr ⟨(List.mem_cons_of_mem _ (List.mem_append_left _ (List.mem_append_left _ (List.mem_of_getElem? (i := 10) rfl)))), (x_ap2 (x_ap2 (List.forall_mem_cons.mpr ⟨(List.mem_cons_of_mem _ (List.mem_append_left _ (List.mem_append_left _ (List.mem_of_getElem? (i := 11) rfl)))), (List.forall_mem_cons.mpr ⟨(List.mem_cons_of_mem _ (List.mem_append_left _ (List.mem_append_left _ (List.mem_of_getElem? (i := 3) rfl)))), (List.forall_mem_cons.mpr ⟨(List.mem_cons_of_mem _ (List.mem_append_left _ (List.mem_append_left _ (List.mem_of_getElem? (i := 0) rfl)))), (List.forall_mem_cons.mpr ⟨(List.mem_cons_of_mem _ (List.mem_append_left _ (List.mem_append_left _ (List.mem_of_getElem? (i := 1) rfl)))), (List.forall_mem_cons.mpr ⟨(List.mem_cons_of_mem _ (List.mem_append_left _ (List.mem_append_left _ (List.mem_of_getElem? (i := 2) rfl)))), (List.forall_mem_cons.mpr ⟨(List.mem_cons_of_mem _ (List.mem_append_left _ (List.mem_append_left _ (List.mem_of_getElem? (i := 4) rfl)))), (List.forall_mem_cons.mpr ⟨(List.mem_cons_of_mem _ (List.mem_append_left _ (List.mem_append_left _ (List.mem_of_getElem? (i := 5) rfl)))), (List.forall_mem_cons.mpr ⟨(List.mem_cons_of_mem _ (List.mem_append_left _ (List.mem_append_left _ (List.mem_of_getElem? (i := 12) rfl)))), (List.forall_mem_cons.mpr ⟨(List.mem_cons_of_mem _ (List.mem_append_left _ (List.mem_append_left _ (List.mem_of_getElem? (i := 13) rfl)))), (List.forall_mem_cons.mpr ⟨(List.mem_cons_of_mem _ (List.mem_append_left _ (List.mem_append_left _ (List.mem_of_getElem? (i := 14) rfl)))), (List.forall_mem_cons.mpr ⟨(List.mem_cons_of_mem _ (List.mem_append_left _ (List.mem_append_left _ (List.mem_of_getElem? (i := 15) rfl)))), (List.forall_mem_cons.mpr ⟨(List.mem_cons_of_mem _ (List.mem_append_left _ (List.mem_append_left _ (List.mem_of_getElem? (i := 16) rfl)))), (List.forall_mem_cons.mpr ⟨(List.mem_cons_of_mem _ (List.mem_append_left _ (List.mem_append_left _ (List.mem_of_getElem? (i := 17) rfl)))), (fun _ h => absurd h List.not_mem_nil)⟩)⟩)⟩)⟩)⟩)⟩)⟩)⟩)⟩)⟩)⟩)⟩)⟩) (fun _ h => (List.mem_cons_of_mem _ (List.mem_append_left _ (List.mem_append_right _ h))))) (fun _ h => (List.mem_cons_of_mem _ (List.mem_append_right _ h))))⟩) (by decide +kernel)
set_option maxRecDepth 20000 in
theorem gX2_takeCofactors_X2_take : GoodIn wsX2_takeCofactors (wsV RX2 38 RX2 yX2_take wsX2_take) := goodIn_app (goodIn_of _ (by decide +kernel)) ggX2_takeCofactors_X2_take
theorem dX2_takeCofactors_0 : decode cX2_takeCofactors 0 = .ok (.aload_n 0, 1) := by decide +kernel
theorem dX2_takeCofactors_1 : decode cX2_takeCofactors 1 = .ok (.aload_n 1, 1) := by decide +kernel
theorem dX2_takeCofactors_2 : decode cX2_takeCofactors 2 = .ok (.getfield 23, 3) := by decide +kernel
theorem dX2_takeCofactors_5 : decode cX2_takeCofactors 5 = .ok (.aload_n 1, 1) := by decide +kernel
theorem dX2_takeCofactors_6 : decode cX2_takeCofactors 6 = .ok (.getfield 26, 3) := by decide +kernel
theorem dX2_takeCofactors_9 : decode cX2_takeCofactors 9 = .ok (.imul, 1) := by decide +kernel
theorem dX2_takeCofactors_10 : decode cX2_takeCofactors 10 = .ok (.aload_n 1, 1) := by decide +kernel
theorem dX2_takeCofactors_11 : decode cX2_takeCofactors 11 = .ok (.getfield 29, 3) := by decide +kernel
theorem dX2_takeCofactors_14 : decode cX2_takeCofactors 14 = .ok (.aload_n 1, 1) := by decide +kernel
theorem dX2_takeCofactors_15 : decode cX2_takeCofactors 15 = .ok (.getfield 29, 3) := by decide +kernel
theorem dX2_takeCofactors_18 : decode cX2_takeCofactors 18 = .ok (.imul, 1) := by decide +kernel
theorem dX2_takeCofactors_19 : decode cX2_takeCofactors 19 = .ok (.isub, 1) := by decide +kernel
theorem dX2_takeCofactors_20 : decode cX2_takeCofactors 20 = .ok (.aload_n 1, 1) := by decide +kernel
theorem dX2_takeCofactors_21 : decode cX2_takeCofactors 21 = .ok (.getfield 19, 3) := by decide +kernel
theorem dX2_takeCofactors_24 : decode cX2_takeCofactors 24 = .ok (.aload_n 1, 1) := by decide +kernel
theorem dX2_takeCofactors_25 : decode cX2_takeCofactors 25 = .ok (.getfield 26, 3) := by decide +kernel
theorem dX2_takeCofactors_28 : decode cX2_takeCofactors 28 = .ok (.imul, 1) := by decide +kernel
theorem dX2_takeCofactors_29 : decode cX2_takeCofactors 29 = .ok (.aload_n 1, 1) := by decide +kernel
theorem dX2_takeCofactors_30 : decode cX2_takeCofactors 30 = .ok (.getfield 32, 3) := by decide +kernel
theorem dX2_takeCofactors_33 : decode cX2_takeCofactors 33 = .ok (.aload_n 1, 1) := by decide +kernel
theorem dX2_takeCofactors_34 : decode cX2_takeCofactors 34 = .ok (.getfield 32, 3) := by decide +kernel
theorem dX2_takeCofactors_37 : decode cX2_takeCofactors 37 = .ok (.imul, 1) := by decide +kernel
theorem dX2_takeCofactors_38 : decode cX2_takeCofactors 38 = .ok (.isub, 1) := by decide +kernel
theorem dX2_takeCofactors_39 : decode cX2_takeCofactors 39 = .ok (.aload_n 1, 1) := by decide +kernel
theorem dX2_takeCofactors_40 : decode cX2_takeCofactors 40 = .ok (.getfield 19, 3) := by decide +kernel
theorem dX2_takeCofactors_43 : decode cX2_takeCofactors 43 = .ok (.aload_n 1, 1) := by decide +kernel
theorem dX2_takeCofactors_44 : decode cX2_takeCofactors 44 = .ok (.getfield 23, 3) := by decide +kernel
theorem dX2_takeCofactors_47 : decode cX2_takeCofactors 47 = .ok (.imul, 1) := by decide +kernel
theorem dX2_takeCofactors_48 : decode cX2_takeCofactors 48 = .ok (.aload_n 1, 1) := by decide +kernel
theorem dX2_takeCofactors_49 : decode cX2_takeCofactors 49 = .ok (.getfield 35, 3) := by decide +kernel
theorem dX2_takeCofactors_52 : decode cX2_takeCofactors 52 = .ok (.aload_n 1, 1) := by decide +kernel
theorem dX2_takeCofactors_53 : decode cX2_takeCofactors 53 = .ok (.getfield 35, 3) := by decide +kernel
theorem dX2_takeCofactors_56 : decode cX2_takeCofactors 56 = .ok (.imul, 1) := by decide +kernel
theorem dX2_takeCofactors_57 : decode cX2_takeCofactors 57 = .ok (.isub, 1) := by decide +kernel
theorem dX2_takeCofactors_58 : decode cX2_takeCofactors 58 = .ok (.aload_n 1, 1) := by decide +kernel
theorem dX2_takeCofactors_59 : decode cX2_takeCofactors 59 = .ok (.getfield 32, 3) := by decide +kernel
theorem dX2_takeCofactors_62 : decode cX2_takeCofactors 62 = .ok (.aload_n 1, 1) := by decide +kernel
theorem dX2_takeCofactors_63 : decode cX2_takeCofactors 63 = .ok (.getfield 35, 3) := by decide +kernel
theorem dX2_takeCofactors_66 : decode cX2_takeCofactors 66 = .ok (.imul, 1) := by decide +kernel
theorem dX2_takeCofactors_67 : decode cX2_takeCofactors 67 = .ok (.aload_n 1, 1) := by decide +kernel
theorem dX2_takeCofactors_68 : decode cX2_takeCofactors 68 = .ok (.getfield 19, 3) := by decide +kernel
theorem dX2_takeCofactors_71 : decode cX2_takeCofactors 71 = .ok (.aload_n 1, 1) := by decide +kernel
theorem dX2_takeCofactors_72 : decode cX2_takeCofactors 72 = .ok (.getfield 29, 3) := by decide +kernel
theorem dX2_takeCofactors_75 : decode cX2_takeCofactors 75 = .ok (.imul, 1) := by decide +kernel
theorem dX2_takeCofactors_76 : decode cX2_takeCofactors 76 = .ok (.isub, 1) := by decide +kernel
theorem dX2_takeCofactors_77 : decode cX2_takeCofactors 77 = .ok (.aload_n 1, 1) := by decide +kernel
theorem dX2_takeCofactors_78 : decode cX2_takeCofactors 78 = .ok (.getfield 29, 3) := by decide +kernel
theorem dX2_takeCofactors_81 : decode cX2_takeCofactors 81 = .ok (.aload_n 1, 1) := by decide +kernel
theorem dX2_takeCofactors_82 : decode cX2_takeCofactors 82 = .ok (.getfield 35, 3) := by decide +kernel
theorem dX2_takeCofactors_85 : decode cX2_takeCofactors 85 = .ok (.imul, 1) := by decide +kernel
theorem dX2_takeCofactors_86 : decode cX2_takeCofactors 86 = .ok (.aload_n 1, 1) := by decide +kernel
theorem dX2_takeCofactors_87 : decode cX2_takeCofactors 87 = .ok (.getfield 23, 3) := by decide +kernel
theorem dX2_takeCofactors_90 : decode cX2_takeCofactors 90 = .ok (.aload_n 1, 1) := by decide +kernel
theorem dX2_takeCofactors_91 : decode cX2_takeCofactors 91 = .ok (.getfield 32, 3) := by decide +kernel
theorem dX2_takeCofactors_94 : decode cX2_takeCofactors 94 = .ok (.imul, 1) := by decide +kernel
theorem dX2_takeCofactors_95 : decode cX2_takeCofactors 95 = .ok (.isub, 1) := by decide +kernel
theorem dX2_takeCofactors_96 : decode cX2_takeCofactors 96 = .ok (.aload_n 1, 1) := by decide +kernel
theorem dX2_takeCofactors_97 : decode cX2_takeCofactors 97 = .ok (.getfield 29, 3) := by decide +kernel
theorem dX2_takeCofactors_100 : decode cX2_takeCofactors 100 = .ok (.aload_n 1, 1) := by decide +kernel
theorem dX2_takeCofactors_101 : decode cX2_takeCofactors 101 = .ok (.getfield 32, 3) := by decide +kernel
theorem dX2_takeCofactors_104 : decode cX2_takeCofactors 104 = .ok (.imul, 1) := by decide +kernel
theorem dX2_takeCofactors_105 : decode cX2_takeCofactors 105 = .ok (.aload_n 1, 1) := by decide +kernel
theorem dX2_takeCofactors_106 : decode cX2_takeCofactors 106 = .ok (.getfield 26, 3) := by decide +kernel
theorem dX2_takeCofactors_109 : decode cX2_takeCofactors 109 = .ok (.aload_n 1, 1) := by decide +kernel
theorem dX2_takeCofactors_110 : decode cX2_takeCofactors 110 = .ok (.getfield 35, 3) := by decide +kernel
theorem dX2_takeCofactors_113 : decode cX2_takeCofactors 113 = .ok (.imul, 1) := by decide +kernel
theorem dX2_takeCofactors_114 : decode cX2_takeCofactors 114 = .ok (.isub, 1) := by decide +kernel
theorem dX2_takeCofactors_115 : decode cX2_takeCofactors 115 = .ok (.invokevirtual 38, 3) := by decide +kernel
theorem dX2_takeCofactors_118 : decode cX2_takeCofactors 118 = .ok (.return_, 1) := by decide +kernel
theorem dX2_part_0 : decode cX2_part 0 = .ok (.iload_n 1, 1) := by decide +kernel
theorem dX2_part_1 : decode cX2_part 1 = .ok (.tableswitch 60 0 4 #[35, 40, 45, 50, 55], 35) := by decide +kernel
theorem dX2_part_36 : decode cX2_part 36 = .ok (.aload_n 0, 1) := by decide +kernel
theorem dX2_part_37 : decode cX2_part 37 = .ok (.getfield 19, 3) := by decide +kernel
theorem dX2_part_40 : decode cX2_part 40 = .ok (.ireturn, 1) := by decide +kernel
theorem dX2_part_41 : decode cX2_part 41 = .ok (.aload_n 0, 1) := by decide +kernel
theorem dX2_part_42 : decode cX2_part 42 = .ok (.getfield 23, 3) := by decide +kernel
theorem dX2_part_45 : decode cX2_part 45 = .ok (.ireturn, 1) := by decide +kernel
theorem dX2_part_46 : decode cX2_part 46 = .ok (.aload_n 0, 1) := by decide +kernel
theorem dX2_part_47 : decode cX2_part 47 = .ok (.getfield 26, 3) := by decide +kernel
theorem dX2_part_50 : decode cX2_part 50 = .ok (.ireturn, 1) := by decide +kernel
theorem dX2_part_51 : decode cX2_part 51 = .ok (.aload_n 0, 1) := by decide +kernel
theorem dX2_part_52 : decode cX2_part 52 = .ok (.getfield 29, 3) := by decide +kernel
theorem dX2_part_55 : decode cX2_part 55 = .ok (.ireturn, 1) := by decide +kernel
theorem dX2_part_56 : decode cX2_part 56 = .ok (.aload_n 0, 1) := by decide +kernel
theorem dX2_part_57 : decode cX2_part 57 = .ok (.getfield 32, 3) := by decide +kernel
theorem dX2_part_60 : decode cX2_part 60 = .ok (.ireturn, 1) := by decide +kernel
theorem dX2_part_61 : decode cX2_part 61 = .ok (.aload_n 0, 1) := by decide +kernel
theorem dX2_part_62 : decode cX2_part 62 = .ok (.getfield 35, 3) := by decide +kernel
theorem dX2_part_65 : decode cX2_part 65 = .ok (.ireturn, 1) := by decide +kernel
theorem dX2_side_0 : decode cX2_side 0 = .ok (.iload_n 1, 1) := by decide +kernel
theorem dX2_side_1 : decode cX2_side 1 = .ok (.ifCond .ne 33, 3) := by decide +kernel
theorem dX2_side_4 : decode cX2_side 4 = .ok (.aload_n 0, 1) := by decide +kernel
theorem dX2_side_5 : decode cX2_side 5 = .ok (.getfield 19, 3) := by decide +kernel
theorem dX2_side_8 : decode cX2_side 8 = .ok (.aload_n 2, 1) := by decide +kernel
theorem dX2_side_9 : decode cX2_side 9 = .ok (.getfield 42, 3) := by decide +kernel
theorem dX2_side_12 : decode cX2_side 12 = .ok (.imul, 1) := by decide +kernel
theorem dX2_side_13 : decode cX2_side 13 = .ok (.aload_n 0, 1) := by decide +kernel
theorem dX2_side_14 : decode cX2_side 14 = .ok (.getfield 35, 3) := by decide +kernel
theorem dX2_side_17 : decode cX2_side 17 = .ok (.aload_n 2, 1) := by decide +kernel
theorem dX2_side_18 : decode cX2_side 18 = .ok (.getfield 47, 3) := by decide +kernel
theorem dX2_side_21 : decode cX2_side 21 = .ok (.imul, 1) := by decide +kernel
theorem dX2_side_22 : decode cX2_side 22 = .ok (.iadd, 1) := by decide +kernel
theorem dX2_side_23 : decode cX2_side 23 = .ok (.aload_n 0, 1) := by decide +kernel
theorem dX2_side_24 : decode cX2_side 24 = .ok (.getfield 32, 3) := by decide +kernel
theorem dX2_side_27 : decode cX2_side 27 = .ok (.aload_n 2, 1) := by decide +kernel
theorem dX2_side_28 : decode cX2_side 28 = .ok (.getfield 50, 3) := by decide +kernel
theorem dX2_side_31 : decode cX2_side 31 = .ok (.imul, 1) := by decide +kernel
theorem dX2_side_32 : decode cX2_side 32 = .ok (.iadd, 1) := by decide +kernel
theorem dX2_side_33 : decode cX2_side 33 = .ok (.ireturn, 1) := by decide +kernel
theorem dX2_side_34 : decode cX2_side 34 = .ok (.iload_n 1, 1) := by decide +kernel
theorem dX2_side_35 : decode cX2_side 35 = .ok (.iconst 1, 1) := by decide +kernel
theorem dX2_side_36 : decode cX2_side 36 = .ok (.if_icmp .ne 35, 3) := by decide +kernel
theorem dX2_side_39 : decode cX2_side 39 = .ok (.aload_n 0, 1) := by decide +kernel
theorem dX2_side_40 : decode cX2_side 40 = .ok (.getfield 35, 3) := by decide +kernel
theorem dX2_side_43 : decode cX2_side 43 = .ok (.aload_n 2, 1) := by decide +kernel
theorem dX2_side_44 : decode cX2_side 44 = .ok (.getfield 42, 3) := by decide +kernel
theorem dX2_side_47 : decode cX2_side 47 = .ok (.imul, 1) := by decide +kernel
theorem dX2_side_48 : decode cX2_side 48 = .ok (.aload_n 0, 1) := by decide +kernel
theorem dX2_side_49 : decode cX2_side 49 = .ok (.getfield 23, 3) := by decide +kernel
theorem dX2_side_52 : decode cX2_side 52 = .ok (.aload_n 2, 1) := by decide +kernel
theorem dX2_side_53 : decode cX2_side 53 = .ok (.getfield 47, 3) := by decide +kernel
theorem dX2_side_56 : decode cX2_side 56 = .ok (.imul, 1) := by decide +kernel
theorem dX2_side_57 : decode cX2_side 57 = .ok (.iadd, 1) := by decide +kernel
theorem dX2_side_58 : decode cX2_side 58 = .ok (.aload_n 0, 1) := by decide +kernel
theorem dX2_side_59 : decode cX2_side 59 = .ok (.getfield 29, 3) := by decide +kernel
theorem dX2_side_62 : decode cX2_side 62 = .ok (.aload_n 2, 1) := by decide +kernel
theorem dX2_side_63 : decode cX2_side 63 = .ok (.getfield 50, 3) := by decide +kernel
theorem dX2_side_66 : decode cX2_side 66 = .ok (.imul, 1) := by decide +kernel
theorem dX2_side_67 : decode cX2_side 67 = .ok (.iadd, 1) := by decide +kernel
theorem dX2_side_68 : decode cX2_side 68 = .ok (.goto 32, 3) := by decide +kernel
theorem dX2_side_71 : decode cX2_side 71 = .ok (.aload_n 0, 1) := by decide +kernel
theorem dX2_side_72 : decode cX2_side 72 = .ok (.getfield 32, 3) := by decide +kernel
theorem dX2_side_75 : decode cX2_side 75 = .ok (.aload_n 2, 1) := by decide +kernel
theorem dX2_side_76 : decode cX2_side 76 = .ok (.getfield 42, 3) := by decide +kernel
theorem dX2_side_79 : decode cX2_side 79 = .ok (.imul, 1) := by decide +kernel
theorem dX2_side_80 : decode cX2_side 80 = .ok (.aload_n 0, 1) := by decide +kernel
theorem dX2_side_81 : decode cX2_side 81 = .ok (.getfield 29, 3) := by decide +kernel
theorem dX2_side_84 : decode cX2_side 84 = .ok (.aload_n 2, 1) := by decide +kernel
theorem dX2_side_85 : decode cX2_side 85 = .ok (.getfield 47, 3) := by decide +kernel
theorem dX2_side_88 : decode cX2_side 88 = .ok (.imul, 1) := by decide +kernel
theorem dX2_side_89 : decode cX2_side 89 = .ok (.iadd, 1) := by decide +kernel
theorem dX2_side_90 : decode cX2_side 90 = .ok (.aload_n 0, 1) := by decide +kernel
theorem dX2_side_91 : decode cX2_side 91 = .ok (.getfield 26, 3) := by decide +kernel
theorem dX2_side_94 : decode cX2_side 94 = .ok (.aload_n 2, 1) := by decide +kernel
theorem dX2_side_95 : decode cX2_side 95 = .ok (.getfield 50, 3) := by decide +kernel
theorem dX2_side_98 : decode cX2_side 98 = .ok (.imul, 1) := by decide +kernel
theorem dX2_side_99 : decode cX2_side 99 = .ok (.iadd, 1) := by decide +kernel
theorem dX2_side_100 : decode cX2_side 100 = .ok (.ireturn, 1) := by decide +kernel
set_option maxRecDepth 20000 in
theorem ggX2_between_X2_side : GoodIn wsX2_between wsX2_side := goodIn_sub (List.forall_mem_cons.mpr ⟨(List.mem_cons_of_mem _ (List.mem_append_left _ (List.mem_append_left _ (List.mem_append_left _ (List.mem_of_getElem? (i := 5) rfl))))), (x_ap2 (x_ap2 (List.forall_mem_cons.mpr ⟨(List.mem_cons_of_mem _ (List.mem_append_left _ (List.mem_append_left _ (List.mem_append_left _ (List.mem_of_getElem? (i := 6) rfl))))), (List.forall_mem_cons.mpr ⟨(List.mem_cons_of_mem _ (List.mem_append_left _ (List.mem_append_left _ (List.mem_append_left _ (List.mem_of_getElem? (i := 7) rfl))))), (List.forall_mem_cons.mpr ⟨(List.mem_cons_of_mem _ (List.mem_append_left _ (List.mem_append_left _ (List.mem_append_left _ (List.mem_of_getElem? (i := 8) rfl))))), (List.forall_mem_cons.mpr ⟨(List.mem_cons_of_mem _ (List.mem_append_left _ (List.mem_append_left _ (List.mem_append_left _ (List.mem_of_getElem? (i := 9) rfl))))), (List.forall_mem_cons.mpr ⟨(List.mem_cons_of_mem _ (List.mem_append_left _ (List.mem_append_left _ (List.mem_append_left _ (List.mem_of_getElem? (i := 10) rfl))))), (List.forall_mem_cons.mpr ⟨(List.mem_cons_of_mem _ (List.mem_append_left _ (List.mem_append_left _ (List.mem_append_left _ (List.mem_of_getElem? (i := 11) rfl))))), (fun _ h => absurd h List.not_mem_nil)⟩)⟩)⟩)⟩)⟩)⟩) (fun _ h => (List.mem_cons_of_mem _ (List.mem_append_left _ (List.mem_append_left _ (List.mem_append_right _ h)))))) (fun _ h => (List.mem_cons_of_mem _ (List.mem_append_left _ (List.mem_append_right _ h)))))⟩) (by decide +kernel)
set_option maxRecDepth 20000 in
theorem gX2_between_X2_side : GoodIn wsX2_between (wsV RX2 53 RX2 yX2_side wsX2_side) := goodIn_app (goodIn_of _ (by decide +kernel)) ggX2_between_X2_side
set_option maxRecDepth 20000 in
theorem ggX2_between_X4_rest : GoodIn wsX2_between wsX4_rest := goodIn_sub (List.forall_mem_cons.mpr ⟨(List.mem_cons_of_mem _ (List.mem_append_left _ (List.mem_append_left _ (List.mem_append_left _ (List.mem_of_getElem? (i := 16) rfl))))), (x_ap2 (List.forall_mem_cons.mpr ⟨(List.mem_cons_of_mem _ (List.mem_append_left _ (List.mem_append_left _ (List.mem_append_left _ (List.mem_of_getElem? (i := 17) rfl))))), (fun _ h => absurd h List.not_mem_nil)⟩) (fun _ h => (List.mem_cons_of_mem _ (List.mem_append_right _ h))))⟩) (by decide +kernel)
set_option maxRecDepth 20000 in
theorem gX2_between_X4_rest : GoodIn wsX2_between (wsV RX2 13 RX4 yX4_rest wsX4_rest) := goodIn_app (goodIn_of _ (by decide +kernel)) ggX2_between_X4_rest
theorem dX2_between_0 : decode cX2_between 0 = .ok (.aload_n 0, 1) := by decide +kernel
theorem dX2_between_1 : decode cX2_between 1 = .ok (.getfield 7, 3) := by decide +kernel
theorem dX2_between_4 : decode cX2_between 4 = .ok (.aload_n 1, 1) := by decide +kernel
theorem dX2_between_5 : decode cX2_between 5 = .ok (.getfield 42, 3) := by decide +kernel
theorem dX2_between_8 : decode cX2_between 8 = .ok (.aload_n 0, 1) := by decide +kernel
theorem dX2_between_9 : decode cX2_between 9 = .ok (.iconst 0, 1) := by decide +kernel
theorem dX2_between_10 : decode cX2_between 10 = .ok (.aload_n 2, 1) := by decide +kernel
theorem dX2_between_11 : decode cX2_between 11 = .ok (.invokevirtual 53, 3) := by decide +kernel
theorem dX2_between_14 : decode cX2_between 14 = .ok (.imul, 1) := by decide +kernel
theorem dX2_between_15 : decode cX2_between 15 = .ok (.aload_n 1, 1) := by decide +kernel
theorem dX2_between_16 : decode cX2_between 16 = .ok (.getfield 47, 3) := by decide +kernel
theorem dX2_between_19 : decode cX2_between 19 = .ok (.aload_n 0, 1) := by decide +kernel
theorem dX2_between_20 : decode cX2_between 20 = .ok (.iconst 1, 1) := by decide +kernel
theorem dX2_between_21 : decode cX2_between 21 = .ok (.aload_n 2, 1) := by decide +kernel
theorem dX2_between_22 : decode cX2_between 22 = .ok (.invokevirtual 53, 3) := by decide +kernel
theorem dX2_between_25 : decode cX2_between 25 = .ok (.imul, 1) := by decide +kernel
theorem dX2_between_26 : decode cX2_between 26 = .ok (.iadd, 1) := by decide +kernel
theorem dX2_between_27 : decode cX2_between 27 = .ok (.aload_n 1, 1) := by decide +kernel
theorem dX2_between_28 : decode cX2_between 28 = .ok (.getfield 50, 3) := by decide +kernel
theorem dX2_between_31 : decode cX2_between 31 = .ok (.aload_n 0, 1) := by decide +kernel
theorem dX2_between_32 : decode cX2_between 32 = .ok (.iconst 2, 1) := by decide +kernel
theorem dX2_between_33 : decode cX2_between 33 = .ok (.aload_n 2, 1) := by decide +kernel
theorem dX2_between_34 : decode cX2_between 34 = .ok (.invokevirtual 53, 3) := by decide +kernel
theorem dX2_between_37 : decode cX2_between 37 = .ok (.imul, 1) := by decide +kernel
theorem dX2_between_38 : decode cX2_between 38 = .ok (.iadd, 1) := by decide +kernel
theorem dX2_between_39 : decode cX2_between 39 = .ok (.invokevirtual 13, 3) := by decide +kernel
theorem dX2_between_42 : decode cX2_between 42 = .ok (.ireturn, 1) := by decide +kernel
set_option maxRecDepth 20000 in
theorem ggX2_at_X2_between : GoodIn wsX2_at wsX2_between := goodIn_sub (List.forall_mem_cons.mpr ⟨(List.mem_cons_of_mem _ (List.mem_append_left _ (List.mem_append_left _ (List.mem_append_left _ (List.mem_of_getElem? (i := 4) rfl))))), (x_ap2 (x_ap2 (x_ap2 (List.forall_mem_cons.mpr ⟨(List.mem_cons_of_mem _ (List.mem_append_left _ (List.mem_append_left _ (List.mem_append_left _ (List.mem_of_getElem? (i := 5) rfl))))), (List.forall_mem_cons.mpr ⟨(List.mem_cons_of_mem _ (List.mem_append_left _ (List.mem_append_left _ (List.mem_append_left _ (List.mem_of_getElem? (i := 6) rfl))))), (List.forall_mem_cons.mpr ⟨(List.mem_cons_of_mem _ (List.mem_append_left _ (List.mem_append_left _ (List.mem_append_left _ (List.mem_of_getElem? (i := 7) rfl))))), (List.forall_mem_cons.mpr ⟨(List.mem_cons_of_mem _ (List.mem_append_left _ (List.mem_append_left _ (List.mem_append_left _ (List.mem_of_getElem? (i := 8) rfl))))), (List.forall_mem_cons.mpr ⟨(List.mem_cons_of_mem _ (List.mem_append_left _ (List.mem_append_left _ (List.mem_append_left _ (List.mem_of_getElem? (i := 3) rfl))))), (List.forall_mem_cons.mpr ⟨(List.mem_cons_of_mem _ (List.mem_append_left _ (List.mem_append_left _ (List.mem_append_left _ (List.mem_of_getElem? (i := 9) rfl))))), (List.forall_mem_cons.mpr ⟨(List.mem_cons_of_mem _ (List.mem_append_left _ (List.mem_append_left _ (List.mem_append_left _ (List.mem_of_getElem? (i := 10) rfl))))), (List.forall_mem_cons.mpr ⟨(List.mem_cons_of_mem _ (List.mem_append_left _ (List.mem_append_left _ (List.mem_append_left _ (List.mem_of_getElem? (i := 11) rfl))))), (List.forall_mem_cons.mpr ⟨(List.mem_cons_of_mem _ (List.mem_append_left _ (List.mem_append_left _ (List.mem_append_left _ (List.mem_of_getElem? (i := 12) rfl))))), (List.forall_mem_cons.mpr ⟨(List.mem_cons_of_mem _ (List.mem_append_left _ (List.mem_append_left _ (List.mem_append_left _ (List.mem_of_getElem? (i := 13) rfl))))), (List.forall_mem_cons.mpr ⟨(List.mem_cons_of_mem _ (List.mem_append_left _ (List.mem_append_left _ (List.mem_append_left _ (List.mem_of_getElem? (i := 14) rfl))))), (List.forall_mem_cons.mpr ⟨(List.mem_cons_of_mem _ (List.mem_append_left _ (List.mem_append_left _ (List.mem_append_left _ (List.mem_of_getElem? (i := 15) rfl))))), (List.forall_mem_cons.mpr ⟨(List.mem_cons_of_mem _ (List.mem_append_left _ (List.mem_append_left _ (List.mem_append_left _ (List.mem_of_getElem? (i := 16) rfl))))), (List.forall_mem_cons.mpr ⟨(List.mem_cons_of_mem _ (List.mem_append_left _ (List.mem_append_left _ (List.mem_append_left _ (List.mem_of_getElem? (i := 17) rfl))))), (List.forall_mem_cons.mpr ⟨(List.mem_cons_of_mem _ (List.mem_append_left _ (List.mem_append_left _ (List.mem_append_left _ (List.mem_of_getElem? (i := 18) rfl))))), (List.forall_mem_cons.mpr ⟨(List.mem_cons_of_mem _ (List.mem_append_left _ (List.mem_append_left _ (List.mem_append_left _ (List.mem_of_getElem? (i := 19) rfl))))), (List.forall_mem_cons.mpr ⟨(List.mem_cons_of_mem _ (List.mem_append_left _ (List.mem_append_left _ (List.mem_append_left _ (List.mem_of_getElem? (i := 20) rfl))))), (List.forall_mem_cons.mpr ⟨(List.mem_cons_of_mem _ (List.mem_append_left _ (List.mem_append_left _ (List.mem_append_left _ (List.mem_of_getElem? (i := 21) rfl))))), (fun _ h => absurd h List.not_mem_nil)⟩)⟩)⟩)⟩)⟩)⟩)⟩)⟩)⟩)⟩)⟩)⟩)⟩)⟩)⟩)⟩)⟩)⟩) (fun _ h => (List.mem_cons_of_mem _ (List.mem_append_left _ (List.mem_append_left _ (List.mem_append_right _ h)))))) (fun _ h => (List.mem_cons_of_mem _ (List.mem_append_left _ (List.mem_append_right _ h))))) (fun _ h => (List.mem_cons_of_mem _ (List.mem_append_right _ h))))⟩) (by decide +kernel)
set_option maxRecDepth 20000 in
theorem gX2_at_X2_between : GoodIn wsX2_at (wsV RX2 57 RX2 yX2_between wsX2_between) := goodIn_app (goodIn_of _ (by decide +kernel)) ggX2_at_X2_between
theorem dX2_at_0 : decode cX2_at 0 = .ok (.aload_n 0, 1) := by decide +kernel
theorem dX2_at_1 : decode cX2_at 1 = .ok (.aload_n 1, 1) := by decide +kernel
theorem dX2_at_2 : decode cX2_at 2 = .ok (.aload_n 1, 1) := by decide +kernel
theorem dX2_at_3 : decode cX2_at 3 = .ok (.invokevirtual 57, 3) := by decide +kernel
theorem dX2_at_6 : decode cX2_at 6 = .ok (.ireturn, 1) := by decide +kernel
set_option maxRecDepth 20000 in
theorem ggX2_against_X4_rest : GoodIn wsX2_against wsX4_rest := goodIn_sub (List.forall_mem_cons.mpr ⟨(List.mem_cons_of_mem _ (List.mem_append_left _ (List.mem_append_left _ (List.mem_of_getElem? (i := 11) rfl)))), (x_ap2 (List.forall_mem_cons.mpr ⟨(List.mem_cons_of_mem _ (List.mem_append_left _ (List.mem_append_left _ (List.mem_of_getElem? (i := 12) rfl)))), (fun _ h => absurd h List.not_mem_nil)⟩) (fun _ h => (List.mem_cons_of_mem _ (List.mem_append_right _ h))))⟩) (by decide +kernel)
set_option maxRecDepth 20000 in
theorem gX2_against_X4_rest : GoodIn wsX2_against (wsV RX2 13 RX4 yX4_rest wsX4_rest) := goodIn_app (goodIn_of _ (by decide +kernel)) ggX2_against_X4_rest
theorem dX2_against_0 : decode cX2_against 0 = .ok (.aload_n 0, 1) := by decide +kernel
theorem dX2_against_1 : decode cX2_against 1 = .ok (.getfield 7, 3) := by decide +kernel
theorem dX2_against_4 : decode cX2_against 4 = .ok (.aload_n 0, 1) := by decide +kernel
theorem dX2_against_5 : decode cX2_against 5 = .ok (.getfield 19, 3) := by decide +kernel
theorem dX2_against_8 : decode cX2_against 8 = .ok (.aload_n 1, 1) := by decide +kernel
theorem dX2_against_9 : decode cX2_against 9 = .ok (.getfield 19, 3) := by decide +kernel
theorem dX2_against_12 : decode cX2_against 12 = .ok (.imul, 1) := by decide +kernel
theorem dX2_against_13 : decode cX2_against 13 = .ok (.aload_n 0, 1) := by decide +kernel
theorem dX2_against_14 : decode cX2_against 14 = .ok (.getfield 23, 3) := by decide +kernel
theorem dX2_against_17 : decode cX2_against 17 = .ok (.aload_n 1, 1) := by decide +kernel
theorem dX2_against_18 : decode cX2_against 18 = .ok (.getfield 23, 3) := by decide +kernel
theorem dX2_against_21 : decode cX2_against 21 = .ok (.imul, 1) := by decide +kernel
theorem dX2_against_22 : decode cX2_against 22 = .ok (.iadd, 1) := by decide +kernel
theorem dX2_against_23 : decode cX2_against 23 = .ok (.aload_n 0, 1) := by decide +kernel
theorem dX2_against_24 : decode cX2_against 24 = .ok (.getfield 26, 3) := by decide +kernel
theorem dX2_against_27 : decode cX2_against 27 = .ok (.aload_n 1, 1) := by decide +kernel
theorem dX2_against_28 : decode cX2_against 28 = .ok (.getfield 26, 3) := by decide +kernel
theorem dX2_against_31 : decode cX2_against 31 = .ok (.imul, 1) := by decide +kernel
theorem dX2_against_32 : decode cX2_against 32 = .ok (.iadd, 1) := by decide +kernel
theorem dX2_against_33 : decode cX2_against 33 = .ok (.iconst 2, 1) := by decide +kernel
theorem dX2_against_34 : decode cX2_against 34 = .ok (.aload_n 0, 1) := by decide +kernel
theorem dX2_against_35 : decode cX2_against 35 = .ok (.getfield 29, 3) := by decide +kernel
theorem dX2_against_38 : decode cX2_against 38 = .ok (.aload_n 1, 1) := by decide +kernel
theorem dX2_against_39 : decode cX2_against 39 = .ok (.getfield 29, 3) := by decide +kernel
theorem dX2_against_42 : decode cX2_against 42 = .ok (.imul, 1) := by decide +kernel
theorem dX2_against_43 : decode cX2_against 43 = .ok (.aload_n 0, 1) := by decide +kernel
theorem dX2_against_44 : decode cX2_against 44 = .ok (.getfield 32, 3) := by decide +kernel
theorem dX2_against_47 : decode cX2_against 47 = .ok (.aload_n 1, 1) := by decide +kernel
theorem dX2_against_48 : decode cX2_against 48 = .ok (.getfield 32, 3) := by decide +kernel
theorem dX2_against_51 : decode cX2_against 51 = .ok (.imul, 1) := by decide +kernel
theorem dX2_against_52 : decode cX2_against 52 = .ok (.iadd, 1) := by decide +kernel
theorem dX2_against_53 : decode cX2_against 53 = .ok (.aload_n 0, 1) := by decide +kernel
theorem dX2_against_54 : decode cX2_against 54 = .ok (.getfield 35, 3) := by decide +kernel
theorem dX2_against_57 : decode cX2_against 57 = .ok (.aload_n 1, 1) := by decide +kernel
theorem dX2_against_58 : decode cX2_against 58 = .ok (.getfield 35, 3) := by decide +kernel
theorem dX2_against_61 : decode cX2_against 61 = .ok (.imul, 1) := by decide +kernel
theorem dX2_against_62 : decode cX2_against 62 = .ok (.iadd, 1) := by decide +kernel
theorem dX2_against_63 : decode cX2_against 63 = .ok (.imul, 1) := by decide +kernel
theorem dX2_against_64 : decode cX2_against 64 = .ok (.iadd, 1) := by decide +kernel
theorem dX2_against_65 : decode cX2_against 65 = .ok (.invokevirtual 13, 3) := by decide +kernel
theorem dX2_against_68 : decode cX2_against 68 = .ok (.ireturn, 1) := by decide +kernel
set_option maxRecDepth 20000 in
theorem ggX2_wholeDeterminant_X4_rest : GoodIn wsX2_wholeDeterminant wsX4_rest := goodIn_sub (List.forall_mem_cons.mpr ⟨(List.mem_cons_of_mem _ (List.mem_append_left _ (List.mem_append_left _ (List.mem_of_getElem? (i := 11) rfl)))), (x_ap2 (List.forall_mem_cons.mpr ⟨(List.mem_cons_of_mem _ (List.mem_append_left _ (List.mem_append_left _ (List.mem_of_getElem? (i := 12) rfl)))), (fun _ h => absurd h List.not_mem_nil)⟩) (fun _ h => (List.mem_cons_of_mem _ (List.mem_append_right _ h))))⟩) (by decide +kernel)
set_option maxRecDepth 20000 in
theorem gX2_wholeDeterminant_X4_rest : GoodIn wsX2_wholeDeterminant (wsV RX2 13 RX4 yX4_rest wsX4_rest) := goodIn_app (goodIn_of _ (by decide +kernel)) ggX2_wholeDeterminant_X4_rest
theorem dX2_wholeDeterminant_0 : decode cX2_wholeDeterminant 0 = .ok (.aload_n 0, 1) := by decide +kernel
theorem dX2_wholeDeterminant_1 : decode cX2_wholeDeterminant 1 = .ok (.getfield 7, 3) := by decide +kernel
theorem dX2_wholeDeterminant_4 : decode cX2_wholeDeterminant 4 = .ok (.aload_n 0, 1) := by decide +kernel
theorem dX2_wholeDeterminant_5 : decode cX2_wholeDeterminant 5 = .ok (.getfield 19, 3) := by decide +kernel
theorem dX2_wholeDeterminant_8 : decode cX2_wholeDeterminant 8 = .ok (.aload_n 0, 1) := by decide +kernel
theorem dX2_wholeDeterminant_9 : decode cX2_wholeDeterminant 9 = .ok (.getfield 23, 3) := by decide +kernel
theorem dX2_wholeDeterminant_12 : decode cX2_wholeDeterminant 12 = .ok (.aload_n 0, 1) := by decide +kernel
theorem dX2_wholeDeterminant_13 : decode cX2_wholeDeterminant 13 = .ok (.getfield 26, 3) := by decide +kernel
theorem dX2_wholeDeterminant_16 : decode cX2_wholeDeterminant 16 = .ok (.imul, 1) := by decide +kernel
theorem dX2_wholeDeterminant_17 : decode cX2_wholeDeterminant 17 = .ok (.aload_n 0, 1) := by decide +kernel
theorem dX2_wholeDeterminant_18 : decode cX2_wholeDeterminant 18 = .ok (.getfield 29, 3) := by decide +kernel
theorem dX2_wholeDeterminant_21 : decode cX2_wholeDeterminant 21 = .ok (.aload_n 0, 1) := by decide +kernel
theorem dX2_wholeDeterminant_22 : decode cX2_wholeDeterminant 22 = .ok (.getfield 29, 3) := by decide +kernel
theorem dX2_wholeDeterminant_25 : decode cX2_wholeDeterminant 25 = .ok (.imul, 1) := by decide +kernel
theorem dX2_wholeDeterminant_26 : decode cX2_wholeDeterminant 26 = .ok (.isub, 1) := by decide +kernel
theorem dX2_wholeDeterminant_27 : decode cX2_wholeDeterminant 27 = .ok (.imul, 1) := by decide +kernel
theorem dX2_wholeDeterminant_28 : decode cX2_wholeDeterminant 28 = .ok (.aload_n 0, 1) := by decide +kernel
theorem dX2_wholeDeterminant_29 : decode cX2_wholeDeterminant 29 = .ok (.getfield 35, 3) := by decide +kernel
theorem dX2_wholeDeterminant_32 : decode cX2_wholeDeterminant 32 = .ok (.aload_n 0, 1) := by decide +kernel
theorem dX2_wholeDeterminant_33 : decode cX2_wholeDeterminant 33 = .ok (.getfield 29, 3) := by decide +kernel
theorem dX2_wholeDeterminant_36 : decode cX2_wholeDeterminant 36 = .ok (.aload_n 0, 1) := by decide +kernel
theorem dX2_wholeDeterminant_37 : decode cX2_wholeDeterminant 37 = .ok (.getfield 32, 3) := by decide +kernel
theorem dX2_wholeDeterminant_40 : decode cX2_wholeDeterminant 40 = .ok (.imul, 1) := by decide +kernel
theorem dX2_wholeDeterminant_41 : decode cX2_wholeDeterminant 41 = .ok (.aload_n 0, 1) := by decide +kernel
theorem dX2_wholeDeterminant_42 : decode cX2_wholeDeterminant 42 = .ok (.getfield 26, 3) := by decide +kernel
theorem dX2_wholeDeterminant_45 : decode cX2_wholeDeterminant 45 = .ok (.aload_n 0, 1) := by decide +kernel
theorem dX2_wholeDeterminant_46 : decode cX2_wholeDeterminant 46 = .ok (.getfield 35, 3) := by decide +kernel
theorem dX2_wholeDeterminant_49 : decode cX2_wholeDeterminant 49 = .ok (.imul, 1) := by decide +kernel
theorem dX2_wholeDeterminant_50 : decode cX2_wholeDeterminant 50 = .ok (.isub, 1) := by decide +kernel
theorem dX2_wholeDeterminant_51 : decode cX2_wholeDeterminant 51 = .ok (.imul, 1) := by decide +kernel
theorem dX2_wholeDeterminant_52 : decode cX2_wholeDeterminant 52 = .ok (.iadd, 1) := by decide +kernel
theorem dX2_wholeDeterminant_53 : decode cX2_wholeDeterminant 53 = .ok (.aload_n 0, 1) := by decide +kernel
theorem dX2_wholeDeterminant_54 : decode cX2_wholeDeterminant 54 = .ok (.getfield 32, 3) := by decide +kernel
theorem dX2_wholeDeterminant_57 : decode cX2_wholeDeterminant 57 = .ok (.aload_n 0, 1) := by decide +kernel
theorem dX2_wholeDeterminant_58 : decode cX2_wholeDeterminant 58 = .ok (.getfield 29, 3) := by decide +kernel
theorem dX2_wholeDeterminant_61 : decode cX2_wholeDeterminant 61 = .ok (.aload_n 0, 1) := by decide +kernel
theorem dX2_wholeDeterminant_62 : decode cX2_wholeDeterminant 62 = .ok (.getfield 35, 3) := by decide +kernel
theorem dX2_wholeDeterminant_65 : decode cX2_wholeDeterminant 65 = .ok (.imul, 1) := by decide +kernel
theorem dX2_wholeDeterminant_66 : decode cX2_wholeDeterminant 66 = .ok (.aload_n 0, 1) := by decide +kernel
theorem dX2_wholeDeterminant_67 : decode cX2_wholeDeterminant 67 = .ok (.getfield 23, 3) := by decide +kernel
theorem dX2_wholeDeterminant_70 : decode cX2_wholeDeterminant 70 = .ok (.aload_n 0, 1) := by decide +kernel
theorem dX2_wholeDeterminant_71 : decode cX2_wholeDeterminant 71 = .ok (.getfield 32, 3) := by decide +kernel
theorem dX2_wholeDeterminant_74 : decode cX2_wholeDeterminant 74 = .ok (.imul, 1) := by decide +kernel
theorem dX2_wholeDeterminant_75 : decode cX2_wholeDeterminant 75 = .ok (.isub, 1) := by decide +kernel
theorem dX2_wholeDeterminant_76 : decode cX2_wholeDeterminant 76 = .ok (.imul, 1) := by decide +kernel
theorem dX2_wholeDeterminant_77 : decode cX2_wholeDeterminant 77 = .ok (.iadd, 1) := by decide +kernel
theorem dX2_wholeDeterminant_78 : decode cX2_wholeDeterminant 78 = .ok (.invokevirtual 13, 3) := by decide +kernel
theorem dX2_wholeDeterminant_81 : decode cX2_wholeDeterminant 81 = .ok (.ireturn, 1) := by decide +kernel
set_option maxRecDepth 20000 in
theorem ggX3_init_X7_init : GoodIn wsX3_init wsX7_init := goodIn_sub (List.forall_mem_cons.mpr ⟨(List.mem_cons_of_mem _ (List.mem_append_left _ (List.mem_append_left _ (List.mem_of_getElem? (i := 12) rfl)))), (x_ap2 (List.forall_mem_cons.mpr ⟨(List.mem_cons_of_mem _ (List.mem_append_left _ (List.mem_append_left _ (List.mem_of_getElem? (i := 13) rfl)))), (List.forall_mem_cons.mpr ⟨(List.mem_cons_of_mem _ (List.mem_append_left _ (List.mem_append_left _ (List.mem_of_getElem? (i := 1) rfl)))), (List.forall_mem_cons.mpr ⟨(List.mem_cons_of_mem _ (List.mem_append_left _ (List.mem_append_left _ (List.mem_of_getElem? (i := 2) rfl)))), (List.forall_mem_cons.mpr ⟨(List.mem_cons_of_mem _ (List.mem_append_left _ (List.mem_append_left _ (List.mem_of_getElem? (i := 14) rfl)))), (fun _ h => absurd h List.not_mem_nil)⟩)⟩)⟩)⟩) (fun _ h => (List.mem_cons_of_mem _ (List.mem_append_right _ h))))⟩) (by decide +kernel)
set_option maxRecDepth 20000 in
theorem gX3_init_X7_init : GoodIn wsX3_init (wsX7_init) := ggX3_init_X7_init
theorem dX3_init_0 : decode cX3_init 0 = .ok (.aload_n 0, 1) := by decide +kernel
theorem dX3_init_1 : decode cX3_init 1 = .ok (.invokespecial 3, 3) := by decide +kernel
theorem dX3_init_4 : decode cX3_init 4 = .ok (.aload_n 0, 1) := by decide +kernel
theorem dX3_init_5 : decode cX3_init 5 = .ok (.aload_n 1, 1) := by decide +kernel
theorem dX3_init_6 : decode cX3_init 6 = .ok (.putfield 9, 3) := by decide +kernel
theorem dX3_init_9 : decode cX3_init 9 = .ok (.aload_n 0, 1) := by decide +kernel
theorem dX3_init_10 : decode cX3_init 10 = .ok (.new 15, 3) := by decide +kernel
theorem dX3_init_13 : decode cX3_init 13 = .ok (.dup, 1) := by decide +kernel
theorem dX3_init_14 : decode cX3_init 14 = .ok (.aload_n 1, 1) := by decide +kernel
theorem dX3_init_15 : decode cX3_init 15 = .ok (.invokespecial 17, 3) := by decide +kernel
theorem dX3_init_18 : decode cX3_init 18 = .ok (.putfield 20, 3) := by decide +kernel
theorem dX3_init_21 : decode cX3_init 21 = .ok (.aload_n 0, 1) := by decide +kernel
theorem dX3_init_22 : decode cX3_init 22 = .ok (.new 15, 3) := by decide +kernel
theorem dX3_init_25 : decode cX3_init 25 = .ok (.dup, 1) := by decide +kernel
theorem dX3_init_26 : decode cX3_init 26 = .ok (.aload_n 1, 1) := by decide +kernel
theorem dX3_init_27 : decode cX3_init 27 = .ok (.invokespecial 17, 3) := by decide +kernel
theorem dX3_init_30 : decode cX3_init 30 = .ok (.putfield 24, 3) := by decide +kernel
theorem dX3_init_33 : decode cX3_init 33 = .ok (.aload_n 0, 1) := by decide +kernel
theorem dX3_init_34 : decode cX3_init 34 = .ok (.new 15, 3) := by decide +kernel
theorem dX3_init_37 : decode cX3_init 37 = .ok (.dup, 1) := by decide +kernel
theorem dX3_init_38 : decode cX3_init 38 = .ok (.aload_n 1, 1) := by decide +kernel
theorem dX3_init_39 : decode cX3_init 39 = .ok (.invokespecial 17, 3) := by decide +kernel
theorem dX3_init_42 : decode cX3_init 42 = .ok (.putfield 27, 3) := by decide +kernel
theorem dX3_init_45 : decode cX3_init 45 = .ok (.return_, 1) := by decide +kernel
theorem ip_wsX3_find__wsX3_find_r1 : ∀ w ∈ wsX3_find_r1, w ∈ wsX3_find := fun _ h => (List.mem_cons_of_mem _ (List.mem_append_left _ (List.mem_append_left _ (List.mem_append_left _ (List.mem_append_left _ (List.mem_append_left _ h))))))
theorem ip_wsX3_find__wsX3_find_r2 : ∀ w ∈ wsX3_find_r2, w ∈ wsX3_find := fun _ h => (List.mem_cons_of_mem _ (List.mem_append_left _ (List.mem_append_left _ (List.mem_append_left _ (List.mem_append_left _ (List.mem_append_right _ (List.mem_append_left _ h)))))))
theorem ip_wsX3_find__wsX3_find_r3 : ∀ w ∈ wsX3_find_r3, w ∈ wsX3_find := fun _ h => (List.mem_cons_of_mem _ (List.mem_append_left _ (List.mem_append_left _ (List.mem_append_left _ (List.mem_append_left _ (List.mem_append_right _ (List.mem_append_right _ (List.mem_append_left _ h))))))))
theorem ip_wsX3_find__wsX3_find_r4 : ∀ w ∈ wsX3_find_r4, w ∈ wsX3_find := fun _ h => (List.mem_cons_of_mem _ (List.mem_append_left _ (List.mem_append_left _ (List.mem_append_left _ (List.mem_append_left _ (List.mem_append_right _ (List.mem_append_right _ (List.mem_append_right _ h))))))))
set_option maxRecDepth 20000 in
theorem ggX3_find_X3_span : GoodIn wsX3_find wsX3_span := goodIn_sub (List.forall_mem_cons.mpr ⟨(ip_wsX3_find__wsX3_find_r1 _ (List.mem_of_getElem? (i := 8) rfl)), (x_ap2 (x_ap2 (x_ap2 (x_ap2 (show ∀ w ∈ wsX3_span_r1, w ∈ wsX3_find from (List.forall_mem_cons.mpr ⟨(ip_wsX3_find__wsX3_find_r1 _ (List.mem_of_getElem? (i := 9) rfl)), (List.forall_mem_cons.mpr ⟨(ip_wsX3_find__wsX3_find_r1 _ (List.mem_of_getElem? (i := 1) rfl)), (List.forall_mem_cons.mpr ⟨(ip_wsX3_find__wsX3_find_r1 _ (List.mem_of_getElem? (i := 2) rfl)), (List.forall_mem_cons.mpr ⟨(ip_wsX3_find__wsX3_find_r1 _ (List.mem_of_getElem? (i := 10) rfl)), (List.forall_mem_cons.mpr ⟨(ip_wsX3_find__wsX3_find_r1 _ (List.mem_of_getElem? (i := 11) rfl)), (List.forall_mem_cons.mpr ⟨(ip_wsX3_find__wsX3_find_r1 _ (List.mem_of_getElem? (i := 12) rfl)), (List.forall_mem_cons.mpr ⟨(ip_wsX3_find__wsX3_find_r1 _ (List.mem_of_getElem? (i := 13) rfl)), (List.forall_mem_cons.mpr ⟨(ip_wsX3_find__wsX3_find_r1 _ (List.mem_of_getElem? (i := 14) rfl)), (List.forall_mem_cons.mpr ⟨(ip_wsX3_find__wsX3_find_r1 _ (List.mem_of_getElem? (i := 15) rfl)), (List.forall_mem_cons.mpr ⟨(ip_wsX3_find__wsX3_find_r1 _ (List.mem_of_getElem? (i := 16) rfl)), (List.forall_mem_cons.mpr ⟨(ip_wsX3_find__wsX3_find_r1 _ (List.mem_of_getElem? (i := 17) rfl)), (List.forall_mem_cons.mpr ⟨(ip_wsX3_find__wsX3_find_r1 _ (List.mem_of_getElem? (i := 18) rfl)), (List.forall_mem_cons.mpr ⟨(ip_wsX3_find__wsX3_find_r1 _ (List.mem_of_getElem? (i := 19) rfl)), (List.forall_mem_cons.mpr ⟨(ip_wsX3_find__wsX3_find_r1 _ (List.mem_of_getElem? (i := 20) rfl)), (List.forall_mem_cons.mpr ⟨(ip_wsX3_find__wsX3_find_r1 _ (List.mem_of_getElem? (i := 21) rfl)), (List.forall_mem_cons.mpr ⟨(ip_wsX3_find__wsX3_find_r1 _ (List.mem_of_getElem? (i := 22) rfl)), (List.forall_mem_cons.mpr ⟨(ip_wsX3_find__wsX3_find_r1 _ (List.mem_of_getElem? (i := 23) rfl)), (List.forall_mem_cons.mpr ⟨(ip_wsX3_find__wsX3_find_r2 _ (List.mem_of_getElem? (i := 0) rfl)), (List.forall_mem_cons.mpr ⟨(ip_wsX3_find__wsX3_find_r2 _ (List.mem_of_getElem? (i := 1) rfl)), (List.forall_mem_cons.mpr ⟨(ip_wsX3_find__wsX3_find_r2 _ (List.mem_of_getElem? (i := 2) rfl)), (List.forall_mem_cons.mpr ⟨(ip_wsX3_find__wsX3_find_r2 _ (List.mem_of_getElem? (i := 3) rfl)), (List.forall_mem_cons.mpr ⟨(ip_wsX3_find__wsX3_find_r2 _ (List.mem_of_getElem? (i := 4) rfl)), (List.forall_mem_cons.mpr ⟨(ip_wsX3_find__wsX3_find_r2 _ (List.mem_of_getElem? (i := 5) rfl)), (List.forall_mem_cons.mpr ⟨(ip_wsX3_find__wsX3_find_r2 _ (List.mem_of_getElem? (i := 6) rfl)), (fun _ h => absurd h List.not_mem_nil)⟩)⟩)⟩)⟩)⟩)⟩)⟩)⟩)⟩)⟩)⟩)⟩)⟩)⟩)⟩)⟩)⟩)⟩)⟩)⟩)⟩)⟩)⟩)⟩)) (show ∀ w ∈ wsX3_span_r2, w ∈ wsX3_find from (List.forall_mem_cons.mpr ⟨(ip_wsX3_find__wsX3_find_r2 _ (List.mem_of_getElem? (i := 7) rfl)), (List.forall_mem_cons.mpr ⟨(ip_wsX3_find__wsX3_find_r2 _ (List.mem_of_getElem? (i := 8) rfl)), (fun _ h => absurd h List.not_mem_nil)⟩)⟩))) (fun _ h => (List.mem_cons_of_mem _ (List.mem_append_left _ (List.mem_append_left _ (List.mem_append_left _ (List.mem_append_right _ h))))))) (fun _ h => (List.mem_cons_of_mem _ (List.mem_append_left _ (List.mem_append_left _ (List.mem_append_right _ h)))))) (fun _ h => (List.mem_cons_of_mem _ (List.mem_append_left _ (List.mem_append_right _ h)))))⟩) (by decide +kernel)
set_option maxRecDepth 20000 in
theorem gX3_find_X3_span : GoodIn wsX3_find (wsV RX3 34 RX3 yX3_span wsX3_span) := goodIn_app (goodIn_of _ (by decide +kernel)) ggX3_find_X3_span
set_option maxRecDepth 20000 in
theorem ggX3_find_X2_at : GoodIn wsX3_find wsX2_at := goodIn_sub (List.forall_mem_cons.mpr ⟨(ip_wsX3_find__wsX3_find_r2 _ (List.mem_of_getElem? (i := 13) rfl)), (x_ap2 (x_ap2 (x_ap2 (List.forall_mem_cons.mpr ⟨(ip_wsX3_find__wsX3_find_r2 _ (List.mem_of_getElem? (i := 14) rfl)), (List.forall_mem_cons.mpr ⟨(ip_wsX3_find__wsX3_find_r2 _ (List.mem_of_getElem? (i := 15) rfl)), (List.forall_mem_cons.mpr ⟨(ip_wsX3_find__wsX3_find_r2 _ (List.mem_of_getElem? (i := 16) rfl)), (List.forall_mem_cons.mpr ⟨(ip_wsX3_find__wsX3_find_r2 _ (List.mem_of_getElem? (i := 12) rfl)), (List.forall_mem_cons.mpr ⟨(ip_wsX3_find__wsX3_find_r2 _ (List.mem_of_getElem? (i := 17) rfl)), (List.forall_mem_cons.mpr ⟨(ip_wsX3_find__wsX3_find_r2 _ (List.mem_of_getElem? (i := 18) rfl)), (List.forall_mem_cons.mpr ⟨(ip_wsX3_find__wsX3_find_r2 _ (List.mem_of_getElem? (i := 19) rfl)), (List.forall_mem_cons.mpr ⟨(ip_wsX3_find__wsX3_find_r2 _ (List.mem_of_getElem? (i := 20) rfl)), (List.forall_mem_cons.mpr ⟨(ip_wsX3_find__wsX3_find_r2 _ (List.mem_of_getElem? (i := 21) rfl)), (List.forall_mem_cons.mpr ⟨(ip_wsX3_find__wsX3_find_r2 _ (List.mem_of_getElem? (i := 22) rfl)), (List.forall_mem_cons.mpr ⟨(ip_wsX3_find__wsX3_find_r2 _ (List.mem_of_getElem? (i := 23) rfl)), (List.forall_mem_cons.mpr ⟨(ip_wsX3_find__wsX3_find_r3 _ (List.mem_of_getElem? (i := 0) rfl)), (List.forall_mem_cons.mpr ⟨(ip_wsX3_find__wsX3_find_r3 _ (List.mem_of_getElem? (i := 1) rfl)), (List.forall_mem_cons.mpr ⟨(ip_wsX3_find__wsX3_find_r3 _ (List.mem_of_getElem? (i := 2) rfl)), (List.forall_mem_cons.mpr ⟨(ip_wsX3_find__wsX3_find_r3 _ (List.mem_of_getElem? (i := 3) rfl)), (List.forall_mem_cons.mpr ⟨(ip_wsX3_find__wsX3_find_r3 _ (List.mem_of_getElem? (i := 4) rfl)), (List.forall_mem_cons.mpr ⟨(ip_wsX3_find__wsX3_find_r3 _ (List.mem_of_getElem? (i := 5) rfl)), (List.forall_mem_cons.mpr ⟨(ip_wsX3_find__wsX3_find_r2 _ (List.mem_of_getElem? (i := 6) rfl)), (List.forall_mem_cons.mpr ⟨(ip_wsX3_find__wsX3_find_r2 _ (List.mem_of_getElem? (i := 7) rfl)), (List.forall_mem_cons.mpr ⟨(ip_wsX3_find__wsX3_find_r1 _ (List.mem_of_getElem? (i := 22) rfl)), (List.forall_mem_cons.mpr ⟨(ip_wsX3_find__wsX3_find_r2 _ (List.mem_of_getElem? (i := 8) rfl)), (List.forall_mem_cons.mpr ⟨(ip_wsX3_find__wsX3_find_r2 _ (List.mem_of_getElem? (i := 0) rfl)), (fun _ h => absurd h List.not_mem_nil)⟩)⟩)⟩)⟩)⟩)⟩)⟩)⟩)⟩)⟩)⟩)⟩)⟩)⟩)⟩)⟩)⟩)⟩)⟩)⟩)⟩)⟩) (fun _ h => (List.mem_cons_of_mem _ (List.mem_append_right _ h)))) (fun _ h => (List.mem_cons_of_mem _ (List.mem_append_left _ (List.mem_append_left _ (List.mem_append_right _ h)))))) (fun _ h => (List.mem_cons_of_mem _ (List.mem_append_left _ (List.mem_append_right _ h)))))⟩) (by decide +kernel)
set_option maxRecDepth 20000 in
theorem gX3_find_X2_at : GoodIn wsX3_find (wsV RX3 38 RX2 yX2_at wsX2_at) := goodIn_app (goodIn_of _ (by decide +kernel)) ggX3_find_X2_at
set_option maxRecDepth 20000 in
theorem ggX3_find_X2_between : GoodIn wsX3_find wsX2_between := goodIn_sub (List.forall_mem_cons.mpr ⟨(ip_wsX3_find__wsX3_find_r2 _ (List.mem_of_getElem? (i := 17) rfl)), (x_ap2 (x_ap2 (x_ap2 (List.forall_mem_cons.mpr ⟨(ip_wsX3_find__wsX3_find_r2 _ (List.mem_of_getElem? (i := 18) rfl)), (List.forall_mem_cons.mpr ⟨(ip_wsX3_find__wsX3_find_r2 _ (List.mem_of_getElem? (i := 19) rfl)), (List.forall_mem_cons.mpr ⟨(ip_wsX3_find__wsX3_find_r2 _ (List.mem_of_getElem? (i := 20) rfl)), (List.forall_mem_cons.mpr ⟨(ip_wsX3_find__wsX3_find_r2 _ (List.mem_of_getElem? (i := 21) rfl)), (List.forall_mem_cons.mpr ⟨(ip_wsX3_find__wsX3_find_r2 _ (List.mem_of_getElem? (i := 12) rfl)), (List.forall_mem_cons.mpr ⟨(ip_wsX3_find__wsX3_find_r2 _ (List.mem_of_getElem? (i := 22) rfl)), (List.forall_mem_cons.mpr ⟨(ip_wsX3_find__wsX3_find_r2 _ (List.mem_of_getElem? (i := 23) rfl)), (List.forall_mem_cons.mpr ⟨(ip_wsX3_find__wsX3_find_r3 _ (List.mem_of_getElem? (i := 0) rfl)), (List.forall_mem_cons.mpr ⟨(ip_wsX3_find__wsX3_find_r3 _ (List.mem_of_getElem? (i := 1) rfl)), (List.forall_mem_cons.mpr ⟨(ip_wsX3_find__wsX3_find_r3 _ (List.mem_of_getElem? (i := 2) rfl)), (List.forall_mem_cons.mpr ⟨(ip_wsX3_find__wsX3_find_r3 _ (List.mem_of_getElem? (i := 3) rfl)), (List.forall_mem_cons.mpr ⟨(ip_wsX3_find__wsX3_find_r3 _ (List.mem_of_getElem? (i := 4) rfl)), (List.forall_mem_cons.mpr ⟨(ip_wsX3_find__wsX3_find_r3 _ (List.mem_of_getElem? (i := 5) rfl)), (List.forall_mem_cons.mpr ⟨(ip_wsX3_find__wsX3_find_r2 _ (List.mem_of_getElem? (i := 6) rfl)), (List.forall_mem_cons.mpr ⟨(ip_wsX3_find__wsX3_find_r2 _ (List.mem_of_getElem? (i := 7) rfl)), (List.forall_mem_cons.mpr ⟨(ip_wsX3_find__wsX3_find_r1 _ (List.mem_of_getElem? (i := 22) rfl)), (List.forall_mem_cons.mpr ⟨(ip_wsX3_find__wsX3_find_r2 _ (List.mem_of_getElem? (i := 8) rfl)), (List.forall_mem_cons.mpr ⟨(ip_wsX3_find__wsX3_find_r2 _ (List.mem_of_getElem? (i := 0) rfl)), (fun _ h => absurd h List.not_mem_nil)⟩)⟩)⟩)⟩)⟩)⟩)⟩)⟩)⟩)⟩)⟩)⟩)⟩)⟩)⟩)⟩)⟩)⟩) (fun _ h => (List.mem_cons_of_mem _ (List.mem_append_right _ h)))) (fun _ h => (List.mem_cons_of_mem _ (List.mem_append_left _ (List.mem_append_left _ (List.mem_append_right _ h)))))) (fun _ h => (List.mem_cons_of_mem _ (List.mem_append_left _ (List.mem_append_right _ h)))))⟩) (by decide +kernel)
set_option maxRecDepth 20000 in
theorem gX3_find_X2_between : GoodIn wsX3_find (wsV RX3 44 RX2 yX2_between wsX2_between) := goodIn_app (goodIn_of _ (by decide +kernel)) ggX3_find_X2_between
set_option maxRecDepth 20000 in
theorem ggX3_find_X3_put : GoodIn wsX3_find wsX3_put := goodIn_sub (List.forall_mem_cons.mpr ⟨(ip_wsX3_find__wsX3_find_r3 _ (List.mem_of_getElem? (i := 10) rfl)), (x_ap2 (x_ap2 (x_ap2 (x_ap2 (show ∀ w ∈ wsX3_put_r1, w ∈ wsX3_find from (List.forall_mem_cons.mpr ⟨(ip_wsX3_find__wsX3_find_r1 _ (List.mem_of_getElem? (i := 9) rfl)), (List.forall_mem_cons.mpr ⟨(ip_wsX3_find__wsX3_find_r1 _ (List.mem_of_getElem? (i := 1) rfl)), (List.forall_mem_cons.mpr ⟨(ip_wsX3_find__wsX3_find_r1 _ (List.mem_of_getElem? (i := 2) rfl)), (List.forall_mem_cons.mpr ⟨(ip_wsX3_find__wsX3_find_r1 _ (List.mem_of_getElem? (i := 0) rfl)), (List.forall_mem_cons.mpr ⟨(ip_wsX3_find__wsX3_find_r3 _ (List.mem_of_getElem? (i := 11) rfl)), (List.forall_mem_cons.mpr ⟨(ip_wsX3_find__wsX3_find_r3 _ (List.mem_of_getElem? (i := 12) rfl)), (List.forall_mem_cons.mpr ⟨(ip_wsX3_find__wsX3_find_r3 _ (List.mem_of_getElem? (i := 13) rfl)), (List.forall_mem_cons.mpr ⟨(ip_wsX3_find__wsX3_find_r3 _ (List.mem_of_getElem? (i := 14) rfl)), (List.forall_mem_cons.mpr ⟨(ip_wsX3_find__wsX3_find_r3 _ (List.mem_of_getElem? (i := 15) rfl)), (List.forall_mem_cons.mpr ⟨(ip_wsX3_find__wsX3_find_r1 _ (List.mem_of_getElem? (i := 13) rfl)), (List.forall_mem_cons.mpr ⟨(ip_wsX3_find__wsX3_find_r3 _ (List.mem_of_getElem? (i := 16) rfl)), (List.forall_mem_cons.mpr ⟨(ip_wsX3_find__wsX3_find_r1 _ (List.mem_of_getElem? (i := 15) rfl)), (List.forall_mem_cons.mpr ⟨(ip_wsX3_find__wsX3_find_r1 _ (List.mem_of_getElem? (i := 18) rfl)), (List.forall_mem_cons.mpr ⟨(ip_wsX3_find__wsX3_find_r1 _ (List.mem_of_getElem? (i := 17) rfl)), (List.forall_mem_cons.mpr ⟨(ip_wsX3_find__wsX3_find_r1 _ (List.mem_of_getElem? (i := 16) rfl)), (List.forall_mem_cons.mpr ⟨(ip_wsX3_find__wsX3_find_r2 _ (List.mem_of_getElem? (i := 5) rfl)), (List.forall_mem_cons.mpr ⟨(ip_wsX3_find__wsX3_find_r2 _ (List.mem_of_getElem? (i := 6) rfl)), (List.forall_mem_cons.mpr ⟨(ip_wsX3_find__wsX3_find_r2 _ (List.mem_of_getElem? (i := 7) rfl)), (List.forall_mem_cons.mpr ⟨(ip_wsX3_find__wsX3_find_r1 _ (List.mem_of_getElem? (i := 22) rfl)), (List.forall_mem_cons.mpr ⟨(ip_wsX3_find__wsX3_find_r2 _ (List.mem_of_getElem? (i := 8) rfl)), (List.forall_mem_cons.mpr ⟨(ip_wsX3_find__wsX3_find_r2 _ (List.mem_of_getElem? (i := 0) rfl)), (List.forall_mem_cons.mpr ⟨(ip_wsX3_find__wsX3_find_r3 _ (List.mem_of_getElem? (i := 17) rfl)), (List.forall_mem_cons.mpr ⟨(ip_wsX3_find__wsX3_find_r3 _ (List.mem_of_getElem? (i := 18) rfl)), (List.forall_mem_cons.mpr ⟨(ip_wsX3_find__wsX3_find_r3 _ (List.mem_of_getElem? (i := 19) rfl)), (fun _ h => absurd h List.not_mem_nil)⟩)⟩)⟩)⟩)⟩)⟩)⟩)⟩)⟩)⟩)⟩)⟩)⟩)⟩)⟩)⟩)⟩)⟩)⟩)⟩)⟩)⟩)⟩)⟩)) (show ∀ w ∈ wsX3_put_r2, w ∈ wsX3_find from (List.forall_mem_cons.mpr ⟨(ip_wsX3_find__wsX3_find_r3 _ (List.mem_of_getElem? (i := 20) rfl)), (List.forall_mem_cons.mpr ⟨(ip_wsX3_find__wsX3_find_r1 _ (List.mem_of_getElem? (i := 19) rfl)), (List.forall_mem_cons.mpr ⟨(ip_wsX3_find__wsX3_find_r1 _ (List.mem_of_getElem? (i := 20) rfl)), (List.forall_mem_cons.mpr ⟨(ip_wsX3_find__wsX3_find_r1 _ (List.mem_of_getElem? (i := 21) rfl)), (List.forall_mem_cons.mpr ⟨(ip_wsX3_find__wsX3_find_r1 _ (List.mem_of_getElem? (i := 23) rfl)), (List.forall_mem_cons.mpr ⟨(ip_wsX3_find__wsX3_find_r3 _ (List.mem_of_getElem? (i := 21) rfl)), (List.forall_mem_cons.mpr ⟨(ip_wsX3_find__wsX3_find_r3 _ (List.mem_of_getElem? (i := 22) rfl)), (List.forall_mem_cons.mpr ⟨(ip_wsX3_find__wsX3_find_r3 _ (List.mem_of_getElem? (i := 23) rfl)), (List.forall_mem_cons.mpr ⟨(ip_wsX3_find__wsX3_find_r4 _ (List.mem_of_getElem? (i := 0) rfl)), (List.forall_mem_cons.mpr ⟨(ip_wsX3_find__wsX3_find_r4 _ (List.mem_of_getElem? (i := 1) rfl)), (fun _ h => absurd h List.not_mem_nil)⟩)⟩)⟩)⟩)⟩)⟩)⟩)⟩)⟩)⟩))) (fun _ h => (List.mem_cons_of_mem _ (List.mem_append_left _ (List.mem_append_left _ (List.mem_append_left _ (List.mem_append_right _ h))))))) (fun _ h => (List.mem_cons_of_mem _ (List.mem_append_left _ (List.mem_append_left _ (List.mem_append_right _ h)))))) (fun _ h => (List.mem_cons_of_mem _ (List.mem_append_left _ (List.mem_append_right _ h)))))⟩) (by decide +kernel)
set_option maxRecDepth 20000 in
theorem gX3_find_X3_put : GoodIn wsX3_find (wsV RX3 48 RX3 yX3_put wsX3_put) := goodIn_app (goodIn_of _ (by decide +kernel)) ggX3_find_X3_put
set_option maxRecDepth 20000 in
theorem ggX3_find_X4_rootOf : GoodIn wsX3_find wsX4_rootOf := goodIn_sub (List.forall_mem_cons.mpr ⟨(ip_wsX3_find__wsX3_find_r4 _ (List.mem_of_getElem? (i := 5) rfl)), (x_ap2 (List.forall_mem_cons.mpr ⟨(ip_wsX3_find__wsX3_find_r4 _ (List.mem_of_getElem? (i := 6) rfl)), (List.forall_mem_cons.mpr ⟨(ip_wsX3_find__wsX3_find_r4 _ (List.mem_of_getElem? (i := 7) rfl)), (List.forall_mem_cons.mpr ⟨(ip_wsX3_find__wsX3_find_r2 _ (List.mem_of_getElem? (i := 6) rfl)), (List.forall_mem_cons.mpr ⟨(ip_wsX3_find__wsX3_find_r2 _ (List.mem_of_getElem? (i := 7) rfl)), (List.forall_mem_cons.mpr ⟨(ip_wsX3_find__wsX3_find_r1 _ (List.mem_of_getElem? (i := 22) rfl)), (List.forall_mem_cons.mpr ⟨(ip_wsX3_find__wsX3_find_r2 _ (List.mem_of_getElem? (i := 8) rfl)), (List.forall_mem_cons.mpr ⟨(ip_wsX3_find__wsX3_find_r2 _ (List.mem_of_getElem? (i := 0) rfl)), (fun _ h => absurd h List.not_mem_nil)⟩)⟩)⟩)⟩)⟩)⟩)⟩) (fun _ h => (List.mem_cons_of_mem _ (List.mem_append_left _ (List.mem_append_right _ h)))))⟩) (by decide +kernel)
set_option maxRecDepth 20000 in
theorem gX3_find_X4_rootOf : GoodIn wsX3_find (wsV RX3 52 RX4 yX4_rootOf wsX4_rootOf) := goodIn_app (goodIn_of _ (by decide +kernel)) ggX3_find_X4_rootOf
theorem dX3_find_0 : decode cX3_find 0 = .ok (.aload_n 0, 1) := by decide +kernel
theorem dX3_find_1 : decode cX3_find 1 = .ok (.iconst 0, 1) := by decide +kernel
theorem dX3_find_2 : decode cX3_find 2 = .ok (.putfield 30, 3) := by decide +kernel
theorem dX3_find_5 : decode cX3_find 5 = .ok (.aload_n 0, 1) := by decide +kernel
theorem dX3_find_6 : decode cX3_find 6 = .ok (.iload_n 2, 1) := by decide +kernel
theorem dX3_find_7 : decode cX3_find 7 = .ok (.invokevirtual 34, 3) := by decide +kernel
theorem dX3_find_10 : decode cX3_find 10 = .ok (.aload_n 1, 1) := by decide +kernel
theorem dX3_find_11 : decode cX3_find 11 = .ok (.aload_n 0, 1) := by decide +kernel
theorem dX3_find_12 : decode cX3_find 12 = .ok (.getfield 20, 3) := by decide +kernel
theorem dX3_find_15 : decode cX3_find 15 = .ok (.invokevirtual 38, 3) := by decide +kernel
theorem dX3_find_18 : decode cX3_find 18 = .ok (.istore_n 3, 1) := by decide +kernel
theorem dX3_find_19 : decode cX3_find 19 = .ok (.aload_n 1, 1) := by decide +kernel
theorem dX3_find_20 : decode cX3_find 20 = .ok (.aload_n 0, 1) := by decide +kernel
theorem dX3_find_21 : decode cX3_find 21 = .ok (.getfield 24, 3) := by decide +kernel
theorem dX3_find_24 : decode cX3_find 24 = .ok (.invokevirtual 38, 3) := by decide +kernel
theorem dX3_find_27 : decode cX3_find 27 = .ok (.istore 4, 2) := by decide +kernel
theorem dX3_find_29 : decode cX3_find 29 = .ok (.aload_n 1, 1) := by decide +kernel
theorem dX3_find_30 : decode cX3_find 30 = .ok (.aload_n 0, 1) := by decide +kernel
theorem dX3_find_31 : decode cX3_find 31 = .ok (.getfield 20, 3) := by decide +kernel
theorem dX3_find_34 : decode cX3_find 34 = .ok (.aload_n 0, 1) := by decide +kernel
theorem dX3_find_35 : decode cX3_find 35 = .ok (.getfield 24, 3) := by decide +kernel
theorem dX3_find_38 : decode cX3_find 38 = .ok (.invokevirtual 44, 3) := by decide +kernel
theorem dX3_find_41 : decode cX3_find 41 = .ok (.istore 5, 2) := by decide +kernel
theorem dX3_find_43 : decode cX3_find 43 = .ok (.iload_n 3, 1) := by decide +kernel
theorem dX3_find_44 : decode cX3_find 44 = .ok (.ifCond .ne 26, 3) := by decide +kernel
theorem dX3_find_47 : decode cX3_find 47 = .ok (.aload_n 0, 1) := by decide +kernel
theorem dX3_find_48 : decode cX3_find 48 = .ok (.iconst 1, 1) := by decide +kernel
theorem dX3_find_49 : decode cX3_find 49 = .ok (.iconst 0, 1) := by decide +kernel
theorem dX3_find_50 : decode cX3_find 50 = .ok (.invokevirtual 48, 3) := by decide +kernel
theorem dX3_find_53 : decode cX3_find 53 = .ok (.iload 5, 2) := by decide +kernel
theorem dX3_find_55 : decode cX3_find 55 = .ok (.ifCond .eq 14, 3) := by decide +kernel
theorem dX3_find_58 : decode cX3_find 58 = .ok (.aload_n 0, 1) := by decide +kernel
theorem dX3_find_59 : decode cX3_find 59 = .ok (.iload 4, 2) := by decide +kernel
theorem dX3_find_61 : decode cX3_find 61 = .ok (.ineg, 1) := by decide +kernel
theorem dX3_find_62 : decode cX3_find 62 = .ok (.iconst 2, 1) := by decide +kernel
theorem dX3_find_63 : decode cX3_find 63 = .ok (.iload 5, 2) := by decide +kernel
theorem dX3_find_65 : decode cX3_find 65 = .ok (.imul, 1) := by decide +kernel
theorem dX3_find_66 : decode cX3_find 66 = .ok (.invokevirtual 48, 3) := by decide +kernel
theorem dX3_find_69 : decode cX3_find 69 = .ok (.return_, 1) := by decide +kernel
theorem dX3_find_70 : decode cX3_find 70 = .ok (.aload_n 0, 1) := by decide +kernel
theorem dX3_find_71 : decode cX3_find 71 = .ok (.getfield 9, 3) := by decide +kernel
theorem dX3_find_74 : decode cX3_find 74 = .ok (.iload 5, 2) := by decide +kernel
theorem dX3_find_76 : decode cX3_find 76 = .ok (.iload 5, 2) := by decide +kernel
theorem dX3_find_78 : decode cX3_find 78 = .ok (.imul, 1) := by decide +kernel
theorem dX3_find_79 : decode cX3_find 79 = .ok (.iload_n 3, 1) := by decide +kernel
theorem dX3_find_80 : decode cX3_find 80 = .ok (.iload 4, 2) := by decide +kernel
theorem dX3_find_82 : decode cX3_find 82 = .ok (.imul, 1) := by decide +kernel
theorem dX3_find_83 : decode cX3_find 83 = .ok (.isub, 1) := by decide +kernel
theorem dX3_find_84 : decode cX3_find 84 = .ok (.invokevirtual 52, 3) := by decide +kernel
theorem dX3_find_87 : decode cX3_find 87 = .ok (.istore 6, 2) := by decide +kernel
theorem dX3_find_89 : decode cX3_find 89 = .ok (.iload 6, 2) := by decide +kernel
theorem dX3_find_91 : decode cX3_find 91 = .ok (.bipush (-6), 2) := by decide +kernel
theorem dX3_find_93 : decode cX3_find 93 = .ok (.if_icmp .ne 4, 3) := by decide +kernel
theorem dX3_find_96 : decode cX3_find 96 = .ok (.return_, 1) := by decide +kernel
theorem dX3_find_97 : decode cX3_find 97 = .ok (.aload_n 0, 1) := by decide +kernel
theorem dX3_find_98 : decode cX3_find 98 = .ok (.iload 6, 2) := by decide +kernel
theorem dX3_find_100 : decode cX3_find 100 = .ok (.iload 5, 2) := by decide +kernel
theorem dX3_find_102 : decode cX3_find 102 = .ok (.isub, 1) := by decide +kernel
theorem dX3_find_103 : decode cX3_find 103 = .ok (.iload_n 3, 1) := by decide +kernel
theorem dX3_find_104 : decode cX3_find 104 = .ok (.invokevirtual 48, 3) := by decide +kernel
theorem dX3_find_107 : decode cX3_find 107 = .ok (.iload 6, 2) := by decide +kernel
theorem dX3_find_109 : decode cX3_find 109 = .ok (.ifCond .eq 14, 3) := by decide +kernel
theorem dX3_find_112 : decode cX3_find 112 = .ok (.aload_n 0, 1) := by decide +kernel
theorem dX3_find_113 : decode cX3_find 113 = .ok (.iload 6, 2) := by decide +kernel
theorem dX3_find_115 : decode cX3_find 115 = .ok (.ineg, 1) := by decide +kernel
theorem dX3_find_116 : decode cX3_find 116 = .ok (.iload 5, 2) := by decide +kernel
theorem dX3_find_118 : decode cX3_find 118 = .ok (.isub, 1) := by decide +kernel
theorem dX3_find_119 : decode cX3_find 119 = .ok (.iload_n 3, 1) := by decide +kernel
theorem dX3_find_120 : decode cX3_find 120 = .ok (.invokevirtual 48, 3) := by decide +kernel
theorem dX3_find_123 : decode cX3_find 123 = .ok (.return_, 1) := by decide +kernel
theorem dX3_size_0 : decode cX3_size 0 = .ok (.aload_n 0, 1) := by decide +kernel
theorem dX3_size_1 : decode cX3_size 1 = .ok (.getfield 30, 3) := by decide +kernel
theorem dX3_size_4 : decode cX3_size 4 = .ok (.ireturn, 1) := by decide +kernel
theorem dX3_keyAt_0 : decode cX3_keyAt 0 = .ok (.iload_n 1, 1) := by decide +kernel
theorem dX3_keyAt_1 : decode cX3_keyAt 1 = .ok (.ifCond .ne 10, 3) := by decide +kernel
theorem dX3_keyAt_4 : decode cX3_keyAt 4 = .ok (.aload_n 0, 1) := by decide +kernel
theorem dX3_keyAt_5 : decode cX3_keyAt 5 = .ok (.getfield 58, 3) := by decide +kernel
theorem dX3_keyAt_8 : decode cX3_keyAt 8 = .ok (.goto 7, 3) := by decide +kernel
theorem dX3_keyAt_11 : decode cX3_keyAt 11 = .ok (.aload_n 0, 1) := by decide +kernel
theorem dX3_keyAt_12 : decode cX3_keyAt 12 = .ok (.getfield 61, 3) := by decide +kernel
theorem dX3_keyAt_15 : decode cX3_keyAt 15 = .ok (.ireturn, 1) := by decide +kernel
theorem dX3_keyBeside_0 : decode cX3_keyBeside 0 = .ok (.aload_n 0, 1) := by decide +kernel
theorem dX3_keyBeside_1 : decode cX3_keyBeside 1 = .ok (.getfield 30, 3) := by decide +kernel
theorem dX3_keyBeside_4 : decode cX3_keyBeside 4 = .ok (.iconst 2, 1) := by decide +kernel
theorem dX3_keyBeside_5 : decode cX3_keyBeside 5 = .ok (.if_icmp .ge 7, 3) := by decide +kernel
theorem dX3_keyBeside_8 : decode cX3_keyBeside 8 = .ok (.iload_n 1, 1) := by decide +kernel
theorem dX3_keyBeside_9 : decode cX3_keyBeside 9 = .ok (.goto 22, 3) := by decide +kernel
theorem dX3_keyBeside_12 : decode cX3_keyBeside 12 = .ok (.iload_n 1, 1) := by decide +kernel
theorem dX3_keyBeside_13 : decode cX3_keyBeside 13 = .ok (.aload_n 0, 1) := by decide +kernel
theorem dX3_keyBeside_14 : decode cX3_keyBeside 14 = .ok (.getfield 58, 3) := by decide +kernel
theorem dX3_keyBeside_17 : decode cX3_keyBeside 17 = .ok (.if_icmp .ne 10, 3) := by decide +kernel
theorem dX3_keyBeside_20 : decode cX3_keyBeside 20 = .ok (.aload_n 0, 1) := by decide +kernel
theorem dX3_keyBeside_21 : decode cX3_keyBeside 21 = .ok (.getfield 61, 3) := by decide +kernel
theorem dX3_keyBeside_24 : decode cX3_keyBeside 24 = .ok (.goto 7, 3) := by decide +kernel
theorem dX3_keyBeside_27 : decode cX3_keyBeside 27 = .ok (.aload_n 0, 1) := by decide +kernel
theorem dX3_keyBeside_28 : decode cX3_keyBeside 28 = .ok (.getfield 58, 3) := by decide +kernel
theorem dX3_keyBeside_31 : decode cX3_keyBeside 31 = .ok (.ireturn, 1) := by decide +kernel
theorem ip_wsX3_span__wsX3_span_r1 : ∀ w ∈ wsX3_span_r1, w ∈ wsX3_span := fun _ h => (List.mem_cons_of_mem _ (List.mem_append_left _ (List.mem_append_left _ (List.mem_append_left _ (List.mem_append_left _ h)))))
theorem ip_wsX3_span__wsX3_span_r2 : ∀ w ∈ wsX3_span_r2, w ∈ wsX3_span := fun _ h => (List.mem_cons_of_mem _ (List.mem_append_left _ (List.mem_append_left _ (List.mem_append_left _ (List.mem_append_right _ h)))))
set_option maxRecDepth 20000 in
theorem ggX3_span_X7_takeKey : GoodIn wsX3_span wsX7_takeKey := goodIn_sub (List.forall_mem_cons.mpr ⟨(ip_wsX3_span__wsX3_span_r1 _ (List.mem_of_getElem? (i := 7) rfl)), (x_ap2 (x_ap2 (List.forall_mem_cons.mpr ⟨(ip_wsX3_span__wsX3_span_r1 _ (List.mem_of_getElem? (i := 8) rfl)), (List.forall_mem_cons.mpr ⟨(ip_wsX3_span__wsX3_span_r1 _ (List.mem_of_getElem? (i := 9) rfl)), (List.forall_mem_cons.mpr ⟨(ip_wsX3_span__wsX3_span_r1 _ (List.mem_of_getElem? (i := 10) rfl)), (List.forall_mem_cons.mpr ⟨(ip_wsX3_span__wsX3_span_r1 _ (List.mem_of_getElem? (i := 11) rfl)), (List.forall_mem_cons.mpr ⟨(ip_wsX3_span__wsX3_span_r1 _ (List.mem_of_getElem? (i := 12) rfl)), (List.forall_mem_cons.mpr ⟨(ip_wsX3_span__wsX3_span_r1 _ (List.mem_of_getElem? (i := 13) rfl)), (List.forall_mem_cons.mpr ⟨(ip_wsX3_span__wsX3_span_r1 _ (List.mem_of_getElem? (i := 14) rfl)), (List.forall_mem_cons.mpr ⟨(ip_wsX3_span__wsX3_span_r1 _ (List.mem_of_getElem? (i := 15) rfl)), (List.forall_mem_cons.mpr ⟨(ip_wsX3_span__wsX3_span_r1 _ (List.mem_of_getElem? (i := 16) rfl)), (List.forall_mem_cons.mpr ⟨(ip_wsX3_span__wsX3_span_r1 _ (List.mem_of_getElem? (i := 17) rfl)), (fun _ h => absurd h List.not_mem_nil)⟩)⟩)⟩)⟩)⟩)⟩)⟩)⟩)⟩)⟩) (fun _ h => (List.mem_cons_of_mem _ (List.mem_append_left _ (List.mem_append_right _ h))))) (fun _ h => (List.mem_cons_of_mem _ (List.mem_append_right _ h))))⟩) (by decide +kernel)
set_option maxRecDepth 20000 in
theorem gX3_span_X7_takeKey : GoodIn wsX3_span (wsV RX3 64 RX7 yX7_takeKey wsX7_takeKey) := goodIn_app (goodIn_of _ (by decide +kernel)) ggX3_span_X7_takeKey
set_option maxRecDepth 20000 in
theorem ggX3_span_X7_take : GoodIn wsX3_span wsX7_take := goodIn_sub (List.forall_mem_cons.mpr ⟨(ip_wsX3_span__wsX3_span_r1 _ (List.mem_of_getElem? (i := 21) rfl)), (x_ap2 (x_ap2 (List.forall_mem_cons.mpr ⟨(ip_wsX3_span__wsX3_span_r1 _ (List.mem_of_getElem? (i := 8) rfl)), (List.forall_mem_cons.mpr ⟨(ip_wsX3_span__wsX3_span_r1 _ (List.mem_of_getElem? (i := 11) rfl)), (List.forall_mem_cons.mpr ⟨(ip_wsX3_span__wsX3_span_r1 _ (List.mem_of_getElem? (i := 10) rfl)), (List.forall_mem_cons.mpr ⟨(ip_wsX3_span__wsX3_span_r1 _ (List.mem_of_getElem? (i := 9) rfl)), (List.forall_mem_cons.mpr ⟨(ip_wsX3_span__wsX3_span_r1 _ (List.mem_of_getElem? (i := 22) rfl)), (List.forall_mem_cons.mpr ⟨(ip_wsX3_span__wsX3_span_r1 _ (List.mem_of_getElem? (i := 23) rfl)), (List.forall_mem_cons.mpr ⟨(ip_wsX3_span__wsX3_span_r2 _ (List.mem_of_getElem? (i := 0) rfl)), (List.forall_mem_cons.mpr ⟨(ip_wsX3_span__wsX3_span_r1 _ (List.mem_of_getElem? (i := 15) rfl)), (List.forall_mem_cons.mpr ⟨(ip_wsX3_span__wsX3_span_r2 _ (List.mem_of_getElem? (i := 1) rfl)), (List.forall_mem_cons.mpr ⟨(ip_wsX3_span__wsX3_span_r1 _ (List.mem_of_getElem? (i := 17) rfl)), (fun _ h => absurd h List.not_mem_nil)⟩)⟩)⟩)⟩)⟩)⟩)⟩)⟩)⟩)⟩) (fun _ h => (List.mem_cons_of_mem _ (List.mem_append_left _ (List.mem_append_right _ h))))) (fun _ h => (List.mem_cons_of_mem _ (List.mem_append_right _ h))))⟩) (by decide +kernel)
set_option maxRecDepth 20000 in
theorem gX3_span_X7_take : GoodIn wsX3_span (wsV RX3 73 RX7 yX7_take wsX7_take) := goodIn_app (goodIn_of _ (by decide +kernel)) ggX3_span_X7_take
theorem dX3_span_0 : decode cX3_span 0 = .ok (.aload_n 0, 1) := by decide +kernel
theorem dX3_span_1 : decode cX3_span 1 = .ok (.getfield 27, 3) := by decide +kernel
theorem dX3_span_4 : decode cX3_span 4 = .ok (.iload_n 1, 1) := by decide +kernel
theorem dX3_span_5 : decode cX3_span 5 = .ok (.invokevirtual 64, 3) := by decide +kernel
theorem dX3_span_8 : decode cX3_span 8 = .ok (.aload_n 0, 1) := by decide +kernel
theorem dX3_span_9 : decode cX3_span 9 = .ok (.getfield 27, 3) := by decide +kernel
theorem dX3_span_12 : decode cX3_span 12 = .ok (.getfield 67, 3) := by decide +kernel
theorem dX3_span_15 : decode cX3_span 15 = .ok (.ifCond .eq 40, 3) := by decide +kernel
theorem dX3_span_18 : decode cX3_span 18 = .ok (.aload_n 0, 1) := by decide +kernel
theorem dX3_span_19 : decode cX3_span 19 = .ok (.getfield 20, 3) := by decide +kernel
theorem dX3_span_22 : decode cX3_span 22 = .ok (.iconst 1, 1) := by decide +kernel
theorem dX3_span_23 : decode cX3_span 23 = .ok (.iconst 0, 1) := by decide +kernel
theorem dX3_span_24 : decode cX3_span 24 = .ok (.aload_n 0, 1) := by decide +kernel
theorem dX3_span_25 : decode cX3_span 25 = .ok (.getfield 27, 3) := by decide +kernel
theorem dX3_span_28 : decode cX3_span 28 = .ok (.getfield 70, 3) := by decide +kernel
theorem dX3_span_31 : decode cX3_span 31 = .ok (.ineg, 1) := by decide +kernel
theorem dX3_span_32 : decode cX3_span 32 = .ok (.invokevirtual 73, 3) := by decide +kernel
theorem dX3_span_35 : decode cX3_span 35 = .ok (.aload_n 0, 1) := by decide +kernel
theorem dX3_span_36 : decode cX3_span 36 = .ok (.getfield 24, 3) := by decide +kernel
theorem dX3_span_39 : decode cX3_span 39 = .ok (.iconst 0, 1) := by decide +kernel
theorem dX3_span_40 : decode cX3_span 40 = .ok (.iconst 1, 1) := by decide +kernel
theorem dX3_span_41 : decode cX3_span 41 = .ok (.aload_n 0, 1) := by decide +kernel
theorem dX3_span_42 : decode cX3_span 42 = .ok (.getfield 27, 3) := by decide +kernel
theorem dX3_span_45 : decode cX3_span 45 = .ok (.getfield 77, 3) := by decide +kernel
theorem dX3_span_48 : decode cX3_span 48 = .ok (.ineg, 1) := by decide +kernel
theorem dX3_span_49 : decode cX3_span 49 = .ok (.invokevirtual 73, 3) := by decide +kernel
theorem dX3_span_52 : decode cX3_span 52 = .ok (.goto 63, 3) := by decide +kernel
theorem dX3_span_55 : decode cX3_span 55 = .ok (.aload_n 0, 1) := by decide +kernel
theorem dX3_span_56 : decode cX3_span 56 = .ok (.getfield 27, 3) := by decide +kernel
theorem dX3_span_59 : decode cX3_span 59 = .ok (.getfield 77, 3) := by decide +kernel
theorem dX3_span_62 : decode cX3_span 62 = .ok (.ifCond .eq 33, 3) := by decide +kernel
theorem dX3_span_65 : decode cX3_span 65 = .ok (.aload_n 0, 1) := by decide +kernel
theorem dX3_span_66 : decode cX3_span 66 = .ok (.getfield 20, 3) := by decide +kernel
theorem dX3_span_69 : decode cX3_span 69 = .ok (.iconst 1, 1) := by decide +kernel
theorem dX3_span_70 : decode cX3_span 70 = .ok (.aload_n 0, 1) := by decide +kernel
theorem dX3_span_71 : decode cX3_span 71 = .ok (.getfield 27, 3) := by decide +kernel
theorem dX3_span_74 : decode cX3_span 74 = .ok (.getfield 70, 3) := by decide +kernel
theorem dX3_span_77 : decode cX3_span 77 = .ok (.ineg, 1) := by decide +kernel
theorem dX3_span_78 : decode cX3_span 78 = .ok (.iconst 0, 1) := by decide +kernel
theorem dX3_span_79 : decode cX3_span 79 = .ok (.invokevirtual 73, 3) := by decide +kernel
theorem dX3_span_82 : decode cX3_span 82 = .ok (.aload_n 0, 1) := by decide +kernel
theorem dX3_span_83 : decode cX3_span 83 = .ok (.getfield 24, 3) := by decide +kernel
theorem dX3_span_86 : decode cX3_span 86 = .ok (.iconst 0, 1) := by decide +kernel
theorem dX3_span_87 : decode cX3_span 87 = .ok (.iconst 0, 1) := by decide +kernel
theorem dX3_span_88 : decode cX3_span 88 = .ok (.iconst 1, 1) := by decide +kernel
theorem dX3_span_89 : decode cX3_span 89 = .ok (.invokevirtual 73, 3) := by decide +kernel
theorem dX3_span_92 : decode cX3_span 92 = .ok (.goto 23, 3) := by decide +kernel
theorem dX3_span_95 : decode cX3_span 95 = .ok (.aload_n 0, 1) := by decide +kernel
theorem dX3_span_96 : decode cX3_span 96 = .ok (.getfield 20, 3) := by decide +kernel
theorem dX3_span_99 : decode cX3_span 99 = .ok (.iconst 0, 1) := by decide +kernel
theorem dX3_span_100 : decode cX3_span 100 = .ok (.iconst 1, 1) := by decide +kernel
theorem dX3_span_101 : decode cX3_span 101 = .ok (.iconst 0, 1) := by decide +kernel
theorem dX3_span_102 : decode cX3_span 102 = .ok (.invokevirtual 73, 3) := by decide +kernel
theorem dX3_span_105 : decode cX3_span 105 = .ok (.aload_n 0, 1) := by decide +kernel
theorem dX3_span_106 : decode cX3_span 106 = .ok (.getfield 24, 3) := by decide +kernel
theorem dX3_span_109 : decode cX3_span 109 = .ok (.iconst 0, 1) := by decide +kernel
theorem dX3_span_110 : decode cX3_span 110 = .ok (.iconst 0, 1) := by decide +kernel
theorem dX3_span_111 : decode cX3_span 111 = .ok (.iconst 1, 1) := by decide +kernel
theorem dX3_span_112 : decode cX3_span 112 = .ok (.invokevirtual 73, 3) := by decide +kernel
theorem dX3_span_115 : decode cX3_span 115 = .ok (.return_, 1) := by decide +kernel
theorem ip_wsX3_put__wsX3_put_r1 : ∀ w ∈ wsX3_put_r1, w ∈ wsX3_put := fun _ h => (List.mem_cons_of_mem _ (List.mem_append_left _ (List.mem_append_left _ (List.mem_append_left _ (List.mem_append_left _ h)))))
theorem ip_wsX3_put__wsX3_put_r2 : ∀ w ∈ wsX3_put_r2, w ∈ wsX3_put := fun _ h => (List.mem_cons_of_mem _ (List.mem_append_left _ (List.mem_append_left _ (List.mem_append_left _ (List.mem_append_right _ h)))))
set_option maxRecDepth 20000 in
theorem ggX3_put_X7_takeSum : GoodIn wsX3_put wsX7_takeSum := goodIn_sub (List.forall_mem_cons.mpr ⟨(ip_wsX3_put__wsX3_put_r1 _ (List.mem_of_getElem? (i := 10) rfl)), (x_ap2 (x_ap2 (List.forall_mem_cons.mpr ⟨(ip_wsX3_put__wsX3_put_r1 _ (List.mem_of_getElem? (i := 11) rfl)), (List.forall_mem_cons.mpr ⟨(ip_wsX3_put__wsX3_put_r1 _ (List.mem_of_getElem? (i := 12) rfl)), (List.forall_mem_cons.mpr ⟨(ip_wsX3_put__wsX3_put_r1 _ (List.mem_of_getElem? (i := 13) rfl)), (List.forall_mem_cons.mpr ⟨(ip_wsX3_put__wsX3_put_r1 _ (List.mem_of_getElem? (i := 14) rfl)), (List.forall_mem_cons.mpr ⟨(ip_wsX3_put__wsX3_put_r1 _ (List.mem_of_getElem? (i := 15) rfl)), (List.forall_mem_cons.mpr ⟨(ip_wsX3_put__wsX3_put_r1 _ (List.mem_of_getElem? (i := 16) rfl)), (List.forall_mem_cons.mpr ⟨(ip_wsX3_put__wsX3_put_r1 _ (List.mem_of_getElem? (i := 17) rfl)), (List.forall_mem_cons.mpr ⟨(ip_wsX3_put__wsX3_put_r1 _ (List.mem_of_getElem? (i := 18) rfl)), (List.forall_mem_cons.mpr ⟨(ip_wsX3_put__wsX3_put_r1 _ (List.mem_of_getElem? (i := 19) rfl)), (List.forall_mem_cons.mpr ⟨(ip_wsX3_put__wsX3_put_r1 _ (List.mem_of_getElem? (i := 20) rfl)), (fun _ h => absurd h List.not_mem_nil)⟩)⟩)⟩)⟩)⟩)⟩)⟩)⟩)⟩)⟩) (fun _ h => (List.mem_cons_of_mem _ (List.mem_append_left _ (List.mem_append_right _ h))))) (fun _ h => (List.mem_cons_of_mem _ (List.mem_append_right _ h))))⟩) (by decide +kernel)
set_option maxRecDepth 20000 in
theorem gX3_put_X7_takeSum : GoodIn wsX3_put (wsV RX3 80 RX7 yX7_takeSum wsX7_takeSum) := goodIn_app (goodIn_of _ (by decide +kernel)) ggX3_put_X7_takeSum
set_option maxRecDepth 20000 in
theorem ggX3_put_X7_key : GoodIn wsX3_put wsX7_key := goodIn_sub (List.forall_mem_cons.mpr ⟨(ip_wsX3_put__wsX3_put_r2 _ (List.mem_of_getElem? (i := 0) rfl)), (x_ap2 (x_ap2 (List.forall_mem_cons.mpr ⟨(ip_wsX3_put__wsX3_put_r1 _ (List.mem_of_getElem? (i := 11) rfl)), (List.forall_mem_cons.mpr ⟨(ip_wsX3_put__wsX3_put_r1 _ (List.mem_of_getElem? (i := 14) rfl)), (List.forall_mem_cons.mpr ⟨(ip_wsX3_put__wsX3_put_r1 _ (List.mem_of_getElem? (i := 13) rfl)), (List.forall_mem_cons.mpr ⟨(ip_wsX3_put__wsX3_put_r1 _ (List.mem_of_getElem? (i := 12) rfl)), (List.forall_mem_cons.mpr ⟨(ip_wsX3_put__wsX3_put_r2 _ (List.mem_of_getElem? (i := 1) rfl)), (List.forall_mem_cons.mpr ⟨(ip_wsX3_put__wsX3_put_r2 _ (List.mem_of_getElem? (i := 2) rfl)), (List.forall_mem_cons.mpr ⟨(ip_wsX3_put__wsX3_put_r2 _ (List.mem_of_getElem? (i := 3) rfl)), (List.forall_mem_cons.mpr ⟨(ip_wsX3_put__wsX3_put_r1 _ (List.mem_of_getElem? (i := 18) rfl)), (List.forall_mem_cons.mpr ⟨(ip_wsX3_put__wsX3_put_r2 _ (List.mem_of_getElem? (i := 4) rfl)), (List.forall_mem_cons.mpr ⟨(ip_wsX3_put__wsX3_put_r1 _ (List.mem_of_getElem? (i := 20) rfl)), (List.forall_mem_cons.mpr ⟨(ip_wsX3_put__wsX3_put_r2 _ (List.mem_of_getElem? (i := 5) rfl)), (List.forall_mem_cons.mpr ⟨(ip_wsX3_put__wsX3_put_r2 _ (List.mem_of_getElem? (i := 6) rfl)), (List.forall_mem_cons.mpr ⟨(ip_wsX3_put__wsX3_put_r2 _ (List.mem_of_getElem? (i := 7) rfl)), (List.forall_mem_cons.mpr ⟨(ip_wsX3_put__wsX3_put_r2 _ (List.mem_of_getElem? (i := 8) rfl)), (List.forall_mem_cons.mpr ⟨(ip_wsX3_put__wsX3_put_r2 _ (List.mem_of_getElem? (i := 9) rfl)), (List.forall_mem_cons.mpr ⟨(ip_wsX3_put__wsX3_put_r1 _ (List.mem_of_getElem? (i := 15) rfl)), (List.forall_mem_cons.mpr ⟨(ip_wsX3_put__wsX3_put_r1 _ (List.mem_of_getElem? (i := 16) rfl)), (List.forall_mem_cons.mpr ⟨(ip_wsX3_put__wsX3_put_r1 _ (List.mem_of_getElem? (i := 17) rfl)), (List.forall_mem_cons.mpr ⟨(ip_wsX3_put__wsX3_put_r1 _ (List.mem_of_getElem? (i := 19) rfl)), (fun _ h => absurd h List.not_mem_nil)⟩)⟩)⟩)⟩)⟩)⟩)⟩)⟩)⟩)⟩)⟩)⟩)⟩)⟩)⟩)⟩)⟩)⟩)⟩) (fun _ h => (List.mem_cons_of_mem _ (List.mem_append_left _ (List.mem_append_right _ h))))) (fun _ h => (List.mem_cons_of_mem _ (List.mem_append_right _ h))))⟩) (by decide +kernel)
set_option maxRecDepth 20000 in
theorem gX3_put_X7_key : GoodIn wsX3_put (wsV RX3 84 RX7 yX7_key wsX7_key) := goodIn_app (goodIn_of _ (by decide +kernel)) ggX3_put_X7_key
theorem dX3_put_0 : decode cX3_put 0 = .ok (.aload_n 0, 1) := by decide +kernel
theorem dX3_put_1 : decode cX3_put 1 = .ok (.getfield 27, 3) := by decide +kernel
theorem dX3_put_4 : decode cX3_put 4 = .ok (.iload_n 1, 1) := by decide +kernel
theorem dX3_put_5 : decode cX3_put 5 = .ok (.aload_n 0, 1) := by decide +kernel
theorem dX3_put_6 : decode cX3_put 6 = .ok (.getfield 20, 3) := by decide +kernel
theorem dX3_put_9 : decode cX3_put 9 = .ok (.iload_n 2, 1) := by decide +kernel
theorem dX3_put_10 : decode cX3_put 10 = .ok (.aload_n 0, 1) := by decide +kernel
theorem dX3_put_11 : decode cX3_put 11 = .ok (.getfield 24, 3) := by decide +kernel
theorem dX3_put_14 : decode cX3_put 14 = .ok (.invokevirtual 80, 3) := by decide +kernel
theorem dX3_put_17 : decode cX3_put 17 = .ok (.aload_n 0, 1) := by decide +kernel
theorem dX3_put_18 : decode cX3_put 18 = .ok (.getfield 27, 3) := by decide +kernel
theorem dX3_put_21 : decode cX3_put 21 = .ok (.invokevirtual 84, 3) := by decide +kernel
theorem dX3_put_24 : decode cX3_put 24 = .ok (.istore_n 3, 1) := by decide +kernel
theorem dX3_put_25 : decode cX3_put 25 = .ok (.aload_n 0, 1) := by decide +kernel
theorem dX3_put_26 : decode cX3_put 26 = .ok (.getfield 30, 3) := by decide +kernel
theorem dX3_put_29 : decode cX3_put 29 = .ok (.ifCond .ne 16, 3) := by decide +kernel
theorem dX3_put_32 : decode cX3_put 32 = .ok (.aload_n 0, 1) := by decide +kernel
theorem dX3_put_33 : decode cX3_put 33 = .ok (.iload_n 3, 1) := by decide +kernel
theorem dX3_put_34 : decode cX3_put 34 = .ok (.putfield 58, 3) := by decide +kernel
theorem dX3_put_37 : decode cX3_put 37 = .ok (.aload_n 0, 1) := by decide +kernel
theorem dX3_put_38 : decode cX3_put 38 = .ok (.iload_n 3, 1) := by decide +kernel
theorem dX3_put_39 : decode cX3_put 39 = .ok (.putfield 61, 3) := by decide +kernel
theorem dX3_put_42 : decode cX3_put 42 = .ok (.goto 24, 3) := by decide +kernel
theorem dX3_put_45 : decode cX3_put 45 = .ok (.iload_n 3, 1) := by decide +kernel
theorem dX3_put_46 : decode cX3_put 46 = .ok (.aload_n 0, 1) := by decide +kernel
theorem dX3_put_47 : decode cX3_put 47 = .ok (.getfield 58, 3) := by decide +kernel
theorem dX3_put_50 : decode cX3_put 50 = .ok (.if_icmp .ge 11, 3) := by decide +kernel
theorem dX3_put_53 : decode cX3_put 53 = .ok (.aload_n 0, 1) := by decide +kernel
theorem dX3_put_54 : decode cX3_put 54 = .ok (.iload_n 3, 1) := by decide +kernel
theorem dX3_put_55 : decode cX3_put 55 = .ok (.putfield 58, 3) := by decide +kernel
theorem dX3_put_58 : decode cX3_put 58 = .ok (.goto 8, 3) := by decide +kernel
theorem dX3_put_61 : decode cX3_put 61 = .ok (.aload_n 0, 1) := by decide +kernel
theorem dX3_put_62 : decode cX3_put 62 = .ok (.iload_n 3, 1) := by decide +kernel
theorem dX3_put_63 : decode cX3_put 63 = .ok (.putfield 61, 3) := by decide +kernel
theorem dX3_put_66 : decode cX3_put 66 = .ok (.aload_n 0, 1) := by decide +kernel
theorem dX3_put_67 : decode cX3_put 67 = .ok (.dup, 1) := by decide +kernel
theorem dX3_put_68 : decode cX3_put 68 = .ok (.getfield 30, 3) := by decide +kernel
theorem dX3_put_71 : decode cX3_put 71 = .ok (.iconst 1, 1) := by decide +kernel
theorem dX3_put_72 : decode cX3_put 72 = .ok (.iadd, 1) := by decide +kernel
theorem dX3_put_73 : decode cX3_put 73 = .ok (.putfield 30, 3) := by decide +kernel
theorem dX3_put_76 : decode cX3_put 76 = .ok (.return_, 1) := by decide +kernel
set_option maxRecDepth 20000 in
theorem ggX4_init_X4_take : GoodIn wsX4_init wsX4_take := goodIn_sub (List.forall_mem_cons.mpr ⟨(List.mem_cons_of_mem _ (List.mem_append_left _ (List.mem_of_getElem? (i := 10) rfl))), (x_ap2 (List.forall_mem_cons.mpr ⟨(List.mem_cons_of_mem _ (List.mem_append_left _ (List.mem_of_getElem? (i := 11) rfl))), (List.forall_mem_cons.mpr ⟨(List.mem_cons_of_mem _ (List.mem_append_left _ (List.mem_of_getElem? (i := 4) rfl))), (List.forall_mem_cons.mpr ⟨(List.mem_cons_of_mem _ (List.mem_append_left _ (List.mem_of_getElem? (i := 5) rfl))), (fun _ h => absurd h List.not_mem_nil)⟩)⟩)⟩) (fun _ h => (List.mem_cons_of_mem _ (List.mem_append_right _ h))))⟩) (by decide +kernel)
set_option maxRecDepth 20000 in
theorem gX4_init_X4_take : GoodIn wsX4_init (wsV RX4 18 RX4 yX4_take wsX4_take) := goodIn_app (goodIn_of _ (by decide +kernel)) ggX4_init_X4_take
theorem dX4_init_0 : decode cX4_init 0 = .ok (.aload_n 0, 1) := by decide +kernel
theorem dX4_init_1 : decode cX4_init 1 = .ok (.invokespecial 3, 3) := by decide +kernel
theorem dX4_init_4 : decode cX4_init 4 = .ok (.aload_n 0, 1) := by decide +kernel
theorem dX4_init_5 : decode cX4_init 5 = .ok (.sipush 200, 3) := by decide +kernel
theorem dX4_init_8 : decode cX4_init 8 = .ok (.newarray .int, 2) := by decide +kernel
theorem dX4_init_10 : decode cX4_init 10 = .ok (.putfield 9, 3) := by decide +kernel
theorem dX4_init_13 : decode cX4_init 13 = .ok (.aload_n 0, 1) := by decide +kernel
theorem dX4_init_14 : decode cX4_init 14 = .ok (.sipush 200, 3) := by decide +kernel
theorem dX4_init_17 : decode cX4_init 17 = .ok (.newarray .int, 2) := by decide +kernel
theorem dX4_init_19 : decode cX4_init 19 = .ok (.putfield 15, 3) := by decide +kernel
theorem dX4_init_22 : decode cX4_init 22 = .ok (.aload_n 0, 1) := by decide +kernel
theorem dX4_init_23 : decode cX4_init 23 = .ok (.iload_n 1, 1) := by decide +kernel
theorem dX4_init_24 : decode cX4_init 24 = .ok (.invokevirtual 18, 3) := by decide +kernel
theorem dX4_init_27 : decode cX4_init 27 = .ok (.return_, 1) := by decide +kernel
theorem dX4_take_0 : decode cX4_take 0 = .ok (.aload_n 0, 1) := by decide +kernel
theorem dX4_take_1 : decode cX4_take 1 = .ok (.iload_n 1, 1) := by decide +kernel
theorem dX4_take_2 : decode cX4_take 2 = .ok (.putfield 22, 3) := by decide +kernel
theorem dX4_take_5 : decode cX4_take 5 = .ok (.aload_n 0, 1) := by decide +kernel
theorem dX4_take_6 : decode cX4_take 6 = .ok (.getfield 9, 3) := by decide +kernel
theorem dX4_take_9 : decode cX4_take 9 = .ok (.iconst 1, 1) := by decide +kernel
theorem dX4_take_10 : decode cX4_take 10 = .ok (.iconst 1, 1) := by decide +kernel
theorem dX4_take_11 : decode cX4_take 11 = .ok (.iastore, 1) := by decide +kernel
theorem dX4_take_12 : decode cX4_take 12 = .ok (.iconst 2, 1) := by decide +kernel
theorem dX4_take_13 : decode cX4_take 13 = .ok (.istore_n 2, 1) := by decide +kernel
theorem dX4_take_14 : decode cX4_take 14 = .ok (.iload_n 2, 1) := by decide +kernel
theorem dX4_take_15 : decode cX4_take 15 = .ok (.aload_n 0, 1) := by decide +kernel
theorem dX4_take_16 : decode cX4_take 16 = .ok (.getfield 22, 3) := by decide +kernel
theorem dX4_take_19 : decode cX4_take 19 = .ok (.if_icmp .ge 43, 3) := by decide +kernel
theorem dX4_take_22 : decode cX4_take 22 = .ok (.aload_n 0, 1) := by decide +kernel
theorem dX4_take_23 : decode cX4_take 23 = .ok (.getfield 9, 3) := by decide +kernel
theorem dX4_take_26 : decode cX4_take 26 = .ok (.iload_n 2, 1) := by decide +kernel
theorem dX4_take_27 : decode cX4_take 27 = .ok (.aload_n 0, 1) := by decide +kernel
theorem dX4_take_28 : decode cX4_take 28 = .ok (.getfield 22, 3) := by decide +kernel
theorem dX4_take_31 : decode cX4_take 31 = .ok (.aload_n 0, 1) := by decide +kernel
theorem dX4_take_32 : decode cX4_take 32 = .ok (.getfield 22, 3) := by decide +kernel
theorem dX4_take_35 : decode cX4_take 35 = .ok (.iload_n 2, 1) := by decide +kernel
theorem dX4_take_36 : decode cX4_take 36 = .ok (.idiv, 1) := by decide +kernel
theorem dX4_take_37 : decode cX4_take 37 = .ok (.aload_n 0, 1) := by decide +kernel
theorem dX4_take_38 : decode cX4_take 38 = .ok (.getfield 9, 3) := by decide +kernel
theorem dX4_take_41 : decode cX4_take 41 = .ok (.aload_n 0, 1) := by decide +kernel
theorem dX4_take_42 : decode cX4_take 42 = .ok (.getfield 22, 3) := by decide +kernel
theorem dX4_take_45 : decode cX4_take 45 = .ok (.iload_n 2, 1) := by decide +kernel
theorem dX4_take_46 : decode cX4_take 46 = .ok (.irem, 1) := by decide +kernel
theorem dX4_take_47 : decode cX4_take 47 = .ok (.iaload, 1) := by decide +kernel
theorem dX4_take_48 : decode cX4_take 48 = .ok (.imul, 1) := by decide +kernel
theorem dX4_take_49 : decode cX4_take 49 = .ok (.aload_n 0, 1) := by decide +kernel
theorem dX4_take_50 : decode cX4_take 50 = .ok (.getfield 22, 3) := by decide +kernel
theorem dX4_take_53 : decode cX4_take 53 = .ok (.irem, 1) := by decide +kernel
theorem dX4_take_54 : decode cX4_take 54 = .ok (.isub, 1) := by decide +kernel
theorem dX4_take_55 : decode cX4_take 55 = .ok (.iastore, 1) := by decide +kernel
theorem dX4_take_56 : decode cX4_take 56 = .ok (.iinc 2 1, 3) := by decide +kernel
theorem dX4_take_59 : decode cX4_take 59 = .ok (.goto (-45), 3) := by decide +kernel
theorem dX4_take_62 : decode cX4_take 62 = .ok (.iconst 0, 1) := by decide +kernel
theorem dX4_take_63 : decode cX4_take 63 = .ok (.istore_n 2, 1) := by decide +kernel
theorem dX4_take_64 : decode cX4_take 64 = .ok (.iload_n 2, 1) := by decide +kernel
theorem dX4_take_65 : decode cX4_take 65 = .ok (.aload_n 0, 1) := by decide +kernel
theorem dX4_take_66 : decode cX4_take 66 = .ok (.getfield 22, 3) := by decide +kernel
theorem dX4_take_69 : decode cX4_take 69 = .ok (.if_icmp .ge 17, 3) := by decide +kernel
theorem dX4_take_72 : decode cX4_take 72 = .ok (.aload_n 0, 1) := by decide +kernel
theorem dX4_take_73 : decode cX4_take 73 = .ok (.getfield 15, 3) := by decide +kernel
theorem dX4_take_76 : decode cX4_take 76 = .ok (.iload_n 2, 1) := by decide +kernel
theorem dX4_take_77 : decode cX4_take 77 = .ok (.bipush (-6), 2) := by decide +kernel
theorem dX4_take_79 : decode cX4_take 79 = .ok (.iastore, 1) := by decide +kernel
theorem dX4_take_80 : decode cX4_take 80 = .ok (.iinc 2 1, 3) := by decide +kernel
theorem dX4_take_83 : decode cX4_take 83 = .ok (.goto (-19), 3) := by decide +kernel
theorem dX4_take_86 : decode cX4_take 86 = .ok (.iconst 0, 1) := by decide +kernel
theorem dX4_take_87 : decode cX4_take 87 = .ok (.istore_n 2, 1) := by decide +kernel
theorem dX4_take_88 : decode cX4_take 88 = .ok (.iload_n 2, 1) := by decide +kernel
theorem dX4_take_89 : decode cX4_take 89 = .ok (.aload_n 0, 1) := by decide +kernel
theorem dX4_take_90 : decode cX4_take 90 = .ok (.getfield 22, 3) := by decide +kernel
theorem dX4_take_93 : decode cX4_take 93 = .ok (.iconst 2, 1) := by decide +kernel
theorem dX4_take_94 : decode cX4_take 94 = .ok (.idiv, 1) := by decide +kernel
theorem dX4_take_95 : decode cX4_take 95 = .ok (.if_icmp .gt 23, 3) := by decide +kernel
theorem dX4_take_98 : decode cX4_take 98 = .ok (.aload_n 0, 1) := by decide +kernel
theorem dX4_take_99 : decode cX4_take 99 = .ok (.getfield 15, 3) := by decide +kernel
theorem dX4_take_102 : decode cX4_take 102 = .ok (.iload_n 2, 1) := by decide +kernel
theorem dX4_take_103 : decode cX4_take 103 = .ok (.iload_n 2, 1) := by decide +kernel
theorem dX4_take_104 : decode cX4_take 104 = .ok (.imul, 1) := by decide +kernel
theorem dX4_take_105 : decode cX4_take 105 = .ok (.aload_n 0, 1) := by decide +kernel
theorem dX4_take_106 : decode cX4_take 106 = .ok (.getfield 22, 3) := by decide +kernel
theorem dX4_take_109 : decode cX4_take 109 = .ok (.irem, 1) := by decide +kernel
theorem dX4_take_110 : decode cX4_take 110 = .ok (.iload_n 2, 1) := by decide +kernel
theorem dX4_take_111 : decode cX4_take 111 = .ok (.iastore, 1) := by decide +kernel
theorem dX4_take_112 : decode cX4_take 112 = .ok (.iinc 2 1, 3) := by decide +kernel
theorem dX4_take_115 : decode cX4_take 115 = .ok (.goto (-27), 3) := by decide +kernel
theorem dX4_take_118 : decode cX4_take 118 = .ok (.return_, 1) := by decide +kernel
theorem dX4_prime_0 : decode cX4_prime 0 = .ok (.aload_n 0, 1) := by decide +kernel
theorem dX4_prime_1 : decode cX4_prime 1 = .ok (.getfield 22, 3) := by decide +kernel
theorem dX4_prime_4 : decode cX4_prime 4 = .ok (.ireturn, 1) := by decide +kernel
theorem dX4_has_0 : decode cX4_has 0 = .ok (.iload_n 1, 1) := by decide +kernel
theorem dX4_has_1 : decode cX4_has 1 = .ok (.ifCond .lt 15, 3) := by decide +kernel
theorem dX4_has_4 : decode cX4_has 4 = .ok (.iload_n 1, 1) := by decide +kernel
theorem dX4_has_5 : decode cX4_has 5 = .ok (.aload_n 0, 1) := by decide +kernel
theorem dX4_has_6 : decode cX4_has 6 = .ok (.getfield 22, 3) := by decide +kernel
theorem dX4_has_9 : decode cX4_has 9 = .ok (.if_icmp .ge 7, 3) := by decide +kernel
theorem dX4_has_12 : decode cX4_has 12 = .ok (.iconst 1, 1) := by decide +kernel
theorem dX4_has_13 : decode cX4_has 13 = .ok (.goto 4, 3) := by decide +kernel
theorem dX4_has_16 : decode cX4_has 16 = .ok (.iconst 0, 1) := by decide +kernel
theorem dX4_has_17 : decode cX4_has 17 = .ok (.ireturn, 1) := by decide +kernel
theorem dX4_rest_0 : decode cX4_rest 0 = .ok (.iload_n 1, 1) := by decide +kernel
theorem dX4_rest_1 : decode cX4_rest 1 = .ok (.aload_n 0, 1) := by decide +kernel
theorem dX4_rest_2 : decode cX4_rest 2 = .ok (.getfield 22, 3) := by decide +kernel
theorem dX4_rest_5 : decode cX4_rest 5 = .ok (.irem, 1) := by decide +kernel
theorem dX4_rest_6 : decode cX4_rest 6 = .ok (.istore_n 2, 1) := by decide +kernel
theorem dX4_rest_7 : decode cX4_rest 7 = .ok (.iload_n 2, 1) := by decide +kernel
theorem dX4_rest_8 : decode cX4_rest 8 = .ok (.ifCond .ge 12, 3) := by decide +kernel
theorem dX4_rest_11 : decode cX4_rest 11 = .ok (.iload_n 2, 1) := by decide +kernel
theorem dX4_rest_12 : decode cX4_rest 12 = .ok (.aload_n 0, 1) := by decide +kernel
theorem dX4_rest_13 : decode cX4_rest 13 = .ok (.getfield 22, 3) := by decide +kernel
theorem dX4_rest_16 : decode cX4_rest 16 = .ok (.iadd, 1) := by decide +kernel
theorem dX4_rest_17 : decode cX4_rest 17 = .ok (.goto 4, 3) := by decide +kernel
theorem dX4_rest_20 : decode cX4_rest 20 = .ok (.iload_n 2, 1) := by decide +kernel
theorem dX4_rest_21 : decode cX4_rest 21 = .ok (.ireturn, 1) := by decide +kernel
theorem dX4_inverseOf_0 : decode cX4_inverseOf 0 = .ok (.iload_n 1, 1) := by decide +kernel
theorem dX4_inverseOf_1 : decode cX4_inverseOf 1 = .ok (.ifCond .le 20, 3) := by decide +kernel
theorem dX4_inverseOf_4 : decode cX4_inverseOf 4 = .ok (.iload_n 1, 1) := by decide +kernel
theorem dX4_inverseOf_5 : decode cX4_inverseOf 5 = .ok (.aload_n 0, 1) := by decide +kernel
theorem dX4_inverseOf_6 : decode cX4_inverseOf 6 = .ok (.getfield 22, 3) := by decide +kernel
theorem dX4_inverseOf_9 : decode cX4_inverseOf 9 = .ok (.if_icmp .ge 12, 3) := by decide +kernel
theorem dX4_inverseOf_12 : decode cX4_inverseOf 12 = .ok (.aload_n 0, 1) := by decide +kernel
theorem dX4_inverseOf_13 : decode cX4_inverseOf 13 = .ok (.getfield 9, 3) := by decide +kernel
theorem dX4_inverseOf_16 : decode cX4_inverseOf 16 = .ok (.iload_n 1, 1) := by decide +kernel
theorem dX4_inverseOf_17 : decode cX4_inverseOf 17 = .ok (.iaload, 1) := by decide +kernel
theorem dX4_inverseOf_18 : decode cX4_inverseOf 18 = .ok (.goto 4, 3) := by decide +kernel
theorem dX4_inverseOf_21 : decode cX4_inverseOf 21 = .ok (.iconst 0, 1) := by decide +kernel
theorem dX4_inverseOf_22 : decode cX4_inverseOf 22 = .ok (.ireturn, 1) := by decide +kernel
set_option maxRecDepth 20000 in
theorem ggX4_rootOf_X4_rest : GoodIn wsX4_rootOf wsX4_rest := goodIn_sub (List.forall_mem_cons.mpr ⟨(List.mem_cons_of_mem _ (List.mem_append_left _ (List.mem_of_getElem? (i := 5) rfl))), (x_ap2 (List.forall_mem_cons.mpr ⟨(List.mem_cons_of_mem _ (List.mem_append_left _ (List.mem_of_getElem? (i := 6) rfl))), (fun _ h => absurd h List.not_mem_nil)⟩) (fun _ h => (List.mem_cons_of_mem _ (List.mem_append_right _ h))))⟩) (by decide +kernel)
set_option maxRecDepth 20000 in
theorem gX4_rootOf_X4_rest : GoodIn wsX4_rootOf (wsV RX4 26 RX4 yX4_rest wsX4_rest) := goodIn_app (goodIn_of _ (by decide +kernel)) ggX4_rootOf_X4_rest
theorem dX4_rootOf_0 : decode cX4_rootOf 0 = .ok (.aload_n 0, 1) := by decide +kernel
theorem dX4_rootOf_1 : decode cX4_rootOf 1 = .ok (.getfield 15, 3) := by decide +kernel
theorem dX4_rootOf_4 : decode cX4_rootOf 4 = .ok (.aload_n 0, 1) := by decide +kernel
theorem dX4_rootOf_5 : decode cX4_rootOf 5 = .ok (.iload_n 1, 1) := by decide +kernel
theorem dX4_rootOf_6 : decode cX4_rootOf 6 = .ok (.invokevirtual 26, 3) := by decide +kernel
theorem dX4_rootOf_9 : decode cX4_rootOf 9 = .ok (.iaload, 1) := by decide +kernel
theorem dX4_rootOf_10 : decode cX4_rootOf 10 = .ok (.ireturn, 1) := by decide +kernel
theorem ip_wsX5_init__wsX5_init_r1 : ∀ w ∈ wsX5_init_r1, w ∈ wsX5_init := fun _ h => (List.mem_cons_of_mem _ (List.mem_append_left _ (List.mem_append_left _ (List.mem_append_left _ (List.mem_append_left _ h)))))
theorem ip_wsX5_init__wsX5_init_r2 : ∀ w ∈ wsX5_init_r2, w ∈ wsX5_init := fun _ h => (List.mem_cons_of_mem _ (List.mem_append_left _ (List.mem_append_left _ (List.mem_append_left _ (List.mem_append_right _ h)))))
set_option maxRecDepth 20000 in
theorem ggX5_init_X3_init : GoodIn wsX5_init wsX3_init := goodIn_sub (List.forall_mem_cons.mpr ⟨(ip_wsX5_init__wsX5_init_r2 _ (List.mem_of_getElem? (i := 1) rfl)), (x_ap2 (x_ap2 (List.forall_mem_cons.mpr ⟨(ip_wsX5_init__wsX5_init_r2 _ (List.mem_of_getElem? (i := 2) rfl)), (List.forall_mem_cons.mpr ⟨(ip_wsX5_init__wsX5_init_r1 _ (List.mem_of_getElem? (i := 1) rfl)), (List.forall_mem_cons.mpr ⟨(ip_wsX5_init__wsX5_init_r1 _ (List.mem_of_getElem? (i := 2) rfl)), (List.forall_mem_cons.mpr ⟨(ip_wsX5_init__wsX5_init_r2 _ (List.mem_of_getElem? (i := 3) rfl)), (List.forall_mem_cons.mpr ⟨(ip_wsX5_init__wsX5_init_r2 _ (List.mem_of_getElem? (i := 4) rfl)), (List.forall_mem_cons.mpr ⟨(ip_wsX5_init__wsX5_init_r1 _ (List.mem_of_getElem? (i := 20) rfl)), (List.forall_mem_cons.mpr ⟨(ip_wsX5_init__wsX5_init_r1 _ (List.mem_of_getElem? (i := 21) rfl)), (List.forall_mem_cons.mpr ⟨(ip_wsX5_init__wsX5_init_r2 _ (List.mem_of_getElem? (i := 5) rfl)), (List.forall_mem_cons.mpr ⟨(ip_wsX5_init__wsX5_init_r2 _ (List.mem_of_getElem? (i := 6) rfl)), (List.forall_mem_cons.mpr ⟨(ip_wsX5_init__wsX5_init_r2 _ (List.mem_of_getElem? (i := 7) rfl)), (List.forall_mem_cons.mpr ⟨(ip_wsX5_init__wsX5_init_r2 _ (List.mem_of_getElem? (i := 8) rfl)), (List.forall_mem_cons.mpr ⟨(ip_wsX5_init__wsX5_init_r2 _ (List.mem_of_getElem? (i := 9) rfl)), (List.forall_mem_cons.mpr ⟨(ip_wsX5_init__wsX5_init_r2 _ (List.mem_of_getElem? (i := 10) rfl)), (List.forall_mem_cons.mpr ⟨(ip_wsX5_init__wsX5_init_r2 _ (List.mem_of_getElem? (i := 11) rfl)), (List.forall_mem_cons.mpr ⟨(ip_wsX5_init__wsX5_init_r2 _ (List.mem_of_getElem? (i := 12) rfl)), (fun _ h => absurd h List.not_mem_nil)⟩)⟩)⟩)⟩)⟩)⟩)⟩)⟩)⟩)⟩)⟩)⟩)⟩)⟩)⟩) (fun _ h => (List.mem_cons_of_mem _ (List.mem_append_left _ (List.mem_append_right _ h))))) (fun _ h => (List.mem_cons_of_mem _ (List.mem_append_right _ h))))⟩) (by decide +kernel)
set_option maxRecDepth 20000 in
theorem gX5_init_X3_init : GoodIn wsX5_init (wsX3_init) := ggX5_init_X3_init
set_option maxRecDepth 20000 in
theorem ggX5_init_X7_init : GoodIn wsX5_init wsX7_init := goodIn_sub (List.forall_mem_cons.mpr ⟨(ip_wsX5_init__wsX5_init_r2 _ (List.mem_of_getElem? (i := 10) rfl)), (x_ap2 (List.forall_mem_cons.mpr ⟨(ip_wsX5_init__wsX5_init_r2 _ (List.mem_of_getElem? (i := 11) rfl)), (List.forall_mem_cons.mpr ⟨(ip_wsX5_init__wsX5_init_r1 _ (List.mem_of_getElem? (i := 1) rfl)), (List.forall_mem_cons.mpr ⟨(ip_wsX5_init__wsX5_init_r1 _ (List.mem_of_getElem? (i := 2) rfl)), (List.forall_mem_cons.mpr ⟨(ip_wsX5_init__wsX5_init_r2 _ (List.mem_of_getElem? (i := 12) rfl)), (fun _ h => absurd h List.not_mem_nil)⟩)⟩)⟩)⟩) (fun _ h => (List.mem_cons_of_mem _ (List.mem_append_right _ h))))⟩) (by decide +kernel)
set_option maxRecDepth 20000 in
theorem gX5_init_X7_init : GoodIn wsX5_init (wsX7_init) := ggX5_init_X7_init
theorem dX5_init_0 : decode cX5_init 0 = .ok (.aload_n 0, 1) := by decide +kernel
theorem dX5_init_1 : decode cX5_init 1 = .ok (.invokespecial 5, 3) := by decide +kernel
theorem dX5_init_4 : decode cX5_init 4 = .ok (.aload_n 0, 1) := by decide +kernel
theorem dX5_init_5 : decode cX5_init 5 = .ok (.sipush 200, 3) := by decide +kernel
theorem dX5_init_8 : decode cX5_init 8 = .ok (.newarray .int, 2) := by decide +kernel
theorem dX5_init_10 : decode cX5_init 10 = .ok (.putfield 11, 3) := by decide +kernel
theorem dX5_init_13 : decode cX5_init 13 = .ok (.aload_n 0, 1) := by decide +kernel
theorem dX5_init_14 : decode cX5_init 14 = .ok (.sipush 201, 3) := by decide +kernel
theorem dX5_init_17 : decode cX5_init 17 = .ok (.newarray .int, 2) := by decide +kernel
theorem dX5_init_19 : decode cX5_init 19 = .ok (.putfield 15, 3) := by decide +kernel
theorem dX5_init_22 : decode cX5_init 22 = .ok (.aload_n 0, 1) := by decide +kernel
theorem dX5_init_23 : decode cX5_init 23 = .ok (.sipush 400, 3) := by decide +kernel
theorem dX5_init_26 : decode cX5_init 26 = .ok (.newarray .int, 2) := by decide +kernel
theorem dX5_init_28 : decode cX5_init 28 = .ok (.putfield 18, 3) := by decide +kernel
theorem dX5_init_31 : decode cX5_init 31 = .ok (.aload_n 0, 1) := by decide +kernel
theorem dX5_init_32 : decode cX5_init 32 = .ok (.sipush 400, 3) := by decide +kernel
theorem dX5_init_35 : decode cX5_init 35 = .ok (.newarray .int, 2) := by decide +kernel
theorem dX5_init_37 : decode cX5_init 37 = .ok (.putfield 21, 3) := by decide +kernel
theorem dX5_init_40 : decode cX5_init 40 = .ok (.aload_n 0, 1) := by decide +kernel
theorem dX5_init_41 : decode cX5_init 41 = .ok (.sipush 400, 3) := by decide +kernel
theorem dX5_init_44 : decode cX5_init 44 = .ok (.newarray .int, 2) := by decide +kernel
theorem dX5_init_46 : decode cX5_init 46 = .ok (.putfield 24, 3) := by decide +kernel
theorem dX5_init_49 : decode cX5_init 49 = .ok (.aload_n 0, 1) := by decide +kernel
theorem dX5_init_50 : decode cX5_init 50 = .ok (.sipush 400, 3) := by decide +kernel
theorem dX5_init_53 : decode cX5_init 53 = .ok (.newarray .int, 2) := by decide +kernel
theorem dX5_init_55 : decode cX5_init 55 = .ok (.putfield 27, 3) := by decide +kernel
theorem dX5_init_58 : decode cX5_init 58 = .ok (.aload_n 0, 1) := by decide +kernel
theorem dX5_init_59 : decode cX5_init 59 = .ok (.sipush 400, 3) := by decide +kernel
theorem dX5_init_62 : decode cX5_init 62 = .ok (.newarray .int, 2) := by decide +kernel
theorem dX5_init_64 : decode cX5_init 64 = .ok (.putfield 30, 3) := by decide +kernel
theorem dX5_init_67 : decode cX5_init 67 = .ok (.aload_n 0, 1) := by decide +kernel
theorem dX5_init_68 : decode cX5_init 68 = .ok (.sipush 400, 3) := by decide +kernel
theorem dX5_init_71 : decode cX5_init 71 = .ok (.newarray .int, 2) := by decide +kernel
theorem dX5_init_73 : decode cX5_init 73 = .ok (.putfield 33, 3) := by decide +kernel
theorem dX5_init_76 : decode cX5_init 76 = .ok (.aload_n 0, 1) := by decide +kernel
theorem dX5_init_77 : decode cX5_init 77 = .ok (.sipush 400, 3) := by decide +kernel
theorem dX5_init_80 : decode cX5_init 80 = .ok (.newarray .int, 2) := by decide +kernel
theorem dX5_init_82 : decode cX5_init 82 = .ok (.putfield 36, 3) := by decide +kernel
theorem dX5_init_85 : decode cX5_init 85 = .ok (.aload_n 0, 1) := by decide +kernel
theorem dX5_init_86 : decode cX5_init 86 = .ok (.sipush 400, 3) := by decide +kernel
theorem dX5_init_89 : decode cX5_init 89 = .ok (.newarray .int, 2) := by decide +kernel
theorem dX5_init_91 : decode cX5_init 91 = .ok (.putfield 39, 3) := by decide +kernel
theorem dX5_init_94 : decode cX5_init 94 = .ok (.aload_n 0, 1) := by decide +kernel
theorem dX5_init_95 : decode cX5_init 95 = .ok (.aload_n 1, 1) := by decide +kernel
theorem dX5_init_96 : decode cX5_init 96 = .ok (.putfield 42, 3) := by decide +kernel
theorem dX5_init_99 : decode cX5_init 99 = .ok (.aload_n 0, 1) := by decide +kernel
theorem dX5_init_100 : decode cX5_init 100 = .ok (.new 46, 3) := by decide +kernel
theorem dX5_init_103 : decode cX5_init 103 = .ok (.dup, 1) := by decide +kernel
theorem dX5_init_104 : decode cX5_init 104 = .ok (.aload_n 1, 1) := by decide +kernel
theorem dX5_init_105 : decode cX5_init 105 = .ok (.invokespecial 48, 3) := by decide +kernel
theorem dX5_init_108 : decode cX5_init 108 = .ok (.putfield 51, 3) := by decide +kernel
theorem dX5_init_111 : decode cX5_init 111 = .ok (.aload_n 0, 1) := by decide +kernel
theorem dX5_init_112 : decode cX5_init 112 = .ok (.new 55, 3) := by decide +kernel
theorem dX5_init_115 : decode cX5_init 115 = .ok (.dup, 1) := by decide +kernel
theorem dX5_init_116 : decode cX5_init 116 = .ok (.aload_n 1, 1) := by decide +kernel
theorem dX5_init_117 : decode cX5_init 117 = .ok (.invokespecial 57, 3) := by decide +kernel
theorem dX5_init_120 : decode cX5_init 120 = .ok (.putfield 58, 3) := by decide +kernel
theorem dX5_init_123 : decode cX5_init 123 = .ok (.return_, 1) := by decide +kernel
theorem dX5_countPoints_0 : decode cX5_countPoints 0 = .ok (.aload_n 0, 1) := by decide +kernel
theorem dX5_countPoints_1 : decode cX5_countPoints 1 = .ok (.getfield 62, 3) := by decide +kernel
theorem dX5_countPoints_4 : decode cX5_countPoints 4 = .ok (.ireturn, 1) := by decide +kernel
theorem dX5_countFlags_0 : decode cX5_countFlags 0 = .ok (.aload_n 0, 1) := by decide +kernel
theorem dX5_countFlags_1 : decode cX5_countFlags 1 = .ok (.getfield 66, 3) := by decide +kernel
theorem dX5_countFlags_4 : decode cX5_countFlags 4 = .ok (.ireturn, 1) := by decide +kernel
theorem dX5_countRings_0 : decode cX5_countRings 0 = .ok (.aload_n 0, 1) := by decide +kernel
theorem dX5_countRings_1 : decode cX5_countRings 1 = .ok (.getfield 69, 3) := by decide +kernel
theorem dX5_countRings_4 : decode cX5_countRings 4 = .ok (.ireturn, 1) := by decide +kernel
theorem dX5_hasPoint_0 : decode cX5_hasPoint 0 = .ok (.iload_n 1, 1) := by decide +kernel
theorem dX5_hasPoint_1 : decode cX5_hasPoint 1 = .ok (.ifCond .lt 15, 3) := by decide +kernel
theorem dX5_hasPoint_4 : decode cX5_hasPoint 4 = .ok (.iload_n 1, 1) := by decide +kernel
theorem dX5_hasPoint_5 : decode cX5_hasPoint 5 = .ok (.aload_n 0, 1) := by decide +kernel
theorem dX5_hasPoint_6 : decode cX5_hasPoint 6 = .ok (.getfield 62, 3) := by decide +kernel
theorem dX5_hasPoint_9 : decode cX5_hasPoint 9 = .ok (.if_icmp .ge 7, 3) := by decide +kernel
theorem dX5_hasPoint_12 : decode cX5_hasPoint 12 = .ok (.iconst 1, 1) := by decide +kernel
theorem dX5_hasPoint_13 : decode cX5_hasPoint 13 = .ok (.goto 4, 3) := by decide +kernel
theorem dX5_hasPoint_16 : decode cX5_hasPoint 16 = .ok (.iconst 0, 1) := by decide +kernel
theorem dX5_hasPoint_17 : decode cX5_hasPoint 17 = .ok (.ireturn, 1) := by decide +kernel
theorem dX5_hasFlag_0 : decode cX5_hasFlag 0 = .ok (.iload_n 1, 1) := by decide +kernel
theorem dX5_hasFlag_1 : decode cX5_hasFlag 1 = .ok (.ifCond .lt 15, 3) := by decide +kernel
theorem dX5_hasFlag_4 : decode cX5_hasFlag 4 = .ok (.iload_n 1, 1) := by decide +kernel
theorem dX5_hasFlag_5 : decode cX5_hasFlag 5 = .ok (.aload_n 0, 1) := by decide +kernel
theorem dX5_hasFlag_6 : decode cX5_hasFlag 6 = .ok (.getfield 66, 3) := by decide +kernel
theorem dX5_hasFlag_9 : decode cX5_hasFlag 9 = .ok (.if_icmp .ge 7, 3) := by decide +kernel
theorem dX5_hasFlag_12 : decode cX5_hasFlag 12 = .ok (.iconst 1, 1) := by decide +kernel
theorem dX5_hasFlag_13 : decode cX5_hasFlag 13 = .ok (.goto 4, 3) := by decide +kernel
theorem dX5_hasFlag_16 : decode cX5_hasFlag 16 = .ok (.iconst 0, 1) := by decide +kernel
theorem dX5_hasFlag_17 : decode cX5_hasFlag 17 = .ok (.ireturn, 1) := by decide +kernel
set_option maxRecDepth 20000 in
theorem ggX5_pointKey_X5_hasPoint : GoodIn wsX5_pointKey wsX5_hasPoint := goodIn_sub (List.forall_mem_cons.mpr ⟨(List.mem_cons_of_mem _ (List.mem_append_left _ (List.mem_of_getElem? (i := 5) rfl))), (x_ap2 (List.forall_mem_cons.mpr ⟨(List.mem_cons_of_mem _ (List.mem_append_left _ (List.mem_of_getElem? (i := 6) rfl))), (fun _ h => absurd h List.not_mem_nil)⟩) (fun _ h => (List.mem_cons_of_mem _ (List.mem_append_right _ h))))⟩) (by decide +kernel)
set_option maxRecDepth 20000 in
theorem gX5_pointKey_X5_hasPoint : GoodIn wsX5_pointKey (wsV RX5 72 RX5 yX5_hasPoint wsX5_hasPoint) := goodIn_app (goodIn_of _ (by decide +kernel)) ggX5_pointKey_X5_hasPoint
theorem dX5_pointKey_0 : decode cX5_pointKey 0 = .ok (.aload_n 0, 1) := by decide +kernel
theorem dX5_pointKey_1 : decode cX5_pointKey 1 = .ok (.iload_n 1, 1) := by decide +kernel
theorem dX5_pointKey_2 : decode cX5_pointKey 2 = .ok (.invokevirtual 72, 3) := by decide +kernel
theorem dX5_pointKey_5 : decode cX5_pointKey 5 = .ok (.ifCond .eq 12, 3) := by decide +kernel
theorem dX5_pointKey_8 : decode cX5_pointKey 8 = .ok (.aload_n 0, 1) := by decide +kernel
theorem dX5_pointKey_9 : decode cX5_pointKey 9 = .ok (.getfield 11, 3) := by decide +kernel
theorem dX5_pointKey_12 : decode cX5_pointKey 12 = .ok (.iload_n 1, 1) := by decide +kernel
theorem dX5_pointKey_13 : decode cX5_pointKey 13 = .ok (.iaload, 1) := by decide +kernel
theorem dX5_pointKey_14 : decode cX5_pointKey 14 = .ok (.goto 4, 3) := by decide +kernel
theorem dX5_pointKey_17 : decode cX5_pointKey 17 = .ok (.iconst (-1), 1) := by decide +kernel
theorem dX5_pointKey_18 : decode cX5_pointKey 18 = .ok (.ireturn, 1) := by decide +kernel
set_option maxRecDepth 20000 in
theorem ggX5_countFlagsAt_X5_hasPoint : GoodIn wsX5_countFlagsAt wsX5_hasPoint := goodIn_sub (List.forall_mem_cons.mpr ⟨(List.mem_cons_of_mem _ (List.mem_append_left _ (List.mem_of_getElem? (i := 5) rfl))), (x_ap2 (List.forall_mem_cons.mpr ⟨(List.mem_cons_of_mem _ (List.mem_append_left _ (List.mem_of_getElem? (i := 6) rfl))), (fun _ h => absurd h List.not_mem_nil)⟩) (fun _ h => (List.mem_cons_of_mem _ (List.mem_append_right _ h))))⟩) (by decide +kernel)
set_option maxRecDepth 20000 in
theorem gX5_countFlagsAt_X5_hasPoint : GoodIn wsX5_countFlagsAt (wsV RX5 72 RX5 yX5_hasPoint wsX5_hasPoint) := goodIn_app (goodIn_of _ (by decide +kernel)) ggX5_countFlagsAt_X5_hasPoint
theorem dX5_countFlagsAt_0 : decode cX5_countFlagsAt 0 = .ok (.aload_n 0, 1) := by decide +kernel
theorem dX5_countFlagsAt_1 : decode cX5_countFlagsAt 1 = .ok (.iload_n 1, 1) := by decide +kernel
theorem dX5_countFlagsAt_2 : decode cX5_countFlagsAt 2 = .ok (.invokevirtual 72, 3) := by decide +kernel
theorem dX5_countFlagsAt_5 : decode cX5_countFlagsAt 5 = .ok (.ifCond .eq 21, 3) := by decide +kernel
theorem dX5_countFlagsAt_8 : decode cX5_countFlagsAt 8 = .ok (.aload_n 0, 1) := by decide +kernel
theorem dX5_countFlagsAt_9 : decode cX5_countFlagsAt 9 = .ok (.getfield 15, 3) := by decide +kernel
theorem dX5_countFlagsAt_12 : decode cX5_countFlagsAt 12 = .ok (.iload_n 1, 1) := by decide +kernel
theorem dX5_countFlagsAt_13 : decode cX5_countFlagsAt 13 = .ok (.iconst 1, 1) := by decide +kernel
theorem dX5_countFlagsAt_14 : decode cX5_countFlagsAt 14 = .ok (.iadd, 1) := by decide +kernel
theorem dX5_countFlagsAt_15 : decode cX5_countFlagsAt 15 = .ok (.iaload, 1) := by decide +kernel
theorem dX5_countFlagsAt_16 : decode cX5_countFlagsAt 16 = .ok (.aload_n 0, 1) := by decide +kernel
theorem dX5_countFlagsAt_17 : decode cX5_countFlagsAt 17 = .ok (.getfield 15, 3) := by decide +kernel
theorem dX5_countFlagsAt_20 : decode cX5_countFlagsAt 20 = .ok (.iload_n 1, 1) := by decide +kernel
theorem dX5_countFlagsAt_21 : decode cX5_countFlagsAt 21 = .ok (.iaload, 1) := by decide +kernel
theorem dX5_countFlagsAt_22 : decode cX5_countFlagsAt 22 = .ok (.isub, 1) := by decide +kernel
theorem dX5_countFlagsAt_23 : decode cX5_countFlagsAt 23 = .ok (.goto 4, 3) := by decide +kernel
theorem dX5_countFlagsAt_26 : decode cX5_countFlagsAt 26 = .ok (.iconst (-1), 1) := by decide +kernel
theorem dX5_countFlagsAt_27 : decode cX5_countFlagsAt 27 = .ok (.ireturn, 1) := by decide +kernel
set_option maxRecDepth 20000 in
theorem ggX5_pointOf_X5_hasFlag : GoodIn wsX5_pointOf wsX5_hasFlag := goodIn_sub (List.forall_mem_cons.mpr ⟨(List.mem_cons_of_mem _ (List.mem_append_left _ (List.mem_of_getElem? (i := 5) rfl))), (x_ap2 (List.forall_mem_cons.mpr ⟨(List.mem_cons_of_mem _ (List.mem_append_left _ (List.mem_of_getElem? (i := 6) rfl))), (fun _ h => absurd h List.not_mem_nil)⟩) (fun _ h => (List.mem_cons_of_mem _ (List.mem_append_right _ h))))⟩) (by decide +kernel)
set_option maxRecDepth 20000 in
theorem gX5_pointOf_X5_hasFlag : GoodIn wsX5_pointOf (wsV RX5 76 RX5 yX5_hasFlag wsX5_hasFlag) := goodIn_app (goodIn_of _ (by decide +kernel)) ggX5_pointOf_X5_hasFlag
theorem dX5_pointOf_0 : decode cX5_pointOf 0 = .ok (.aload_n 0, 1) := by decide +kernel
theorem dX5_pointOf_1 : decode cX5_pointOf 1 = .ok (.iload_n 1, 1) := by decide +kernel
theorem dX5_pointOf_2 : decode cX5_pointOf 2 = .ok (.invokevirtual 76, 3) := by decide +kernel
theorem dX5_pointOf_5 : decode cX5_pointOf 5 = .ok (.ifCond .eq 12, 3) := by decide +kernel
theorem dX5_pointOf_8 : decode cX5_pointOf 8 = .ok (.aload_n 0, 1) := by decide +kernel
theorem dX5_pointOf_9 : decode cX5_pointOf 9 = .ok (.getfield 18, 3) := by decide +kernel
theorem dX5_pointOf_12 : decode cX5_pointOf 12 = .ok (.iload_n 1, 1) := by decide +kernel
theorem dX5_pointOf_13 : decode cX5_pointOf 13 = .ok (.iaload, 1) := by decide +kernel
theorem dX5_pointOf_14 : decode cX5_pointOf 14 = .ok (.goto 4, 3) := by decide +kernel
theorem dX5_pointOf_17 : decode cX5_pointOf 17 = .ok (.iconst (-1), 1) := by decide +kernel
theorem dX5_pointOf_18 : decode cX5_pointOf 18 = .ok (.ireturn, 1) := by decide +kernel
set_option maxRecDepth 20000 in
theorem ggX5_lineKey_X5_hasFlag : GoodIn wsX5_lineKey wsX5_hasFlag := goodIn_sub (List.forall_mem_cons.mpr ⟨(List.mem_cons_of_mem _ (List.mem_append_left _ (List.mem_of_getElem? (i := 5) rfl))), (x_ap2 (List.forall_mem_cons.mpr ⟨(List.mem_cons_of_mem _ (List.mem_append_left _ (List.mem_of_getElem? (i := 6) rfl))), (fun _ h => absurd h List.not_mem_nil)⟩) (fun _ h => (List.mem_cons_of_mem _ (List.mem_append_right _ h))))⟩) (by decide +kernel)
set_option maxRecDepth 20000 in
theorem gX5_lineKey_X5_hasFlag : GoodIn wsX5_lineKey (wsV RX5 76 RX5 yX5_hasFlag wsX5_hasFlag) := goodIn_app (goodIn_of _ (by decide +kernel)) ggX5_lineKey_X5_hasFlag
theorem dX5_lineKey_0 : decode cX5_lineKey 0 = .ok (.aload_n 0, 1) := by decide +kernel
theorem dX5_lineKey_1 : decode cX5_lineKey 1 = .ok (.iload_n 1, 1) := by decide +kernel
theorem dX5_lineKey_2 : decode cX5_lineKey 2 = .ok (.invokevirtual 76, 3) := by decide +kernel
theorem dX5_lineKey_5 : decode cX5_lineKey 5 = .ok (.ifCond .eq 12, 3) := by decide +kernel
theorem dX5_lineKey_8 : decode cX5_lineKey 8 = .ok (.aload_n 0, 1) := by decide +kernel
theorem dX5_lineKey_9 : decode cX5_lineKey 9 = .ok (.getfield 21, 3) := by decide +kernel
theorem dX5_lineKey_12 : decode cX5_lineKey 12 = .ok (.iload_n 1, 1) := by decide +kernel
theorem dX5_lineKey_13 : decode cX5_lineKey 13 = .ok (.iaload, 1) := by decide +kernel
theorem dX5_lineKey_14 : decode cX5_lineKey 14 = .ok (.goto 4, 3) := by decide +kernel
theorem dX5_lineKey_17 : decode cX5_lineKey 17 = .ok (.iconst (-1), 1) := by decide +kernel
theorem dX5_lineKey_18 : decode cX5_lineKey 18 = .ok (.ireturn, 1) := by decide +kernel
set_option maxRecDepth 20000 in
theorem ggX5_nextOf_X5_hasFlag : GoodIn wsX5_nextOf wsX5_hasFlag := goodIn_sub (List.forall_mem_cons.mpr ⟨(List.mem_cons_of_mem _ (List.mem_append_left _ (List.mem_of_getElem? (i := 5) rfl))), (x_ap2 (List.forall_mem_cons.mpr ⟨(List.mem_cons_of_mem _ (List.mem_append_left _ (List.mem_of_getElem? (i := 6) rfl))), (fun _ h => absurd h List.not_mem_nil)⟩) (fun _ h => (List.mem_cons_of_mem _ (List.mem_append_right _ h))))⟩) (by decide +kernel)
set_option maxRecDepth 20000 in
theorem gX5_nextOf_X5_hasFlag : GoodIn wsX5_nextOf (wsV RX5 76 RX5 yX5_hasFlag wsX5_hasFlag) := goodIn_app (goodIn_of _ (by decide +kernel)) ggX5_nextOf_X5_hasFlag
theorem dX5_nextOf_0 : decode cX5_nextOf 0 = .ok (.aload_n 0, 1) := by decide +kernel
theorem dX5_nextOf_1 : decode cX5_nextOf 1 = .ok (.iload_n 1, 1) := by decide +kernel
theorem dX5_nextOf_2 : decode cX5_nextOf 2 = .ok (.invokevirtual 76, 3) := by decide +kernel
theorem dX5_nextOf_5 : decode cX5_nextOf 5 = .ok (.ifCond .eq 12, 3) := by decide +kernel
theorem dX5_nextOf_8 : decode cX5_nextOf 8 = .ok (.aload_n 0, 1) := by decide +kernel
theorem dX5_nextOf_9 : decode cX5_nextOf 9 = .ok (.getfield 24, 3) := by decide +kernel
theorem dX5_nextOf_12 : decode cX5_nextOf 12 = .ok (.iload_n 1, 1) := by decide +kernel
theorem dX5_nextOf_13 : decode cX5_nextOf 13 = .ok (.iaload, 1) := by decide +kernel
theorem dX5_nextOf_14 : decode cX5_nextOf 14 = .ok (.goto 4, 3) := by decide +kernel
theorem dX5_nextOf_17 : decode cX5_nextOf 17 = .ok (.iconst (-1), 1) := by decide +kernel
theorem dX5_nextOf_18 : decode cX5_nextOf 18 = .ok (.ireturn, 1) := by decide +kernel
set_option maxRecDepth 20000 in
theorem ggX5_beforeOf_X5_hasFlag : GoodIn wsX5_beforeOf wsX5_hasFlag := goodIn_sub (List.forall_mem_cons.mpr ⟨(List.mem_cons_of_mem _ (List.mem_append_left _ (List.mem_of_getElem? (i := 5) rfl))), (x_ap2 (List.forall_mem_cons.mpr ⟨(List.mem_cons_of_mem _ (List.mem_append_left _ (List.mem_of_getElem? (i := 6) rfl))), (fun _ h => absurd h List.not_mem_nil)⟩) (fun _ h => (List.mem_cons_of_mem _ (List.mem_append_right _ h))))⟩) (by decide +kernel)
set_option maxRecDepth 20000 in
theorem gX5_beforeOf_X5_hasFlag : GoodIn wsX5_beforeOf (wsV RX5 76 RX5 yX5_hasFlag wsX5_hasFlag) := goodIn_app (goodIn_of _ (by decide +kernel)) ggX5_beforeOf_X5_hasFlag
theorem dX5_beforeOf_0 : decode cX5_beforeOf 0 = .ok (.aload_n 0, 1) := by decide +kernel
theorem dX5_beforeOf_1 : decode cX5_beforeOf 1 = .ok (.iload_n 1, 1) := by decide +kernel
theorem dX5_beforeOf_2 : decode cX5_beforeOf 2 = .ok (.invokevirtual 76, 3) := by decide +kernel
theorem dX5_beforeOf_5 : decode cX5_beforeOf 5 = .ok (.ifCond .eq 12, 3) := by decide +kernel
theorem dX5_beforeOf_8 : decode cX5_beforeOf 8 = .ok (.aload_n 0, 1) := by decide +kernel
theorem dX5_beforeOf_9 : decode cX5_beforeOf 9 = .ok (.getfield 27, 3) := by decide +kernel
theorem dX5_beforeOf_12 : decode cX5_beforeOf 12 = .ok (.iload_n 1, 1) := by decide +kernel
theorem dX5_beforeOf_13 : decode cX5_beforeOf 13 = .ok (.iaload, 1) := by decide +kernel
theorem dX5_beforeOf_14 : decode cX5_beforeOf 14 = .ok (.goto 4, 3) := by decide +kernel
theorem dX5_beforeOf_17 : decode cX5_beforeOf 17 = .ok (.iconst (-1), 1) := by decide +kernel
theorem dX5_beforeOf_18 : decode cX5_beforeOf 18 = .ok (.ireturn, 1) := by decide +kernel
set_option maxRecDepth 20000 in
theorem ggX5_ringOf_X5_hasFlag : GoodIn wsX5_ringOf wsX5_hasFlag := goodIn_sub (List.forall_mem_cons.mpr ⟨(List.mem_cons_of_mem _ (List.mem_append_left _ (List.mem_of_getElem? (i := 5) rfl))), (x_ap2 (List.forall_mem_cons.mpr ⟨(List.mem_cons_of_mem _ (List.mem_append_left _ (List.mem_of_getElem? (i := 6) rfl))), (fun _ h => absurd h List.not_mem_nil)⟩) (fun _ h => (List.mem_cons_of_mem _ (List.mem_append_right _ h))))⟩) (by decide +kernel)
set_option maxRecDepth 20000 in
theorem gX5_ringOf_X5_hasFlag : GoodIn wsX5_ringOf (wsV RX5 76 RX5 yX5_hasFlag wsX5_hasFlag) := goodIn_app (goodIn_of _ (by decide +kernel)) ggX5_ringOf_X5_hasFlag
theorem dX5_ringOf_0 : decode cX5_ringOf 0 = .ok (.aload_n 0, 1) := by decide +kernel
theorem dX5_ringOf_1 : decode cX5_ringOf 1 = .ok (.iload_n 1, 1) := by decide +kernel
theorem dX5_ringOf_2 : decode cX5_ringOf 2 = .ok (.invokevirtual 76, 3) := by decide +kernel
theorem dX5_ringOf_5 : decode cX5_ringOf 5 = .ok (.ifCond .eq 12, 3) := by decide +kernel
theorem dX5_ringOf_8 : decode cX5_ringOf 8 = .ok (.aload_n 0, 1) := by decide +kernel
theorem dX5_ringOf_9 : decode cX5_ringOf 9 = .ok (.getfield 39, 3) := by decide +kernel
theorem dX5_ringOf_12 : decode cX5_ringOf 12 = .ok (.iload_n 1, 1) := by decide +kernel
theorem dX5_ringOf_13 : decode cX5_ringOf 13 = .ok (.iaload, 1) := by decide +kernel
theorem dX5_ringOf_14 : decode cX5_ringOf 14 = .ok (.goto 4, 3) := by decide +kernel
theorem dX5_ringOf_17 : decode cX5_ringOf 17 = .ok (.iconst (-1), 1) := by decide +kernel
theorem dX5_ringOf_18 : decode cX5_ringOf 18 = .ok (.ireturn, 1) := by decide +kernel
set_option maxRecDepth 20000 in
theorem ggX5_after_X5_hasFlag : GoodIn wsX5_after wsX5_hasFlag := goodIn_sub (List.forall_mem_cons.mpr ⟨(List.mem_cons_of_mem _ (List.mem_append_left _ (List.mem_of_getElem? (i := 8) rfl))), (x_ap2 (List.forall_mem_cons.mpr ⟨(List.mem_cons_of_mem _ (List.mem_append_left _ (List.mem_of_getElem? (i := 9) rfl))), (fun _ h => absurd h List.not_mem_nil)⟩) (fun _ h => (List.mem_cons_of_mem _ (List.mem_append_right _ h))))⟩) (by decide +kernel)
set_option maxRecDepth 20000 in
theorem gX5_after_X5_hasFlag : GoodIn wsX5_after (wsV RX5 76 RX5 yX5_hasFlag wsX5_hasFlag) := goodIn_app (goodIn_of _ (by decide +kernel)) ggX5_after_X5_hasFlag
theorem dX5_after_0 : decode cX5_after 0 = .ok (.aload_n 0, 1) := by decide +kernel
theorem dX5_after_1 : decode cX5_after 1 = .ok (.iload_n 1, 1) := by decide +kernel
theorem dX5_after_2 : decode cX5_after 2 = .ok (.invokevirtual 76, 3) := by decide +kernel
theorem dX5_after_5 : decode cX5_after 5 = .ok (.ifCond .eq 17, 3) := by decide +kernel
theorem dX5_after_8 : decode cX5_after 8 = .ok (.iload_n 2, 1) := by decide +kernel
theorem dX5_after_9 : decode cX5_after 9 = .ok (.ifCond .lt 13, 3) := by decide +kernel
theorem dX5_after_12 : decode cX5_after 12 = .ok (.aload_n 0, 1) := by decide +kernel
theorem dX5_after_13 : decode cX5_after 13 = .ok (.getfield 39, 3) := by decide +kernel
theorem dX5_after_16 : decode cX5_after 16 = .ok (.iload_n 1, 1) := by decide +kernel
theorem dX5_after_17 : decode cX5_after 17 = .ok (.iaload, 1) := by decide +kernel
theorem dX5_after_18 : decode cX5_after 18 = .ok (.iconst 1, 1) := by decide +kernel
theorem dX5_after_19 : decode cX5_after 19 = .ok (.if_icmp .ge 5, 3) := by decide +kernel
theorem dX5_after_22 : decode cX5_after 22 = .ok (.iconst (-1), 1) := by decide +kernel
theorem dX5_after_23 : decode cX5_after 23 = .ok (.ireturn, 1) := by decide +kernel
theorem dX5_after_24 : decode cX5_after 24 = .ok (.aload_n 0, 1) := by decide +kernel
theorem dX5_after_25 : decode cX5_after 25 = .ok (.getfield 36, 3) := by decide +kernel
theorem dX5_after_28 : decode cX5_after 28 = .ok (.iload_n 1, 1) := by decide +kernel
theorem dX5_after_29 : decode cX5_after 29 = .ok (.iaload, 1) := by decide +kernel
theorem dX5_after_30 : decode cX5_after 30 = .ok (.istore_n 3, 1) := by decide +kernel
theorem dX5_after_31 : decode cX5_after 31 = .ok (.aload_n 0, 1) := by decide +kernel
theorem dX5_after_32 : decode cX5_after 32 = .ok (.getfield 30, 3) := by decide +kernel
theorem dX5_after_35 : decode cX5_after 35 = .ok (.iload_n 3, 1) := by decide +kernel
theorem dX5_after_36 : decode cX5_after 36 = .ok (.aload_n 0, 1) := by decide +kernel
theorem dX5_after_37 : decode cX5_after 37 = .ok (.getfield 33, 3) := by decide +kernel
theorem dX5_after_40 : decode cX5_after 40 = .ok (.iload_n 1, 1) := by decide +kernel
theorem dX5_after_41 : decode cX5_after 41 = .ok (.iaload, 1) := by decide +kernel
theorem dX5_after_42 : decode cX5_after 42 = .ok (.iload_n 3, 1) := by decide +kernel
theorem dX5_after_43 : decode cX5_after 43 = .ok (.isub, 1) := by decide +kernel
theorem dX5_after_44 : decode cX5_after 44 = .ok (.iload_n 2, 1) := by decide +kernel
theorem dX5_after_45 : decode cX5_after 45 = .ok (.iadd, 1) := by decide +kernel
theorem dX5_after_46 : decode cX5_after 46 = .ok (.aload_n 0, 1) := by decide +kernel
theorem dX5_after_47 : decode cX5_after 47 = .ok (.getfield 39, 3) := by decide +kernel
theorem dX5_after_50 : decode cX5_after 50 = .ok (.iload_n 1, 1) := by decide +kernel
theorem dX5_after_51 : decode cX5_after 51 = .ok (.iaload, 1) := by decide +kernel
theorem dX5_after_52 : decode cX5_after 52 = .ok (.irem, 1) := by decide +kernel
theorem dX5_after_53 : decode cX5_after 53 = .ok (.iadd, 1) := by decide +kernel
theorem dX5_after_54 : decode cX5_after 54 = .ok (.iaload, 1) := by decide +kernel
theorem dX5_after_55 : decode cX5_after 55 = .ok (.ireturn, 1) := by decide +kernel
theorem ip_wsX5_findPoints__wsX5_findPoints_r1 : ∀ w ∈ wsX5_findPoints_r1, w ∈ wsX5_findPoints := fun _ h => (List.mem_cons_of_mem _ (List.mem_append_left _ (List.mem_append_left _ (List.mem_append_left _ (List.mem_append_left _ (List.mem_append_left _ (List.mem_append_left _ h)))))))
theorem ip_wsX5_findPoints__wsX5_findPoints_r2 : ∀ w ∈ wsX5_findPoints_r2, w ∈ wsX5_findPoints := fun _ h => (List.mem_cons_of_mem _ (List.mem_append_left _ (List.mem_append_left _ (List.mem_append_left _ (List.mem_append_left _ (List.mem_append_left _ (List.mem_append_right _ (List.mem_append_left _ h))))))))
theorem ip_wsX5_findPoints__wsX5_findPoints_r3 : ∀ w ∈ wsX5_findPoints_r3, w ∈ wsX5_findPoints := fun _ h => (List.mem_cons_of_mem _ (List.mem_append_left _ (List.mem_append_left _ (List.mem_append_left _ (List.mem_append_left _ (List.mem_append_left _ (List.mem_append_right _ (List.mem_append_right _ (List.mem_append_left _ h)))))))))
theorem ip_wsX5_findPoints__wsX5_findPoints_r4 : ∀ w ∈ wsX5_findPoints_r4, w ∈ wsX5_findPoints := fun _ h => (List.mem_cons_of_mem _ (List.mem_append_left _ (List.mem_append_left _ (List.mem_append_left _ (List.mem_append_left _ (List.mem_append_left _ (List.mem_append_right _ (List.mem_append_right _ (List.mem_append_right _ (List.mem_append_left _ h))))))))))
theorem ip_wsX5_findPoints__wsX5_findPoints_r5 : ∀ w ∈ wsX5_findPoints_r5, w ∈ wsX5_findPoints := fun _ h => (List.mem_cons_of_mem _ (List.mem_append_left _ (List.mem_append_left _ (List.mem_append_left _ (List.mem_append_left _ (List.mem_append_left _ (List.mem_append_right _ (List.mem_append_right _ (List.mem_append_right _ (List.mem_append_right _ h))))))))))
set_option maxRecDepth 20000 in
theorem ggX5_findPoints_X4_prime : GoodIn wsX5_findPoints wsX4_prime := goodIn_sub (List.forall_mem_cons.mpr ⟨(ip_wsX5_findPoints__wsX5_findPoints_r1 _ (List.mem_of_getElem? (i := 8) rfl)), (x_ap2 (List.forall_mem_cons.mpr ⟨(ip_wsX5_findPoints__wsX5_findPoints_r1 _ (List.mem_of_getElem? (i := 9) rfl)), (fun _ h => absurd h List.not_mem_nil)⟩) (fun _ h => (List.mem_cons_of_mem _ (List.mem_append_left _ (List.mem_append_left _ (List.mem_append_left _ (List.mem_append_right _ h)))))))⟩) (by decide +kernel)
set_option maxRecDepth 20000 in
theorem gX5_findPoints_X4_prime : GoodIn wsX5_findPoints (wsV RX5 79 RX4 yX4_prime wsX4_prime) := goodIn_app (goodIn_of _ (by decide +kernel)) ggX5_findPoints_X4_prime
set_option maxRecDepth 20000 in
theorem ggX5_findPoints_X7_take : GoodIn wsX5_findPoints wsX7_take := goodIn_sub (List.forall_mem_cons.mpr ⟨(ip_wsX5_findPoints__wsX5_findPoints_r1 _ (List.mem_of_getElem? (i := 14) rfl)), (x_ap2 (x_ap2 (List.forall_mem_cons.mpr ⟨(ip_wsX5_findPoints__wsX5_findPoints_r1 _ (List.mem_of_getElem? (i := 15) rfl)), (List.forall_mem_cons.mpr ⟨(ip_wsX5_findPoints__wsX5_findPoints_r1 _ (List.mem_of_getElem? (i := 16) rfl)), (List.forall_mem_cons.mpr ⟨(ip_wsX5_findPoints__wsX5_findPoints_r1 _ (List.mem_of_getElem? (i := 17) rfl)), (List.forall_mem_cons.mpr ⟨(ip_wsX5_findPoints__wsX5_findPoints_r1 _ (List.mem_of_getElem? (i := 18) rfl)), (List.forall_mem_cons.mpr ⟨(ip_wsX5_findPoints__wsX5_findPoints_r1 _ (List.mem_of_getElem? (i := 19) rfl)), (List.forall_mem_cons.mpr ⟨(ip_wsX5_findPoints__wsX5_findPoints_r1 _ (List.mem_of_getElem? (i := 20) rfl)), (List.forall_mem_cons.mpr ⟨(ip_wsX5_findPoints__wsX5_findPoints_r1 _ (List.mem_of_getElem? (i := 21) rfl)), (List.forall_mem_cons.mpr ⟨(ip_wsX5_findPoints__wsX5_findPoints_r1 _ (List.mem_of_getElem? (i := 7) rfl)), (List.forall_mem_cons.mpr ⟨(ip_wsX5_findPoints__wsX5_findPoints_r1 _ (List.mem_of_getElem? (i := 22) rfl)), (List.forall_mem_cons.mpr ⟨(ip_wsX5_findPoints__wsX5_findPoints_r1 _ (List.mem_of_getElem? (i := 9) rfl)), (fun _ h => absurd h List.not_mem_nil)⟩)⟩)⟩)⟩)⟩)⟩)⟩)⟩)⟩)⟩) (fun _ h => (List.mem_cons_of_mem _ (List.mem_append_left _ (List.mem_append_left _ (List.mem_append_right _ h)))))) (fun _ h => (List.mem_cons_of_mem _ (List.mem_append_left _ (List.mem_append_left _ (List.mem_append_left _ (List.mem_append_right _ h)))))))⟩) (by decide +kernel)
set_option maxRecDepth 20000 in
theorem gX5_findPoints_X7_take : GoodIn wsX5_findPoints (wsV RX5 85 RX7 yX7_take wsX7_take) := goodIn_app (goodIn_of _ (by decide +kernel)) ggX5_findPoints_X7_take
set_option maxRecDepth 20000 in
theorem ggX5_findPoints_X7_key : GoodIn wsX5_findPoints wsX7_key := goodIn_sub (List.forall_mem_cons.mpr ⟨(ip_wsX5_findPoints__wsX5_findPoints_r2 _ (List.mem_of_getElem? (i := 2) rfl)), (x_ap2 (x_ap2 (List.forall_mem_cons.mpr ⟨(ip_wsX5_findPoints__wsX5_findPoints_r1 _ (List.mem_of_getElem? (i := 15) rfl)), (List.forall_mem_cons.mpr ⟨(ip_wsX5_findPoints__wsX5_findPoints_r1 _ (List.mem_of_getElem? (i := 18) rfl)), (List.forall_mem_cons.mpr ⟨(ip_wsX5_findPoints__wsX5_findPoints_r1 _ (List.mem_of_getElem? (i := 17) rfl)), (List.forall_mem_cons.mpr ⟨(ip_wsX5_findPoints__wsX5_findPoints_r1 _ (List.mem_of_getElem? (i := 16) rfl)), (List.forall_mem_cons.mpr ⟨(ip_wsX5_findPoints__wsX5_findPoints_r2 _ (List.mem_of_getElem? (i := 3) rfl)), (List.forall_mem_cons.mpr ⟨(ip_wsX5_findPoints__wsX5_findPoints_r1 _ (List.mem_of_getElem? (i := 5) rfl)), (List.forall_mem_cons.mpr ⟨(ip_wsX5_findPoints__wsX5_findPoints_r1 _ (List.mem_of_getElem? (i := 6) rfl)), (List.forall_mem_cons.mpr ⟨(ip_wsX5_findPoints__wsX5_findPoints_r1 _ (List.mem_of_getElem? (i := 7) rfl)), (List.forall_mem_cons.mpr ⟨(ip_wsX5_findPoints__wsX5_findPoints_r1 _ (List.mem_of_getElem? (i := 8) rfl)), (List.forall_mem_cons.mpr ⟨(ip_wsX5_findPoints__wsX5_findPoints_r1 _ (List.mem_of_getElem? (i := 9) rfl)), (List.forall_mem_cons.mpr ⟨(ip_wsX5_findPoints__wsX5_findPoints_r2 _ (List.mem_of_getElem? (i := 4) rfl)), (List.forall_mem_cons.mpr ⟨(ip_wsX5_findPoints__wsX5_findPoints_r2 _ (List.mem_of_getElem? (i := 5) rfl)), (List.forall_mem_cons.mpr ⟨(ip_wsX5_findPoints__wsX5_findPoints_r2 _ (List.mem_of_getElem? (i := 6) rfl)), (List.forall_mem_cons.mpr ⟨(ip_wsX5_findPoints__wsX5_findPoints_r2 _ (List.mem_of_getElem? (i := 7) rfl)), (List.forall_mem_cons.mpr ⟨(ip_wsX5_findPoints__wsX5_findPoints_r2 _ (List.mem_of_getElem? (i := 8) rfl)), (List.forall_mem_cons.mpr ⟨(ip_wsX5_findPoints__wsX5_findPoints_r1 _ (List.mem_of_getElem? (i := 19) rfl)), (List.forall_mem_cons.mpr ⟨(ip_wsX5_findPoints__wsX5_findPoints_r1 _ (List.mem_of_getElem? (i := 20) rfl)), (List.forall_mem_cons.mpr ⟨(ip_wsX5_findPoints__wsX5_findPoints_r1 _ (List.mem_of_getElem? (i := 21) rfl)), (List.forall_mem_cons.mpr ⟨(ip_wsX5_findPoints__wsX5_findPoints_r1 _ (List.mem_of_getElem? (i := 22) rfl)), (fun _ h => absurd h List.not_mem_nil)⟩)⟩)⟩)⟩)⟩)⟩)⟩)⟩)⟩)⟩)⟩)⟩)⟩)⟩)⟩)⟩)⟩)⟩)⟩) (fun _ h => (List.mem_cons_of_mem _ (List.mem_append_left _ (List.mem_append_left _ (List.mem_append_right _ h)))))) (fun _ h => (List.mem_cons_of_mem _ (List.mem_append_left _ (List.mem_append_left _ (List.mem_append_left _ (List.mem_append_right _ h)))))))⟩) (by decide +kernel)
set_option maxRecDepth 20000 in
theorem gX5_findPoints_X7_key : GoodIn wsX5_findPoints (wsV RX5 89 RX7 yX7_key wsX7_key) := goodIn_app (goodIn_of _ (by decide +kernel)) ggX5_findPoints_X7_key
set_option maxRecDepth 20000 in
theorem ggX5_findPoints_X3_find : GoodIn wsX5_findPoints wsX3_find := goodIn_sub (List.forall_mem_cons.mpr ⟨(ip_wsX5_findPoints__wsX5_findPoints_r2 _ (List.mem_of_getElem? (i := 13) rfl)), (x_ap2 (x_ap2 (x_ap2 (x_ap2 (x_ap2 (show ∀ w ∈ wsX3_find_r1, w ∈ wsX5_findPoints from (List.forall_mem_cons.mpr ⟨(ip_wsX5_findPoints__wsX5_findPoints_r2 _ (List.mem_of_getElem? (i := 14) rfl)), (List.forall_mem_cons.mpr ⟨(ip_wsX5_findPoints__wsX5_findPoints_r2 _ (List.mem_of_getElem? (i := 15) rfl)), (List.forall_mem_cons.mpr ⟨(ip_wsX5_findPoints__wsX5_findPoints_r2 _ (List.mem_of_getElem? (i := 16) rfl)), (List.forall_mem_cons.mpr ⟨(ip_wsX5_findPoints__wsX5_findPoints_r2 _ (List.mem_of_getElem? (i := 17) rfl)), (List.forall_mem_cons.mpr ⟨(ip_wsX5_findPoints__wsX5_findPoints_r2 _ (List.mem_of_getElem? (i := 18) rfl)), (List.forall_mem_cons.mpr ⟨(ip_wsX5_findPoints__wsX5_findPoints_r2 _ (List.mem_of_getElem? (i := 19) rfl)), (List.forall_mem_cons.mpr ⟨(ip_wsX5_findPoints__wsX5_findPoints_r2 _ (List.mem_of_getElem? (i := 20) rfl)), (List.forall_mem_cons.mpr ⟨(ip_wsX5_findPoints__wsX5_findPoints_r2 _ (List.mem_of_getElem? (i := 12) rfl)), (List.forall_mem_cons.mpr ⟨(ip_wsX5_findPoints__wsX5_findPoints_r2 _ (List.mem_of_getElem? (i := 21) rfl)), (List.forall_mem_cons.mpr ⟨(ip_wsX5_findPoints__wsX5_findPoints_r2 _ (List.mem_of_getElem? (i := 22) rfl)), (List.forall_mem_cons.mpr ⟨(ip_wsX5_findPoints__wsX5_findPoints_r2 _ (List.mem_of_getElem? (i := 23) rfl)), (List.forall_mem_cons.mpr ⟨(ip_wsX5_findPoints__wsX5_findPoints_r3 _ (List.mem_of_getElem? (i := 0) rfl)), (List.forall_mem_cons.mpr ⟨(ip_wsX5_findPoints__wsX5_findPoints_r3 _ (List.mem_of_getElem? (i := 1) rfl)), (List.forall_mem_cons.mpr ⟨(ip_wsX5_findPoints__wsX5_findPoints_r1 _ (List.mem_of_getElem? (i := 13) rfl)), (List.forall_mem_cons.mpr ⟨(ip_wsX5_findPoints__wsX5_findPoints_r3 _ (List.mem_of_getElem? (i := 2) rfl)), (List.forall_mem_cons.mpr ⟨(ip_wsX5_findPoints__wsX5_findPoints_r1 _ (List.mem_of_getElem? (i := 15) rfl)), (List.forall_mem_cons.mpr ⟨(ip_wsX5_findPoints__wsX5_findPoints_r1 _ (List.mem_of_getElem? (i := 18) rfl)), (List.forall_mem_cons.mpr ⟨(ip_wsX5_findPoints__wsX5_findPoints_r1 _ (List.mem_of_getElem? (i := 17) rfl)), (List.forall_mem_cons.mpr ⟨(ip_wsX5_findPoints__wsX5_findPoints_r1 _ (List.mem_of_getElem? (i := 16) rfl)), (List.forall_mem_cons.mpr ⟨(ip_wsX5_findPoints__wsX5_findPoints_r2 _ (List.mem_of_getElem? (i := 3) rfl)), (List.forall_mem_cons.mpr ⟨(ip_wsX5_findPoints__wsX5_findPoints_r1 _ (List.mem_of_getElem? (i := 5) rfl)), (List.forall_mem_cons.mpr ⟨(ip_wsX5_findPoints__wsX5_findPoints_r1 _ (List.mem_of_getElem? (i := 6) rfl)), (List.forall_mem_cons.mpr ⟨(ip_wsX5_findPoints__wsX5_findPoints_r1 _ (List.mem_of_getElem? (i := 7) rfl)), (List.forall_mem_cons.mpr ⟨(ip_wsX5_findPoints__wsX5_findPoints_r1 _ (List.mem_of_getElem? (i := 8) rfl)), (fun _ h => absurd h List.not_mem_nil)⟩)⟩)⟩)⟩)⟩)⟩)⟩)⟩)⟩)⟩)⟩)⟩)⟩)⟩)⟩)⟩)⟩)⟩)⟩)⟩)⟩)⟩)⟩)⟩)) (x_ap2 (show ∀ w ∈ wsX3_find_r2, w ∈ wsX5_findPoints from (List.forall_mem_cons.mpr ⟨(ip_wsX5_findPoints__wsX5_findPoints_r1 _ (List.mem_of_getElem? (i := 9) rfl)), (List.forall_mem_cons.mpr ⟨(ip_wsX5_findPoints__wsX5_findPoints_r3 _ (List.mem_of_getElem? (i := 3) rfl)), (List.forall_mem_cons.mpr ⟨(ip_wsX5_findPoints__wsX5_findPoints_r1 _ (List.mem_of_getElem? (i := 11) rfl)), (List.forall_mem_cons.mpr ⟨(ip_wsX5_findPoints__wsX5_findPoints_r1 _ (List.mem_of_getElem? (i := 12) rfl)), (List.forall_mem_cons.mpr ⟨(ip_wsX5_findPoints__wsX5_findPoints_r1 _ (List.mem_of_getElem? (i := 14) rfl)), (List.forall_mem_cons.mpr ⟨(ip_wsX5_findPoints__wsX5_findPoints_r1 _ (List.mem_of_getElem? (i := 19) rfl)), (List.forall_mem_cons.mpr ⟨(ip_wsX5_findPoints__wsX5_findPoints_r1 _ (List.mem_of_getElem? (i := 20) rfl)), (List.forall_mem_cons.mpr ⟨(ip_wsX5_findPoints__wsX5_findPoints_r1 _ (List.mem_of_getElem? (i := 21) rfl)), (List.forall_mem_cons.mpr ⟨(ip_wsX5_findPoints__wsX5_findPoints_r1 _ (List.mem_of_getElem? (i := 22) rfl)), (List.forall_mem_cons.mpr ⟨(ip_wsX5_findPoints__wsX5_findPoints_r3 _ (List.mem_of_getElem? (i := 4) rfl)), (List.forall_mem_cons.mpr ⟨(ip_wsX5_findPoints__wsX5_findPoints_r3 _ (List.mem_of_getElem? (i := 5) rfl)), (List.forall_mem_cons.mpr ⟨(ip_wsX5_findPoints__wsX5_findPoints_r3 _ (List.mem_of_getElem? (i := 6) rfl)), (List.forall_mem_cons.mpr ⟨(ip_wsX5_findPoints__wsX5_findPoints_r3 _ (List.mem_of_getElem? (i := 7) rfl)), (List.forall_mem_cons.mpr ⟨(ip_wsX5_findPoints__wsX5_findPoints_r3 _ (List.mem_of_getElem? (i := 8) rfl)), (List.forall_mem_cons.mpr ⟨(ip_wsX5_findPoints__wsX5_findPoints_r3 _ (List.mem_of_getElem? (i := 9) rfl)), (List.forall_mem_cons.mpr ⟨(ip_wsX5_findPoints__wsX5_findPoints_r3 _ (List.mem_of_getElem? (i := 10) rfl)), (List.forall_mem_cons.mpr ⟨(ip_wsX5_findPoints__wsX5_findPoints_r3 _ (List.mem_of_getElem? (i := 11) rfl)), (List.forall_mem_cons.mpr ⟨(ip_wsX5_findPoints__wsX5_findPoints_r3 _ (List.mem_of_getElem? (i := 12) rfl)), (List.forall_mem_cons.mpr ⟨(ip_wsX5_findPoints__wsX5_findPoints_r3 _ (List.mem_of_getElem? (i := 13) rfl)), (List.forall_mem_cons.mpr ⟨(ip_wsX5_findPoints__wsX5_findPoints_r3 _ (List.mem_of_getElem? (i := 14) rfl)), (List.forall_mem_cons.mpr ⟨(ip_wsX5_findPoints__wsX5_findPoints_r3 _ (List.mem_of_getElem? (i := 15) rfl)), (List.forall_mem_cons.mpr ⟨(ip_wsX5_findPoints__wsX5_findPoints_r3 _ (List.mem_of_getElem? (i := 16) rfl)), (List.forall_mem_cons.mpr ⟨(ip_wsX5_findPoints__wsX5_findPoints_r3 _ (List.mem_of_getElem? (i := 17) rfl)), (List.forall_mem_cons.mpr ⟨(ip_wsX5_findPoints__wsX5_findPoints_r3 _ (List.mem_of_getElem? (i := 18) rfl)), (fun _ h => absurd h List.not_mem_nil)⟩)⟩)⟩)⟩)⟩)⟩)⟩)⟩)⟩)⟩)⟩)⟩)⟩)⟩)⟩)⟩)⟩)⟩)⟩)⟩)⟩)⟩)⟩)⟩)) (x_ap2 (show ∀ w ∈ wsX3_find_r3, w ∈ wsX5_findPoints from (List.forall_mem_cons.mpr ⟨(ip_wsX5_findPoints__wsX5_findPoints_r3 _ (List.mem_of_getElem? (i := 19) rfl)), (List.forall_mem_cons.mpr ⟨(ip_wsX5_findPoints__wsX5_findPoints_r3 _ (List.mem_of_getElem? (i := 20) rfl)), (List.forall_mem_cons.mpr ⟨(ip_wsX5_findPoints__wsX5_findPoints_r3 _ (List.mem_of_getElem? (i := 21) rfl)), (List.forall_mem_cons.mpr ⟨(ip_wsX5_findPoints__wsX5_findPoints_r3 _ (List.mem_of_getElem? (i := 22) rfl)), (List.forall_mem_cons.mpr ⟨(ip_wsX5_findPoints__wsX5_findPoints_r3 _ (List.mem_of_getElem? (i := 23) rfl)), (List.forall_mem_cons.mpr ⟨(ip_wsX5_findPoints__wsX5_findPoints_r4 _ (List.mem_of_getElem? (i := 0) rfl)), (List.forall_mem_cons.mpr ⟨(ip_wsX5_findPoints__wsX5_findPoints_r4 _ (List.mem_of_getElem? (i := 1) rfl)), (List.forall_mem_cons.mpr ⟨(ip_wsX5_findPoints__wsX5_findPoints_r4 _ (List.mem_of_getElem? (i := 2) rfl)), (List.forall_mem_cons.mpr ⟨(ip_wsX5_findPoints__wsX5_findPoints_r4 _ (List.mem_of_getElem? (i := 3) rfl)), (List.forall_mem_cons.mpr ⟨(ip_wsX5_findPoints__wsX5_findPoints_r4 _ (List.mem_of_getElem? (i := 4) rfl)), (List.forall_mem_cons.mpr ⟨(ip_wsX5_findPoints__wsX5_findPoints_r4 _ (List.mem_of_getElem? (i := 5) rfl)), (List.forall_mem_cons.mpr ⟨(ip_wsX5_findPoints__wsX5_findPoints_r4 _ (List.mem_of_getElem? (i := 6) rfl)), (List.forall_mem_cons.mpr ⟨(ip_wsX5_findPoints__wsX5_findPoints_r4 _ (List.mem_of_getElem? (i := 7) rfl)), (List.forall_mem_cons.mpr ⟨(ip_wsX5_findPoints__wsX5_findPoints_r4 _ (List.mem_of_getElem? (i := 8) rfl)), (List.forall_mem_cons.mpr ⟨(ip_wsX5_findPoints__wsX5_findPoints_r4 _ (List.mem_of_getElem? (i := 9) rfl)), (List.forall_mem_cons.mpr ⟨(ip_wsX5_findPoints__wsX5_findPoints_r4 _ (List.mem_of_getElem? (i := 10) rfl)), (List.forall_mem_cons.mpr ⟨(ip_wsX5_findPoints__wsX5_findPoints_r4 _ (List.mem_of_getElem? (i := 11) rfl)), (List.forall_mem_cons.mpr ⟨(ip_wsX5_findPoints__wsX5_findPoints_r4 _ (List.mem_of_getElem? (i := 12) rfl)), (List.forall_mem_cons.mpr ⟨(ip_wsX5_findPoints__wsX5_findPoints_r2 _ (List.mem_of_getElem? (i := 0) rfl)), (List.forall_mem_cons.mpr ⟨(ip_wsX5_findPoints__wsX5_findPoints_r2 _ (List.mem_of_getElem? (i := 1) rfl)), (List.forall_mem_cons.mpr ⟨(ip_wsX5_findPoints__wsX5_findPoints_r2 _ (List.mem_of_getElem? (i := 2) rfl)), (List.forall_mem_cons.mpr ⟨(ip_wsX5_findPoints__wsX5_findPoints_r2 _ (List.mem_of_getElem? (i := 4) rfl)), (List.forall_mem_cons.mpr ⟨(ip_wsX5_findPoints__wsX5_findPoints_r2 _ (List.mem_of_getElem? (i := 5) rfl)), (List.forall_mem_cons.mpr ⟨(ip_wsX5_findPoints__wsX5_findPoints_r2 _ (List.mem_of_getElem? (i := 6) rfl)), (fun _ h => absurd h List.not_mem_nil)⟩)⟩)⟩)⟩)⟩)⟩)⟩)⟩)⟩)⟩)⟩)⟩)⟩)⟩)⟩)⟩)⟩)⟩)⟩)⟩)⟩)⟩)⟩)⟩)) (show ∀ w ∈ wsX3_find_r4, w ∈ wsX5_findPoints from (List.forall_mem_cons.mpr ⟨(ip_wsX5_findPoints__wsX5_findPoints_r2 _ (List.mem_of_getElem? (i := 7) rfl)), (List.forall_mem_cons.mpr ⟨(ip_wsX5_findPoints__wsX5_findPoints_r2 _ (List.mem_of_getElem? (i := 8) rfl)), (List.forall_mem_cons.mpr ⟨(ip_wsX5_findPoints__wsX5_findPoints_r4 _ (List.mem_of_getElem? (i := 13) rfl)), (List.forall_mem_cons.mpr ⟨(ip_wsX5_findPoints__wsX5_findPoints_r4 _ (List.mem_of_getElem? (i := 14) rfl)), (List.forall_mem_cons.mpr ⟨(ip_wsX5_findPoints__wsX5_findPoints_r4 _ (List.mem_of_getElem? (i := 15) rfl)), (List.forall_mem_cons.mpr ⟨(ip_wsX5_findPoints__wsX5_findPoints_r4 _ (List.mem_of_getElem? (i := 16) rfl)), (List.forall_mem_cons.mpr ⟨(ip_wsX5_findPoints__wsX5_findPoints_r4 _ (List.mem_of_getElem? (i := 17) rfl)), (List.forall_mem_cons.mpr ⟨(ip_wsX5_findPoints__wsX5_findPoints_r4 _ (List.mem_of_getElem? (i := 18) rfl)), (fun _ h => absurd h List.not_mem_nil)⟩)⟩)⟩)⟩)⟩)⟩)⟩)⟩))))) (fun _ h => (List.mem_cons_of_mem _ (List.mem_append_left _ (List.mem_append_right _ h))))) (fun _ h => (List.mem_cons_of_mem _ (List.mem_append_left _ (List.mem_append_left _ (List.mem_append_right _ h)))))) (fun _ h => (List.mem_cons_of_mem _ (List.mem_append_left _ (List.mem_append_left _ (List.mem_append_left _ (List.mem_append_right _ h))))))) (fun _ h => (List.mem_cons_of_mem _ (List.mem_append_right _ h))))⟩) (by decide +kernel)
set_option maxRecDepth 20000 in
theorem gX5_findPoints_X3_find : GoodIn wsX5_findPoints (wsV RX5 92 RX3 yX3_find wsX3_find) := goodIn_app (goodIn_of _ (by decide +kernel)) ggX5_findPoints_X3_find
set_option maxRecDepth 20000 in
theorem ggX5_findPoints_X5_addPoints : GoodIn wsX5_findPoints wsX5_addPoints := goodIn_sub (List.forall_mem_cons.mpr ⟨(ip_wsX5_findPoints__wsX5_findPoints_r4 _ (List.mem_of_getElem? (i := 23) rfl)), (x_ap2 (x_ap2 (List.forall_mem_cons.mpr ⟨(ip_wsX5_findPoints__wsX5_findPoints_r1 _ (List.mem_of_getElem? (i := 3) rfl)), (List.forall_mem_cons.mpr ⟨(ip_wsX5_findPoints__wsX5_findPoints_r1 _ (List.mem_of_getElem? (i := 0) rfl)), (List.forall_mem_cons.mpr ⟨(ip_wsX5_findPoints__wsX5_findPoints_r5 _ (List.mem_of_getElem? (i := 0) rfl)), (List.forall_mem_cons.mpr ⟨(ip_wsX5_findPoints__wsX5_findPoints_r5 _ (List.mem_of_getElem? (i := 1) rfl)), (List.forall_mem_cons.mpr ⟨(ip_wsX5_findPoints__wsX5_findPoints_r5 _ (List.mem_of_getElem? (i := 2) rfl)), (List.forall_mem_cons.mpr ⟨(ip_wsX5_findPoints__wsX5_findPoints_r5 _ (List.mem_of_getElem? (i := 3) rfl)), (List.forall_mem_cons.mpr ⟨(ip_wsX5_findPoints__wsX5_findPoints_r2 _ (List.mem_of_getElem? (i := 12) rfl)), (List.forall_mem_cons.mpr ⟨(ip_wsX5_findPoints__wsX5_findPoints_r5 _ (List.mem_of_getElem? (i := 4) rfl)), (List.forall_mem_cons.mpr ⟨(ip_wsX5_findPoints__wsX5_findPoints_r2 _ (List.mem_of_getElem? (i := 14) rfl)), (List.forall_mem_cons.mpr ⟨(ip_wsX5_findPoints__wsX5_findPoints_r5 _ (List.mem_of_getElem? (i := 5) rfl)), (List.forall_mem_cons.mpr ⟨(ip_wsX5_findPoints__wsX5_findPoints_r5 _ (List.mem_of_getElem? (i := 6) rfl)), (List.forall_mem_cons.mpr ⟨(ip_wsX5_findPoints__wsX5_findPoints_r5 _ (List.mem_of_getElem? (i := 7) rfl)), (List.forall_mem_cons.mpr ⟨(ip_wsX5_findPoints__wsX5_findPoints_r5 _ (List.mem_of_getElem? (i := 8) rfl)), (List.forall_mem_cons.mpr ⟨(ip_wsX5_findPoints__wsX5_findPoints_r4 _ (List.mem_of_getElem? (i := 6) rfl)), (List.forall_mem_cons.mpr ⟨(ip_wsX5_findPoints__wsX5_findPoints_r4 _ (List.mem_of_getElem? (i := 7) rfl)), (fun _ h => absurd h List.not_mem_nil)⟩)⟩)⟩)⟩)⟩)⟩)⟩)⟩)⟩)⟩)⟩)⟩)⟩)⟩)⟩) (fun _ h => (List.mem_cons_of_mem _ (List.mem_append_left _ (List.mem_append_left _ (List.mem_append_left _ (List.mem_append_left _ (List.mem_append_right _ h)))))))) (fun _ h => (List.mem_cons_of_mem _ (List.mem_append_left _ (List.mem_append_right _ h)))))⟩) (by decide +kernel)
set_option maxRecDepth 20000 in
theorem gX5_findPoints_X5_addPoints : GoodIn wsX5_findPoints (wsV RX5 96 RX5 yX5_addPoints wsX5_addPoints) := goodIn_app (goodIn_of _ (by decide +kernel)) ggX5_findPoints_X5_addPoints
theorem dX5_findPoints_0 : decode cX5_findPoints 0 = .ok (.aload_n 0, 1) := by decide +kernel
theorem dX5_findPoints_1 : decode cX5_findPoints 1 = .ok (.iconst 0, 1) := by decide +kernel
theorem dX5_findPoints_2 : decode cX5_findPoints 2 = .ok (.putfield 62, 3) := by decide +kernel
theorem dX5_findPoints_5 : decode cX5_findPoints 5 = .ok (.aload_n 0, 1) := by decide +kernel
theorem dX5_findPoints_6 : decode cX5_findPoints 6 = .ok (.getfield 42, 3) := by decide +kernel
theorem dX5_findPoints_9 : decode cX5_findPoints 9 = .ok (.invokevirtual 79, 3) := by decide +kernel
theorem dX5_findPoints_12 : decode cX5_findPoints 12 = .ok (.istore_n 2, 1) := by decide +kernel
theorem dX5_findPoints_13 : decode cX5_findPoints 13 = .ok (.iconst 0, 1) := by decide +kernel
theorem dX5_findPoints_14 : decode cX5_findPoints 14 = .ok (.istore_n 3, 1) := by decide +kernel
theorem dX5_findPoints_15 : decode cX5_findPoints 15 = .ok (.iload_n 3, 1) := by decide +kernel
theorem dX5_findPoints_16 : decode cX5_findPoints 16 = .ok (.iload_n 2, 1) := by decide +kernel
theorem dX5_findPoints_17 : decode cX5_findPoints 17 = .ok (.if_icmp .ge 42, 3) := by decide +kernel
theorem dX5_findPoints_20 : decode cX5_findPoints 20 = .ok (.aload_n 0, 1) := by decide +kernel
theorem dX5_findPoints_21 : decode cX5_findPoints 21 = .ok (.getfield 58, 3) := by decide +kernel
theorem dX5_findPoints_24 : decode cX5_findPoints 24 = .ok (.iconst 0, 1) := by decide +kernel
theorem dX5_findPoints_25 : decode cX5_findPoints 25 = .ok (.iconst 1, 1) := by decide +kernel
theorem dX5_findPoints_26 : decode cX5_findPoints 26 = .ok (.iload_n 3, 1) := by decide +kernel
theorem dX5_findPoints_27 : decode cX5_findPoints 27 = .ok (.ineg, 1) := by decide +kernel
theorem dX5_findPoints_28 : decode cX5_findPoints 28 = .ok (.invokevirtual 85, 3) := by decide +kernel
theorem dX5_findPoints_31 : decode cX5_findPoints 31 = .ok (.aload_n 0, 1) := by decide +kernel
theorem dX5_findPoints_32 : decode cX5_findPoints 32 = .ok (.getfield 51, 3) := by decide +kernel
theorem dX5_findPoints_35 : decode cX5_findPoints 35 = .ok (.aload_n 1, 1) := by decide +kernel
theorem dX5_findPoints_36 : decode cX5_findPoints 36 = .ok (.aload_n 0, 1) := by decide +kernel
theorem dX5_findPoints_37 : decode cX5_findPoints 37 = .ok (.getfield 58, 3) := by decide +kernel
theorem dX5_findPoints_40 : decode cX5_findPoints 40 = .ok (.invokevirtual 89, 3) := by decide +kernel
theorem dX5_findPoints_43 : decode cX5_findPoints 43 = .ok (.invokevirtual 92, 3) := by decide +kernel
theorem dX5_findPoints_46 : decode cX5_findPoints 46 = .ok (.aload_n 0, 1) := by decide +kernel
theorem dX5_findPoints_47 : decode cX5_findPoints 47 = .ok (.iload_n 2, 1) := by decide +kernel
theorem dX5_findPoints_48 : decode cX5_findPoints 48 = .ok (.iload_n 2, 1) := by decide +kernel
theorem dX5_findPoints_49 : decode cX5_findPoints 49 = .ok (.imul, 1) := by decide +kernel
theorem dX5_findPoints_50 : decode cX5_findPoints 50 = .ok (.invokevirtual 96, 3) := by decide +kernel
theorem dX5_findPoints_53 : decode cX5_findPoints 53 = .ok (.iinc 3 1, 3) := by decide +kernel
theorem dX5_findPoints_56 : decode cX5_findPoints 56 = .ok (.goto (-41), 3) := by decide +kernel
theorem dX5_findPoints_59 : decode cX5_findPoints 59 = .ok (.aload_n 0, 1) := by decide +kernel
theorem dX5_findPoints_60 : decode cX5_findPoints 60 = .ok (.getfield 58, 3) := by decide +kernel
theorem dX5_findPoints_63 : decode cX5_findPoints 63 = .ok (.iconst 0, 1) := by decide +kernel
theorem dX5_findPoints_64 : decode cX5_findPoints 64 = .ok (.iconst 0, 1) := by decide +kernel
theorem dX5_findPoints_65 : decode cX5_findPoints 65 = .ok (.iconst 1, 1) := by decide +kernel
theorem dX5_findPoints_66 : decode cX5_findPoints 66 = .ok (.invokevirtual 85, 3) := by decide +kernel
theorem dX5_findPoints_69 : decode cX5_findPoints 69 = .ok (.aload_n 0, 1) := by decide +kernel
theorem dX5_findPoints_70 : decode cX5_findPoints 70 = .ok (.getfield 51, 3) := by decide +kernel
theorem dX5_findPoints_73 : decode cX5_findPoints 73 = .ok (.aload_n 1, 1) := by decide +kernel
theorem dX5_findPoints_74 : decode cX5_findPoints 74 = .ok (.aload_n 0, 1) := by decide +kernel
theorem dX5_findPoints_75 : decode cX5_findPoints 75 = .ok (.getfield 58, 3) := by decide +kernel
theorem dX5_findPoints_78 : decode cX5_findPoints 78 = .ok (.invokevirtual 89, 3) := by decide +kernel
theorem dX5_findPoints_81 : decode cX5_findPoints 81 = .ok (.invokevirtual 92, 3) := by decide +kernel
theorem dX5_findPoints_84 : decode cX5_findPoints 84 = .ok (.aload_n 0, 1) := by decide +kernel
theorem dX5_findPoints_85 : decode cX5_findPoints 85 = .ok (.iload_n 2, 1) := by decide +kernel
theorem dX5_findPoints_86 : decode cX5_findPoints 86 = .ok (.iload_n 2, 1) := by decide +kernel
theorem dX5_findPoints_87 : decode cX5_findPoints 87 = .ok (.imul, 1) := by decide +kernel
theorem dX5_findPoints_88 : decode cX5_findPoints 88 = .ok (.iload_n 2, 1) := by decide +kernel
theorem dX5_findPoints_89 : decode cX5_findPoints 89 = .ok (.iadd, 1) := by decide +kernel
theorem dX5_findPoints_90 : decode cX5_findPoints 90 = .ok (.iconst 1, 1) := by decide +kernel
theorem dX5_findPoints_91 : decode cX5_findPoints 91 = .ok (.iadd, 1) := by decide +kernel
theorem dX5_findPoints_92 : decode cX5_findPoints 92 = .ok (.invokevirtual 96, 3) := by decide +kernel
theorem dX5_findPoints_95 : decode cX5_findPoints 95 = .ok (.return_, 1) := by decide +kernel
set_option maxRecDepth 20000 in
theorem ggX5_addPoints_X3_size : GoodIn wsX5_addPoints wsX3_size := goodIn_sub (List.forall_mem_cons.mpr ⟨(List.mem_cons_of_mem _ (List.mem_append_left _ (List.mem_append_left _ (List.mem_of_getElem? (i := 7) rfl)))), (x_ap2 (List.forall_mem_cons.mpr ⟨(List.mem_cons_of_mem _ (List.mem_append_left _ (List.mem_append_left _ (List.mem_of_getElem? (i := 8) rfl)))), (fun _ h => absurd h List.not_mem_nil)⟩) (fun _ h => (List.mem_cons_of_mem _ (List.mem_append_right _ h))))⟩) (by decide +kernel)
set_option maxRecDepth 20000 in
theorem gX5_addPoints_X3_size : GoodIn wsX5_addPoints (wsV RX5 100 RX3 yX3_size wsX3_size) := goodIn_app (goodIn_of _ (by decide +kernel)) ggX5_addPoints_X3_size
set_option maxRecDepth 20000 in
theorem ggX5_addPoints_X3_keyAt : GoodIn wsX5_addPoints wsX3_keyAt := goodIn_sub (List.forall_mem_cons.mpr ⟨(List.mem_cons_of_mem _ (List.mem_append_left _ (List.mem_append_left _ (List.mem_of_getElem? (i := 12) rfl)))), (x_ap2 (List.forall_mem_cons.mpr ⟨(List.mem_cons_of_mem _ (List.mem_append_left _ (List.mem_append_left _ (List.mem_of_getElem? (i := 13) rfl)))), (List.forall_mem_cons.mpr ⟨(List.mem_cons_of_mem _ (List.mem_append_left _ (List.mem_append_left _ (List.mem_of_getElem? (i := 14) rfl)))), (fun _ h => absurd h List.not_mem_nil)⟩)⟩) (fun _ h => (List.mem_cons_of_mem _ (List.mem_append_right _ h))))⟩) (by decide +kernel)
set_option maxRecDepth 20000 in
theorem gX5_addPoints_X3_keyAt : GoodIn wsX5_addPoints (wsV RX5 103 RX3 yX3_keyAt wsX3_keyAt) := goodIn_app (goodIn_of _ (by decide +kernel)) ggX5_addPoints_X3_keyAt
theorem dX5_addPoints_0 : decode cX5_addPoints 0 = .ok (.iconst 0, 1) := by decide +kernel
theorem dX5_addPoints_1 : decode cX5_addPoints 1 = .ok (.istore_n 2, 1) := by decide +kernel
theorem dX5_addPoints_2 : decode cX5_addPoints 2 = .ok (.iload_n 2, 1) := by decide +kernel
theorem dX5_addPoints_3 : decode cX5_addPoints 3 = .ok (.aload_n 0, 1) := by decide +kernel
theorem dX5_addPoints_4 : decode cX5_addPoints 4 = .ok (.getfield 51, 3) := by decide +kernel
theorem dX5_addPoints_7 : decode cX5_addPoints 7 = .ok (.invokevirtual 100, 3) := by decide +kernel
theorem dX5_addPoints_10 : decode cX5_addPoints 10 = .ok (.if_icmp .ge 58, 3) := by decide +kernel
theorem dX5_addPoints_13 : decode cX5_addPoints 13 = .ok (.aload_n 0, 1) := by decide +kernel
theorem dX5_addPoints_14 : decode cX5_addPoints 14 = .ok (.getfield 51, 3) := by decide +kernel
theorem dX5_addPoints_17 : decode cX5_addPoints 17 = .ok (.iload_n 2, 1) := by decide +kernel
theorem dX5_addPoints_18 : decode cX5_addPoints 18 = .ok (.invokevirtual 103, 3) := by decide +kernel
theorem dX5_addPoints_21 : decode cX5_addPoints 21 = .ok (.iload_n 1, 1) := by decide +kernel
theorem dX5_addPoints_22 : decode cX5_addPoints 22 = .ok (.if_icmp .ge 40, 3) := by decide +kernel
theorem dX5_addPoints_25 : decode cX5_addPoints 25 = .ok (.aload_n 0, 1) := by decide +kernel
theorem dX5_addPoints_26 : decode cX5_addPoints 26 = .ok (.getfield 62, 3) := by decide +kernel
theorem dX5_addPoints_29 : decode cX5_addPoints 29 = .ok (.sipush 200, 3) := by decide +kernel
theorem dX5_addPoints_32 : decode cX5_addPoints 32 = .ok (.if_icmp .ge 30, 3) := by decide +kernel
theorem dX5_addPoints_35 : decode cX5_addPoints 35 = .ok (.aload_n 0, 1) := by decide +kernel
theorem dX5_addPoints_36 : decode cX5_addPoints 36 = .ok (.getfield 11, 3) := by decide +kernel
theorem dX5_addPoints_39 : decode cX5_addPoints 39 = .ok (.aload_n 0, 1) := by decide +kernel
theorem dX5_addPoints_40 : decode cX5_addPoints 40 = .ok (.getfield 62, 3) := by decide +kernel
theorem dX5_addPoints_43 : decode cX5_addPoints 43 = .ok (.aload_n 0, 1) := by decide +kernel
theorem dX5_addPoints_44 : decode cX5_addPoints 44 = .ok (.getfield 51, 3) := by decide +kernel
theorem dX5_addPoints_47 : decode cX5_addPoints 47 = .ok (.iload_n 2, 1) := by decide +kernel
theorem dX5_addPoints_48 : decode cX5_addPoints 48 = .ok (.invokevirtual 103, 3) := by decide +kernel
theorem dX5_addPoints_51 : decode cX5_addPoints 51 = .ok (.iastore, 1) := by decide +kernel
theorem dX5_addPoints_52 : decode cX5_addPoints 52 = .ok (.aload_n 0, 1) := by decide +kernel
theorem dX5_addPoints_53 : decode cX5_addPoints 53 = .ok (.dup, 1) := by decide +kernel
theorem dX5_addPoints_54 : decode cX5_addPoints 54 = .ok (.getfield 62, 3) := by decide +kernel
theorem dX5_addPoints_57 : decode cX5_addPoints 57 = .ok (.iconst 1, 1) := by decide +kernel
theorem dX5_addPoints_58 : decode cX5_addPoints 58 = .ok (.iadd, 1) := by decide +kernel
theorem dX5_addPoints_59 : decode cX5_addPoints 59 = .ok (.putfield 62, 3) := by decide +kernel
theorem dX5_addPoints_62 : decode cX5_addPoints 62 = .ok (.iinc 2 1, 3) := by decide +kernel
theorem dX5_addPoints_65 : decode cX5_addPoints 65 = .ok (.goto (-63), 3) := by decide +kernel
theorem dX5_addPoints_68 : decode cX5_addPoints 68 = .ok (.return_, 1) := by decide +kernel
theorem ip_wsX5_findFlags__wsX5_findFlags_r1 : ∀ w ∈ wsX5_findFlags_r1, w ∈ wsX5_findFlags := fun _ h => (List.mem_cons_of_mem _ (List.mem_append_left _ (List.mem_append_left _ (List.mem_append_left _ (List.mem_append_left _ (List.mem_append_left _ (List.mem_append_left _ h)))))))
theorem ip_wsX5_findFlags__wsX5_findFlags_r2 : ∀ w ∈ wsX5_findFlags_r2, w ∈ wsX5_findFlags := fun _ h => (List.mem_cons_of_mem _ (List.mem_append_left _ (List.mem_append_left _ (List.mem_append_left _ (List.mem_append_left _ (List.mem_append_left _ (List.mem_append_right _ (List.mem_append_left _ h))))))))
theorem ip_wsX5_findFlags__wsX5_findFlags_r3 : ∀ w ∈ wsX5_findFlags_r3, w ∈ wsX5_findFlags := fun _ h => (List.mem_cons_of_mem _ (List.mem_append_left _ (List.mem_append_left _ (List.mem_append_left _ (List.mem_append_left _ (List.mem_append_left _ (List.mem_append_right _ (List.mem_append_right _ (List.mem_append_left _ h)))))))))
theorem ip_wsX5_findFlags__wsX5_findFlags_r4 : ∀ w ∈ wsX5_findFlags_r4, w ∈ wsX5_findFlags := fun _ h => (List.mem_cons_of_mem _ (List.mem_append_left _ (List.mem_append_left _ (List.mem_append_left _ (List.mem_append_left _ (List.mem_append_left _ (List.mem_append_right _ (List.mem_append_right _ (List.mem_append_right _ (List.mem_append_left _ h))))))))))
theorem ip_wsX5_findFlags__wsX5_findFlags_r5 : ∀ w ∈ wsX5_findFlags_r5, w ∈ wsX5_findFlags := fun _ h => (List.mem_cons_of_mem _ (List.mem_append_left _ (List.mem_append_left _ (List.mem_append_left _ (List.mem_append_left _ (List.mem_append_left _ (List.mem_append_right _ (List.mem_append_right _ (List.mem_append_right _ (List.mem_append_right _ h))))))))))
set_option maxRecDepth 20000 in
theorem ggX5_findFlags_X3_find : GoodIn wsX5_findFlags wsX3_find := goodIn_sub (List.forall_mem_cons.mpr ⟨(ip_wsX5_findFlags__wsX5_findFlags_r1 _ (List.mem_of_getElem? (i := 11) rfl)), (x_ap2 (x_ap2 (x_ap2 (x_ap2 (x_ap2 (show ∀ w ∈ wsX3_find_r1, w ∈ wsX5_findFlags from (List.forall_mem_cons.mpr ⟨(ip_wsX5_findFlags__wsX5_findFlags_r1 _ (List.mem_of_getElem? (i := 12) rfl)), (List.forall_mem_cons.mpr ⟨(ip_wsX5_findFlags__wsX5_findFlags_r1 _ (List.mem_of_getElem? (i := 13) rfl)), (List.forall_mem_cons.mpr ⟨(ip_wsX5_findFlags__wsX5_findFlags_r1 _ (List.mem_of_getElem? (i := 14) rfl)), (List.forall_mem_cons.mpr ⟨(ip_wsX5_findFlags__wsX5_findFlags_r1 _ (List.mem_of_getElem? (i := 15) rfl)), (List.forall_mem_cons.mpr ⟨(ip_wsX5_findFlags__wsX5_findFlags_r1 _ (List.mem_of_getElem? (i := 16) rfl)), (List.forall_mem_cons.mpr ⟨(ip_wsX5_findFlags__wsX5_findFlags_r1 _ (List.mem_of_getElem? (i := 17) rfl)), (List.forall_mem_cons.mpr ⟨(ip_wsX5_findFlags__wsX5_findFlags_r1 _ (List.mem_of_getElem? (i := 18) rfl)), (List.forall_mem_cons.mpr ⟨(ip_wsX5_findFlags__wsX5_findFlags_r1 _ (List.mem_of_getElem? (i := 10) rfl)), (List.forall_mem_cons.mpr ⟨(ip_wsX5_findFlags__wsX5_findFlags_r1 _ (List.mem_of_getElem? (i := 19) rfl)), (List.forall_mem_cons.mpr ⟨(ip_wsX5_findFlags__wsX5_findFlags_r1 _ (List.mem_of_getElem? (i := 20) rfl)), (List.forall_mem_cons.mpr ⟨(ip_wsX5_findFlags__wsX5_findFlags_r1 _ (List.mem_of_getElem? (i := 21) rfl)), (List.forall_mem_cons.mpr ⟨(ip_wsX5_findFlags__wsX5_findFlags_r1 _ (List.mem_of_getElem? (i := 22) rfl)), (List.forall_mem_cons.mpr ⟨(ip_wsX5_findFlags__wsX5_findFlags_r1 _ (List.mem_of_getElem? (i := 23) rfl)), (List.forall_mem_cons.mpr ⟨(ip_wsX5_findFlags__wsX5_findFlags_r2 _ (List.mem_of_getElem? (i := 0) rfl)), (List.forall_mem_cons.mpr ⟨(ip_wsX5_findFlags__wsX5_findFlags_r2 _ (List.mem_of_getElem? (i := 1) rfl)), (List.forall_mem_cons.mpr ⟨(ip_wsX5_findFlags__wsX5_findFlags_r2 _ (List.mem_of_getElem? (i := 2) rfl)), (List.forall_mem_cons.mpr ⟨(ip_wsX5_findFlags__wsX5_findFlags_r2 _ (List.mem_of_getElem? (i := 3) rfl)), (List.forall_mem_cons.mpr ⟨(ip_wsX5_findFlags__wsX5_findFlags_r2 _ (List.mem_of_getElem? (i := 4) rfl)), (List.forall_mem_cons.mpr ⟨(ip_wsX5_findFlags__wsX5_findFlags_r2 _ (List.mem_of_getElem? (i := 5) rfl)), (List.forall_mem_cons.mpr ⟨(ip_wsX5_findFlags__wsX5_findFlags_r2 _ (List.mem_of_getElem? (i := 6) rfl)), (List.forall_mem_cons.mpr ⟨(ip_wsX5_findFlags__wsX5_findFlags_r2 _ (List.mem_of_getElem? (i := 7) rfl)), (List.forall_mem_cons.mpr ⟨(ip_wsX5_findFlags__wsX5_findFlags_r2 _ (List.mem_of_getElem? (i := 8) rfl)), (List.forall_mem_cons.mpr ⟨(ip_wsX5_findFlags__wsX5_findFlags_r2 _ (List.mem_of_getElem? (i := 9) rfl)), (List.forall_mem_cons.mpr ⟨(ip_wsX5_findFlags__wsX5_findFlags_r2 _ (List.mem_of_getElem? (i := 10) rfl)), (fun _ h => absurd h List.not_mem_nil)⟩)⟩)⟩)⟩)⟩)⟩)⟩)⟩)⟩)⟩)⟩)⟩)⟩)⟩)⟩)⟩)⟩)⟩)⟩)⟩)⟩)⟩)⟩)⟩)) (x_ap2 (show ∀ w ∈ wsX3_find_r2, w ∈ wsX5_findFlags from (List.forall_mem_cons.mpr ⟨(ip_wsX5_findFlags__wsX5_findFlags_r2 _ (List.mem_of_getElem? (i := 11) rfl)), (List.forall_mem_cons.mpr ⟨(ip_wsX5_findFlags__wsX5_findFlags_r2 _ (List.mem_of_getElem? (i := 12) rfl)), (List.forall_mem_cons.mpr ⟨(ip_wsX5_findFlags__wsX5_findFlags_r2 _ (List.mem_of_getElem? (i := 13) rfl)), (List.forall_mem_cons.mpr ⟨(ip_wsX5_findFlags__wsX5_findFlags_r2 _ (List.mem_of_getElem? (i := 14) rfl)), (List.forall_mem_cons.mpr ⟨(ip_wsX5_findFlags__wsX5_findFlags_r2 _ (List.mem_of_getElem? (i := 15) rfl)), (List.forall_mem_cons.mpr ⟨(ip_wsX5_findFlags__wsX5_findFlags_r2 _ (List.mem_of_getElem? (i := 16) rfl)), (List.forall_mem_cons.mpr ⟨(ip_wsX5_findFlags__wsX5_findFlags_r2 _ (List.mem_of_getElem? (i := 17) rfl)), (List.forall_mem_cons.mpr ⟨(ip_wsX5_findFlags__wsX5_findFlags_r2 _ (List.mem_of_getElem? (i := 18) rfl)), (List.forall_mem_cons.mpr ⟨(ip_wsX5_findFlags__wsX5_findFlags_r2 _ (List.mem_of_getElem? (i := 19) rfl)), (List.forall_mem_cons.mpr ⟨(ip_wsX5_findFlags__wsX5_findFlags_r2 _ (List.mem_of_getElem? (i := 20) rfl)), (List.forall_mem_cons.mpr ⟨(ip_wsX5_findFlags__wsX5_findFlags_r2 _ (List.mem_of_getElem? (i := 21) rfl)), (List.forall_mem_cons.mpr ⟨(ip_wsX5_findFlags__wsX5_findFlags_r2 _ (List.mem_of_getElem? (i := 22) rfl)), (List.forall_mem_cons.mpr ⟨(ip_wsX5_findFlags__wsX5_findFlags_r2 _ (List.mem_of_getElem? (i := 23) rfl)), (List.forall_mem_cons.mpr ⟨(ip_wsX5_findFlags__wsX5_findFlags_r3 _ (List.mem_of_getElem? (i := 0) rfl)), (List.forall_mem_cons.mpr ⟨(ip_wsX5_findFlags__wsX5_findFlags_r3 _ (List.mem_of_getElem? (i := 1) rfl)), (List.forall_mem_cons.mpr ⟨(ip_wsX5_findFlags__wsX5_findFlags_r3 _ (List.mem_of_getElem? (i := 2) rfl)), (List.forall_mem_cons.mpr ⟨(ip_wsX5_findFlags__wsX5_findFlags_r3 _ (List.mem_of_getElem? (i := 3) rfl)), (List.forall_mem_cons.mpr ⟨(ip_wsX5_findFlags__wsX5_findFlags_r3 _ (List.mem_of_getElem? (i := 4) rfl)), (List.forall_mem_cons.mpr ⟨(ip_wsX5_findFlags__wsX5_findFlags_r3 _ (List.mem_of_getElem? (i := 5) rfl)), (List.forall_mem_cons.mpr ⟨(ip_wsX5_findFlags__wsX5_findFlags_r3 _ (List.mem_of_getElem? (i := 6) rfl)), (List.forall_mem_cons.mpr ⟨(ip_wsX5_findFlags__wsX5_findFlags_r3 _ (List.mem_of_getElem? (i := 7) rfl)), (List.forall_mem_cons.mpr ⟨(ip_wsX5_findFlags__wsX5_findFlags_r3 _ (List.mem_of_getElem? (i := 8) rfl)), (List.forall_mem_cons.mpr ⟨(ip_wsX5_findFlags__wsX5_findFlags_r3 _ (List.mem_of_getElem? (i := 9) rfl)), (List.forall_mem_cons.mpr ⟨(ip_wsX5_findFlags__wsX5_findFlags_r3 _ (List.mem_of_getElem? (i := 10) rfl)), (fun _ h => absurd h List.not_mem_nil)⟩)⟩)⟩)⟩)⟩)⟩)⟩)⟩)⟩)⟩)⟩)⟩)⟩)⟩)⟩)⟩)⟩)⟩)⟩)⟩)⟩)⟩)⟩)⟩)) (x_ap2 (show ∀ w ∈ wsX3_find_r3, w ∈ wsX5_findFlags from (List.forall_mem_cons.mpr ⟨(ip_wsX5_findFlags__wsX5_findFlags_r3 _ (List.mem_of_getElem? (i := 11) rfl)), (List.forall_mem_cons.mpr ⟨(ip_wsX5_findFlags__wsX5_findFlags_r3 _ (List.mem_of_getElem? (i := 12) rfl)), (List.forall_mem_cons.mpr ⟨(ip_wsX5_findFlags__wsX5_findFlags_r3 _ (List.mem_of_getElem? (i := 13) rfl)), (List.forall_mem_cons.mpr ⟨(ip_wsX5_findFlags__wsX5_findFlags_r3 _ (List.mem_of_getElem? (i := 14) rfl)), (List.forall_mem_cons.mpr ⟨(ip_wsX5_findFlags__wsX5_findFlags_r3 _ (List.mem_of_getElem? (i := 15) rfl)), (List.forall_mem_cons.mpr ⟨(ip_wsX5_findFlags__wsX5_findFlags_r3 _ (List.mem_of_getElem? (i := 16) rfl)), (List.forall_mem_cons.mpr ⟨(ip_wsX5_findFlags__wsX5_findFlags_r3 _ (List.mem_of_getElem? (i := 17) rfl)), (List.forall_mem_cons.mpr ⟨(ip_wsX5_findFlags__wsX5_findFlags_r3 _ (List.mem_of_getElem? (i := 18) rfl)), (List.forall_mem_cons.mpr ⟨(ip_wsX5_findFlags__wsX5_findFlags_r3 _ (List.mem_of_getElem? (i := 19) rfl)), (List.forall_mem_cons.mpr ⟨(ip_wsX5_findFlags__wsX5_findFlags_r3 _ (List.mem_of_getElem? (i := 20) rfl)), (List.forall_mem_cons.mpr ⟨(ip_wsX5_findFlags__wsX5_findFlags_r3 _ (List.mem_of_getElem? (i := 21) rfl)), (List.forall_mem_cons.mpr ⟨(ip_wsX5_findFlags__wsX5_findFlags_r3 _ (List.mem_of_getElem? (i := 22) rfl)), (List.forall_mem_cons.mpr ⟨(ip_wsX5_findFlags__wsX5_findFlags_r3 _ (List.mem_of_getElem? (i := 23) rfl)), (List.forall_mem_cons.mpr ⟨(ip_wsX5_findFlags__wsX5_findFlags_r4 _ (List.mem_of_getElem? (i := 0) rfl)), (List.forall_mem_cons.mpr ⟨(ip_wsX5_findFlags__wsX5_findFlags_r4 _ (List.mem_of_getElem? (i := 1) rfl)), (List.forall_mem_cons.mpr ⟨(ip_wsX5_findFlags__wsX5_findFlags_r4 _ (List.mem_of_getElem? (i := 2) rfl)), (List.forall_mem_cons.mpr ⟨(ip_wsX5_findFlags__wsX5_findFlags_r4 _ (List.mem_of_getElem? (i := 3) rfl)), (List.forall_mem_cons.mpr ⟨(ip_wsX5_findFlags__wsX5_findFlags_r4 _ (List.mem_of_getElem? (i := 4) rfl)), (List.forall_mem_cons.mpr ⟨(ip_wsX5_findFlags__wsX5_findFlags_r4 _ (List.mem_of_getElem? (i := 5) rfl)), (List.forall_mem_cons.mpr ⟨(ip_wsX5_findFlags__wsX5_findFlags_r4 _ (List.mem_of_getElem? (i := 6) rfl)), (List.forall_mem_cons.mpr ⟨(ip_wsX5_findFlags__wsX5_findFlags_r4 _ (List.mem_of_getElem? (i := 7) rfl)), (List.forall_mem_cons.mpr ⟨(ip_wsX5_findFlags__wsX5_findFlags_r4 _ (List.mem_of_getElem? (i := 8) rfl)), (List.forall_mem_cons.mpr ⟨(ip_wsX5_findFlags__wsX5_findFlags_r4 _ (List.mem_of_getElem? (i := 9) rfl)), (List.forall_mem_cons.mpr ⟨(ip_wsX5_findFlags__wsX5_findFlags_r4 _ (List.mem_of_getElem? (i := 10) rfl)), (fun _ h => absurd h List.not_mem_nil)⟩)⟩)⟩)⟩)⟩)⟩)⟩)⟩)⟩)⟩)⟩)⟩)⟩)⟩)⟩)⟩)⟩)⟩)⟩)⟩)⟩)⟩)⟩)⟩)) (show ∀ w ∈ wsX3_find_r4, w ∈ wsX5_findFlags from (List.forall_mem_cons.mpr ⟨(ip_wsX5_findFlags__wsX5_findFlags_r4 _ (List.mem_of_getElem? (i := 11) rfl)), (List.forall_mem_cons.mpr ⟨(ip_wsX5_findFlags__wsX5_findFlags_r4 _ (List.mem_of_getElem? (i := 12) rfl)), (List.forall_mem_cons.mpr ⟨(ip_wsX5_findFlags__wsX5_findFlags_r4 _ (List.mem_of_getElem? (i := 13) rfl)), (List.forall_mem_cons.mpr ⟨(ip_wsX5_findFlags__wsX5_findFlags_r4 _ (List.mem_of_getElem? (i := 14) rfl)), (List.forall_mem_cons.mpr ⟨(ip_wsX5_findFlags__wsX5_findFlags_r4 _ (List.mem_of_getElem? (i := 15) rfl)), (List.forall_mem_cons.mpr ⟨(ip_wsX5_findFlags__wsX5_findFlags_r4 _ (List.mem_of_getElem? (i := 16) rfl)), (List.forall_mem_cons.mpr ⟨(ip_wsX5_findFlags__wsX5_findFlags_r4 _ (List.mem_of_getElem? (i := 17) rfl)), (List.forall_mem_cons.mpr ⟨(ip_wsX5_findFlags__wsX5_findFlags_r4 _ (List.mem_of_getElem? (i := 18) rfl)), (fun _ h => absurd h List.not_mem_nil)⟩)⟩)⟩)⟩)⟩)⟩)⟩)⟩))))) (fun _ h => (List.mem_cons_of_mem _ (List.mem_append_left _ (List.mem_append_left _ (List.mem_append_left _ (List.mem_append_right _ h))))))) (fun _ h => (List.mem_cons_of_mem _ (List.mem_append_left _ (List.mem_append_left _ (List.mem_append_right _ h)))))) (fun _ h => (List.mem_cons_of_mem _ (List.mem_append_left _ (List.mem_append_right _ h))))) (fun _ h => (List.mem_cons_of_mem _ (List.mem_append_right _ h))))⟩) (by decide +kernel)
set_option maxRecDepth 20000 in
theorem gX5_findFlags_X3_find : GoodIn wsX5_findFlags (wsV RX5 92 RX3 yX3_find wsX3_find) := goodIn_app (goodIn_of _ (by decide +kernel)) ggX5_findFlags_X3_find
set_option maxRecDepth 20000 in
theorem ggX5_findFlags_X3_size : GoodIn wsX5_findFlags wsX3_size := goodIn_sub (List.forall_mem_cons.mpr ⟨(ip_wsX5_findFlags__wsX5_findFlags_r4 _ (List.mem_of_getElem? (i := 22) rfl)), (x_ap2 (List.forall_mem_cons.mpr ⟨(ip_wsX5_findFlags__wsX5_findFlags_r1 _ (List.mem_of_getElem? (i := 12) rfl)), (fun _ h => absurd h List.not_mem_nil)⟩) (fun _ h => (List.mem_cons_of_mem _ (List.mem_append_left _ (List.mem_append_left _ (List.mem_append_left _ (List.mem_append_right _ h)))))))⟩) (by decide +kernel)
set_option maxRecDepth 20000 in
theorem gX5_findFlags_X3_size : GoodIn wsX5_findFlags (wsV RX5 100 RX3 yX3_size wsX3_size) := goodIn_app (goodIn_of _ (by decide +kernel)) ggX5_findFlags_X3_size
set_option maxRecDepth 20000 in
theorem ggX5_findFlags_X3_keyAt : GoodIn wsX5_findFlags wsX3_keyAt := goodIn_sub (List.forall_mem_cons.mpr ⟨(ip_wsX5_findFlags__wsX5_findFlags_r5 _ (List.mem_of_getElem? (i := 2) rfl)), (x_ap2 (List.forall_mem_cons.mpr ⟨(ip_wsX5_findFlags__wsX5_findFlags_r3 _ (List.mem_of_getElem? (i := 22) rfl)), (List.forall_mem_cons.mpr ⟨(ip_wsX5_findFlags__wsX5_findFlags_r3 _ (List.mem_of_getElem? (i := 23) rfl)), (fun _ h => absurd h List.not_mem_nil)⟩)⟩) (fun _ h => (List.mem_cons_of_mem _ (List.mem_append_left _ (List.mem_append_left _ (List.mem_append_left _ (List.mem_append_right _ h)))))))⟩) (by decide +kernel)
set_option maxRecDepth 20000 in
theorem gX5_findFlags_X3_keyAt : GoodIn wsX5_findFlags (wsV RX5 103 RX3 yX3_keyAt wsX3_keyAt) := goodIn_app (goodIn_of _ (by decide +kernel)) ggX5_findFlags_X3_keyAt
theorem dX5_findFlags_0 : decode cX5_findFlags 0 = .ok (.aload_n 0, 1) := by decide +kernel
theorem dX5_findFlags_1 : decode cX5_findFlags 1 = .ok (.iconst 0, 1) := by decide +kernel
theorem dX5_findFlags_2 : decode cX5_findFlags 2 = .ok (.putfield 66, 3) := by decide +kernel
theorem dX5_findFlags_5 : decode cX5_findFlags 5 = .ok (.iconst 0, 1) := by decide +kernel
theorem dX5_findFlags_6 : decode cX5_findFlags 6 = .ok (.istore_n 2, 1) := by decide +kernel
theorem dX5_findFlags_7 : decode cX5_findFlags 7 = .ok (.iload_n 2, 1) := by decide +kernel
theorem dX5_findFlags_8 : decode cX5_findFlags 8 = .ok (.aload_n 0, 1) := by decide +kernel
theorem dX5_findFlags_9 : decode cX5_findFlags 9 = .ok (.getfield 62, 3) := by decide +kernel
theorem dX5_findFlags_12 : decode cX5_findFlags 12 = .ok (.if_icmp .ge 99, 3) := by decide +kernel
theorem dX5_findFlags_15 : decode cX5_findFlags 15 = .ok (.aload_n 0, 1) := by decide +kernel
theorem dX5_findFlags_16 : decode cX5_findFlags 16 = .ok (.getfield 15, 3) := by decide +kernel
theorem dX5_findFlags_19 : decode cX5_findFlags 19 = .ok (.iload_n 2, 1) := by decide +kernel
theorem dX5_findFlags_20 : decode cX5_findFlags 20 = .ok (.aload_n 0, 1) := by decide +kernel
theorem dX5_findFlags_21 : decode cX5_findFlags 21 = .ok (.getfield 66, 3) := by decide +kernel
theorem dX5_findFlags_24 : decode cX5_findFlags 24 = .ok (.iastore, 1) := by decide +kernel
theorem dX5_findFlags_25 : decode cX5_findFlags 25 = .ok (.aload_n 0, 1) := by decide +kernel
theorem dX5_findFlags_26 : decode cX5_findFlags 26 = .ok (.getfield 51, 3) := by decide +kernel
theorem dX5_findFlags_29 : decode cX5_findFlags 29 = .ok (.aload_n 1, 1) := by decide +kernel
theorem dX5_findFlags_30 : decode cX5_findFlags 30 = .ok (.aload_n 0, 1) := by decide +kernel
theorem dX5_findFlags_31 : decode cX5_findFlags 31 = .ok (.getfield 11, 3) := by decide +kernel
theorem dX5_findFlags_34 : decode cX5_findFlags 34 = .ok (.iload_n 2, 1) := by decide +kernel
theorem dX5_findFlags_35 : decode cX5_findFlags 35 = .ok (.iaload, 1) := by decide +kernel
theorem dX5_findFlags_36 : decode cX5_findFlags 36 = .ok (.invokevirtual 92, 3) := by decide +kernel
theorem dX5_findFlags_39 : decode cX5_findFlags 39 = .ok (.iconst 0, 1) := by decide +kernel
theorem dX5_findFlags_40 : decode cX5_findFlags 40 = .ok (.istore_n 3, 1) := by decide +kernel
theorem dX5_findFlags_41 : decode cX5_findFlags 41 = .ok (.iload_n 3, 1) := by decide +kernel
theorem dX5_findFlags_42 : decode cX5_findFlags 42 = .ok (.aload_n 0, 1) := by decide +kernel
theorem dX5_findFlags_43 : decode cX5_findFlags 43 = .ok (.getfield 51, 3) := by decide +kernel
theorem dX5_findFlags_46 : decode cX5_findFlags 46 = .ok (.invokevirtual 100, 3) := by decide +kernel
theorem dX5_findFlags_49 : decode cX5_findFlags 49 = .ok (.if_icmp .ge 56, 3) := by decide +kernel
theorem dX5_findFlags_52 : decode cX5_findFlags 52 = .ok (.aload_n 0, 1) := by decide +kernel
theorem dX5_findFlags_53 : decode cX5_findFlags 53 = .ok (.getfield 66, 3) := by decide +kernel
theorem dX5_findFlags_56 : decode cX5_findFlags 56 = .ok (.sipush 400, 3) := by decide +kernel
theorem dX5_findFlags_59 : decode cX5_findFlags 59 = .ok (.if_icmp .ge 46, 3) := by decide +kernel
theorem dX5_findFlags_62 : decode cX5_findFlags 62 = .ok (.aload_n 0, 1) := by decide +kernel
theorem dX5_findFlags_63 : decode cX5_findFlags 63 = .ok (.getfield 18, 3) := by decide +kernel
theorem dX5_findFlags_66 : decode cX5_findFlags 66 = .ok (.aload_n 0, 1) := by decide +kernel
theorem dX5_findFlags_67 : decode cX5_findFlags 67 = .ok (.getfield 66, 3) := by decide +kernel
theorem dX5_findFlags_70 : decode cX5_findFlags 70 = .ok (.iload_n 2, 1) := by decide +kernel
theorem dX5_findFlags_71 : decode cX5_findFlags 71 = .ok (.iastore, 1) := by decide +kernel
theorem dX5_findFlags_72 : decode cX5_findFlags 72 = .ok (.aload_n 0, 1) := by decide +kernel
theorem dX5_findFlags_73 : decode cX5_findFlags 73 = .ok (.getfield 21, 3) := by decide +kernel
theorem dX5_findFlags_76 : decode cX5_findFlags 76 = .ok (.aload_n 0, 1) := by decide +kernel
theorem dX5_findFlags_77 : decode cX5_findFlags 77 = .ok (.getfield 66, 3) := by decide +kernel
theorem dX5_findFlags_80 : decode cX5_findFlags 80 = .ok (.aload_n 0, 1) := by decide +kernel
theorem dX5_findFlags_81 : decode cX5_findFlags 81 = .ok (.getfield 51, 3) := by decide +kernel
theorem dX5_findFlags_84 : decode cX5_findFlags 84 = .ok (.iload_n 3, 1) := by decide +kernel
theorem dX5_findFlags_85 : decode cX5_findFlags 85 = .ok (.invokevirtual 103, 3) := by decide +kernel
theorem dX5_findFlags_88 : decode cX5_findFlags 88 = .ok (.iastore, 1) := by decide +kernel
theorem dX5_findFlags_89 : decode cX5_findFlags 89 = .ok (.aload_n 0, 1) := by decide +kernel
theorem dX5_findFlags_90 : decode cX5_findFlags 90 = .ok (.dup, 1) := by decide +kernel
theorem dX5_findFlags_91 : decode cX5_findFlags 91 = .ok (.getfield 66, 3) := by decide +kernel
theorem dX5_findFlags_94 : decode cX5_findFlags 94 = .ok (.iconst 1, 1) := by decide +kernel
theorem dX5_findFlags_95 : decode cX5_findFlags 95 = .ok (.iadd, 1) := by decide +kernel
theorem dX5_findFlags_96 : decode cX5_findFlags 96 = .ok (.putfield 66, 3) := by decide +kernel
theorem dX5_findFlags_99 : decode cX5_findFlags 99 = .ok (.iinc 3 1, 3) := by decide +kernel
theorem dX5_findFlags_102 : decode cX5_findFlags 102 = .ok (.goto (-61), 3) := by decide +kernel
theorem dX5_findFlags_105 : decode cX5_findFlags 105 = .ok (.iinc 2 1, 3) := by decide +kernel
theorem dX5_findFlags_108 : decode cX5_findFlags 108 = .ok (.goto (-101), 3) := by decide +kernel
theorem dX5_findFlags_111 : decode cX5_findFlags 111 = .ok (.aload_n 0, 1) := by decide +kernel
theorem dX5_findFlags_112 : decode cX5_findFlags 112 = .ok (.getfield 15, 3) := by decide +kernel
theorem dX5_findFlags_115 : decode cX5_findFlags 115 = .ok (.aload_n 0, 1) := by decide +kernel
theorem dX5_findFlags_116 : decode cX5_findFlags 116 = .ok (.getfield 62, 3) := by decide +kernel
theorem dX5_findFlags_119 : decode cX5_findFlags 119 = .ok (.aload_n 0, 1) := by decide +kernel
theorem dX5_findFlags_120 : decode cX5_findFlags 120 = .ok (.getfield 66, 3) := by decide +kernel
theorem dX5_findFlags_123 : decode cX5_findFlags 123 = .ok (.iastore, 1) := by decide +kernel
theorem dX5_findFlags_124 : decode cX5_findFlags 124 = .ok (.return_, 1) := by decide +kernel
theorem ip_wsX5_findSteps__wsX5_findSteps_r1 : ∀ w ∈ wsX5_findSteps_r1, w ∈ wsX5_findSteps := fun _ h => (List.mem_cons_of_mem _ (List.mem_append_left _ (List.mem_append_left _ (List.mem_append_left _ (List.mem_append_left _ (List.mem_append_left _ (List.mem_append_left _ h)))))))
theorem ip_wsX5_findSteps__wsX5_findSteps_r2 : ∀ w ∈ wsX5_findSteps_r2, w ∈ wsX5_findSteps := fun _ h => (List.mem_cons_of_mem _ (List.mem_append_left _ (List.mem_append_left _ (List.mem_append_left _ (List.mem_append_left _ (List.mem_append_left _ (List.mem_append_right _ (List.mem_append_left _ h))))))))
theorem ip_wsX5_findSteps__wsX5_findSteps_r3 : ∀ w ∈ wsX5_findSteps_r3, w ∈ wsX5_findSteps := fun _ h => (List.mem_cons_of_mem _ (List.mem_append_left _ (List.mem_append_left _ (List.mem_append_left _ (List.mem_append_left _ (List.mem_append_left _ (List.mem_append_right _ (List.mem_append_right _ (List.mem_append_left _ h)))))))))
theorem ip_wsX5_findSteps__wsX5_findSteps_r4 : ∀ w ∈ wsX5_findSteps_r4, w ∈ wsX5_findSteps := fun _ h => (List.mem_cons_of_mem _ (List.mem_append_left _ (List.mem_append_left _ (List.mem_append_left _ (List.mem_append_left _ (List.mem_append_left _ (List.mem_append_right _ (List.mem_append_right _ (List.mem_append_right _ (List.mem_append_left _ h))))))))))
theorem ip_wsX5_findSteps__wsX5_findSteps_r5 : ∀ w ∈ wsX5_findSteps_r5, w ∈ wsX5_findSteps := fun _ h => (List.mem_cons_of_mem _ (List.mem_append_left _ (List.mem_append_left _ (List.mem_append_left _ (List.mem_append_left _ (List.mem_append_left _ (List.mem_append_right _ (List.mem_append_right _ (List.mem_append_right _ (List.mem_append_right _ h))))))))))
set_option maxRecDepth 20000 in
theorem ggX5_findSteps_X3_find : GoodIn wsX5_findSteps wsX3_find := goodIn_sub (List.forall_mem_cons.mpr ⟨(ip_wsX5_findSteps__wsX5_findSteps_r1 _ (List.mem_of_getElem? (i := 11) rfl)), (x_ap2 (x_ap2 (x_ap2 (x_ap2 (x_ap2 (show ∀ w ∈ wsX3_find_r1, w ∈ wsX5_findSteps from (List.forall_mem_cons.mpr ⟨(ip_wsX5_findSteps__wsX5_findSteps_r1 _ (List.mem_of_getElem? (i := 12) rfl)), (List.forall_mem_cons.mpr ⟨(ip_wsX5_findSteps__wsX5_findSteps_r1 _ (List.mem_of_getElem? (i := 13) rfl)), (List.forall_mem_cons.mpr ⟨(ip_wsX5_findSteps__wsX5_findSteps_r1 _ (List.mem_of_getElem? (i := 14) rfl)), (List.forall_mem_cons.mpr ⟨(ip_wsX5_findSteps__wsX5_findSteps_r1 _ (List.mem_of_getElem? (i := 15) rfl)), (List.forall_mem_cons.mpr ⟨(ip_wsX5_findSteps__wsX5_findSteps_r1 _ (List.mem_of_getElem? (i := 16) rfl)), (List.forall_mem_cons.mpr ⟨(ip_wsX5_findSteps__wsX5_findSteps_r1 _ (List.mem_of_getElem? (i := 17) rfl)), (List.forall_mem_cons.mpr ⟨(ip_wsX5_findSteps__wsX5_findSteps_r1 _ (List.mem_of_getElem? (i := 18) rfl)), (List.forall_mem_cons.mpr ⟨(ip_wsX5_findSteps__wsX5_findSteps_r1 _ (List.mem_of_getElem? (i := 10) rfl)), (List.forall_mem_cons.mpr ⟨(ip_wsX5_findSteps__wsX5_findSteps_r1 _ (List.mem_of_getElem? (i := 19) rfl)), (List.forall_mem_cons.mpr ⟨(ip_wsX5_findSteps__wsX5_findSteps_r1 _ (List.mem_of_getElem? (i := 20) rfl)), (List.forall_mem_cons.mpr ⟨(ip_wsX5_findSteps__wsX5_findSteps_r1 _ (List.mem_of_getElem? (i := 21) rfl)), (List.forall_mem_cons.mpr ⟨(ip_wsX5_findSteps__wsX5_findSteps_r1 _ (List.mem_of_getElem? (i := 22) rfl)), (List.forall_mem_cons.mpr ⟨(ip_wsX5_findSteps__wsX5_findSteps_r1 _ (List.mem_of_getElem? (i := 23) rfl)), (List.forall_mem_cons.mpr ⟨(ip_wsX5_findSteps__wsX5_findSteps_r2 _ (List.mem_of_getElem? (i := 0) rfl)), (List.forall_mem_cons.mpr ⟨(ip_wsX5_findSteps__wsX5_findSteps_r2 _ (List.mem_of_getElem? (i := 1) rfl)), (List.forall_mem_cons.mpr ⟨(ip_wsX5_findSteps__wsX5_findSteps_r2 _ (List.mem_of_getElem? (i := 2) rfl)), (List.forall_mem_cons.mpr ⟨(ip_wsX5_findSteps__wsX5_findSteps_r2 _ (List.mem_of_getElem? (i := 3) rfl)), (List.forall_mem_cons.mpr ⟨(ip_wsX5_findSteps__wsX5_findSteps_r2 _ (List.mem_of_getElem? (i := 4) rfl)), (List.forall_mem_cons.mpr ⟨(ip_wsX5_findSteps__wsX5_findSteps_r2 _ (List.mem_of_getElem? (i := 5) rfl)), (List.forall_mem_cons.mpr ⟨(ip_wsX5_findSteps__wsX5_findSteps_r2 _ (List.mem_of_getElem? (i := 6) rfl)), (List.forall_mem_cons.mpr ⟨(ip_wsX5_findSteps__wsX5_findSteps_r2 _ (List.mem_of_getElem? (i := 7) rfl)), (List.forall_mem_cons.mpr ⟨(ip_wsX5_findSteps__wsX5_findSteps_r2 _ (List.mem_of_getElem? (i := 8) rfl)), (List.forall_mem_cons.mpr ⟨(ip_wsX5_findSteps__wsX5_findSteps_r2 _ (List.mem_of_getElem? (i := 9) rfl)), (List.forall_mem_cons.mpr ⟨(ip_wsX5_findSteps__wsX5_findSteps_r2 _ (List.mem_of_getElem? (i := 10) rfl)), (fun _ h => absurd h List.not_mem_nil)⟩)⟩)⟩)⟩)⟩)⟩)⟩)⟩)⟩)⟩)⟩)⟩)⟩)⟩)⟩)⟩)⟩)⟩)⟩)⟩)⟩)⟩)⟩)⟩)) (x_ap2 (show ∀ w ∈ wsX3_find_r2, w ∈ wsX5_findSteps from (List.forall_mem_cons.mpr ⟨(ip_wsX5_findSteps__wsX5_findSteps_r2 _ (List.mem_of_getElem? (i := 11) rfl)), (List.forall_mem_cons.mpr ⟨(ip_wsX5_findSteps__wsX5_findSteps_r2 _ (List.mem_of_getElem? (i := 12) rfl)), (List.forall_mem_cons.mpr ⟨(ip_wsX5_findSteps__wsX5_findSteps_r2 _ (List.mem_of_getElem? (i := 13) rfl)), (List.forall_mem_cons.mpr ⟨(ip_wsX5_findSteps__wsX5_findSteps_r2 _ (List.mem_of_getElem? (i := 14) rfl)), (List.forall_mem_cons.mpr ⟨(ip_wsX5_findSteps__wsX5_findSteps_r2 _ (List.mem_of_getElem? (i := 15) rfl)), (List.forall_mem_cons.mpr ⟨(ip_wsX5_findSteps__wsX5_findSteps_r2 _ (List.mem_of_getElem? (i := 16) rfl)), (List.forall_mem_cons.mpr ⟨(ip_wsX5_findSteps__wsX5_findSteps_r2 _ (List.mem_of_getElem? (i := 17) rfl)), (List.forall_mem_cons.mpr ⟨(ip_wsX5_findSteps__wsX5_findSteps_r2 _ (List.mem_of_getElem? (i := 18) rfl)), (List.forall_mem_cons.mpr ⟨(ip_wsX5_findSteps__wsX5_findSteps_r2 _ (List.mem_of_getElem? (i := 19) rfl)), (List.forall_mem_cons.mpr ⟨(ip_wsX5_findSteps__wsX5_findSteps_r2 _ (List.mem_of_getElem? (i := 20) rfl)), (List.forall_mem_cons.mpr ⟨(ip_wsX5_findSteps__wsX5_findSteps_r2 _ (List.mem_of_getElem? (i := 21) rfl)), (List.forall_mem_cons.mpr ⟨(ip_wsX5_findSteps__wsX5_findSteps_r2 _ (List.mem_of_getElem? (i := 22) rfl)), (List.forall_mem_cons.mpr ⟨(ip_wsX5_findSteps__wsX5_findSteps_r2 _ (List.mem_of_getElem? (i := 23) rfl)), (List.forall_mem_cons.mpr ⟨(ip_wsX5_findSteps__wsX5_findSteps_r3 _ (List.mem_of_getElem? (i := 0) rfl)), (List.forall_mem_cons.mpr ⟨(ip_wsX5_findSteps__wsX5_findSteps_r3 _ (List.mem_of_getElem? (i := 1) rfl)), (List.forall_mem_cons.mpr ⟨(ip_wsX5_findSteps__wsX5_findSteps_r3 _ (List.mem_of_getElem? (i := 2) rfl)), (List.forall_mem_cons.mpr ⟨(ip_wsX5_findSteps__wsX5_findSteps_r3 _ (List.mem_of_getElem? (i := 3) rfl)), (List.forall_mem_cons.mpr ⟨(ip_wsX5_findSteps__wsX5_findSteps_r3 _ (List.mem_of_getElem? (i := 4) rfl)), (List.forall_mem_cons.mpr ⟨(ip_wsX5_findSteps__wsX5_findSteps_r3 _ (List.mem_of_getElem? (i := 5) rfl)), (List.forall_mem_cons.mpr ⟨(ip_wsX5_findSteps__wsX5_findSteps_r3 _ (List.mem_of_getElem? (i := 6) rfl)), (List.forall_mem_cons.mpr ⟨(ip_wsX5_findSteps__wsX5_findSteps_r3 _ (List.mem_of_getElem? (i := 7) rfl)), (List.forall_mem_cons.mpr ⟨(ip_wsX5_findSteps__wsX5_findSteps_r3 _ (List.mem_of_getElem? (i := 8) rfl)), (List.forall_mem_cons.mpr ⟨(ip_wsX5_findSteps__wsX5_findSteps_r3 _ (List.mem_of_getElem? (i := 9) rfl)), (List.forall_mem_cons.mpr ⟨(ip_wsX5_findSteps__wsX5_findSteps_r3 _ (List.mem_of_getElem? (i := 10) rfl)), (fun _ h => absurd h List.not_mem_nil)⟩)⟩)⟩)⟩)⟩)⟩)⟩)⟩)⟩)⟩)⟩)⟩)⟩)⟩)⟩)⟩)⟩)⟩)⟩)⟩)⟩)⟩)⟩)⟩)) (x_ap2 (show ∀ w ∈ wsX3_find_r3, w ∈ wsX5_findSteps from (List.forall_mem_cons.mpr ⟨(ip_wsX5_findSteps__wsX5_findSteps_r3 _ (List.mem_of_getElem? (i := 11) rfl)), (List.forall_mem_cons.mpr ⟨(ip_wsX5_findSteps__wsX5_findSteps_r3 _ (List.mem_of_getElem? (i := 12) rfl)), (List.forall_mem_cons.mpr ⟨(ip_wsX5_findSteps__wsX5_findSteps_r3 _ (List.mem_of_getElem? (i := 13) rfl)), (List.forall_mem_cons.mpr ⟨(ip_wsX5_findSteps__wsX5_findSteps_r3 _ (List.mem_of_getElem? (i := 14) rfl)), (List.forall_mem_cons.mpr ⟨(ip_wsX5_findSteps__wsX5_findSteps_r3 _ (List.mem_of_getElem? (i := 15) rfl)), (List.forall_mem_cons.mpr ⟨(ip_wsX5_findSteps__wsX5_findSteps_r3 _ (List.mem_of_getElem? (i := 16) rfl)), (List.forall_mem_cons.mpr ⟨(ip_wsX5_findSteps__wsX5_findSteps_r3 _ (List.mem_of_getElem? (i := 17) rfl)), (List.forall_mem_cons.mpr ⟨(ip_wsX5_findSteps__wsX5_findSteps_r3 _ (List.mem_of_getElem? (i := 18) rfl)), (List.forall_mem_cons.mpr ⟨(ip_wsX5_findSteps__wsX5_findSteps_r3 _ (List.mem_of_getElem? (i := 19) rfl)), (List.forall_mem_cons.mpr ⟨(ip_wsX5_findSteps__wsX5_findSteps_r3 _ (List.mem_of_getElem? (i := 20) rfl)), (List.forall_mem_cons.mpr ⟨(ip_wsX5_findSteps__wsX5_findSteps_r3 _ (List.mem_of_getElem? (i := 21) rfl)), (List.forall_mem_cons.mpr ⟨(ip_wsX5_findSteps__wsX5_findSteps_r3 _ (List.mem_of_getElem? (i := 22) rfl)), (List.forall_mem_cons.mpr ⟨(ip_wsX5_findSteps__wsX5_findSteps_r3 _ (List.mem_of_getElem? (i := 23) rfl)), (List.forall_mem_cons.mpr ⟨(ip_wsX5_findSteps__wsX5_findSteps_r4 _ (List.mem_of_getElem? (i := 0) rfl)), (List.forall_mem_cons.mpr ⟨(ip_wsX5_findSteps__wsX5_findSteps_r4 _ (List.mem_of_getElem? (i := 1) rfl)), (List.forall_mem_cons.mpr ⟨(ip_wsX5_findSteps__wsX5_findSteps_r4 _ (List.mem_of_getElem? (i := 2) rfl)), (List.forall_mem_cons.mpr ⟨(ip_wsX5_findSteps__wsX5_findSteps_r4 _ (List.mem_of_getElem? (i := 3) rfl)), (List.forall_mem_cons.mpr ⟨(ip_wsX5_findSteps__wsX5_findSteps_r4 _ (List.mem_of_getElem? (i := 4) rfl)), (List.forall_mem_cons.mpr ⟨(ip_wsX5_findSteps__wsX5_findSteps_r4 _ (List.mem_of_getElem? (i := 5) rfl)), (List.forall_mem_cons.mpr ⟨(ip_wsX5_findSteps__wsX5_findSteps_r4 _ (List.mem_of_getElem? (i := 6) rfl)), (List.forall_mem_cons.mpr ⟨(ip_wsX5_findSteps__wsX5_findSteps_r4 _ (List.mem_of_getElem? (i := 7) rfl)), (List.forall_mem_cons.mpr ⟨(ip_wsX5_findSteps__wsX5_findSteps_r4 _ (List.mem_of_getElem? (i := 8) rfl)), (List.forall_mem_cons.mpr ⟨(ip_wsX5_findSteps__wsX5_findSteps_r4 _ (List.mem_of_getElem? (i := 9) rfl)), (List.forall_mem_cons.mpr ⟨(ip_wsX5_findSteps__wsX5_findSteps_r4 _ (List.mem_of_getElem? (i := 10) rfl)), (fun _ h => absurd h List.not_mem_nil)⟩)⟩)⟩)⟩)⟩)⟩)⟩)⟩)⟩)⟩)⟩)⟩)⟩)⟩)⟩)⟩)⟩)⟩)⟩)⟩)⟩)⟩)⟩)⟩)) (show ∀ w ∈ wsX3_find_r4, w ∈ wsX5_findSteps from (List.forall_mem_cons.mpr ⟨(ip_wsX5_findSteps__wsX5_findSteps_r4 _ (List.mem_of_getElem? (i := 11) rfl)), (List.forall_mem_cons.mpr ⟨(ip_wsX5_findSteps__wsX5_findSteps_r4 _ (List.mem_of_getElem? (i := 12) rfl)), (List.forall_mem_cons.mpr ⟨(ip_wsX5_findSteps__wsX5_findSteps_r4 _ (List.mem_of_getElem? (i := 13) rfl)), (List.forall_mem_cons.mpr ⟨(ip_wsX5_findSteps__wsX5_findSteps_r4 _ (List.mem_of_getElem? (i := 14) rfl)), (List.forall_mem_cons.mpr ⟨(ip_wsX5_findSteps__wsX5_findSteps_r4 _ (List.mem_of_getElem? (i := 15) rfl)), (List.forall_mem_cons.mpr ⟨(ip_wsX5_findSteps__wsX5_findSteps_r4 _ (List.mem_of_getElem? (i := 16) rfl)), (List.forall_mem_cons.mpr ⟨(ip_wsX5_findSteps__wsX5_findSteps_r4 _ (List.mem_of_getElem? (i := 17) rfl)), (List.forall_mem_cons.mpr ⟨(ip_wsX5_findSteps__wsX5_findSteps_r4 _ (List.mem_of_getElem? (i := 18) rfl)), (fun _ h => absurd h List.not_mem_nil)⟩)⟩)⟩)⟩)⟩)⟩)⟩)⟩))))) (fun _ h => (List.mem_cons_of_mem _ (List.mem_append_left _ (List.mem_append_left _ (List.mem_append_left _ (List.mem_append_right _ h))))))) (fun _ h => (List.mem_cons_of_mem _ (List.mem_append_left _ (List.mem_append_left _ (List.mem_append_right _ h)))))) (fun _ h => (List.mem_cons_of_mem _ (List.mem_append_left _ (List.mem_append_right _ h))))) (fun _ h => (List.mem_cons_of_mem _ (List.mem_append_right _ h))))⟩) (by decide +kernel)
set_option maxRecDepth 20000 in
theorem gX5_findSteps_X3_find : GoodIn wsX5_findSteps (wsV RX5 92 RX3 yX3_find wsX3_find) := goodIn_app (goodIn_of _ (by decide +kernel)) ggX5_findSteps_X3_find
set_option maxRecDepth 20000 in
theorem ggX5_findSteps_X3_keyBeside : GoodIn wsX5_findSteps wsX3_keyBeside := goodIn_sub (List.forall_mem_cons.mpr ⟨(ip_wsX5_findSteps__wsX5_findSteps_r4 _ (List.mem_of_getElem? (i := 22) rfl)), (x_ap2 (List.forall_mem_cons.mpr ⟨(ip_wsX5_findSteps__wsX5_findSteps_r1 _ (List.mem_of_getElem? (i := 12) rfl)), (List.forall_mem_cons.mpr ⟨(ip_wsX5_findSteps__wsX5_findSteps_r3 _ (List.mem_of_getElem? (i := 22) rfl)), (List.forall_mem_cons.mpr ⟨(ip_wsX5_findSteps__wsX5_findSteps_r3 _ (List.mem_of_getElem? (i := 23) rfl)), (fun _ h => absurd h List.not_mem_nil)⟩)⟩)⟩) (fun _ h => (List.mem_cons_of_mem _ (List.mem_append_left _ (List.mem_append_left _ (List.mem_append_left _ (List.mem_append_right _ h)))))))⟩) (by decide +kernel)
set_option maxRecDepth 20000 in
theorem gX5_findSteps_X3_keyBeside : GoodIn wsX5_findSteps (wsV RX5 107 RX3 yX3_keyBeside wsX3_keyBeside) := goodIn_app (goodIn_of _ (by decide +kernel)) ggX5_findSteps_X3_keyBeside
set_option maxRecDepth 20000 in
theorem ggX5_findSteps_X5_findPoint : GoodIn wsX5_findSteps wsX5_findPoint := goodIn_sub (List.forall_mem_cons.mpr ⟨(ip_wsX5_findSteps__wsX5_findSteps_r5 _ (List.mem_of_getElem? (i := 3) rfl)), (x_ap2 (List.forall_mem_cons.mpr ⟨(ip_wsX5_findSteps__wsX5_findSteps_r5 _ (List.mem_of_getElem? (i := 4) rfl)), (List.forall_mem_cons.mpr ⟨(ip_wsX5_findSteps__wsX5_findSteps_r1 _ (List.mem_of_getElem? (i := 3) rfl)), (fun _ h => absurd h List.not_mem_nil)⟩)⟩) (fun _ h => (List.mem_cons_of_mem _ (List.mem_append_left _ (List.mem_append_left _ (List.mem_append_left _ (List.mem_append_left _ (List.mem_append_right _ h))))))))⟩) (by decide +kernel)
set_option maxRecDepth 20000 in
theorem gX5_findSteps_X5_findPoint : GoodIn wsX5_findSteps (wsV RX5 110 RX5 yX5_findPoint wsX5_findPoint) := goodIn_app (goodIn_of _ (by decide +kernel)) ggX5_findSteps_X5_findPoint
set_option maxRecDepth 20000 in
theorem ggX5_findSteps_X5_flagBeside : GoodIn wsX5_findSteps wsX5_flagBeside := goodIn_sub (List.forall_mem_cons.mpr ⟨(ip_wsX5_findSteps__wsX5_findSteps_r5 _ (List.mem_of_getElem? (i := 8) rfl)), (x_ap2 (List.forall_mem_cons.mpr ⟨(ip_wsX5_findSteps__wsX5_findSteps_r5 _ (List.mem_of_getElem? (i := 9) rfl)), (List.forall_mem_cons.mpr ⟨(ip_wsX5_findSteps__wsX5_findSteps_r1 _ (List.mem_of_getElem? (i := 2) rfl)), (List.forall_mem_cons.mpr ⟨(ip_wsX5_findSteps__wsX5_findSteps_r5 _ (List.mem_of_getElem? (i := 10) rfl)), (List.forall_mem_cons.mpr ⟨(ip_wsX5_findSteps__wsX5_findSteps_r5 _ (List.mem_of_getElem? (i := 11) rfl)), (List.forall_mem_cons.mpr ⟨(ip_wsX5_findSteps__wsX5_findSteps_r5 _ (List.mem_of_getElem? (i := 12) rfl)), (List.forall_mem_cons.mpr ⟨(ip_wsX5_findSteps__wsX5_findSteps_r5 _ (List.mem_of_getElem? (i := 2) rfl)), (List.forall_mem_cons.mpr ⟨(ip_wsX5_findSteps__wsX5_findSteps_r5 _ (List.mem_of_getElem? (i := 13) rfl)), (List.forall_mem_cons.mpr ⟨(ip_wsX5_findSteps__wsX5_findSteps_r5 _ (List.mem_of_getElem? (i := 4) rfl)), (fun _ h => absurd h List.not_mem_nil)⟩)⟩)⟩)⟩)⟩)⟩)⟩)⟩) (fun _ h => (List.mem_cons_of_mem _ (List.mem_append_left _ (List.mem_append_left _ (List.mem_append_left _ (List.mem_append_left _ (List.mem_append_right _ h))))))))⟩) (by decide +kernel)
set_option maxRecDepth 20000 in
theorem gX5_findSteps_X5_flagBeside : GoodIn wsX5_findSteps (wsV RX5 113 RX5 yX5_flagBeside wsX5_flagBeside) := goodIn_app (goodIn_of _ (by decide +kernel)) ggX5_findSteps_X5_flagBeside
theorem dX5_findSteps_0 : decode cX5_findSteps 0 = .ok (.iconst 0, 1) := by decide +kernel
theorem dX5_findSteps_1 : decode cX5_findSteps 1 = .ok (.istore_n 2, 1) := by decide +kernel
theorem dX5_findSteps_2 : decode cX5_findSteps 2 = .ok (.iload_n 2, 1) := by decide +kernel
theorem dX5_findSteps_3 : decode cX5_findSteps 3 = .ok (.aload_n 0, 1) := by decide +kernel
theorem dX5_findSteps_4 : decode cX5_findSteps 4 = .ok (.getfield 66, 3) := by decide +kernel
theorem dX5_findSteps_7 : decode cX5_findSteps 7 = .ok (.if_icmp .ge 70, 3) := by decide +kernel
theorem dX5_findSteps_10 : decode cX5_findSteps 10 = .ok (.aload_n 0, 1) := by decide +kernel
theorem dX5_findSteps_11 : decode cX5_findSteps 11 = .ok (.getfield 51, 3) := by decide +kernel
theorem dX5_findSteps_14 : decode cX5_findSteps 14 = .ok (.aload_n 1, 1) := by decide +kernel
theorem dX5_findSteps_15 : decode cX5_findSteps 15 = .ok (.aload_n 0, 1) := by decide +kernel
theorem dX5_findSteps_16 : decode cX5_findSteps 16 = .ok (.getfield 21, 3) := by decide +kernel
theorem dX5_findSteps_19 : decode cX5_findSteps 19 = .ok (.iload_n 2, 1) := by decide +kernel
theorem dX5_findSteps_20 : decode cX5_findSteps 20 = .ok (.iaload, 1) := by decide +kernel
theorem dX5_findSteps_21 : decode cX5_findSteps 21 = .ok (.invokevirtual 92, 3) := by decide +kernel
theorem dX5_findSteps_24 : decode cX5_findSteps 24 = .ok (.aload_n 0, 1) := by decide +kernel
theorem dX5_findSteps_25 : decode cX5_findSteps 25 = .ok (.aload_n 0, 1) := by decide +kernel
theorem dX5_findSteps_26 : decode cX5_findSteps 26 = .ok (.getfield 51, 3) := by decide +kernel
theorem dX5_findSteps_29 : decode cX5_findSteps 29 = .ok (.aload_n 0, 1) := by decide +kernel
theorem dX5_findSteps_30 : decode cX5_findSteps 30 = .ok (.getfield 11, 3) := by decide +kernel
theorem dX5_findSteps_33 : decode cX5_findSteps 33 = .ok (.aload_n 0, 1) := by decide +kernel
theorem dX5_findSteps_34 : decode cX5_findSteps 34 = .ok (.getfield 18, 3) := by decide +kernel
theorem dX5_findSteps_37 : decode cX5_findSteps 37 = .ok (.iload_n 2, 1) := by decide +kernel
theorem dX5_findSteps_38 : decode cX5_findSteps 38 = .ok (.iaload, 1) := by decide +kernel
theorem dX5_findSteps_39 : decode cX5_findSteps 39 = .ok (.iaload, 1) := by decide +kernel
theorem dX5_findSteps_40 : decode cX5_findSteps 40 = .ok (.invokevirtual 107, 3) := by decide +kernel
theorem dX5_findSteps_43 : decode cX5_findSteps 43 = .ok (.invokevirtual 110, 3) := by decide +kernel
theorem dX5_findSteps_46 : decode cX5_findSteps 46 = .ok (.istore_n 3, 1) := by decide +kernel
theorem dX5_findSteps_47 : decode cX5_findSteps 47 = .ok (.aload_n 0, 1) := by decide +kernel
theorem dX5_findSteps_48 : decode cX5_findSteps 48 = .ok (.iload_n 2, 1) := by decide +kernel
theorem dX5_findSteps_49 : decode cX5_findSteps 49 = .ok (.iload_n 3, 1) := by decide +kernel
theorem dX5_findSteps_50 : decode cX5_findSteps 50 = .ok (.invokevirtual 113, 3) := by decide +kernel
theorem dX5_findSteps_53 : decode cX5_findSteps 53 = .ok (.istore 4, 2) := by decide +kernel
theorem dX5_findSteps_55 : decode cX5_findSteps 55 = .ok (.aload_n 0, 1) := by decide +kernel
theorem dX5_findSteps_56 : decode cX5_findSteps 56 = .ok (.getfield 24, 3) := by decide +kernel
theorem dX5_findSteps_59 : decode cX5_findSteps 59 = .ok (.iload_n 2, 1) := by decide +kernel
theorem dX5_findSteps_60 : decode cX5_findSteps 60 = .ok (.iload 4, 2) := by decide +kernel
theorem dX5_findSteps_62 : decode cX5_findSteps 62 = .ok (.iastore, 1) := by decide +kernel
theorem dX5_findSteps_63 : decode cX5_findSteps 63 = .ok (.aload_n 0, 1) := by decide +kernel
theorem dX5_findSteps_64 : decode cX5_findSteps 64 = .ok (.getfield 27, 3) := by decide +kernel
theorem dX5_findSteps_67 : decode cX5_findSteps 67 = .ok (.iload 4, 2) := by decide +kernel
theorem dX5_findSteps_69 : decode cX5_findSteps 69 = .ok (.iload_n 2, 1) := by decide +kernel
theorem dX5_findSteps_70 : decode cX5_findSteps 70 = .ok (.iastore, 1) := by decide +kernel
theorem dX5_findSteps_71 : decode cX5_findSteps 71 = .ok (.iinc 2 1, 3) := by decide +kernel
theorem dX5_findSteps_74 : decode cX5_findSteps 74 = .ok (.goto (-72), 3) := by decide +kernel
theorem dX5_findSteps_77 : decode cX5_findSteps 77 = .ok (.return_, 1) := by decide +kernel
theorem dX5_findPoint_0 : decode cX5_findPoint 0 = .ok (.iconst 0, 1) := by decide +kernel
theorem dX5_findPoint_1 : decode cX5_findPoint 1 = .ok (.istore_n 2, 1) := by decide +kernel
theorem dX5_findPoint_2 : decode cX5_findPoint 2 = .ok (.aload_n 0, 1) := by decide +kernel
theorem dX5_findPoint_3 : decode cX5_findPoint 3 = .ok (.getfield 62, 3) := by decide +kernel
theorem dX5_findPoint_6 : decode cX5_findPoint 6 = .ok (.iconst 1, 1) := by decide +kernel
theorem dX5_findPoint_7 : decode cX5_findPoint 7 = .ok (.isub, 1) := by decide +kernel
theorem dX5_findPoint_8 : decode cX5_findPoint 8 = .ok (.istore_n 3, 1) := by decide +kernel
theorem dX5_findPoint_9 : decode cX5_findPoint 9 = .ok (.iconst 0, 1) := by decide +kernel
theorem dX5_findPoint_10 : decode cX5_findPoint 10 = .ok (.istore 4, 2) := by decide +kernel
theorem dX5_findPoint_12 : decode cX5_findPoint 12 = .ok (.iload 4, 2) := by decide +kernel
theorem dX5_findPoint_14 : decode cX5_findPoint 14 = .ok (.sipush 200, 3) := by decide +kernel
theorem dX5_findPoint_17 : decode cX5_findPoint 17 = .ok (.if_icmp .ge 59, 3) := by decide +kernel
theorem dX5_findPoint_20 : decode cX5_findPoint 20 = .ok (.iload_n 2, 1) := by decide +kernel
theorem dX5_findPoint_21 : decode cX5_findPoint 21 = .ok (.iload_n 3, 1) := by decide +kernel
theorem dX5_findPoint_22 : decode cX5_findPoint 22 = .ok (.if_icmp .gt 54, 3) := by decide +kernel
theorem dX5_findPoint_25 : decode cX5_findPoint 25 = .ok (.iload_n 2, 1) := by decide +kernel
theorem dX5_findPoint_26 : decode cX5_findPoint 26 = .ok (.iload_n 3, 1) := by decide +kernel
theorem dX5_findPoint_27 : decode cX5_findPoint 27 = .ok (.iadd, 1) := by decide +kernel
theorem dX5_findPoint_28 : decode cX5_findPoint 28 = .ok (.iconst 2, 1) := by decide +kernel
theorem dX5_findPoint_29 : decode cX5_findPoint 29 = .ok (.idiv, 1) := by decide +kernel
theorem dX5_findPoint_30 : decode cX5_findPoint 30 = .ok (.istore 5, 2) := by decide +kernel
theorem dX5_findPoint_32 : decode cX5_findPoint 32 = .ok (.aload_n 0, 1) := by decide +kernel
theorem dX5_findPoint_33 : decode cX5_findPoint 33 = .ok (.getfield 11, 3) := by decide +kernel
theorem dX5_findPoint_36 : decode cX5_findPoint 36 = .ok (.iload 5, 2) := by decide +kernel
theorem dX5_findPoint_38 : decode cX5_findPoint 38 = .ok (.iaload, 1) := by decide +kernel
theorem dX5_findPoint_39 : decode cX5_findPoint 39 = .ok (.iload_n 1, 1) := by decide +kernel
theorem dX5_findPoint_40 : decode cX5_findPoint 40 = .ok (.if_icmp .ne 6, 3) := by decide +kernel
theorem dX5_findPoint_43 : decode cX5_findPoint 43 = .ok (.iload 5, 2) := by decide +kernel
theorem dX5_findPoint_45 : decode cX5_findPoint 45 = .ok (.ireturn, 1) := by decide +kernel
theorem dX5_findPoint_46 : decode cX5_findPoint 46 = .ok (.aload_n 0, 1) := by decide +kernel
theorem dX5_findPoint_47 : decode cX5_findPoint 47 = .ok (.getfield 11, 3) := by decide +kernel
theorem dX5_findPoint_50 : decode cX5_findPoint 50 = .ok (.iload 5, 2) := by decide +kernel
theorem dX5_findPoint_52 : decode cX5_findPoint 52 = .ok (.iaload, 1) := by decide +kernel
theorem dX5_findPoint_53 : decode cX5_findPoint 53 = .ok (.iload_n 1, 1) := by decide +kernel
theorem dX5_findPoint_54 : decode cX5_findPoint 54 = .ok (.if_icmp .ge 11, 3) := by decide +kernel
theorem dX5_findPoint_57 : decode cX5_findPoint 57 = .ok (.iload 5, 2) := by decide +kernel
theorem dX5_findPoint_59 : decode cX5_findPoint 59 = .ok (.iconst 1, 1) := by decide +kernel
theorem dX5_findPoint_60 : decode cX5_findPoint 60 = .ok (.iadd, 1) := by decide +kernel
theorem dX5_findPoint_61 : decode cX5_findPoint 61 = .ok (.istore_n 2, 1) := by decide +kernel
theorem dX5_findPoint_62 : decode cX5_findPoint 62 = .ok (.goto 8, 3) := by decide +kernel
theorem dX5_findPoint_65 : decode cX5_findPoint 65 = .ok (.iload 5, 2) := by decide +kernel
theorem dX5_findPoint_67 : decode cX5_findPoint 67 = .ok (.iconst 1, 1) := by decide +kernel
theorem dX5_findPoint_68 : decode cX5_findPoint 68 = .ok (.isub, 1) := by decide +kernel
theorem dX5_findPoint_69 : decode cX5_findPoint 69 = .ok (.istore_n 3, 1) := by decide +kernel
theorem dX5_findPoint_70 : decode cX5_findPoint 70 = .ok (.iinc 4 1, 3) := by decide +kernel
theorem dX5_findPoint_73 : decode cX5_findPoint 73 = .ok (.goto (-61), 3) := by decide +kernel
theorem dX5_findPoint_76 : decode cX5_findPoint 76 = .ok (.iconst (-1), 1) := by decide +kernel
theorem dX5_findPoint_77 : decode cX5_findPoint 77 = .ok (.ireturn, 1) := by decide +kernel
set_option maxRecDepth 20000 in
theorem ggX5_flagBeside_X5_hasPoint : GoodIn wsX5_flagBeside wsX5_hasPoint := goodIn_sub (List.forall_mem_cons.mpr ⟨(List.mem_cons_of_mem _ (List.mem_append_left _ (List.mem_of_getElem? (i := 6) rfl))), (x_ap2 (List.forall_mem_cons.mpr ⟨(List.mem_cons_of_mem _ (List.mem_append_left _ (List.mem_of_getElem? (i := 7) rfl))), (fun _ h => absurd h List.not_mem_nil)⟩) (fun _ h => (List.mem_cons_of_mem _ (List.mem_append_right _ h))))⟩) (by decide +kernel)
set_option maxRecDepth 20000 in
theorem gX5_flagBeside_X5_hasPoint : GoodIn wsX5_flagBeside (wsV RX5 72 RX5 yX5_hasPoint wsX5_hasPoint) := goodIn_app (goodIn_of _ (by decide +kernel)) ggX5_flagBeside_X5_hasPoint
theorem dX5_flagBeside_0 : decode cX5_flagBeside 0 = .ok (.iload_n 1, 1) := by decide +kernel
theorem dX5_flagBeside_1 : decode cX5_flagBeside 1 = .ok (.istore_n 3, 1) := by decide +kernel
theorem dX5_flagBeside_2 : decode cX5_flagBeside 2 = .ok (.aload_n 0, 1) := by decide +kernel
theorem dX5_flagBeside_3 : decode cX5_flagBeside 3 = .ok (.iload_n 2, 1) := by decide +kernel
theorem dX5_flagBeside_4 : decode cX5_flagBeside 4 = .ok (.invokevirtual 72, 3) := by decide +kernel
theorem dX5_flagBeside_7 : decode cX5_flagBeside 7 = .ok (.ifCond .ne 5, 3) := by decide +kernel
theorem dX5_flagBeside_10 : decode cX5_flagBeside 10 = .ok (.iload_n 3, 1) := by decide +kernel
theorem dX5_flagBeside_11 : decode cX5_flagBeside 11 = .ok (.ireturn, 1) := by decide +kernel
theorem dX5_flagBeside_12 : decode cX5_flagBeside 12 = .ok (.aload_n 0, 1) := by decide +kernel
theorem dX5_flagBeside_13 : decode cX5_flagBeside 13 = .ok (.getfield 15, 3) := by decide +kernel
theorem dX5_flagBeside_16 : decode cX5_flagBeside 16 = .ok (.iload_n 2, 1) := by decide +kernel
theorem dX5_flagBeside_17 : decode cX5_flagBeside 17 = .ok (.iaload, 1) := by decide +kernel
theorem dX5_flagBeside_18 : decode cX5_flagBeside 18 = .ok (.istore 4, 2) := by decide +kernel
theorem dX5_flagBeside_20 : decode cX5_flagBeside 20 = .ok (.iload 4, 2) := by decide +kernel
theorem dX5_flagBeside_22 : decode cX5_flagBeside 22 = .ok (.aload_n 0, 1) := by decide +kernel
theorem dX5_flagBeside_23 : decode cX5_flagBeside 23 = .ok (.getfield 15, 3) := by decide +kernel
theorem dX5_flagBeside_26 : decode cX5_flagBeside 26 = .ok (.iload_n 2, 1) := by decide +kernel
theorem dX5_flagBeside_27 : decode cX5_flagBeside 27 = .ok (.iconst 1, 1) := by decide +kernel
theorem dX5_flagBeside_28 : decode cX5_flagBeside 28 = .ok (.iadd, 1) := by decide +kernel
theorem dX5_flagBeside_29 : decode cX5_flagBeside 29 = .ok (.iaload, 1) := by decide +kernel
theorem dX5_flagBeside_30 : decode cX5_flagBeside 30 = .ok (.if_icmp .ge 30, 3) := by decide +kernel
theorem dX5_flagBeside_33 : decode cX5_flagBeside 33 = .ok (.iload 4, 2) := by decide +kernel
theorem dX5_flagBeside_35 : decode cX5_flagBeside 35 = .ok (.istore_n 3, 1) := by decide +kernel
theorem dX5_flagBeside_36 : decode cX5_flagBeside 36 = .ok (.aload_n 0, 1) := by decide +kernel
theorem dX5_flagBeside_37 : decode cX5_flagBeside 37 = .ok (.getfield 21, 3) := by decide +kernel
theorem dX5_flagBeside_40 : decode cX5_flagBeside 40 = .ok (.iload 4, 2) := by decide +kernel
theorem dX5_flagBeside_42 : decode cX5_flagBeside 42 = .ok (.iaload, 1) := by decide +kernel
theorem dX5_flagBeside_43 : decode cX5_flagBeside 43 = .ok (.aload_n 0, 1) := by decide +kernel
theorem dX5_flagBeside_44 : decode cX5_flagBeside 44 = .ok (.getfield 21, 3) := by decide +kernel
theorem dX5_flagBeside_47 : decode cX5_flagBeside 47 = .ok (.iload_n 1, 1) := by decide +kernel
theorem dX5_flagBeside_48 : decode cX5_flagBeside 48 = .ok (.iaload, 1) := by decide +kernel
theorem dX5_flagBeside_49 : decode cX5_flagBeside 49 = .ok (.if_icmp .eq 5, 3) := by decide +kernel
theorem dX5_flagBeside_52 : decode cX5_flagBeside 52 = .ok (.iload_n 3, 1) := by decide +kernel
theorem dX5_flagBeside_53 : decode cX5_flagBeside 53 = .ok (.ireturn, 1) := by decide +kernel
theorem dX5_flagBeside_54 : decode cX5_flagBeside 54 = .ok (.iinc 4 1, 3) := by decide +kernel
theorem dX5_flagBeside_57 : decode cX5_flagBeside 57 = .ok (.goto (-37), 3) := by decide +kernel
theorem dX5_flagBeside_60 : decode cX5_flagBeside 60 = .ok (.iload_n 3, 1) := by decide +kernel
theorem dX5_flagBeside_61 : decode cX5_flagBeside 61 = .ok (.ireturn, 1) := by decide +kernel
set_option maxRecDepth 20000 in
theorem ggX5_findRings_X5_walkRing : GoodIn wsX5_findRings wsX5_walkRing := goodIn_sub (List.forall_mem_cons.mpr ⟨(List.mem_cons_of_mem _ (List.mem_append_left _ (List.mem_of_getElem? (i := 7) rfl))), (x_ap2 (List.forall_mem_cons.mpr ⟨(List.mem_cons_of_mem _ (List.mem_append_left _ (List.mem_of_getElem? (i := 1) rfl))), (List.forall_mem_cons.mpr ⟨(List.mem_cons_of_mem _ (List.mem_append_left _ (List.mem_of_getElem? (i := 8) rfl))), (List.forall_mem_cons.mpr ⟨(List.mem_cons_of_mem _ (List.mem_append_left _ (List.mem_of_getElem? (i := 9) rfl))), (List.forall_mem_cons.mpr ⟨(List.mem_cons_of_mem _ (List.mem_append_left _ (List.mem_of_getElem? (i := 10) rfl))), (List.forall_mem_cons.mpr ⟨(List.mem_cons_of_mem _ (List.mem_append_left _ (List.mem_of_getElem? (i := 11) rfl))), (List.forall_mem_cons.mpr ⟨(List.mem_cons_of_mem _ (List.mem_append_left _ (List.mem_of_getElem? (i := 2) rfl))), (fun _ h => absurd h List.not_mem_nil)⟩)⟩)⟩)⟩)⟩)⟩) (fun _ h => (List.mem_cons_of_mem _ (List.mem_append_right _ h))))⟩) (by decide +kernel)
set_option maxRecDepth 20000 in
theorem gX5_findRings_X5_walkRing : GoodIn wsX5_findRings (wsV RX5 117 RX5 yX5_walkRing wsX5_walkRing) := goodIn_app (goodIn_of _ (by decide +kernel)) ggX5_findRings_X5_walkRing
theorem dX5_findRings_0 : decode cX5_findRings 0 = .ok (.aload_n 0, 1) := by decide +kernel
theorem dX5_findRings_1 : decode cX5_findRings 1 = .ok (.iconst 0, 1) := by decide +kernel
theorem dX5_findRings_2 : decode cX5_findRings 2 = .ok (.putfield 69, 3) := by decide +kernel
theorem dX5_findRings_5 : decode cX5_findRings 5 = .ok (.iconst 0, 1) := by decide +kernel
theorem dX5_findRings_6 : decode cX5_findRings 6 = .ok (.istore_n 1, 1) := by decide +kernel
theorem dX5_findRings_7 : decode cX5_findRings 7 = .ok (.iload_n 1, 1) := by decide +kernel
theorem dX5_findRings_8 : decode cX5_findRings 8 = .ok (.aload_n 0, 1) := by decide +kernel
theorem dX5_findRings_9 : decode cX5_findRings 9 = .ok (.getfield 66, 3) := by decide +kernel
theorem dX5_findRings_12 : decode cX5_findRings 12 = .ok (.if_icmp .ge 16, 3) := by decide +kernel
theorem dX5_findRings_15 : decode cX5_findRings 15 = .ok (.aload_n 0, 1) := by decide +kernel
theorem dX5_findRings_16 : decode cX5_findRings 16 = .ok (.getfield 39, 3) := by decide +kernel
theorem dX5_findRings_19 : decode cX5_findRings 19 = .ok (.iload_n 1, 1) := by decide +kernel
theorem dX5_findRings_20 : decode cX5_findRings 20 = .ok (.iconst 0, 1) := by decide +kernel
theorem dX5_findRings_21 : decode cX5_findRings 21 = .ok (.iastore, 1) := by decide +kernel
theorem dX5_findRings_22 : decode cX5_findRings 22 = .ok (.iinc 1 1, 3) := by decide +kernel
theorem dX5_findRings_25 : decode cX5_findRings 25 = .ok (.goto (-18), 3) := by decide +kernel
theorem dX5_findRings_28 : decode cX5_findRings 28 = .ok (.iconst 0, 1) := by decide +kernel
theorem dX5_findRings_29 : decode cX5_findRings 29 = .ok (.istore_n 1, 1) := by decide +kernel
theorem dX5_findRings_30 : decode cX5_findRings 30 = .ok (.iconst 0, 1) := by decide +kernel
theorem dX5_findRings_31 : decode cX5_findRings 31 = .ok (.istore_n 2, 1) := by decide +kernel
theorem dX5_findRings_32 : decode cX5_findRings 32 = .ok (.iload_n 2, 1) := by decide +kernel
theorem dX5_findRings_33 : decode cX5_findRings 33 = .ok (.aload_n 0, 1) := by decide +kernel
theorem dX5_findRings_34 : decode cX5_findRings 34 = .ok (.getfield 66, 3) := by decide +kernel
theorem dX5_findRings_37 : decode cX5_findRings 37 = .ok (.if_icmp .ge 35, 3) := by decide +kernel
theorem dX5_findRings_40 : decode cX5_findRings 40 = .ok (.aload_n 0, 1) := by decide +kernel
theorem dX5_findRings_41 : decode cX5_findRings 41 = .ok (.getfield 39, 3) := by decide +kernel
theorem dX5_findRings_44 : decode cX5_findRings 44 = .ok (.iload_n 2, 1) := by decide +kernel
theorem dX5_findRings_45 : decode cX5_findRings 45 = .ok (.iaload, 1) := by decide +kernel
theorem dX5_findRings_46 : decode cX5_findRings 46 = .ok (.ifCond .ne 20, 3) := by decide +kernel
theorem dX5_findRings_49 : decode cX5_findRings 49 = .ok (.aload_n 0, 1) := by decide +kernel
theorem dX5_findRings_50 : decode cX5_findRings 50 = .ok (.iload_n 2, 1) := by decide +kernel
theorem dX5_findRings_51 : decode cX5_findRings 51 = .ok (.iload_n 1, 1) := by decide +kernel
theorem dX5_findRings_52 : decode cX5_findRings 52 = .ok (.invokevirtual 117, 3) := by decide +kernel
theorem dX5_findRings_55 : decode cX5_findRings 55 = .ok (.istore_n 1, 1) := by decide +kernel
theorem dX5_findRings_56 : decode cX5_findRings 56 = .ok (.aload_n 0, 1) := by decide +kernel
theorem dX5_findRings_57 : decode cX5_findRings 57 = .ok (.dup, 1) := by decide +kernel
theorem dX5_findRings_58 : decode cX5_findRings 58 = .ok (.getfield 69, 3) := by decide +kernel
theorem dX5_findRings_61 : decode cX5_findRings 61 = .ok (.iconst 1, 1) := by decide +kernel
theorem dX5_findRings_62 : decode cX5_findRings 62 = .ok (.iadd, 1) := by decide +kernel
theorem dX5_findRings_63 : decode cX5_findRings 63 = .ok (.putfield 69, 3) := by decide +kernel
theorem dX5_findRings_66 : decode cX5_findRings 66 = .ok (.iinc 2 1, 3) := by decide +kernel
theorem dX5_findRings_69 : decode cX5_findRings 69 = .ok (.goto (-37), 3) := by decide +kernel
theorem dX5_findRings_72 : decode cX5_findRings 72 = .ok (.return_, 1) := by decide +kernel
theorem dX5_walkRing_0 : decode cX5_walkRing 0 = .ok (.iload_n 2, 1) := by decide +kernel
theorem dX5_walkRing_1 : decode cX5_walkRing 1 = .ok (.istore_n 3, 1) := by decide +kernel
theorem dX5_walkRing_2 : decode cX5_walkRing 2 = .ok (.iload_n 1, 1) := by decide +kernel
theorem dX5_walkRing_3 : decode cX5_walkRing 3 = .ok (.istore 4, 2) := by decide +kernel
theorem dX5_walkRing_5 : decode cX5_walkRing 5 = .ok (.iload_n 3, 1) := by decide +kernel
theorem dX5_walkRing_6 : decode cX5_walkRing 6 = .ok (.aload_n 0, 1) := by decide +kernel
theorem dX5_walkRing_7 : decode cX5_walkRing 7 = .ok (.getfield 66, 3) := by decide +kernel
theorem dX5_walkRing_10 : decode cX5_walkRing 10 = .ok (.if_icmp .ge 45, 3) := by decide +kernel
theorem dX5_walkRing_13 : decode cX5_walkRing 13 = .ok (.iload_n 3, 1) := by decide +kernel
theorem dX5_walkRing_14 : decode cX5_walkRing 14 = .ok (.iload_n 2, 1) := by decide +kernel
theorem dX5_walkRing_15 : decode cX5_walkRing 15 = .ok (.if_icmp .eq 9, 3) := by decide +kernel
theorem dX5_walkRing_18 : decode cX5_walkRing 18 = .ok (.iload 4, 2) := by decide +kernel
theorem dX5_walkRing_20 : decode cX5_walkRing 20 = .ok (.iload_n 1, 1) := by decide +kernel
theorem dX5_walkRing_21 : decode cX5_walkRing 21 = .ok (.if_icmp .eq 34, 3) := by decide +kernel
theorem dX5_walkRing_24 : decode cX5_walkRing 24 = .ok (.aload_n 0, 1) := by decide +kernel
theorem dX5_walkRing_25 : decode cX5_walkRing 25 = .ok (.getfield 30, 3) := by decide +kernel
theorem dX5_walkRing_28 : decode cX5_walkRing 28 = .ok (.iload_n 3, 1) := by decide +kernel
theorem dX5_walkRing_29 : decode cX5_walkRing 29 = .ok (.iload 4, 2) := by decide +kernel
theorem dX5_walkRing_31 : decode cX5_walkRing 31 = .ok (.iastore, 1) := by decide +kernel
theorem dX5_walkRing_32 : decode cX5_walkRing 32 = .ok (.aload_n 0, 1) := by decide +kernel
theorem dX5_walkRing_33 : decode cX5_walkRing 33 = .ok (.getfield 33, 3) := by decide +kernel
theorem dX5_walkRing_36 : decode cX5_walkRing 36 = .ok (.iload 4, 2) := by decide +kernel
theorem dX5_walkRing_38 : decode cX5_walkRing 38 = .ok (.iload_n 3, 1) := by decide +kernel
theorem dX5_walkRing_39 : decode cX5_walkRing 39 = .ok (.iastore, 1) := by decide +kernel
theorem dX5_walkRing_40 : decode cX5_walkRing 40 = .ok (.iinc 3 1, 3) := by decide +kernel
theorem dX5_walkRing_43 : decode cX5_walkRing 43 = .ok (.aload_n 0, 1) := by decide +kernel
theorem dX5_walkRing_44 : decode cX5_walkRing 44 = .ok (.getfield 24, 3) := by decide +kernel
theorem dX5_walkRing_47 : decode cX5_walkRing 47 = .ok (.iload 4, 2) := by decide +kernel
theorem dX5_walkRing_49 : decode cX5_walkRing 49 = .ok (.iaload, 1) := by decide +kernel
theorem dX5_walkRing_50 : decode cX5_walkRing 50 = .ok (.istore 4, 2) := by decide +kernel
theorem dX5_walkRing_52 : decode cX5_walkRing 52 = .ok (.goto (-47), 3) := by decide +kernel
theorem dX5_walkRing_55 : decode cX5_walkRing 55 = .ok (.iload_n 2, 1) := by decide +kernel
theorem dX5_walkRing_56 : decode cX5_walkRing 56 = .ok (.istore 5, 2) := by decide +kernel
theorem dX5_walkRing_58 : decode cX5_walkRing 58 = .ok (.iload 5, 2) := by decide +kernel
theorem dX5_walkRing_60 : decode cX5_walkRing 60 = .ok (.iload_n 3, 1) := by decide +kernel
theorem dX5_walkRing_61 : decode cX5_walkRing 61 = .ok (.if_icmp .ge 37, 3) := by decide +kernel
theorem dX5_walkRing_64 : decode cX5_walkRing 64 = .ok (.aload_n 0, 1) := by decide +kernel
theorem dX5_walkRing_65 : decode cX5_walkRing 65 = .ok (.getfield 36, 3) := by decide +kernel
theorem dX5_walkRing_68 : decode cX5_walkRing 68 = .ok (.aload_n 0, 1) := by decide +kernel
theorem dX5_walkRing_69 : decode cX5_walkRing 69 = .ok (.getfield 30, 3) := by decide +kernel
theorem dX5_walkRing_72 : decode cX5_walkRing 72 = .ok (.iload 5, 2) := by decide +kernel
theorem dX5_walkRing_74 : decode cX5_walkRing 74 = .ok (.iaload, 1) := by decide +kernel
theorem dX5_walkRing_75 : decode cX5_walkRing 75 = .ok (.iload_n 2, 1) := by decide +kernel
theorem dX5_walkRing_76 : decode cX5_walkRing 76 = .ok (.iastore, 1) := by decide +kernel
theorem dX5_walkRing_77 : decode cX5_walkRing 77 = .ok (.aload_n 0, 1) := by decide +kernel
theorem dX5_walkRing_78 : decode cX5_walkRing 78 = .ok (.getfield 39, 3) := by decide +kernel
theorem dX5_walkRing_81 : decode cX5_walkRing 81 = .ok (.aload_n 0, 1) := by decide +kernel
theorem dX5_walkRing_82 : decode cX5_walkRing 82 = .ok (.getfield 30, 3) := by decide +kernel
theorem dX5_walkRing_85 : decode cX5_walkRing 85 = .ok (.iload 5, 2) := by decide +kernel
theorem dX5_walkRing_87 : decode cX5_walkRing 87 = .ok (.iaload, 1) := by decide +kernel
theorem dX5_walkRing_88 : decode cX5_walkRing 88 = .ok (.iload_n 3, 1) := by decide +kernel
theorem dX5_walkRing_89 : decode cX5_walkRing 89 = .ok (.iload_n 2, 1) := by decide +kernel
theorem dX5_walkRing_90 : decode cX5_walkRing 90 = .ok (.isub, 1) := by decide +kernel
theorem dX5_walkRing_91 : decode cX5_walkRing 91 = .ok (.iastore, 1) := by decide +kernel
theorem dX5_walkRing_92 : decode cX5_walkRing 92 = .ok (.iinc 5 1, 3) := by decide +kernel
theorem dX5_walkRing_95 : decode cX5_walkRing 95 = .ok (.goto (-37), 3) := by decide +kernel
theorem dX5_walkRing_98 : decode cX5_walkRing 98 = .ok (.iload_n 3, 1) := by decide +kernel
theorem dX5_walkRing_99 : decode cX5_walkRing 99 = .ok (.ireturn, 1) := by decide +kernel
theorem dX6_init_0 : decode cX6_init 0 = .ok (.aload_n 0, 1) := by decide +kernel
theorem dX6_init_1 : decode cX6_init 1 = .ok (.invokespecial 3, 3) := by decide +kernel
theorem dX6_init_4 : decode cX6_init 4 = .ok (.aload_n 0, 1) := by decide +kernel
theorem dX6_init_5 : decode cX6_init 5 = .ok (.bipush 32, 2) := by decide +kernel
theorem dX6_init_7 : decode cX6_init 7 = .ok (.newarray .int, 2) := by decide +kernel
theorem dX6_init_9 : decode cX6_init 9 = .ok (.putfield 11, 3) := by decide +kernel
theorem dX6_init_12 : decode cX6_init 12 = .ok (.aload_n 0, 1) := by decide +kernel
theorem dX6_init_13 : decode cX6_init 13 = .ok (.sipush 225, 3) := by decide +kernel
theorem dX6_init_16 : decode cX6_init 16 = .ok (.newarray .int, 2) := by decide +kernel
theorem dX6_init_18 : decode cX6_init 18 = .ok (.putfield 15, 3) := by decide +kernel
theorem dX6_init_21 : decode cX6_init 21 = .ok (.aload_n 0, 1) := by decide +kernel
theorem dX6_init_22 : decode cX6_init 22 = .ok (.aload_n 1, 1) := by decide +kernel
theorem dX6_init_23 : decode cX6_init 23 = .ok (.putfield 18, 3) := by decide +kernel
theorem dX6_init_26 : decode cX6_init 26 = .ok (.return_, 1) := by decide +kernel
theorem ip_wsX6_take__wsX6_take_r1 : ∀ w ∈ wsX6_take_r1, w ∈ wsX6_take := fun _ h => (List.mem_cons_of_mem _ (List.mem_append_left _ (List.mem_append_left _ (List.mem_append_left _ (List.mem_append_left _ h)))))
theorem ip_wsX6_take__wsX6_take_r2 : ∀ w ∈ wsX6_take_r2, w ∈ wsX6_take := fun _ h => (List.mem_cons_of_mem _ (List.mem_append_left _ (List.mem_append_left _ (List.mem_append_left _ (List.mem_append_right _ h)))))
set_option maxRecDepth 20000 in
theorem ggX6_take_X4_inverseOf : GoodIn wsX6_take wsX4_inverseOf := goodIn_sub (List.forall_mem_cons.mpr ⟨(ip_wsX6_take__wsX6_take_r1 _ (List.mem_of_getElem? (i := 6) rfl)), (x_ap2 (List.forall_mem_cons.mpr ⟨(ip_wsX6_take__wsX6_take_r1 _ (List.mem_of_getElem? (i := 7) rfl)), (List.forall_mem_cons.mpr ⟨(ip_wsX6_take__wsX6_take_r1 _ (List.mem_of_getElem? (i := 8) rfl)), (fun _ h => absurd h List.not_mem_nil)⟩)⟩) (fun _ h => (List.mem_cons_of_mem _ (List.mem_append_left _ (List.mem_append_right _ h)))))⟩) (by decide +kernel)
set_option maxRecDepth 20000 in
theorem gX6_take_X4_inverseOf : GoodIn wsX6_take (wsV RX6 22 RX4 yX4_inverseOf wsX4_inverseOf) := goodIn_app (goodIn_of _ (by decide +kernel)) ggX6_take_X4_inverseOf
set_option maxRecDepth 20000 in
theorem ggX6_take_X0_partByFirst : GoodIn wsX6_take wsX0_partByFirst := goodIn_sub (List.forall_mem_cons.mpr ⟨(ip_wsX6_take__wsX6_take_r1 _ (List.mem_of_getElem? (i := 13) rfl)), (x_ap2 (x_ap2 (List.forall_mem_cons.mpr ⟨(ip_wsX6_take__wsX6_take_r1 _ (List.mem_of_getElem? (i := 14) rfl)), (List.forall_mem_cons.mpr ⟨(ip_wsX6_take__wsX6_take_r1 _ (List.mem_of_getElem? (i := 15) rfl)), (List.forall_mem_cons.mpr ⟨(ip_wsX6_take__wsX6_take_r1 _ (List.mem_of_getElem? (i := 16) rfl)), (List.forall_mem_cons.mpr ⟨(ip_wsX6_take__wsX6_take_r1 _ (List.mem_of_getElem? (i := 17) rfl)), (List.forall_mem_cons.mpr ⟨(ip_wsX6_take__wsX6_take_r1 _ (List.mem_of_getElem? (i := 18) rfl)), (List.forall_mem_cons.mpr ⟨(ip_wsX6_take__wsX6_take_r1 _ (List.mem_of_getElem? (i := 12) rfl)), (List.forall_mem_cons.mpr ⟨(ip_wsX6_take__wsX6_take_r1 _ (List.mem_of_getElem? (i := 19) rfl)), (List.forall_mem_cons.mpr ⟨(ip_wsX6_take__wsX6_take_r1 _ (List.mem_of_getElem? (i := 20) rfl)), (List.forall_mem_cons.mpr ⟨(ip_wsX6_take__wsX6_take_r1 _ (List.mem_of_getElem? (i := 21) rfl)), (List.forall_mem_cons.mpr ⟨(ip_wsX6_take__wsX6_take_r1 _ (List.mem_of_getElem? (i := 22) rfl)), (List.forall_mem_cons.mpr ⟨(ip_wsX6_take__wsX6_take_r1 _ (List.mem_of_getElem? (i := 23) rfl)), (List.forall_mem_cons.mpr ⟨(ip_wsX6_take__wsX6_take_r1 _ (List.mem_of_getElem? (i := 3) rfl)), (List.forall_mem_cons.mpr ⟨(ip_wsX6_take__wsX6_take_r1 _ (List.mem_of_getElem? (i := 4) rfl)), (List.forall_mem_cons.mpr ⟨(ip_wsX6_take__wsX6_take_r1 _ (List.mem_of_getElem? (i := 5) rfl)), (List.forall_mem_cons.mpr ⟨(ip_wsX6_take__wsX6_take_r1 _ (List.mem_of_getElem? (i := 6) rfl)), (List.forall_mem_cons.mpr ⟨(ip_wsX6_take__wsX6_take_r1 _ (List.mem_of_getElem? (i := 7) rfl)), (List.forall_mem_cons.mpr ⟨(ip_wsX6_take__wsX6_take_r1 _ (List.mem_of_getElem? (i := 8) rfl)), (List.forall_mem_cons.mpr ⟨(ip_wsX6_take__wsX6_take_r2 _ (List.mem_of_getElem? (i := 0) rfl)), (List.forall_mem_cons.mpr ⟨(ip_wsX6_take__wsX6_take_r2 _ (List.mem_of_getElem? (i := 1) rfl)), (List.forall_mem_cons.mpr ⟨(ip_wsX6_take__wsX6_take_r2 _ (List.mem_of_getElem? (i := 2) rfl)), (List.forall_mem_cons.mpr ⟨(ip_wsX6_take__wsX6_take_r2 _ (List.mem_of_getElem? (i := 3) rfl)), (fun _ h => absurd h List.not_mem_nil)⟩)⟩)⟩)⟩)⟩)⟩)⟩)⟩)⟩)⟩)⟩)⟩)⟩)⟩)⟩)⟩)⟩)⟩)⟩)⟩)⟩) (fun _ h => (List.mem_cons_of_mem _ (List.mem_append_right _ h)))) (fun _ h => (List.mem_cons_of_mem _ (List.mem_append_left _ (List.mem_append_right _ h)))))⟩) (by decide +kernel)
set_option maxRecDepth 20000 in
theorem gX6_take_X0_partByFirst : GoodIn wsX6_take (wsV RX6 28 RX0 yX0_partByFirst wsX0_partByFirst) := goodIn_app (goodIn_of _ (by decide +kernel)) ggX6_take_X0_partByFirst
set_option maxRecDepth 20000 in
theorem ggX6_take_X4_rest : GoodIn wsX6_take wsX4_rest := goodIn_sub (List.forall_mem_cons.mpr ⟨(ip_wsX6_take__wsX6_take_r2 _ (List.mem_of_getElem? (i := 3) rfl)), (x_ap2 (List.forall_mem_cons.mpr ⟨(ip_wsX6_take__wsX6_take_r1 _ (List.mem_of_getElem? (i := 7) rfl)), (fun _ h => absurd h List.not_mem_nil)⟩) (fun _ h => (List.mem_cons_of_mem _ (List.mem_append_left _ (List.mem_append_right _ h)))))⟩) (by decide +kernel)
set_option maxRecDepth 20000 in
theorem gX6_take_X4_rest : GoodIn wsX6_take (wsV RX6 33 RX4 yX4_rest wsX4_rest) := goodIn_app (goodIn_of _ (by decide +kernel)) ggX6_take_X4_rest
theorem dX6_take_0 : decode cX6_take 0 = .ok (.aload_n 0, 1) := by decide +kernel
theorem dX6_take_1 : decode cX6_take 1 = .ok (.getfield 18, 3) := by decide +kernel
theorem dX6_take_4 : decode cX6_take 4 = .ok (.iconst 2, 1) := by decide +kernel
theorem dX6_take_5 : decode cX6_take 5 = .ok (.invokevirtual 22, 3) := by decide +kernel
theorem dX6_take_8 : decode cX6_take 8 = .ok (.istore_n 2, 1) := by decide +kernel
theorem dX6_take_9 : decode cX6_take 9 = .ok (.aload_n 0, 1) := by decide +kernel
theorem dX6_take_10 : decode cX6_take 10 = .ok (.getfield 11, 3) := by decide +kernel
theorem dX6_take_13 : decode cX6_take 13 = .ok (.iconst 0, 1) := by decide +kernel
theorem dX6_take_14 : decode cX6_take 14 = .ok (.iconst 1, 1) := by decide +kernel
theorem dX6_take_15 : decode cX6_take 15 = .ok (.iastore, 1) := by decide +kernel
theorem dX6_take_16 : decode cX6_take 16 = .ok (.iconst 1, 1) := by decide +kernel
theorem dX6_take_17 : decode cX6_take 17 = .ok (.istore_n 3, 1) := by decide +kernel
theorem dX6_take_18 : decode cX6_take 18 = .ok (.iload_n 3, 1) := by decide +kernel
theorem dX6_take_19 : decode cX6_take 19 = .ok (.bipush 31, 2) := by decide +kernel
theorem dX6_take_21 : decode cX6_take 21 = .ok (.if_icmp .gt 77, 3) := by decide +kernel
theorem dX6_take_24 : decode cX6_take 24 = .ok (.aload_n 1, 1) := by decide +kernel
theorem dX6_take_25 : decode cX6_take 25 = .ok (.iload_n 3, 1) := by decide +kernel
theorem dX6_take_26 : decode cX6_take 26 = .ok (.invokevirtual 28, 3) := by decide +kernel
theorem dX6_take_29 : decode cX6_take 29 = .ok (.istore 4, 2) := by decide +kernel
theorem dX6_take_31 : decode cX6_take 31 = .ok (.iconst 1, 1) := by decide +kernel
theorem dX6_take_32 : decode cX6_take 32 = .ok (.istore 5, 2) := by decide +kernel
theorem dX6_take_34 : decode cX6_take 34 = .ok (.iload 5, 2) := by decide +kernel
theorem dX6_take_36 : decode cX6_take 36 = .ok (.iload_n 3, 1) := by decide +kernel
theorem dX6_take_37 : decode cX6_take 37 = .ok (.if_icmp .ge 31, 3) := by decide +kernel
theorem dX6_take_40 : decode cX6_take 40 = .ok (.iload 4, 2) := by decide +kernel
theorem dX6_take_42 : decode cX6_take 42 = .ok (.aload_n 0, 1) := by decide +kernel
theorem dX6_take_43 : decode cX6_take 43 = .ok (.getfield 11, 3) := by decide +kernel
theorem dX6_take_46 : decode cX6_take 46 = .ok (.iload 5, 2) := by decide +kernel
theorem dX6_take_48 : decode cX6_take 48 = .ok (.iaload, 1) := by decide +kernel
theorem dX6_take_49 : decode cX6_take 49 = .ok (.aload_n 0, 1) := by decide +kernel
theorem dX6_take_50 : decode cX6_take 50 = .ok (.getfield 11, 3) := by decide +kernel
theorem dX6_take_53 : decode cX6_take 53 = .ok (.iload_n 3, 1) := by decide +kernel
theorem dX6_take_54 : decode cX6_take 54 = .ok (.iload 5, 2) := by decide +kernel
theorem dX6_take_56 : decode cX6_take 56 = .ok (.isub, 1) := by decide +kernel
theorem dX6_take_57 : decode cX6_take 57 = .ok (.iaload, 1) := by decide +kernel
theorem dX6_take_58 : decode cX6_take 58 = .ok (.imul, 1) := by decide +kernel
theorem dX6_take_59 : decode cX6_take 59 = .ok (.isub, 1) := by decide +kernel
theorem dX6_take_60 : decode cX6_take 60 = .ok (.istore 4, 2) := by decide +kernel
theorem dX6_take_62 : decode cX6_take 62 = .ok (.iinc 5 1, 3) := by decide +kernel
theorem dX6_take_65 : decode cX6_take 65 = .ok (.goto (-31), 3) := by decide +kernel
theorem dX6_take_68 : decode cX6_take 68 = .ok (.aload_n 0, 1) := by decide +kernel
theorem dX6_take_69 : decode cX6_take 69 = .ok (.getfield 11, 3) := by decide +kernel
theorem dX6_take_72 : decode cX6_take 72 = .ok (.iload_n 3, 1) := by decide +kernel
theorem dX6_take_73 : decode cX6_take 73 = .ok (.aload_n 0, 1) := by decide +kernel
theorem dX6_take_74 : decode cX6_take 74 = .ok (.getfield 18, 3) := by decide +kernel
theorem dX6_take_77 : decode cX6_take 77 = .ok (.aload_n 0, 1) := by decide +kernel
theorem dX6_take_78 : decode cX6_take 78 = .ok (.getfield 18, 3) := by decide +kernel
theorem dX6_take_81 : decode cX6_take 81 = .ok (.iload 4, 2) := by decide +kernel
theorem dX6_take_83 : decode cX6_take 83 = .ok (.invokevirtual 33, 3) := by decide +kernel
theorem dX6_take_86 : decode cX6_take 86 = .ok (.iload_n 2, 1) := by decide +kernel
theorem dX6_take_87 : decode cX6_take 87 = .ok (.imul, 1) := by decide +kernel
theorem dX6_take_88 : decode cX6_take 88 = .ok (.invokevirtual 33, 3) := by decide +kernel
theorem dX6_take_91 : decode cX6_take 91 = .ok (.iastore, 1) := by decide +kernel
theorem dX6_take_92 : decode cX6_take 92 = .ok (.iinc 3 1, 3) := by decide +kernel
theorem dX6_take_95 : decode cX6_take 95 = .ok (.goto (-77), 3) := by decide +kernel
theorem dX6_take_98 : decode cX6_take 98 = .ok (.return_, 1) := by decide +kernel
theorem dX6_part_0 : decode cX6_part 0 = .ok (.iload_n 1, 1) := by decide +kernel
theorem dX6_part_1 : decode cX6_part 1 = .ok (.ifCond .lt 18, 3) := by decide +kernel
theorem dX6_part_4 : decode cX6_part 4 = .ok (.iload_n 1, 1) := by decide +kernel
theorem dX6_part_5 : decode cX6_part 5 = .ok (.bipush 31, 2) := by decide +kernel
theorem dX6_part_7 : decode cX6_part 7 = .ok (.if_icmp .gt 12, 3) := by decide +kernel
theorem dX6_part_10 : decode cX6_part 10 = .ok (.aload_n 0, 1) := by decide +kernel
theorem dX6_part_11 : decode cX6_part 11 = .ok (.getfield 11, 3) := by decide +kernel
theorem dX6_part_14 : decode cX6_part 14 = .ok (.iload_n 1, 1) := by decide +kernel
theorem dX6_part_15 : decode cX6_part 15 = .ok (.iaload, 1) := by decide +kernel
theorem dX6_part_16 : decode cX6_part 16 = .ok (.goto 5, 3) := by decide +kernel
theorem dX6_part_19 : decode cX6_part 19 = .ok (.bipush (-2), 2) := by decide +kernel
theorem dX6_part_21 : decode cX6_part 21 = .ok (.ireturn, 1) := by decide +kernel
theorem ip_wsX6_closing__wsX6_closing_r1 : ∀ w ∈ wsX6_closing_r1, w ∈ wsX6_closing := fun _ h => (List.mem_cons_of_mem _ (List.mem_append_left _ (List.mem_append_left _ (List.mem_append_left _ h))))
theorem ip_wsX6_closing__wsX6_closing_r2 : ∀ w ∈ wsX6_closing_r2, w ∈ wsX6_closing := fun _ h => (List.mem_cons_of_mem _ (List.mem_append_left _ (List.mem_append_left _ (List.mem_append_right _ h))))
set_option maxRecDepth 20000 in
theorem ggX6_closing_X6_part : GoodIn wsX6_closing wsX6_part := goodIn_sub (List.forall_mem_cons.mpr ⟨(ip_wsX6_closing__wsX6_closing_r1 _ (List.mem_of_getElem? (i := 5) rfl)), (x_ap2 (List.forall_mem_cons.mpr ⟨(ip_wsX6_closing__wsX6_closing_r1 _ (List.mem_of_getElem? (i := 6) rfl)), (fun _ h => absurd h List.not_mem_nil)⟩) (fun _ h => (List.mem_cons_of_mem _ (List.mem_append_left _ (List.mem_append_right _ h)))))⟩) (by decide +kernel)
set_option maxRecDepth 20000 in
theorem gX6_closing_X6_part : GoodIn wsX6_closing (wsV RX6 36 RX6 yX6_part wsX6_part) := goodIn_app (goodIn_of _ (by decide +kernel)) ggX6_closing_X6_part
set_option maxRecDepth 20000 in
theorem ggX6_closing_X6_clear : GoodIn wsX6_closing wsX6_clear := goodIn_sub (List.forall_mem_cons.mpr ⟨(ip_wsX6_closing__wsX6_closing_r1 _ (List.mem_of_getElem? (i := 10) rfl)), (x_ap2 (x_ap2 (x_ap2 (show ∀ w ∈ wsX6_clear_r1, w ∈ wsX6_closing from (List.forall_mem_cons.mpr ⟨(ip_wsX6_closing__wsX6_closing_r1 _ (List.mem_of_getElem? (i := 0) rfl)), (List.forall_mem_cons.mpr ⟨(ip_wsX6_closing__wsX6_closing_r1 _ (List.mem_of_getElem? (i := 11) rfl)), (List.forall_mem_cons.mpr ⟨(ip_wsX6_closing__wsX6_closing_r1 _ (List.mem_of_getElem? (i := 12) rfl)), (List.forall_mem_cons.mpr ⟨(ip_wsX6_closing__wsX6_closing_r1 _ (List.mem_of_getElem? (i := 13) rfl)), (List.forall_mem_cons.mpr ⟨(ip_wsX6_closing__wsX6_closing_r1 _ (List.mem_of_getElem? (i := 14) rfl)), (List.forall_mem_cons.mpr ⟨(ip_wsX6_closing__wsX6_closing_r1 _ (List.mem_of_getElem? (i := 4) rfl)), (List.forall_mem_cons.mpr ⟨(ip_wsX6_closing__wsX6_closing_r1 _ (List.mem_of_getElem? (i := 15) rfl)), (List.forall_mem_cons.mpr ⟨(ip_wsX6_closing__wsX6_closing_r1 _ (List.mem_of_getElem? (i := 16) rfl)), (List.forall_mem_cons.mpr ⟨(ip_wsX6_closing__wsX6_closing_r1 _ (List.mem_of_getElem? (i := 17) rfl)), (List.forall_mem_cons.mpr ⟨(ip_wsX6_closing__wsX6_closing_r1 _ (List.mem_of_getElem? (i := 18) rfl)), (List.forall_mem_cons.mpr ⟨(ip_wsX6_closing__wsX6_closing_r1 _ (List.mem_of_getElem? (i := 19) rfl)), (List.forall_mem_cons.mpr ⟨(ip_wsX6_closing__wsX6_closing_r1 _ (List.mem_of_getElem? (i := 20) rfl)), (List.forall_mem_cons.mpr ⟨(ip_wsX6_closing__wsX6_closing_r1 _ (List.mem_of_getElem? (i := 21) rfl)), (List.forall_mem_cons.mpr ⟨(ip_wsX6_closing__wsX6_closing_r1 _ (List.mem_of_getElem? (i := 22) rfl)), (List.forall_mem_cons.mpr ⟨(ip_wsX6_closing__wsX6_closing_r1 _ (List.mem_of_getElem? (i := 23) rfl)), (List.forall_mem_cons.mpr ⟨(ip_wsX6_closing__wsX6_closing_r2 _ (List.mem_of_getElem? (i := 0) rfl)), (List.forall_mem_cons.mpr ⟨(ip_wsX6_closing__wsX6_closing_r2 _ (List.mem_of_getElem? (i := 1) rfl)), (List.forall_mem_cons.mpr ⟨(ip_wsX6_closing__wsX6_closing_r2 _ (List.mem_of_getElem? (i := 2) rfl)), (List.forall_mem_cons.mpr ⟨(ip_wsX6_closing__wsX6_closing_r2 _ (List.mem_of_getElem? (i := 3) rfl)), (List.forall_mem_cons.mpr ⟨(ip_wsX6_closing__wsX6_closing_r2 _ (List.mem_of_getElem? (i := 4) rfl)), (List.forall_mem_cons.mpr ⟨(ip_wsX6_closing__wsX6_closing_r2 _ (List.mem_of_getElem? (i := 5) rfl)), (List.forall_mem_cons.mpr ⟨(ip_wsX6_closing__wsX6_closing_r2 _ (List.mem_of_getElem? (i := 6) rfl)), (List.forall_mem_cons.mpr ⟨(ip_wsX6_closing__wsX6_closing_r2 _ (List.mem_of_getElem? (i := 7) rfl)), (List.forall_mem_cons.mpr ⟨(ip_wsX6_closing__wsX6_closing_r2 _ (List.mem_of_getElem? (i := 8) rfl)), (fun _ h => absurd h List.not_mem_nil)⟩)⟩)⟩)⟩)⟩)⟩)⟩)⟩)⟩)⟩)⟩)⟩)⟩)⟩)⟩)⟩)⟩)⟩)⟩)⟩)⟩)⟩)⟩)⟩)) (show ∀ w ∈ wsX6_clear_r2, w ∈ wsX6_closing from (List.forall_mem_cons.mpr ⟨(ip_wsX6_closing__wsX6_closing_r2 _ (List.mem_of_getElem? (i := 9) rfl)), (List.forall_mem_cons.mpr ⟨(ip_wsX6_closing__wsX6_closing_r2 _ (List.mem_of_getElem? (i := 10) rfl)), (fun _ h => absurd h List.not_mem_nil)⟩)⟩))) (fun _ h => (List.mem_cons_of_mem _ (List.mem_append_left _ (List.mem_append_right _ h))))) (fun _ h => (List.mem_cons_of_mem _ (List.mem_append_right _ h))))⟩) (by decide +kernel)
set_option maxRecDepth 20000 in
theorem gX6_closing_X6_clear : GoodIn wsX6_closing (wsV RX6 39 RX6 yX6_clear wsX6_clear) := goodIn_app (goodIn_of _ (by decide +kernel)) ggX6_closing_X6_clear
theorem dX6_closing_0 : decode cX6_closing 0 = .ok (.iload_n 1, 1) := by decide +kernel
theorem dX6_closing_1 : decode cX6_closing 1 = .ok (.iconst 1, 1) := by decide +kernel
theorem dX6_closing_2 : decode cX6_closing 2 = .ok (.isub, 1) := by decide +kernel
theorem dX6_closing_3 : decode cX6_closing 3 = .ok (.iconst 2, 1) := by decide +kernel
theorem dX6_closing_4 : decode cX6_closing 4 = .ok (.idiv, 1) := by decide +kernel
theorem dX6_closing_5 : decode cX6_closing 5 = .ok (.istore_n 2, 1) := by decide +kernel
theorem dX6_closing_6 : decode cX6_closing 6 = .ok (.iload_n 1, 1) := by decide +kernel
theorem dX6_closing_7 : decode cX6_closing 7 = .ok (.iconst 2, 1) := by decide +kernel
theorem dX6_closing_8 : decode cX6_closing 8 = .ok (.irem, 1) := by decide +kernel
theorem dX6_closing_9 : decode cX6_closing 9 = .ok (.ifCond .ne 7, 3) := by decide +kernel
theorem dX6_closing_12 : decode cX6_closing 12 = .ok (.iconst 3, 1) := by decide +kernel
theorem dX6_closing_13 : decode cX6_closing 13 = .ok (.goto 4, 3) := by decide +kernel
theorem dX6_closing_16 : decode cX6_closing 16 = .ok (.iconst 2, 1) := by decide +kernel
theorem dX6_closing_17 : decode cX6_closing 17 = .ok (.istore_n 3, 1) := by decide +kernel
theorem dX6_closing_18 : decode cX6_closing 18 = .ok (.iload_n 2, 1) := by decide +kernel
theorem dX6_closing_19 : decode cX6_closing 19 = .ok (.iconst 1, 1) := by decide +kernel
theorem dX6_closing_20 : decode cX6_closing 20 = .ok (.if_icmp .lt 9, 3) := by decide +kernel
theorem dX6_closing_23 : decode cX6_closing 23 = .ok (.iload_n 2, 1) := by decide +kernel
theorem dX6_closing_24 : decode cX6_closing 24 = .ok (.bipush 15, 2) := by decide +kernel
theorem dX6_closing_26 : decode cX6_closing 26 = .ok (.if_icmp .le 6, 3) := by decide +kernel
theorem dX6_closing_29 : decode cX6_closing 29 = .ok (.bipush (-2), 2) := by decide +kernel
theorem dX6_closing_31 : decode cX6_closing 31 = .ok (.ireturn, 1) := by decide +kernel
theorem dX6_closing_32 : decode cX6_closing 32 = .ok (.iconst 0, 1) := by decide +kernel
theorem dX6_closing_33 : decode cX6_closing 33 = .ok (.istore 4, 2) := by decide +kernel
theorem dX6_closing_35 : decode cX6_closing 35 = .ok (.iload 4, 2) := by decide +kernel
theorem dX6_closing_37 : decode cX6_closing 37 = .ok (.iload_n 2, 1) := by decide +kernel
theorem dX6_closing_38 : decode cX6_closing 38 = .ok (.if_icmp .ge 47, 3) := by decide +kernel
theorem dX6_closing_41 : decode cX6_closing 41 = .ok (.iconst 0, 1) := by decide +kernel
theorem dX6_closing_42 : decode cX6_closing 42 = .ok (.istore 5, 2) := by decide +kernel
theorem dX6_closing_44 : decode cX6_closing 44 = .ok (.iload 5, 2) := by decide +kernel
theorem dX6_closing_46 : decode cX6_closing 46 = .ok (.iload_n 2, 1) := by decide +kernel
theorem dX6_closing_47 : decode cX6_closing 47 = .ok (.if_icmp .ge 32, 3) := by decide +kernel
theorem dX6_closing_50 : decode cX6_closing 50 = .ok (.aload_n 0, 1) := by decide +kernel
theorem dX6_closing_51 : decode cX6_closing 51 = .ok (.getfield 15, 3) := by decide +kernel
theorem dX6_closing_54 : decode cX6_closing 54 = .ok (.iload 4, 2) := by decide +kernel
theorem dX6_closing_56 : decode cX6_closing 56 = .ok (.iload_n 2, 1) := by decide +kernel
theorem dX6_closing_57 : decode cX6_closing 57 = .ok (.imul, 1) := by decide +kernel
theorem dX6_closing_58 : decode cX6_closing 58 = .ok (.iload 5, 2) := by decide +kernel
theorem dX6_closing_60 : decode cX6_closing 60 = .ok (.iadd, 1) := by decide +kernel
theorem dX6_closing_61 : decode cX6_closing 61 = .ok (.aload_n 0, 1) := by decide +kernel
theorem dX6_closing_62 : decode cX6_closing 62 = .ok (.iload_n 3, 1) := by decide +kernel
theorem dX6_closing_63 : decode cX6_closing 63 = .ok (.iload 4, 2) := by decide +kernel
theorem dX6_closing_65 : decode cX6_closing 65 = .ok (.iadd, 1) := by decide +kernel
theorem dX6_closing_66 : decode cX6_closing 66 = .ok (.iload 5, 2) := by decide +kernel
theorem dX6_closing_68 : decode cX6_closing 68 = .ok (.iadd, 1) := by decide +kernel
theorem dX6_closing_69 : decode cX6_closing 69 = .ok (.invokevirtual 36, 3) := by decide +kernel
theorem dX6_closing_72 : decode cX6_closing 72 = .ok (.iastore, 1) := by decide +kernel
theorem dX6_closing_73 : decode cX6_closing 73 = .ok (.iinc 5 1, 3) := by decide +kernel
theorem dX6_closing_76 : decode cX6_closing 76 = .ok (.goto (-32), 3) := by decide +kernel
theorem dX6_closing_79 : decode cX6_closing 79 = .ok (.iinc 4 1, 3) := by decide +kernel
theorem dX6_closing_82 : decode cX6_closing 82 = .ok (.goto (-47), 3) := by decide +kernel
theorem dX6_closing_85 : decode cX6_closing 85 = .ok (.aload_n 0, 1) := by decide +kernel
theorem dX6_closing_86 : decode cX6_closing 86 = .ok (.iload_n 2, 1) := by decide +kernel
theorem dX6_closing_87 : decode cX6_closing 87 = .ok (.invokevirtual 39, 3) := by decide +kernel
theorem dX6_closing_90 : decode cX6_closing 90 = .ok (.ireturn, 1) := by decide +kernel
theorem ip_wsX6_clear__wsX6_clear_r1 : ∀ w ∈ wsX6_clear_r1, w ∈ wsX6_clear := fun _ h => (List.mem_cons_of_mem _ (List.mem_append_left _ (List.mem_append_left _ (List.mem_append_left _ h))))
theorem ip_wsX6_clear__wsX6_clear_r2 : ∀ w ∈ wsX6_clear_r2, w ∈ wsX6_clear := fun _ h => (List.mem_cons_of_mem _ (List.mem_append_left _ (List.mem_append_left _ (List.mem_append_right _ h))))
set_option maxRecDepth 20000 in
theorem ggX6_clear_X6_findPivot : GoodIn wsX6_clear wsX6_findPivot := goodIn_sub (List.forall_mem_cons.mpr ⟨(ip_wsX6_clear__wsX6_clear_r1 _ (List.mem_of_getElem? (i := 6) rfl)), (x_ap2 (List.forall_mem_cons.mpr ⟨(ip_wsX6_clear__wsX6_clear_r1 _ (List.mem_of_getElem? (i := 0) rfl)), (fun _ h => absurd h List.not_mem_nil)⟩) (fun _ h => (List.mem_cons_of_mem _ (List.mem_append_left _ (List.mem_append_right _ h)))))⟩) (by decide +kernel)
set_option maxRecDepth 20000 in
theorem gX6_clear_X6_findPivot : GoodIn wsX6_clear (wsV RX6 42 RX6 yX6_findPivot wsX6_findPivot) := goodIn_app (goodIn_of _ (by decide +kernel)) ggX6_clear_X6_findPivot
set_option maxRecDepth 20000 in
theorem ggX6_clear_X6_swapRows : GoodIn wsX6_clear wsX6_swapRows := goodIn_sub (List.forall_mem_cons.mpr ⟨(ip_wsX6_clear__wsX6_clear_r1 _ (List.mem_of_getElem? (i := 10) rfl)), (x_ap2 (List.forall_mem_cons.mpr ⟨(ip_wsX6_clear__wsX6_clear_r1 _ (List.mem_of_getElem? (i := 0) rfl)), (fun _ h => absurd h List.not_mem_nil)⟩) (fun _ h => (List.mem_cons_of_mem _ (List.mem_append_left _ (List.mem_append_right _ h)))))⟩) (by decide +kernel)
set_option maxRecDepth 20000 in
theorem gX6_clear_X6_swapRows : GoodIn wsX6_clear (wsV RX6 46 RX6 yX6_swapRows wsX6_swapRows) := goodIn_app (goodIn_of _ (by decide +kernel)) ggX6_clear_X6_swapRows
set_option maxRecDepth 20000 in
theorem ggX6_clear_X4_rest : GoodIn wsX6_clear wsX4_rest := goodIn_sub (List.forall_mem_cons.mpr ⟨(ip_wsX6_clear__wsX6_clear_r1 _ (List.mem_of_getElem? (i := 15) rfl)), (x_ap2 (List.forall_mem_cons.mpr ⟨(ip_wsX6_clear__wsX6_clear_r1 _ (List.mem_of_getElem? (i := 16) rfl)), (fun _ h => absurd h List.not_mem_nil)⟩) (fun _ h => (List.mem_cons_of_mem _ (List.mem_append_right _ h))))⟩) (by decide +kernel)
set_option maxRecDepth 20000 in
theorem gX6_clear_X4_rest : GoodIn wsX6_clear (wsV RX6 33 RX4 yX4_rest wsX4_rest) := goodIn_app (goodIn_of _ (by decide +kernel)) ggX6_clear_X4_rest
set_option maxRecDepth 20000 in
theorem ggX6_clear_X4_inverseOf : GoodIn wsX6_clear wsX4_inverseOf := goodIn_sub (List.forall_mem_cons.mpr ⟨(ip_wsX6_clear__wsX6_clear_r1 _ (List.mem_of_getElem? (i := 20) rfl)), (x_ap2 (List.forall_mem_cons.mpr ⟨(ip_wsX6_clear__wsX6_clear_r1 _ (List.mem_of_getElem? (i := 16) rfl)), (List.forall_mem_cons.mpr ⟨(ip_wsX6_clear__wsX6_clear_r1 _ (List.mem_of_getElem? (i := 21) rfl)), (fun _ h => absurd h List.not_mem_nil)⟩)⟩) (fun _ h => (List.mem_cons_of_mem _ (List.mem_append_right _ h))))⟩) (by decide +kernel)
set_option maxRecDepth 20000 in
theorem gX6_clear_X4_inverseOf : GoodIn wsX6_clear (wsV RX6 22 RX4 yX4_inverseOf wsX4_inverseOf) := goodIn_app (goodIn_of _ (by decide +kernel)) ggX6_clear_X4_inverseOf
set_option maxRecDepth 20000 in
theorem ggX6_clear_X6_takeAway : GoodIn wsX6_clear wsX6_takeAway := goodIn_sub (List.forall_mem_cons.mpr ⟨(ip_wsX6_clear__wsX6_clear_r2 _ (List.mem_of_getElem? (i := 1) rfl)), (x_ap2 (x_ap2 (List.forall_mem_cons.mpr ⟨(ip_wsX6_clear__wsX6_clear_r1 _ (List.mem_of_getElem? (i := 0) rfl)), (List.forall_mem_cons.mpr ⟨(ip_wsX6_clear__wsX6_clear_r1 _ (List.mem_of_getElem? (i := 1) rfl)), (List.forall_mem_cons.mpr ⟨(ip_wsX6_clear__wsX6_clear_r1 _ (List.mem_of_getElem? (i := 11) rfl)), (List.forall_mem_cons.mpr ⟨(ip_wsX6_clear__wsX6_clear_r1 _ (List.mem_of_getElem? (i := 12) rfl)), (List.forall_mem_cons.mpr ⟨(ip_wsX6_clear__wsX6_clear_r1 _ (List.mem_of_getElem? (i := 13) rfl)), (List.forall_mem_cons.mpr ⟨(ip_wsX6_clear__wsX6_clear_r1 _ (List.mem_of_getElem? (i := 14) rfl)), (List.forall_mem_cons.mpr ⟨(ip_wsX6_clear__wsX6_clear_r1 _ (List.mem_of_getElem? (i := 15) rfl)), (List.forall_mem_cons.mpr ⟨(ip_wsX6_clear__wsX6_clear_r1 _ (List.mem_of_getElem? (i := 16) rfl)), (fun _ h => absurd h List.not_mem_nil)⟩)⟩)⟩)⟩)⟩)⟩)⟩)⟩) (fun _ h => (List.mem_cons_of_mem _ (List.mem_append_left _ (List.mem_append_right _ h))))) (fun _ h => (List.mem_cons_of_mem _ (List.mem_append_right _ h))))⟩) (by decide +kernel)
set_option maxRecDepth 20000 in
theorem gX6_clear_X6_takeAway : GoodIn wsX6_clear (wsV RX6 50 RX6 yX6_takeAway wsX6_takeAway) := goodIn_app (goodIn_of _ (by decide +kernel)) ggX6_clear_X6_takeAway
theorem dX6_clear_0 : decode cX6_clear 0 = .ok (.iconst 1, 1) := by decide +kernel
theorem dX6_clear_1 : decode cX6_clear 1 = .ok (.istore_n 2, 1) := by decide +kernel
theorem dX6_clear_2 : decode cX6_clear 2 = .ok (.iconst 0, 1) := by decide +kernel
theorem dX6_clear_3 : decode cX6_clear 3 = .ok (.istore_n 3, 1) := by decide +kernel
theorem dX6_clear_4 : decode cX6_clear 4 = .ok (.iload_n 3, 1) := by decide +kernel
theorem dX6_clear_5 : decode cX6_clear 5 = .ok (.iload_n 1, 1) := by decide +kernel
theorem dX6_clear_6 : decode cX6_clear 6 = .ok (.if_icmp .ge 128, 3) := by decide +kernel
theorem dX6_clear_9 : decode cX6_clear 9 = .ok (.aload_n 0, 1) := by decide +kernel
theorem dX6_clear_10 : decode cX6_clear 10 = .ok (.iload_n 3, 1) := by decide +kernel
theorem dX6_clear_11 : decode cX6_clear 11 = .ok (.iload_n 1, 1) := by decide +kernel
theorem dX6_clear_12 : decode cX6_clear 12 = .ok (.invokevirtual 42, 3) := by decide +kernel
theorem dX6_clear_15 : decode cX6_clear 15 = .ok (.istore 4, 2) := by decide +kernel
theorem dX6_clear_17 : decode cX6_clear 17 = .ok (.iload 4, 2) := by decide +kernel
theorem dX6_clear_19 : decode cX6_clear 19 = .ok (.bipush (-6), 2) := by decide +kernel
theorem dX6_clear_21 : decode cX6_clear 21 = .ok (.if_icmp .ne 5, 3) := by decide +kernel
theorem dX6_clear_24 : decode cX6_clear 24 = .ok (.iconst 0, 1) := by decide +kernel
theorem dX6_clear_25 : decode cX6_clear 25 = .ok (.ireturn, 1) := by decide +kernel
theorem dX6_clear_26 : decode cX6_clear 26 = .ok (.iload 4, 2) := by decide +kernel
theorem dX6_clear_28 : decode cX6_clear 28 = .ok (.iload_n 3, 1) := by decide +kernel
theorem dX6_clear_29 : decode cX6_clear 29 = .ok (.if_icmp .eq 14, 3) := by decide +kernel
theorem dX6_clear_32 : decode cX6_clear 32 = .ok (.aload_n 0, 1) := by decide +kernel
theorem dX6_clear_33 : decode cX6_clear 33 = .ok (.iload 4, 2) := by decide +kernel
theorem dX6_clear_35 : decode cX6_clear 35 = .ok (.iload_n 3, 1) := by decide +kernel
theorem dX6_clear_36 : decode cX6_clear 36 = .ok (.iload_n 1, 1) := by decide +kernel
theorem dX6_clear_37 : decode cX6_clear 37 = .ok (.invokevirtual 46, 3) := by decide +kernel
theorem dX6_clear_40 : decode cX6_clear 40 = .ok (.iload_n 2, 1) := by decide +kernel
theorem dX6_clear_41 : decode cX6_clear 41 = .ok (.ineg, 1) := by decide +kernel
theorem dX6_clear_42 : decode cX6_clear 42 = .ok (.istore_n 2, 1) := by decide +kernel
theorem dX6_clear_43 : decode cX6_clear 43 = .ok (.aload_n 0, 1) := by decide +kernel
theorem dX6_clear_44 : decode cX6_clear 44 = .ok (.getfield 15, 3) := by decide +kernel
theorem dX6_clear_47 : decode cX6_clear 47 = .ok (.iload_n 3, 1) := by decide +kernel
theorem dX6_clear_48 : decode cX6_clear 48 = .ok (.iload_n 1, 1) := by decide +kernel
theorem dX6_clear_49 : decode cX6_clear 49 = .ok (.imul, 1) := by decide +kernel
theorem dX6_clear_50 : decode cX6_clear 50 = .ok (.iload_n 3, 1) := by decide +kernel
theorem dX6_clear_51 : decode cX6_clear 51 = .ok (.iadd, 1) := by decide +kernel
theorem dX6_clear_52 : decode cX6_clear 52 = .ok (.iaload, 1) := by decide +kernel
theorem dX6_clear_53 : decode cX6_clear 53 = .ok (.istore 5, 2) := by decide +kernel
theorem dX6_clear_55 : decode cX6_clear 55 = .ok (.aload_n 0, 1) := by decide +kernel
theorem dX6_clear_56 : decode cX6_clear 56 = .ok (.getfield 18, 3) := by decide +kernel
theorem dX6_clear_59 : decode cX6_clear 59 = .ok (.iload_n 2, 1) := by decide +kernel
theorem dX6_clear_60 : decode cX6_clear 60 = .ok (.iload 5, 2) := by decide +kernel
theorem dX6_clear_62 : decode cX6_clear 62 = .ok (.imul, 1) := by decide +kernel
theorem dX6_clear_63 : decode cX6_clear 63 = .ok (.invokevirtual 33, 3) := by decide +kernel
theorem dX6_clear_66 : decode cX6_clear 66 = .ok (.istore_n 2, 1) := by decide +kernel
theorem dX6_clear_67 : decode cX6_clear 67 = .ok (.aload_n 0, 1) := by decide +kernel
theorem dX6_clear_68 : decode cX6_clear 68 = .ok (.getfield 18, 3) := by decide +kernel
theorem dX6_clear_71 : decode cX6_clear 71 = .ok (.iload 5, 2) := by decide +kernel
theorem dX6_clear_73 : decode cX6_clear 73 = .ok (.invokevirtual 22, 3) := by decide +kernel
theorem dX6_clear_76 : decode cX6_clear 76 = .ok (.istore 6, 2) := by decide +kernel
theorem dX6_clear_78 : decode cX6_clear 78 = .ok (.iload_n 3, 1) := by decide +kernel
theorem dX6_clear_79 : decode cX6_clear 79 = .ok (.iconst 1, 1) := by decide +kernel
theorem dX6_clear_80 : decode cX6_clear 80 = .ok (.iadd, 1) := by decide +kernel
theorem dX6_clear_81 : decode cX6_clear 81 = .ok (.istore 7, 2) := by decide +kernel
theorem dX6_clear_83 : decode cX6_clear 83 = .ok (.iload 7, 2) := by decide +kernel
theorem dX6_clear_85 : decode cX6_clear 85 = .ok (.iload_n 1, 1) := by decide +kernel
theorem dX6_clear_86 : decode cX6_clear 86 = .ok (.if_icmp .ge 42, 3) := by decide +kernel
theorem dX6_clear_89 : decode cX6_clear 89 = .ok (.aload_n 0, 1) := by decide +kernel
theorem dX6_clear_90 : decode cX6_clear 90 = .ok (.getfield 18, 3) := by decide +kernel
theorem dX6_clear_93 : decode cX6_clear 93 = .ok (.aload_n 0, 1) := by decide +kernel
theorem dX6_clear_94 : decode cX6_clear 94 = .ok (.getfield 15, 3) := by decide +kernel
theorem dX6_clear_97 : decode cX6_clear 97 = .ok (.iload 7, 2) := by decide +kernel
theorem dX6_clear_99 : decode cX6_clear 99 = .ok (.iload_n 1, 1) := by decide +kernel
theorem dX6_clear_100 : decode cX6_clear 100 = .ok (.imul, 1) := by decide +kernel
theorem dX6_clear_101 : decode cX6_clear 101 = .ok (.iload_n 3, 1) := by decide +kernel
theorem dX6_clear_102 : decode cX6_clear 102 = .ok (.iadd, 1) := by decide +kernel
theorem dX6_clear_103 : decode cX6_clear 103 = .ok (.iaload, 1) := by decide +kernel
theorem dX6_clear_104 : decode cX6_clear 104 = .ok (.iload 6, 2) := by decide +kernel
theorem dX6_clear_106 : decode cX6_clear 106 = .ok (.imul, 1) := by decide +kernel
theorem dX6_clear_107 : decode cX6_clear 107 = .ok (.invokevirtual 33, 3) := by decide +kernel
theorem dX6_clear_110 : decode cX6_clear 110 = .ok (.istore 8, 2) := by decide +kernel
theorem dX6_clear_112 : decode cX6_clear 112 = .ok (.aload_n 0, 1) := by decide +kernel
theorem dX6_clear_113 : decode cX6_clear 113 = .ok (.iload 7, 2) := by decide +kernel
theorem dX6_clear_115 : decode cX6_clear 115 = .ok (.iload 8, 2) := by decide +kernel
theorem dX6_clear_117 : decode cX6_clear 117 = .ok (.iload_n 3, 1) := by decide +kernel
theorem dX6_clear_118 : decode cX6_clear 118 = .ok (.iload_n 1, 1) := by decide +kernel
theorem dX6_clear_119 : decode cX6_clear 119 = .ok (.invokevirtual 50, 3) := by decide +kernel
theorem dX6_clear_122 : decode cX6_clear 122 = .ok (.iinc 7 1, 3) := by decide +kernel
theorem dX6_clear_125 : decode cX6_clear 125 = .ok (.goto (-42), 3) := by decide +kernel
theorem dX6_clear_128 : decode cX6_clear 128 = .ok (.iinc 3 1, 3) := by decide +kernel
theorem dX6_clear_131 : decode cX6_clear 131 = .ok (.goto (-127), 3) := by decide +kernel
theorem dX6_clear_134 : decode cX6_clear 134 = .ok (.iload_n 2, 1) := by decide +kernel
theorem dX6_clear_135 : decode cX6_clear 135 = .ok (.ireturn, 1) := by decide +kernel
theorem dX6_findPivot_0 : decode cX6_findPivot 0 = .ok (.iload_n 1, 1) := by decide +kernel
theorem dX6_findPivot_1 : decode cX6_findPivot 1 = .ok (.istore_n 3, 1) := by decide +kernel
theorem dX6_findPivot_2 : decode cX6_findPivot 2 = .ok (.iload_n 3, 1) := by decide +kernel
theorem dX6_findPivot_3 : decode cX6_findPivot 3 = .ok (.iload_n 2, 1) := by decide +kernel
theorem dX6_findPivot_4 : decode cX6_findPivot 4 = .ok (.if_icmp .ge 24, 3) := by decide +kernel
theorem dX6_findPivot_7 : decode cX6_findPivot 7 = .ok (.aload_n 0, 1) := by decide +kernel
theorem dX6_findPivot_8 : decode cX6_findPivot 8 = .ok (.getfield 15, 3) := by decide +kernel
theorem dX6_findPivot_11 : decode cX6_findPivot 11 = .ok (.iload_n 3, 1) := by decide +kernel
theorem dX6_findPivot_12 : decode cX6_findPivot 12 = .ok (.iload_n 2, 1) := by decide +kernel
theorem dX6_findPivot_13 : decode cX6_findPivot 13 = .ok (.imul, 1) := by decide +kernel
theorem dX6_findPivot_14 : decode cX6_findPivot 14 = .ok (.iload_n 1, 1) := by decide +kernel
theorem dX6_findPivot_15 : decode cX6_findPivot 15 = .ok (.iadd, 1) := by decide +kernel
theorem dX6_findPivot_16 : decode cX6_findPivot 16 = .ok (.iaload, 1) := by decide +kernel
theorem dX6_findPivot_17 : decode cX6_findPivot 17 = .ok (.ifCond .eq 5, 3) := by decide +kernel
theorem dX6_findPivot_20 : decode cX6_findPivot 20 = .ok (.iload_n 3, 1) := by decide +kernel
theorem dX6_findPivot_21 : decode cX6_findPivot 21 = .ok (.ireturn, 1) := by decide +kernel
theorem dX6_findPivot_22 : decode cX6_findPivot 22 = .ok (.iinc 3 1, 3) := by decide +kernel
theorem dX6_findPivot_25 : decode cX6_findPivot 25 = .ok (.goto (-23), 3) := by decide +kernel
theorem dX6_findPivot_28 : decode cX6_findPivot 28 = .ok (.bipush (-6), 2) := by decide +kernel
theorem dX6_findPivot_30 : decode cX6_findPivot 30 = .ok (.ireturn, 1) := by decide +kernel
theorem dX6_swapRows_0 : decode cX6_swapRows 0 = .ok (.iconst 0, 1) := by decide +kernel
theorem dX6_swapRows_1 : decode cX6_swapRows 1 = .ok (.istore 4, 2) := by decide +kernel
theorem dX6_swapRows_3 : decode cX6_swapRows 3 = .ok (.iload 4, 2) := by decide +kernel
theorem dX6_swapRows_5 : decode cX6_swapRows 5 = .ok (.iload_n 3, 1) := by decide +kernel
theorem dX6_swapRows_6 : decode cX6_swapRows 6 = .ok (.if_icmp .ge 57, 3) := by decide +kernel
theorem dX6_swapRows_9 : decode cX6_swapRows 9 = .ok (.aload_n 0, 1) := by decide +kernel
theorem dX6_swapRows_10 : decode cX6_swapRows 10 = .ok (.getfield 15, 3) := by decide +kernel
theorem dX6_swapRows_13 : decode cX6_swapRows 13 = .ok (.iload_n 1, 1) := by decide +kernel
theorem dX6_swapRows_14 : decode cX6_swapRows 14 = .ok (.iload_n 3, 1) := by decide +kernel
theorem dX6_swapRows_15 : decode cX6_swapRows 15 = .ok (.imul, 1) := by decide +kernel
theorem dX6_swapRows_16 : decode cX6_swapRows 16 = .ok (.iload 4, 2) := by decide +kernel
theorem dX6_swapRows_18 : decode cX6_swapRows 18 = .ok (.iadd, 1) := by decide +kernel
theorem dX6_swapRows_19 : decode cX6_swapRows 19 = .ok (.iaload, 1) := by decide +kernel
theorem dX6_swapRows_20 : decode cX6_swapRows 20 = .ok (.istore 5, 2) := by decide +kernel
theorem dX6_swapRows_22 : decode cX6_swapRows 22 = .ok (.aload_n 0, 1) := by decide +kernel
theorem dX6_swapRows_23 : decode cX6_swapRows 23 = .ok (.getfield 15, 3) := by decide +kernel
theorem dX6_swapRows_26 : decode cX6_swapRows 26 = .ok (.iload_n 1, 1) := by decide +kernel
theorem dX6_swapRows_27 : decode cX6_swapRows 27 = .ok (.iload_n 3, 1) := by decide +kernel
theorem dX6_swapRows_28 : decode cX6_swapRows 28 = .ok (.imul, 1) := by decide +kernel
theorem dX6_swapRows_29 : decode cX6_swapRows 29 = .ok (.iload 4, 2) := by decide +kernel
theorem dX6_swapRows_31 : decode cX6_swapRows 31 = .ok (.iadd, 1) := by decide +kernel
theorem dX6_swapRows_32 : decode cX6_swapRows 32 = .ok (.aload_n 0, 1) := by decide +kernel
theorem dX6_swapRows_33 : decode cX6_swapRows 33 = .ok (.getfield 15, 3) := by decide +kernel
theorem dX6_swapRows_36 : decode cX6_swapRows 36 = .ok (.iload_n 2, 1) := by decide +kernel
theorem dX6_swapRows_37 : decode cX6_swapRows 37 = .ok (.iload_n 3, 1) := by decide +kernel
theorem dX6_swapRows_38 : decode cX6_swapRows 38 = .ok (.imul, 1) := by decide +kernel
theorem dX6_swapRows_39 : decode cX6_swapRows 39 = .ok (.iload 4, 2) := by decide +kernel
theorem dX6_swapRows_41 : decode cX6_swapRows 41 = .ok (.iadd, 1) := by decide +kernel
theorem dX6_swapRows_42 : decode cX6_swapRows 42 = .ok (.iaload, 1) := by decide +kernel
theorem dX6_swapRows_43 : decode cX6_swapRows 43 = .ok (.iastore, 1) := by decide +kernel
theorem dX6_swapRows_44 : decode cX6_swapRows 44 = .ok (.aload_n 0, 1) := by decide +kernel
theorem dX6_swapRows_45 : decode cX6_swapRows 45 = .ok (.getfield 15, 3) := by decide +kernel
theorem dX6_swapRows_48 : decode cX6_swapRows 48 = .ok (.iload_n 2, 1) := by decide +kernel
theorem dX6_swapRows_49 : decode cX6_swapRows 49 = .ok (.iload_n 3, 1) := by decide +kernel
theorem dX6_swapRows_50 : decode cX6_swapRows 50 = .ok (.imul, 1) := by decide +kernel
theorem dX6_swapRows_51 : decode cX6_swapRows 51 = .ok (.iload 4, 2) := by decide +kernel
theorem dX6_swapRows_53 : decode cX6_swapRows 53 = .ok (.iadd, 1) := by decide +kernel
theorem dX6_swapRows_54 : decode cX6_swapRows 54 = .ok (.iload 5, 2) := by decide +kernel
theorem dX6_swapRows_56 : decode cX6_swapRows 56 = .ok (.iastore, 1) := by decide +kernel
theorem dX6_swapRows_57 : decode cX6_swapRows 57 = .ok (.iinc 4 1, 3) := by decide +kernel
theorem dX6_swapRows_60 : decode cX6_swapRows 60 = .ok (.goto (-57), 3) := by decide +kernel
theorem dX6_swapRows_63 : decode cX6_swapRows 63 = .ok (.return_, 1) := by decide +kernel
set_option maxRecDepth 20000 in
theorem ggX6_takeAway_X4_rest : GoodIn wsX6_takeAway wsX4_rest := goodIn_sub (List.forall_mem_cons.mpr ⟨(List.mem_cons_of_mem _ (List.mem_append_left _ (List.mem_append_left _ (List.mem_of_getElem? (i := 6) rfl)))), (x_ap2 (List.forall_mem_cons.mpr ⟨(List.mem_cons_of_mem _ (List.mem_append_left _ (List.mem_append_left _ (List.mem_of_getElem? (i := 7) rfl)))), (fun _ h => absurd h List.not_mem_nil)⟩) (fun _ h => (List.mem_cons_of_mem _ (List.mem_append_right _ h))))⟩) (by decide +kernel)
set_option maxRecDepth 20000 in
theorem gX6_takeAway_X4_rest : GoodIn wsX6_takeAway (wsV RX6 33 RX4 yX4_rest wsX4_rest) := goodIn_app (goodIn_of _ (by decide +kernel)) ggX6_takeAway_X4_rest
theorem dX6_takeAway_0 : decode cX6_takeAway 0 = .ok (.iload_n 3, 1) := by decide +kernel
theorem dX6_takeAway_1 : decode cX6_takeAway 1 = .ok (.istore 5, 2) := by decide +kernel
theorem dX6_takeAway_3 : decode cX6_takeAway 3 = .ok (.iload 5, 2) := by decide +kernel
theorem dX6_takeAway_5 : decode cX6_takeAway 5 = .ok (.iload 4, 2) := by decide +kernel
theorem dX6_takeAway_7 : decode cX6_takeAway 7 = .ok (.if_icmp .ge 59, 3) := by decide +kernel
theorem dX6_takeAway_10 : decode cX6_takeAway 10 = .ok (.aload_n 0, 1) := by decide +kernel
theorem dX6_takeAway_11 : decode cX6_takeAway 11 = .ok (.getfield 15, 3) := by decide +kernel
theorem dX6_takeAway_14 : decode cX6_takeAway 14 = .ok (.iload_n 1, 1) := by decide +kernel
theorem dX6_takeAway_15 : decode cX6_takeAway 15 = .ok (.iload 4, 2) := by decide +kernel
theorem dX6_takeAway_17 : decode cX6_takeAway 17 = .ok (.imul, 1) := by decide +kernel
theorem dX6_takeAway_18 : decode cX6_takeAway 18 = .ok (.iload 5, 2) := by decide +kernel
theorem dX6_takeAway_20 : decode cX6_takeAway 20 = .ok (.iadd, 1) := by decide +kernel
theorem dX6_takeAway_21 : decode cX6_takeAway 21 = .ok (.iaload, 1) := by decide +kernel
theorem dX6_takeAway_22 : decode cX6_takeAway 22 = .ok (.iload_n 2, 1) := by decide +kernel
theorem dX6_takeAway_23 : decode cX6_takeAway 23 = .ok (.aload_n 0, 1) := by decide +kernel
theorem dX6_takeAway_24 : decode cX6_takeAway 24 = .ok (.getfield 15, 3) := by decide +kernel
theorem dX6_takeAway_27 : decode cX6_takeAway 27 = .ok (.iload_n 3, 1) := by decide +kernel
theorem dX6_takeAway_28 : decode cX6_takeAway 28 = .ok (.iload 4, 2) := by decide +kernel
theorem dX6_takeAway_30 : decode cX6_takeAway 30 = .ok (.imul, 1) := by decide +kernel
theorem dX6_takeAway_31 : decode cX6_takeAway 31 = .ok (.iload 5, 2) := by decide +kernel
theorem dX6_takeAway_33 : decode cX6_takeAway 33 = .ok (.iadd, 1) := by decide +kernel
theorem dX6_takeAway_34 : decode cX6_takeAway 34 = .ok (.iaload, 1) := by decide +kernel
theorem dX6_takeAway_35 : decode cX6_takeAway 35 = .ok (.imul, 1) := by decide +kernel
theorem dX6_takeAway_36 : decode cX6_takeAway 36 = .ok (.isub, 1) := by decide +kernel
theorem dX6_takeAway_37 : decode cX6_takeAway 37 = .ok (.istore 6, 2) := by decide +kernel
theorem dX6_takeAway_39 : decode cX6_takeAway 39 = .ok (.aload_n 0, 1) := by decide +kernel
theorem dX6_takeAway_40 : decode cX6_takeAway 40 = .ok (.getfield 15, 3) := by decide +kernel
theorem dX6_takeAway_43 : decode cX6_takeAway 43 = .ok (.iload_n 1, 1) := by decide +kernel
theorem dX6_takeAway_44 : decode cX6_takeAway 44 = .ok (.iload 4, 2) := by decide +kernel
theorem dX6_takeAway_46 : decode cX6_takeAway 46 = .ok (.imul, 1) := by decide +kernel
theorem dX6_takeAway_47 : decode cX6_takeAway 47 = .ok (.iload 5, 2) := by decide +kernel
theorem dX6_takeAway_49 : decode cX6_takeAway 49 = .ok (.iadd, 1) := by decide +kernel
theorem dX6_takeAway_50 : decode cX6_takeAway 50 = .ok (.aload_n 0, 1) := by decide +kernel
theorem dX6_takeAway_51 : decode cX6_takeAway 51 = .ok (.getfield 18, 3) := by decide +kernel
theorem dX6_takeAway_54 : decode cX6_takeAway 54 = .ok (.iload 6, 2) := by decide +kernel
theorem dX6_takeAway_56 : decode cX6_takeAway 56 = .ok (.invokevirtual 33, 3) := by decide +kernel
theorem dX6_takeAway_59 : decode cX6_takeAway 59 = .ok (.iastore, 1) := by decide +kernel
theorem dX6_takeAway_60 : decode cX6_takeAway 60 = .ok (.iinc 5 1, 3) := by decide +kernel
theorem dX6_takeAway_63 : decode cX6_takeAway 63 = .ok (.goto (-60), 3) := by decide +kernel
theorem dX6_takeAway_66 : decode cX6_takeAway 66 = .ok (.return_, 1) := by decide +kernel
theorem dX7_init_0 : decode cX7_init 0 = .ok (.aload_n 0, 1) := by decide +kernel
theorem dX7_init_1 : decode cX7_init 1 = .ok (.invokespecial 1, 3) := by decide +kernel
theorem dX7_init_4 : decode cX7_init 4 = .ok (.aload_n 0, 1) := by decide +kernel
theorem dX7_init_5 : decode cX7_init 5 = .ok (.aload_n 1, 1) := by decide +kernel
theorem dX7_init_6 : decode cX7_init 6 = .ok (.putfield 7, 3) := by decide +kernel
theorem dX7_init_9 : decode cX7_init 9 = .ok (.return_, 1) := by decide +kernel
set_option maxRecDepth 20000 in
theorem ggX7_take_X4_rest : GoodIn wsX7_take wsX4_rest := goodIn_sub (List.forall_mem_cons.mpr ⟨(List.mem_cons_of_mem _ (List.mem_append_left _ (List.mem_append_left _ (List.mem_of_getElem? (i := 8) rfl)))), (x_ap2 (List.forall_mem_cons.mpr ⟨(List.mem_cons_of_mem _ (List.mem_append_left _ (List.mem_append_left _ (List.mem_of_getElem? (i := 9) rfl)))), (fun _ h => absurd h List.not_mem_nil)⟩) (fun _ h => (List.mem_cons_of_mem _ (List.mem_append_right _ h))))⟩) (by decide +kernel)
set_option maxRecDepth 20000 in
theorem gX7_take_X4_rest : GoodIn wsX7_take (wsV RX7 13 RX4 yX4_rest wsX4_rest) := goodIn_app (goodIn_of _ (by decide +kernel)) ggX7_take_X4_rest
theorem dX7_take_0 : decode cX7_take 0 = .ok (.aload_n 0, 1) := by decide +kernel
theorem dX7_take_1 : decode cX7_take 1 = .ok (.aload_n 0, 1) := by decide +kernel
theorem dX7_take_2 : decode cX7_take 2 = .ok (.getfield 7, 3) := by decide +kernel
theorem dX7_take_5 : decode cX7_take 5 = .ok (.iload_n 1, 1) := by decide +kernel
theorem dX7_take_6 : decode cX7_take 6 = .ok (.invokevirtual 13, 3) := by decide +kernel
theorem dX7_take_9 : decode cX7_take 9 = .ok (.putfield 19, 3) := by decide +kernel
theorem dX7_take_12 : decode cX7_take 12 = .ok (.aload_n 0, 1) := by decide +kernel
theorem dX7_take_13 : decode cX7_take 13 = .ok (.aload_n 0, 1) := by decide +kernel
theorem dX7_take_14 : decode cX7_take 14 = .ok (.getfield 7, 3) := by decide +kernel
theorem dX7_take_17 : decode cX7_take 17 = .ok (.iload_n 2, 1) := by decide +kernel
theorem dX7_take_18 : decode cX7_take 18 = .ok (.invokevirtual 13, 3) := by decide +kernel
theorem dX7_take_21 : decode cX7_take 21 = .ok (.putfield 23, 3) := by decide +kernel
theorem dX7_take_24 : decode cX7_take 24 = .ok (.aload_n 0, 1) := by decide +kernel
theorem dX7_take_25 : decode cX7_take 25 = .ok (.aload_n 0, 1) := by decide +kernel
theorem dX7_take_26 : decode cX7_take 26 = .ok (.getfield 7, 3) := by decide +kernel
theorem dX7_take_29 : decode cX7_take 29 = .ok (.iload_n 3, 1) := by decide +kernel
theorem dX7_take_30 : decode cX7_take 30 = .ok (.invokevirtual 13, 3) := by decide +kernel
theorem dX7_take_33 : decode cX7_take 33 = .ok (.putfield 26, 3) := by decide +kernel
theorem dX7_take_36 : decode cX7_take 36 = .ok (.return_, 1) := by decide +kernel
theorem dX7_part_0 : decode cX7_part 0 = .ok (.iload_n 1, 1) := by decide +kernel
theorem dX7_part_1 : decode cX7_part 1 = .ok (.ifCond .ne 10, 3) := by decide +kernel
theorem dX7_part_4 : decode cX7_part 4 = .ok (.aload_n 0, 1) := by decide +kernel
theorem dX7_part_5 : decode cX7_part 5 = .ok (.getfield 19, 3) := by decide +kernel
theorem dX7_part_8 : decode cX7_part 8 = .ok (.goto 19, 3) := by decide +kernel
theorem dX7_part_11 : decode cX7_part 11 = .ok (.iload_n 1, 1) := by decide +kernel
theorem dX7_part_12 : decode cX7_part 12 = .ok (.iconst 1, 1) := by decide +kernel
theorem dX7_part_13 : decode cX7_part 13 = .ok (.if_icmp .ne 10, 3) := by decide +kernel
theorem dX7_part_16 : decode cX7_part 16 = .ok (.aload_n 0, 1) := by decide +kernel
theorem dX7_part_17 : decode cX7_part 17 = .ok (.getfield 23, 3) := by decide +kernel
theorem dX7_part_20 : decode cX7_part 20 = .ok (.goto 7, 3) := by decide +kernel
theorem dX7_part_23 : decode cX7_part 23 = .ok (.aload_n 0, 1) := by decide +kernel
theorem dX7_part_24 : decode cX7_part 24 = .ok (.getfield 26, 3) := by decide +kernel
theorem dX7_part_27 : decode cX7_part 27 = .ok (.ireturn, 1) := by decide +kernel
set_option maxRecDepth 20000 in
theorem ggX7_key_X4_prime : GoodIn wsX7_key wsX4_prime := goodIn_sub (List.forall_mem_cons.mpr ⟨(List.mem_cons_of_mem _ (List.mem_append_left _ (List.mem_append_left _ (List.mem_of_getElem? (i := 8) rfl)))), (x_ap2 (List.forall_mem_cons.mpr ⟨(List.mem_cons_of_mem _ (List.mem_append_left _ (List.mem_append_left _ (List.mem_of_getElem? (i := 9) rfl)))), (fun _ h => absurd h List.not_mem_nil)⟩) (fun _ h => (List.mem_cons_of_mem _ (List.mem_append_right _ h))))⟩) (by decide +kernel)
set_option maxRecDepth 20000 in
theorem gX7_key_X4_prime : GoodIn wsX7_key (wsV RX7 29 RX4 yX4_prime wsX4_prime) := goodIn_app (goodIn_of _ (by decide +kernel)) ggX7_key_X4_prime
set_option maxRecDepth 20000 in
theorem ggX7_key_X4_inverseOf : GoodIn wsX7_key wsX4_inverseOf := goodIn_sub (List.forall_mem_cons.mpr ⟨(List.mem_cons_of_mem _ (List.mem_append_left _ (List.mem_append_left _ (List.mem_of_getElem? (i := 13) rfl)))), (x_ap2 (List.forall_mem_cons.mpr ⟨(List.mem_cons_of_mem _ (List.mem_append_left _ (List.mem_append_left _ (List.mem_of_getElem? (i := 9) rfl)))), (List.forall_mem_cons.mpr ⟨(List.mem_cons_of_mem _ (List.mem_append_left _ (List.mem_append_left _ (List.mem_of_getElem? (i := 14) rfl)))), (fun _ h => absurd h List.not_mem_nil)⟩)⟩) (fun _ h => (List.mem_cons_of_mem _ (List.mem_append_right _ h))))⟩) (by decide +kernel)
set_option maxRecDepth 20000 in
theorem gX7_key_X4_inverseOf : GoodIn wsX7_key (wsV RX7 33 RX4 yX4_inverseOf wsX4_inverseOf) := goodIn_app (goodIn_of _ (by decide +kernel)) ggX7_key_X4_inverseOf
set_option maxRecDepth 20000 in
theorem ggX7_key_X4_rest : GoodIn wsX7_key wsX4_rest := goodIn_sub (List.forall_mem_cons.mpr ⟨(List.mem_cons_of_mem _ (List.mem_append_left _ (List.mem_append_left _ (List.mem_of_getElem? (i := 18) rfl)))), (x_ap2 (List.forall_mem_cons.mpr ⟨(List.mem_cons_of_mem _ (List.mem_append_left _ (List.mem_append_left _ (List.mem_of_getElem? (i := 9) rfl)))), (fun _ h => absurd h List.not_mem_nil)⟩) (fun _ h => (List.mem_cons_of_mem _ (List.mem_append_right _ h))))⟩) (by decide +kernel)
set_option maxRecDepth 20000 in
theorem gX7_key_X4_rest : GoodIn wsX7_key (wsV RX7 13 RX4 yX4_rest wsX4_rest) := goodIn_app (goodIn_of _ (by decide +kernel)) ggX7_key_X4_rest
theorem dX7_key_0 : decode cX7_key 0 = .ok (.aload_n 0, 1) := by decide +kernel
theorem dX7_key_1 : decode cX7_key 1 = .ok (.getfield 7, 3) := by decide +kernel
theorem dX7_key_4 : decode cX7_key 4 = .ok (.invokevirtual 29, 3) := by decide +kernel
theorem dX7_key_7 : decode cX7_key 7 = .ok (.istore_n 1, 1) := by decide +kernel
theorem dX7_key_8 : decode cX7_key 8 = .ok (.aload_n 0, 1) := by decide +kernel
theorem dX7_key_9 : decode cX7_key 9 = .ok (.getfield 26, 3) := by decide +kernel
theorem dX7_key_12 : decode cX7_key 12 = .ok (.ifCond .eq 45, 3) := by decide +kernel
theorem dX7_key_15 : decode cX7_key 15 = .ok (.aload_n 0, 1) := by decide +kernel
theorem dX7_key_16 : decode cX7_key 16 = .ok (.getfield 7, 3) := by decide +kernel
theorem dX7_key_19 : decode cX7_key 19 = .ok (.aload_n 0, 1) := by decide +kernel
theorem dX7_key_20 : decode cX7_key 20 = .ok (.getfield 26, 3) := by decide +kernel
theorem dX7_key_23 : decode cX7_key 23 = .ok (.invokevirtual 33, 3) := by decide +kernel
theorem dX7_key_26 : decode cX7_key 26 = .ok (.istore_n 2, 1) := by decide +kernel
theorem dX7_key_27 : decode cX7_key 27 = .ok (.aload_n 0, 1) := by decide +kernel
theorem dX7_key_28 : decode cX7_key 28 = .ok (.getfield 7, 3) := by decide +kernel
theorem dX7_key_31 : decode cX7_key 31 = .ok (.aload_n 0, 1) := by decide +kernel
theorem dX7_key_32 : decode cX7_key 32 = .ok (.getfield 23, 3) := by decide +kernel
theorem dX7_key_35 : decode cX7_key 35 = .ok (.iload_n 2, 1) := by decide +kernel
theorem dX7_key_36 : decode cX7_key 36 = .ok (.imul, 1) := by decide +kernel
theorem dX7_key_37 : decode cX7_key 37 = .ok (.invokevirtual 13, 3) := by decide +kernel
theorem dX7_key_40 : decode cX7_key 40 = .ok (.iload_n 1, 1) := by decide +kernel
theorem dX7_key_41 : decode cX7_key 41 = .ok (.imul, 1) := by decide +kernel
theorem dX7_key_42 : decode cX7_key 42 = .ok (.aload_n 0, 1) := by decide +kernel
theorem dX7_key_43 : decode cX7_key 43 = .ok (.getfield 7, 3) := by decide +kernel
theorem dX7_key_46 : decode cX7_key 46 = .ok (.aload_n 0, 1) := by decide +kernel
theorem dX7_key_47 : decode cX7_key 47 = .ok (.getfield 19, 3) := by decide +kernel
theorem dX7_key_50 : decode cX7_key 50 = .ok (.iload_n 2, 1) := by decide +kernel
theorem dX7_key_51 : decode cX7_key 51 = .ok (.imul, 1) := by decide +kernel
theorem dX7_key_52 : decode cX7_key 52 = .ok (.invokevirtual 13, 3) := by decide +kernel
theorem dX7_key_55 : decode cX7_key 55 = .ok (.iadd, 1) := by decide +kernel
theorem dX7_key_56 : decode cX7_key 56 = .ok (.ireturn, 1) := by decide +kernel
theorem dX7_key_57 : decode cX7_key 57 = .ok (.aload_n 0, 1) := by decide +kernel
theorem dX7_key_58 : decode cX7_key 58 = .ok (.getfield 23, 3) := by decide +kernel
theorem dX7_key_61 : decode cX7_key 61 = .ok (.ifCond .eq 33, 3) := by decide +kernel
theorem dX7_key_64 : decode cX7_key 64 = .ok (.iload_n 1, 1) := by decide +kernel
theorem dX7_key_65 : decode cX7_key 65 = .ok (.iload_n 1, 1) := by decide +kernel
theorem dX7_key_66 : decode cX7_key 66 = .ok (.imul, 1) := by decide +kernel
theorem dX7_key_67 : decode cX7_key 67 = .ok (.aload_n 0, 1) := by decide +kernel
theorem dX7_key_68 : decode cX7_key 68 = .ok (.getfield 7, 3) := by decide +kernel
theorem dX7_key_71 : decode cX7_key 71 = .ok (.aload_n 0, 1) := by decide +kernel
theorem dX7_key_72 : decode cX7_key 72 = .ok (.getfield 19, 3) := by decide +kernel
theorem dX7_key_75 : decode cX7_key 75 = .ok (.aload_n 0, 1) := by decide +kernel
theorem dX7_key_76 : decode cX7_key 76 = .ok (.getfield 7, 3) := by decide +kernel
theorem dX7_key_79 : decode cX7_key 79 = .ok (.aload_n 0, 1) := by decide +kernel
theorem dX7_key_80 : decode cX7_key 80 = .ok (.getfield 23, 3) := by decide +kernel
theorem dX7_key_83 : decode cX7_key 83 = .ok (.invokevirtual 33, 3) := by decide +kernel
theorem dX7_key_86 : decode cX7_key 86 = .ok (.imul, 1) := by decide +kernel
theorem dX7_key_87 : decode cX7_key 87 = .ok (.invokevirtual 13, 3) := by decide +kernel
theorem dX7_key_90 : decode cX7_key 90 = .ok (.iadd, 1) := by decide +kernel
theorem dX7_key_91 : decode cX7_key 91 = .ok (.goto 8, 3) := by decide +kernel
theorem dX7_key_94 : decode cX7_key 94 = .ok (.iload_n 1, 1) := by decide +kernel
theorem dX7_key_95 : decode cX7_key 95 = .ok (.iload_n 1, 1) := by decide +kernel
theorem dX7_key_96 : decode cX7_key 96 = .ok (.imul, 1) := by decide +kernel
theorem dX7_key_97 : decode cX7_key 97 = .ok (.iload_n 1, 1) := by decide +kernel
theorem dX7_key_98 : decode cX7_key 98 = .ok (.iadd, 1) := by decide +kernel
theorem dX7_key_99 : decode cX7_key 99 = .ok (.ireturn, 1) := by decide +kernel
set_option maxRecDepth 20000 in
theorem ggX7_takeKey_X4_prime : GoodIn wsX7_takeKey wsX4_prime := goodIn_sub (List.forall_mem_cons.mpr ⟨(List.mem_cons_of_mem _ (List.mem_append_left _ (List.mem_append_left _ (List.mem_of_getElem? (i := 8) rfl)))), (x_ap2 (List.forall_mem_cons.mpr ⟨(List.mem_cons_of_mem _ (List.mem_append_left _ (List.mem_append_left _ (List.mem_of_getElem? (i := 9) rfl)))), (fun _ h => absurd h List.not_mem_nil)⟩) (fun _ h => (List.mem_cons_of_mem _ (List.mem_append_right _ h))))⟩) (by decide +kernel)
set_option maxRecDepth 20000 in
theorem gX7_takeKey_X4_prime : GoodIn wsX7_takeKey (wsV RX7 29 RX4 yX4_prime wsX4_prime) := goodIn_app (goodIn_of _ (by decide +kernel)) ggX7_takeKey_X4_prime
theorem dX7_takeKey_0 : decode cX7_takeKey 0 = .ok (.aload_n 0, 1) := by decide +kernel
theorem dX7_takeKey_1 : decode cX7_takeKey 1 = .ok (.getfield 7, 3) := by decide +kernel
theorem dX7_takeKey_4 : decode cX7_takeKey 4 = .ok (.invokevirtual 29, 3) := by decide +kernel
theorem dX7_takeKey_7 : decode cX7_takeKey 7 = .ok (.istore_n 2, 1) := by decide +kernel
theorem dX7_takeKey_8 : decode cX7_takeKey 8 = .ok (.aload_n 0, 1) := by decide +kernel
theorem dX7_takeKey_9 : decode cX7_takeKey 9 = .ok (.iload_n 1, 1) := by decide +kernel
theorem dX7_takeKey_10 : decode cX7_takeKey 10 = .ok (.iload_n 2, 1) := by decide +kernel
theorem dX7_takeKey_11 : decode cX7_takeKey 11 = .ok (.iload_n 2, 1) := by decide +kernel
theorem dX7_takeKey_12 : decode cX7_takeKey 12 = .ok (.imul, 1) := by decide +kernel
theorem dX7_takeKey_13 : decode cX7_takeKey 13 = .ok (.if_icmp .ge 7, 3) := by decide +kernel
theorem dX7_takeKey_16 : decode cX7_takeKey 16 = .ok (.iconst 1, 1) := by decide +kernel
theorem dX7_takeKey_17 : decode cX7_takeKey 17 = .ok (.goto 4, 3) := by decide +kernel
theorem dX7_takeKey_20 : decode cX7_takeKey 20 = .ok (.iconst 0, 1) := by decide +kernel
theorem dX7_takeKey_21 : decode cX7_takeKey 21 = .ok (.putfield 26, 3) := by decide +kernel
theorem dX7_takeKey_24 : decode cX7_takeKey 24 = .ok (.aload_n 0, 1) := by decide +kernel
theorem dX7_takeKey_25 : decode cX7_takeKey 25 = .ok (.aload_n 0, 1) := by decide +kernel
theorem dX7_takeKey_26 : decode cX7_takeKey 26 = .ok (.getfield 26, 3) := by decide +kernel
theorem dX7_takeKey_29 : decode cX7_takeKey 29 = .ok (.iconst 1, 1) := by decide +kernel
theorem dX7_takeKey_30 : decode cX7_takeKey 30 = .ok (.if_icmp .ne 9, 3) := by decide +kernel
theorem dX7_takeKey_33 : decode cX7_takeKey 33 = .ok (.iload_n 1, 1) := by decide +kernel
theorem dX7_takeKey_34 : decode cX7_takeKey 34 = .ok (.iload_n 2, 1) := by decide +kernel
theorem dX7_takeKey_35 : decode cX7_takeKey 35 = .ok (.idiv, 1) := by decide +kernel
theorem dX7_takeKey_36 : decode cX7_takeKey 36 = .ok (.goto 17, 3) := by decide +kernel
theorem dX7_takeKey_39 : decode cX7_takeKey 39 = .ok (.iload_n 1, 1) := by decide +kernel
theorem dX7_takeKey_40 : decode cX7_takeKey 40 = .ok (.iload_n 2, 1) := by decide +kernel
theorem dX7_takeKey_41 : decode cX7_takeKey 41 = .ok (.iload_n 2, 1) := by decide +kernel
theorem dX7_takeKey_42 : decode cX7_takeKey 42 = .ok (.imul, 1) := by decide +kernel
theorem dX7_takeKey_43 : decode cX7_takeKey 43 = .ok (.iload_n 2, 1) := by decide +kernel
theorem dX7_takeKey_44 : decode cX7_takeKey 44 = .ok (.iadd, 1) := by decide +kernel
theorem dX7_takeKey_45 : decode cX7_takeKey 45 = .ok (.if_icmp .ge 7, 3) := by decide +kernel
theorem dX7_takeKey_48 : decode cX7_takeKey 48 = .ok (.iconst 1, 1) := by decide +kernel
theorem dX7_takeKey_49 : decode cX7_takeKey 49 = .ok (.goto 4, 3) := by decide +kernel
theorem dX7_takeKey_52 : decode cX7_takeKey 52 = .ok (.iconst 0, 1) := by decide +kernel
theorem dX7_takeKey_53 : decode cX7_takeKey 53 = .ok (.putfield 23, 3) := by decide +kernel
theorem dX7_takeKey_56 : decode cX7_takeKey 56 = .ok (.aload_n 0, 1) := by decide +kernel
theorem dX7_takeKey_57 : decode cX7_takeKey 57 = .ok (.aload_n 0, 1) := by decide +kernel
theorem dX7_takeKey_58 : decode cX7_takeKey 58 = .ok (.getfield 26, 3) := by decide +kernel
theorem dX7_takeKey_61 : decode cX7_takeKey 61 = .ok (.iconst 1, 1) := by decide +kernel
theorem dX7_takeKey_62 : decode cX7_takeKey 62 = .ok (.if_icmp .ne 9, 3) := by decide +kernel
theorem dX7_takeKey_65 : decode cX7_takeKey 65 = .ok (.iload_n 1, 1) := by decide +kernel
theorem dX7_takeKey_66 : decode cX7_takeKey 66 = .ok (.iload_n 2, 1) := by decide +kernel
theorem dX7_takeKey_67 : decode cX7_takeKey 67 = .ok (.irem, 1) := by decide +kernel
theorem dX7_takeKey_68 : decode cX7_takeKey 68 = .ok (.goto 20, 3) := by decide +kernel
theorem dX7_takeKey_71 : decode cX7_takeKey 71 = .ok (.aload_n 0, 1) := by decide +kernel
theorem dX7_takeKey_72 : decode cX7_takeKey 72 = .ok (.getfield 23, 3) := by decide +kernel
theorem dX7_takeKey_75 : decode cX7_takeKey 75 = .ok (.iconst 1, 1) := by decide +kernel
theorem dX7_takeKey_76 : decode cX7_takeKey 76 = .ok (.if_icmp .ne 11, 3) := by decide +kernel
theorem dX7_takeKey_79 : decode cX7_takeKey 79 = .ok (.iload_n 1, 1) := by decide +kernel
theorem dX7_takeKey_80 : decode cX7_takeKey 80 = .ok (.iload_n 2, 1) := by decide +kernel
theorem dX7_takeKey_81 : decode cX7_takeKey 81 = .ok (.iload_n 2, 1) := by decide +kernel
theorem dX7_takeKey_82 : decode cX7_takeKey 82 = .ok (.imul, 1) := by decide +kernel
theorem dX7_takeKey_83 : decode cX7_takeKey 83 = .ok (.isub, 1) := by decide +kernel
theorem dX7_takeKey_84 : decode cX7_takeKey 84 = .ok (.goto 4, 3) := by decide +kernel
theorem dX7_takeKey_87 : decode cX7_takeKey 87 = .ok (.iconst 1, 1) := by decide +kernel
theorem dX7_takeKey_88 : decode cX7_takeKey 88 = .ok (.putfield 19, 3) := by decide +kernel
theorem dX7_takeKey_91 : decode cX7_takeKey 91 = .ok (.return_, 1) := by decide +kernel
set_option maxRecDepth 20000 in
theorem ggX7_takeSum_X4_rest : GoodIn wsX7_takeSum wsX4_rest := goodIn_sub (List.forall_mem_cons.mpr ⟨(List.mem_cons_of_mem _ (List.mem_append_left _ (List.mem_append_left _ (List.mem_of_getElem? (i := 8) rfl)))), (x_ap2 (List.forall_mem_cons.mpr ⟨(List.mem_cons_of_mem _ (List.mem_append_left _ (List.mem_append_left _ (List.mem_of_getElem? (i := 9) rfl)))), (fun _ h => absurd h List.not_mem_nil)⟩) (fun _ h => (List.mem_cons_of_mem _ (List.mem_append_right _ h))))⟩) (by decide +kernel)
set_option maxRecDepth 20000 in
theorem gX7_takeSum_X4_rest : GoodIn wsX7_takeSum (wsV RX7 13 RX4 yX4_rest wsX4_rest) := goodIn_app (goodIn_of _ (by decide +kernel)) ggX7_takeSum_X4_rest
theorem dX7_takeSum_0 : decode cX7_takeSum 0 = .ok (.aload_n 0, 1) := by decide +kernel
theorem dX7_takeSum_1 : decode cX7_takeSum 1 = .ok (.aload_n 0, 1) := by decide +kernel
theorem dX7_takeSum_2 : decode cX7_takeSum 2 = .ok (.getfield 7, 3) := by decide +kernel
theorem dX7_takeSum_5 : decode cX7_takeSum 5 = .ok (.iload_n 1, 1) := by decide +kernel
theorem dX7_takeSum_6 : decode cX7_takeSum 6 = .ok (.aload_n 2, 1) := by decide +kernel
theorem dX7_takeSum_7 : decode cX7_takeSum 7 = .ok (.getfield 19, 3) := by decide +kernel
theorem dX7_takeSum_10 : decode cX7_takeSum 10 = .ok (.imul, 1) := by decide +kernel
theorem dX7_takeSum_11 : decode cX7_takeSum 11 = .ok (.iload_n 3, 1) := by decide +kernel
theorem dX7_takeSum_12 : decode cX7_takeSum 12 = .ok (.aload 4, 2) := by decide +kernel
theorem dX7_takeSum_14 : decode cX7_takeSum 14 = .ok (.getfield 19, 3) := by decide +kernel
theorem dX7_takeSum_17 : decode cX7_takeSum 17 = .ok (.imul, 1) := by decide +kernel
theorem dX7_takeSum_18 : decode cX7_takeSum 18 = .ok (.iadd, 1) := by decide +kernel
theorem dX7_takeSum_19 : decode cX7_takeSum 19 = .ok (.invokevirtual 13, 3) := by decide +kernel
theorem dX7_takeSum_22 : decode cX7_takeSum 22 = .ok (.putfield 19, 3) := by decide +kernel
theorem dX7_takeSum_25 : decode cX7_takeSum 25 = .ok (.aload_n 0, 1) := by decide +kernel
theorem dX7_takeSum_26 : decode cX7_takeSum 26 = .ok (.aload_n 0, 1) := by decide +kernel
theorem dX7_takeSum_27 : decode cX7_takeSum 27 = .ok (.getfield 7, 3) := by decide +kernel
theorem dX7_takeSum_30 : decode cX7_takeSum 30 = .ok (.iload_n 1, 1) := by decide +kernel
theorem dX7_takeSum_31 : decode cX7_takeSum 31 = .ok (.aload_n 2, 1) := by decide +kernel
theorem dX7_takeSum_32 : decode cX7_takeSum 32 = .ok (.getfield 23, 3) := by decide +kernel
theorem dX7_takeSum_35 : decode cX7_takeSum 35 = .ok (.imul, 1) := by decide +kernel
theorem dX7_takeSum_36 : decode cX7_takeSum 36 = .ok (.iload_n 3, 1) := by decide +kernel
theorem dX7_takeSum_37 : decode cX7_takeSum 37 = .ok (.aload 4, 2) := by decide +kernel
theorem dX7_takeSum_39 : decode cX7_takeSum 39 = .ok (.getfield 23, 3) := by decide +kernel
theorem dX7_takeSum_42 : decode cX7_takeSum 42 = .ok (.imul, 1) := by decide +kernel
theorem dX7_takeSum_43 : decode cX7_takeSum 43 = .ok (.iadd, 1) := by decide +kernel
theorem dX7_takeSum_44 : decode cX7_takeSum 44 = .ok (.invokevirtual 13, 3) := by decide +kernel
theorem dX7_takeSum_47 : decode cX7_takeSum 47 = .ok (.putfield 23, 3) := by decide +kernel
theorem dX7_takeSum_50 : decode cX7_takeSum 50 = .ok (.aload_n 0, 1) := by decide +kernel
theorem dX7_takeSum_51 : decode cX7_takeSum 51 = .ok (.aload_n 0, 1) := by decide +kernel
theorem dX7_takeSum_52 : decode cX7_takeSum 52 = .ok (.getfield 7, 3) := by decide +kernel
theorem dX7_takeSum_55 : decode cX7_takeSum 55 = .ok (.iload_n 1, 1) := by decide +kernel
theorem dX7_takeSum_56 : decode cX7_takeSum 56 = .ok (.aload_n 2, 1) := by decide +kernel
theorem dX7_takeSum_57 : decode cX7_takeSum 57 = .ok (.getfield 26, 3) := by decide +kernel
theorem dX7_takeSum_60 : decode cX7_takeSum 60 = .ok (.imul, 1) := by decide +kernel
theorem dX7_takeSum_61 : decode cX7_takeSum 61 = .ok (.iload_n 3, 1) := by decide +kernel
theorem dX7_takeSum_62 : decode cX7_takeSum 62 = .ok (.aload 4, 2) := by decide +kernel
theorem dX7_takeSum_64 : decode cX7_takeSum 64 = .ok (.getfield 26, 3) := by decide +kernel
theorem dX7_takeSum_67 : decode cX7_takeSum 67 = .ok (.imul, 1) := by decide +kernel
theorem dX7_takeSum_68 : decode cX7_takeSum 68 = .ok (.iadd, 1) := by decide +kernel
theorem dX7_takeSum_69 : decode cX7_takeSum 69 = .ok (.invokevirtual 13, 3) := by decide +kernel
theorem dX7_takeSum_72 : decode cX7_takeSum 72 = .ok (.putfield 26, 3) := by decide +kernel
theorem dX7_takeSum_75 : decode cX7_takeSum 75 = .ok (.return_, 1) := by decide +kernel
set_option maxRecDepth 20000 in
theorem ggX7_takeJoin_X7_take : GoodIn wsX7_takeJoin wsX7_take := goodIn_sub (List.forall_mem_cons.mpr ⟨(List.mem_cons_of_mem _ (List.mem_append_left _ (List.mem_append_left _ (List.mem_of_getElem? (i := 7) rfl)))), (x_ap2 (x_ap2 (List.forall_mem_cons.mpr ⟨(List.mem_cons_of_mem _ (List.mem_append_left _ (List.mem_append_left _ (List.mem_of_getElem? (i := 8) rfl)))), (List.forall_mem_cons.mpr ⟨(List.mem_cons_of_mem _ (List.mem_append_left _ (List.mem_append_left _ (List.mem_of_getElem? (i := 2) rfl)))), (List.forall_mem_cons.mpr ⟨(List.mem_cons_of_mem _ (List.mem_append_left _ (List.mem_append_left _ (List.mem_of_getElem? (i := 0) rfl)))), (List.forall_mem_cons.mpr ⟨(List.mem_cons_of_mem _ (List.mem_append_left _ (List.mem_append_left _ (List.mem_of_getElem? (i := 1) rfl)))), (List.forall_mem_cons.mpr ⟨(List.mem_cons_of_mem _ (List.mem_append_left _ (List.mem_append_left _ (List.mem_of_getElem? (i := 9) rfl)))), (List.forall_mem_cons.mpr ⟨(List.mem_cons_of_mem _ (List.mem_append_left _ (List.mem_append_left _ (List.mem_of_getElem? (i := 10) rfl)))), (List.forall_mem_cons.mpr ⟨(List.mem_cons_of_mem _ (List.mem_append_left _ (List.mem_append_left _ (List.mem_of_getElem? (i := 11) rfl)))), (List.forall_mem_cons.mpr ⟨(List.mem_cons_of_mem _ (List.mem_append_left _ (List.mem_append_left _ (List.mem_of_getElem? (i := 12) rfl)))), (List.forall_mem_cons.mpr ⟨(List.mem_cons_of_mem _ (List.mem_append_left _ (List.mem_append_left _ (List.mem_of_getElem? (i := 13) rfl)))), (List.forall_mem_cons.mpr ⟨(List.mem_cons_of_mem _ (List.mem_append_left _ (List.mem_append_left _ (List.mem_of_getElem? (i := 14) rfl)))), (fun _ h => absurd h List.not_mem_nil)⟩)⟩)⟩)⟩)⟩)⟩)⟩)⟩)⟩)⟩) (fun _ h => (List.mem_cons_of_mem _ (List.mem_append_left _ (List.mem_append_right _ h))))) (fun _ h => (List.mem_cons_of_mem _ (List.mem_append_right _ h))))⟩) (by decide +kernel)
set_option maxRecDepth 20000 in
theorem gX7_takeJoin_X7_take : GoodIn wsX7_takeJoin (wsV RX7 36 RX7 yX7_take wsX7_take) := goodIn_app (goodIn_of _ (by decide +kernel)) ggX7_takeJoin_X7_take
theorem dX7_takeJoin_0 : decode cX7_takeJoin 0 = .ok (.aload_n 0, 1) := by decide +kernel
theorem dX7_takeJoin_1 : decode cX7_takeJoin 1 = .ok (.aload_n 1, 1) := by decide +kernel
theorem dX7_takeJoin_2 : decode cX7_takeJoin 2 = .ok (.getfield 23, 3) := by decide +kernel
theorem dX7_takeJoin_5 : decode cX7_takeJoin 5 = .ok (.aload_n 2, 1) := by decide +kernel
theorem dX7_takeJoin_6 : decode cX7_takeJoin 6 = .ok (.getfield 26, 3) := by decide +kernel
theorem dX7_takeJoin_9 : decode cX7_takeJoin 9 = .ok (.imul, 1) := by decide +kernel
theorem dX7_takeJoin_10 : decode cX7_takeJoin 10 = .ok (.aload_n 1, 1) := by decide +kernel
theorem dX7_takeJoin_11 : decode cX7_takeJoin 11 = .ok (.getfield 26, 3) := by decide +kernel
theorem dX7_takeJoin_14 : decode cX7_takeJoin 14 = .ok (.aload_n 2, 1) := by decide +kernel
theorem dX7_takeJoin_15 : decode cX7_takeJoin 15 = .ok (.getfield 23, 3) := by decide +kernel
theorem dX7_takeJoin_18 : decode cX7_takeJoin 18 = .ok (.imul, 1) := by decide +kernel
theorem dX7_takeJoin_19 : decode cX7_takeJoin 19 = .ok (.isub, 1) := by decide +kernel
theorem dX7_takeJoin_20 : decode cX7_takeJoin 20 = .ok (.aload_n 1, 1) := by decide +kernel
theorem dX7_takeJoin_21 : decode cX7_takeJoin 21 = .ok (.getfield 26, 3) := by decide +kernel
theorem dX7_takeJoin_24 : decode cX7_takeJoin 24 = .ok (.aload_n 2, 1) := by decide +kernel
theorem dX7_takeJoin_25 : decode cX7_takeJoin 25 = .ok (.getfield 19, 3) := by decide +kernel
theorem dX7_takeJoin_28 : decode cX7_takeJoin 28 = .ok (.imul, 1) := by decide +kernel
theorem dX7_takeJoin_29 : decode cX7_takeJoin 29 = .ok (.aload_n 1, 1) := by decide +kernel
theorem dX7_takeJoin_30 : decode cX7_takeJoin 30 = .ok (.getfield 19, 3) := by decide +kernel
theorem dX7_takeJoin_33 : decode cX7_takeJoin 33 = .ok (.aload_n 2, 1) := by decide +kernel
theorem dX7_takeJoin_34 : decode cX7_takeJoin 34 = .ok (.getfield 26, 3) := by decide +kernel
theorem dX7_takeJoin_37 : decode cX7_takeJoin 37 = .ok (.imul, 1) := by decide +kernel
theorem dX7_takeJoin_38 : decode cX7_takeJoin 38 = .ok (.isub, 1) := by decide +kernel
theorem dX7_takeJoin_39 : decode cX7_takeJoin 39 = .ok (.aload_n 1, 1) := by decide +kernel
theorem dX7_takeJoin_40 : decode cX7_takeJoin 40 = .ok (.getfield 19, 3) := by decide +kernel
theorem dX7_takeJoin_43 : decode cX7_takeJoin 43 = .ok (.aload_n 2, 1) := by decide +kernel
theorem dX7_takeJoin_44 : decode cX7_takeJoin 44 = .ok (.getfield 23, 3) := by decide +kernel
theorem dX7_takeJoin_47 : decode cX7_takeJoin 47 = .ok (.imul, 1) := by decide +kernel
theorem dX7_takeJoin_48 : decode cX7_takeJoin 48 = .ok (.aload_n 1, 1) := by decide +kernel
theorem dX7_takeJoin_49 : decode cX7_takeJoin 49 = .ok (.getfield 23, 3) := by decide +kernel
theorem dX7_takeJoin_52 : decode cX7_takeJoin 52 = .ok (.aload_n 2, 1) := by decide +kernel
theorem dX7_takeJoin_53 : decode cX7_takeJoin 53 = .ok (.getfield 19, 3) := by decide +kernel
theorem dX7_takeJoin_56 : decode cX7_takeJoin 56 = .ok (.imul, 1) := by decide +kernel
theorem dX7_takeJoin_57 : decode cX7_takeJoin 57 = .ok (.isub, 1) := by decide +kernel
theorem dX7_takeJoin_58 : decode cX7_takeJoin 58 = .ok (.invokevirtual 36, 3) := by decide +kernel
theorem dX7_takeJoin_61 : decode cX7_takeJoin 61 = .ok (.return_, 1) := by decide +kernel
theorem ip_wsX7_takePolar__wsX7_takePolar_r1 : ∀ w ∈ wsX7_takePolar_r1, w ∈ wsX7_takePolar := fun _ h => (List.mem_cons_of_mem _ (List.mem_append_left _ (List.mem_append_left _ (List.mem_append_left _ (List.mem_append_left _ h)))))
theorem ip_wsX7_takePolar__wsX7_takePolar_r2 : ∀ w ∈ wsX7_takePolar_r2, w ∈ wsX7_takePolar := fun _ h => (List.mem_cons_of_mem _ (List.mem_append_left _ (List.mem_append_left _ (List.mem_append_left _ (List.mem_append_right _ h)))))
set_option maxRecDepth 20000 in
theorem ggX7_takePolar_X2_side : GoodIn wsX7_takePolar wsX2_side := goodIn_sub (List.forall_mem_cons.mpr ⟨(ip_wsX7_takePolar__wsX7_takePolar_r1 _ (List.mem_of_getElem? (i := 4) rfl)), (x_ap2 (x_ap2 (List.forall_mem_cons.mpr ⟨(ip_wsX7_takePolar__wsX7_takePolar_r1 _ (List.mem_of_getElem? (i := 5) rfl)), (List.forall_mem_cons.mpr ⟨(ip_wsX7_takePolar__wsX7_takePolar_r1 _ (List.mem_of_getElem? (i := 6) rfl)), (List.forall_mem_cons.mpr ⟨(ip_wsX7_takePolar__wsX7_takePolar_r1 _ (List.mem_of_getElem? (i := 7) rfl)), (List.forall_mem_cons.mpr ⟨(ip_wsX7_takePolar__wsX7_takePolar_r1 _ (List.mem_of_getElem? (i := 8) rfl)), (List.forall_mem_cons.mpr ⟨(ip_wsX7_takePolar__wsX7_takePolar_r1 _ (List.mem_of_getElem? (i := 9) rfl)), (List.forall_mem_cons.mpr ⟨(ip_wsX7_takePolar__wsX7_takePolar_r1 _ (List.mem_of_getElem? (i := 10) rfl)), (fun _ h => absurd h List.not_mem_nil)⟩)⟩)⟩)⟩)⟩)⟩) (fun _ h => (List.mem_cons_of_mem _ (List.mem_append_left _ (List.mem_append_left _ (List.mem_append_right _ h)))))) (fun _ h => (List.mem_cons_of_mem _ (List.mem_append_left _ (List.mem_append_right _ h)))))⟩) (by decide +kernel)
set_option maxRecDepth 20000 in
theorem gX7_takePolar_X2_side : GoodIn wsX7_takePolar (wsV RX7 40 RX2 yX2_side wsX2_side) := goodIn_app (goodIn_of _ (by decide +kernel)) ggX7_takePolar_X2_side
set_option maxRecDepth 20000 in
theorem ggX7_takePolar_X7_take : GoodIn wsX7_takePolar wsX7_take := goodIn_sub (List.forall_mem_cons.mpr ⟨(ip_wsX7_takePolar__wsX7_takePolar_r1 _ (List.mem_of_getElem? (i := 15) rfl)), (x_ap2 (x_ap2 (List.forall_mem_cons.mpr ⟨(ip_wsX7_takePolar__wsX7_takePolar_r1 _ (List.mem_of_getElem? (i := 16) rfl)), (List.forall_mem_cons.mpr ⟨(ip_wsX7_takePolar__wsX7_takePolar_r1 _ (List.mem_of_getElem? (i := 17) rfl)), (List.forall_mem_cons.mpr ⟨(ip_wsX7_takePolar__wsX7_takePolar_r1 _ (List.mem_of_getElem? (i := 18) rfl)), (List.forall_mem_cons.mpr ⟨(ip_wsX7_takePolar__wsX7_takePolar_r1 _ (List.mem_of_getElem? (i := 19) rfl)), (List.forall_mem_cons.mpr ⟨(ip_wsX7_takePolar__wsX7_takePolar_r1 _ (List.mem_of_getElem? (i := 20) rfl)), (List.forall_mem_cons.mpr ⟨(ip_wsX7_takePolar__wsX7_takePolar_r1 _ (List.mem_of_getElem? (i := 21) rfl)), (List.forall_mem_cons.mpr ⟨(ip_wsX7_takePolar__wsX7_takePolar_r1 _ (List.mem_of_getElem? (i := 22) rfl)), (List.forall_mem_cons.mpr ⟨(ip_wsX7_takePolar__wsX7_takePolar_r1 _ (List.mem_of_getElem? (i := 23) rfl)), (List.forall_mem_cons.mpr ⟨(ip_wsX7_takePolar__wsX7_takePolar_r2 _ (List.mem_of_getElem? (i := 0) rfl)), (List.forall_mem_cons.mpr ⟨(ip_wsX7_takePolar__wsX7_takePolar_r2 _ (List.mem_of_getElem? (i := 1) rfl)), (fun _ h => absurd h List.not_mem_nil)⟩)⟩)⟩)⟩)⟩)⟩)⟩)⟩)⟩)⟩) (fun _ h => (List.mem_cons_of_mem _ (List.mem_append_left _ (List.mem_append_right _ h))))) (fun _ h => (List.mem_cons_of_mem _ (List.mem_append_right _ h))))⟩) (by decide +kernel)
set_option maxRecDepth 20000 in
theorem gX7_takePolar_X7_take : GoodIn wsX7_takePolar (wsV RX7 36 RX7 yX7_take wsX7_take) := goodIn_app (goodIn_of _ (by decide +kernel)) ggX7_takePolar_X7_take
theorem dX7_takePolar_0 : decode cX7_takePolar 0 = .ok (.aload_n 0, 1) := by decide +kernel
theorem dX7_takePolar_1 : decode cX7_takePolar 1 = .ok (.aload_n 1, 1) := by decide +kernel
theorem dX7_takePolar_2 : decode cX7_takePolar 2 = .ok (.iconst 0, 1) := by decide +kernel
theorem dX7_takePolar_3 : decode cX7_takePolar 3 = .ok (.aload_n 2, 1) := by decide +kernel
theorem dX7_takePolar_4 : decode cX7_takePolar 4 = .ok (.invokevirtual 40, 3) := by decide +kernel
theorem dX7_takePolar_7 : decode cX7_takePolar 7 = .ok (.aload_n 1, 1) := by decide +kernel
theorem dX7_takePolar_8 : decode cX7_takePolar 8 = .ok (.iconst 1, 1) := by decide +kernel
theorem dX7_takePolar_9 : decode cX7_takePolar 9 = .ok (.aload_n 2, 1) := by decide +kernel
theorem dX7_takePolar_10 : decode cX7_takePolar 10 = .ok (.invokevirtual 40, 3) := by decide +kernel
theorem dX7_takePolar_13 : decode cX7_takePolar 13 = .ok (.aload_n 1, 1) := by decide +kernel
theorem dX7_takePolar_14 : decode cX7_takePolar 14 = .ok (.iconst 2, 1) := by decide +kernel
theorem dX7_takePolar_15 : decode cX7_takePolar 15 = .ok (.aload_n 2, 1) := by decide +kernel
theorem dX7_takePolar_16 : decode cX7_takePolar 16 = .ok (.invokevirtual 40, 3) := by decide +kernel
theorem dX7_takePolar_19 : decode cX7_takePolar 19 = .ok (.invokevirtual 36, 3) := by decide +kernel
theorem dX7_takePolar_22 : decode cX7_takePolar 22 = .ok (.return_, 1) := by decide +kernel
