/-! steps of the law: field and round -/
set_option maxHeartbeats 2000000 in
set_option maxRecDepth 10000 in
theorem s_field : Step_field WInv := by
  intro c_t_walksKnown c_t_addingKnown c_t_rowKnown c_N_p c_N_inverses_r c_N_roots_r c_t_outer_a c_t_outer_b c_t_outer_c c_t_outer_d c_t_outer_e c_t_outer_f c_t_outerCofactors_a c_t_outerCofactors_b c_t_outerCofactors_c c_t_outerCofactors_d c_t_outerCofactors_e c_t_outerCofactors_f c_t_inner_a c_t_inner_b c_t_inner_c c_t_inner_d c_t_inner_e c_t_inner_f c_t_innerCofactors_a c_t_innerCofactors_b c_t_innerCofactors_c c_t_innerCofactors_d c_t_innerCofactors_e c_t_innerCofactors_f c_t_mixed_a c_t_mixed_b c_t_mixed_c c_t_mixed_d c_t_mixed_e c_t_mixed_f c_t_mixedCofactors_a c_t_mixedCofactors_b c_t_mixedCofactors_c c_t_mixedCofactors_d c_t_mixedCofactors_e c_t_mixedCofactors_f c_t_here_x c_t_here_y c_t_here_z c_t_there_x c_t_there_y c_t_there_z c_t_line_x c_t_line_y c_t_line_z c_t_pencil_c0 c_t_pencil_c1 c_t_pencil_c2 c_t_pencil_c3 c_t_walks_pointCount c_t_walks_flagCount c_t_walks_ringCount c_t_walks_pointKeys_r c_t_walks_firstFlags_r c_t_walks_flagPoints_r c_t_walks_flagLines_r c_t_walks_nexts_r c_t_walks_befores_r c_t_walks_walk_r c_t_walks_places_r c_t_walks_ringStarts_r c_t_walks_ringSizes_r c_t_walks_meeting_count c_t_walks_meeting_lower c_t_walks_meeting_upper c_t_walks_meeting_start_x c_t_walks_meeting_start_y c_t_walks_meeting_start_z c_t_walks_meeting_end_x c_t_walks_meeting_end_y c_t_walks_meeting_end_z c_t_walks_meeting_found_x c_t_walks_meeting_found_y c_t_walks_meeting_found_z c_t_walks_level_x c_t_walks_level_y c_t_walks_level_z c_t_adding_closing c_t_adding_pointCount c_t_adding_acrosses_r c_t_adding_ups_r c_t_row_parts_r c_t_row_square_r m_t_p m_t_isLaid m_t_isGood m_t_points m_t_flags m_t_formX m_t_formY m_t_formZ m_t_isNought m_t_sumT m_t_sumY m_t_given_r m_t_c_r m_t_pointX_r m_t_pointY_r m_t_pointZ_r m_t_pointFlags_r m_t_flagPoint_r m_t_flagU_r m_t_flagV_r m_t_flagW_r m_t_next_r m_t_series_r m_t_mix_r m_t_cofactor_r m_t_square_r i1 hI
  obtain ⟨P, C, D, hp, eC, eD, ⟨rfl, hN⟩, ⟨rfl, rfl, rfl, rfl, rfl, rfl⟩, ⟨rfl, rfl, rfl, rfl, rfl, rfl⟩, ⟨rfl, rfl, rfl, rfl, rfl, rfl⟩, ⟨rfl, rfl, rfl, rfl, rfl, rfl⟩, ⟨rfl, rfl, rfl, rfl⟩, hW, hA, hR, ⟨rfl, gC, gD⟩, hL⟩ := hI
  have := nz_of hp
  have hb := pr_rng hp
  rcases in_c 5 199 (by omega) (by omega) i1 with ⟨q, q1, q2, rfl, q4⟩ | ⟨z, rfl, z1, z2, z3, q4⟩
  · have q4 : fX9_in (iI (q : Nat)) 5 199 = some 1 := q4
    by_cases hz : z_pr q = true
    · obtain ⟨inv1, roots1, hN1, e1⟩ := e_take hz (iI P) c_N_inverses_r c_N_roots_r
      obtain ⟨gv1, gC1, gD1, e2⟩ := e_begin hz m_t_isLaid m_t_given_r
      refine ⟨(iI P), 0, 0, 0, (iI q), inv1, roots1, (iI (u0 q 0)), (iI (u0 q 1)), (iI (u0 q 2)), (iI (u0 q 3)), (iI (u0 q 4)), (iI (u0 q 5)), (iI (cof q (u0 q) 0)), (iI (cof q (u0 q) 1)), (iI (cof q (u0 q) 2)), (iI (cof q (u0 q) 3)), (iI (cof q (u0 q) 4)), (iI (cof q (u0 q) 5)), (iI (u0 q 0)), (iI (u0 q 1)), (iI (u0 q 2)), (iI (u0 q 3)), (iI (u0 q 4)), (iI (u0 q 5)), (iI (cof q (u0 q) 0)), (iI (cof q (u0 q) 1)), (iI (cof q (u0 q) 2)), (iI (cof q (u0 q) 3)), (iI (cof q (u0 q) 4)), (iI (cof q (u0 q) 5)), (iI (cu q (u0 q) (u0 q) 0)), (iI (cu q (u0 q) (u0 q) 1)), (iI (cu q (u0 q) (u0 q) 2)), (iI (cu q (u0 q) (u0 q) 3)), 0, (iI q), gv1, ?_, ?_, ?_⟩
      · unfold fX8_field fX4_prime
        rw [e_prime q1 q2, if_pos hz, b1_s, if_neg (by decide), b1_s, e1, b3_s, e_start hz, b31_s]
      · unfold fX9_field
        rw [q4, b1_s, e_prime9 q1 q2, if_pos hz]
        unfold kX9_field_40
        rw [if_neg (by decide), e2, b2_s]
      · exact ⟨q, u0 q, u0 q, hz, u0_el hz, u0_el hz, ⟨rfl, hN1⟩, ⟨rfl, rfl, rfl, rfl, rfl, rfl⟩, ⟨rfl, rfl, rfl, rfl, rfl, rfl⟩, ⟨rfl, rfl, rfl, rfl, rfl, rfl⟩, ⟨rfl, rfl, rfl, rfl, rfl, rfl⟩, ⟨rfl, rfl, rfl, rfl⟩, (Or.inl rfl), (Or.inl rfl), (Or.inl rfl), ⟨rfl, gC1, gD1⟩, (Or.inl rfl)⟩
    · refine ⟨(-2), c_t_addingKnown, c_t_rowKnown, c_t_walksKnown, (iI P), c_N_inverses_r, c_N_roots_r, (iI (D 0)), (iI (D 1)), (iI (D 2)), (iI (D 3)), (iI (D 4)), (iI (D 5)), (iI (cof P D 0)), (iI (cof P D 1)), (iI (cof P D 2)), (iI (cof P D 3)), (iI (cof P D 4)), (iI (cof P D 5)), (iI (C 0)), (iI (C 1)), (iI (C 2)), (iI (C 3)), (iI (C 4)), (iI (C 5)), (iI (cof P C 0)), (iI (cof P C 1)), (iI (cof P C 2)), (iI (cof P C 3)), (iI (cof P C 4)), (iI (cof P C 5)), (iI (cu P C D 0)), (iI (cu P C D 1)), (iI (cu P C D 2)), (iI (cu P C D 3)), m_t_isLaid, (iI P), m_t_given_r, ?_, ?_, ?_⟩
      · unfold fX8_field
        rw [e_prime q1 q2, if_neg hz, b1_s, if_pos (by decide)]
      · unfold fX9_field
        rw [q4, b1_s, e_prime9 q1 q2, if_neg hz]
        unfold kX9_field_40
        rw [if_pos (by decide)]
      · exact ⟨P, C, D, hp, eC, eD, ⟨rfl, hN⟩, ⟨rfl, rfl, rfl, rfl, rfl, rfl⟩, ⟨rfl, rfl, rfl, rfl, rfl, rfl⟩, ⟨rfl, rfl, rfl, rfl, rfl, rfl⟩, ⟨rfl, rfl, rfl, rfl, rfl, rfl⟩, ⟨rfl, rfl, rfl, rfl⟩, hW, hA, hR, ⟨rfl, gC, gD⟩, hL⟩
  · have q4 : fX9_in (iI z) 5 199 = some 0 := q4
    rcases z3 with z3 | z3
    · refine ⟨(-2), c_t_addingKnown, c_t_rowKnown, c_t_walksKnown, (iI P), c_N_inverses_r, c_N_roots_r, (iI (D 0)), (iI (D 1)), (iI (D 2)), (iI (D 3)), (iI (D 4)), (iI (D 5)), (iI (cof P D 0)), (iI (cof P D 1)), (iI (cof P D 2)), (iI (cof P D 3)), (iI (cof P D 4)), (iI (cof P D 5)), (iI (C 0)), (iI (C 1)), (iI (C 2)), (iI (C 3)), (iI (C 4)), (iI (C 5)), (iI (cof P C 0)), (iI (cof P C 1)), (iI (cof P C 2)), (iI (cof P C 3)), (iI (cof P C 4)), (iI (cof P C 5)), (iI (cu P C D 0)), (iI (cu P C D 1)), (iI (cu P C D 2)), (iI (cu P C D 3)), m_t_isLaid, (iI P), m_t_given_r, ?_, ?_, ?_⟩
      · unfold fX8_field fX8_isPrime
        rw [if_pos (by rw [show (5 : Int32) = iI 5 from rfl, iI_lt (by omega) (by omega) (by omega) (by omega)]; omega), b1_s, if_pos (by decide)]
      · unfold fX9_field
        rw [q4, b1_s, e_prime90]
        unfold kX9_field_40
        rw [if_pos (by decide)]
      · exact ⟨P, C, D, hp, eC, eD, ⟨rfl, hN⟩, ⟨rfl, rfl, rfl, rfl, rfl, rfl⟩, ⟨rfl, rfl, rfl, rfl, rfl, rfl⟩, ⟨rfl, rfl, rfl, rfl, rfl, rfl⟩, ⟨rfl, rfl, rfl, rfl, rfl, rfl⟩, ⟨rfl, rfl, rfl, rfl⟩, hW, hA, hR, ⟨rfl, gC, gD⟩, hL⟩
    · refine ⟨(-2), c_t_addingKnown, c_t_rowKnown, c_t_walksKnown, (iI P), c_N_inverses_r, c_N_roots_r, (iI (D 0)), (iI (D 1)), (iI (D 2)), (iI (D 3)), (iI (D 4)), (iI (D 5)), (iI (cof P D 0)), (iI (cof P D 1)), (iI (cof P D 2)), (iI (cof P D 3)), (iI (cof P D 4)), (iI (cof P D 5)), (iI (C 0)), (iI (C 1)), (iI (C 2)), (iI (C 3)), (iI (C 4)), (iI (C 5)), (iI (cof P C 0)), (iI (cof P C 1)), (iI (cof P C 2)), (iI (cof P C 3)), (iI (cof P C 4)), (iI (cof P C 5)), (iI (cu P C D 0)), (iI (cu P C D 1)), (iI (cu P C D 2)), (iI (cu P C D 3)), m_t_isLaid, (iI P), m_t_given_r, ?_, ?_, ?_⟩
      · unfold fX8_field fX8_isPrime
        rw [if_neg (by rw [show (5 : Int32) = iI 5 from rfl, iI_lt (by omega) (by omega) (by omega) (by omega)]; omega), if_neg (by rw [show (199 : Int32) = iI 199 from rfl, iI_le (by omega) (by omega) (by omega) (by omega)]; omega), b1_s, if_pos (by decide)]
      · unfold fX9_field
        rw [q4, b1_s, e_prime90]
        unfold kX9_field_40
        rw [if_pos (by decide)]
      · exact ⟨P, C, D, hp, eC, eD, ⟨rfl, hN⟩, ⟨rfl, rfl, rfl, rfl, rfl, rfl⟩, ⟨rfl, rfl, rfl, rfl, rfl, rfl⟩, ⟨rfl, rfl, rfl, rfl, rfl, rfl⟩, ⟨rfl, rfl, rfl, rfl, rfl, rfl⟩, ⟨rfl, rfl, rfl, rfl⟩, hW, hA, hR, ⟨rfl, gC, gD⟩, hL⟩
set_option maxHeartbeats 2000000 in
set_option maxRecDepth 10000 in
theorem s_round : Step_round WInv := by
  intro c_t_walksKnown c_t_addingKnown c_t_rowKnown c_N_p c_N_inverses_r c_N_roots_r c_t_outer_a c_t_outer_b c_t_outer_c c_t_outer_d c_t_outer_e c_t_outer_f c_t_outerCofactors_a c_t_outerCofactors_b c_t_outerCofactors_c c_t_outerCofactors_d c_t_outerCofactors_e c_t_outerCofactors_f c_t_inner_a c_t_inner_b c_t_inner_c c_t_inner_d c_t_inner_e c_t_inner_f c_t_innerCofactors_a c_t_innerCofactors_b c_t_innerCofactors_c c_t_innerCofactors_d c_t_innerCofactors_e c_t_innerCofactors_f c_t_mixed_a c_t_mixed_b c_t_mixed_c c_t_mixed_d c_t_mixed_e c_t_mixed_f c_t_mixedCofactors_a c_t_mixedCofactors_b c_t_mixedCofactors_c c_t_mixedCofactors_d c_t_mixedCofactors_e c_t_mixedCofactors_f c_t_here_x c_t_here_y c_t_here_z c_t_there_x c_t_there_y c_t_there_z c_t_line_x c_t_line_y c_t_line_z c_t_pencil_c0 c_t_pencil_c1 c_t_pencil_c2 c_t_pencil_c3 c_t_walks_pointCount c_t_walks_flagCount c_t_walks_ringCount c_t_walks_pointKeys_r c_t_walks_firstFlags_r c_t_walks_flagPoints_r c_t_walks_flagLines_r c_t_walks_nexts_r c_t_walks_befores_r c_t_walks_walk_r c_t_walks_places_r c_t_walks_ringStarts_r c_t_walks_ringSizes_r c_t_walks_meeting_count c_t_walks_meeting_lower c_t_walks_meeting_upper c_t_walks_meeting_start_x c_t_walks_meeting_start_y c_t_walks_meeting_start_z c_t_walks_meeting_end_x c_t_walks_meeting_end_y c_t_walks_meeting_end_z c_t_walks_meeting_found_x c_t_walks_meeting_found_y c_t_walks_meeting_found_z c_t_walks_level_x c_t_walks_level_y c_t_walks_level_z c_t_adding_closing c_t_adding_pointCount c_t_adding_acrosses_r c_t_adding_ups_r c_t_row_parts_r c_t_row_square_r m_t_p m_t_isLaid m_t_isGood m_t_points m_t_flags m_t_formX m_t_formY m_t_formZ m_t_isNought m_t_sumT m_t_sumY m_t_given_r m_t_c_r m_t_pointX_r m_t_pointY_r m_t_pointZ_r m_t_pointFlags_r m_t_flagPoint_r m_t_flagU_r m_t_flagV_r m_t_flagW_r m_t_next_r m_t_series_r m_t_mix_r m_t_cofactor_r m_t_square_r i1 i2 i3 i4 i5 i6 i7 hI
  obtain ⟨P, C, D, hp, eC, eD, ⟨rfl, hN⟩, ⟨rfl, rfl, rfl, rfl, rfl, rfl⟩, ⟨rfl, rfl, rfl, rfl, rfl, rfl⟩, ⟨rfl, rfl, rfl, rfl, rfl, rfl⟩, ⟨rfl, rfl, rfl, rfl, rfl, rfl⟩, ⟨rfl, rfl, rfl, rfl⟩, hW, hA, hR, ⟨rfl, gC, gD⟩, hL⟩ := hI
  have := nz_of hp
  have hb := pr_rng hp
  rcases in_c 0 1 (by omega) (by omega) i1 with ⟨w, -, w2, rfl, w4⟩ | ⟨z, rfl, z1, z2, z3, w4⟩
  · have w4 : fX9_in (iI (w : Nat)) 0 1 = some 1 := w4
    have c1 : ¬ iI (w : Nat) < 0 := by rw [show (0 : Int32) = iI ((0 : Nat) : Int) from rfl, nlt (by omega) (by omega)]; omega
    have c2 : ¬ 1 < iI (w : Nat) := by rw [show (1 : Int32) = iI ((1 : Nat) : Int) from rfl, nlt (by omega) (by omega)]; omega
    rcases num3_c hp i2 i3 i4 with ⟨x1, x2, x3, ex1, ex2, ex3, rfl, rfl, rfl, a1, a2, a3, a4⟩ | ⟨a1, a2⟩
    · rcases num3_c hp i5 i6 i7 with ⟨x4, x5, x6, ex4, ex5, ex6, rfl, rfl, rfl, d1, d2, d3, d4⟩ | ⟨d1, d2⟩
      · have eM : elF P (fun i => ([x1, x2, x3, x4, x5, x6] : List Int).getD i 0) := by
          intro i hi
          rcases (show i = 0 ∨ i = 1 ∨ i = 2 ∨ i = 3 ∨ i = 4 ∨ i = 5 by omega) with rfl | rfl | rfl | rfl | rfl | rfl
          · exact ex1
          · exact ex2
          · exact ex3
          · exact ex4
          · exact ex5
          · exact ex6
        have et : ∀ t1 t2 t3 t4 t5 t6 : Int32, fX2_take t1 t2 t3 t4 t5 t6 (iI P) (iI x1) (iI x2) (iI x3) (iI x4) (iI x5) (iI x6) = some (iI x1, iI x2, iI x3, iI x4, iI x5, iI x6) := by
          intro t1 t2 t3 t4 t5 t6
          rw [e_ftake hp t1 t2 t3 t4 t5 t6 (bd_el hp ex1) (bd_el hp ex2) (bd_el hp ex3) (bd_el hp ex4) (bd_el hp ex5) (bd_el hp ex6) (by decide), el_eq ex1, el_eq ex2, el_eq ex3, el_eq ex4, el_eq ex5, el_eq ex6]
        generalize hM : (fun i => ([x1, x2, x3, x4, x5, x6] : List Int).getD i 0) = M at eM
        have m0 : M 0 = x1 := by rw [← hM]; rfl
        have m1 : M 1 = x2 := by rw [← hM]; rfl
        have m2 : M 2 = x3 := by rw [← hM]; rfl
        have m3 : M 3 = x4 := by rw [← hM]; rfl
        have m4 : M 4 = x5 := by rw [← hM]; rfl
        have m5 : M 5 = x6 := by rw [← hM]; rfl
        rcases (show w = 0 ∨ w = 1 by omega) with rfl | rfl
        · have gM : rowF (upd (upd (upd (upd (upd (upd m_t_given_r 0 (iI (M 0))) 1 (iI (M 1))) 2 (iI (M 2))) 3 (iI (M 3))) 4 (iI (M 4))) 5 (iI (M 5))) 0 M := (fun i hi => by
            rcases (show i = 0 ∨ i = 1 ∨ i = 2 ∨ i = 3 ∨ i = 4 ∨ i = 5 by omega) with rfl | rfl | rfl | rfl | rfl | rfl <;> simp [upd])
          have gS : rowF (upd (upd (upd (upd (upd (upd m_t_given_r 0 (iI (M 0))) 1 (iI (M 1))) 2 (iI (M 2))) 3 (iI (M 3))) 4 (iI (M 4))) 5 (iI (M 5))) 6 D := (fun i hi => by
            have q := gD i hi
            rw [pk_un (by omega), pk_un (by omega), pk_un (by omega), pk_un (by omega), pk_un (by omega), pk_un (by omega)]
            exact q)
          refine ⟨1, 0, 0, 0, (iI (D 0)), (iI (D 1)), (iI (D 2)), (iI (D 3)), (iI (D 4)), (iI (D 5)), (iI (cof P D 0)), (iI (cof P D 1)), (iI (cof P D 2)), (iI (cof P D 3)), (iI (cof P D 4)), (iI (cof P D 5)), (iI (M 0)), (iI (M 1)), (iI (M 2)), (iI (M 3)), (iI (M 4)), (iI (M 5)), (iI (cof P M 0)), (iI (cof P M 1)), (iI (cof P M 2)), (iI (cof P M 3)), (iI (cof P M 4)), (iI (cof P M 5)), (iI (cu P M D 0)), (iI (cu P M D 1)), (iI (cu P M D 2)), (iI (cu P M D 3)), 0, (upd (upd (upd (upd (upd (upd m_t_given_r 0 (iI (M 0))) 1 (iI (M 1))) 2 (iI (M 2))) 3 (iI (M 3))) 4 (iI (M 4))) 5 (iI (M 5))), ?_, ?_, ?_⟩
          · unfold fX8_round
            rw [if_neg c1, if_neg c2, a1, b1_s, if_neg (by decide), d1, b1_s, if_neg (by decide), if_pos (by decide), et, b6_s, ← m0, ← m1, ← m2, ← m3, ← m4, ← m5, e_renew hp eM eD, b19_s]
          · unfold fX9_round jX9_round_65 jX9_round_66
            rw [w4, b1_s, if_neg (by decide), a2, b1_s, if_neg (by decide), a3, b1_s, if_neg (by decide), a4, b1_s, if_neg (by decide), d2, b1_s, if_neg (by decide), d3, b1_s, if_neg (by decide), d4, b1_s, if_neg (by decide), if_neg (by decide), show (6 : Int32) * iI ((0 : Nat) : Int) = iI ((0 : Nat) : Int) from rfl, nm_s, show iI ((0 : Nat) : Int) + 1 = iI ((1 : Nat) : Int) from rfl, show iI ((0 : Nat) : Int) + 2 = iI ((2 : Nat) : Int) from rfl, show iI ((0 : Nat) : Int) + 3 = iI ((3 : Nat) : Int) from rfl, show iI ((0 : Nat) : Int) + 4 = iI ((4 : Nat) : Int) from rfl, show iI ((0 : Nat) : Int) + 5 = iI ((5 : Nat) : Int) from rfl, nst (by omega) (by omega), b1_s, nst (by omega) (by omega), b1_s, nst (by omega) (by omega), b1_s, nst (by omega) (by omega), b1_s, nst (by omega) (by omega), b1_s, nst (by omega) (by omega), b1_s, ← m0, ← m1, ← m2, ← m3, ← m4, ← m5]
          · exact ⟨P, M, D, hp, eM, eD, ⟨rfl, hN⟩, ⟨rfl, rfl, rfl, rfl, rfl, rfl⟩, ⟨rfl, rfl, rfl, rfl, rfl, rfl⟩, ⟨rfl, rfl, rfl, rfl, rfl, rfl⟩, ⟨rfl, rfl, rfl, rfl, rfl, rfl⟩, ⟨rfl, rfl, rfl, rfl⟩, (Or.inl rfl), (Or.inl rfl), (Or.inl rfl), ⟨rfl, gM, gS⟩, (Or.inl rfl)⟩
        · have gM : rowF (upd (upd (upd (upd (upd (upd m_t_given_r 6 (iI (M 0))) 7 (iI (M 1))) 8 (iI (M 2))) 9 (iI (M 3))) 10 (iI (M 4))) 11 (iI (M 5))) 6 M := (fun i hi => by
            rcases (show i = 0 ∨ i = 1 ∨ i = 2 ∨ i = 3 ∨ i = 4 ∨ i = 5 by omega) with rfl | rfl | rfl | rfl | rfl | rfl <;> simp [upd])
          have gS : rowF (upd (upd (upd (upd (upd (upd m_t_given_r 6 (iI (M 0))) 7 (iI (M 1))) 8 (iI (M 2))) 9 (iI (M 3))) 10 (iI (M 4))) 11 (iI (M 5))) 0 C := (fun i hi => by
            have q := gC i hi
            rw [pk_un (by omega), pk_un (by omega), pk_un (by omega), pk_un (by omega), pk_un (by omega), pk_un (by omega)]
            exact q)
          refine ⟨1, 0, 0, 0, (iI (M 0)), (iI (M 1)), (iI (M 2)), (iI (M 3)), (iI (M 4)), (iI (M 5)), (iI (cof P M 0)), (iI (cof P M 1)), (iI (cof P M 2)), (iI (cof P M 3)), (iI (cof P M 4)), (iI (cof P M 5)), (iI (C 0)), (iI (C 1)), (iI (C 2)), (iI (C 3)), (iI (C 4)), (iI (C 5)), (iI (cof P C 0)), (iI (cof P C 1)), (iI (cof P C 2)), (iI (cof P C 3)), (iI (cof P C 4)), (iI (cof P C 5)), (iI (cu P C M 0)), (iI (cu P C M 1)), (iI (cu P C M 2)), (iI (cu P C M 3)), 0, (upd (upd (upd (upd (upd (upd m_t_given_r 6 (iI (M 0))) 7 (iI (M 1))) 8 (iI (M 2))) 9 (iI (M 3))) 10 (iI (M 4))) 11 (iI (M 5))), ?_, ?_, ?_⟩
          · unfold fX8_round
            rw [if_neg c1, if_neg c2, a1, b1_s, if_neg (by decide), d1, b1_s, if_neg (by decide), if_neg (by decide), et, b6_s, ← m0, ← m1, ← m2, ← m3, ← m4, ← m5, e_renew hp eC eM, b19_s]
          · unfold fX9_round jX9_round_65 jX9_round_66
            rw [w4, b1_s, if_neg (by decide), a2, b1_s, if_neg (by decide), a3, b1_s, if_neg (by decide), a4, b1_s, if_neg (by decide), d2, b1_s, if_neg (by decide), d3, b1_s, if_neg (by decide), d4, b1_s, if_neg (by decide), if_neg (by decide), show (6 : Int32) * iI ((1 : Nat) : Int) = iI ((6 : Nat) : Int) from rfl, nm_s, show iI ((6 : Nat) : Int) + 1 = iI ((7 : Nat) : Int) from rfl, show iI ((6 : Nat) : Int) + 2 = iI ((8 : Nat) : Int) from rfl, show iI ((6 : Nat) : Int) + 3 = iI ((9 : Nat) : Int) from rfl, show iI ((6 : Nat) : Int) + 4 = iI ((10 : Nat) : Int) from rfl, show iI ((6 : Nat) : Int) + 5 = iI ((11 : Nat) : Int) from rfl, nst (by omega) (by omega), b1_s, nst (by omega) (by omega), b1_s, nst (by omega) (by omega), b1_s, nst (by omega) (by omega), b1_s, nst (by omega) (by omega), b1_s, nst (by omega) (by omega), b1_s, ← m0, ← m1, ← m2, ← m3, ← m4, ← m5]
          · exact ⟨P, C, M, hp, eC, eM, ⟨rfl, hN⟩, ⟨rfl, rfl, rfl, rfl, rfl, rfl⟩, ⟨rfl, rfl, rfl, rfl, rfl, rfl⟩, ⟨rfl, rfl, rfl, rfl, rfl, rfl⟩, ⟨rfl, rfl, rfl, rfl, rfl, rfl⟩, ⟨rfl, rfl, rfl, rfl⟩, (Or.inl rfl), (Or.inl rfl), (Or.inl rfl), ⟨rfl, gS, gM⟩, (Or.inl rfl)⟩
      · refine ⟨(-2), c_t_addingKnown, c_t_rowKnown, c_t_walksKnown, (iI (D 0)), (iI (D 1)), (iI (D 2)), (iI (D 3)), (iI (D 4)), (iI (D 5)), (iI (cof P D 0)), (iI (cof P D 1)), (iI (cof P D 2)), (iI (cof P D 3)), (iI (cof P D 4)), (iI (cof P D 5)), (iI (C 0)), (iI (C 1)), (iI (C 2)), (iI (C 3)), (iI (C 4)), (iI (C 5)), (iI (cof P C 0)), (iI (cof P C 1)), (iI (cof P C 2)), (iI (cof P C 3)), (iI (cof P C 4)), (iI (cof P C 5)), (iI (cu P C D 0)), (iI (cu P C D 1)), (iI (cu P C D 2)), (iI (cu P C D 3)), m_t_isLaid, m_t_given_r, ?_, ?_, ?_⟩
        · unfold fX8_round
          rw [if_neg c1, if_neg c2, a1, b1_s, if_neg (by decide), d1, b1_s, if_pos (by decide)]
        · unfold fX9_round jX9_round_65 jX9_round_66
          rw [w4, b1_s, if_neg (by decide), a2, b1_s, if_neg (by decide), a3, b1_s, if_neg (by decide), a4, b1_s, if_neg (by decide)]
          rcases d2 with d2 | ⟨d2, d3⟩ | ⟨d2, d3, d4⟩
          · rw [d2, b1_s, if_pos (by decide), if_pos (by decide)]
          · rw [d2, b1_s, if_neg (by decide), d3, b1_s, if_pos (by decide), if_pos (by decide)]
          · rw [d2, b1_s, if_neg (by decide), d3, b1_s, if_neg (by decide), d4, b1_s, if_pos (by decide), if_pos (by decide)]
        · exact ⟨P, C, D, hp, eC, eD, ⟨rfl, hN⟩, ⟨rfl, rfl, rfl, rfl, rfl, rfl⟩, ⟨rfl, rfl, rfl, rfl, rfl, rfl⟩, ⟨rfl, rfl, rfl, rfl, rfl, rfl⟩, ⟨rfl, rfl, rfl, rfl, rfl, rfl⟩, ⟨rfl, rfl, rfl, rfl⟩, hW, hA, hR, ⟨rfl, gC, gD⟩, hL⟩
    · refine ⟨(-2), c_t_addingKnown, c_t_rowKnown, c_t_walksKnown, (iI (D 0)), (iI (D 1)), (iI (D 2)), (iI (D 3)), (iI (D 4)), (iI (D 5)), (iI (cof P D 0)), (iI (cof P D 1)), (iI (cof P D 2)), (iI (cof P D 3)), (iI (cof P D 4)), (iI (cof P D 5)), (iI (C 0)), (iI (C 1)), (iI (C 2)), (iI (C 3)), (iI (C 4)), (iI (C 5)), (iI (cof P C 0)), (iI (cof P C 1)), (iI (cof P C 2)), (iI (cof P C 3)), (iI (cof P C 4)), (iI (cof P C 5)), (iI (cu P C D 0)), (iI (cu P C D 1)), (iI (cu P C D 2)), (iI (cu P C D 3)), m_t_isLaid, m_t_given_r, ?_, ?_, ?_⟩
      · unfold fX8_round
        rw [if_neg c1, if_neg c2, a1, b1_s, if_pos (by decide)]
      · unfold fX9_round jX9_round_65 jX9_round_66
        rw [w4, b1_s, if_neg (by decide)]
        rcases a2 with a2 | ⟨a2, a3⟩ | ⟨a2, a3, a4⟩
        · rw [a2, b1_s, if_pos (by decide), if_pos (by decide)]
        · rw [a2, b1_s, if_neg (by decide), a3, b1_s, if_pos (by decide), if_pos (by decide)]
        · rw [a2, b1_s, if_neg (by decide), a3, b1_s, if_neg (by decide), a4, b1_s, if_pos (by decide), if_pos (by decide)]
      · exact ⟨P, C, D, hp, eC, eD, ⟨rfl, hN⟩, ⟨rfl, rfl, rfl, rfl, rfl, rfl⟩, ⟨rfl, rfl, rfl, rfl, rfl, rfl⟩, ⟨rfl, rfl, rfl, rfl, rfl, rfl⟩, ⟨rfl, rfl, rfl, rfl, rfl, rfl⟩, ⟨rfl, rfl, rfl, rfl⟩, hW, hA, hR, ⟨rfl, gC, gD⟩, hL⟩
  · have w4 : fX9_in (iI z) 0 1 = some 0 := w4
    rcases z3 with z3 | z3
    · refine ⟨(-2), c_t_addingKnown, c_t_rowKnown, c_t_walksKnown, (iI (D 0)), (iI (D 1)), (iI (D 2)), (iI (D 3)), (iI (D 4)), (iI (D 5)), (iI (cof P D 0)), (iI (cof P D 1)), (iI (cof P D 2)), (iI (cof P D 3)), (iI (cof P D 4)), (iI (cof P D 5)), (iI (C 0)), (iI (C 1)), (iI (C 2)), (iI (C 3)), (iI (C 4)), (iI (C 5)), (iI (cof P C 0)), (iI (cof P C 1)), (iI (cof P C 2)), (iI (cof P C 3)), (iI (cof P C 4)), (iI (cof P C 5)), (iI (cu P C D 0)), (iI (cu P C D 1)), (iI (cu P C D 2)), (iI (cu P C D 3)), m_t_isLaid, m_t_given_r, ?_, ?_, ?_⟩
      · unfold fX8_round
        rw [if_pos (by rw [show (0 : Int32) = iI 0 from rfl, iI_lt (by omega) (by omega) (by omega) (by omega)]; omega)]
      · unfold fX9_round jX9_round_65 jX9_round_66
        rw [w4, b1_s, if_pos (by decide), if_pos (by decide)]
      · exact ⟨P, C, D, hp, eC, eD, ⟨rfl, hN⟩, ⟨rfl, rfl, rfl, rfl, rfl, rfl⟩, ⟨rfl, rfl, rfl, rfl, rfl, rfl⟩, ⟨rfl, rfl, rfl, rfl, rfl, rfl⟩, ⟨rfl, rfl, rfl, rfl, rfl, rfl⟩, ⟨rfl, rfl, rfl, rfl⟩, hW, hA, hR, ⟨rfl, gC, gD⟩, hL⟩
    · refine ⟨(-2), c_t_addingKnown, c_t_rowKnown, c_t_walksKnown, (iI (D 0)), (iI (D 1)), (iI (D 2)), (iI (D 3)), (iI (D 4)), (iI (D 5)), (iI (cof P D 0)), (iI (cof P D 1)), (iI (cof P D 2)), (iI (cof P D 3)), (iI (cof P D 4)), (iI (cof P D 5)), (iI (C 0)), (iI (C 1)), (iI (C 2)), (iI (C 3)), (iI (C 4)), (iI (C 5)), (iI (cof P C 0)), (iI (cof P C 1)), (iI (cof P C 2)), (iI (cof P C 3)), (iI (cof P C 4)), (iI (cof P C 5)), (iI (cu P C D 0)), (iI (cu P C D 1)), (iI (cu P C D 2)), (iI (cu P C D 3)), m_t_isLaid, m_t_given_r, ?_, ?_, ?_⟩
      · unfold fX8_round
        rw [if_neg (by rw [show (0 : Int32) = iI 0 from rfl, iI_lt (by omega) (by omega) (by omega) (by omega)]; omega), if_pos (by rw [show (1 : Int32) = iI 1 from rfl, iI_lt (by omega) (by omega) (by omega) (by omega)]; omega)]
      · unfold fX9_round jX9_round_65 jX9_round_66
        rw [w4, b1_s, if_pos (by decide), if_pos (by decide)]
      · exact ⟨P, C, D, hp, eC, eD, ⟨rfl, hN⟩, ⟨rfl, rfl, rfl, rfl, rfl, rfl⟩, ⟨rfl, rfl, rfl, rfl, rfl, rfl⟩, ⟨rfl, rfl, rfl, rfl, rfl, rfl⟩, ⟨rfl, rfl, rfl, rfl, rfl, rfl⟩, ⟨rfl, rfl, rfl, rfl⟩, hW, hA, hR, ⟨rfl, gC, gD⟩, hL⟩
