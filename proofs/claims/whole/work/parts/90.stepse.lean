/-! steps of the law: series, determinants, multiples -/
set_option maxHeartbeats 2000000 in
set_option maxRecDepth 10000 in
theorem s_series : Step_series WInv := by
  intro c_t_walksKnown c_t_addingKnown c_t_rowKnown c_N_p c_N_inverses_r c_N_roots_r c_t_outer_a c_t_outer_b c_t_outer_c c_t_outer_d c_t_outer_e c_t_outer_f c_t_outerCofactors_a c_t_outerCofactors_b c_t_outerCofactors_c c_t_outerCofactors_d c_t_outerCofactors_e c_t_outerCofactors_f c_t_inner_a c_t_inner_b c_t_inner_c c_t_inner_d c_t_inner_e c_t_inner_f c_t_innerCofactors_a c_t_innerCofactors_b c_t_innerCofactors_c c_t_innerCofactors_d c_t_innerCofactors_e c_t_innerCofactors_f c_t_mixed_a c_t_mixed_b c_t_mixed_c c_t_mixed_d c_t_mixed_e c_t_mixed_f c_t_mixedCofactors_a c_t_mixedCofactors_b c_t_mixedCofactors_c c_t_mixedCofactors_d c_t_mixedCofactors_e c_t_mixedCofactors_f c_t_here_x c_t_here_y c_t_here_z c_t_there_x c_t_there_y c_t_there_z c_t_line_x c_t_line_y c_t_line_z c_t_pencil_c0 c_t_pencil_c1 c_t_pencil_c2 c_t_pencil_c3 c_t_walks_pointCount c_t_walks_flagCount c_t_walks_ringCount c_t_walks_pointKeys_r c_t_walks_firstFlags_r c_t_walks_flagPoints_r c_t_walks_flagLines_r c_t_walks_nexts_r c_t_walks_befores_r c_t_walks_walk_r c_t_walks_places_r c_t_walks_ringStarts_r c_t_walks_ringSizes_r c_t_walks_meeting_count c_t_walks_meeting_lower c_t_walks_meeting_upper c_t_walks_meeting_start_x c_t_walks_meeting_start_y c_t_walks_meeting_start_z c_t_walks_meeting_end_x c_t_walks_meeting_end_y c_t_walks_meeting_end_z c_t_walks_meeting_found_x c_t_walks_meeting_found_y c_t_walks_meeting_found_z c_t_walks_level_x c_t_walks_level_y c_t_walks_level_z c_t_adding_closing c_t_adding_pointCount c_t_adding_acrosses_r c_t_adding_ups_r c_t_row_parts_r c_t_row_square_r m_t_p m_t_isLaid m_t_isGood m_t_points m_t_flags m_t_formX m_t_formY m_t_formZ m_t_isNought m_t_sumT m_t_sumY m_t_given_r m_t_c_r m_t_pointX_r m_t_pointY_r m_t_pointZ_r m_t_pointFlags_r m_t_flagPoint_r m_t_flagU_r m_t_flagV_r m_t_flagW_r m_t_next_r m_t_series_r m_t_mix_r m_t_cofactor_r m_t_square_r i1 hI
  obtain ⟨P, C, D, hp, eC, eD, ⟨rfl, hN⟩, ⟨rfl, rfl, rfl, rfl, rfl, rfl⟩, ⟨rfl, rfl, rfl, rfl, rfl, rfl⟩, ⟨rfl, rfl, rfl, rfl, rfl, rfl⟩, ⟨rfl, rfl, rfl, rfl, rfl, rfl⟩, ⟨rfl, rfl, rfl, rfl⟩, hW, hA, hR, ⟨rfl, gC, gD⟩, hL⟩ := hI
  have := nz_of hp
  have hb := pr_rng hp
  rcases e_kr hp hN hR with ⟨hg, pr, hSO, ekr⟩ | ⟨hg, ekr⟩
  · rcases e_ig hp eC eD gC gD hL m_t_formX m_t_formY m_t_formZ m_t_cofactor_r with ⟨-, lp, lf, g1, g2, g3, lc, lX, lY, lZ, lPF, lQ, lU, lV, lW, ln, ls, lk, hLO, eig⟩ | ⟨hg2, -⟩
    · obtain ⟨rfl, rfl, q3, qX, qY, qZ, qPF, qT, qn, qs⟩ := id hLO
      rcases in_c 0 31 (by omega) (by omega) i1 with ⟨k, -, k2, rfl, k4⟩ | ⟨z, rfl, z1, z2, z3, k4⟩
      · have k4 : fX9_in (iI (k : Nat)) 0 31 = some 1 := k4
        refine ⟨(iI (ser P (cu P C D) k)), 1, pr, (iI ((FL P C D).length : Nat)), g1, g2, g3, 1, 1, (iI ((PT P C).length : Nat)), lc, lk, lQ, lU, lV, lW, ln, lPF, lX, lY, lZ, ls, ?_, ?_, ?_⟩
        · unfold fX8_series fX6_part
          rw [ekr, b3_s, if_neg (by decide), if_neg (by rw [show (0 : Int32) = iI ((0 : Nat) : Int) from rfl, nlt (by omega) (by omega)]; omega), if_pos (by rw [show (31 : Int32) = iI ((31 : Nat) : Int) from rfl, nle (by omega) (by omega)]; omega), if_neg (by rw [show (0 : Int32) = iI ((0 : Nat) : Int) from rfl, nlt (by omega) (by omega)]; omega), if_neg (by rw [show (31 : Int32) = iI ((31 : Nat) : Int) from rfl, nlt (by omega) (by omega)]; omega), nld (by omega) (by omega), b1_s, b1_s, hSO k (by omega)]
        · unfold fX9_series
          rw [eig, b20_s, if_neg (by decide), k4, b1_s, if_neg (by decide), nld (by omega) (by omega), b1_s, qs k (by omega)]
        · exact ⟨P, C, D, hp, eC, eD, ⟨rfl, hN⟩, ⟨rfl, rfl, rfl, rfl, rfl, rfl⟩, ⟨rfl, rfl, rfl, rfl, rfl, rfl⟩, ⟨rfl, rfl, rfl, rfl, rfl, rfl⟩, ⟨rfl, rfl, rfl, rfl, rfl, rfl⟩, ⟨rfl, rfl, rfl, rfl⟩, hW, hA, (Or.inr ⟨rfl, hg, hSO⟩), ⟨rfl, gC, gD⟩, (Or.inr (Or.inr ⟨rfl, rfl, hg, hLO⟩))⟩
      · have k4 : fX9_in (iI z) 0 31 = some 0 := k4
        rcases z3 with z3 | z3
        · refine ⟨(-2), 1, pr, (iI ((FL P C D).length : Nat)), g1, g2, g3, 1, 1, (iI ((PT P C).length : Nat)), lc, lk, lQ, lU, lV, lW, ln, lPF, lX, lY, lZ, ls, ?_, ?_, ?_⟩
          · unfold fX8_series jX8_series_20
            rw [ekr, b3_s, if_neg (by decide), if_pos (by rw [show (0 : Int32) = iI 0 from rfl, iI_lt (by omega) (by omega) (by omega) (by omega)]; omega)]
          · unfold fX9_series
            rw [eig, b20_s, if_neg (by decide), k4, b1_s, if_pos (by decide)]
          · exact ⟨P, C, D, hp, eC, eD, ⟨rfl, hN⟩, ⟨rfl, rfl, rfl, rfl, rfl, rfl⟩, ⟨rfl, rfl, rfl, rfl, rfl, rfl⟩, ⟨rfl, rfl, rfl, rfl, rfl, rfl⟩, ⟨rfl, rfl, rfl, rfl, rfl, rfl⟩, ⟨rfl, rfl, rfl, rfl⟩, hW, hA, (Or.inr ⟨rfl, hg, hSO⟩), ⟨rfl, gC, gD⟩, (Or.inr (Or.inr ⟨rfl, rfl, hg, hLO⟩))⟩
        · refine ⟨(-2), 1, pr, (iI ((FL P C D).length : Nat)), g1, g2, g3, 1, 1, (iI ((PT P C).length : Nat)), lc, lk, lQ, lU, lV, lW, ln, lPF, lX, lY, lZ, ls, ?_, ?_, ?_⟩
          · unfold fX8_series jX8_series_20
            rw [ekr, b3_s, if_neg (by decide), if_neg (by rw [show (0 : Int32) = iI 0 from rfl, iI_lt (by omega) (by omega) (by omega) (by omega)]; omega), if_neg (by rw [show (31 : Int32) = iI 31 from rfl, iI_le (by omega) (by omega) (by omega) (by omega)]; omega)]
          · unfold fX9_series
            rw [eig, b20_s, if_neg (by decide), k4, b1_s, if_pos (by decide)]
          · exact ⟨P, C, D, hp, eC, eD, ⟨rfl, hN⟩, ⟨rfl, rfl, rfl, rfl, rfl, rfl⟩, ⟨rfl, rfl, rfl, rfl, rfl, rfl⟩, ⟨rfl, rfl, rfl, rfl, rfl, rfl⟩, ⟨rfl, rfl, rfl, rfl, rfl, rfl⟩, ⟨rfl, rfl, rfl, rfl⟩, hW, hA, (Or.inr ⟨rfl, hg, hSO⟩), ⟨rfl, gC, gD⟩, (Or.inr (Or.inr ⟨rfl, rfl, hg, hLO⟩))⟩
    · exact absurd hg hg2
  · rcases e_ig hp eC eD gC gD hL m_t_formX m_t_formY m_t_formZ m_t_cofactor_r with ⟨hg2, -⟩ | ⟨-, lc, lk, eig⟩
    · exact absurd hg2 hg
    · refine ⟨(-5), c_t_rowKnown, c_t_row_parts_r, m_t_flags, m_t_formX, m_t_formY, m_t_formZ, 0, 1, m_t_points, lc, lk, m_t_flagPoint_r, m_t_flagU_r, m_t_flagV_r, m_t_flagW_r, m_t_next_r, m_t_pointFlags_r, m_t_pointX_r, m_t_pointY_r, m_t_pointZ_r, m_t_series_r, ?_, ?_, ?_⟩
      · unfold fX8_series
        rw [ekr, b3_s, if_pos (by decide)]
      · unfold fX9_series
        rw [eig, b20_s, if_pos (by decide)]
      · exact ⟨P, C, D, hp, eC, eD, ⟨rfl, hN⟩, ⟨rfl, rfl, rfl, rfl, rfl, rfl⟩, ⟨rfl, rfl, rfl, rfl, rfl, rfl⟩, ⟨rfl, rfl, rfl, rfl, rfl, rfl⟩, ⟨rfl, rfl, rfl, rfl, rfl, rfl⟩, ⟨rfl, rfl, rfl, rfl⟩, hW, hA, hR, ⟨rfl, gC, gD⟩, (Or.inr (Or.inl ⟨rfl, rfl, hg⟩))⟩
set_option maxHeartbeats 2000000 in
set_option maxRecDepth 10000 in
theorem s_determinant : Step_determinant WInv := by
  intro c_t_walksKnown c_t_addingKnown c_t_rowKnown c_N_p c_N_inverses_r c_N_roots_r c_t_outer_a c_t_outer_b c_t_outer_c c_t_outer_d c_t_outer_e c_t_outer_f c_t_outerCofactors_a c_t_outerCofactors_b c_t_outerCofactors_c c_t_outerCofactors_d c_t_outerCofactors_e c_t_outerCofactors_f c_t_inner_a c_t_inner_b c_t_inner_c c_t_inner_d c_t_inner_e c_t_inner_f c_t_innerCofactors_a c_t_innerCofactors_b c_t_innerCofactors_c c_t_innerCofactors_d c_t_innerCofactors_e c_t_innerCofactors_f c_t_mixed_a c_t_mixed_b c_t_mixed_c c_t_mixed_d c_t_mixed_e c_t_mixed_f c_t_mixedCofactors_a c_t_mixedCofactors_b c_t_mixedCofactors_c c_t_mixedCofactors_d c_t_mixedCofactors_e c_t_mixedCofactors_f c_t_here_x c_t_here_y c_t_here_z c_t_there_x c_t_there_y c_t_there_z c_t_line_x c_t_line_y c_t_line_z c_t_pencil_c0 c_t_pencil_c1 c_t_pencil_c2 c_t_pencil_c3 c_t_walks_pointCount c_t_walks_flagCount c_t_walks_ringCount c_t_walks_pointKeys_r c_t_walks_firstFlags_r c_t_walks_flagPoints_r c_t_walks_flagLines_r c_t_walks_nexts_r c_t_walks_befores_r c_t_walks_walk_r c_t_walks_places_r c_t_walks_ringStarts_r c_t_walks_ringSizes_r c_t_walks_meeting_count c_t_walks_meeting_lower c_t_walks_meeting_upper c_t_walks_meeting_start_x c_t_walks_meeting_start_y c_t_walks_meeting_start_z c_t_walks_meeting_end_x c_t_walks_meeting_end_y c_t_walks_meeting_end_z c_t_walks_meeting_found_x c_t_walks_meeting_found_y c_t_walks_meeting_found_z c_t_walks_level_x c_t_walks_level_y c_t_walks_level_z c_t_adding_closing c_t_adding_pointCount c_t_adding_acrosses_r c_t_adding_ups_r c_t_row_parts_r c_t_row_square_r m_t_p m_t_isLaid m_t_isGood m_t_points m_t_flags m_t_formX m_t_formY m_t_formZ m_t_isNought m_t_sumT m_t_sumY m_t_given_r m_t_c_r m_t_pointX_r m_t_pointY_r m_t_pointZ_r m_t_pointFlags_r m_t_flagPoint_r m_t_flagU_r m_t_flagV_r m_t_flagW_r m_t_next_r m_t_series_r m_t_mix_r m_t_cofactor_r m_t_square_r i1 hI
  obtain ⟨P, C, D, hp, eC, eD, ⟨rfl, hN⟩, ⟨rfl, rfl, rfl, rfl, rfl, rfl⟩, ⟨rfl, rfl, rfl, rfl, rfl, rfl⟩, ⟨rfl, rfl, rfl, rfl, rfl, rfl⟩, ⟨rfl, rfl, rfl, rfl, rfl, rfl⟩, ⟨rfl, rfl, rfl, rfl⟩, hW, hA, hR, ⟨rfl, gC, gD⟩, hL⟩ := hI
  have := nz_of hp
  have hb := pr_rng hp
  rcases e_kr hp hN hR with ⟨hg, pr, hSO, ekr⟩ | ⟨hg, ekr⟩
  · rcases e_ig hp eC eD gC gD hL m_t_formX m_t_formY m_t_formZ m_t_cofactor_r with ⟨-, lp, lf, g1, g2, g3, lc, lX, lY, lZ, lPF, lQ, lU, lV, lW, ln, ls, lk, hLO, eig⟩ | ⟨hg2, -⟩
    · obtain ⟨rfl, rfl, q3, qX, qY, qZ, qPF, qT, qn, qs⟩ := id hLO
      rcases in_c 3 31 (by omega) (by omega) i1 with ⟨k, k1, k2, rfl, k4⟩ | ⟨z, rfl, z1, z2, z3, k4⟩
      · have k4 : fX9_in (iI (k : Nat)) 3 31 = some 1 := k4
        obtain ⟨sq8, d8⟩ := e_closing hp hN hSO k1 k2 c_t_row_square_r
        obtain ⟨sq9, d9⟩ := e_det9 hp qs k1 k2 m_t_square_r
        refine ⟨(iI (cls P (cu P C D) k)), 1, pr, sq8, (iI ((FL P C D).length : Nat)), g1, g2, g3, 1, 1, (iI ((PT P C).length : Nat)), lc, lk, lQ, lU, lV, lW, ln, lPF, lX, lY, lZ, ls, sq9, ?_, ?_, ?_⟩
        · unfold fX8_determinant
          rw [ekr, b3_s, if_neg (by decide), if_neg (by rw [show (3 : Int32) = iI ((3 : Nat) : Int) from rfl, nlt (by omega) (by omega)]; omega), if_pos (by rw [show (31 : Int32) = iI ((31 : Nat) : Int) from rfl, nle (by omega) (by omega)]; omega), d8, b2_s]
        · unfold fX9_determinant
          rw [eig, b20_s, if_neg (by decide), k4, b1_s, if_neg (by decide), d9, b2_s]
        · exact ⟨P, C, D, hp, eC, eD, ⟨rfl, hN⟩, ⟨rfl, rfl, rfl, rfl, rfl, rfl⟩, ⟨rfl, rfl, rfl, rfl, rfl, rfl⟩, ⟨rfl, rfl, rfl, rfl, rfl, rfl⟩, ⟨rfl, rfl, rfl, rfl, rfl, rfl⟩, ⟨rfl, rfl, rfl, rfl⟩, hW, hA, (Or.inr ⟨rfl, hg, hSO⟩), ⟨rfl, gC, gD⟩, (Or.inr (Or.inr ⟨rfl, rfl, hg, hLO⟩))⟩
      · have k4 : fX9_in (iI z) 3 31 = some 0 := k4
        rcases z3 with z3 | z3
        · refine ⟨(-2), 1, pr, c_t_row_square_r, (iI ((FL P C D).length : Nat)), g1, g2, g3, 1, 1, (iI ((PT P C).length : Nat)), lc, lk, lQ, lU, lV, lW, ln, lPF, lX, lY, lZ, ls, m_t_square_r, ?_, ?_, ?_⟩
          · unfold fX8_determinant jX8_determinant_21
            rw [ekr, b3_s, if_neg (by decide), if_pos (by rw [show (3 : Int32) = iI 3 from rfl, iI_lt (by omega) (by omega) (by omega) (by omega)]; omega)]
          · unfold fX9_determinant
            rw [eig, b20_s, if_neg (by decide), k4, b1_s, if_pos (by decide)]
          · exact ⟨P, C, D, hp, eC, eD, ⟨rfl, hN⟩, ⟨rfl, rfl, rfl, rfl, rfl, rfl⟩, ⟨rfl, rfl, rfl, rfl, rfl, rfl⟩, ⟨rfl, rfl, rfl, rfl, rfl, rfl⟩, ⟨rfl, rfl, rfl, rfl, rfl, rfl⟩, ⟨rfl, rfl, rfl, rfl⟩, hW, hA, (Or.inr ⟨rfl, hg, hSO⟩), ⟨rfl, gC, gD⟩, (Or.inr (Or.inr ⟨rfl, rfl, hg, hLO⟩))⟩
        · refine ⟨(-2), 1, pr, c_t_row_square_r, (iI ((FL P C D).length : Nat)), g1, g2, g3, 1, 1, (iI ((PT P C).length : Nat)), lc, lk, lQ, lU, lV, lW, ln, lPF, lX, lY, lZ, ls, m_t_square_r, ?_, ?_, ?_⟩
          · unfold fX8_determinant jX8_determinant_21
            rw [ekr, b3_s, if_neg (by decide), if_neg (by rw [show (3 : Int32) = iI 3 from rfl, iI_lt (by omega) (by omega) (by omega) (by omega)]; omega), if_neg (by rw [show (31 : Int32) = iI 31 from rfl, iI_le (by omega) (by omega) (by omega) (by omega)]; omega)]
          · unfold fX9_determinant
            rw [eig, b20_s, if_neg (by decide), k4, b1_s, if_pos (by decide)]
          · exact ⟨P, C, D, hp, eC, eD, ⟨rfl, hN⟩, ⟨rfl, rfl, rfl, rfl, rfl, rfl⟩, ⟨rfl, rfl, rfl, rfl, rfl, rfl⟩, ⟨rfl, rfl, rfl, rfl, rfl, rfl⟩, ⟨rfl, rfl, rfl, rfl, rfl, rfl⟩, ⟨rfl, rfl, rfl, rfl⟩, hW, hA, (Or.inr ⟨rfl, hg, hSO⟩), ⟨rfl, gC, gD⟩, (Or.inr (Or.inr ⟨rfl, rfl, hg, hLO⟩))⟩
    · exact absurd hg hg2
  · rcases e_ig hp eC eD gC gD hL m_t_formX m_t_formY m_t_formZ m_t_cofactor_r with ⟨hg2, -⟩ | ⟨-, lc, lk, eig⟩
    · exact absurd hg2 hg
    · refine ⟨(-5), c_t_rowKnown, c_t_row_parts_r, c_t_row_square_r, m_t_flags, m_t_formX, m_t_formY, m_t_formZ, 0, 1, m_t_points, lc, lk, m_t_flagPoint_r, m_t_flagU_r, m_t_flagV_r, m_t_flagW_r, m_t_next_r, m_t_pointFlags_r, m_t_pointX_r, m_t_pointY_r, m_t_pointZ_r, m_t_series_r, m_t_square_r, ?_, ?_, ?_⟩
      · unfold fX8_determinant
        rw [ekr, b3_s, if_pos (by decide)]
      · unfold fX9_determinant
        rw [eig, b20_s, if_pos (by decide)]
      · exact ⟨P, C, D, hp, eC, eD, ⟨rfl, hN⟩, ⟨rfl, rfl, rfl, rfl, rfl, rfl⟩, ⟨rfl, rfl, rfl, rfl, rfl, rfl⟩, ⟨rfl, rfl, rfl, rfl, rfl, rfl⟩, ⟨rfl, rfl, rfl, rfl, rfl, rfl⟩, ⟨rfl, rfl, rfl, rfl⟩, hW, hA, hR, ⟨rfl, gC, gD⟩, (Or.inr (Or.inl ⟨rfl, rfl, hg⟩))⟩
set_option maxHeartbeats 2000000 in
set_option maxRecDepth 10000 in
theorem s_closes : Step_closes WInv := by
  intro c_t_walksKnown c_t_addingKnown c_t_rowKnown c_N_p c_N_inverses_r c_N_roots_r c_t_outer_a c_t_outer_b c_t_outer_c c_t_outer_d c_t_outer_e c_t_outer_f c_t_outerCofactors_a c_t_outerCofactors_b c_t_outerCofactors_c c_t_outerCofactors_d c_t_outerCofactors_e c_t_outerCofactors_f c_t_inner_a c_t_inner_b c_t_inner_c c_t_inner_d c_t_inner_e c_t_inner_f c_t_innerCofactors_a c_t_innerCofactors_b c_t_innerCofactors_c c_t_innerCofactors_d c_t_innerCofactors_e c_t_innerCofactors_f c_t_mixed_a c_t_mixed_b c_t_mixed_c c_t_mixed_d c_t_mixed_e c_t_mixed_f c_t_mixedCofactors_a c_t_mixedCofactors_b c_t_mixedCofactors_c c_t_mixedCofactors_d c_t_mixedCofactors_e c_t_mixedCofactors_f c_t_here_x c_t_here_y c_t_here_z c_t_there_x c_t_there_y c_t_there_z c_t_line_x c_t_line_y c_t_line_z c_t_pencil_c0 c_t_pencil_c1 c_t_pencil_c2 c_t_pencil_c3 c_t_walks_pointCount c_t_walks_flagCount c_t_walks_ringCount c_t_walks_pointKeys_r c_t_walks_firstFlags_r c_t_walks_flagPoints_r c_t_walks_flagLines_r c_t_walks_nexts_r c_t_walks_befores_r c_t_walks_walk_r c_t_walks_places_r c_t_walks_ringStarts_r c_t_walks_ringSizes_r c_t_walks_meeting_count c_t_walks_meeting_lower c_t_walks_meeting_upper c_t_walks_meeting_start_x c_t_walks_meeting_start_y c_t_walks_meeting_start_z c_t_walks_meeting_end_x c_t_walks_meeting_end_y c_t_walks_meeting_end_z c_t_walks_meeting_found_x c_t_walks_meeting_found_y c_t_walks_meeting_found_z c_t_walks_level_x c_t_walks_level_y c_t_walks_level_z c_t_adding_closing c_t_adding_pointCount c_t_adding_acrosses_r c_t_adding_ups_r c_t_row_parts_r c_t_row_square_r m_t_p m_t_isLaid m_t_isGood m_t_points m_t_flags m_t_formX m_t_formY m_t_formZ m_t_isNought m_t_sumT m_t_sumY m_t_given_r m_t_c_r m_t_pointX_r m_t_pointY_r m_t_pointZ_r m_t_pointFlags_r m_t_flagPoint_r m_t_flagU_r m_t_flagV_r m_t_flagW_r m_t_next_r m_t_series_r m_t_mix_r m_t_cofactor_r m_t_square_r i1 hI
  obtain ⟨P, C, D, hp, eC, eD, ⟨rfl, hN⟩, ⟨rfl, rfl, rfl, rfl, rfl, rfl⟩, ⟨rfl, rfl, rfl, rfl, rfl, rfl⟩, ⟨rfl, rfl, rfl, rfl, rfl, rfl⟩, ⟨rfl, rfl, rfl, rfl, rfl, rfl⟩, ⟨rfl, rfl, rfl, rfl⟩, hW, hA, hR, ⟨rfl, gC, gD⟩, hL⟩ := hI
  have := nz_of hp
  have hb := pr_rng hp
  rcases e_kr hp hN hR with ⟨hg, pr, hSO, ekr⟩ | ⟨hg, ekr⟩
  · rcases e_ig hp eC eD gC gD hL m_t_formX m_t_formY m_t_formZ m_t_cofactor_r with ⟨-, lp, lf, g1, g2, g3, lc, lX, lY, lZ, lPF, lQ, lU, lV, lW, ln, ls, lk, hLO, eig⟩ | ⟨hg2, -⟩
    · obtain ⟨rfl, rfl, q3, qX, qY, qZ, qPF, qT, qn, qs⟩ := id hLO
      rcases in_c 1 31 (by omega) (by omega) i1 with ⟨k, k1, k2, rfl, k4⟩ | ⟨z, rfl, z1, z2, z3, k4⟩
      · have k4 : fX9_in (iI (k : Nat)) 1 31 = some 1 := k4
        by_cases c2 : k ≤ 2
        · refine ⟨0, 1, pr, c_t_row_square_r, (iI ((FL P C D).length : Nat)), g1, g2, g3, 1, 1, (iI ((PT P C).length : Nat)), lc, lk, lQ, lU, lV, lW, ln, lPF, lX, lY, lZ, ls, m_t_square_r, ?_, ?_, ?_⟩
          · unfold fX8_closes
            rw [ekr, b3_s, if_neg (by decide), if_neg (by rw [show (1 : Int32) = iI ((1 : Nat) : Int) from rfl, nlt (by omega) (by omega)]; omega), if_pos (by rw [show (31 : Int32) = iI ((31 : Nat) : Int) from rfl, nle (by omega) (by omega)]; omega), if_pos (by rw [show (2 : Int32) = iI ((2 : Nat) : Int) from rfl, nle (by omega) (by omega)]; omega)]
          · unfold fX9_closes
            rw [eig, b20_s, if_neg (by decide), k4, b1_s, if_neg (by decide), if_pos (by rw [show (2 : Int32) = iI ((2 : Nat) : Int) from rfl, nle (by omega) (by omega)]; omega)]
          · exact ⟨P, C, D, hp, eC, eD, ⟨rfl, hN⟩, ⟨rfl, rfl, rfl, rfl, rfl, rfl⟩, ⟨rfl, rfl, rfl, rfl, rfl, rfl⟩, ⟨rfl, rfl, rfl, rfl, rfl, rfl⟩, ⟨rfl, rfl, rfl, rfl, rfl, rfl⟩, ⟨rfl, rfl, rfl, rfl⟩, hW, hA, (Or.inr ⟨rfl, hg, hSO⟩), ⟨rfl, gC, gD⟩, (Or.inr (Or.inr ⟨rfl, rfl, hg, hLO⟩))⟩
        · obtain ⟨sq8, d8⟩ := e_closing hp hN hSO (show 3 ≤ k by omega) k2 c_t_row_square_r
          obtain ⟨sq9, d9⟩ := e_det9 hp qs (show 3 ≤ k by omega) k2 m_t_square_r
          have hc := el_0 hp (cls_el hp (cu P C D) k)
          by_cases c3 : cls P (cu P C D) k = 0
          · refine ⟨1, 1, pr, sq8, (iI ((FL P C D).length : Nat)), g1, g2, g3, 1, 1, (iI ((PT P C).length : Nat)), lc, lk, lQ, lU, lV, lW, ln, lPF, lX, lY, lZ, ls, sq9, ?_, ?_, ?_⟩
            · unfold fX8_closes
              rw [ekr, b3_s, if_neg (by decide), if_neg (by rw [show (1 : Int32) = iI ((1 : Nat) : Int) from rfl, nlt (by omega) (by omega)]; omega), if_pos (by rw [show (31 : Int32) = iI ((31 : Nat) : Int) from rfl, nle (by omega) (by omega)]; omega), if_neg (by rw [show (2 : Int32) = iI ((2 : Nat) : Int) from rfl, nle (by omega) (by omega)]; omega), d8, b2_s, if_pos (hc.mpr c3)]
            · unfold fX9_closes
              rw [eig, b20_s, if_neg (by decide), k4, b1_s, if_neg (by decide), if_neg (by rw [show (2 : Int32) = iI ((2 : Nat) : Int) from rfl, nle (by omega) (by omega)]; omega), d9, b2_s, if_pos (hc.mpr c3)]
            · exact ⟨P, C, D, hp, eC, eD, ⟨rfl, hN⟩, ⟨rfl, rfl, rfl, rfl, rfl, rfl⟩, ⟨rfl, rfl, rfl, rfl, rfl, rfl⟩, ⟨rfl, rfl, rfl, rfl, rfl, rfl⟩, ⟨rfl, rfl, rfl, rfl, rfl, rfl⟩, ⟨rfl, rfl, rfl, rfl⟩, hW, hA, (Or.inr ⟨rfl, hg, hSO⟩), ⟨rfl, gC, gD⟩, (Or.inr (Or.inr ⟨rfl, rfl, hg, hLO⟩))⟩
          · refine ⟨0, 1, pr, sq8, (iI ((FL P C D).length : Nat)), g1, g2, g3, 1, 1, (iI ((PT P C).length : Nat)), lc, lk, lQ, lU, lV, lW, ln, lPF, lX, lY, lZ, ls, sq9, ?_, ?_, ?_⟩
            · unfold fX8_closes
              rw [ekr, b3_s, if_neg (by decide), if_neg (by rw [show (1 : Int32) = iI ((1 : Nat) : Int) from rfl, nlt (by omega) (by omega)]; omega), if_pos (by rw [show (31 : Int32) = iI ((31 : Nat) : Int) from rfl, nle (by omega) (by omega)]; omega), if_neg (by rw [show (2 : Int32) = iI ((2 : Nat) : Int) from rfl, nle (by omega) (by omega)]; omega), d8, b2_s, if_neg (fun q => c3 (hc.mp q))]
            · unfold fX9_closes
              rw [eig, b20_s, if_neg (by decide), k4, b1_s, if_neg (by decide), if_neg (by rw [show (2 : Int32) = iI ((2 : Nat) : Int) from rfl, nle (by omega) (by omega)]; omega), d9, b2_s, if_neg (fun q => c3 (hc.mp q))]
            · exact ⟨P, C, D, hp, eC, eD, ⟨rfl, hN⟩, ⟨rfl, rfl, rfl, rfl, rfl, rfl⟩, ⟨rfl, rfl, rfl, rfl, rfl, rfl⟩, ⟨rfl, rfl, rfl, rfl, rfl, rfl⟩, ⟨rfl, rfl, rfl, rfl, rfl, rfl⟩, ⟨rfl, rfl, rfl, rfl⟩, hW, hA, (Or.inr ⟨rfl, hg, hSO⟩), ⟨rfl, gC, gD⟩, (Or.inr (Or.inr ⟨rfl, rfl, hg, hLO⟩))⟩
      · have k4 : fX9_in (iI z) 1 31 = some 0 := k4
        rcases z3 with z3 | z3
        · refine ⟨(-2), 1, pr, c_t_row_square_r, (iI ((FL P C D).length : Nat)), g1, g2, g3, 1, 1, (iI ((PT P C).length : Nat)), lc, lk, lQ, lU, lV, lW, ln, lPF, lX, lY, lZ, ls, m_t_square_r, ?_, ?_, ?_⟩
          · unfold fX8_closes
            rw [ekr, b3_s, if_neg (by decide), if_pos (by rw [show (1 : Int32) = iI 1 from rfl, iI_lt (by omega) (by omega) (by omega) (by omega)]; omega)]
          · unfold fX9_closes
            rw [eig, b20_s, if_neg (by decide), k4, b1_s, if_pos (by decide)]
          · exact ⟨P, C, D, hp, eC, eD, ⟨rfl, hN⟩, ⟨rfl, rfl, rfl, rfl, rfl, rfl⟩, ⟨rfl, rfl, rfl, rfl, rfl, rfl⟩, ⟨rfl, rfl, rfl, rfl, rfl, rfl⟩, ⟨rfl, rfl, rfl, rfl, rfl, rfl⟩, ⟨rfl, rfl, rfl, rfl⟩, hW, hA, (Or.inr ⟨rfl, hg, hSO⟩), ⟨rfl, gC, gD⟩, (Or.inr (Or.inr ⟨rfl, rfl, hg, hLO⟩))⟩
        · refine ⟨(-2), 1, pr, c_t_row_square_r, (iI ((FL P C D).length : Nat)), g1, g2, g3, 1, 1, (iI ((PT P C).length : Nat)), lc, lk, lQ, lU, lV, lW, ln, lPF, lX, lY, lZ, ls, m_t_square_r, ?_, ?_, ?_⟩
          · unfold fX8_closes
            rw [ekr, b3_s, if_neg (by decide), if_neg (by rw [show (1 : Int32) = iI 1 from rfl, iI_lt (by omega) (by omega) (by omega) (by omega)]; omega), if_neg (by rw [show (31 : Int32) = iI 31 from rfl, iI_le (by omega) (by omega) (by omega) (by omega)]; omega)]
          · unfold fX9_closes
            rw [eig, b20_s, if_neg (by decide), k4, b1_s, if_pos (by decide)]
          · exact ⟨P, C, D, hp, eC, eD, ⟨rfl, hN⟩, ⟨rfl, rfl, rfl, rfl, rfl, rfl⟩, ⟨rfl, rfl, rfl, rfl, rfl, rfl⟩, ⟨rfl, rfl, rfl, rfl, rfl, rfl⟩, ⟨rfl, rfl, rfl, rfl, rfl, rfl⟩, ⟨rfl, rfl, rfl, rfl⟩, hW, hA, (Or.inr ⟨rfl, hg, hSO⟩), ⟨rfl, gC, gD⟩, (Or.inr (Or.inr ⟨rfl, rfl, hg, hLO⟩))⟩
    · exact absurd hg hg2
  · rcases e_ig hp eC eD gC gD hL m_t_formX m_t_formY m_t_formZ m_t_cofactor_r with ⟨hg2, -⟩ | ⟨-, lc, lk, eig⟩
    · exact absurd hg2 hg
    · refine ⟨(-5), c_t_rowKnown, c_t_row_parts_r, c_t_row_square_r, m_t_flags, m_t_formX, m_t_formY, m_t_formZ, 0, 1, m_t_points, lc, lk, m_t_flagPoint_r, m_t_flagU_r, m_t_flagV_r, m_t_flagW_r, m_t_next_r, m_t_pointFlags_r, m_t_pointX_r, m_t_pointY_r, m_t_pointZ_r, m_t_series_r, m_t_square_r, ?_, ?_, ?_⟩
      · unfold fX8_closes
        rw [ekr, b3_s, if_pos (by decide)]
      · unfold fX9_closes
        rw [eig, b20_s, if_pos (by decide)]
      · exact ⟨P, C, D, hp, eC, eD, ⟨rfl, hN⟩, ⟨rfl, rfl, rfl, rfl, rfl, rfl⟩, ⟨rfl, rfl, rfl, rfl, rfl, rfl⟩, ⟨rfl, rfl, rfl, rfl, rfl, rfl⟩, ⟨rfl, rfl, rfl, rfl, rfl, rfl⟩, ⟨rfl, rfl, rfl, rfl⟩, hW, hA, hR, ⟨rfl, gC, gD⟩, (Or.inr (Or.inl ⟨rfl, rfl, hg⟩))⟩
/-- the least n from x on that closes -/
def lsn (P : Nat) (c : Nat → Int) : Nat → Nat → Int
  | 0, _ => -6
  | k + 1, n => if cls P c n = 0 then (n : Int) else lsn P c k (n + 1)
theorem e_least8 {P : Nat} (hp : z_pr P = true) {inv roots : Nat → Int32} (hN : NumOK P inv roots) {c : Nat → Int} {u3 : Nat → Int32} (hs : ∀ i, i < 32 → u3 i = iI (ser P c i)) (v2 : Int32) : ∀ k n fu (sq : Nat → Int32), 3 ≤ n → n + k = 32 → k < fu → ∃ sq', gX8_least_12 (iI P) inv v2 u3 (kX8_least_37 v2 u3) fu (iI (n : Nat)) sq = some (iI (lsn P c k n), v2, u3, sq') := by
  intro k
  induction k with
  | zero =>
    intro n fu sq h1 h2 h3
    obtain ⟨f, rfl⟩ : ∃ f, fu = f + 1 := ⟨fu - 1, by omega⟩
    refine ⟨sq, ?_⟩
    show FgX8_least_12 (iI P) inv v2 u3 (gX8_least_12 (iI P) inv v2 u3 (kX8_least_37 v2 u3) f) (kX8_least_37 v2 u3) (iI (n : Nat)) sq = _
    unfold FgX8_least_12
    rw [if_pos (by rw [show (31 : Int32) = iI ((31 : Nat) : Int) from rfl, nlt (by omega) (by omega)]; omega)]; rfl
  | succ k ih =>
    intro n fu sq h1 h2 h3
    obtain ⟨f, rfl⟩ : ∃ f, fu = f + 1 := ⟨fu - 1, by omega⟩
    obtain ⟨sq1, d1⟩ := e_closing hp hN hs h1 (show n ≤ 31 by omega) sq
    show ∃ sq', FgX8_least_12 (iI P) inv v2 u3 (gX8_least_12 (iI P) inv v2 u3 (kX8_least_37 v2 u3) f) (kX8_least_37 v2 u3) (iI (n : Nat)) sq = _
    unfold FgX8_least_12 lsn
    have hc := el_0 hp (cls_el hp c n)
    rw [if_neg (by rw [show (31 : Int32) = iI ((31 : Nat) : Int) from rfl, nlt (by omega) (by omega)]; omega), d1, b2_s]
    by_cases c3 : cls P c n = 0
    · rw [if_pos (hc.mpr c3), if_pos c3]
      exact ⟨sq1, rfl⟩
    · rw [if_neg (fun q => c3 (hc.mp q)), if_neg c3, nm_s, n1]
      exact ih (n + 1) f sq1 (by omega) (by omega) (by omega)
theorem e_least9 {P : Nat} (hp : z_pr P = true) {c : Nat → Int} (v2 v3 v4 v5 v6 v7 v8 : Int32) (u9 u10 u11 u12 u13 u14 u15 u16 u17 u18 u19 u20 : Nat → Int32) (hs : ∀ i, i < 32 → u20 i = iI (ser P c i)) : ∀ k n fu (sq : Nat → Int32), 3 ≤ n → n + k = 32 → k < fu → ∃ sq', gX9_least_12 (iI P) v2 v3 v4 v5 v6 v7 v8 u9 u10 u11 u12 u13 u14 u15 u16 u17 u18 u19 u20 (kX9_least_34 v2 v3 v4 v5 v6 v7 v8 u9 u10 u11 u12 u13 u14 u15 u16 u17 u18 u19 u20) fu (iI (n : Nat)) sq = some (iI (lsn P c k n), v2, v3, v4, v5, v6, v7, v8, u9, u10, u11, u12, u13, u14, u15, u16, u17, u18, u19, u20, sq') := by
  intro k
  induction k with
  | zero =>
    intro n fu sq h1 h2 h3
    obtain ⟨f, rfl⟩ : ∃ f, fu = f + 1 := ⟨fu - 1, by omega⟩
    refine ⟨sq, ?_⟩
    show FgX9_least_12 (iI P) v2 v3 v4 v5 v6 v7 v8 u9 u10 u11 u12 u13 u14 u15 u16 u17 u18 u19 u20 (gX9_least_12 (iI P) v2 v3 v4 v5 v6 v7 v8 u9 u10 u11 u12 u13 u14 u15 u16 u17 u18 u19 u20 (kX9_least_34 v2 v3 v4 v5 v6 v7 v8 u9 u10 u11 u12 u13 u14 u15 u16 u17 u18 u19 u20) f) (kX9_least_34 v2 v3 v4 v5 v6 v7 v8 u9 u10 u11 u12 u13 u14 u15 u16 u17 u18 u19 u20) (iI (n : Nat)) sq = _
    unfold FgX9_least_12
    rw [if_pos (by rw [show (31 : Int32) = iI ((31 : Nat) : Int) from rfl, nlt (by omega) (by omega)]; omega)]; rfl
  | succ k ih =>
    intro n fu sq h1 h2 h3
    obtain ⟨f, rfl⟩ : ∃ f, fu = f + 1 := ⟨fu - 1, by omega⟩
    obtain ⟨sq1, d1⟩ := e_det9 hp hs h1 (show n ≤ 31 by omega) sq
    show ∃ sq', FgX9_least_12 (iI P) v2 v3 v4 v5 v6 v7 v8 u9 u10 u11 u12 u13 u14 u15 u16 u17 u18 u19 u20 (gX9_least_12 (iI P) v2 v3 v4 v5 v6 v7 v8 u9 u10 u11 u12 u13 u14 u15 u16 u17 u18 u19 u20 (kX9_least_34 v2 v3 v4 v5 v6 v7 v8 u9 u10 u11 u12 u13 u14 u15 u16 u17 u18 u19 u20) f) (kX9_least_34 v2 v3 v4 v5 v6 v7 v8 u9 u10 u11 u12 u13 u14 u15 u16 u17 u18 u19 u20) (iI (n : Nat)) sq = _
    unfold FgX9_least_12 lsn
    have hc := el_0 hp (cls_el hp c n)
    rw [if_neg (by rw [show (31 : Int32) = iI ((31 : Nat) : Int) from rfl, nlt (by omega) (by omega)]; omega), d1, b2_s]
    by_cases c3 : cls P c n = 0
    · rw [if_pos (hc.mpr c3), if_pos c3]
      exact ⟨sq1, rfl⟩
    · rw [if_neg (fun q => c3 (hc.mp q)), if_neg c3, nm_s, n1]
      exact ih (n + 1) f sq1 (by omega) (by omega) (by omega)
set_option maxHeartbeats 2000000 in
set_option maxRecDepth 10000 in
theorem s_least : Step_least WInv := by
  intro c_t_walksKnown c_t_addingKnown c_t_rowKnown c_N_p c_N_inverses_r c_N_roots_r c_t_outer_a c_t_outer_b c_t_outer_c c_t_outer_d c_t_outer_e c_t_outer_f c_t_outerCofactors_a c_t_outerCofactors_b c_t_outerCofactors_c c_t_outerCofactors_d c_t_outerCofactors_e c_t_outerCofactors_f c_t_inner_a c_t_inner_b c_t_inner_c c_t_inner_d c_t_inner_e c_t_inner_f c_t_innerCofactors_a c_t_innerCofactors_b c_t_innerCofactors_c c_t_innerCofactors_d c_t_innerCofactors_e c_t_innerCofactors_f c_t_mixed_a c_t_mixed_b c_t_mixed_c c_t_mixed_d c_t_mixed_e c_t_mixed_f c_t_mixedCofactors_a c_t_mixedCofactors_b c_t_mixedCofactors_c c_t_mixedCofactors_d c_t_mixedCofactors_e c_t_mixedCofactors_f c_t_here_x c_t_here_y c_t_here_z c_t_there_x c_t_there_y c_t_there_z c_t_line_x c_t_line_y c_t_line_z c_t_pencil_c0 c_t_pencil_c1 c_t_pencil_c2 c_t_pencil_c3 c_t_walks_pointCount c_t_walks_flagCount c_t_walks_ringCount c_t_walks_pointKeys_r c_t_walks_firstFlags_r c_t_walks_flagPoints_r c_t_walks_flagLines_r c_t_walks_nexts_r c_t_walks_befores_r c_t_walks_walk_r c_t_walks_places_r c_t_walks_ringStarts_r c_t_walks_ringSizes_r c_t_walks_meeting_count c_t_walks_meeting_lower c_t_walks_meeting_upper c_t_walks_meeting_start_x c_t_walks_meeting_start_y c_t_walks_meeting_start_z c_t_walks_meeting_end_x c_t_walks_meeting_end_y c_t_walks_meeting_end_z c_t_walks_meeting_found_x c_t_walks_meeting_found_y c_t_walks_meeting_found_z c_t_walks_level_x c_t_walks_level_y c_t_walks_level_z c_t_adding_closing c_t_adding_pointCount c_t_adding_acrosses_r c_t_adding_ups_r c_t_row_parts_r c_t_row_square_r m_t_p m_t_isLaid m_t_isGood m_t_points m_t_flags m_t_formX m_t_formY m_t_formZ m_t_isNought m_t_sumT m_t_sumY m_t_given_r m_t_c_r m_t_pointX_r m_t_pointY_r m_t_pointZ_r m_t_pointFlags_r m_t_flagPoint_r m_t_flagU_r m_t_flagV_r m_t_flagW_r m_t_next_r m_t_series_r m_t_mix_r m_t_cofactor_r m_t_square_r hI
  obtain ⟨P, C, D, hp, eC, eD, ⟨rfl, hN⟩, ⟨rfl, rfl, rfl, rfl, rfl, rfl⟩, ⟨rfl, rfl, rfl, rfl, rfl, rfl⟩, ⟨rfl, rfl, rfl, rfl, rfl, rfl⟩, ⟨rfl, rfl, rfl, rfl, rfl, rfl⟩, ⟨rfl, rfl, rfl, rfl⟩, hW, hA, hR, ⟨rfl, gC, gD⟩, hL⟩ := hI
  have := nz_of hp
  have hb := pr_rng hp
  rcases e_kr hp hN hR with ⟨hg, pr, hSO, ekr⟩ | ⟨hg, ekr⟩
  · rcases e_ig hp eC eD gC gD hL m_t_formX m_t_formY m_t_formZ m_t_cofactor_r with ⟨-, lp, lf, g1, g2, g3, lc, lX, lY, lZ, lPF, lQ, lU, lV, lW, ln, ls, lk, hLO, eig⟩ | ⟨hg2, -⟩
    · obtain ⟨rfl, rfl, q3, qX, qY, qZ, qPF, qT, qn, qs⟩ := id hLO
      obtain ⟨sq8, d8⟩ := e_least8 hp hN hSO 1 29 3 p_FU c_t_row_square_r (by omega) (by omega) (by have := FU_big; omega)
      obtain ⟨sq9, d9⟩ := e_least9 hp (iI ((FL P C D).length : Nat)) g1 g2 g3 1 1 (iI ((PT P C).length : Nat)) lc lk lQ lU lV lW ln lPF lX lY lZ ls qs 29 3 p_FU m_t_square_r (by omega) (by omega) (by have := FU_big; omega)
      refine ⟨(iI (lsn P (cu P C D) 29 3)), 1, pr, sq8, (iI ((FL P C D).length : Nat)), g1, g2, g3, 1, 1, (iI ((PT P C).length : Nat)), lc, lk, lQ, lU, lV, lW, ln, lPF, lX, lY, lZ, ls, sq9, ?_, ?_, ?_⟩
      · unfold fX8_least
        rw [ekr, b3_s, if_neg (by decide)]
        exact d8
      · unfold fX9_least
        rw [eig, b20_s, if_neg (by decide)]
        exact d9
      · exact ⟨P, C, D, hp, eC, eD, ⟨rfl, hN⟩, ⟨rfl, rfl, rfl, rfl, rfl, rfl⟩, ⟨rfl, rfl, rfl, rfl, rfl, rfl⟩, ⟨rfl, rfl, rfl, rfl, rfl, rfl⟩, ⟨rfl, rfl, rfl, rfl, rfl, rfl⟩, ⟨rfl, rfl, rfl, rfl⟩, hW, hA, (Or.inr ⟨rfl, hg, hSO⟩), ⟨rfl, gC, gD⟩, (Or.inr (Or.inr ⟨rfl, rfl, hg, hLO⟩))⟩
    · exact absurd hg hg2
  · rcases e_ig hp eC eD gC gD hL m_t_formX m_t_formY m_t_formZ m_t_cofactor_r with ⟨hg2, -⟩ | ⟨-, lc, lk, eig⟩
    · exact absurd hg2 hg
    · refine ⟨(-5), c_t_rowKnown, c_t_row_parts_r, c_t_row_square_r, m_t_flags, m_t_formX, m_t_formY, m_t_formZ, 0, 1, m_t_points, lc, lk, m_t_flagPoint_r, m_t_flagU_r, m_t_flagV_r, m_t_flagW_r, m_t_next_r, m_t_pointFlags_r, m_t_pointX_r, m_t_pointY_r, m_t_pointZ_r, m_t_series_r, m_t_square_r, ?_, ?_, ?_⟩
      · unfold fX8_least
        rw [ekr, b3_s, if_pos (by decide)]
      · unfold fX9_least
        rw [eig, b20_s, if_pos (by decide)]
      · exact ⟨P, C, D, hp, eC, eD, ⟨rfl, hN⟩, ⟨rfl, rfl, rfl, rfl, rfl, rfl⟩, ⟨rfl, rfl, rfl, rfl, rfl, rfl⟩, ⟨rfl, rfl, rfl, rfl, rfl, rfl⟩, ⟨rfl, rfl, rfl, rfl, rfl, rfl⟩, ⟨rfl, rfl, rfl, rfl⟩, hW, hA, hR, ⟨rfl, gC, gD⟩, (Or.inr (Or.inl ⟨rfl, rfl, hg⟩))⟩
set_option maxHeartbeats 2000000 in
set_option maxRecDepth 10000 in
theorem s_order : Step_order WInv := by
  intro c_t_walksKnown c_t_addingKnown c_t_rowKnown c_N_p c_N_inverses_r c_N_roots_r c_t_outer_a c_t_outer_b c_t_outer_c c_t_outer_d c_t_outer_e c_t_outer_f c_t_outerCofactors_a c_t_outerCofactors_b c_t_outerCofactors_c c_t_outerCofactors_d c_t_outerCofactors_e c_t_outerCofactors_f c_t_inner_a c_t_inner_b c_t_inner_c c_t_inner_d c_t_inner_e c_t_inner_f c_t_innerCofactors_a c_t_innerCofactors_b c_t_innerCofactors_c c_t_innerCofactors_d c_t_innerCofactors_e c_t_innerCofactors_f c_t_mixed_a c_t_mixed_b c_t_mixed_c c_t_mixed_d c_t_mixed_e c_t_mixed_f c_t_mixedCofactors_a c_t_mixedCofactors_b c_t_mixedCofactors_c c_t_mixedCofactors_d c_t_mixedCofactors_e c_t_mixedCofactors_f c_t_here_x c_t_here_y c_t_here_z c_t_there_x c_t_there_y c_t_there_z c_t_line_x c_t_line_y c_t_line_z c_t_pencil_c0 c_t_pencil_c1 c_t_pencil_c2 c_t_pencil_c3 c_t_walks_pointCount c_t_walks_flagCount c_t_walks_ringCount c_t_walks_pointKeys_r c_t_walks_firstFlags_r c_t_walks_flagPoints_r c_t_walks_flagLines_r c_t_walks_nexts_r c_t_walks_befores_r c_t_walks_walk_r c_t_walks_places_r c_t_walks_ringStarts_r c_t_walks_ringSizes_r c_t_walks_meeting_count c_t_walks_meeting_lower c_t_walks_meeting_upper c_t_walks_meeting_start_x c_t_walks_meeting_start_y c_t_walks_meeting_start_z c_t_walks_meeting_end_x c_t_walks_meeting_end_y c_t_walks_meeting_end_z c_t_walks_meeting_found_x c_t_walks_meeting_found_y c_t_walks_meeting_found_z c_t_walks_level_x c_t_walks_level_y c_t_walks_level_z c_t_adding_closing c_t_adding_pointCount c_t_adding_acrosses_r c_t_adding_ups_r c_t_row_parts_r c_t_row_square_r m_t_p m_t_isLaid m_t_isGood m_t_points m_t_flags m_t_formX m_t_formY m_t_formZ m_t_isNought m_t_sumT m_t_sumY m_t_given_r m_t_c_r m_t_pointX_r m_t_pointY_r m_t_pointZ_r m_t_pointFlags_r m_t_flagPoint_r m_t_flagU_r m_t_flagV_r m_t_flagW_r m_t_next_r m_t_series_r m_t_mix_r m_t_cofactor_r m_t_square_r hI
  obtain ⟨P, C, D, hp, eC, eD, ⟨rfl, hN⟩, ⟨rfl, rfl, rfl, rfl, rfl, rfl⟩, ⟨rfl, rfl, rfl, rfl, rfl, rfl⟩, ⟨rfl, rfl, rfl, rfl, rfl, rfl⟩, ⟨rfl, rfl, rfl, rfl, rfl, rfl⟩, ⟨rfl, rfl, rfl, rfl⟩, hW, hA, hR, ⟨rfl, gC, gD⟩, hL⟩ := hI
  have := nz_of hp
  have hb := pr_rng hp
  rcases e_ka hp hN hA with ⟨hg, acl, apn, aac, aup, hAO, eka⟩ | ⟨hg, eka⟩
  · rcases e_ig hp eC eD gC gD hL m_t_formX m_t_formY m_t_formZ m_t_cofactor_r with ⟨-, lp, lf, g1, g2, g3, lc, lX, lY, lZ, lPF, lQ, lU, lV, lW, ln, ls, lk, hLO, eig⟩ | ⟨hg2, -⟩
    · obtain ⟨rfl, rfl, q3, qX, qY, qZ, qPF, qT, qn, qs⟩ := id hLO
      obtain ⟨N, hO, rfl, rfl, hM⟩ := id hAO
      have h3 := bf3_ne hp (cu_el hp C D) hg.1 hg.2.1
      obtain ⟨oi, ot, oy, e9⟩ := e_ordOf hp (cu_el hp C D) h3 q3 hO m_t_isNought m_t_sumT m_t_sumY
      refine ⟨(iI (N : Nat)), 1, (iI (N : Nat)), (iI (cvn P (cu P C D) P : Nat)), aac, aup, (iI ((FL P C D).length : Nat)), g1, g2, g3, 1, 1, oi, (iI ((PT P C).length : Nat)), ot, oy, lc, lk, lQ, lU, lV, lW, ln, lPF, lX, lY, lZ, ls, ?_, ?_, ?_⟩
      · unfold fX8_order fX1_closing
        rw [eka, b6_s, if_neg (by decide), b1_s]
      · unfold fX9_order
        rw [eig, b20_s, if_neg (by decide), e9, b4_s]
      · exact ⟨P, C, D, hp, eC, eD, ⟨rfl, hN⟩, ⟨rfl, rfl, rfl, rfl, rfl, rfl⟩, ⟨rfl, rfl, rfl, rfl, rfl, rfl⟩, ⟨rfl, rfl, rfl, rfl, rfl, rfl⟩, ⟨rfl, rfl, rfl, rfl, rfl, rfl⟩, ⟨rfl, rfl, rfl, rfl⟩, hW, (Or.inr ⟨rfl, hg, hAO⟩), hR, ⟨rfl, gC, gD⟩, (Or.inr (Or.inr ⟨rfl, rfl, hg, hLO⟩))⟩
    · exact absurd hg hg2
  · rcases e_ig hp eC eD gC gD hL m_t_formX m_t_formY m_t_formZ m_t_cofactor_r with ⟨hg2, -⟩ | ⟨-, lc, lk, eig⟩
    · exact absurd hg2 hg
    · refine ⟨(-5), c_t_addingKnown, c_t_adding_closing, c_t_adding_pointCount, c_t_adding_acrosses_r, c_t_adding_ups_r, m_t_flags, m_t_formX, m_t_formY, m_t_formZ, 0, 1, m_t_isNought, m_t_points, m_t_sumT, m_t_sumY, lc, lk, m_t_flagPoint_r, m_t_flagU_r, m_t_flagV_r, m_t_flagW_r, m_t_next_r, m_t_pointFlags_r, m_t_pointX_r, m_t_pointY_r, m_t_pointZ_r, m_t_series_r, ?_, ?_, ?_⟩
      · unfold fX8_order
        rw [eka, b6_s, if_pos (by decide)]
      · unfold fX9_order
        rw [eig, b20_s, if_pos (by decide)]
      · exact ⟨P, C, D, hp, eC, eD, ⟨rfl, hN⟩, ⟨rfl, rfl, rfl, rfl, rfl, rfl⟩, ⟨rfl, rfl, rfl, rfl, rfl, rfl⟩, ⟨rfl, rfl, rfl, rfl, rfl, rfl⟩, ⟨rfl, rfl, rfl, rfl, rfl, rfl⟩, ⟨rfl, rfl, rfl, rfl⟩, hW, hA, hR, ⟨rfl, gC, gD⟩, (Or.inr (Or.inl ⟨rfl, rfl, hg⟩))⟩
set_option maxHeartbeats 2000000 in
set_option maxRecDepth 10000 in
theorem s_curve : Step_curve WInv := by
  intro c_t_walksKnown c_t_addingKnown c_t_rowKnown c_N_p c_N_inverses_r c_N_roots_r c_t_outer_a c_t_outer_b c_t_outer_c c_t_outer_d c_t_outer_e c_t_outer_f c_t_outerCofactors_a c_t_outerCofactors_b c_t_outerCofactors_c c_t_outerCofactors_d c_t_outerCofactors_e c_t_outerCofactors_f c_t_inner_a c_t_inner_b c_t_inner_c c_t_inner_d c_t_inner_e c_t_inner_f c_t_innerCofactors_a c_t_innerCofactors_b c_t_innerCofactors_c c_t_innerCofactors_d c_t_innerCofactors_e c_t_innerCofactors_f c_t_mixed_a c_t_mixed_b c_t_mixed_c c_t_mixed_d c_t_mixed_e c_t_mixed_f c_t_mixedCofactors_a c_t_mixedCofactors_b c_t_mixedCofactors_c c_t_mixedCofactors_d c_t_mixedCofactors_e c_t_mixedCofactors_f c_t_here_x c_t_here_y c_t_here_z c_t_there_x c_t_there_y c_t_there_z c_t_line_x c_t_line_y c_t_line_z c_t_pencil_c0 c_t_pencil_c1 c_t_pencil_c2 c_t_pencil_c3 c_t_walks_pointCount c_t_walks_flagCount c_t_walks_ringCount c_t_walks_pointKeys_r c_t_walks_firstFlags_r c_t_walks_flagPoints_r c_t_walks_flagLines_r c_t_walks_nexts_r c_t_walks_befores_r c_t_walks_walk_r c_t_walks_places_r c_t_walks_ringStarts_r c_t_walks_ringSizes_r c_t_walks_meeting_count c_t_walks_meeting_lower c_t_walks_meeting_upper c_t_walks_meeting_start_x c_t_walks_meeting_start_y c_t_walks_meeting_start_z c_t_walks_meeting_end_x c_t_walks_meeting_end_y c_t_walks_meeting_end_z c_t_walks_meeting_found_x c_t_walks_meeting_found_y c_t_walks_meeting_found_z c_t_walks_level_x c_t_walks_level_y c_t_walks_level_z c_t_adding_closing c_t_adding_pointCount c_t_adding_acrosses_r c_t_adding_ups_r c_t_row_parts_r c_t_row_square_r m_t_p m_t_isLaid m_t_isGood m_t_points m_t_flags m_t_formX m_t_formY m_t_formZ m_t_isNought m_t_sumT m_t_sumY m_t_given_r m_t_c_r m_t_pointX_r m_t_pointY_r m_t_pointZ_r m_t_pointFlags_r m_t_flagPoint_r m_t_flagU_r m_t_flagV_r m_t_flagW_r m_t_next_r m_t_series_r m_t_mix_r m_t_cofactor_r m_t_square_r hI
  obtain ⟨P, C, D, hp, eC, eD, ⟨rfl, hN⟩, ⟨rfl, rfl, rfl, rfl, rfl, rfl⟩, ⟨rfl, rfl, rfl, rfl, rfl, rfl⟩, ⟨rfl, rfl, rfl, rfl, rfl, rfl⟩, ⟨rfl, rfl, rfl, rfl, rfl, rfl⟩, ⟨rfl, rfl, rfl, rfl⟩, hW, hA, hR, ⟨rfl, gC, gD⟩, hL⟩ := hI
  have := nz_of hp
  have hb := pr_rng hp
  rcases e_ka hp hN hA with ⟨hg, acl, apn, aac, aup, hAO, eka⟩ | ⟨hg, eka⟩
  · rcases e_ig hp eC eD gC gD hL m_t_formX m_t_formY m_t_formZ m_t_cofactor_r with ⟨-, lp, lf, g1, g2, g3, lc, lX, lY, lZ, lPF, lQ, lU, lV, lW, ln, ls, lk, hLO, eig⟩ | ⟨hg2, -⟩
    · obtain ⟨rfl, rfl, q3, qX, qY, qZ, qPF, qT, qn, qs⟩ := id hLO
      obtain ⟨N, hO, rfl, rfl, hM⟩ := id hAO
      have h3 := bf3_ne hp (cu_el hp C D) hg.1 hg.2.1
      refine ⟨(iI (cvn P (cu P C D) P : Nat)), 1, (iI (N : Nat)), (iI (cvn P (cu P C D) P : Nat)), aac, aup, (iI ((FL P C D).length : Nat)), g1, g2, g3, 1, 1, (iI ((PT P C).length : Nat)), lc, lk, lQ, lU, lV, lW, ln, lPF, lX, lY, lZ, ls, ?_, ?_, ?_⟩
      · unfold fX8_curve fX1_countPoints
        rw [eka, b6_s, if_neg (by decide), b1_s]
      · unfold fX9_curve
        rw [eig, b20_s, if_neg (by decide), e_curve9 hp (cu_el hp C D) hg.1 q3]
        rfl
      · exact ⟨P, C, D, hp, eC, eD, ⟨rfl, hN⟩, ⟨rfl, rfl, rfl, rfl, rfl, rfl⟩, ⟨rfl, rfl, rfl, rfl, rfl, rfl⟩, ⟨rfl, rfl, rfl, rfl, rfl, rfl⟩, ⟨rfl, rfl, rfl, rfl, rfl, rfl⟩, ⟨rfl, rfl, rfl, rfl⟩, hW, (Or.inr ⟨rfl, hg, hAO⟩), hR, ⟨rfl, gC, gD⟩, (Or.inr (Or.inr ⟨rfl, rfl, hg, hLO⟩))⟩
    · exact absurd hg hg2
  · rcases e_ig hp eC eD gC gD hL m_t_formX m_t_formY m_t_formZ m_t_cofactor_r with ⟨hg2, -⟩ | ⟨-, lc, lk, eig⟩
    · exact absurd hg2 hg
    · refine ⟨(-5), c_t_addingKnown, c_t_adding_closing, c_t_adding_pointCount, c_t_adding_acrosses_r, c_t_adding_ups_r, m_t_flags, m_t_formX, m_t_formY, m_t_formZ, 0, 1, m_t_points, lc, lk, m_t_flagPoint_r, m_t_flagU_r, m_t_flagV_r, m_t_flagW_r, m_t_next_r, m_t_pointFlags_r, m_t_pointX_r, m_t_pointY_r, m_t_pointZ_r, m_t_series_r, ?_, ?_, ?_⟩
      · unfold fX8_curve
        rw [eka, b6_s, if_pos (by decide)]
      · unfold fX9_curve
        rw [eig, b20_s, if_pos (by decide)]
      · exact ⟨P, C, D, hp, eC, eD, ⟨rfl, hN⟩, ⟨rfl, rfl, rfl, rfl, rfl, rfl⟩, ⟨rfl, rfl, rfl, rfl, rfl, rfl⟩, ⟨rfl, rfl, rfl, rfl, rfl, rfl⟩, ⟨rfl, rfl, rfl, rfl, rfl, rfl⟩, ⟨rfl, rfl, rfl, rfl⟩, hW, hA, hR, ⟨rfl, gC, gD⟩, (Or.inr (Or.inl ⟨rfl, rfl, hg⟩))⟩
set_option maxHeartbeats 2000000 in
set_option maxRecDepth 10000 in
theorem s_multiple : Step_multiple WInv := by
  intro c_t_walksKnown c_t_addingKnown c_t_rowKnown c_N_p c_N_inverses_r c_N_roots_r c_t_outer_a c_t_outer_b c_t_outer_c c_t_outer_d c_t_outer_e c_t_outer_f c_t_outerCofactors_a c_t_outerCofactors_b c_t_outerCofactors_c c_t_outerCofactors_d c_t_outerCofactors_e c_t_outerCofactors_f c_t_inner_a c_t_inner_b c_t_inner_c c_t_inner_d c_t_inner_e c_t_inner_f c_t_innerCofactors_a c_t_innerCofactors_b c_t_innerCofactors_c c_t_innerCofactors_d c_t_innerCofactors_e c_t_innerCofactors_f c_t_mixed_a c_t_mixed_b c_t_mixed_c c_t_mixed_d c_t_mixed_e c_t_mixed_f c_t_mixedCofactors_a c_t_mixedCofactors_b c_t_mixedCofactors_c c_t_mixedCofactors_d c_t_mixedCofactors_e c_t_mixedCofactors_f c_t_here_x c_t_here_y c_t_here_z c_t_there_x c_t_there_y c_t_there_z c_t_line_x c_t_line_y c_t_line_z c_t_pencil_c0 c_t_pencil_c1 c_t_pencil_c2 c_t_pencil_c3 c_t_walks_pointCount c_t_walks_flagCount c_t_walks_ringCount c_t_walks_pointKeys_r c_t_walks_firstFlags_r c_t_walks_flagPoints_r c_t_walks_flagLines_r c_t_walks_nexts_r c_t_walks_befores_r c_t_walks_walk_r c_t_walks_places_r c_t_walks_ringStarts_r c_t_walks_ringSizes_r c_t_walks_meeting_count c_t_walks_meeting_lower c_t_walks_meeting_upper c_t_walks_meeting_start_x c_t_walks_meeting_start_y c_t_walks_meeting_start_z c_t_walks_meeting_end_x c_t_walks_meeting_end_y c_t_walks_meeting_end_z c_t_walks_meeting_found_x c_t_walks_meeting_found_y c_t_walks_meeting_found_z c_t_walks_level_x c_t_walks_level_y c_t_walks_level_z c_t_adding_closing c_t_adding_pointCount c_t_adding_acrosses_r c_t_adding_ups_r c_t_row_parts_r c_t_row_square_r m_t_p m_t_isLaid m_t_isGood m_t_points m_t_flags m_t_formX m_t_formY m_t_formZ m_t_isNought m_t_sumT m_t_sumY m_t_given_r m_t_c_r m_t_pointX_r m_t_pointY_r m_t_pointZ_r m_t_pointFlags_r m_t_flagPoint_r m_t_flagU_r m_t_flagV_r m_t_flagW_r m_t_next_r m_t_series_r m_t_mix_r m_t_cofactor_r m_t_square_r i1 i2 hI
  obtain ⟨P, C, D, hp, eC, eD, ⟨rfl, hN⟩, ⟨rfl, rfl, rfl, rfl, rfl, rfl⟩, ⟨rfl, rfl, rfl, rfl, rfl, rfl⟩, ⟨rfl, rfl, rfl, rfl, rfl, rfl⟩, ⟨rfl, rfl, rfl, rfl, rfl, rfl⟩, ⟨rfl, rfl, rfl, rfl⟩, hW, hA, hR, ⟨rfl, gC, gD⟩, hL⟩ := hI
  have := nz_of hp
  have hb := pr_rng hp
  rcases e_ka hp hN hA with ⟨hg, acl, apn, aac, aup, hAO, eka⟩ | ⟨hg, eka⟩
  · rcases e_ig hp eC eD gC gD hL m_t_formX m_t_formY m_t_formZ m_t_cofactor_r with ⟨-, lp, lf, g1, g2, g3, lc, lX, lY, lZ, lPF, lQ, lU, lV, lW, ln, ls, lk, hLO, eig⟩ | ⟨hg2, -⟩
    · obtain ⟨rfl, rfl, q3, qX, qY, qZ, qPF, qT, qn, qs⟩ := id hLO
      obtain ⟨N, hO, rfl, rfl, hM⟩ := id hAO
      have h3 := bf3_ne hp (cu_el hp C D) hg.1 hg.2.1
      rcases skip_c i1 with ⟨k, k2, rfl, k3, k4⟩ | ⟨k3, k4⟩
      · rcases in_c 0 1 (by omega) (by omega) i2 with ⟨w, -, w2, rfl, w4⟩ | ⟨z, rfl, z1, z2, z3, w4⟩
        · have w4 : fX9_in (iI (w : Nat)) 0 1 = some 1 := w4
          obtain ⟨oi, ot, oy, r1, e9⟩ := e_mulOf hp (cu_el hp C D) h3 q3 k2 m_t_isNought m_t_sumT m_t_sumY
          obtain ⟨x8, y8⟩ := e_across hO hM (show k ≤ 100000 by omega)
          cases hq : mlt P (cu P C D) k with
          | none =>
            rw [hq] at r1 x8 y8
            have r1 : oi = 1 := r1
            rcases (show w = 0 ∨ w = 1 by omega) with rfl | rfl
            · refine ⟨(-6), 1, (iI (N : Nat)), (iI (cvn P (cu P C D) P : Nat)), aac, aup, (iI ((FL P C D).length : Nat)), g1, g2, g3, 1, 1, oi, (iI ((PT P C).length : Nat)), ot, oy, lc, lk, lQ, lU, lV, lW, ln, lPF, lX, lY, lZ, ls, ?_, ?_, ?_⟩
              · have x8 : fX1_acrossAt (iI (N : Nat)) aac (iI (k : Nat)) = some (-6) := x8
                unfold fX8_multiple
                rw [eka, b6_s, if_neg (by decide), k3, b1_s, if_neg (by decide), if_neg (by decide), if_pos (by decide), if_pos (by decide), x8, b1_s]
              · unfold fX9_multiple
                rw [eig, b20_s, if_neg (by decide), k4, b1_s, if_neg (by decide), w4, b1_s, if_neg (by decide), e9, b3_s, if_neg (by rw [r1]; decide)]
              · exact ⟨P, C, D, hp, eC, eD, ⟨rfl, hN⟩, ⟨rfl, rfl, rfl, rfl, rfl, rfl⟩, ⟨rfl, rfl, rfl, rfl, rfl, rfl⟩, ⟨rfl, rfl, rfl, rfl, rfl, rfl⟩, ⟨rfl, rfl, rfl, rfl, rfl, rfl⟩, ⟨rfl, rfl, rfl, rfl⟩, hW, (Or.inr ⟨rfl, hg, hAO⟩), hR, ⟨rfl, gC, gD⟩, (Or.inr (Or.inr ⟨rfl, rfl, hg, hLO⟩))⟩
            · refine ⟨(-6), 1, (iI (N : Nat)), (iI (cvn P (cu P C D) P : Nat)), aac, aup, (iI ((FL P C D).length : Nat)), g1, g2, g3, 1, 1, oi, (iI ((PT P C).length : Nat)), ot, oy, lc, lk, lQ, lU, lV, lW, ln, lPF, lX, lY, lZ, ls, ?_, ?_, ?_⟩
              · have y8 : fX1_upAt (iI (N : Nat)) aup (iI (k : Nat)) = some (-6) := y8
                unfold fX8_multiple
                rw [eka, b6_s, if_neg (by decide), k3, b1_s, if_neg (by decide), if_neg (by decide), if_pos (by decide), if_neg (by decide), y8, b1_s]
              · unfold fX9_multiple
                rw [eig, b20_s, if_neg (by decide), k4, b1_s, if_neg (by decide), w4, b1_s, if_neg (by decide), e9, b3_s, if_neg (by rw [r1]; decide)]
              · exact ⟨P, C, D, hp, eC, eD, ⟨rfl, hN⟩, ⟨rfl, rfl, rfl, rfl, rfl, rfl⟩, ⟨rfl, rfl, rfl, rfl, rfl, rfl⟩, ⟨rfl, rfl, rfl, rfl, rfl, rfl⟩, ⟨rfl, rfl, rfl, rfl, rfl, rfl⟩, ⟨rfl, rfl, rfl, rfl⟩, hW, (Or.inr ⟨rfl, hg, hAO⟩), hR, ⟨rfl, gC, gD⟩, (Or.inr (Or.inr ⟨rfl, rfl, hg, hLO⟩))⟩
          | some z =>
            rw [hq] at r1 x8 y8
            obtain ⟨r1, r2, r3⟩ := r1
            have r2 : ot = iI z.1 := r2
            have r3 : oy = iI z.2 := r3
            rcases (show w = 0 ∨ w = 1 by omega) with rfl | rfl
            · refine ⟨ot, 1, (iI (N : Nat)), (iI (cvn P (cu P C D) P : Nat)), aac, aup, (iI ((FL P C D).length : Nat)), g1, g2, g3, 1, 1, oi, (iI ((PT P C).length : Nat)), ot, oy, lc, lk, lQ, lU, lV, lW, ln, lPF, lX, lY, lZ, ls, ?_, ?_, ?_⟩
              · have x8 : fX1_acrossAt (iI (N : Nat)) aac (iI (k : Nat)) = some (iI z.1) := x8
                unfold fX8_multiple
                rw [eka, b6_s, if_neg (by decide), k3, b1_s, if_neg (by decide), if_neg (by decide), if_pos (by decide), if_pos (by decide), x8, b1_s, r2]
              · unfold fX9_multiple
                rw [eig, b20_s, if_neg (by decide), k4, b1_s, if_neg (by decide), w4, b1_s, if_neg (by decide), e9, b3_s, if_pos r1, if_pos (by decide)]
              · exact ⟨P, C, D, hp, eC, eD, ⟨rfl, hN⟩, ⟨rfl, rfl, rfl, rfl, rfl, rfl⟩, ⟨rfl, rfl, rfl, rfl, rfl, rfl⟩, ⟨rfl, rfl, rfl, rfl, rfl, rfl⟩, ⟨rfl, rfl, rfl, rfl, rfl, rfl⟩, ⟨rfl, rfl, rfl, rfl⟩, hW, (Or.inr ⟨rfl, hg, hAO⟩), hR, ⟨rfl, gC, gD⟩, (Or.inr (Or.inr ⟨rfl, rfl, hg, hLO⟩))⟩
            · refine ⟨oy, 1, (iI (N : Nat)), (iI (cvn P (cu P C D) P : Nat)), aac, aup, (iI ((FL P C D).length : Nat)), g1, g2, g3, 1, 1, oi, (iI ((PT P C).length : Nat)), ot, oy, lc, lk, lQ, lU, lV, lW, ln, lPF, lX, lY, lZ, ls, ?_, ?_, ?_⟩
              · have y8 : fX1_upAt (iI (N : Nat)) aup (iI (k : Nat)) = some (iI z.2) := y8
                unfold fX8_multiple
                rw [eka, b6_s, if_neg (by decide), k3, b1_s, if_neg (by decide), if_neg (by decide), if_pos (by decide), if_neg (by decide), y8, b1_s, r3]
              · unfold fX9_multiple
                rw [eig, b20_s, if_neg (by decide), k4, b1_s, if_neg (by decide), w4, b1_s, if_neg (by decide), e9, b3_s, if_pos r1, if_neg (by decide)]
              · exact ⟨P, C, D, hp, eC, eD, ⟨rfl, hN⟩, ⟨rfl, rfl, rfl, rfl, rfl, rfl⟩, ⟨rfl, rfl, rfl, rfl, rfl, rfl⟩, ⟨rfl, rfl, rfl, rfl, rfl, rfl⟩, ⟨rfl, rfl, rfl, rfl, rfl, rfl⟩, ⟨rfl, rfl, rfl, rfl⟩, hW, (Or.inr ⟨rfl, hg, hAO⟩), hR, ⟨rfl, gC, gD⟩, (Or.inr (Or.inr ⟨rfl, rfl, hg, hLO⟩))⟩
        · have w4 : fX9_in (iI z) 0 1 = some 0 := w4
          rcases z3 with z3 | z3
          · refine ⟨(-2), 1, (iI (N : Nat)), (iI (cvn P (cu P C D) P : Nat)), aac, aup, (iI ((FL P C D).length : Nat)), g1, g2, g3, 1, 1, m_t_isNought, (iI ((PT P C).length : Nat)), m_t_sumT, m_t_sumY, lc, lk, lQ, lU, lV, lW, ln, lPF, lX, lY, lZ, ls, ?_, ?_, ?_⟩
            · unfold fX8_multiple
              rw [eka, b6_s, if_neg (by decide), k3, b1_s, if_neg (by decide), if_pos (by rw [show (0 : Int32) = iI 0 from rfl, iI_lt (by omega) (by omega) (by omega) (by omega)]; omega)]
            · unfold fX9_multiple
              rw [eig, b20_s, if_neg (by decide), k4, b1_s, if_neg (by decide), w4, b1_s, if_pos (by decide)]
            · exact ⟨P, C, D, hp, eC, eD, ⟨rfl, hN⟩, ⟨rfl, rfl, rfl, rfl, rfl, rfl⟩, ⟨rfl, rfl, rfl, rfl, rfl, rfl⟩, ⟨rfl, rfl, rfl, rfl, rfl, rfl⟩, ⟨rfl, rfl, rfl, rfl, rfl, rfl⟩, ⟨rfl, rfl, rfl, rfl⟩, hW, (Or.inr ⟨rfl, hg, hAO⟩), hR, ⟨rfl, gC, gD⟩, (Or.inr (Or.inr ⟨rfl, rfl, hg, hLO⟩))⟩
          · refine ⟨(-2), 1, (iI (N : Nat)), (iI (cvn P (cu P C D) P : Nat)), aac, aup, (iI ((FL P C D).length : Nat)), g1, g2, g3, 1, 1, m_t_isNought, (iI ((PT P C).length : Nat)), m_t_sumT, m_t_sumY, lc, lk, lQ, lU, lV, lW, ln, lPF, lX, lY, lZ, ls, ?_, ?_, ?_⟩
            · unfold fX8_multiple
              rw [eka, b6_s, if_neg (by decide), k3, b1_s, if_neg (by decide), if_neg (by rw [show (0 : Int32) = iI 0 from rfl, iI_lt (by omega) (by omega) (by omega) (by omega)]; omega), if_neg (by rw [show (1 : Int32) = iI 1 from rfl, iI_le (by omega) (by omega) (by omega) (by omega)]; omega)]
            · unfold fX9_multiple
              rw [eig, b20_s, if_neg (by decide), k4, b1_s, if_neg (by decide), w4, b1_s, if_pos (by decide)]
            · exact ⟨P, C, D, hp, eC, eD, ⟨rfl, hN⟩, ⟨rfl, rfl, rfl, rfl, rfl, rfl⟩, ⟨rfl, rfl, rfl, rfl, rfl, rfl⟩, ⟨rfl, rfl, rfl, rfl, rfl, rfl⟩, ⟨rfl, rfl, rfl, rfl, rfl, rfl⟩, ⟨rfl, rfl, rfl, rfl⟩, hW, (Or.inr ⟨rfl, hg, hAO⟩), hR, ⟨rfl, gC, gD⟩, (Or.inr (Or.inr ⟨rfl, rfl, hg, hLO⟩))⟩
      · refine ⟨(-2), 1, (iI (N : Nat)), (iI (cvn P (cu P C D) P : Nat)), aac, aup, (iI ((FL P C D).length : Nat)), g1, g2, g3, 1, 1, m_t_isNought, (iI ((PT P C).length : Nat)), m_t_sumT, m_t_sumY, lc, lk, lQ, lU, lV, lW, ln, lPF, lX, lY, lZ, ls, ?_, ?_, ?_⟩
        · unfold fX8_multiple
          rw [eka, b6_s, if_neg (by decide), k3, b1_s, if_pos (by decide)]
        · unfold fX9_multiple
          rw [eig, b20_s, if_neg (by decide), k4, b1_s, if_pos (by decide)]
        · exact ⟨P, C, D, hp, eC, eD, ⟨rfl, hN⟩, ⟨rfl, rfl, rfl, rfl, rfl, rfl⟩, ⟨rfl, rfl, rfl, rfl, rfl, rfl⟩, ⟨rfl, rfl, rfl, rfl, rfl, rfl⟩, ⟨rfl, rfl, rfl, rfl, rfl, rfl⟩, ⟨rfl, rfl, rfl, rfl⟩, hW, (Or.inr ⟨rfl, hg, hAO⟩), hR, ⟨rfl, gC, gD⟩, (Or.inr (Or.inr ⟨rfl, rfl, hg, hLO⟩))⟩
    · exact absurd hg hg2
  · rcases e_ig hp eC eD gC gD hL m_t_formX m_t_formY m_t_formZ m_t_cofactor_r with ⟨hg2, -⟩ | ⟨-, lc, lk, eig⟩
    · exact absurd hg2 hg
    · refine ⟨(-5), c_t_addingKnown, c_t_adding_closing, c_t_adding_pointCount, c_t_adding_acrosses_r, c_t_adding_ups_r, m_t_flags, m_t_formX, m_t_formY, m_t_formZ, 0, 1, m_t_isNought, m_t_points, m_t_sumT, m_t_sumY, lc, lk, m_t_flagPoint_r, m_t_flagU_r, m_t_flagV_r, m_t_flagW_r, m_t_next_r, m_t_pointFlags_r, m_t_pointX_r, m_t_pointY_r, m_t_pointZ_r, m_t_series_r, ?_, ?_, ?_⟩
      · unfold fX8_multiple
        rw [eka, b6_s, if_pos (by decide)]
      · unfold fX9_multiple
        rw [eig, b20_s, if_pos (by decide)]
      · exact ⟨P, C, D, hp, eC, eD, ⟨rfl, hN⟩, ⟨rfl, rfl, rfl, rfl, rfl, rfl⟩, ⟨rfl, rfl, rfl, rfl, rfl, rfl⟩, ⟨rfl, rfl, rfl, rfl, rfl, rfl⟩, ⟨rfl, rfl, rfl, rfl, rfl, rfl⟩, ⟨rfl, rfl, rfl, rfl⟩, hW, hA, hR, ⟨rfl, gC, gD⟩, (Or.inr (Or.inl ⟨rfl, rfl, hg⟩))⟩
