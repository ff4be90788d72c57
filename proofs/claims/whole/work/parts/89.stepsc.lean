/-! steps of the law: points, flags, rings -/
set_option maxHeartbeats 2000000 in
set_option maxRecDepth 10000 in
theorem s_points : Step_points WInv := by
  intro c_t_walksKnown c_t_addingKnown c_t_rowKnown c_N_p c_N_inverses_r c_N_roots_r c_t_outer_a c_t_outer_b c_t_outer_c c_t_outer_d c_t_outer_e c_t_outer_f c_t_outerCofactors_a c_t_outerCofactors_b c_t_outerCofactors_c c_t_outerCofactors_d c_t_outerCofactors_e c_t_outerCofactors_f c_t_inner_a c_t_inner_b c_t_inner_c c_t_inner_d c_t_inner_e c_t_inner_f c_t_innerCofactors_a c_t_innerCofactors_b c_t_innerCofactors_c c_t_innerCofactors_d c_t_innerCofactors_e c_t_innerCofactors_f c_t_mixed_a c_t_mixed_b c_t_mixed_c c_t_mixed_d c_t_mixed_e c_t_mixed_f c_t_mixedCofactors_a c_t_mixedCofactors_b c_t_mixedCofactors_c c_t_mixedCofactors_d c_t_mixedCofactors_e c_t_mixedCofactors_f c_t_here_x c_t_here_y c_t_here_z c_t_there_x c_t_there_y c_t_there_z c_t_line_x c_t_line_y c_t_line_z c_t_pencil_c0 c_t_pencil_c1 c_t_pencil_c2 c_t_pencil_c3 c_t_walks_pointCount c_t_walks_flagCount c_t_walks_ringCount c_t_walks_pointKeys_r c_t_walks_firstFlags_r c_t_walks_flagPoints_r c_t_walks_flagLines_r c_t_walks_nexts_r c_t_walks_befores_r c_t_walks_walk_r c_t_walks_places_r c_t_walks_ringStarts_r c_t_walks_ringSizes_r c_t_walks_meeting_count c_t_walks_meeting_lower c_t_walks_meeting_upper c_t_walks_meeting_start_x c_t_walks_meeting_start_y c_t_walks_meeting_start_z c_t_walks_meeting_end_x c_t_walks_meeting_end_y c_t_walks_meeting_end_z c_t_walks_meeting_found_x c_t_walks_meeting_found_y c_t_walks_meeting_found_z c_t_walks_level_x c_t_walks_level_y c_t_walks_level_z c_t_adding_closing c_t_adding_pointCount c_t_adding_acrosses_r c_t_adding_ups_r c_t_row_parts_r c_t_row_square_r m_t_p m_t_isLaid m_t_isGood m_t_points m_t_flags m_t_formX m_t_formY m_t_formZ m_t_isNought m_t_sumT m_t_sumY m_t_given_r m_t_c_r m_t_pointX_r m_t_pointY_r m_t_pointZ_r m_t_pointFlags_r m_t_flagPoint_r m_t_flagU_r m_t_flagV_r m_t_flagW_r m_t_next_r m_t_series_r m_t_mix_r m_t_cofactor_r m_t_square_r hI
  obtain ⟨P, C, D, hp, eC, eD, ⟨rfl, hN⟩, ⟨rfl, rfl, rfl, rfl, rfl, rfl⟩, ⟨rfl, rfl, rfl, rfl, rfl, rfl⟩, ⟨rfl, rfl, rfl, rfl, rfl, rfl⟩, ⟨rfl, rfl, rfl, rfl, rfl, rfl⟩, ⟨rfl, rfl, rfl, rfl⟩, hW, hA, hR, ⟨rfl, gC, gD⟩, hL⟩ := hI
  have := nz_of hp
  have hb := pr_rng hp
  rcases e_kw hp hN eC eD hW c_t_walks_level_x c_t_walks_level_y c_t_walks_level_z c_t_walks_meeting_count c_t_walks_meeting_lower c_t_walks_meeting_upper c_t_walks_meeting_end_x c_t_walks_meeting_end_y c_t_walks_meeting_end_z c_t_walks_meeting_found_x c_t_walks_meeting_found_y c_t_walks_meeting_found_z c_t_walks_meeting_start_x c_t_walks_meeting_start_y c_t_walks_meeting_start_z with ⟨hg, fc, pc, rc, kw0, kw1, kw2, kw3, kw4, kw5, kw6, kw7, kw8, kw9, sl, hWO, ekw⟩ | ⟨hg, ekw⟩
  · rcases e_ig hp eC eD gC gD hL m_t_formX m_t_formY m_t_formZ m_t_cofactor_r with ⟨-, lp, lf, g1, g2, g3, lc, lX, lY, lZ, lPF, lQ, lU, lV, lW, ln, ls, lk, hLO, eig⟩ | ⟨hg2, -⟩
    · obtain ⟨rfl, rfl, rfl, v4, v5, v6, v7, v8, v9⟩ := id hWO
      obtain ⟨rfl, rfl, q3, qX, qY, qZ, qPF, qT, qn, qs⟩ := id hLO
      obtain ⟨hC, hD, l1, l2, ok, hper, hsur⟩ := gd_f hp eC hg
      refine ⟨(iI ((PT P C).length : Nat)), 1, (iI ((FL P C D).length : Nat)), (iI ((PT P C).length : Nat)), (iI (((List.range (FL P C D).length).filter (lst (NX P C D) (FL P C D).length)).length : Nat)), kw0, kw1, kw2, kw3, (sl 0), (sl 1), (sl 2), (sl 3), (sl 4), (sl 5), (sl 6), (sl 7), (sl 8), (sl 9), (sl 10), (sl 11), (sl 12), (sl 13), (sl 14), kw4, kw5, kw6, kw7, kw8, kw9, (iI ((FL P C D).length : Nat)), g1, g2, g3, 1, 1, (iI ((PT P C).length : Nat)), lc, lk, lQ, lU, lV, lW, ln, lPF, lX, lY, lZ, ls, ?_, ?_, ?_⟩
      · unfold fX8_points fX5_countPoints
        rw [ekw, b30_s, if_neg (by decide), b1_s]
      · unfold fX9_points
        rw [eig, b20_s, if_neg (by decide)]
      · exact ⟨P, C, D, hp, eC, eD, ⟨rfl, hN⟩, ⟨rfl, rfl, rfl, rfl, rfl, rfl⟩, ⟨rfl, rfl, rfl, rfl, rfl, rfl⟩, ⟨rfl, rfl, rfl, rfl, rfl, rfl⟩, ⟨rfl, rfl, rfl, rfl, rfl, rfl⟩, ⟨rfl, rfl, rfl, rfl⟩, (Or.inr ⟨rfl, hg, hWO⟩), hA, hR, ⟨rfl, gC, gD⟩, (Or.inr (Or.inr ⟨rfl, rfl, hg, hLO⟩))⟩
    · exact absurd hg hg2
  · rcases e_ig hp eC eD gC gD hL m_t_formX m_t_formY m_t_formZ m_t_cofactor_r with ⟨hg2, -⟩ | ⟨-, lc, lk, eig⟩
    · exact absurd hg2 hg
    · refine ⟨(-5), c_t_walksKnown, c_t_walks_flagCount, c_t_walks_pointCount, c_t_walks_ringCount, c_t_walks_befores_r, c_t_walks_firstFlags_r, c_t_walks_flagLines_r, c_t_walks_flagPoints_r, c_t_walks_level_x, c_t_walks_level_y, c_t_walks_level_z, c_t_walks_meeting_count, c_t_walks_meeting_lower, c_t_walks_meeting_upper, c_t_walks_meeting_end_x, c_t_walks_meeting_end_y, c_t_walks_meeting_end_z, c_t_walks_meeting_found_x, c_t_walks_meeting_found_y, c_t_walks_meeting_found_z, c_t_walks_meeting_start_x, c_t_walks_meeting_start_y, c_t_walks_meeting_start_z, c_t_walks_nexts_r, c_t_walks_places_r, c_t_walks_pointKeys_r, c_t_walks_ringSizes_r, c_t_walks_ringStarts_r, c_t_walks_walk_r, m_t_flags, m_t_formX, m_t_formY, m_t_formZ, 0, 1, m_t_points, lc, lk, m_t_flagPoint_r, m_t_flagU_r, m_t_flagV_r, m_t_flagW_r, m_t_next_r, m_t_pointFlags_r, m_t_pointX_r, m_t_pointY_r, m_t_pointZ_r, m_t_series_r, ?_, ?_, ?_⟩
      · unfold fX8_points
        rw [ekw, b30_s, if_pos (by decide)]
      · unfold fX9_points
        rw [eig, b20_s, if_pos (by decide)]
      · exact ⟨P, C, D, hp, eC, eD, ⟨rfl, hN⟩, ⟨rfl, rfl, rfl, rfl, rfl, rfl⟩, ⟨rfl, rfl, rfl, rfl, rfl, rfl⟩, ⟨rfl, rfl, rfl, rfl, rfl, rfl⟩, ⟨rfl, rfl, rfl, rfl, rfl, rfl⟩, ⟨rfl, rfl, rfl, rfl⟩, hW, hA, hR, ⟨rfl, gC, gD⟩, (Or.inr (Or.inl ⟨rfl, rfl, hg⟩))⟩
set_option maxHeartbeats 2000000 in
set_option maxRecDepth 10000 in
theorem s_flags : Step_flags WInv := by
  intro c_t_walksKnown c_t_addingKnown c_t_rowKnown c_N_p c_N_inverses_r c_N_roots_r c_t_outer_a c_t_outer_b c_t_outer_c c_t_outer_d c_t_outer_e c_t_outer_f c_t_outerCofactors_a c_t_outerCofactors_b c_t_outerCofactors_c c_t_outerCofactors_d c_t_outerCofactors_e c_t_outerCofactors_f c_t_inner_a c_t_inner_b c_t_inner_c c_t_inner_d c_t_inner_e c_t_inner_f c_t_innerCofactors_a c_t_innerCofactors_b c_t_innerCofactors_c c_t_innerCofactors_d c_t_innerCofactors_e c_t_innerCofactors_f c_t_mixed_a c_t_mixed_b c_t_mixed_c c_t_mixed_d c_t_mixed_e c_t_mixed_f c_t_mixedCofactors_a c_t_mixedCofactors_b c_t_mixedCofactors_c c_t_mixedCofactors_d c_t_mixedCofactors_e c_t_mixedCofactors_f c_t_here_x c_t_here_y c_t_here_z c_t_there_x c_t_there_y c_t_there_z c_t_line_x c_t_line_y c_t_line_z c_t_pencil_c0 c_t_pencil_c1 c_t_pencil_c2 c_t_pencil_c3 c_t_walks_pointCount c_t_walks_flagCount c_t_walks_ringCount c_t_walks_pointKeys_r c_t_walks_firstFlags_r c_t_walks_flagPoints_r c_t_walks_flagLines_r c_t_walks_nexts_r c_t_walks_befores_r c_t_walks_walk_r c_t_walks_places_r c_t_walks_ringStarts_r c_t_walks_ringSizes_r c_t_walks_meeting_count c_t_walks_meeting_lower c_t_walks_meeting_upper c_t_walks_meeting_start_x c_t_walks_meeting_start_y c_t_walks_meeting_start_z c_t_walks_meeting_end_x c_t_walks_meeting_end_y c_t_walks_meeting_end_z c_t_walks_meeting_found_x c_t_walks_meeting_found_y c_t_walks_meeting_found_z c_t_walks_level_x c_t_walks_level_y c_t_walks_level_z c_t_adding_closing c_t_adding_pointCount c_t_adding_acrosses_r c_t_adding_ups_r c_t_row_parts_r c_t_row_square_r m_t_p m_t_isLaid m_t_isGood m_t_points m_t_flags m_t_formX m_t_formY m_t_formZ m_t_isNought m_t_sumT m_t_sumY m_t_given_r m_t_c_r m_t_pointX_r m_t_pointY_r m_t_pointZ_r m_t_pointFlags_r m_t_flagPoint_r m_t_flagU_r m_t_flagV_r m_t_flagW_r m_t_next_r m_t_series_r m_t_mix_r m_t_cofactor_r m_t_square_r hI
  obtain ⟨P, C, D, hp, eC, eD, ⟨rfl, hN⟩, ⟨rfl, rfl, rfl, rfl, rfl, rfl⟩, ⟨rfl, rfl, rfl, rfl, rfl, rfl⟩, ⟨rfl, rfl, rfl, rfl, rfl, rfl⟩, ⟨rfl, rfl, rfl, rfl, rfl, rfl⟩, ⟨rfl, rfl, rfl, rfl⟩, hW, hA, hR, ⟨rfl, gC, gD⟩, hL⟩ := hI
  have := nz_of hp
  have hb := pr_rng hp
  rcases e_kw hp hN eC eD hW c_t_walks_level_x c_t_walks_level_y c_t_walks_level_z c_t_walks_meeting_count c_t_walks_meeting_lower c_t_walks_meeting_upper c_t_walks_meeting_end_x c_t_walks_meeting_end_y c_t_walks_meeting_end_z c_t_walks_meeting_found_x c_t_walks_meeting_found_y c_t_walks_meeting_found_z c_t_walks_meeting_start_x c_t_walks_meeting_start_y c_t_walks_meeting_start_z with ⟨hg, fc, pc, rc, kw0, kw1, kw2, kw3, kw4, kw5, kw6, kw7, kw8, kw9, sl, hWO, ekw⟩ | ⟨hg, ekw⟩
  · rcases e_ig hp eC eD gC gD hL m_t_formX m_t_formY m_t_formZ m_t_cofactor_r with ⟨-, lp, lf, g1, g2, g3, lc, lX, lY, lZ, lPF, lQ, lU, lV, lW, ln, ls, lk, hLO, eig⟩ | ⟨hg2, -⟩
    · obtain ⟨rfl, rfl, rfl, v4, v5, v6, v7, v8, v9⟩ := id hWO
      obtain ⟨rfl, rfl, q3, qX, qY, qZ, qPF, qT, qn, qs⟩ := id hLO
      obtain ⟨hC, hD, l1, l2, ok, hper, hsur⟩ := gd_f hp eC hg
      refine ⟨(iI ((FL P C D).length : Nat)), 1, (iI ((FL P C D).length : Nat)), (iI ((PT P C).length : Nat)), (iI (((List.range (FL P C D).length).filter (lst (NX P C D) (FL P C D).length)).length : Nat)), kw0, kw1, kw2, kw3, (sl 0), (sl 1), (sl 2), (sl 3), (sl 4), (sl 5), (sl 6), (sl 7), (sl 8), (sl 9), (sl 10), (sl 11), (sl 12), (sl 13), (sl 14), kw4, kw5, kw6, kw7, kw8, kw9, (iI ((FL P C D).length : Nat)), g1, g2, g3, 1, 1, (iI ((PT P C).length : Nat)), lc, lk, lQ, lU, lV, lW, ln, lPF, lX, lY, lZ, ls, ?_, ?_, ?_⟩
      · unfold fX8_flags fX5_countFlags
        rw [ekw, b30_s, if_neg (by decide), b1_s]
      · unfold fX9_flags
        rw [eig, b20_s, if_neg (by decide)]
      · exact ⟨P, C, D, hp, eC, eD, ⟨rfl, hN⟩, ⟨rfl, rfl, rfl, rfl, rfl, rfl⟩, ⟨rfl, rfl, rfl, rfl, rfl, rfl⟩, ⟨rfl, rfl, rfl, rfl, rfl, rfl⟩, ⟨rfl, rfl, rfl, rfl, rfl, rfl⟩, ⟨rfl, rfl, rfl, rfl⟩, (Or.inr ⟨rfl, hg, hWO⟩), hA, hR, ⟨rfl, gC, gD⟩, (Or.inr (Or.inr ⟨rfl, rfl, hg, hLO⟩))⟩
    · exact absurd hg hg2
  · rcases e_ig hp eC eD gC gD hL m_t_formX m_t_formY m_t_formZ m_t_cofactor_r with ⟨hg2, -⟩ | ⟨-, lc, lk, eig⟩
    · exact absurd hg2 hg
    · refine ⟨(-5), c_t_walksKnown, c_t_walks_flagCount, c_t_walks_pointCount, c_t_walks_ringCount, c_t_walks_befores_r, c_t_walks_firstFlags_r, c_t_walks_flagLines_r, c_t_walks_flagPoints_r, c_t_walks_level_x, c_t_walks_level_y, c_t_walks_level_z, c_t_walks_meeting_count, c_t_walks_meeting_lower, c_t_walks_meeting_upper, c_t_walks_meeting_end_x, c_t_walks_meeting_end_y, c_t_walks_meeting_end_z, c_t_walks_meeting_found_x, c_t_walks_meeting_found_y, c_t_walks_meeting_found_z, c_t_walks_meeting_start_x, c_t_walks_meeting_start_y, c_t_walks_meeting_start_z, c_t_walks_nexts_r, c_t_walks_places_r, c_t_walks_pointKeys_r, c_t_walks_ringSizes_r, c_t_walks_ringStarts_r, c_t_walks_walk_r, m_t_flags, m_t_formX, m_t_formY, m_t_formZ, 0, 1, m_t_points, lc, lk, m_t_flagPoint_r, m_t_flagU_r, m_t_flagV_r, m_t_flagW_r, m_t_next_r, m_t_pointFlags_r, m_t_pointX_r, m_t_pointY_r, m_t_pointZ_r, m_t_series_r, ?_, ?_, ?_⟩
      · unfold fX8_flags
        rw [ekw, b30_s, if_pos (by decide)]
      · unfold fX9_flags
        rw [eig, b20_s, if_pos (by decide)]
      · exact ⟨P, C, D, hp, eC, eD, ⟨rfl, hN⟩, ⟨rfl, rfl, rfl, rfl, rfl, rfl⟩, ⟨rfl, rfl, rfl, rfl, rfl, rfl⟩, ⟨rfl, rfl, rfl, rfl, rfl, rfl⟩, ⟨rfl, rfl, rfl, rfl, rfl, rfl⟩, ⟨rfl, rfl, rfl, rfl⟩, hW, hA, hR, ⟨rfl, gC, gD⟩, (Or.inr (Or.inl ⟨rfl, rfl, hg⟩))⟩
set_option maxHeartbeats 2000000 in
set_option maxRecDepth 10000 in
theorem s_rings : Step_rings WInv := by
  intro c_t_walksKnown c_t_addingKnown c_t_rowKnown c_N_p c_N_inverses_r c_N_roots_r c_t_outer_a c_t_outer_b c_t_outer_c c_t_outer_d c_t_outer_e c_t_outer_f c_t_outerCofactors_a c_t_outerCofactors_b c_t_outerCofactors_c c_t_outerCofactors_d c_t_outerCofactors_e c_t_outerCofactors_f c_t_inner_a c_t_inner_b c_t_inner_c c_t_inner_d c_t_inner_e c_t_inner_f c_t_innerCofactors_a c_t_innerCofactors_b c_t_innerCofactors_c c_t_innerCofactors_d c_t_innerCofactors_e c_t_innerCofactors_f c_t_mixed_a c_t_mixed_b c_t_mixed_c c_t_mixed_d c_t_mixed_e c_t_mixed_f c_t_mixedCofactors_a c_t_mixedCofactors_b c_t_mixedCofactors_c c_t_mixedCofactors_d c_t_mixedCofactors_e c_t_mixedCofactors_f c_t_here_x c_t_here_y c_t_here_z c_t_there_x c_t_there_y c_t_there_z c_t_line_x c_t_line_y c_t_line_z c_t_pencil_c0 c_t_pencil_c1 c_t_pencil_c2 c_t_pencil_c3 c_t_walks_pointCount c_t_walks_flagCount c_t_walks_ringCount c_t_walks_pointKeys_r c_t_walks_firstFlags_r c_t_walks_flagPoints_r c_t_walks_flagLines_r c_t_walks_nexts_r c_t_walks_befores_r c_t_walks_walk_r c_t_walks_places_r c_t_walks_ringStarts_r c_t_walks_ringSizes_r c_t_walks_meeting_count c_t_walks_meeting_lower c_t_walks_meeting_upper c_t_walks_meeting_start_x c_t_walks_meeting_start_y c_t_walks_meeting_start_z c_t_walks_meeting_end_x c_t_walks_meeting_end_y c_t_walks_meeting_end_z c_t_walks_meeting_found_x c_t_walks_meeting_found_y c_t_walks_meeting_found_z c_t_walks_level_x c_t_walks_level_y c_t_walks_level_z c_t_adding_closing c_t_adding_pointCount c_t_adding_acrosses_r c_t_adding_ups_r c_t_row_parts_r c_t_row_square_r m_t_p m_t_isLaid m_t_isGood m_t_points m_t_flags m_t_formX m_t_formY m_t_formZ m_t_isNought m_t_sumT m_t_sumY m_t_given_r m_t_c_r m_t_pointX_r m_t_pointY_r m_t_pointZ_r m_t_pointFlags_r m_t_flagPoint_r m_t_flagU_r m_t_flagV_r m_t_flagW_r m_t_next_r m_t_series_r m_t_mix_r m_t_cofactor_r m_t_square_r hI
  obtain ⟨P, C, D, hp, eC, eD, ⟨rfl, hN⟩, ⟨rfl, rfl, rfl, rfl, rfl, rfl⟩, ⟨rfl, rfl, rfl, rfl, rfl, rfl⟩, ⟨rfl, rfl, rfl, rfl, rfl, rfl⟩, ⟨rfl, rfl, rfl, rfl, rfl, rfl⟩, ⟨rfl, rfl, rfl, rfl⟩, hW, hA, hR, ⟨rfl, gC, gD⟩, hL⟩ := hI
  have := nz_of hp
  have hb := pr_rng hp
  rcases e_kw hp hN eC eD hW c_t_walks_level_x c_t_walks_level_y c_t_walks_level_z c_t_walks_meeting_count c_t_walks_meeting_lower c_t_walks_meeting_upper c_t_walks_meeting_end_x c_t_walks_meeting_end_y c_t_walks_meeting_end_z c_t_walks_meeting_found_x c_t_walks_meeting_found_y c_t_walks_meeting_found_z c_t_walks_meeting_start_x c_t_walks_meeting_start_y c_t_walks_meeting_start_z with ⟨hg, fc, pc, rc, kw0, kw1, kw2, kw3, kw4, kw5, kw6, kw7, kw8, kw9, sl, hWO, ekw⟩ | ⟨hg, ekw⟩
  · rcases e_ig hp eC eD gC gD hL m_t_formX m_t_formY m_t_formZ m_t_cofactor_r with ⟨-, lp, lf, g1, g2, g3, lc, lX, lY, lZ, lPF, lQ, lU, lV, lW, ln, ls, lk, hLO, eig⟩ | ⟨hg2, -⟩
    · obtain ⟨rfl, rfl, rfl, v4, v5, v6, v7, v8, v9⟩ := id hWO
      obtain ⟨rfl, rfl, q3, qX, qY, qZ, qPF, qT, qn, qs⟩ := id hLO
      obtain ⟨hC, hD, l1, l2, ok, hper, hsur⟩ := gd_f hp eC hg
      refine ⟨(iI (((List.range (FL P C D).length).filter (lst (NX P C D) (FL P C D).length)).length : Nat)), 1, (iI ((FL P C D).length : Nat)), (iI ((PT P C).length : Nat)), (iI (((List.range (FL P C D).length).filter (lst (NX P C D) (FL P C D).length)).length : Nat)), kw0, kw1, kw2, kw3, (sl 0), (sl 1), (sl 2), (sl 3), (sl 4), (sl 5), (sl 6), (sl 7), (sl 8), (sl 9), (sl 10), (sl 11), (sl 12), (sl 13), (sl 14), kw4, kw5, kw6, kw7, kw8, kw9, (iI ((FL P C D).length : Nat)), g1, g2, g3, 1, 1, (iI ((PT P C).length : Nat)), lc, lk, lQ, lU, lV, lW, ln, lPF, lX, lY, lZ, ls, ?_, ?_, ?_⟩
      · unfold fX8_rings fX5_countRings
        rw [ekw, b30_s, if_neg (by decide), b1_s]
      · unfold fX9_rings
        rw [eig, b20_s, if_neg (by decide), e_rings9 l2 hper qn]
        rfl
      · exact ⟨P, C, D, hp, eC, eD, ⟨rfl, hN⟩, ⟨rfl, rfl, rfl, rfl, rfl, rfl⟩, ⟨rfl, rfl, rfl, rfl, rfl, rfl⟩, ⟨rfl, rfl, rfl, rfl, rfl, rfl⟩, ⟨rfl, rfl, rfl, rfl, rfl, rfl⟩, ⟨rfl, rfl, rfl, rfl⟩, (Or.inr ⟨rfl, hg, hWO⟩), hA, hR, ⟨rfl, gC, gD⟩, (Or.inr (Or.inr ⟨rfl, rfl, hg, hLO⟩))⟩
    · exact absurd hg hg2
  · rcases e_ig hp eC eD gC gD hL m_t_formX m_t_formY m_t_formZ m_t_cofactor_r with ⟨hg2, -⟩ | ⟨-, lc, lk, eig⟩
    · exact absurd hg2 hg
    · refine ⟨(-5), c_t_walksKnown, c_t_walks_flagCount, c_t_walks_pointCount, c_t_walks_ringCount, c_t_walks_befores_r, c_t_walks_firstFlags_r, c_t_walks_flagLines_r, c_t_walks_flagPoints_r, c_t_walks_level_x, c_t_walks_level_y, c_t_walks_level_z, c_t_walks_meeting_count, c_t_walks_meeting_lower, c_t_walks_meeting_upper, c_t_walks_meeting_end_x, c_t_walks_meeting_end_y, c_t_walks_meeting_end_z, c_t_walks_meeting_found_x, c_t_walks_meeting_found_y, c_t_walks_meeting_found_z, c_t_walks_meeting_start_x, c_t_walks_meeting_start_y, c_t_walks_meeting_start_z, c_t_walks_nexts_r, c_t_walks_places_r, c_t_walks_pointKeys_r, c_t_walks_ringSizes_r, c_t_walks_ringStarts_r, c_t_walks_walk_r, m_t_flags, m_t_formX, m_t_formY, m_t_formZ, 0, 1, m_t_points, lc, lk, m_t_flagPoint_r, m_t_flagU_r, m_t_flagV_r, m_t_flagW_r, m_t_next_r, m_t_pointFlags_r, m_t_pointX_r, m_t_pointY_r, m_t_pointZ_r, m_t_series_r, ?_, ?_, ?_⟩
      · unfold fX8_rings
        rw [ekw, b30_s, if_pos (by decide)]
      · unfold fX9_rings
        rw [eig, b20_s, if_pos (by decide)]
      · exact ⟨P, C, D, hp, eC, eD, ⟨rfl, hN⟩, ⟨rfl, rfl, rfl, rfl, rfl, rfl⟩, ⟨rfl, rfl, rfl, rfl, rfl, rfl⟩, ⟨rfl, rfl, rfl, rfl, rfl, rfl⟩, ⟨rfl, rfl, rfl, rfl, rfl, rfl⟩, ⟨rfl, rfl, rfl, rfl⟩, hW, hA, hR, ⟨rfl, gC, gD⟩, (Or.inr (Or.inl ⟨rfl, rfl, hg⟩))⟩
set_option maxHeartbeats 2000000 in
set_option maxRecDepth 10000 in
theorem s_ring : Step_ring WInv := by
  intro c_t_walksKnown c_t_addingKnown c_t_rowKnown c_N_p c_N_inverses_r c_N_roots_r c_t_outer_a c_t_outer_b c_t_outer_c c_t_outer_d c_t_outer_e c_t_outer_f c_t_outerCofactors_a c_t_outerCofactors_b c_t_outerCofactors_c c_t_outerCofactors_d c_t_outerCofactors_e c_t_outerCofactors_f c_t_inner_a c_t_inner_b c_t_inner_c c_t_inner_d c_t_inner_e c_t_inner_f c_t_innerCofactors_a c_t_innerCofactors_b c_t_innerCofactors_c c_t_innerCofactors_d c_t_innerCofactors_e c_t_innerCofactors_f c_t_mixed_a c_t_mixed_b c_t_mixed_c c_t_mixed_d c_t_mixed_e c_t_mixed_f c_t_mixedCofactors_a c_t_mixedCofactors_b c_t_mixedCofactors_c c_t_mixedCofactors_d c_t_mixedCofactors_e c_t_mixedCofactors_f c_t_here_x c_t_here_y c_t_here_z c_t_there_x c_t_there_y c_t_there_z c_t_line_x c_t_line_y c_t_line_z c_t_pencil_c0 c_t_pencil_c1 c_t_pencil_c2 c_t_pencil_c3 c_t_walks_pointCount c_t_walks_flagCount c_t_walks_ringCount c_t_walks_pointKeys_r c_t_walks_firstFlags_r c_t_walks_flagPoints_r c_t_walks_flagLines_r c_t_walks_nexts_r c_t_walks_befores_r c_t_walks_walk_r c_t_walks_places_r c_t_walks_ringStarts_r c_t_walks_ringSizes_r c_t_walks_meeting_count c_t_walks_meeting_lower c_t_walks_meeting_upper c_t_walks_meeting_start_x c_t_walks_meeting_start_y c_t_walks_meeting_start_z c_t_walks_meeting_end_x c_t_walks_meeting_end_y c_t_walks_meeting_end_z c_t_walks_meeting_found_x c_t_walks_meeting_found_y c_t_walks_meeting_found_z c_t_walks_level_x c_t_walks_level_y c_t_walks_level_z c_t_adding_closing c_t_adding_pointCount c_t_adding_acrosses_r c_t_adding_ups_r c_t_row_parts_r c_t_row_square_r m_t_p m_t_isLaid m_t_isGood m_t_points m_t_flags m_t_formX m_t_formY m_t_formZ m_t_isNought m_t_sumT m_t_sumY m_t_given_r m_t_c_r m_t_pointX_r m_t_pointY_r m_t_pointZ_r m_t_pointFlags_r m_t_flagPoint_r m_t_flagU_r m_t_flagV_r m_t_flagW_r m_t_next_r m_t_series_r m_t_mix_r m_t_cofactor_r m_t_square_r i1 hI
  obtain ⟨P, C, D, hp, eC, eD, ⟨rfl, hN⟩, ⟨rfl, rfl, rfl, rfl, rfl, rfl⟩, ⟨rfl, rfl, rfl, rfl, rfl, rfl⟩, ⟨rfl, rfl, rfl, rfl, rfl, rfl⟩, ⟨rfl, rfl, rfl, rfl, rfl, rfl⟩, ⟨rfl, rfl, rfl, rfl⟩, hW, hA, hR, ⟨rfl, gC, gD⟩, hL⟩ := hI
  have := nz_of hp
  have hb := pr_rng hp
  rcases e_kw hp hN eC eD hW c_t_walks_level_x c_t_walks_level_y c_t_walks_level_z c_t_walks_meeting_count c_t_walks_meeting_lower c_t_walks_meeting_upper c_t_walks_meeting_end_x c_t_walks_meeting_end_y c_t_walks_meeting_end_z c_t_walks_meeting_found_x c_t_walks_meeting_found_y c_t_walks_meeting_found_z c_t_walks_meeting_start_x c_t_walks_meeting_start_y c_t_walks_meeting_start_z with ⟨hg, fc, pc, rc, kw0, kw1, kw2, kw3, kw4, kw5, kw6, kw7, kw8, kw9, sl, hWO, ekw⟩ | ⟨hg, ekw⟩
  · rcases e_ig hp eC eD gC gD hL m_t_formX m_t_formY m_t_formZ m_t_cofactor_r with ⟨-, lp, lf, g1, g2, g3, lc, lX, lY, lZ, lPF, lQ, lU, lV, lW, ln, ls, lk, hLO, eig⟩ | ⟨hg2, -⟩
    · obtain ⟨rfl, rfl, rfl, v4, v5, v6, v7, v8, v9⟩ := id hWO
      obtain ⟨rfl, rfl, q3, qX, qY, qZ, qPF, qT, qn, qs⟩ := id hLO
      obtain ⟨hC, hD, l1, l2, ok, hper, hsur⟩ := gd_f hp eC hg
      rcases flag_c (FL P C D).length (by omega) i1 with ⟨f, hf, rfl, f3, f4⟩ | ⟨f3, f4⟩
      · obtain ⟨r, r1, r2, r3⟩ := e_ringOf l2 v9 hf
        have r4 := e_ringOf9 l2 hper qn hf r1 r2
        refine ⟨(iI (r : Nat)), 1, (iI ((FL P C D).length : Nat)), (iI ((PT P C).length : Nat)), (iI (((List.range (FL P C D).length).filter (lst (NX P C D) (FL P C D).length)).length : Nat)), kw0, kw1, kw2, kw3, (sl 0), (sl 1), (sl 2), (sl 3), (sl 4), (sl 5), (sl 6), (sl 7), (sl 8), (sl 9), (sl 10), (sl 11), (sl 12), (sl 13), (sl 14), kw4, kw5, kw6, kw7, kw8, kw9, (iI ((FL P C D).length : Nat)), g1, g2, g3, 1, 1, (iI ((PT P C).length : Nat)), lc, lk, lQ, lU, lV, lW, ln, lPF, lX, lY, lZ, ls, ?_, ?_, ?_⟩
        · unfold fX8_ring
          rw [ekw, b30_s, if_neg (by decide), f3, b1_s, if_neg (by decide), r3, b1_s]
        · unfold fX9_ring
          rw [eig, b20_s, if_neg (by decide), f4, b1_s, if_neg (by decide), r4, b1_s]
        · exact ⟨P, C, D, hp, eC, eD, ⟨rfl, hN⟩, ⟨rfl, rfl, rfl, rfl, rfl, rfl⟩, ⟨rfl, rfl, rfl, rfl, rfl, rfl⟩, ⟨rfl, rfl, rfl, rfl, rfl, rfl⟩, ⟨rfl, rfl, rfl, rfl, rfl, rfl⟩, ⟨rfl, rfl, rfl, rfl⟩, (Or.inr ⟨rfl, hg, hWO⟩), hA, hR, ⟨rfl, gC, gD⟩, (Or.inr (Or.inr ⟨rfl, rfl, hg, hLO⟩))⟩
      · refine ⟨(-1), 1, (iI ((FL P C D).length : Nat)), (iI ((PT P C).length : Nat)), (iI (((List.range (FL P C D).length).filter (lst (NX P C D) (FL P C D).length)).length : Nat)), kw0, kw1, kw2, kw3, (sl 0), (sl 1), (sl 2), (sl 3), (sl 4), (sl 5), (sl 6), (sl 7), (sl 8), (sl 9), (sl 10), (sl 11), (sl 12), (sl 13), (sl 14), kw4, kw5, kw6, kw7, kw8, kw9, (iI ((FL P C D).length : Nat)), g1, g2, g3, 1, 1, (iI ((PT P C).length : Nat)), lc, lk, lQ, lU, lV, lW, ln, lPF, lX, lY, lZ, ls, ?_, ?_, ?_⟩
        · unfold fX8_ring
          rw [ekw, b30_s, if_neg (by decide), f3, b1_s, if_pos (by decide)]
        · unfold fX9_ring
          rw [eig, b20_s, if_neg (by decide), f4, b1_s, if_pos (by decide)]
        · exact ⟨P, C, D, hp, eC, eD, ⟨rfl, hN⟩, ⟨rfl, rfl, rfl, rfl, rfl, rfl⟩, ⟨rfl, rfl, rfl, rfl, rfl, rfl⟩, ⟨rfl, rfl, rfl, rfl, rfl, rfl⟩, ⟨rfl, rfl, rfl, rfl, rfl, rfl⟩, ⟨rfl, rfl, rfl, rfl⟩, (Or.inr ⟨rfl, hg, hWO⟩), hA, hR, ⟨rfl, gC, gD⟩, (Or.inr (Or.inr ⟨rfl, rfl, hg, hLO⟩))⟩
    · exact absurd hg hg2
  · rcases e_ig hp eC eD gC gD hL m_t_formX m_t_formY m_t_formZ m_t_cofactor_r with ⟨hg2, -⟩ | ⟨-, lc, lk, eig⟩
    · exact absurd hg2 hg
    · refine ⟨(-5), c_t_walksKnown, c_t_walks_flagCount, c_t_walks_pointCount, c_t_walks_ringCount, c_t_walks_befores_r, c_t_walks_firstFlags_r, c_t_walks_flagLines_r, c_t_walks_flagPoints_r, c_t_walks_level_x, c_t_walks_level_y, c_t_walks_level_z, c_t_walks_meeting_count, c_t_walks_meeting_lower, c_t_walks_meeting_upper, c_t_walks_meeting_end_x, c_t_walks_meeting_end_y, c_t_walks_meeting_end_z, c_t_walks_meeting_found_x, c_t_walks_meeting_found_y, c_t_walks_meeting_found_z, c_t_walks_meeting_start_x, c_t_walks_meeting_start_y, c_t_walks_meeting_start_z, c_t_walks_nexts_r, c_t_walks_places_r, c_t_walks_pointKeys_r, c_t_walks_ringSizes_r, c_t_walks_ringStarts_r, c_t_walks_walk_r, m_t_flags, m_t_formX, m_t_formY, m_t_formZ, 0, 1, m_t_points, lc, lk, m_t_flagPoint_r, m_t_flagU_r, m_t_flagV_r, m_t_flagW_r, m_t_next_r, m_t_pointFlags_r, m_t_pointX_r, m_t_pointY_r, m_t_pointZ_r, m_t_series_r, ?_, ?_, ?_⟩
      · unfold fX8_ring
        rw [ekw, b30_s, if_pos (by decide)]
      · unfold fX9_ring
        rw [eig, b20_s, if_pos (by decide)]
      · exact ⟨P, C, D, hp, eC, eD, ⟨rfl, hN⟩, ⟨rfl, rfl, rfl, rfl, rfl, rfl⟩, ⟨rfl, rfl, rfl, rfl, rfl, rfl⟩, ⟨rfl, rfl, rfl, rfl, rfl, rfl⟩, ⟨rfl, rfl, rfl, rfl, rfl, rfl⟩, ⟨rfl, rfl, rfl, rfl⟩, hW, hA, hR, ⟨rfl, gC, gD⟩, (Or.inr (Or.inl ⟨rfl, rfl, hg⟩))⟩
set_option maxHeartbeats 2000000 in
set_option maxRecDepth 10000 in
theorem s_go : Step_go WInv := by
  intro c_t_walksKnown c_t_addingKnown c_t_rowKnown c_N_p c_N_inverses_r c_N_roots_r c_t_outer_a c_t_outer_b c_t_outer_c c_t_outer_d c_t_outer_e c_t_outer_f c_t_outerCofactors_a c_t_outerCofactors_b c_t_outerCofactors_c c_t_outerCofactors_d c_t_outerCofactors_e c_t_outerCofactors_f c_t_inner_a c_t_inner_b c_t_inner_c c_t_inner_d c_t_inner_e c_t_inner_f c_t_innerCofactors_a c_t_innerCofactors_b c_t_innerCofactors_c c_t_innerCofactors_d c_t_innerCofactors_e c_t_innerCofactors_f c_t_mixed_a c_t_mixed_b c_t_mixed_c c_t_mixed_d c_t_mixed_e c_t_mixed_f c_t_mixedCofactors_a c_t_mixedCofactors_b c_t_mixedCofactors_c c_t_mixedCofactors_d c_t_mixedCofactors_e c_t_mixedCofactors_f c_t_here_x c_t_here_y c_t_here_z c_t_there_x c_t_there_y c_t_there_z c_t_line_x c_t_line_y c_t_line_z c_t_pencil_c0 c_t_pencil_c1 c_t_pencil_c2 c_t_pencil_c3 c_t_walks_pointCount c_t_walks_flagCount c_t_walks_ringCount c_t_walks_pointKeys_r c_t_walks_firstFlags_r c_t_walks_flagPoints_r c_t_walks_flagLines_r c_t_walks_nexts_r c_t_walks_befores_r c_t_walks_walk_r c_t_walks_places_r c_t_walks_ringStarts_r c_t_walks_ringSizes_r c_t_walks_meeting_count c_t_walks_meeting_lower c_t_walks_meeting_upper c_t_walks_meeting_start_x c_t_walks_meeting_start_y c_t_walks_meeting_start_z c_t_walks_meeting_end_x c_t_walks_meeting_end_y c_t_walks_meeting_end_z c_t_walks_meeting_found_x c_t_walks_meeting_found_y c_t_walks_meeting_found_z c_t_walks_level_x c_t_walks_level_y c_t_walks_level_z c_t_adding_closing c_t_adding_pointCount c_t_adding_acrosses_r c_t_adding_ups_r c_t_row_parts_r c_t_row_square_r m_t_p m_t_isLaid m_t_isGood m_t_points m_t_flags m_t_formX m_t_formY m_t_formZ m_t_isNought m_t_sumT m_t_sumY m_t_given_r m_t_c_r m_t_pointX_r m_t_pointY_r m_t_pointZ_r m_t_pointFlags_r m_t_flagPoint_r m_t_flagU_r m_t_flagV_r m_t_flagW_r m_t_next_r m_t_series_r m_t_mix_r m_t_cofactor_r m_t_square_r i1 i2 hI
  obtain ⟨P, C, D, hp, eC, eD, ⟨rfl, hN⟩, ⟨rfl, rfl, rfl, rfl, rfl, rfl⟩, ⟨rfl, rfl, rfl, rfl, rfl, rfl⟩, ⟨rfl, rfl, rfl, rfl, rfl, rfl⟩, ⟨rfl, rfl, rfl, rfl, rfl, rfl⟩, ⟨rfl, rfl, rfl, rfl⟩, hW, hA, hR, ⟨rfl, gC, gD⟩, hL⟩ := hI
  have := nz_of hp
  have hb := pr_rng hp
  rcases e_kw hp hN eC eD hW c_t_walks_level_x c_t_walks_level_y c_t_walks_level_z c_t_walks_meeting_count c_t_walks_meeting_lower c_t_walks_meeting_upper c_t_walks_meeting_end_x c_t_walks_meeting_end_y c_t_walks_meeting_end_z c_t_walks_meeting_found_x c_t_walks_meeting_found_y c_t_walks_meeting_found_z c_t_walks_meeting_start_x c_t_walks_meeting_start_y c_t_walks_meeting_start_z with ⟨hg, fc, pc, rc, kw0, kw1, kw2, kw3, kw4, kw5, kw6, kw7, kw8, kw9, sl, hWO, ekw⟩ | ⟨hg, ekw⟩
  · rcases e_ig hp eC eD gC gD hL m_t_formX m_t_formY m_t_formZ m_t_cofactor_r with ⟨-, lp, lf, g1, g2, g3, lc, lX, lY, lZ, lPF, lQ, lU, lV, lW, ln, ls, lk, hLO, eig⟩ | ⟨hg2, -⟩
    · obtain ⟨rfl, rfl, rfl, v4, v5, v6, v7, v8, v9⟩ := id hWO
      obtain ⟨rfl, rfl, q3, qX, qY, qZ, qPF, qT, qn, qs⟩ := id hLO
      obtain ⟨hC, hD, l1, l2, ok, hper, hsur⟩ := gd_f hp eC hg
      rcases flag_c (FL P C D).length (by omega) i1 with ⟨f, hf, rfl, f3, f4⟩ | ⟨f3, f4⟩
      · rcases in_c 0 100000 (by omega) (by omega) i2 with ⟨k, -, k2, rfl, k4⟩ | ⟨z, rfl, z1, z2, z3, k4⟩
        · have k4 : fX9_in (iI (k : Nat)) 0 100000 = some 1 := k4
          have r3 := e_after l2 v9 hf k2
          have r4 := e_onFrom9 l2 hper qn hf k2
          refine ⟨(iI (it (NX P C D) k f : Nat)), 1, (iI ((FL P C D).length : Nat)), (iI ((PT P C).length : Nat)), (iI (((List.range (FL P C D).length).filter (lst (NX P C D) (FL P C D).length)).length : Nat)), kw0, kw1, kw2, kw3, (sl 0), (sl 1), (sl 2), (sl 3), (sl 4), (sl 5), (sl 6), (sl 7), (sl 8), (sl 9), (sl 10), (sl 11), (sl 12), (sl 13), (sl 14), kw4, kw5, kw6, kw7, kw8, kw9, (iI ((FL P C D).length : Nat)), g1, g2, g3, 1, 1, (iI ((PT P C).length : Nat)), lc, lk, lQ, lU, lV, lW, ln, lPF, lX, lY, lZ, ls, ?_, ?_, ?_⟩
          · unfold fX8_go
            rw [ekw, b30_s, if_neg (by decide), f3, b1_s, if_neg (by decide), if_neg (by rw [show (0 : Int32) = iI ((0 : Nat) : Int) from rfl, nlt (by omega) (by omega)]; omega), if_pos (by rw [show (100000 : Int32) = iI ((100000 : Nat) : Int) from rfl, nle (by omega) (by omega)]; omega), r3, b1_s]
          · unfold fX9_go
            rw [eig, b20_s, if_neg (by decide), f4, b1_s, if_neg (by decide), k4, b1_s, if_neg (by decide), r4, b1_s]
          · exact ⟨P, C, D, hp, eC, eD, ⟨rfl, hN⟩, ⟨rfl, rfl, rfl, rfl, rfl, rfl⟩, ⟨rfl, rfl, rfl, rfl, rfl, rfl⟩, ⟨rfl, rfl, rfl, rfl, rfl, rfl⟩, ⟨rfl, rfl, rfl, rfl, rfl, rfl⟩, ⟨rfl, rfl, rfl, rfl⟩, (Or.inr ⟨rfl, hg, hWO⟩), hA, hR, ⟨rfl, gC, gD⟩, (Or.inr (Or.inr ⟨rfl, rfl, hg, hLO⟩))⟩
        · have k4 : fX9_in (iI z) 0 100000 = some 0 := k4
          rcases z3 with z3 | z3
          · refine ⟨(-2), 1, (iI ((FL P C D).length : Nat)), (iI ((PT P C).length : Nat)), (iI (((List.range (FL P C D).length).filter (lst (NX P C D) (FL P C D).length)).length : Nat)), kw0, kw1, kw2, kw3, (sl 0), (sl 1), (sl 2), (sl 3), (sl 4), (sl 5), (sl 6), (sl 7), (sl 8), (sl 9), (sl 10), (sl 11), (sl 12), (sl 13), (sl 14), kw4, kw5, kw6, kw7, kw8, kw9, (iI ((FL P C D).length : Nat)), g1, g2, g3, 1, 1, (iI ((PT P C).length : Nat)), lc, lk, lQ, lU, lV, lW, ln, lPF, lX, lY, lZ, ls, ?_, ?_, ?_⟩
            · unfold fX8_go jX8_go_33
              rw [ekw, b30_s, if_neg (by decide), f3, b1_s, if_neg (by decide), if_pos (by rw [show (0 : Int32) = iI 0 from rfl, iI_lt (by omega) (by omega) (by omega) (by omega)]; omega)]
            · unfold fX9_go
              rw [eig, b20_s, if_neg (by decide), f4, b1_s, if_neg (by decide), k4, b1_s, if_pos (by decide)]
            · exact ⟨P, C, D, hp, eC, eD, ⟨rfl, hN⟩, ⟨rfl, rfl, rfl, rfl, rfl, rfl⟩, ⟨rfl, rfl, rfl, rfl, rfl, rfl⟩, ⟨rfl, rfl, rfl, rfl, rfl, rfl⟩, ⟨rfl, rfl, rfl, rfl, rfl, rfl⟩, ⟨rfl, rfl, rfl, rfl⟩, (Or.inr ⟨rfl, hg, hWO⟩), hA, hR, ⟨rfl, gC, gD⟩, (Or.inr (Or.inr ⟨rfl, rfl, hg, hLO⟩))⟩
          · refine ⟨(-2), 1, (iI ((FL P C D).length : Nat)), (iI ((PT P C).length : Nat)), (iI (((List.range (FL P C D).length).filter (lst (NX P C D) (FL P C D).length)).length : Nat)), kw0, kw1, kw2, kw3, (sl 0), (sl 1), (sl 2), (sl 3), (sl 4), (sl 5), (sl 6), (sl 7), (sl 8), (sl 9), (sl 10), (sl 11), (sl 12), (sl 13), (sl 14), kw4, kw5, kw6, kw7, kw8, kw9, (iI ((FL P C D).length : Nat)), g1, g2, g3, 1, 1, (iI ((PT P C).length : Nat)), lc, lk, lQ, lU, lV, lW, ln, lPF, lX, lY, lZ, ls, ?_, ?_, ?_⟩
            · unfold fX8_go jX8_go_33
              rw [ekw, b30_s, if_neg (by decide), f3, b1_s, if_neg (by decide), if_neg (by rw [show (0 : Int32) = iI 0 from rfl, iI_lt (by omega) (by omega) (by omega) (by omega)]; omega), if_neg (by rw [show (100000 : Int32) = iI 100000 from rfl, iI_le (by omega) (by omega) (by omega) (by omega)]; omega)]
            · unfold fX9_go
              rw [eig, b20_s, if_neg (by decide), f4, b1_s, if_neg (by decide), k4, b1_s, if_pos (by decide)]
            · exact ⟨P, C, D, hp, eC, eD, ⟨rfl, hN⟩, ⟨rfl, rfl, rfl, rfl, rfl, rfl⟩, ⟨rfl, rfl, rfl, rfl, rfl, rfl⟩, ⟨rfl, rfl, rfl, rfl, rfl, rfl⟩, ⟨rfl, rfl, rfl, rfl, rfl, rfl⟩, ⟨rfl, rfl, rfl, rfl⟩, (Or.inr ⟨rfl, hg, hWO⟩), hA, hR, ⟨rfl, gC, gD⟩, (Or.inr (Or.inr ⟨rfl, rfl, hg, hLO⟩))⟩
      · refine ⟨(-1), 1, (iI ((FL P C D).length : Nat)), (iI ((PT P C).length : Nat)), (iI (((List.range (FL P C D).length).filter (lst (NX P C D) (FL P C D).length)).length : Nat)), kw0, kw1, kw2, kw3, (sl 0), (sl 1), (sl 2), (sl 3), (sl 4), (sl 5), (sl 6), (sl 7), (sl 8), (sl 9), (sl 10), (sl 11), (sl 12), (sl 13), (sl 14), kw4, kw5, kw6, kw7, kw8, kw9, (iI ((FL P C D).length : Nat)), g1, g2, g3, 1, 1, (iI ((PT P C).length : Nat)), lc, lk, lQ, lU, lV, lW, ln, lPF, lX, lY, lZ, ls, ?_, ?_, ?_⟩
        · unfold fX8_go
          rw [ekw, b30_s, if_neg (by decide), f3, b1_s, if_pos (by decide)]
        · unfold fX9_go
          rw [eig, b20_s, if_neg (by decide), f4, b1_s, if_pos (by decide)]
        · exact ⟨P, C, D, hp, eC, eD, ⟨rfl, hN⟩, ⟨rfl, rfl, rfl, rfl, rfl, rfl⟩, ⟨rfl, rfl, rfl, rfl, rfl, rfl⟩, ⟨rfl, rfl, rfl, rfl, rfl, rfl⟩, ⟨rfl, rfl, rfl, rfl, rfl, rfl⟩, ⟨rfl, rfl, rfl, rfl⟩, (Or.inr ⟨rfl, hg, hWO⟩), hA, hR, ⟨rfl, gC, gD⟩, (Or.inr (Or.inr ⟨rfl, rfl, hg, hLO⟩))⟩
    · exact absurd hg hg2
  · rcases e_ig hp eC eD gC gD hL m_t_formX m_t_formY m_t_formZ m_t_cofactor_r with ⟨hg2, -⟩ | ⟨-, lc, lk, eig⟩
    · exact absurd hg2 hg
    · refine ⟨(-5), c_t_walksKnown, c_t_walks_flagCount, c_t_walks_pointCount, c_t_walks_ringCount, c_t_walks_befores_r, c_t_walks_firstFlags_r, c_t_walks_flagLines_r, c_t_walks_flagPoints_r, c_t_walks_level_x, c_t_walks_level_y, c_t_walks_level_z, c_t_walks_meeting_count, c_t_walks_meeting_lower, c_t_walks_meeting_upper, c_t_walks_meeting_end_x, c_t_walks_meeting_end_y, c_t_walks_meeting_end_z, c_t_walks_meeting_found_x, c_t_walks_meeting_found_y, c_t_walks_meeting_found_z, c_t_walks_meeting_start_x, c_t_walks_meeting_start_y, c_t_walks_meeting_start_z, c_t_walks_nexts_r, c_t_walks_places_r, c_t_walks_pointKeys_r, c_t_walks_ringSizes_r, c_t_walks_ringStarts_r, c_t_walks_walk_r, m_t_flags, m_t_formX, m_t_formY, m_t_formZ, 0, 1, m_t_points, lc, lk, m_t_flagPoint_r, m_t_flagU_r, m_t_flagV_r, m_t_flagW_r, m_t_next_r, m_t_pointFlags_r, m_t_pointX_r, m_t_pointY_r, m_t_pointZ_r, m_t_series_r, ?_, ?_, ?_⟩
      · unfold fX8_go
        rw [ekw, b30_s, if_pos (by decide)]
      · unfold fX9_go
        rw [eig, b20_s, if_pos (by decide)]
      · exact ⟨P, C, D, hp, eC, eD, ⟨rfl, hN⟩, ⟨rfl, rfl, rfl, rfl, rfl, rfl⟩, ⟨rfl, rfl, rfl, rfl, rfl, rfl⟩, ⟨rfl, rfl, rfl, rfl, rfl, rfl⟩, ⟨rfl, rfl, rfl, rfl, rfl, rfl⟩, ⟨rfl, rfl, rfl, rfl⟩, hW, hA, hR, ⟨rfl, gC, gD⟩, (Or.inr (Or.inl ⟨rfl, rfl, hg⟩))⟩
