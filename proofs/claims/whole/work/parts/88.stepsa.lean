/-! steps of the law: the field, the rounds, the cubic -/
set_option maxHeartbeats 2000000 in
set_option maxRecDepth 10000 in
theorem s_given : Step_given WInv := by
  intro c_t_walksKnown c_t_addingKnown c_t_rowKnown c_N_p c_N_inverses_r c_N_roots_r c_t_outer_a c_t_outer_b c_t_outer_c c_t_outer_d c_t_outer_e c_t_outer_f c_t_outerCofactors_a c_t_outerCofactors_b c_t_outerCofactors_c c_t_outerCofactors_d c_t_outerCofactors_e c_t_outerCofactors_f c_t_inner_a c_t_inner_b c_t_inner_c c_t_inner_d c_t_inner_e c_t_inner_f c_t_innerCofactors_a c_t_innerCofactors_b c_t_innerCofactors_c c_t_innerCofactors_d c_t_innerCofactors_e c_t_innerCofactors_f c_t_mixed_a c_t_mixed_b c_t_mixed_c c_t_mixed_d c_t_mixed_e c_t_mixed_f c_t_mixedCofactors_a c_t_mixedCofactors_b c_t_mixedCofactors_c c_t_mixedCofactors_d c_t_mixedCofactors_e c_t_mixedCofactors_f c_t_here_x c_t_here_y c_t_here_z c_t_there_x c_t_there_y c_t_there_z c_t_line_x c_t_line_y c_t_line_z c_t_pencil_c0 c_t_pencil_c1 c_t_pencil_c2 c_t_pencil_c3 c_t_walks_pointCount c_t_walks_flagCount c_t_walks_ringCount c_t_walks_pointKeys_r c_t_walks_firstFlags_r c_t_walks_flagPoints_r c_t_walks_flagLines_r c_t_walks_nexts_r c_t_walks_befores_r c_t_walks_walk_r c_t_walks_places_r c_t_walks_ringStarts_r c_t_walks_ringSizes_r c_t_walks_meeting_count c_t_walks_meeting_lower c_t_walks_meeting_upper c_t_walks_meeting_start_x c_t_walks_meeting_start_y c_t_walks_meeting_start_z c_t_walks_meeting_end_x c_t_walks_meeting_end_y c_t_walks_meeting_end_z c_t_walks_meeting_found_x c_t_walks_meeting_found_y c_t_walks_meeting_found_z c_t_walks_level_x c_t_walks_level_y c_t_walks_level_z c_t_adding_closing c_t_adding_pointCount c_t_adding_acrosses_r c_t_adding_ups_r c_t_row_parts_r c_t_row_square_r m_t_p m_t_isLaid m_t_isGood m_t_points m_t_flags m_t_formX m_t_formY m_t_formZ m_t_isNought m_t_sumT m_t_sumY m_t_given_r m_t_c_r m_t_pointX_r m_t_pointY_r m_t_pointZ_r m_t_pointFlags_r m_t_flagPoint_r m_t_flagU_r m_t_flagV_r m_t_flagW_r m_t_next_r m_t_series_r m_t_mix_r m_t_cofactor_r m_t_square_r i1 i2 hI
  obtain ⟨P, C, D, hp, eC, eD, ⟨rfl, hN⟩, ⟨rfl, rfl, rfl, rfl, rfl, rfl⟩, ⟨rfl, rfl, rfl, rfl, rfl, rfl⟩, ⟨rfl, rfl, rfl, rfl, rfl, rfl⟩, ⟨rfl, rfl, rfl, rfl, rfl, rfl⟩, ⟨rfl, rfl, rfl, rfl⟩, hW, hA, hR, ⟨rfl, gC, gD⟩, hL⟩ := hI
  have := nz_of hp
  have hb := pr_rng hp
  rcases in_c 0 1 (by omega) (by omega) i1 with ⟨w, -, w2, rfl, w4⟩ | ⟨z, rfl, z1, z2, z3, w4⟩
  · have w4 : fX9_in (iI (w : Nat)) 0 1 = some 1 := w4
    rcases in_c 0 5 (by omega) (by omega) i2 with ⟨k, -, k2, rfl, k4⟩ | ⟨z, rfl, z1, z2, z3, k4⟩
    · have k4 : fX9_in (iI (k : Nat)) 0 5 = some 1 := k4
      rcases (show w = 0 ∨ w = 1 by omega) with rfl | rfl
      · rcases (show k = 0 ∨ k = 1 ∨ k = 2 ∨ k = 3 ∨ k = 4 ∨ k = 5 by omega) with rfl | rfl | rfl | rfl | rfl | rfl
        · refine ⟨(iI (C 0)), ?_, ?_, ?_⟩
          · unfold fX8_given fX2_part
            rw [if_neg (by decide), if_neg (by decide), if_neg (by decide), if_pos (by decide), if_pos (by decide), if_pos (by decide), b1_s]
          · have gk : m_t_given_r 0 = iI (C 0) := gC 0 (by omega)
            unfold fX9_given
            rw [w4, b1_s, if_neg (by decide), k4, b1_s, if_neg (by decide), show (6 : Int32) * iI ((0 : Nat) : Int) + iI ((0 : Nat) : Int) = iI ((0 : Nat) : Int) from rfl, nld (by omega) (by omega), b1_s, gk]
          · exact ⟨P, C, D, hp, eC, eD, ⟨rfl, hN⟩, ⟨rfl, rfl, rfl, rfl, rfl, rfl⟩, ⟨rfl, rfl, rfl, rfl, rfl, rfl⟩, ⟨rfl, rfl, rfl, rfl, rfl, rfl⟩, ⟨rfl, rfl, rfl, rfl, rfl, rfl⟩, ⟨rfl, rfl, rfl, rfl⟩, hW, hA, hR, ⟨rfl, gC, gD⟩, hL⟩
        · refine ⟨(iI (C 1)), ?_, ?_, ?_⟩
          · unfold fX8_given fX2_part
            rw [if_neg (by decide), if_neg (by decide), if_neg (by decide), if_pos (by decide), if_pos (by decide), if_neg (by decide), if_pos (by decide), b1_s]
          · have gk : m_t_given_r 1 = iI (C 1) := gC 1 (by omega)
            unfold fX9_given
            rw [w4, b1_s, if_neg (by decide), k4, b1_s, if_neg (by decide), show (6 : Int32) * iI ((0 : Nat) : Int) + iI ((1 : Nat) : Int) = iI ((1 : Nat) : Int) from rfl, nld (by omega) (by omega), b1_s, gk]
          · exact ⟨P, C, D, hp, eC, eD, ⟨rfl, hN⟩, ⟨rfl, rfl, rfl, rfl, rfl, rfl⟩, ⟨rfl, rfl, rfl, rfl, rfl, rfl⟩, ⟨rfl, rfl, rfl, rfl, rfl, rfl⟩, ⟨rfl, rfl, rfl, rfl, rfl, rfl⟩, ⟨rfl, rfl, rfl, rfl⟩, hW, hA, hR, ⟨rfl, gC, gD⟩, hL⟩
        · refine ⟨(iI (C 2)), ?_, ?_, ?_⟩
          · unfold fX8_given fX2_part
            rw [if_neg (by decide), if_neg (by decide), if_neg (by decide), if_pos (by decide), if_pos (by decide), if_neg (by decide), if_neg (by decide), if_pos (by decide), b1_s]
          · have gk : m_t_given_r 2 = iI (C 2) := gC 2 (by omega)
            unfold fX9_given
            rw [w4, b1_s, if_neg (by decide), k4, b1_s, if_neg (by decide), show (6 : Int32) * iI ((0 : Nat) : Int) + iI ((2 : Nat) : Int) = iI ((2 : Nat) : Int) from rfl, nld (by omega) (by omega), b1_s, gk]
          · exact ⟨P, C, D, hp, eC, eD, ⟨rfl, hN⟩, ⟨rfl, rfl, rfl, rfl, rfl, rfl⟩, ⟨rfl, rfl, rfl, rfl, rfl, rfl⟩, ⟨rfl, rfl, rfl, rfl, rfl, rfl⟩, ⟨rfl, rfl, rfl, rfl, rfl, rfl⟩, ⟨rfl, rfl, rfl, rfl⟩, hW, hA, hR, ⟨rfl, gC, gD⟩, hL⟩
        · refine ⟨(iI (C 3)), ?_, ?_, ?_⟩
          · unfold fX8_given fX2_part
            rw [if_neg (by decide), if_neg (by decide), if_neg (by decide), if_pos (by decide), if_pos (by decide), if_neg (by decide), if_neg (by decide), if_neg (by decide), if_pos (by decide), b1_s]
          · have gk : m_t_given_r 3 = iI (C 3) := gC 3 (by omega)
            unfold fX9_given
            rw [w4, b1_s, if_neg (by decide), k4, b1_s, if_neg (by decide), show (6 : Int32) * iI ((0 : Nat) : Int) + iI ((3 : Nat) : Int) = iI ((3 : Nat) : Int) from rfl, nld (by omega) (by omega), b1_s, gk]
          · exact ⟨P, C, D, hp, eC, eD, ⟨rfl, hN⟩, ⟨rfl, rfl, rfl, rfl, rfl, rfl⟩, ⟨rfl, rfl, rfl, rfl, rfl, rfl⟩, ⟨rfl, rfl, rfl, rfl, rfl, rfl⟩, ⟨rfl, rfl, rfl, rfl, rfl, rfl⟩, ⟨rfl, rfl, rfl, rfl⟩, hW, hA, hR, ⟨rfl, gC, gD⟩, hL⟩
        · refine ⟨(iI (C 4)), ?_, ?_, ?_⟩
          · unfold fX8_given fX2_part
            rw [if_neg (by decide), if_neg (by decide), if_neg (by decide), if_pos (by decide), if_pos (by decide), if_neg (by decide), if_neg (by decide), if_neg (by decide), if_neg (by decide), if_pos (by decide), b1_s]
          · have gk : m_t_given_r 4 = iI (C 4) := gC 4 (by omega)
            unfold fX9_given
            rw [w4, b1_s, if_neg (by decide), k4, b1_s, if_neg (by decide), show (6 : Int32) * iI ((0 : Nat) : Int) + iI ((4 : Nat) : Int) = iI ((4 : Nat) : Int) from rfl, nld (by omega) (by omega), b1_s, gk]
          · exact ⟨P, C, D, hp, eC, eD, ⟨rfl, hN⟩, ⟨rfl, rfl, rfl, rfl, rfl, rfl⟩, ⟨rfl, rfl, rfl, rfl, rfl, rfl⟩, ⟨rfl, rfl, rfl, rfl, rfl, rfl⟩, ⟨rfl, rfl, rfl, rfl, rfl, rfl⟩, ⟨rfl, rfl, rfl, rfl⟩, hW, hA, hR, ⟨rfl, gC, gD⟩, hL⟩
        · refine ⟨(iI (C 5)), ?_, ?_, ?_⟩
          · unfold fX8_given fX2_part
            rw [if_neg (by decide), if_neg (by decide), if_neg (by decide), if_pos (by decide), if_pos (by decide), if_neg (by decide), if_neg (by decide), if_neg (by decide), if_neg (by decide), if_neg (by decide), b1_s]
          · have gk : m_t_given_r 5 = iI (C 5) := gC 5 (by omega)
            unfold fX9_given
            rw [w4, b1_s, if_neg (by decide), k4, b1_s, if_neg (by decide), show (6 : Int32) * iI ((0 : Nat) : Int) + iI ((5 : Nat) : Int) = iI ((5 : Nat) : Int) from rfl, nld (by omega) (by omega), b1_s, gk]
          · exact ⟨P, C, D, hp, eC, eD, ⟨rfl, hN⟩, ⟨rfl, rfl, rfl, rfl, rfl, rfl⟩, ⟨rfl, rfl, rfl, rfl, rfl, rfl⟩, ⟨rfl, rfl, rfl, rfl, rfl, rfl⟩, ⟨rfl, rfl, rfl, rfl, rfl, rfl⟩, ⟨rfl, rfl, rfl, rfl⟩, hW, hA, hR, ⟨rfl, gC, gD⟩, hL⟩
      · rcases (show k = 0 ∨ k = 1 ∨ k = 2 ∨ k = 3 ∨ k = 4 ∨ k = 5 by omega) with rfl | rfl | rfl | rfl | rfl | rfl
        · refine ⟨(iI (D 0)), ?_, ?_, ?_⟩
          · unfold fX8_given fX2_part
            rw [if_neg (by decide), if_neg (by decide), if_neg (by decide), if_pos (by decide), if_neg (by decide), if_pos (by decide), b1_s]
          · have gk : m_t_given_r 6 = iI (D 0) := gD 0 (by omega)
            unfold fX9_given
            rw [w4, b1_s, if_neg (by decide), k4, b1_s, if_neg (by decide), show (6 : Int32) * iI ((1 : Nat) : Int) + iI ((0 : Nat) : Int) = iI ((6 : Nat) : Int) from rfl, nld (by omega) (by omega), b1_s, gk]
          · exact ⟨P, C, D, hp, eC, eD, ⟨rfl, hN⟩, ⟨rfl, rfl, rfl, rfl, rfl, rfl⟩, ⟨rfl, rfl, rfl, rfl, rfl, rfl⟩, ⟨rfl, rfl, rfl, rfl, rfl, rfl⟩, ⟨rfl, rfl, rfl, rfl, rfl, rfl⟩, ⟨rfl, rfl, rfl, rfl⟩, hW, hA, hR, ⟨rfl, gC, gD⟩, hL⟩
        · refine ⟨(iI (D 1)), ?_, ?_, ?_⟩
          · unfold fX8_given fX2_part
            rw [if_neg (by decide), if_neg (by decide), if_neg (by decide), if_pos (by decide), if_neg (by decide), if_neg (by decide), if_pos (by decide), b1_s]
          · have gk : m_t_given_r 7 = iI (D 1) := gD 1 (by omega)
            unfold fX9_given
            rw [w4, b1_s, if_neg (by decide), k4, b1_s, if_neg (by decide), show (6 : Int32) * iI ((1 : Nat) : Int) + iI ((1 : Nat) : Int) = iI ((7 : Nat) : Int) from rfl, nld (by omega) (by omega), b1_s, gk]
          · exact ⟨P, C, D, hp, eC, eD, ⟨rfl, hN⟩, ⟨rfl, rfl, rfl, rfl, rfl, rfl⟩, ⟨rfl, rfl, rfl, rfl, rfl, rfl⟩, ⟨rfl, rfl, rfl, rfl, rfl, rfl⟩, ⟨rfl, rfl, rfl, rfl, rfl, rfl⟩, ⟨rfl, rfl, rfl, rfl⟩, hW, hA, hR, ⟨rfl, gC, gD⟩, hL⟩
        · refine ⟨(iI (D 2)), ?_, ?_, ?_⟩
          · unfold fX8_given fX2_part
            rw [if_neg (by decide), if_neg (by decide), if_neg (by decide), if_pos (by decide), if_neg (by decide), if_neg (by decide), if_neg (by decide), if_pos (by decide), b1_s]
          · have gk : m_t_given_r 8 = iI (D 2) := gD 2 (by omega)
            unfold fX9_given
            rw [w4, b1_s, if_neg (by decide), k4, b1_s, if_neg (by decide), show (6 : Int32) * iI ((1 : Nat) : Int) + iI ((2 : Nat) : Int) = iI ((8 : Nat) : Int) from rfl, nld (by omega) (by omega), b1_s, gk]
          · exact ⟨P, C, D, hp, eC, eD, ⟨rfl, hN⟩, ⟨rfl, rfl, rfl, rfl, rfl, rfl⟩, ⟨rfl, rfl, rfl, rfl, rfl, rfl⟩, ⟨rfl, rfl, rfl, rfl, rfl, rfl⟩, ⟨rfl, rfl, rfl, rfl, rfl, rfl⟩, ⟨rfl, rfl, rfl, rfl⟩, hW, hA, hR, ⟨rfl, gC, gD⟩, hL⟩
        · refine ⟨(iI (D 3)), ?_, ?_, ?_⟩
          · unfold fX8_given fX2_part
            rw [if_neg (by decide), if_neg (by decide), if_neg (by decide), if_pos (by decide), if_neg (by decide), if_neg (by decide), if_neg (by decide), if_neg (by decide), if_pos (by decide), b1_s]
          · have gk : m_t_given_r 9 = iI (D 3) := gD 3 (by omega)
            unfold fX9_given
            rw [w4, b1_s, if_neg (by decide), k4, b1_s, if_neg (by decide), show (6 : Int32) * iI ((1 : Nat) : Int) + iI ((3 : Nat) : Int) = iI ((9 : Nat) : Int) from rfl, nld (by omega) (by omega), b1_s, gk]
          · exact ⟨P, C, D, hp, eC, eD, ⟨rfl, hN⟩, ⟨rfl, rfl, rfl, rfl, rfl, rfl⟩, ⟨rfl, rfl, rfl, rfl, rfl, rfl⟩, ⟨rfl, rfl, rfl, rfl, rfl, rfl⟩, ⟨rfl, rfl, rfl, rfl, rfl, rfl⟩, ⟨rfl, rfl, rfl, rfl⟩, hW, hA, hR, ⟨rfl, gC, gD⟩, hL⟩
        · refine ⟨(iI (D 4)), ?_, ?_, ?_⟩
          · unfold fX8_given fX2_part
            rw [if_neg (by decide), if_neg (by decide), if_neg (by decide), if_pos (by decide), if_neg (by decide), if_neg (by decide), if_neg (by decide), if_neg (by decide), if_neg (by decide), if_pos (by decide), b1_s]
          · have gk : m_t_given_r 10 = iI (D 4) := gD 4 (by omega)
            unfold fX9_given
            rw [w4, b1_s, if_neg (by decide), k4, b1_s, if_neg (by decide), show (6 : Int32) * iI ((1 : Nat) : Int) + iI ((4 : Nat) : Int) = iI ((10 : Nat) : Int) from rfl, nld (by omega) (by omega), b1_s, gk]
          · exact ⟨P, C, D, hp, eC, eD, ⟨rfl, hN⟩, ⟨rfl, rfl, rfl, rfl, rfl, rfl⟩, ⟨rfl, rfl, rfl, rfl, rfl, rfl⟩, ⟨rfl, rfl, rfl, rfl, rfl, rfl⟩, ⟨rfl, rfl, rfl, rfl, rfl, rfl⟩, ⟨rfl, rfl, rfl, rfl⟩, hW, hA, hR, ⟨rfl, gC, gD⟩, hL⟩
        · refine ⟨(iI (D 5)), ?_, ?_, ?_⟩
          · unfold fX8_given fX2_part
            rw [if_neg (by decide), if_neg (by decide), if_neg (by decide), if_pos (by decide), if_neg (by decide), if_neg (by decide), if_neg (by decide), if_neg (by decide), if_neg (by decide), if_neg (by decide), b1_s]
          · have gk : m_t_given_r 11 = iI (D 5) := gD 5 (by omega)
            unfold fX9_given
            rw [w4, b1_s, if_neg (by decide), k4, b1_s, if_neg (by decide), show (6 : Int32) * iI ((1 : Nat) : Int) + iI ((5 : Nat) : Int) = iI ((11 : Nat) : Int) from rfl, nld (by omega) (by omega), b1_s, gk]
          · exact ⟨P, C, D, hp, eC, eD, ⟨rfl, hN⟩, ⟨rfl, rfl, rfl, rfl, rfl, rfl⟩, ⟨rfl, rfl, rfl, rfl, rfl, rfl⟩, ⟨rfl, rfl, rfl, rfl, rfl, rfl⟩, ⟨rfl, rfl, rfl, rfl, rfl, rfl⟩, ⟨rfl, rfl, rfl, rfl⟩, hW, hA, hR, ⟨rfl, gC, gD⟩, hL⟩
    · have k4 : fX9_in (iI z) 0 5 = some 0 := k4
      rcases (show w = 0 ∨ w = 1 by omega) with rfl | rfl
      · rcases z3 with z3 | z3
        · refine ⟨(-2), ?_, ?_, ?_⟩
          · unfold fX8_given
            rw [if_neg (by decide), if_neg (by decide), if_pos (by rw [show (0 : Int32) = iI 0 from rfl, iI_lt (by omega) (by omega) (by omega) (by omega)]; omega)]
          · unfold fX9_given
            rw [w4, b1_s, if_neg (by decide), k4, b1_s, if_pos (by decide)]
          · exact ⟨P, C, D, hp, eC, eD, ⟨rfl, hN⟩, ⟨rfl, rfl, rfl, rfl, rfl, rfl⟩, ⟨rfl, rfl, rfl, rfl, rfl, rfl⟩, ⟨rfl, rfl, rfl, rfl, rfl, rfl⟩, ⟨rfl, rfl, rfl, rfl, rfl, rfl⟩, ⟨rfl, rfl, rfl, rfl⟩, hW, hA, hR, ⟨rfl, gC, gD⟩, hL⟩
        · refine ⟨(-2), ?_, ?_, ?_⟩
          · unfold fX8_given
            rw [if_neg (by decide), if_neg (by decide), if_neg (by rw [show (0 : Int32) = iI 0 from rfl, iI_lt (by omega) (by omega) (by omega) (by omega)]; omega), if_neg (by rw [show (5 : Int32) = iI 5 from rfl, iI_le (by omega) (by omega) (by omega) (by omega)]; omega)]
          · unfold fX9_given
            rw [w4, b1_s, if_neg (by decide), k4, b1_s, if_pos (by decide)]
          · exact ⟨P, C, D, hp, eC, eD, ⟨rfl, hN⟩, ⟨rfl, rfl, rfl, rfl, rfl, rfl⟩, ⟨rfl, rfl, rfl, rfl, rfl, rfl⟩, ⟨rfl, rfl, rfl, rfl, rfl, rfl⟩, ⟨rfl, rfl, rfl, rfl, rfl, rfl⟩, ⟨rfl, rfl, rfl, rfl⟩, hW, hA, hR, ⟨rfl, gC, gD⟩, hL⟩
      · rcases z3 with z3 | z3
        · refine ⟨(-2), ?_, ?_, ?_⟩
          · unfold fX8_given
            rw [if_neg (by decide), if_neg (by decide), if_pos (by rw [show (0 : Int32) = iI 0 from rfl, iI_lt (by omega) (by omega) (by omega) (by omega)]; omega)]
          · unfold fX9_given
            rw [w4, b1_s, if_neg (by decide), k4, b1_s, if_pos (by decide)]
          · exact ⟨P, C, D, hp, eC, eD, ⟨rfl, hN⟩, ⟨rfl, rfl, rfl, rfl, rfl, rfl⟩, ⟨rfl, rfl, rfl, rfl, rfl, rfl⟩, ⟨rfl, rfl, rfl, rfl, rfl, rfl⟩, ⟨rfl, rfl, rfl, rfl, rfl, rfl⟩, ⟨rfl, rfl, rfl, rfl⟩, hW, hA, hR, ⟨rfl, gC, gD⟩, hL⟩
        · refine ⟨(-2), ?_, ?_, ?_⟩
          · unfold fX8_given
            rw [if_neg (by decide), if_neg (by decide), if_neg (by rw [show (0 : Int32) = iI 0 from rfl, iI_lt (by omega) (by omega) (by omega) (by omega)]; omega), if_neg (by rw [show (5 : Int32) = iI 5 from rfl, iI_le (by omega) (by omega) (by omega) (by omega)]; omega)]
          · unfold fX9_given
            rw [w4, b1_s, if_neg (by decide), k4, b1_s, if_pos (by decide)]
          · exact ⟨P, C, D, hp, eC, eD, ⟨rfl, hN⟩, ⟨rfl, rfl, rfl, rfl, rfl, rfl⟩, ⟨rfl, rfl, rfl, rfl, rfl, rfl⟩, ⟨rfl, rfl, rfl, rfl, rfl, rfl⟩, ⟨rfl, rfl, rfl, rfl, rfl, rfl⟩, ⟨rfl, rfl, rfl, rfl⟩, hW, hA, hR, ⟨rfl, gC, gD⟩, hL⟩
  · have w4 : fX9_in (iI z) 0 1 = some 0 := w4
    rcases z3 with z3 | z3
    · refine ⟨(-2), ?_, ?_, ?_⟩
      · unfold fX8_given
        rw [if_pos (by rw [show (0 : Int32) = iI 0 from rfl, iI_lt (by omega) (by omega) (by omega) (by omega)]; omega)]
      · unfold fX9_given
        rw [w4, b1_s, if_pos (by decide)]
      · exact ⟨P, C, D, hp, eC, eD, ⟨rfl, hN⟩, ⟨rfl, rfl, rfl, rfl, rfl, rfl⟩, ⟨rfl, rfl, rfl, rfl, rfl, rfl⟩, ⟨rfl, rfl, rfl, rfl, rfl, rfl⟩, ⟨rfl, rfl, rfl, rfl, rfl, rfl⟩, ⟨rfl, rfl, rfl, rfl⟩, hW, hA, hR, ⟨rfl, gC, gD⟩, hL⟩
    · refine ⟨(-2), ?_, ?_, ?_⟩
      · unfold fX8_given
        rw [if_neg (by rw [show (0 : Int32) = iI 0 from rfl, iI_lt (by omega) (by omega) (by omega) (by omega)]; omega), if_pos (by rw [show (1 : Int32) = iI 1 from rfl, iI_lt (by omega) (by omega) (by omega) (by omega)]; omega)]
      · unfold fX9_given
        rw [w4, b1_s, if_pos (by decide)]
      · exact ⟨P, C, D, hp, eC, eD, ⟨rfl, hN⟩, ⟨rfl, rfl, rfl, rfl, rfl, rfl⟩, ⟨rfl, rfl, rfl, rfl, rfl, rfl⟩, ⟨rfl, rfl, rfl, rfl, rfl, rfl⟩, ⟨rfl, rfl, rfl, rfl, rfl, rfl⟩, ⟨rfl, rfl, rfl, rfl⟩, hW, hA, hR, ⟨rfl, gC, gD⟩, hL⟩
set_option maxHeartbeats 2000000 in
set_option maxRecDepth 10000 in
theorem s_work : Step_work WInv := by
  intro c_t_walksKnown c_t_addingKnown c_t_rowKnown c_N_p c_N_inverses_r c_N_roots_r c_t_outer_a c_t_outer_b c_t_outer_c c_t_outer_d c_t_outer_e c_t_outer_f c_t_outerCofactors_a c_t_outerCofactors_b c_t_outerCofactors_c c_t_outerCofactors_d c_t_outerCofactors_e c_t_outerCofactors_f c_t_inner_a c_t_inner_b c_t_inner_c c_t_inner_d c_t_inner_e c_t_inner_f c_t_innerCofactors_a c_t_innerCofactors_b c_t_innerCofactors_c c_t_innerCofactors_d c_t_innerCofactors_e c_t_innerCofactors_f c_t_mixed_a c_t_mixed_b c_t_mixed_c c_t_mixed_d c_t_mixed_e c_t_mixed_f c_t_mixedCofactors_a c_t_mixedCofactors_b c_t_mixedCofactors_c c_t_mixedCofactors_d c_t_mixedCofactors_e c_t_mixedCofactors_f c_t_here_x c_t_here_y c_t_here_z c_t_there_x c_t_there_y c_t_there_z c_t_line_x c_t_line_y c_t_line_z c_t_pencil_c0 c_t_pencil_c1 c_t_pencil_c2 c_t_pencil_c3 c_t_walks_pointCount c_t_walks_flagCount c_t_walks_ringCount c_t_walks_pointKeys_r c_t_walks_firstFlags_r c_t_walks_flagPoints_r c_t_walks_flagLines_r c_t_walks_nexts_r c_t_walks_befores_r c_t_walks_walk_r c_t_walks_places_r c_t_walks_ringStarts_r c_t_walks_ringSizes_r c_t_walks_meeting_count c_t_walks_meeting_lower c_t_walks_meeting_upper c_t_walks_meeting_start_x c_t_walks_meeting_start_y c_t_walks_meeting_start_z c_t_walks_meeting_end_x c_t_walks_meeting_end_y c_t_walks_meeting_end_z c_t_walks_meeting_found_x c_t_walks_meeting_found_y c_t_walks_meeting_found_z c_t_walks_level_x c_t_walks_level_y c_t_walks_level_z c_t_adding_closing c_t_adding_pointCount c_t_adding_acrosses_r c_t_adding_ups_r c_t_row_parts_r c_t_row_square_r m_t_p m_t_isLaid m_t_isGood m_t_points m_t_flags m_t_formX m_t_formY m_t_formZ m_t_isNought m_t_sumT m_t_sumY m_t_given_r m_t_c_r m_t_pointX_r m_t_pointY_r m_t_pointZ_r m_t_pointFlags_r m_t_flagPoint_r m_t_flagU_r m_t_flagV_r m_t_flagW_r m_t_next_r m_t_series_r m_t_mix_r m_t_cofactor_r m_t_square_r i1 i2 i3 hI
  obtain ⟨P, C, D, hp, eC, eD, ⟨rfl, hN⟩, ⟨rfl, rfl, rfl, rfl, rfl, rfl⟩, ⟨rfl, rfl, rfl, rfl, rfl, rfl⟩, ⟨rfl, rfl, rfl, rfl, rfl, rfl⟩, ⟨rfl, rfl, rfl, rfl, rfl, rfl⟩, ⟨rfl, rfl, rfl, rfl⟩, hW, hA, hR, ⟨rfl, gC, gD⟩, hL⟩ := hI
  have := nz_of hp
  have hb := pr_rng hp
  rcases in_c 0 2 (by omega) (by omega) i1 with ⟨w, -, w2, rfl, w4⟩ | ⟨z, rfl, z1, z2, z3, w4⟩
  · have w4 : fX9_in (iI (w : Nat)) 0 2 = some 1 := w4
    have c1 : ¬ iI (w : Nat) < 0 := by rw [show (0 : Int32) = iI ((0 : Nat) : Int) from rfl, nlt (by omega) (by omega)]; omega
    have c2 : ¬ 2 < iI (w : Nat) := by rw [show (2 : Int32) = iI ((2 : Nat) : Int) from rfl, nlt (by omega) (by omega)]; omega
    rcases num_c hp i2 with ⟨x, x1, rfl, x3, x4⟩ | ⟨x3, x4⟩
    · rcases num_c hp i3 with ⟨y, y1, rfl, y3, y4⟩ | ⟨y3, y4⟩
      · have bx := bd_el hp x1
        have by_ := bd_el hp y1
        rcases (show w = 0 ∨ w = 1 ∨ w = 2 by omega) with rfl | rfl | rfl
        · refine ⟨(iI ((x + y) % P)), ?_, ?_, ?_⟩
          · unfold fX8_work
            rw [if_neg c1, if_neg c2, x3, b1_s, if_neg (by decide), y3, b1_s, if_neg (by decide), if_pos (by decide), iI_add, e_rb hp (bd_add bx by_) (by decide), b1_s]
          · unfold fX9_work jX9_work_37
            rw [w4, b1_s, if_neg (by decide), x4, b1_s, if_neg (by decide), y4, b1_s, if_neg (by decide), if_neg (by decide), if_pos (by decide), iI_add, e_mb hp (Int.add_nonneg x1.1 y1.1) (bd_add bx by_) (by decide), b1_s]
          · exact ⟨P, C, D, hp, eC, eD, ⟨rfl, hN⟩, ⟨rfl, rfl, rfl, rfl, rfl, rfl⟩, ⟨rfl, rfl, rfl, rfl, rfl, rfl⟩, ⟨rfl, rfl, rfl, rfl, rfl, rfl⟩, ⟨rfl, rfl, rfl, rfl, rfl, rfl⟩, ⟨rfl, rfl, rfl, rfl⟩, hW, hA, hR, ⟨rfl, gC, gD⟩, hL⟩
        · refine ⟨(iI ((x * y) % P)), ?_, ?_, ?_⟩
          · unfold fX8_work
            rw [if_neg c1, if_neg c2, x3, b1_s, if_neg (by decide), y3, b1_s, if_neg (by decide), if_neg (by decide), if_pos (by decide), iI_mul, e_rb hp (bd_mul bx by_) (by decide), b1_s]
          · unfold fX9_work jX9_work_37
            rw [w4, b1_s, if_neg (by decide), x4, b1_s, if_neg (by decide), y4, b1_s, if_neg (by decide), if_neg (by decide), if_neg (by decide), if_pos (by decide), iI_mul, e_mb hp (Int.mul_nonneg x1.1 y1.1) (bd_mul bx by_) (by decide), b1_s]
          · exact ⟨P, C, D, hp, eC, eD, ⟨rfl, hN⟩, ⟨rfl, rfl, rfl, rfl, rfl, rfl⟩, ⟨rfl, rfl, rfl, rfl, rfl, rfl⟩, ⟨rfl, rfl, rfl, rfl, rfl, rfl⟩, ⟨rfl, rfl, rfl, rfl, rfl, rfl⟩, ⟨rfl, rfl, rfl, rfl⟩, hW, hA, hR, ⟨rfl, gC, gD⟩, hL⟩
        · by_cases y0 : y = 0
          · have q0 : iI y = 0 := (el_0 hp y1).mpr y0
            refine ⟨(-2), ?_, ?_, ?_⟩
            · unfold fX8_work
              rw [if_neg c1, if_neg c2, x3, b1_s, if_neg (by decide), y3, b1_s, if_neg (by decide), if_neg (by decide), if_neg (by decide), if_pos q0]
            · unfold fX9_work jX9_work_37
              rw [w4, b1_s, if_neg (by decide), x4, b1_s, if_neg (by decide), y4, b1_s, if_neg (by decide), if_pos (by decide), if_pos q0]
            · exact ⟨P, C, D, hp, eC, eD, ⟨rfl, hN⟩, ⟨rfl, rfl, rfl, rfl, rfl, rfl⟩, ⟨rfl, rfl, rfl, rfl, rfl, rfl⟩, ⟨rfl, rfl, rfl, rfl, rfl, rfl⟩, ⟨rfl, rfl, rfl, rfl, rfl, rfl⟩, ⟨rfl, rfl, rfl, rfl⟩, hW, hA, hR, ⟨rfl, gC, gD⟩, hL⟩
          · have q0 : ¬ iI y = 0 := fun q => y0 ((el_0 hp y1).mp q)
            refine ⟨(iI (x * (iv P y.toNat : Nat) % P)), ?_, ?_, ?_⟩
            · unfold fX8_work
              rw [if_neg c1, if_neg c2, x3, b1_s, if_neg (by decide), y3, b1_s, if_neg (by decide), if_neg (by decide), if_neg (by decide), if_neg q0, e_iz hp hN y1, b1_s, iI_mul, e_rb hp (bd_mul bx (bd_el hp (el_iv hp y.toNat))) (by decide), b1_s]
            · unfold fX9_work jX9_work_37
              rw [w4, b1_s, if_neg (by decide), x4, b1_s, if_neg (by decide), y4, b1_s, if_neg (by decide), if_pos (by decide), if_neg q0, if_neg (by decide), if_neg (by decide), e_bz hp x1 y1, b1_s]
            · exact ⟨P, C, D, hp, eC, eD, ⟨rfl, hN⟩, ⟨rfl, rfl, rfl, rfl, rfl, rfl⟩, ⟨rfl, rfl, rfl, rfl, rfl, rfl⟩, ⟨rfl, rfl, rfl, rfl, rfl, rfl⟩, ⟨rfl, rfl, rfl, rfl, rfl, rfl⟩, ⟨rfl, rfl, rfl, rfl⟩, hW, hA, hR, ⟨rfl, gC, gD⟩, hL⟩
      · refine ⟨(-2), ?_, ?_, ?_⟩
        · unfold fX8_work
          rw [if_neg c1, if_neg c2, x3, b1_s, if_neg (by decide), y3, b1_s, if_pos (by decide)]
        · unfold fX9_work
          rw [w4, b1_s, if_neg (by decide), x4, b1_s, if_neg (by decide), y4, b1_s, if_pos (by decide)]
        · exact ⟨P, C, D, hp, eC, eD, ⟨rfl, hN⟩, ⟨rfl, rfl, rfl, rfl, rfl, rfl⟩, ⟨rfl, rfl, rfl, rfl, rfl, rfl⟩, ⟨rfl, rfl, rfl, rfl, rfl, rfl⟩, ⟨rfl, rfl, rfl, rfl, rfl, rfl⟩, ⟨rfl, rfl, rfl, rfl⟩, hW, hA, hR, ⟨rfl, gC, gD⟩, hL⟩
    · refine ⟨(-2), ?_, ?_, ?_⟩
      · unfold fX8_work
        rw [if_neg c1, if_neg c2, x3, b1_s, if_pos (by decide)]
      · unfold fX9_work
        rw [w4, b1_s, if_neg (by decide), x4, b1_s, if_pos (by decide)]
      · exact ⟨P, C, D, hp, eC, eD, ⟨rfl, hN⟩, ⟨rfl, rfl, rfl, rfl, rfl, rfl⟩, ⟨rfl, rfl, rfl, rfl, rfl, rfl⟩, ⟨rfl, rfl, rfl, rfl, rfl, rfl⟩, ⟨rfl, rfl, rfl, rfl, rfl, rfl⟩, ⟨rfl, rfl, rfl, rfl⟩, hW, hA, hR, ⟨rfl, gC, gD⟩, hL⟩
  · have w4 : fX9_in (iI z) 0 2 = some 0 := w4
    rcases z3 with z3 | z3
    · refine ⟨(-2), ?_, ?_, ?_⟩
      · unfold fX8_work
        rw [if_pos (by rw [show (0 : Int32) = iI 0 from rfl, iI_lt (by omega) (by omega) (by omega) (by omega)]; omega)]
      · unfold fX9_work
        rw [w4, b1_s, if_pos (by decide)]
      · exact ⟨P, C, D, hp, eC, eD, ⟨rfl, hN⟩, ⟨rfl, rfl, rfl, rfl, rfl, rfl⟩, ⟨rfl, rfl, rfl, rfl, rfl, rfl⟩, ⟨rfl, rfl, rfl, rfl, rfl, rfl⟩, ⟨rfl, rfl, rfl, rfl, rfl, rfl⟩, ⟨rfl, rfl, rfl, rfl⟩, hW, hA, hR, ⟨rfl, gC, gD⟩, hL⟩
    · refine ⟨(-2), ?_, ?_, ?_⟩
      · unfold fX8_work
        rw [if_neg (by rw [show (0 : Int32) = iI 0 from rfl, iI_lt (by omega) (by omega) (by omega) (by omega)]; omega), if_pos (by rw [show (2 : Int32) = iI 2 from rfl, iI_lt (by omega) (by omega) (by omega) (by omega)]; omega)]
      · unfold fX9_work
        rw [w4, b1_s, if_pos (by decide)]
      · exact ⟨P, C, D, hp, eC, eD, ⟨rfl, hN⟩, ⟨rfl, rfl, rfl, rfl, rfl, rfl⟩, ⟨rfl, rfl, rfl, rfl, rfl, rfl⟩, ⟨rfl, rfl, rfl, rfl, rfl, rfl⟩, ⟨rfl, rfl, rfl, rfl, rfl, rfl⟩, ⟨rfl, rfl, rfl, rfl⟩, hW, hA, hR, ⟨rfl, gC, gD⟩, hL⟩
set_option maxHeartbeats 2000000 in
set_option maxRecDepth 10000 in
theorem s_root : Step_root WInv := by
  intro c_t_walksKnown c_t_addingKnown c_t_rowKnown c_N_p c_N_inverses_r c_N_roots_r c_t_outer_a c_t_outer_b c_t_outer_c c_t_outer_d c_t_outer_e c_t_outer_f c_t_outerCofactors_a c_t_outerCofactors_b c_t_outerCofactors_c c_t_outerCofactors_d c_t_outerCofactors_e c_t_outerCofactors_f c_t_inner_a c_t_inner_b c_t_inner_c c_t_inner_d c_t_inner_e c_t_inner_f c_t_innerCofactors_a c_t_innerCofactors_b c_t_innerCofactors_c c_t_innerCofactors_d c_t_innerCofactors_e c_t_innerCofactors_f c_t_mixed_a c_t_mixed_b c_t_mixed_c c_t_mixed_d c_t_mixed_e c_t_mixed_f c_t_mixedCofactors_a c_t_mixedCofactors_b c_t_mixedCofactors_c c_t_mixedCofactors_d c_t_mixedCofactors_e c_t_mixedCofactors_f c_t_here_x c_t_here_y c_t_here_z c_t_there_x c_t_there_y c_t_there_z c_t_line_x c_t_line_y c_t_line_z c_t_pencil_c0 c_t_pencil_c1 c_t_pencil_c2 c_t_pencil_c3 c_t_walks_pointCount c_t_walks_flagCount c_t_walks_ringCount c_t_walks_pointKeys_r c_t_walks_firstFlags_r c_t_walks_flagPoints_r c_t_walks_flagLines_r c_t_walks_nexts_r c_t_walks_befores_r c_t_walks_walk_r c_t_walks_places_r c_t_walks_ringStarts_r c_t_walks_ringSizes_r c_t_walks_meeting_count c_t_walks_meeting_lower c_t_walks_meeting_upper c_t_walks_meeting_start_x c_t_walks_meeting_start_y c_t_walks_meeting_start_z c_t_walks_meeting_end_x c_t_walks_meeting_end_y c_t_walks_meeting_end_z c_t_walks_meeting_found_x c_t_walks_meeting_found_y c_t_walks_meeting_found_z c_t_walks_level_x c_t_walks_level_y c_t_walks_level_z c_t_adding_closing c_t_adding_pointCount c_t_adding_acrosses_r c_t_adding_ups_r c_t_row_parts_r c_t_row_square_r m_t_p m_t_isLaid m_t_isGood m_t_points m_t_flags m_t_formX m_t_formY m_t_formZ m_t_isNought m_t_sumT m_t_sumY m_t_given_r m_t_c_r m_t_pointX_r m_t_pointY_r m_t_pointZ_r m_t_pointFlags_r m_t_flagPoint_r m_t_flagU_r m_t_flagV_r m_t_flagW_r m_t_next_r m_t_series_r m_t_mix_r m_t_cofactor_r m_t_square_r i1 hI
  obtain ⟨P, C, D, hp, eC, eD, ⟨rfl, hN⟩, ⟨rfl, rfl, rfl, rfl, rfl, rfl⟩, ⟨rfl, rfl, rfl, rfl, rfl, rfl⟩, ⟨rfl, rfl, rfl, rfl, rfl, rfl⟩, ⟨rfl, rfl, rfl, rfl, rfl, rfl⟩, ⟨rfl, rfl, rfl, rfl⟩, hW, hA, hR, ⟨rfl, gC, gD⟩, hL⟩ := hI
  have := nz_of hp
  have hb := pr_rng hp
  rcases num_c hp i1 with ⟨x, x1, rfl, x3, x4⟩ | ⟨x3, x4⟩
  · have hx := el_eq x1
    have xx := el_32 hp x1
    have x0 := x1.1
    have xl := x1.2
    have r9 : fX9_rootOf (iI P) (iI x) = some (iI (rt P x.toNat)) := by
      have := e_root9 hp (x := x.toNat) (by omega)
      rw [Int.toNat_of_nonneg x0] at this; exact this
    refine ⟨(iI (rt P x.toNat)), ?_, ?_, ?_⟩
    · unfold fX8_root
      rw [x3, b1_s, if_neg (by decide), e_root hp hN (by omega) (by omega), b1_s, hx]
    · unfold fX9_root
      rw [x4, b1_s, if_neg (by decide), r9, b1_s]
    · exact ⟨P, C, D, hp, eC, eD, ⟨rfl, hN⟩, ⟨rfl, rfl, rfl, rfl, rfl, rfl⟩, ⟨rfl, rfl, rfl, rfl, rfl, rfl⟩, ⟨rfl, rfl, rfl, rfl, rfl, rfl⟩, ⟨rfl, rfl, rfl, rfl, rfl, rfl⟩, ⟨rfl, rfl, rfl, rfl⟩, hW, hA, hR, ⟨rfl, gC, gD⟩, hL⟩
  · refine ⟨(-2), ?_, ?_, ?_⟩
    · unfold fX8_root
      rw [x3, b1_s, if_pos (by decide)]
    · unfold fX9_root
      rw [x4, b1_s, if_pos (by decide)]
    · exact ⟨P, C, D, hp, eC, eD, ⟨rfl, hN⟩, ⟨rfl, rfl, rfl, rfl, rfl, rfl⟩, ⟨rfl, rfl, rfl, rfl, rfl, rfl⟩, ⟨rfl, rfl, rfl, rfl, rfl, rfl⟩, ⟨rfl, rfl, rfl, rfl, rfl, rfl⟩, ⟨rfl, rfl, rfl, rfl⟩, hW, hA, hR, ⟨rfl, gC, gD⟩, hL⟩
set_option maxHeartbeats 2000000 in
set_option maxRecDepth 10000 in
theorem s_cubic : Step_cubic WInv := by
  intro c_t_walksKnown c_t_addingKnown c_t_rowKnown c_N_p c_N_inverses_r c_N_roots_r c_t_outer_a c_t_outer_b c_t_outer_c c_t_outer_d c_t_outer_e c_t_outer_f c_t_outerCofactors_a c_t_outerCofactors_b c_t_outerCofactors_c c_t_outerCofactors_d c_t_outerCofactors_e c_t_outerCofactors_f c_t_inner_a c_t_inner_b c_t_inner_c c_t_inner_d c_t_inner_e c_t_inner_f c_t_innerCofactors_a c_t_innerCofactors_b c_t_innerCofactors_c c_t_innerCofactors_d c_t_innerCofactors_e c_t_innerCofactors_f c_t_mixed_a c_t_mixed_b c_t_mixed_c c_t_mixed_d c_t_mixed_e c_t_mixed_f c_t_mixedCofactors_a c_t_mixedCofactors_b c_t_mixedCofactors_c c_t_mixedCofactors_d c_t_mixedCofactors_e c_t_mixedCofactors_f c_t_here_x c_t_here_y c_t_here_z c_t_there_x c_t_there_y c_t_there_z c_t_line_x c_t_line_y c_t_line_z c_t_pencil_c0 c_t_pencil_c1 c_t_pencil_c2 c_t_pencil_c3 c_t_walks_pointCount c_t_walks_flagCount c_t_walks_ringCount c_t_walks_pointKeys_r c_t_walks_firstFlags_r c_t_walks_flagPoints_r c_t_walks_flagLines_r c_t_walks_nexts_r c_t_walks_befores_r c_t_walks_walk_r c_t_walks_places_r c_t_walks_ringStarts_r c_t_walks_ringSizes_r c_t_walks_meeting_count c_t_walks_meeting_lower c_t_walks_meeting_upper c_t_walks_meeting_start_x c_t_walks_meeting_start_y c_t_walks_meeting_start_z c_t_walks_meeting_end_x c_t_walks_meeting_end_y c_t_walks_meeting_end_z c_t_walks_meeting_found_x c_t_walks_meeting_found_y c_t_walks_meeting_found_z c_t_walks_level_x c_t_walks_level_y c_t_walks_level_z c_t_adding_closing c_t_adding_pointCount c_t_adding_acrosses_r c_t_adding_ups_r c_t_row_parts_r c_t_row_square_r m_t_p m_t_isLaid m_t_isGood m_t_points m_t_flags m_t_formX m_t_formY m_t_formZ m_t_isNought m_t_sumT m_t_sumY m_t_given_r m_t_c_r m_t_pointX_r m_t_pointY_r m_t_pointZ_r m_t_pointFlags_r m_t_flagPoint_r m_t_flagU_r m_t_flagV_r m_t_flagW_r m_t_next_r m_t_series_r m_t_mix_r m_t_cofactor_r m_t_square_r i1 hI
  obtain ⟨P, C, D, hp, eC, eD, ⟨rfl, hN⟩, ⟨rfl, rfl, rfl, rfl, rfl, rfl⟩, ⟨rfl, rfl, rfl, rfl, rfl, rfl⟩, ⟨rfl, rfl, rfl, rfl, rfl, rfl⟩, ⟨rfl, rfl, rfl, rfl, rfl, rfl⟩, ⟨rfl, rfl, rfl, rfl⟩, hW, hA, hR, ⟨rfl, gC, gD⟩, hL⟩ := hI
  have := nz_of hp
  have hb := pr_rng hp
  rcases in_c 0 4 (by omega) (by omega) i1 with ⟨k, -, k2, rfl, k4⟩ | ⟨z, rfl, z1, z2, z3, k4⟩
  · have k4 : fX9_in (iI (k : Nat)) 0 4 = some 1 := k4
    obtain ⟨c1, q1, h1, h2, h3⟩ := e_lay9 hp (c := m_t_c_r) (k := m_t_cofactor_r) gC gD eC eD
    have hL2 : GL P C D m_t_isLaid m_t_isGood m_t_points m_t_flags c1 m_t_pointX_r m_t_pointY_r m_t_pointZ_r m_t_pointFlags_r m_t_flagPoint_r m_t_flagU_r m_t_flagV_r m_t_flagW_r m_t_next_r m_t_series_r := by
      rcases hL with hL | hL | ⟨q1, q2, q3, q4, q5, -, q7⟩
      · exact Or.inl hL
      · exact Or.inr (Or.inl hL)
      · exact Or.inr (Or.inr ⟨q1, q2, q3, q4, q5, h1, q7⟩)
    rcases (show k = 0 ∨ k = 1 ∨ k = 2 ∨ k = 3 ∨ k = 4 by omega) with rfl | rfl | rfl | rfl | rfl
    · refine ⟨(iI (cu P C D 0)), c1, q1, ?_, ?_, ?_⟩
      · unfold fX8_cubic fX0_part
        rw [if_neg (by decide), if_pos (by decide), if_neg (by decide), if_pos (by decide), b1_s]
      · unfold fX9_cubic
        rw [k4, b1_s, if_neg (by decide), h3, b2_s, if_neg (by decide), nld (by omega) (by omega), b1_s, h1 0 (by omega)]
      · exact ⟨P, C, D, hp, eC, eD, ⟨rfl, hN⟩, ⟨rfl, rfl, rfl, rfl, rfl, rfl⟩, ⟨rfl, rfl, rfl, rfl, rfl, rfl⟩, ⟨rfl, rfl, rfl, rfl, rfl, rfl⟩, ⟨rfl, rfl, rfl, rfl, rfl, rfl⟩, ⟨rfl, rfl, rfl, rfl⟩, hW, hA, hR, ⟨rfl, gC, gD⟩, hL2⟩
    · refine ⟨(iI (cu P C D 1)), c1, q1, ?_, ?_, ?_⟩
      · unfold fX8_cubic fX0_part
        rw [if_neg (by decide), if_pos (by decide), if_neg (by decide), if_neg (by decide), if_pos (by decide), b1_s]
      · unfold fX9_cubic
        rw [k4, b1_s, if_neg (by decide), h3, b2_s, if_neg (by decide), nld (by omega) (by omega), b1_s, h1 1 (by omega)]
      · exact ⟨P, C, D, hp, eC, eD, ⟨rfl, hN⟩, ⟨rfl, rfl, rfl, rfl, rfl, rfl⟩, ⟨rfl, rfl, rfl, rfl, rfl, rfl⟩, ⟨rfl, rfl, rfl, rfl, rfl, rfl⟩, ⟨rfl, rfl, rfl, rfl, rfl, rfl⟩, ⟨rfl, rfl, rfl, rfl⟩, hW, hA, hR, ⟨rfl, gC, gD⟩, hL2⟩
    · refine ⟨(iI (cu P C D 2)), c1, q1, ?_, ?_, ?_⟩
      · unfold fX8_cubic fX0_part
        rw [if_neg (by decide), if_pos (by decide), if_neg (by decide), if_neg (by decide), if_neg (by decide), if_pos (by decide), b1_s]
      · unfold fX9_cubic
        rw [k4, b1_s, if_neg (by decide), h3, b2_s, if_neg (by decide), nld (by omega) (by omega), b1_s, h1 2 (by omega)]
      · exact ⟨P, C, D, hp, eC, eD, ⟨rfl, hN⟩, ⟨rfl, rfl, rfl, rfl, rfl, rfl⟩, ⟨rfl, rfl, rfl, rfl, rfl, rfl⟩, ⟨rfl, rfl, rfl, rfl, rfl, rfl⟩, ⟨rfl, rfl, rfl, rfl, rfl, rfl⟩, ⟨rfl, rfl, rfl, rfl⟩, hW, hA, hR, ⟨rfl, gC, gD⟩, hL2⟩
    · refine ⟨(iI (cu P C D 3)), c1, q1, ?_, ?_, ?_⟩
      · unfold fX8_cubic fX0_part
        rw [if_neg (by decide), if_pos (by decide), if_neg (by decide), if_neg (by decide), if_neg (by decide), if_neg (by decide), if_pos (by decide), b1_s]
      · unfold fX9_cubic
        rw [k4, b1_s, if_neg (by decide), h3, b2_s, if_neg (by decide), nld (by omega) (by omega), b1_s, h1 3 (by omega)]
      · exact ⟨P, C, D, hp, eC, eD, ⟨rfl, hN⟩, ⟨rfl, rfl, rfl, rfl, rfl, rfl⟩, ⟨rfl, rfl, rfl, rfl, rfl, rfl⟩, ⟨rfl, rfl, rfl, rfl, rfl, rfl⟩, ⟨rfl, rfl, rfl, rfl, rfl, rfl⟩, ⟨rfl, rfl, rfl, rfl⟩, hW, hA, hR, ⟨rfl, gC, gD⟩, hL2⟩
    · refine ⟨(iI (dsc P (cu P C D))), c1, q1, ?_, ?_, ?_⟩
      · unfold fX8_cubic
        rw [if_neg (by decide), if_pos (by decide), if_pos (by decide), e_disc hp (cu_el hp C D), b1_s]
      · unfold fX9_cubic
        rw [k4, b1_s, if_neg (by decide), h3, b2_s, if_pos (by decide), e_disc9 hp h1 (cu_el hp C D), b1_s]
      · exact ⟨P, C, D, hp, eC, eD, ⟨rfl, hN⟩, ⟨rfl, rfl, rfl, rfl, rfl, rfl⟩, ⟨rfl, rfl, rfl, rfl, rfl, rfl⟩, ⟨rfl, rfl, rfl, rfl, rfl, rfl⟩, ⟨rfl, rfl, rfl, rfl, rfl, rfl⟩, ⟨rfl, rfl, rfl, rfl⟩, hW, hA, hR, ⟨rfl, gC, gD⟩, hL2⟩
  · have k4 : fX9_in (iI z) 0 4 = some 0 := k4
    rcases z3 with z3 | z3
    · refine ⟨(-2), m_t_c_r, m_t_cofactor_r, ?_, ?_, ?_⟩
      · unfold fX8_cubic
        rw [if_pos (by rw [show (0 : Int32) = iI 0 from rfl, iI_lt (by omega) (by omega) (by omega) (by omega)]; omega)]
      · unfold fX9_cubic
        rw [k4, b1_s, if_pos (by decide)]
      · exact ⟨P, C, D, hp, eC, eD, ⟨rfl, hN⟩, ⟨rfl, rfl, rfl, rfl, rfl, rfl⟩, ⟨rfl, rfl, rfl, rfl, rfl, rfl⟩, ⟨rfl, rfl, rfl, rfl, rfl, rfl⟩, ⟨rfl, rfl, rfl, rfl, rfl, rfl⟩, ⟨rfl, rfl, rfl, rfl⟩, hW, hA, hR, ⟨rfl, gC, gD⟩, hL⟩
    · refine ⟨(-2), m_t_c_r, m_t_cofactor_r, ?_, ?_, ?_⟩
      · unfold fX8_cubic
        rw [if_neg (by rw [show (0 : Int32) = iI 0 from rfl, iI_lt (by omega) (by omega) (by omega) (by omega)]; omega), if_neg (by rw [show (4 : Int32) = iI 4 from rfl, iI_le (by omega) (by omega) (by omega) (by omega)]; omega)]
      · unfold fX9_cubic
        rw [k4, b1_s, if_pos (by decide)]
      · exact ⟨P, C, D, hp, eC, eD, ⟨rfl, hN⟩, ⟨rfl, rfl, rfl, rfl, rfl, rfl⟩, ⟨rfl, rfl, rfl, rfl, rfl, rfl⟩, ⟨rfl, rfl, rfl, rfl, rfl, rfl⟩, ⟨rfl, rfl, rfl, rfl, rfl, rfl⟩, ⟨rfl, rfl, rfl, rfl⟩, hW, hA, hR, ⟨rfl, gC, gD⟩, hL⟩
set_option maxHeartbeats 2000000 in
set_option maxRecDepth 10000 in
theorem s_good : Step_good WInv := by
  intro c_t_walksKnown c_t_addingKnown c_t_rowKnown c_N_p c_N_inverses_r c_N_roots_r c_t_outer_a c_t_outer_b c_t_outer_c c_t_outer_d c_t_outer_e c_t_outer_f c_t_outerCofactors_a c_t_outerCofactors_b c_t_outerCofactors_c c_t_outerCofactors_d c_t_outerCofactors_e c_t_outerCofactors_f c_t_inner_a c_t_inner_b c_t_inner_c c_t_inner_d c_t_inner_e c_t_inner_f c_t_innerCofactors_a c_t_innerCofactors_b c_t_innerCofactors_c c_t_innerCofactors_d c_t_innerCofactors_e c_t_innerCofactors_f c_t_mixed_a c_t_mixed_b c_t_mixed_c c_t_mixed_d c_t_mixed_e c_t_mixed_f c_t_mixedCofactors_a c_t_mixedCofactors_b c_t_mixedCofactors_c c_t_mixedCofactors_d c_t_mixedCofactors_e c_t_mixedCofactors_f c_t_here_x c_t_here_y c_t_here_z c_t_there_x c_t_there_y c_t_there_z c_t_line_x c_t_line_y c_t_line_z c_t_pencil_c0 c_t_pencil_c1 c_t_pencil_c2 c_t_pencil_c3 c_t_walks_pointCount c_t_walks_flagCount c_t_walks_ringCount c_t_walks_pointKeys_r c_t_walks_firstFlags_r c_t_walks_flagPoints_r c_t_walks_flagLines_r c_t_walks_nexts_r c_t_walks_befores_r c_t_walks_walk_r c_t_walks_places_r c_t_walks_ringStarts_r c_t_walks_ringSizes_r c_t_walks_meeting_count c_t_walks_meeting_lower c_t_walks_meeting_upper c_t_walks_meeting_start_x c_t_walks_meeting_start_y c_t_walks_meeting_start_z c_t_walks_meeting_end_x c_t_walks_meeting_end_y c_t_walks_meeting_end_z c_t_walks_meeting_found_x c_t_walks_meeting_found_y c_t_walks_meeting_found_z c_t_walks_level_x c_t_walks_level_y c_t_walks_level_z c_t_adding_closing c_t_adding_pointCount c_t_adding_acrosses_r c_t_adding_ups_r c_t_row_parts_r c_t_row_square_r m_t_p m_t_isLaid m_t_isGood m_t_points m_t_flags m_t_formX m_t_formY m_t_formZ m_t_isNought m_t_sumT m_t_sumY m_t_given_r m_t_c_r m_t_pointX_r m_t_pointY_r m_t_pointZ_r m_t_pointFlags_r m_t_flagPoint_r m_t_flagU_r m_t_flagV_r m_t_flagW_r m_t_next_r m_t_series_r m_t_mix_r m_t_cofactor_r m_t_square_r hI
  obtain ⟨P, C, D, hp, eC, eD, ⟨rfl, hN⟩, ⟨rfl, rfl, rfl, rfl, rfl, rfl⟩, ⟨rfl, rfl, rfl, rfl, rfl, rfl⟩, ⟨rfl, rfl, rfl, rfl, rfl, rfl⟩, ⟨rfl, rfl, rfl, rfl, rfl, rfl⟩, ⟨rfl, rfl, rfl, rfl⟩, hW, hA, hR, ⟨rfl, gC, gD⟩, hL⟩ := hI
  have := nz_of hp
  have hb := pr_rng hp
  rcases e_ig hp eC eD gC gD hL m_t_formX m_t_formY m_t_formZ m_t_cofactor_r with ⟨hg, lp, lf, g1, g2, g3, lc, lX, lY, lZ, lPF, lQ, lU, lV, lW, ln, ls, lk, hLO, eig⟩ | ⟨hg, lc, lk, eig⟩
  · obtain ⟨rfl, rfl, q3, qX, qY, qZ, qPF, qT, qn, qs⟩ := id hLO
    rcases e_good hp (cu_el hp C D) with ⟨-, eg⟩ | ⟨hg2, -⟩
    · refine ⟨1, (iI ((FL P C D).length : Nat)), g1, g2, g3, 1, 1, (iI ((PT P C).length : Nat)), lc, lk, lQ, lU, lV, lW, ln, lPF, lX, lY, lZ, ls, ?_, ?_, ?_⟩
      · unfold fX8_good
        rw [eg, b1_s, if_neg (by decide)]
      · unfold fX9_good
        rw [eig, b20_s, if_neg (by decide)]
      · exact ⟨P, C, D, hp, eC, eD, ⟨rfl, hN⟩, ⟨rfl, rfl, rfl, rfl, rfl, rfl⟩, ⟨rfl, rfl, rfl, rfl, rfl, rfl⟩, ⟨rfl, rfl, rfl, rfl, rfl, rfl⟩, ⟨rfl, rfl, rfl, rfl, rfl, rfl⟩, ⟨rfl, rfl, rfl, rfl⟩, hW, hA, hR, ⟨rfl, gC, gD⟩, (Or.inr (Or.inr ⟨rfl, rfl, hg, hLO⟩))⟩
    · exact absurd hg hg2
  · rcases e_good hp (cu_el hp C D) with ⟨hg2, -⟩ | ⟨-, eg⟩
    · exact absurd hg2 hg
    · refine ⟨0, m_t_flags, m_t_formX, m_t_formY, m_t_formZ, 0, 1, m_t_points, lc, lk, m_t_flagPoint_r, m_t_flagU_r, m_t_flagV_r, m_t_flagW_r, m_t_next_r, m_t_pointFlags_r, m_t_pointX_r, m_t_pointY_r, m_t_pointZ_r, m_t_series_r, ?_, ?_, ?_⟩
      · unfold fX8_good
        rw [eg, b1_s, if_pos (by decide)]
      · unfold fX9_good
        rw [eig, b20_s, if_pos (by decide)]
      · exact ⟨P, C, D, hp, eC, eD, ⟨rfl, hN⟩, ⟨rfl, rfl, rfl, rfl, rfl, rfl⟩, ⟨rfl, rfl, rfl, rfl, rfl, rfl⟩, ⟨rfl, rfl, rfl, rfl, rfl, rfl⟩, ⟨rfl, rfl, rfl, rfl, rfl, rfl⟩, ⟨rfl, rfl, rfl, rfl⟩, hW, hA, hR, ⟨rfl, gC, gD⟩, (Or.inr (Or.inl ⟨rfl, rfl, hg⟩))⟩
set_option maxHeartbeats 2000000 in
set_option maxRecDepth 10000 in
theorem s_on : Step_on WInv := by
  intro c_t_walksKnown c_t_addingKnown c_t_rowKnown c_N_p c_N_inverses_r c_N_roots_r c_t_outer_a c_t_outer_b c_t_outer_c c_t_outer_d c_t_outer_e c_t_outer_f c_t_outerCofactors_a c_t_outerCofactors_b c_t_outerCofactors_c c_t_outerCofactors_d c_t_outerCofactors_e c_t_outerCofactors_f c_t_inner_a c_t_inner_b c_t_inner_c c_t_inner_d c_t_inner_e c_t_inner_f c_t_innerCofactors_a c_t_innerCofactors_b c_t_innerCofactors_c c_t_innerCofactors_d c_t_innerCofactors_e c_t_innerCofactors_f c_t_mixed_a c_t_mixed_b c_t_mixed_c c_t_mixed_d c_t_mixed_e c_t_mixed_f c_t_mixedCofactors_a c_t_mixedCofactors_b c_t_mixedCofactors_c c_t_mixedCofactors_d c_t_mixedCofactors_e c_t_mixedCofactors_f c_t_here_x c_t_here_y c_t_here_z c_t_there_x c_t_there_y c_t_there_z c_t_line_x c_t_line_y c_t_line_z c_t_pencil_c0 c_t_pencil_c1 c_t_pencil_c2 c_t_pencil_c3 c_t_walks_pointCount c_t_walks_flagCount c_t_walks_ringCount c_t_walks_pointKeys_r c_t_walks_firstFlags_r c_t_walks_flagPoints_r c_t_walks_flagLines_r c_t_walks_nexts_r c_t_walks_befores_r c_t_walks_walk_r c_t_walks_places_r c_t_walks_ringStarts_r c_t_walks_ringSizes_r c_t_walks_meeting_count c_t_walks_meeting_lower c_t_walks_meeting_upper c_t_walks_meeting_start_x c_t_walks_meeting_start_y c_t_walks_meeting_start_z c_t_walks_meeting_end_x c_t_walks_meeting_end_y c_t_walks_meeting_end_z c_t_walks_meeting_found_x c_t_walks_meeting_found_y c_t_walks_meeting_found_z c_t_walks_level_x c_t_walks_level_y c_t_walks_level_z c_t_adding_closing c_t_adding_pointCount c_t_adding_acrosses_r c_t_adding_ups_r c_t_row_parts_r c_t_row_square_r m_t_p m_t_isLaid m_t_isGood m_t_points m_t_flags m_t_formX m_t_formY m_t_formZ m_t_isNought m_t_sumT m_t_sumY m_t_given_r m_t_c_r m_t_pointX_r m_t_pointY_r m_t_pointZ_r m_t_pointFlags_r m_t_flagPoint_r m_t_flagU_r m_t_flagV_r m_t_flagW_r m_t_next_r m_t_series_r m_t_mix_r m_t_cofactor_r m_t_square_r i1 i2 i3 i4 i5 hI
  obtain ⟨P, C, D, hp, eC, eD, ⟨rfl, hN⟩, ⟨rfl, rfl, rfl, rfl, rfl, rfl⟩, ⟨rfl, rfl, rfl, rfl, rfl, rfl⟩, ⟨rfl, rfl, rfl, rfl, rfl, rfl⟩, ⟨rfl, rfl, rfl, rfl, rfl, rfl⟩, ⟨rfl, rfl, rfl, rfl⟩, hW, hA, hR, ⟨rfl, gC, gD⟩, hL⟩ := hI
  have := nz_of hp
  have hb := pr_rng hp
  rcases num_c hp i1 with ⟨s, s1, rfl, s3, s4⟩ | ⟨s3, s4⟩
  · rcases num_c hp i2 with ⟨u, u1, rfl, u3, u4⟩ | ⟨u3, u4⟩
    · rcases num3_c hp i3 i4 i5 with ⟨x, y, z, ex, ey, ez, rfl, rfl, rfl, a1, a2, a3, a4⟩ | ⟨a1, a2⟩
      · obtain ⟨q1, hq, e1⟩ := e_mix9 hp (q := m_t_mix_r) gC gD eC eD s1 u1
        have e2 := e_both9 hp hq (n := 6) (by omega) (by omega) (mx_el hp s C u D) ex ey ez
        have e2 : fX9_both 6 (iI P) q1 0 (iI x) (iI y) (iI z) = _ := e2
        refine ⟨(iI (qf P (mx P s C u D) x y z)), (iI x), (iI y), (iI z), (iI (mx P s C u D 0)), (iI (mx P s C u D 1)), (iI (mx P s C u D 2)), (iI (mx P s C u D 3)), (iI (mx P s C u D 4)), (iI (mx P s C u D 5)), q1, ?_, ?_, ?_⟩
        · unfold fX8_on
          rw [s3, b1_s, if_neg (by decide), u3, b1_s, if_neg (by decide), a1, b1_s, if_neg (by decide), e_mix hp _ _ _ _ _ _ eC eD s1 u1, b6_s, e_ttake hp _ _ _ (bd_el hp ex) (bd_el hp ey) (bd_el hp ez) (by decide), b3_s, el_eq ex, el_eq ey, el_eq ez, e_at hp (mx_el hp s C u D) ex ey ez, b1_s]
        · unfold fX9_on
          rw [s4, b1_s, if_neg (by decide), u4, b1_s, if_neg (by decide), a2, b1_s, if_neg (by decide), a3, b1_s, if_neg (by decide), a4, b1_s, if_neg (by decide), e1, b1_s, e2, b1_s]
        · exact ⟨P, C, D, hp, eC, eD, ⟨rfl, hN⟩, ⟨rfl, rfl, rfl, rfl, rfl, rfl⟩, ⟨rfl, rfl, rfl, rfl, rfl, rfl⟩, ⟨rfl, rfl, rfl, rfl, rfl, rfl⟩, ⟨rfl, rfl, rfl, rfl, rfl, rfl⟩, ⟨rfl, rfl, rfl, rfl⟩, hW, hA, hR, ⟨rfl, gC, gD⟩, hL⟩
      · refine ⟨(-2), c_t_here_x, c_t_here_y, c_t_here_z, c_t_mixed_a, c_t_mixed_b, c_t_mixed_c, c_t_mixed_d, c_t_mixed_e, c_t_mixed_f, m_t_mix_r, ?_, ?_, ?_⟩
        · unfold fX8_on
          rw [s3, b1_s, if_neg (by decide), u3, b1_s, if_neg (by decide), a1, b1_s, if_pos (by decide)]
        · unfold fX9_on
          rw [s4, b1_s, if_neg (by decide), u4, b1_s, if_neg (by decide)]
          rcases a2 with a2 | ⟨a2, a3⟩ | ⟨a2, a3, a4⟩
          · rw [a2, b1_s, if_pos (by decide)]
          · rw [a2, b1_s, if_neg (by decide), a3, b1_s, if_pos (by decide)]
          · rw [a2, b1_s, if_neg (by decide), a3, b1_s, if_neg (by decide), a4, b1_s, if_pos (by decide)]
        · exact ⟨P, C, D, hp, eC, eD, ⟨rfl, hN⟩, ⟨rfl, rfl, rfl, rfl, rfl, rfl⟩, ⟨rfl, rfl, rfl, rfl, rfl, rfl⟩, ⟨rfl, rfl, rfl, rfl, rfl, rfl⟩, ⟨rfl, rfl, rfl, rfl, rfl, rfl⟩, ⟨rfl, rfl, rfl, rfl⟩, hW, hA, hR, ⟨rfl, gC, gD⟩, hL⟩
    · refine ⟨(-2), c_t_here_x, c_t_here_y, c_t_here_z, c_t_mixed_a, c_t_mixed_b, c_t_mixed_c, c_t_mixed_d, c_t_mixed_e, c_t_mixed_f, m_t_mix_r, ?_, ?_, ?_⟩
      · unfold fX8_on
        rw [s3, b1_s, if_neg (by decide), u3, b1_s, if_pos (by decide)]
      · unfold fX9_on
        rw [s4, b1_s, if_neg (by decide), u4, b1_s, if_pos (by decide)]
      · exact ⟨P, C, D, hp, eC, eD, ⟨rfl, hN⟩, ⟨rfl, rfl, rfl, rfl, rfl, rfl⟩, ⟨rfl, rfl, rfl, rfl, rfl, rfl⟩, ⟨rfl, rfl, rfl, rfl, rfl, rfl⟩, ⟨rfl, rfl, rfl, rfl, rfl, rfl⟩, ⟨rfl, rfl, rfl, rfl⟩, hW, hA, hR, ⟨rfl, gC, gD⟩, hL⟩
  · refine ⟨(-2), c_t_here_x, c_t_here_y, c_t_here_z, c_t_mixed_a, c_t_mixed_b, c_t_mixed_c, c_t_mixed_d, c_t_mixed_e, c_t_mixed_f, m_t_mix_r, ?_, ?_, ?_⟩
    · unfold fX8_on
      rw [s3, b1_s, if_pos (by decide)]
    · unfold fX9_on
      rw [s4, b1_s, if_pos (by decide)]
    · exact ⟨P, C, D, hp, eC, eD, ⟨rfl, hN⟩, ⟨rfl, rfl, rfl, rfl, rfl, rfl⟩, ⟨rfl, rfl, rfl, rfl, rfl, rfl⟩, ⟨rfl, rfl, rfl, rfl, rfl, rfl⟩, ⟨rfl, rfl, rfl, rfl, rfl, rfl⟩, ⟨rfl, rfl, rfl, rfl⟩, hW, hA, hR, ⟨rfl, gC, gD⟩, hL⟩
set_option maxHeartbeats 2000000 in
set_option maxRecDepth 10000 in
theorem s_touches : Step_touches WInv := by
  intro c_t_walksKnown c_t_addingKnown c_t_rowKnown c_N_p c_N_inverses_r c_N_roots_r c_t_outer_a c_t_outer_b c_t_outer_c c_t_outer_d c_t_outer_e c_t_outer_f c_t_outerCofactors_a c_t_outerCofactors_b c_t_outerCofactors_c c_t_outerCofactors_d c_t_outerCofactors_e c_t_outerCofactors_f c_t_inner_a c_t_inner_b c_t_inner_c c_t_inner_d c_t_inner_e c_t_inner_f c_t_innerCofactors_a c_t_innerCofactors_b c_t_innerCofactors_c c_t_innerCofactors_d c_t_innerCofactors_e c_t_innerCofactors_f c_t_mixed_a c_t_mixed_b c_t_mixed_c c_t_mixed_d c_t_mixed_e c_t_mixed_f c_t_mixedCofactors_a c_t_mixedCofactors_b c_t_mixedCofactors_c c_t_mixedCofactors_d c_t_mixedCofactors_e c_t_mixedCofactors_f c_t_here_x c_t_here_y c_t_here_z c_t_there_x c_t_there_y c_t_there_z c_t_line_x c_t_line_y c_t_line_z c_t_pencil_c0 c_t_pencil_c1 c_t_pencil_c2 c_t_pencil_c3 c_t_walks_pointCount c_t_walks_flagCount c_t_walks_ringCount c_t_walks_pointKeys_r c_t_walks_firstFlags_r c_t_walks_flagPoints_r c_t_walks_flagLines_r c_t_walks_nexts_r c_t_walks_befores_r c_t_walks_walk_r c_t_walks_places_r c_t_walks_ringStarts_r c_t_walks_ringSizes_r c_t_walks_meeting_count c_t_walks_meeting_lower c_t_walks_meeting_upper c_t_walks_meeting_start_x c_t_walks_meeting_start_y c_t_walks_meeting_start_z c_t_walks_meeting_end_x c_t_walks_meeting_end_y c_t_walks_meeting_end_z c_t_walks_meeting_found_x c_t_walks_meeting_found_y c_t_walks_meeting_found_z c_t_walks_level_x c_t_walks_level_y c_t_walks_level_z c_t_adding_closing c_t_adding_pointCount c_t_adding_acrosses_r c_t_adding_ups_r c_t_row_parts_r c_t_row_square_r m_t_p m_t_isLaid m_t_isGood m_t_points m_t_flags m_t_formX m_t_formY m_t_formZ m_t_isNought m_t_sumT m_t_sumY m_t_given_r m_t_c_r m_t_pointX_r m_t_pointY_r m_t_pointZ_r m_t_pointFlags_r m_t_flagPoint_r m_t_flagU_r m_t_flagV_r m_t_flagW_r m_t_next_r m_t_series_r m_t_mix_r m_t_cofactor_r m_t_square_r i1 i2 i3 i4 i5 hI
  obtain ⟨P, C, D, hp, eC, eD, ⟨rfl, hN⟩, ⟨rfl, rfl, rfl, rfl, rfl, rfl⟩, ⟨rfl, rfl, rfl, rfl, rfl, rfl⟩, ⟨rfl, rfl, rfl, rfl, rfl, rfl⟩, ⟨rfl, rfl, rfl, rfl, rfl, rfl⟩, ⟨rfl, rfl, rfl, rfl⟩, hW, hA, hR, ⟨rfl, gC, gD⟩, hL⟩ := hI
  have := nz_of hp
  have hb := pr_rng hp
  rcases num_c hp i1 with ⟨s, s1, rfl, s3, s4⟩ | ⟨s3, s4⟩
  · rcases num_c hp i2 with ⟨u, u1, rfl, u3, u4⟩ | ⟨u3, u4⟩
    · rcases num3_c hp i3 i4 i5 with ⟨x, y, z, ex, ey, ez, rfl, rfl, rfl, a1, a2, a3, a4⟩ | ⟨a1, a2⟩
      · obtain ⟨k1, q1, -, -, e1⟩ := e_touch9 hp (k := m_t_cofactor_r) (q := m_t_mix_r) gC gD eC eD s1 u1 ex ey ez
        refine ⟨(iI (qf P (cof P (mx P s C u D)) x y z)), (iI x), (iI y), (iI z), (iI (mx P s C u D 0)), (iI (mx P s C u D 1)), (iI (mx P s C u D 2)), (iI (mx P s C u D 3)), (iI (mx P s C u D 4)), (iI (mx P s C u D 5)), (iI (cof P (mx P s C u D) 0)), (iI (cof P (mx P s C u D) 1)), (iI (cof P (mx P s C u D) 2)), (iI (cof P (mx P s C u D) 3)), (iI (cof P (mx P s C u D) 4)), (iI (cof P (mx P s C u D) 5)), k1, q1, ?_, ?_, ?_⟩
        · unfold fX8_touches
          rw [s3, b1_s, if_neg (by decide), u3, b1_s, if_neg (by decide), a1, b1_s, if_neg (by decide), e_mtouch hp eC eD s1 u1, b12_s, e_ttake hp _ _ _ (bd_el hp ex) (bd_el hp ey) (bd_el hp ez) (by decide), b3_s, el_eq ex, el_eq ey, el_eq ez, e_at hp (cof_el hp _) ex ey ez, b1_s]
        · unfold fX9_touches
          rw [s4, b1_s, if_neg (by decide), u4, b1_s, if_neg (by decide), a2, b1_s, if_neg (by decide), a3, b1_s, if_neg (by decide), a4, b1_s, if_neg (by decide), e1, b3_s]
        · exact ⟨P, C, D, hp, eC, eD, ⟨rfl, hN⟩, ⟨rfl, rfl, rfl, rfl, rfl, rfl⟩, ⟨rfl, rfl, rfl, rfl, rfl, rfl⟩, ⟨rfl, rfl, rfl, rfl, rfl, rfl⟩, ⟨rfl, rfl, rfl, rfl, rfl, rfl⟩, ⟨rfl, rfl, rfl, rfl⟩, hW, hA, hR, ⟨rfl, gC, gD⟩, hL⟩
      · refine ⟨(-2), c_t_line_x, c_t_line_y, c_t_line_z, c_t_mixed_a, c_t_mixed_b, c_t_mixed_c, c_t_mixed_d, c_t_mixed_e, c_t_mixed_f, c_t_mixedCofactors_a, c_t_mixedCofactors_b, c_t_mixedCofactors_c, c_t_mixedCofactors_d, c_t_mixedCofactors_e, c_t_mixedCofactors_f, m_t_cofactor_r, m_t_mix_r, ?_, ?_, ?_⟩
        · unfold fX8_touches
          rw [s3, b1_s, if_neg (by decide), u3, b1_s, if_neg (by decide), a1, b1_s, if_pos (by decide)]
        · unfold fX9_touches
          rw [s4, b1_s, if_neg (by decide), u4, b1_s, if_neg (by decide)]
          rcases a2 with a2 | ⟨a2, a3⟩ | ⟨a2, a3, a4⟩
          · rw [a2, b1_s, if_pos (by decide)]
          · rw [a2, b1_s, if_neg (by decide), a3, b1_s, if_pos (by decide)]
          · rw [a2, b1_s, if_neg (by decide), a3, b1_s, if_neg (by decide), a4, b1_s, if_pos (by decide)]
        · exact ⟨P, C, D, hp, eC, eD, ⟨rfl, hN⟩, ⟨rfl, rfl, rfl, rfl, rfl, rfl⟩, ⟨rfl, rfl, rfl, rfl, rfl, rfl⟩, ⟨rfl, rfl, rfl, rfl, rfl, rfl⟩, ⟨rfl, rfl, rfl, rfl, rfl, rfl⟩, ⟨rfl, rfl, rfl, rfl⟩, hW, hA, hR, ⟨rfl, gC, gD⟩, hL⟩
    · refine ⟨(-2), c_t_line_x, c_t_line_y, c_t_line_z, c_t_mixed_a, c_t_mixed_b, c_t_mixed_c, c_t_mixed_d, c_t_mixed_e, c_t_mixed_f, c_t_mixedCofactors_a, c_t_mixedCofactors_b, c_t_mixedCofactors_c, c_t_mixedCofactors_d, c_t_mixedCofactors_e, c_t_mixedCofactors_f, m_t_cofactor_r, m_t_mix_r, ?_, ?_, ?_⟩
      · unfold fX8_touches
        rw [s3, b1_s, if_neg (by decide), u3, b1_s, if_pos (by decide)]
      · unfold fX9_touches
        rw [s4, b1_s, if_neg (by decide), u4, b1_s, if_pos (by decide)]
      · exact ⟨P, C, D, hp, eC, eD, ⟨rfl, hN⟩, ⟨rfl, rfl, rfl, rfl, rfl, rfl⟩, ⟨rfl, rfl, rfl, rfl, rfl, rfl⟩, ⟨rfl, rfl, rfl, rfl, rfl, rfl⟩, ⟨rfl, rfl, rfl, rfl, rfl, rfl⟩, ⟨rfl, rfl, rfl, rfl⟩, hW, hA, hR, ⟨rfl, gC, gD⟩, hL⟩
  · refine ⟨(-2), c_t_line_x, c_t_line_y, c_t_line_z, c_t_mixed_a, c_t_mixed_b, c_t_mixed_c, c_t_mixed_d, c_t_mixed_e, c_t_mixed_f, c_t_mixedCofactors_a, c_t_mixedCofactors_b, c_t_mixedCofactors_c, c_t_mixedCofactors_d, c_t_mixedCofactors_e, c_t_mixedCofactors_f, m_t_cofactor_r, m_t_mix_r, ?_, ?_, ?_⟩
    · unfold fX8_touches
      rw [s3, b1_s, if_pos (by decide)]
    · unfold fX9_touches
      rw [s4, b1_s, if_pos (by decide)]
    · exact ⟨P, C, D, hp, eC, eD, ⟨rfl, hN⟩, ⟨rfl, rfl, rfl, rfl, rfl, rfl⟩, ⟨rfl, rfl, rfl, rfl, rfl, rfl⟩, ⟨rfl, rfl, rfl, rfl, rfl, rfl⟩, ⟨rfl, rfl, rfl, rfl, rfl, rfl⟩, ⟨rfl, rfl, rfl, rfl⟩, hW, hA, hR, ⟨rfl, gC, gD⟩, hL⟩
