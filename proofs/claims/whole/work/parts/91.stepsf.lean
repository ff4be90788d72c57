/-! steps of the law: chords -/
set_option maxHeartbeats 2000000 in
set_option maxRecDepth 10000 in
theorem s_chord : Step_chord WInv := by
  intro c_t_walksKnown c_t_addingKnown c_t_rowKnown c_N_p c_N_inverses_r c_N_roots_r c_t_outer_a c_t_outer_b c_t_outer_c c_t_outer_d c_t_outer_e c_t_outer_f c_t_outerCofactors_a c_t_outerCofactors_b c_t_outerCofactors_c c_t_outerCofactors_d c_t_outerCofactors_e c_t_outerCofactors_f c_t_inner_a c_t_inner_b c_t_inner_c c_t_inner_d c_t_inner_e c_t_inner_f c_t_innerCofactors_a c_t_innerCofactors_b c_t_innerCofactors_c c_t_innerCofactors_d c_t_innerCofactors_e c_t_innerCofactors_f c_t_mixed_a c_t_mixed_b c_t_mixed_c c_t_mixed_d c_t_mixed_e c_t_mixed_f c_t_mixedCofactors_a c_t_mixedCofactors_b c_t_mixedCofactors_c c_t_mixedCofactors_d c_t_mixedCofactors_e c_t_mixedCofactors_f c_t_here_x c_t_here_y c_t_here_z c_t_there_x c_t_there_y c_t_there_z c_t_line_x c_t_line_y c_t_line_z c_t_pencil_c0 c_t_pencil_c1 c_t_pencil_c2 c_t_pencil_c3 c_t_walks_pointCount c_t_walks_flagCount c_t_walks_ringCount c_t_walks_pointKeys_r c_t_walks_firstFlags_r c_t_walks_flagPoints_r c_t_walks_flagLines_r c_t_walks_nexts_r c_t_walks_befores_r c_t_walks_walk_r c_t_walks_places_r c_t_walks_ringStarts_r c_t_walks_ringSizes_r c_t_walks_meeting_count c_t_walks_meeting_lower c_t_walks_meeting_upper c_t_walks_meeting_start_x c_t_walks_meeting_start_y c_t_walks_meeting_start_z c_t_walks_meeting_end_x c_t_walks_meeting_end_y c_t_walks_meeting_end_z c_t_walks_meeting_found_x c_t_walks_meeting_found_y c_t_walks_meeting_found_z c_t_walks_level_x c_t_walks_level_y c_t_walks_level_z c_t_adding_closing c_t_adding_pointCount c_t_adding_acrosses_r c_t_adding_ups_r c_t_row_parts_r c_t_row_square_r m_t_p m_t_isLaid m_t_isGood m_t_points m_t_flags m_t_formX m_t_formY m_t_formZ m_t_isNought m_t_sumT m_t_sumY m_t_given_r m_t_c_r m_t_pointX_r m_t_pointY_r m_t_pointZ_r m_t_pointFlags_r m_t_flagPoint_r m_t_flagU_r m_t_flagV_r m_t_flagW_r m_t_next_r m_t_series_r m_t_mix_r m_t_cofactor_r m_t_square_r i1 i2 i3 hI
  obtain ⟨P, C, D, hp, eC, eD, ⟨rfl, hN⟩, ⟨rfl, rfl, rfl, rfl, rfl, rfl⟩, ⟨rfl, rfl, rfl, rfl, rfl, rfl⟩, ⟨rfl, rfl, rfl, rfl, rfl, rfl⟩, ⟨rfl, rfl, rfl, rfl, rfl, rfl⟩, ⟨rfl, rfl, rfl, rfl⟩, hW, hA, hR, ⟨rfl, gC, gD⟩, hL⟩ := hI
  have := nz_of hp
  have hb := pr_rng hp
  rcases e_kw hp hN eC eD hW c_t_walks_level_x c_t_walks_level_y c_t_walks_level_z c_t_walks_meeting_count c_t_walks_meeting_lower c_t_walks_meeting_upper c_t_walks_meeting_end_x c_t_walks_meeting_end_y c_t_walks_meeting_end_z c_t_walks_meeting_found_x c_t_walks_meeting_found_y c_t_walks_meeting_found_z c_t_walks_meeting_start_x c_t_walks_meeting_start_y c_t_walks_meeting_start_z with ⟨hg, fc, pc, rc, kw0, kw1, kw2, kw3, kw4, kw5, kw6, kw7, kw8, kw9, sl, hWO, ekw⟩ | ⟨hg, ekw⟩
  · rcases e_ka hp hN hA with ⟨-, acl, apn, aac, aup, hAO, eka⟩ | ⟨hg3, -⟩
    · rcases e_ig hp eC eD gC gD hL m_t_formX m_t_formY m_t_formZ m_t_cofactor_r with ⟨-, lp, lf, g1, g2, g3, lc, lX, lY, lZ, lPF, lQ, lU, lV, lW, ln, ls, lk, hLO, eig⟩ | ⟨hg2, -⟩
      · obtain ⟨rfl, rfl, rfl, v4, v5, v6, v7, v8, v9⟩ := id hWO
        obtain ⟨rfl, rfl, q3, qX, qY, qZ, qPF, qT, qn, qs⟩ := id hLO
        obtain ⟨N, hO, rfl, rfl, hM⟩ := id hAO
        have h3 := bf3_ne hp (cu_el hp C D) hg.1 hg.2.1
        obtain ⟨hC, hD, l1, l2, ok, hper, hsur⟩ := gd_f hp eC hg
        rcases flag_c (FL P C D).length (by omega) i1 with ⟨f, hf, rfl, f3, f4⟩ | ⟨f3, f4⟩
        · rcases skip_c i2 with ⟨k, k2, rfl, k3, k4⟩ | ⟨k3, k4⟩
          · rcases in_c 0 3 (by omega) (by omega) i3 with ⟨w, -, w2, rfl, w4⟩ | ⟨z, rfl, z1, z2, z3, w4⟩
            · have w4 : fX9_in (iI (w : Nat)) 0 3 = some 1 := w4
              obtain ⟨sd, hd⟩ := e_draw hp hN eC hg hWO hf k2 c_t_here_x c_t_here_y c_t_here_z c_t_line_x c_t_line_y c_t_line_z c_t_there_x c_t_there_y c_t_there_z
              have on := e_onFrom9 l2 hper qn hf (show k ≤ 100000 by omega)
              have h9 := e_draw9 hp eC hg gC qX qY qZ qT (k := k) hf g1 g2 g3
              obtain ⟨ex, ey, ez⟩ := t_el hp (chd_le hp C D f k)
              rcases (show w = 0 ∨ w = 1 ∨ w = 2 ∨ w = 3 by omega) with rfl | rfl | rfl | rfl
              · refine ⟨(iI (tx P (chd P C D f k))), 1, 1, (iI (N : Nat)), (iI (cvn P (cu P C D) P : Nat)), aac, aup, (sd 0), (sd 1), (sd 2), (iI (tx P (chd P C D f k))), (iI (ty P (chd P C D f k))), (iI (tz P (chd P C D f k))), c_t_mixed_a, c_t_mixed_b, c_t_mixed_c, c_t_mixed_d, c_t_mixed_e, c_t_mixed_f, c_t_mixedCofactors_a, c_t_mixedCofactors_b, c_t_mixedCofactors_c, c_t_mixedCofactors_d, c_t_mixedCofactors_e, c_t_mixedCofactors_f, (sd 3), (sd 4), (sd 5), (iI ((FL P C D).length : Nat)), (iI ((PT P C).length : Nat)), (iI (((List.range (FL P C D).length).filter (lst (NX P C D) (FL P C D).length)).length : Nat)), kw0, kw1, kw2, kw3, (sl 0), (sl 1), (sl 2), (sl 3), (sl 4), (sl 5), (sl 6), (sl 7), (sl 8), (sl 9), (sl 10), (sl 11), (sl 12), (sl 13), (sl 14), kw4, kw5, kw6, kw7, kw8, kw9, (iI ((FL P C D).length : Nat)), (iI (tx P (chd P C D f k))), (iI (ty P (chd P C D f k))), (iI (tz P (chd P C D f k))), 1, 1, m_t_isNought, (iI ((PT P C).length : Nat)), m_t_sumT, m_t_sumY, lc, lk, lQ, lU, lV, lW, m_t_mix_r, ln, lPF, lX, lY, lZ, ls, ?_, ?_, ?_⟩
                · unfold fX8_chord fX7_part
                  rw [ekw, b30_s, if_neg (by decide), eka, b6_s, if_neg (by decide), f3, b1_s, if_neg (by decide), k3, b1_s, if_neg (by decide), if_neg (by decide), if_pos (by decide), hd, b9_s, if_neg (by decide), if_pos (by decide), b1_s]
                · unfold fX9_chord
                  rw [eig, b20_s, if_neg (by decide), f4, b1_s, if_neg (by decide), k4, b1_s, if_neg (by decide), w4, b1_s, if_neg (by decide), on, b1_s, h9, b3_s, if_neg (by decide), if_pos (by decide)]
                · exact ⟨P, C, D, hp, eC, eD, ⟨rfl, hN⟩, ⟨rfl, rfl, rfl, rfl, rfl, rfl⟩, ⟨rfl, rfl, rfl, rfl, rfl, rfl⟩, ⟨rfl, rfl, rfl, rfl, rfl, rfl⟩, ⟨rfl, rfl, rfl, rfl, rfl, rfl⟩, ⟨rfl, rfl, rfl, rfl⟩, (Or.inr ⟨rfl, hg, hWO⟩), (Or.inr ⟨rfl, hg, hAO⟩), hR, ⟨rfl, gC, gD⟩, (Or.inr (Or.inr ⟨rfl, rfl, hg, hLO⟩))⟩
              · refine ⟨(iI (ty P (chd P C D f k))), 1, 1, (iI (N : Nat)), (iI (cvn P (cu P C D) P : Nat)), aac, aup, (sd 0), (sd 1), (sd 2), (iI (tx P (chd P C D f k))), (iI (ty P (chd P C D f k))), (iI (tz P (chd P C D f k))), c_t_mixed_a, c_t_mixed_b, c_t_mixed_c, c_t_mixed_d, c_t_mixed_e, c_t_mixed_f, c_t_mixedCofactors_a, c_t_mixedCofactors_b, c_t_mixedCofactors_c, c_t_mixedCofactors_d, c_t_mixedCofactors_e, c_t_mixedCofactors_f, (sd 3), (sd 4), (sd 5), (iI ((FL P C D).length : Nat)), (iI ((PT P C).length : Nat)), (iI (((List.range (FL P C D).length).filter (lst (NX P C D) (FL P C D).length)).length : Nat)), kw0, kw1, kw2, kw3, (sl 0), (sl 1), (sl 2), (sl 3), (sl 4), (sl 5), (sl 6), (sl 7), (sl 8), (sl 9), (sl 10), (sl 11), (sl 12), (sl 13), (sl 14), kw4, kw5, kw6, kw7, kw8, kw9, (iI ((FL P C D).length : Nat)), (iI (tx P (chd P C D f k))), (iI (ty P (chd P C D f k))), (iI (tz P (chd P C D f k))), 1, 1, m_t_isNought, (iI ((PT P C).length : Nat)), m_t_sumT, m_t_sumY, lc, lk, lQ, lU, lV, lW, m_t_mix_r, ln, lPF, lX, lY, lZ, ls, ?_, ?_, ?_⟩
                · unfold fX8_chord fX7_part
                  rw [ekw, b30_s, if_neg (by decide), eka, b6_s, if_neg (by decide), f3, b1_s, if_neg (by decide), k3, b1_s, if_neg (by decide), if_neg (by decide), if_pos (by decide), hd, b9_s, if_neg (by decide), if_neg (by decide), if_pos (by decide), b1_s]
                · unfold fX9_chord
                  rw [eig, b20_s, if_neg (by decide), f4, b1_s, if_neg (by decide), k4, b1_s, if_neg (by decide), w4, b1_s, if_neg (by decide), on, b1_s, h9, b3_s, if_neg (by decide), if_neg (by decide), if_pos (by decide)]
                · exact ⟨P, C, D, hp, eC, eD, ⟨rfl, hN⟩, ⟨rfl, rfl, rfl, rfl, rfl, rfl⟩, ⟨rfl, rfl, rfl, rfl, rfl, rfl⟩, ⟨rfl, rfl, rfl, rfl, rfl, rfl⟩, ⟨rfl, rfl, rfl, rfl, rfl, rfl⟩, ⟨rfl, rfl, rfl, rfl⟩, (Or.inr ⟨rfl, hg, hWO⟩), (Or.inr ⟨rfl, hg, hAO⟩), hR, ⟨rfl, gC, gD⟩, (Or.inr (Or.inr ⟨rfl, rfl, hg, hLO⟩))⟩
              · refine ⟨(iI (tz P (chd P C D f k))), 1, 1, (iI (N : Nat)), (iI (cvn P (cu P C D) P : Nat)), aac, aup, (sd 0), (sd 1), (sd 2), (iI (tx P (chd P C D f k))), (iI (ty P (chd P C D f k))), (iI (tz P (chd P C D f k))), c_t_mixed_a, c_t_mixed_b, c_t_mixed_c, c_t_mixed_d, c_t_mixed_e, c_t_mixed_f, c_t_mixedCofactors_a, c_t_mixedCofactors_b, c_t_mixedCofactors_c, c_t_mixedCofactors_d, c_t_mixedCofactors_e, c_t_mixedCofactors_f, (sd 3), (sd 4), (sd 5), (iI ((FL P C D).length : Nat)), (iI ((PT P C).length : Nat)), (iI (((List.range (FL P C D).length).filter (lst (NX P C D) (FL P C D).length)).length : Nat)), kw0, kw1, kw2, kw3, (sl 0), (sl 1), (sl 2), (sl 3), (sl 4), (sl 5), (sl 6), (sl 7), (sl 8), (sl 9), (sl 10), (sl 11), (sl 12), (sl 13), (sl 14), kw4, kw5, kw6, kw7, kw8, kw9, (iI ((FL P C D).length : Nat)), (iI (tx P (chd P C D f k))), (iI (ty P (chd P C D f k))), (iI (tz P (chd P C D f k))), 1, 1, m_t_isNought, (iI ((PT P C).length : Nat)), m_t_sumT, m_t_sumY, lc, lk, lQ, lU, lV, lW, m_t_mix_r, ln, lPF, lX, lY, lZ, ls, ?_, ?_, ?_⟩
                · unfold fX8_chord fX7_part
                  rw [ekw, b30_s, if_neg (by decide), eka, b6_s, if_neg (by decide), f3, b1_s, if_neg (by decide), k3, b1_s, if_neg (by decide), if_neg (by decide), if_pos (by decide), hd, b9_s, if_neg (by decide), if_neg (by decide), if_neg (by decide), b1_s]
                · unfold fX9_chord
                  rw [eig, b20_s, if_neg (by decide), f4, b1_s, if_neg (by decide), k4, b1_s, if_neg (by decide), w4, b1_s, if_neg (by decide), on, b1_s, h9, b3_s, if_neg (by decide), if_neg (by decide), if_neg (by decide)]
                · exact ⟨P, C, D, hp, eC, eD, ⟨rfl, hN⟩, ⟨rfl, rfl, rfl, rfl, rfl, rfl⟩, ⟨rfl, rfl, rfl, rfl, rfl, rfl⟩, ⟨rfl, rfl, rfl, rfl, rfl, rfl⟩, ⟨rfl, rfl, rfl, rfl, rfl, rfl⟩, ⟨rfl, rfl, rfl, rfl⟩, (Or.inr ⟨rfl, hg, hWO⟩), (Or.inr ⟨rfl, hg, hAO⟩), hR, ⟨rfl, gC, gD⟩, (Or.inr (Or.inr ⟨rfl, rfl, hg, hLO⟩))⟩
              · have hE := sk_el hp h3 k
                obtain ⟨oi, ot, oy, r1, e9⟩ := e_mulOf hp (cu_el hp C D) h3 q3 k2 m_t_isNought m_t_sumT m_t_sumY
                obtain ⟨k9, x9, -, -, t9⟩ := e_touch9 hp (k := lk) (q := m_t_mix_r) gC gD eC eD hE.1 hE.2 ex ey ez
                have m8 := e_mskip hp eC eD hg hO hM k2 c_t_mixed_a c_t_mixed_b c_t_mixed_c c_t_mixed_d c_t_mixed_e c_t_mixed_f c_t_mixedCofactors_a c_t_mixedCofactors_b c_t_mixedCofactors_c c_t_mixedCofactors_d c_t_mixedCofactors_e c_t_mixedCofactors_f
                have a8 := e_at hp (cof_el hp (mx P (sks (mlt P (cu P C D) k)) C (skt (mlt P (cu P C D) k)) D)) ex ey ez
                have hz := el_0 hp (show el P (qf P (cof P (mx P (sks (mlt P (cu P C D) k)) C (skt (mlt P (cu P C D) k)) D)) (tx P (chd P C D f k)) (ty P (chd P C D f k)) (tz P (chd P C D f k))) from el_mod hp _)
                have r9 : (if oi = 0 then p_b3 (fX9_touching (iI P) lk m_t_given_r m_t_mix_r ot 1 (iI (tx P (chd P C D f k))) (iI (ty P (chd P C D f k))) (iI (tz P (chd P C D f k)))) (fun v34 u35 u36 => some (v34, u35, u36)) else p_b3 (fX9_touching (iI P) lk m_t_given_r m_t_mix_r 1 0 (iI (tx P (chd P C D f k))) (iI (ty P (chd P C D f k))) (iI (tz P (chd P C D f k)))) (fun v34 u35 u36 => some (v34, u35, u36))) = some (iI (qf P (cof P (mx P (sks (mlt P (cu P C D) k)) C (skt (mlt P (cu P C D) k)) D)) (tx P (chd P C D f k)) (ty P (chd P C D f k)) (tz P (chd P C D f k))), k9, x9) := by
                  cases hq : mlt P (cu P C D) k with
                  | none =>
                    rw [hq] at r1 t9
                    have r1 : oi = 1 := r1
                    rw [if_neg (by rw [r1]; decide)]
                    have t9 : fX9_touching (iI P) lk m_t_given_r m_t_mix_r 1 0 (iI (tx P (chd P C D f k))) (iI (ty P (chd P C D f k))) (iI (tz P (chd P C D f k))) = _ := t9
                    rw [t9, b3_s]
                  | some z =>
                    rw [hq] at r1 t9
                    obtain ⟨r1, r2, -⟩ := r1
                    have r2 : ot = iI z.1 := r2
                    rw [if_pos r1, r2]
                    have t9 : fX9_touching (iI P) lk m_t_given_r m_t_mix_r (iI z.1) 1 (iI (tx P (chd P C D f k))) (iI (ty P (chd P C D f k))) (iI (tz P (chd P C D f k))) = _ := t9
                    rw [t9, b3_s]
                by_cases c0 : qf P (cof P (mx P (sks (mlt P (cu P C D) k)) C (skt (mlt P (cu P C D) k)) D)) (tx P (chd P C D f k)) (ty P (chd P C D f k)) (tz P (chd P C D f k)) = 0
                · refine ⟨1, 1, 1, (iI (N : Nat)), (iI (cvn P (cu P C D) P : Nat)), aac, aup, (sd 0), (sd 1), (sd 2), (iI (tx P (chd P C D f k))), (iI (ty P (chd P C D f k))), (iI (tz P (chd P C D f k))), (iI ((mx P (sks (mlt P (cu P C D) k)) C (skt (mlt P (cu P C D) k)) D) 0)), (iI ((mx P (sks (mlt P (cu P C D) k)) C (skt (mlt P (cu P C D) k)) D) 1)), (iI ((mx P (sks (mlt P (cu P C D) k)) C (skt (mlt P (cu P C D) k)) D) 2)), (iI ((mx P (sks (mlt P (cu P C D) k)) C (skt (mlt P (cu P C D) k)) D) 3)), (iI ((mx P (sks (mlt P (cu P C D) k)) C (skt (mlt P (cu P C D) k)) D) 4)), (iI ((mx P (sks (mlt P (cu P C D) k)) C (skt (mlt P (cu P C D) k)) D) 5)), (iI (cof P (mx P (sks (mlt P (cu P C D) k)) C (skt (mlt P (cu P C D) k)) D) 0)), (iI (cof P (mx P (sks (mlt P (cu P C D) k)) C (skt (mlt P (cu P C D) k)) D) 1)), (iI (cof P (mx P (sks (mlt P (cu P C D) k)) C (skt (mlt P (cu P C D) k)) D) 2)), (iI (cof P (mx P (sks (mlt P (cu P C D) k)) C (skt (mlt P (cu P C D) k)) D) 3)), (iI (cof P (mx P (sks (mlt P (cu P C D) k)) C (skt (mlt P (cu P C D) k)) D) 4)), (iI (cof P (mx P (sks (mlt P (cu P C D) k)) C (skt (mlt P (cu P C D) k)) D) 5)), (sd 3), (sd 4), (sd 5), (iI ((FL P C D).length : Nat)), (iI ((PT P C).length : Nat)), (iI (((List.range (FL P C D).length).filter (lst (NX P C D) (FL P C D).length)).length : Nat)), kw0, kw1, kw2, kw3, (sl 0), (sl 1), (sl 2), (sl 3), (sl 4), (sl 5), (sl 6), (sl 7), (sl 8), (sl 9), (sl 10), (sl 11), (sl 12), (sl 13), (sl 14), kw4, kw5, kw6, kw7, kw8, kw9, (iI ((FL P C D).length : Nat)), (iI (tx P (chd P C D f k))), (iI (ty P (chd P C D f k))), (iI (tz P (chd P C D f k))), 1, 1, oi, (iI ((PT P C).length : Nat)), ot, oy, lc, k9, lQ, lU, lV, lW, x9, ln, lPF, lX, lY, lZ, ls, ?_, ?_, ?_⟩
                  · unfold fX8_chord
                    rw [ekw, b30_s, if_neg (by decide), eka, b6_s, if_neg (by decide), f3, b1_s, if_neg (by decide), k3, b1_s, if_neg (by decide), if_neg (by decide), if_pos (by decide), hd, b9_s, if_pos (by decide), m8, b12_s, a8, b1_s, if_pos (hz.mpr c0)]
                  · unfold fX9_chord
                    rw [eig, b20_s, if_neg (by decide), f4, b1_s, if_neg (by decide), k4, b1_s, if_neg (by decide), w4, b1_s, if_neg (by decide), on, b1_s, h9, b3_s, if_pos (by decide), e9, b3_s]
                    unfold jX9_chord_141
                    by_cases o0 : oi = 0
                    · rw [if_pos o0] at r9 ⊢
                      cases h : fX9_touching (iI P) lk m_t_given_r m_t_mix_r ot 1 (iI (tx P (chd P C D f k))) (iI (ty P (chd P C D f k))) (iI (tz P (chd P C D f k))) with
                      | none => rw [h] at r9; cases r9
                      | some q =>
                        rw [h] at r9
                        have r9 := Option.some.inj r9
                        have r9 : q = (iI (qf P (cof P (mx P (sks (mlt P (cu P C D) k)) C (skt (mlt P (cu P C D) k)) D)) (tx P (chd P C D f k)) (ty P (chd P C D f k)) (tz P (chd P C D f k))), k9, x9) := r9
                        rw [r9, b3_s, if_pos (hz.mpr c0)]
                    · rw [if_neg o0] at r9 ⊢
                      cases h : fX9_touching (iI P) lk m_t_given_r m_t_mix_r 1 0 (iI (tx P (chd P C D f k))) (iI (ty P (chd P C D f k))) (iI (tz P (chd P C D f k))) with
                      | none => rw [h] at r9; cases r9
                      | some q =>
                        rw [h] at r9
                        have r9 := Option.some.inj r9
                        have r9 : q = (iI (qf P (cof P (mx P (sks (mlt P (cu P C D) k)) C (skt (mlt P (cu P C D) k)) D)) (tx P (chd P C D f k)) (ty P (chd P C D f k)) (tz P (chd P C D f k))), k9, x9) := r9
                        rw [r9, b3_s, if_pos (hz.mpr c0)]
                  · exact ⟨P, C, D, hp, eC, eD, ⟨rfl, hN⟩, ⟨rfl, rfl, rfl, rfl, rfl, rfl⟩, ⟨rfl, rfl, rfl, rfl, rfl, rfl⟩, ⟨rfl, rfl, rfl, rfl, rfl, rfl⟩, ⟨rfl, rfl, rfl, rfl, rfl, rfl⟩, ⟨rfl, rfl, rfl, rfl⟩, (Or.inr ⟨rfl, hg, hWO⟩), (Or.inr ⟨rfl, hg, hAO⟩), hR, ⟨rfl, gC, gD⟩, (Or.inr (Or.inr ⟨rfl, rfl, hg, hLO⟩))⟩
                · refine ⟨0, 1, 1, (iI (N : Nat)), (iI (cvn P (cu P C D) P : Nat)), aac, aup, (sd 0), (sd 1), (sd 2), (iI (tx P (chd P C D f k))), (iI (ty P (chd P C D f k))), (iI (tz P (chd P C D f k))), (iI ((mx P (sks (mlt P (cu P C D) k)) C (skt (mlt P (cu P C D) k)) D) 0)), (iI ((mx P (sks (mlt P (cu P C D) k)) C (skt (mlt P (cu P C D) k)) D) 1)), (iI ((mx P (sks (mlt P (cu P C D) k)) C (skt (mlt P (cu P C D) k)) D) 2)), (iI ((mx P (sks (mlt P (cu P C D) k)) C (skt (mlt P (cu P C D) k)) D) 3)), (iI ((mx P (sks (mlt P (cu P C D) k)) C (skt (mlt P (cu P C D) k)) D) 4)), (iI ((mx P (sks (mlt P (cu P C D) k)) C (skt (mlt P (cu P C D) k)) D) 5)), (iI (cof P (mx P (sks (mlt P (cu P C D) k)) C (skt (mlt P (cu P C D) k)) D) 0)), (iI (cof P (mx P (sks (mlt P (cu P C D) k)) C (skt (mlt P (cu P C D) k)) D) 1)), (iI (cof P (mx P (sks (mlt P (cu P C D) k)) C (skt (mlt P (cu P C D) k)) D) 2)), (iI (cof P (mx P (sks (mlt P (cu P C D) k)) C (skt (mlt P (cu P C D) k)) D) 3)), (iI (cof P (mx P (sks (mlt P (cu P C D) k)) C (skt (mlt P (cu P C D) k)) D) 4)), (iI (cof P (mx P (sks (mlt P (cu P C D) k)) C (skt (mlt P (cu P C D) k)) D) 5)), (sd 3), (sd 4), (sd 5), (iI ((FL P C D).length : Nat)), (iI ((PT P C).length : Nat)), (iI (((List.range (FL P C D).length).filter (lst (NX P C D) (FL P C D).length)).length : Nat)), kw0, kw1, kw2, kw3, (sl 0), (sl 1), (sl 2), (sl 3), (sl 4), (sl 5), (sl 6), (sl 7), (sl 8), (sl 9), (sl 10), (sl 11), (sl 12), (sl 13), (sl 14), kw4, kw5, kw6, kw7, kw8, kw9, (iI ((FL P C D).length : Nat)), (iI (tx P (chd P C D f k))), (iI (ty P (chd P C D f k))), (iI (tz P (chd P C D f k))), 1, 1, oi, (iI ((PT P C).length : Nat)), ot, oy, lc, k9, lQ, lU, lV, lW, x9, ln, lPF, lX, lY, lZ, ls, ?_, ?_, ?_⟩
                  · unfold fX8_chord
                    rw [ekw, b30_s, if_neg (by decide), eka, b6_s, if_neg (by decide), f3, b1_s, if_neg (by decide), k3, b1_s, if_neg (by decide), if_neg (by decide), if_pos (by decide), hd, b9_s, if_pos (by decide), m8, b12_s, a8, b1_s, if_neg (fun q => c0 (hz.mp q))]
                  · unfold fX9_chord
                    rw [eig, b20_s, if_neg (by decide), f4, b1_s, if_neg (by decide), k4, b1_s, if_neg (by decide), w4, b1_s, if_neg (by decide), on, b1_s, h9, b3_s, if_pos (by decide), e9, b3_s]
                    unfold jX9_chord_141
                    by_cases o0 : oi = 0
                    · rw [if_pos o0] at r9 ⊢
                      cases h : fX9_touching (iI P) lk m_t_given_r m_t_mix_r ot 1 (iI (tx P (chd P C D f k))) (iI (ty P (chd P C D f k))) (iI (tz P (chd P C D f k))) with
                      | none => rw [h] at r9; cases r9
                      | some q =>
                        rw [h] at r9
                        have r9 := Option.some.inj r9
                        have r9 : q = (iI (qf P (cof P (mx P (sks (mlt P (cu P C D) k)) C (skt (mlt P (cu P C D) k)) D)) (tx P (chd P C D f k)) (ty P (chd P C D f k)) (tz P (chd P C D f k))), k9, x9) := r9
                        rw [r9, b3_s, if_neg (fun q => c0 (hz.mp q))]
                    · rw [if_neg o0] at r9 ⊢
                      cases h : fX9_touching (iI P) lk m_t_given_r m_t_mix_r 1 0 (iI (tx P (chd P C D f k))) (iI (ty P (chd P C D f k))) (iI (tz P (chd P C D f k))) with
                      | none => rw [h] at r9; cases r9
                      | some q =>
                        rw [h] at r9
                        have r9 := Option.some.inj r9
                        have r9 : q = (iI (qf P (cof P (mx P (sks (mlt P (cu P C D) k)) C (skt (mlt P (cu P C D) k)) D)) (tx P (chd P C D f k)) (ty P (chd P C D f k)) (tz P (chd P C D f k))), k9, x9) := r9
                        rw [r9, b3_s, if_neg (fun q => c0 (hz.mp q))]
                  · exact ⟨P, C, D, hp, eC, eD, ⟨rfl, hN⟩, ⟨rfl, rfl, rfl, rfl, rfl, rfl⟩, ⟨rfl, rfl, rfl, rfl, rfl, rfl⟩, ⟨rfl, rfl, rfl, rfl, rfl, rfl⟩, ⟨rfl, rfl, rfl, rfl, rfl, rfl⟩, ⟨rfl, rfl, rfl, rfl⟩, (Or.inr ⟨rfl, hg, hWO⟩), (Or.inr ⟨rfl, hg, hAO⟩), hR, ⟨rfl, gC, gD⟩, (Or.inr (Or.inr ⟨rfl, rfl, hg, hLO⟩))⟩
            · have w4 : fX9_in (iI z) 0 3 = some 0 := w4
              rcases z3 with z3 | z3
              · refine ⟨(-2), 1, 1, (iI (N : Nat)), (iI (cvn P (cu P C D) P : Nat)), aac, aup, c_t_here_x, c_t_here_y, c_t_here_z, c_t_line_x, c_t_line_y, c_t_line_z, c_t_mixed_a, c_t_mixed_b, c_t_mixed_c, c_t_mixed_d, c_t_mixed_e, c_t_mixed_f, c_t_mixedCofactors_a, c_t_mixedCofactors_b, c_t_mixedCofactors_c, c_t_mixedCofactors_d, c_t_mixedCofactors_e, c_t_mixedCofactors_f, c_t_there_x, c_t_there_y, c_t_there_z, (iI ((FL P C D).length : Nat)), (iI ((PT P C).length : Nat)), (iI (((List.range (FL P C D).length).filter (lst (NX P C D) (FL P C D).length)).length : Nat)), kw0, kw1, kw2, kw3, (sl 0), (sl 1), (sl 2), (sl 3), (sl 4), (sl 5), (sl 6), (sl 7), (sl 8), (sl 9), (sl 10), (sl 11), (sl 12), (sl 13), (sl 14), kw4, kw5, kw6, kw7, kw8, kw9, (iI ((FL P C D).length : Nat)), g1, g2, g3, 1, 1, m_t_isNought, (iI ((PT P C).length : Nat)), m_t_sumT, m_t_sumY, lc, lk, lQ, lU, lV, lW, m_t_mix_r, ln, lPF, lX, lY, lZ, ls, ?_, ?_, ?_⟩
                · unfold fX8_chord
                  rw [ekw, b30_s, if_neg (by decide), eka, b6_s, if_neg (by decide), f3, b1_s, if_neg (by decide), k3, b1_s, if_neg (by decide), if_pos (by rw [show (0 : Int32) = iI 0 from rfl, iI_lt (by omega) (by omega) (by omega) (by omega)]; omega)]
                · unfold fX9_chord
                  rw [eig, b20_s, if_neg (by decide), f4, b1_s, if_neg (by decide), k4, b1_s, if_neg (by decide), w4, b1_s, if_pos (by decide)]
                · exact ⟨P, C, D, hp, eC, eD, ⟨rfl, hN⟩, ⟨rfl, rfl, rfl, rfl, rfl, rfl⟩, ⟨rfl, rfl, rfl, rfl, rfl, rfl⟩, ⟨rfl, rfl, rfl, rfl, rfl, rfl⟩, ⟨rfl, rfl, rfl, rfl, rfl, rfl⟩, ⟨rfl, rfl, rfl, rfl⟩, (Or.inr ⟨rfl, hg, hWO⟩), (Or.inr ⟨rfl, hg, hAO⟩), hR, ⟨rfl, gC, gD⟩, (Or.inr (Or.inr ⟨rfl, rfl, hg, hLO⟩))⟩
              · refine ⟨(-2), 1, 1, (iI (N : Nat)), (iI (cvn P (cu P C D) P : Nat)), aac, aup, c_t_here_x, c_t_here_y, c_t_here_z, c_t_line_x, c_t_line_y, c_t_line_z, c_t_mixed_a, c_t_mixed_b, c_t_mixed_c, c_t_mixed_d, c_t_mixed_e, c_t_mixed_f, c_t_mixedCofactors_a, c_t_mixedCofactors_b, c_t_mixedCofactors_c, c_t_mixedCofactors_d, c_t_mixedCofactors_e, c_t_mixedCofactors_f, c_t_there_x, c_t_there_y, c_t_there_z, (iI ((FL P C D).length : Nat)), (iI ((PT P C).length : Nat)), (iI (((List.range (FL P C D).length).filter (lst (NX P C D) (FL P C D).length)).length : Nat)), kw0, kw1, kw2, kw3, (sl 0), (sl 1), (sl 2), (sl 3), (sl 4), (sl 5), (sl 6), (sl 7), (sl 8), (sl 9), (sl 10), (sl 11), (sl 12), (sl 13), (sl 14), kw4, kw5, kw6, kw7, kw8, kw9, (iI ((FL P C D).length : Nat)), g1, g2, g3, 1, 1, m_t_isNought, (iI ((PT P C).length : Nat)), m_t_sumT, m_t_sumY, lc, lk, lQ, lU, lV, lW, m_t_mix_r, ln, lPF, lX, lY, lZ, ls, ?_, ?_, ?_⟩
                · unfold fX8_chord
                  rw [ekw, b30_s, if_neg (by decide), eka, b6_s, if_neg (by decide), f3, b1_s, if_neg (by decide), k3, b1_s, if_neg (by decide), if_neg (by rw [show (0 : Int32) = iI 0 from rfl, iI_lt (by omega) (by omega) (by omega) (by omega)]; omega), if_neg (by rw [show (3 : Int32) = iI 3 from rfl, iI_le (by omega) (by omega) (by omega) (by omega)]; omega)]
                · unfold fX9_chord
                  rw [eig, b20_s, if_neg (by decide), f4, b1_s, if_neg (by decide), k4, b1_s, if_neg (by decide), w4, b1_s, if_pos (by decide)]
                · exact ⟨P, C, D, hp, eC, eD, ⟨rfl, hN⟩, ⟨rfl, rfl, rfl, rfl, rfl, rfl⟩, ⟨rfl, rfl, rfl, rfl, rfl, rfl⟩, ⟨rfl, rfl, rfl, rfl, rfl, rfl⟩, ⟨rfl, rfl, rfl, rfl, rfl, rfl⟩, ⟨rfl, rfl, rfl, rfl⟩, (Or.inr ⟨rfl, hg, hWO⟩), (Or.inr ⟨rfl, hg, hAO⟩), hR, ⟨rfl, gC, gD⟩, (Or.inr (Or.inr ⟨rfl, rfl, hg, hLO⟩))⟩
          · refine ⟨(-2), 1, 1, (iI (N : Nat)), (iI (cvn P (cu P C D) P : Nat)), aac, aup, c_t_here_x, c_t_here_y, c_t_here_z, c_t_line_x, c_t_line_y, c_t_line_z, c_t_mixed_a, c_t_mixed_b, c_t_mixed_c, c_t_mixed_d, c_t_mixed_e, c_t_mixed_f, c_t_mixedCofactors_a, c_t_mixedCofactors_b, c_t_mixedCofactors_c, c_t_mixedCofactors_d, c_t_mixedCofactors_e, c_t_mixedCofactors_f, c_t_there_x, c_t_there_y, c_t_there_z, (iI ((FL P C D).length : Nat)), (iI ((PT P C).length : Nat)), (iI (((List.range (FL P C D).length).filter (lst (NX P C D) (FL P C D).length)).length : Nat)), kw0, kw1, kw2, kw3, (sl 0), (sl 1), (sl 2), (sl 3), (sl 4), (sl 5), (sl 6), (sl 7), (sl 8), (sl 9), (sl 10), (sl 11), (sl 12), (sl 13), (sl 14), kw4, kw5, kw6, kw7, kw8, kw9, (iI ((FL P C D).length : Nat)), g1, g2, g3, 1, 1, m_t_isNought, (iI ((PT P C).length : Nat)), m_t_sumT, m_t_sumY, lc, lk, lQ, lU, lV, lW, m_t_mix_r, ln, lPF, lX, lY, lZ, ls, ?_, ?_, ?_⟩
            · unfold fX8_chord
              rw [ekw, b30_s, if_neg (by decide), eka, b6_s, if_neg (by decide), f3, b1_s, if_neg (by decide), k3, b1_s, if_pos (by decide)]
            · unfold fX9_chord
              rw [eig, b20_s, if_neg (by decide), f4, b1_s, if_neg (by decide), k4, b1_s, if_pos (by decide)]
            · exact ⟨P, C, D, hp, eC, eD, ⟨rfl, hN⟩, ⟨rfl, rfl, rfl, rfl, rfl, rfl⟩, ⟨rfl, rfl, rfl, rfl, rfl, rfl⟩, ⟨rfl, rfl, rfl, rfl, rfl, rfl⟩, ⟨rfl, rfl, rfl, rfl, rfl, rfl⟩, ⟨rfl, rfl, rfl, rfl⟩, (Or.inr ⟨rfl, hg, hWO⟩), (Or.inr ⟨rfl, hg, hAO⟩), hR, ⟨rfl, gC, gD⟩, (Or.inr (Or.inr ⟨rfl, rfl, hg, hLO⟩))⟩
        · refine ⟨(-1), 1, 1, (iI (N : Nat)), (iI (cvn P (cu P C D) P : Nat)), aac, aup, c_t_here_x, c_t_here_y, c_t_here_z, c_t_line_x, c_t_line_y, c_t_line_z, c_t_mixed_a, c_t_mixed_b, c_t_mixed_c, c_t_mixed_d, c_t_mixed_e, c_t_mixed_f, c_t_mixedCofactors_a, c_t_mixedCofactors_b, c_t_mixedCofactors_c, c_t_mixedCofactors_d, c_t_mixedCofactors_e, c_t_mixedCofactors_f, c_t_there_x, c_t_there_y, c_t_there_z, (iI ((FL P C D).length : Nat)), (iI ((PT P C).length : Nat)), (iI (((List.range (FL P C D).length).filter (lst (NX P C D) (FL P C D).length)).length : Nat)), kw0, kw1, kw2, kw3, (sl 0), (sl 1), (sl 2), (sl 3), (sl 4), (sl 5), (sl 6), (sl 7), (sl 8), (sl 9), (sl 10), (sl 11), (sl 12), (sl 13), (sl 14), kw4, kw5, kw6, kw7, kw8, kw9, (iI ((FL P C D).length : Nat)), g1, g2, g3, 1, 1, m_t_isNought, (iI ((PT P C).length : Nat)), m_t_sumT, m_t_sumY, lc, lk, lQ, lU, lV, lW, m_t_mix_r, ln, lPF, lX, lY, lZ, ls, ?_, ?_, ?_⟩
          · unfold fX8_chord
            rw [ekw, b30_s, if_neg (by decide), eka, b6_s, if_neg (by decide), f3, b1_s, if_pos (by decide)]
          · unfold fX9_chord
            rw [eig, b20_s, if_neg (by decide), f4, b1_s, if_pos (by decide)]
          · exact ⟨P, C, D, hp, eC, eD, ⟨rfl, hN⟩, ⟨rfl, rfl, rfl, rfl, rfl, rfl⟩, ⟨rfl, rfl, rfl, rfl, rfl, rfl⟩, ⟨rfl, rfl, rfl, rfl, rfl, rfl⟩, ⟨rfl, rfl, rfl, rfl, rfl, rfl⟩, ⟨rfl, rfl, rfl, rfl⟩, (Or.inr ⟨rfl, hg, hWO⟩), (Or.inr ⟨rfl, hg, hAO⟩), hR, ⟨rfl, gC, gD⟩, (Or.inr (Or.inr ⟨rfl, rfl, hg, hLO⟩))⟩
      · exact absurd hg hg2
    · exact absurd hg hg3
  · rcases e_ig hp eC eD gC gD hL m_t_formX m_t_formY m_t_formZ m_t_cofactor_r with ⟨hg2, -⟩ | ⟨-, lc, lk, eig⟩
    · exact absurd hg2 hg
    · refine ⟨(-5), c_t_addingKnown, c_t_walksKnown, c_t_adding_closing, c_t_adding_pointCount, c_t_adding_acrosses_r, c_t_adding_ups_r, c_t_here_x, c_t_here_y, c_t_here_z, c_t_line_x, c_t_line_y, c_t_line_z, c_t_mixed_a, c_t_mixed_b, c_t_mixed_c, c_t_mixed_d, c_t_mixed_e, c_t_mixed_f, c_t_mixedCofactors_a, c_t_mixedCofactors_b, c_t_mixedCofactors_c, c_t_mixedCofactors_d, c_t_mixedCofactors_e, c_t_mixedCofactors_f, c_t_there_x, c_t_there_y, c_t_there_z, c_t_walks_flagCount, c_t_walks_pointCount, c_t_walks_ringCount, c_t_walks_befores_r, c_t_walks_firstFlags_r, c_t_walks_flagLines_r, c_t_walks_flagPoints_r, c_t_walks_level_x, c_t_walks_level_y, c_t_walks_level_z, c_t_walks_meeting_count, c_t_walks_meeting_lower, c_t_walks_meeting_upper, c_t_walks_meeting_end_x, c_t_walks_meeting_end_y, c_t_walks_meeting_end_z, c_t_walks_meeting_found_x, c_t_walks_meeting_found_y, c_t_walks_meeting_found_z, c_t_walks_meeting_start_x, c_t_walks_meeting_start_y, c_t_walks_meeting_start_z, c_t_walks_nexts_r, c_t_walks_places_r, c_t_walks_pointKeys_r, c_t_walks_ringSizes_r, c_t_walks_ringStarts_r, c_t_walks_walk_r, m_t_flags, m_t_formX, m_t_formY, m_t_formZ, 0, 1, m_t_isNought, m_t_points, m_t_sumT, m_t_sumY, lc, lk, m_t_flagPoint_r, m_t_flagU_r, m_t_flagV_r, m_t_flagW_r, m_t_mix_r, m_t_next_r, m_t_pointFlags_r, m_t_pointX_r, m_t_pointY_r, m_t_pointZ_r, m_t_series_r, ?_, ?_, ?_⟩
      · unfold fX8_chord
        rw [ekw, b30_s, if_pos (by decide)]
      · unfold fX9_chord
        rw [eig, b20_s, if_pos (by decide)]
      · exact ⟨P, C, D, hp, eC, eD, ⟨rfl, hN⟩, ⟨rfl, rfl, rfl, rfl, rfl, rfl⟩, ⟨rfl, rfl, rfl, rfl, rfl, rfl⟩, ⟨rfl, rfl, rfl, rfl, rfl, rfl⟩, ⟨rfl, rfl, rfl, rfl, rfl, rfl⟩, ⟨rfl, rfl, rfl, rfl⟩, hW, hA, hR, ⟨rfl, gC, gD⟩, (Or.inr (Or.inl ⟨rfl, rfl, hg⟩))⟩
