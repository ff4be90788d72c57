/-! the invariant; what the first calls need -/
def WInv (c_t_walksKnown : Int32) (c_t_addingKnown : Int32) (c_t_rowKnown : Int32) (c_N_p : Int32) (c_N_inverses_r : (Nat → Int32)) (c_N_roots_r : (Nat → Int32)) (c_t_outer_a : Int32) (c_t_outer_b : Int32) (c_t_outer_c : Int32) (c_t_outer_d : Int32) (c_t_outer_e : Int32) (c_t_outer_f : Int32) (c_t_outerCofactors_a : Int32) (c_t_outerCofactors_b : Int32) (c_t_outerCofactors_c : Int32) (c_t_outerCofactors_d : Int32) (c_t_outerCofactors_e : Int32) (c_t_outerCofactors_f : Int32) (c_t_inner_a : Int32) (c_t_inner_b : Int32) (c_t_inner_c : Int32) (c_t_inner_d : Int32) (c_t_inner_e : Int32) (c_t_inner_f : Int32) (c_t_innerCofactors_a : Int32) (c_t_innerCofactors_b : Int32) (c_t_innerCofactors_c : Int32) (c_t_innerCofactors_d : Int32) (c_t_innerCofactors_e : Int32) (c_t_innerCofactors_f : Int32) (c_t_mixed_a : Int32) (c_t_mixed_b : Int32) (c_t_mixed_c : Int32) (c_t_mixed_d : Int32) (c_t_mixed_e : Int32) (c_t_mixed_f : Int32) (c_t_mixedCofactors_a : Int32) (c_t_mixedCofactors_b : Int32) (c_t_mixedCofactors_c : Int32) (c_t_mixedCofactors_d : Int32) (c_t_mixedCofactors_e : Int32) (c_t_mixedCofactors_f : Int32) (c_t_here_x : Int32) (c_t_here_y : Int32) (c_t_here_z : Int32) (c_t_there_x : Int32) (c_t_there_y : Int32) (c_t_there_z : Int32) (c_t_line_x : Int32) (c_t_line_y : Int32) (c_t_line_z : Int32) (c_t_pencil_c0 : Int32) (c_t_pencil_c1 : Int32) (c_t_pencil_c2 : Int32) (c_t_pencil_c3 : Int32) (c_t_walks_pointCount : Int32) (c_t_walks_flagCount : Int32) (c_t_walks_ringCount : Int32) (c_t_walks_pointKeys_r : (Nat → Int32)) (c_t_walks_firstFlags_r : (Nat → Int32)) (c_t_walks_flagPoints_r : (Nat → Int32)) (c_t_walks_flagLines_r : (Nat → Int32)) (c_t_walks_nexts_r : (Nat → Int32)) (c_t_walks_befores_r : (Nat → Int32)) (c_t_walks_walk_r : (Nat → Int32)) (c_t_walks_places_r : (Nat → Int32)) (c_t_walks_ringStarts_r : (Nat → Int32)) (c_t_walks_ringSizes_r : (Nat → Int32)) (c_t_walks_meeting_count : Int32) (c_t_walks_meeting_lower : Int32) (c_t_walks_meeting_upper : Int32) (c_t_walks_meeting_start_x : Int32) (c_t_walks_meeting_start_y : Int32) (c_t_walks_meeting_start_z : Int32) (c_t_walks_meeting_end_x : Int32) (c_t_walks_meeting_end_y : Int32) (c_t_walks_meeting_end_z : Int32) (c_t_walks_meeting_found_x : Int32) (c_t_walks_meeting_found_y : Int32) (c_t_walks_meeting_found_z : Int32) (c_t_walks_level_x : Int32) (c_t_walks_level_y : Int32) (c_t_walks_level_z : Int32) (c_t_adding_closing : Int32) (c_t_adding_pointCount : Int32) (c_t_adding_acrosses_r : (Nat → Int32)) (c_t_adding_ups_r : (Nat → Int32)) (c_t_row_parts_r : (Nat → Int32)) (c_t_row_square_r : (Nat → Int32)) (m_t_p : Int32) (m_t_isLaid : Int32) (m_t_isGood : Int32) (m_t_points : Int32) (m_t_flags : Int32) (m_t_formX : Int32) (m_t_formY : Int32) (m_t_formZ : Int32) (m_t_isNought : Int32) (m_t_sumT : Int32) (m_t_sumY : Int32) (m_t_given_r : (Nat → Int32)) (m_t_c_r : (Nat → Int32)) (m_t_pointX_r : (Nat → Int32)) (m_t_pointY_r : (Nat → Int32)) (m_t_pointZ_r : (Nat → Int32)) (m_t_pointFlags_r : (Nat → Int32)) (m_t_flagPoint_r : (Nat → Int32)) (m_t_flagU_r : (Nat → Int32)) (m_t_flagV_r : (Nat → Int32)) (m_t_flagW_r : (Nat → Int32)) (m_t_next_r : (Nat → Int32)) (m_t_series_r : (Nat → Int32)) (m_t_mix_r : (Nat → Int32)) (m_t_cofactor_r : (Nat → Int32)) (m_t_square_r : (Nat → Int32)) : Prop := ∃ (P : Nat) (C D : Nat → Int), z_pr P = true ∧ elF P C ∧ elF P D ∧ (c_N_p = iI P ∧ NumOK P c_N_inverses_r c_N_roots_r) ∧ (c_t_outer_a = iI (C 0) ∧ c_t_outer_b = iI (C 1) ∧ c_t_outer_c = iI (C 2) ∧ c_t_outer_d = iI (C 3) ∧ c_t_outer_e = iI (C 4) ∧ c_t_outer_f = iI (C 5)) ∧ (c_t_outerCofactors_a = iI (cof P C 0) ∧ c_t_outerCofactors_b = iI (cof P C 1) ∧ c_t_outerCofactors_c = iI (cof P C 2) ∧ c_t_outerCofactors_d = iI (cof P C 3) ∧ c_t_outerCofactors_e = iI (cof P C 4) ∧ c_t_outerCofactors_f = iI (cof P C 5)) ∧ (c_t_inner_a = iI (D 0) ∧ c_t_inner_b = iI (D 1) ∧ c_t_inner_c = iI (D 2) ∧ c_t_inner_d = iI (D 3) ∧ c_t_inner_e = iI (D 4) ∧ c_t_inner_f = iI (D 5)) ∧ (c_t_innerCofactors_a = iI (cof P D 0) ∧ c_t_innerCofactors_b = iI (cof P D 1) ∧ c_t_innerCofactors_c = iI (cof P D 2) ∧ c_t_innerCofactors_d = iI (cof P D 3) ∧ c_t_innerCofactors_e = iI (cof P D 4) ∧ c_t_innerCofactors_f = iI (cof P D 5)) ∧ (c_t_pencil_c0 = iI (cu P C D 0) ∧ c_t_pencil_c1 = iI (cu P C D 1) ∧ c_t_pencil_c2 = iI (cu P C D 2) ∧ c_t_pencil_c3 = iI (cu P C D 3)) ∧ GW P C D c_t_walksKnown c_t_walks_flagCount c_t_walks_pointCount c_t_walks_ringCount c_t_walks_befores_r c_t_walks_firstFlags_r c_t_walks_flagLines_r c_t_walks_flagPoints_r c_t_walks_nexts_r c_t_walks_places_r c_t_walks_pointKeys_r c_t_walks_ringSizes_r c_t_walks_ringStarts_r c_t_walks_walk_r ∧ GA P C D c_t_addingKnown c_t_adding_closing c_t_adding_pointCount c_t_adding_acrosses_r c_t_adding_ups_r ∧ GR P C D c_t_rowKnown c_t_row_parts_r ∧ (m_t_p = iI P ∧ rowF m_t_given_r 0 C ∧ rowF m_t_given_r 6 D) ∧ GL P C D m_t_isLaid m_t_isGood m_t_points m_t_flags m_t_c_r m_t_pointX_r m_t_pointY_r m_t_pointZ_r m_t_pointFlags_r m_t_flagPoint_r m_t_flagU_r m_t_flagV_r m_t_flagW_r m_t_next_r m_t_series_r
theorem e_renew {P : Nat} (hp : z_pr P = true) {C D : Nat → Int} (eC : elF P C) (eD : elF P D) (x1 x2 x3 a1 a2 a3 a4 a5 a6 b1 b2 b3 b4 b5 b6 c0 c1 c2 c3 : Int32) : fX8_renew x1 x2 x3 (iI P) (iI (D 0)) (iI (D 1)) (iI (D 2)) (iI (D 3)) (iI (D 4)) (iI (D 5)) a1 a2 a3 a4 a5 a6 (iI (C 0)) (iI (C 1)) (iI (C 2)) (iI (C 3)) (iI (C 4)) (iI (C 5)) b1 b2 b3 b4 b5 b6 c0 c1 c2 c3 = some (0, 0, 0, iI (cof P D 0), iI (cof P D 1), iI (cof P D 2), iI (cof P D 3), iI (cof P D 4), iI (cof P D 5), iI (cof P C 0), iI (cof P C 1), iI (cof P C 2), iI (cof P C 3), iI (cof P C 4), iI (cof P C 5), iI (cu P C D 0), iI (cu P C D 1), iI (cu P C D 2), iI (cu P C D 3)) := by
  unfold fX8_renew
  rw [e_cof hp _ _ _ _ _ _ eC, b6_s, e_cof hp _ _ _ _ _ _ eD, b6_s, e_ctake hp _ _ _ _ eC eD, b4_s]
def u0 (P : Nat) : Nat → Int
  | 0 => 1 % P
  | 1 => 1 % P
  | 2 => (-1) % P
  | _ => 0 % P
theorem u0_el {P : Nat} (hp : z_pr P = true) : elF P (u0 P) := by
  intro i _
  match i with
  | 0 => exact el_mod hp _
  | 1 => exact el_mod hp _
  | 2 => exact el_mod hp _
  | i + 3 => exact el_mod hp _
theorem e_unit {P : Nat} (hp : z_pr P = true) (a1 a2 a3 a4 a5 a6 : Int32) : fX2_take a1 a2 a3 a4 a5 a6 (iI P) 1 1 (-1) 0 0 0 = some (iI (u0 P 0), iI (u0 P 1), iI (u0 P 2), iI (u0 P 3), iI (u0 P 4), iI (u0 P 5)) := by
  have w0 : bd 0 1 := by show (0 : Int).natAbs ≤ 1; decide
  have w1 : bd 1 1 := by show (1 : Int).natAbs ≤ 1; decide
  have w2 : bd (-1) 1 := by show (-1 : Int).natAbs ≤ 1; decide
  rw [show (-1 : Int32) = iI (-1) from rfl, show (1 : Int32) = iI 1 from rfl, show (0 : Int32) = iI 0 from rfl, e_ftake hp a1 a2 a3 a4 a5 a6 w1 w1 w2 w0 w0 w0 (by decide)]
  rfl
theorem e_start {P : Nat} (hp : z_pr P = true) (x1 x2 x3 a1 a2 a3 a4 a5 a6 b1 b2 b3 b4 b5 b6 d1 d2 d3 d4 d5 d6 e1 e2 e3 e4 e5 e6 c0 c1 c2 c3 : Int32) : fX8_startRounds x1 x2 x3 (iI P) a1 a2 a3 a4 a5 a6 b1 b2 b3 b4 b5 b6 d1 d2 d3 d4 d5 d6 e1 e2 e3 e4 e5 e6 c0 c1 c2 c3 = some (0, 0, 0, iI (u0 P 0), iI (u0 P 1), iI (u0 P 2), iI (u0 P 3), iI (u0 P 4), iI (u0 P 5), iI (cof P (u0 P) 0), iI (cof P (u0 P) 1), iI (cof P (u0 P) 2), iI (cof P (u0 P) 3), iI (cof P (u0 P) 4), iI (cof P (u0 P) 5), iI (u0 P 0), iI (u0 P 1), iI (u0 P 2), iI (u0 P 3), iI (u0 P 4), iI (u0 P 5), iI (cof P (u0 P) 0), iI (cof P (u0 P) 1), iI (cof P (u0 P) 2), iI (cof P (u0 P) 3), iI (cof P (u0 P) 4), iI (cof P (u0 P) 5), iI (cu P (u0 P) (u0 P) 0), iI (cu P (u0 P) (u0 P) 1), iI (cu P (u0 P) (u0 P) 2), iI (cu P (u0 P) (u0 P) 3)) := by
  unfold fX8_startRounds
  rw [e_unit hp, b6_s, e_unit hp, b6_s, e_renew hp (u0_el hp) (u0_el hp), b19_s]
theorem e_begin {P : Nat} (hp : z_pr P = true) (l : Int32) (gv : Nat → Int32) : ∃ gv', rowF gv' 0 (u0 P) ∧ rowF gv' 6 (u0 P) ∧ fX9_begin l (iI P) gv = some (0, gv') := by
  have hb := pr_rng hp
  have hm1 : (-1 : Int) % P = P - 1 := by
    rw [show (-1 : Int) = (P - 1) + P * (-1) by omega, Int.add_mul_emod_self_left, Int.emod_eq_of_lt (by omega) (by omega)]
  have h1 : (1 : Int) % P = 1 := Int.emod_eq_of_lt (by omega) (by omega)
  have h0 : (0 : Int) % P = 0 := Int.zero_emod _
  have key : ∃ gv', (∀ j, j < 12 → gv' j = iI (u0 P (j % 6))) ∧ gX9_begin_2 (iI P) kX9_begin_50 p_FU 0 gv = some (0, gv') := by
    refine fn (fun n x (b : Nat → Int32) => gX9_begin_2 (iI P) kX9_begin_50 n (iI (x : Nat)) b) 12 (fun x b => ∀ j, j < x → b j = iI (u0 P (j % 6))) (fun o => ∃ gv', (∀ j, j < 12 → gv' j = iI (u0 P (j % 6))) ∧ o = some (0, gv')) ?_ ?_ p_FU 0 gv (by omega) (fun j hj => by omega) (by have := FU_big; omega)
    · intro n b h
      refine ⟨b, h, ?_⟩
      show FgX9_begin_2 (iI P) (gX9_begin_2 (iI P) kX9_begin_50 n) kX9_begin_50 (iI ((12 : Nat) : Int)) b = _
      unfold FgX9_begin_2
      rw [if_pos (by decide)]; rfl
    · intro n x b hx h
      refine ⟨upd b x (iI (u0 P (x % 6))), fun j hj => ?_, ?_⟩
      · by_cases c : j = x
        · rw [c, pk_us]
        · rw [pk_un c]; exact h j (by omega)
      · show FgX9_begin_2 (iI P) (gX9_begin_2 (iI P) kX9_begin_50 n) kX9_begin_50 (iI (x : Nat)) b = _
        unfold FgX9_begin_2 jX9_begin_43
        have hr : p_rm (iI (x : Nat)) 6 = some (iI ((x % 6 : Nat) : Int)) := by
          rw [show (6 : Int32) = iI ((6 : Nat) : Int) from rfl, nrm (by omega) (by omega) (by omega)]
        rw [if_neg (by rw [show (12 : Int32) = iI ((12 : Nat) : Int) from rfl, nle (by omega) (by omega)]; omega), hr, b1_s, b1_s]
        have hl := Nat.mod_lt x (show 0 < 6 by omega)
        rcases (show x % 6 = 0 ∨ x % 6 = 1 ∨ x % 6 = 2 ∨ 3 ≤ x % 6 by omega) with e | e | e | e
        · rw [e, if_neg (by decide), nst (by omega) (by omega), b1_s, nm_s, n1, show u0 P 0 = 1 from h1]; rfl
        · rw [e, if_neg (by decide), nst (by omega) (by omega), b1_s, nm_s, n1, show u0 P 1 = 1 from h1]; rfl
        · rw [e, if_pos (by decide), if_pos (by decide), show (1 : Int32) = iI 1 from rfl, iI_sub, nst (by omega) (by omega), b1_s, nm_s, show iI (x : Nat) + iI 1 = iI ((x + 1 : Nat) : Int) from n1 x, show u0 P 2 = (P : Int) - 1 from hm1]
        · have e2 : u0 P (x % 6) = 0 := by
            obtain ⟨q, hq⟩ : ∃ q, x % 6 = q + 3 := ⟨x % 6 - 3, by omega⟩
            rw [hq]; exact h0
          rw [if_pos (by rw [show (2 : Int32) = iI ((2 : Nat) : Int) from rfl, nle (by omega) (by omega)]; omega), if_neg (by rw [show (2 : Int32) = iI ((2 : Nat) : Int) from rfl, neq (by omega) (by omega)]; omega), nst (by omega) (by omega), b1_s, nm_s, n1, e2]; rfl
  obtain ⟨gv', g1, g2⟩ := key
  refine ⟨gv', fun i hi => ?_, fun i hi => ?_, g2⟩
  · rw [Nat.zero_add, g1 i (by omega), Nat.mod_eq_of_lt hi]
  · rw [g1 (6 + i) (by omega), show (6 + i) % 6 = i by omega]
-- primes
theorem e_prime {q : Nat} (h5 : 5 ≤ q) (h199 : q ≤ 199) : fX8_isPrime (iI (q : Nat)) = some (if z_pr q = true then 1 else 0) := by
  unfold fX8_isPrime
  rw [if_neg (by rw [show (5 : Int32) = iI ((5 : Nat) : Int) from rfl, nlt (by omega) (by omega)]; omega), if_pos (by rw [show (199 : Int32) = iI ((199 : Nat) : Int) from rfl, nle (by omega) (by omega)]; omega)]
  refine wl (σ := Nat) (fun n d => gX8_isPrime_16 (iI (q : Nat)) kX8_isPrime_37 n (iI (d : Nat))) (fun d => 2 ≤ d ∧ d ≤ 15 ∧ ∀ c, c < d → 2 ≤ c → ¬ q % c = 0) (fun d => 16 - d) (fun o => o = some (if z_pr q = true then 1 else 0)) ?_ p_FU 2 ⟨by omega, by omega, fun c h1 h2 => by omega⟩ (by have := FU_big; omega)
  intro n d ⟨i1, i2, i3⟩
  have hdd : d * d ≤ 15 * 15 := Nat.mul_le_mul i2 i2
  show (FgX8_isPrime_16 (iI (q : Nat)) (gX8_isPrime_16 (iI (q : Nat)) kX8_isPrime_37 n) kX8_isPrime_37 (iI (d : Nat)) = _) ∨ ∃ s', _ ∧ _ ∧ FgX8_isPrime_16 (iI (q : Nat)) (gX8_isPrime_16 (iI (q : Nat)) kX8_isPrime_37 n) kX8_isPrime_37 (iI (d : Nat)) = _
  unfold FgX8_isPrime_16
  rw [nmul]
  by_cases c1 : q < d * d
  · left
    rw [if_pos (by rw [nlt (by omega) (by omega)]; exact c1), if_pos (pr_up q (by omega) h5 d (by omega) c1 i3)]; rfl
  · rw [if_neg (by rw [nlt (by omega) (by omega)]; exact c1), nrm (by omega) (by omega) (by omega), b1_s]
    have hm := Nat.mod_lt q (show 0 < d by omega)
    by_cases c2 : q % d = 0
    · left
      have hz := pr_no q (by omega) d (by omega) i1 (by omega) c2
      rw [if_pos (by rw [neq0 (by omega)]; exact c2), if_neg (by rw [hz]; decide)]
    · right
      have hd14 : d ≤ 14 := by
        rcases Nat.lt_or_ge d 15 with h | h
        · omega
        · exfalso
          have : d = 15 := by omega
          subst this
          omega
      refine ⟨d + 1, ⟨by omega, by omega, fun c h1 h2 => ?_⟩, by omega, ?_⟩
      · by_cases e : c = d
        · rw [e]; exact c2
        · exact i3 c (by omega) h2
      · rw [if_neg (by rw [neq0 (by omega)]; exact c2), nm_s, n1]
theorem e_prime9 {q : Nat} (h5 : 5 ≤ q) (h199 : q ≤ 199) (kk : Int32 → Option (Int32 × Int32 × Int32 × (Nat → Int32))) : gX9_field_11 (iI (q : Nat)) kk p_FU 1 2 = kk (if z_pr q = true then 1 else 0) := by
  refine wl (σ := Nat × Int32) (fun n b => gX9_field_11 (iI (q : Nat)) kk n b.2 (iI (b.1 : Nat))) (fun b => 2 ≤ b.1 ∧ b.1 ≤ 16 ∧ ((b.2 = 1 ∧ b.1 ≤ 15 ∧ ∀ c, c < b.1 → 2 ≤ c → ¬ q % c = 0) ∨ (b.2 = 0 ∧ z_pr q = false))) (fun b => 17 - b.1) (fun o => o = kk (if z_pr q = true then 1 else 0)) ?_ p_FU (2, 1) ⟨by show 2 ≤ 2; omega, by show 2 ≤ 16; omega, Or.inl ⟨rfl, by show 2 ≤ 15; omega, fun c h1 h2 => by have h1 : c < 2 := h1; omega⟩⟩ (by show 17 - 2 < p_FU; have := FU_big; omega)
  intro n ⟨d, b⟩ ⟨i1, i2, i3⟩
  have i1 : 2 ≤ d := i1
  have i2 : d ≤ 16 := i2
  have i3 : (b = 1 ∧ d ≤ 15 ∧ ∀ c, c < d → 2 ≤ c → ¬ q % c = 0) ∨ (b = 0 ∧ z_pr q = false) := i3
  have hdd : d * d ≤ 16 * 16 := Nat.mul_le_mul i2 i2
  show (FgX9_field_11 (iI (q : Nat)) (gX9_field_11 (iI (q : Nat)) kk n) kk b (iI (d : Nat)) = _) ∨ ∃ s', _ ∧ _ ∧ FgX9_field_11 (iI (q : Nat)) (gX9_field_11 (iI (q : Nat)) kk n) kk b (iI (d : Nat)) = _
  unfold FgX9_field_11 jX9_field_33
  rw [nmul]
  rcases i3 with ⟨rfl, i4, j3⟩ | ⟨rfl, j3⟩
  · by_cases c1 : q < d * d
    · left
      rw [if_pos (by rw [nlt (by omega) (by omega)]; exact c1), if_pos (pr_up q (by omega) h5 d (by omega) c1 j3)]
    · rw [if_neg (by rw [nlt (by omega) (by omega)]; exact c1), if_neg (by decide), nrm (by omega) (by omega) (by omega), b1_s]
      have hm := Nat.mod_lt q (show 0 < d by omega)
      right
      by_cases c2 : q % d = 0
      · have hz := pr_no q (by omega) d (by omega) i1 (by omega) c2
        refine ⟨(d + 1, 0), ⟨by show 2 ≤ d + 1; omega, by show d + 1 ≤ 16; omega, Or.inr ⟨rfl, hz⟩⟩, by show 17 - (d + 1) < 17 - d; omega, ?_⟩
        rw [if_pos (by rw [neq0 (by omega)]; exact c2), nm_s, n1]
      · have hd14 : d ≤ 14 := by
          rcases Nat.lt_or_ge d 15 with h | h
          · omega
          · exfalso
            have : d = 15 := by omega
            subst this
            omega
        refine ⟨(d + 1, 1), ⟨by show 2 ≤ d + 1; omega, by show d + 1 ≤ 16; omega, Or.inl ⟨rfl, by show d + 1 ≤ 15; omega, fun c h1 h2 => ?_⟩⟩, by show 17 - (d + 1) < 17 - d; omega, ?_⟩
        · have h1 : c < d + 1 := h1
          by_cases e : c = d
          · rw [e]; exact c2
          · exact j3 c (by omega) h2
        · rw [if_neg (by rw [neq0 (by omega)]; exact c2), nm_s, n1]
  · left
    rw [if_neg (show ¬ z_pr q = true by rw [j3]; decide)]
    by_cases c1 : iI (q : Nat) < iI ((d * d : Nat) : Int)
    · rw [if_pos c1]
    · rw [if_neg c1, if_pos rfl]
theorem e_prime90 (i : Int32) (kk : Int32 → Option (Int32 × Int32 × Int32 × (Nat → Int32))) : gX9_field_11 i kk p_FU 0 2 = kk 0 := by
  rw [show p_FU = 99999 + 1 from rfl]
  show FgX9_field_11 i (gX9_field_11 i kk 99999) kk 0 2 = _
  unfold FgX9_field_11
  by_cases c1 : i < 2 * 2
  · rw [if_pos c1]
  · rw [if_neg c1, if_pos rfl]
theorem num3_c {P : Nat} (hp : z_pr P = true) (i1 i2 i3 : Int32) : (∃ z1 z2 z3 : Int, el P z1 ∧ el P z2 ∧ el P z3 ∧ i1 = iI z1 ∧ i2 = iI z2 ∧ i3 = iI z3 ∧ fX8_areNumbers (iI P) i1 i2 i3 = some 1 ∧ fX9_isNumber (iI P) i1 = some 1 ∧ fX9_isNumber (iI P) i2 = some 1 ∧ fX9_isNumber (iI P) i3 = some 1) ∨ (fX8_areNumbers (iI P) i1 i2 i3 = some 0 ∧ (fX9_isNumber (iI P) i1 = some 0 ∨ (fX9_isNumber (iI P) i1 = some 1 ∧ fX9_isNumber (iI P) i2 = some 0) ∨ (fX9_isNumber (iI P) i1 = some 1 ∧ fX9_isNumber (iI P) i2 = some 1 ∧ fX9_isNumber (iI P) i3 = some 0))) := by
  unfold fX8_areNumbers
  rcases num_c hp i1 with ⟨z1, a1, a2, a3, a4⟩ | ⟨a3, a4⟩
  · rcases num_c hp i2 with ⟨z2, b1, b2, b3, b4⟩ | ⟨b3, b4⟩
    · rcases num_c hp i3 with ⟨z3, c1, c2, c3, c4⟩ | ⟨c3, c4⟩
      · exact Or.inl ⟨z1, z2, z3, a1, b1, c1, a2, b2, c2, by rw [a3, b1_s, if_neg (by decide), b3, b1_s, if_neg (by decide), c3, b1_s, if_neg (by decide)], a4, b4, c4⟩
      · exact Or.inr ⟨by rw [a3, b1_s, if_neg (by decide), b3, b1_s, if_neg (by decide), c3, b1_s, if_pos rfl], Or.inr (Or.inr ⟨a4, b4, c4⟩)⟩
    · exact Or.inr ⟨by rw [a3, b1_s, if_neg (by decide), b3, b1_s, if_pos rfl], Or.inr (Or.inl ⟨a4, b4⟩)⟩
  · exact Or.inr ⟨by rw [a3, b1_s, if_pos rfl], Or.inl a4⟩
