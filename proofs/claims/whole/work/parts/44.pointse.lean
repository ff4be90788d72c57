theorem b12_s {α1 α2 α3 α4 α5 α6 α7 α8 α9 α10 α11 α12 δ : Type} (a1 : α1) (a2 : α2) (a3 : α3) (a4 : α4) (a5 : α5) (a6 : α6) (a7 : α7) (a8 : α8) (a9 : α9) (a10 : α10) (a11 : α11) (a12 : α12) (k : α1 → α2 → α3 → α4 → α5 → α6 → α7 → α8 → α9 → α10 → α11 → α12 → Option δ) : p_b12 (some (a1, a2, a3, a4, a5, a6, a7, a8, a9, a10, a11, a12)) k = k a1 a2 a3 a4 a5 a6 a7 a8 a9 a10 a11 a12 := rfl
set_option maxHeartbeats 400000 in
theorem e_points_end {P : Nat} (hp : z_pr P = true) [NeZero P] {inv roots : Nat → Int32} (hN : NumOK P inv roots) {m : Nat → Int} (hm : elF P m) (hd : dt P m ≠ 0) (hlen : (ptl P m (P * P + P + 1)).length ≤ 200) (sa : Nat → Int32) {keys : Nat → Int32} (hk : hold keys (cz (ptl P m (P * P)))) :
    ∃ (s : Nat → Int32) (keys' : Nat → Int32), hold keys' (cz (ptl P m (P * P + P + 1))) ∧ kX5_findPoints_59 (iI (m 0)) (iI (m 1)) (iI (m 2)) (iI (m 3)) (iI (m 4)) (iI (m 5)) (iI P) inv roots (iI P) (iI ((ptl P m (P * P)).length : Nat)) (sa 0) (sa 1) (sa 2) (sa 3) (sa 4) (sa 5) (sa 6) (sa 7) (sa 8) (sa 9) (sa 10) (sa 11) (sa 12) (sa 13) (sa 14) keys = some (iI ((ptl P m (P * P + P + 1)).length : Nat), s 0, s 1, s 2, s 3, s 4, s 5, s 6, s 7, s 8, s 9, s 10, s 11, s 12, s 13, s 14, keys') := by
  have hb := pr_rng hp
  have hpp := pp_b hp
  have w0 : bd 0 198 := by show (0 : Int).natAbs ≤ 198; decide
  have w1 : bd 1 198 := by show (1 : Int).natAbs ≤ 198; decide
  have et : fX7_take (sa 0) (sa 1) (sa 2) (iI P) 0 0 1 = some (iI (0 % P), iI (0 % P), iI (1 % P)) := by
    rw [show (0 : Int32) = iI 0 from rfl, show (1 : Int32) = iI 1 from rfl]; exact e_ttake hp _ _ _ w0 w0 w1 (by decide)
  obtain ⟨cnt, lo, up, lo', up', e1, e2, e3, f1, f2, f3, g1, g2, g3, hM, hlu, ef⟩ := e_find hp hN hm hd (ky_le hp (0 % P) (0 % P) (1 % P)) (sa 3) (sa 4) (sa 5) (sa 6) (sa 7) (sa 8) (sa 9) (sa 10) (sa 11) (sa 12) (sa 13) (sa 14)
  have ep := last_ptl hp hM
  obtain ⟨keys', hk', ea⟩ := e_add hM.1 hlu (fun h => by have := hM.2.1 h; omega) (show P * P + P + 1 < 100000 by omega) hk (by rw [← ep]; exact hlen)
  rw [← ep] at hk' ea
  refine ⟨fun i => ([iI (0 % P), iI (0 % P), iI (1 % P), iI (cnt : Nat), lo', up', e1, e2, e3, f1, f2, f3, g1, g2, g3] : List Int32).getD i 0, keys', hk', ?_⟩
  unfold kX5_findPoints_59
  rw [et, b3_s, e_key hp hN (el_mod hp 0) (el_mod hp 0) (el_mod hp 1), b1_s, ef, b12_s, iI_mul, iI_add, show (1 : Int32) = iI 1 from rfl, iI_add, ← Int.natCast_mul, ← Int.natCast_add, show ((P * P + P : Nat) : Int) + 1 = ((P * P + P + 1 : Nat) : Int) from rfl]
  rw [ea, b2_s]
  rfl
set_option maxHeartbeats 400000 in
theorem e_points {P : Nat} (hp : z_pr P = true) [NeZero P] {inv roots : Nat → Int32} (hN : NumOK P inv roots) {m : Nat → Int} (hm : elF P m) (hd : dt P m ≠ 0) (hlen : (ptl P m (P * P + P + 1)).length ≤ 200) (c0 : Int32) (s0 : Nat → Int32) (keys : Nat → Int32) :
    ∃ (s : Nat → Int32) (keys' : Nat → Int32), hold keys' (cz (ptl P m (P * P + P + 1))) ∧ fX5_findPoints c0 (iI (m 0)) (iI (m 1)) (iI (m 2)) (iI (m 3)) (iI (m 4)) (iI (m 5)) (iI P) inv roots (s0 0) (s0 1) (s0 2) (s0 3) (s0 4) (s0 5) (s0 6) (s0 7) (s0 8) (s0 9) (s0 10) (s0 11) (s0 12) (s0 13) (s0 14) keys = some (iI ((ptl P m (P * P + P + 1)).length : Nat), s 0, s 1, s 2, s 3, s 4, s 5, s 6, s 7, s 8, s 9, s 10, s 11, s 12, s 13, s 14, keys') := by
  have hb := pr_rng hp
  have hpp := pp_b hp
  unfold fX5_findPoints fX4_prime
  rw [b1_s]
  generalize hK : (kX5_findPoints_59 (iI (m 0)) (iI (m 1)) (iI (m 2)) (iI (m 3)) (iI (m 4)) (iI (m 5)) (iI P) inv roots (iI P)) = K
  have key : ∃ (s : Nat → Int32) (keys' : Nat → Int32), hold keys' (cz (ptl P m (P * P + P + 1))) ∧ gX5_findPoints_15 (iI (m 0)) (iI (m 1)) (iI (m 2)) (iI (m 3)) (iI (m 4)) (iI (m 5)) (iI P) inv roots (iI P) K p_FU (iI ((0 : Nat) : Int)) (iI ((ptl P m (0 * P)).length : Nat)) (s0 0) (s0 1) (s0 2) (s0 3) (s0 4) (s0 5) (s0 6) (s0 7) (s0 8) (s0 9) (s0 10) (s0 11) (s0 12) (s0 13) (s0 14) keys = some (iI ((ptl P m (P * P + P + 1)).length : Nat), s 0, s 1, s 2, s 3, s 4, s 5, s 6, s 7, s 8, s 9, s 10, s 11, s 12, s 13, s 14, keys') := by
   refine fn (fun n x (b : (Nat → Int32) × (Nat → Int32)) => gX5_findPoints_15 (iI (m 0)) (iI (m 1)) (iI (m 2)) (iI (m 3)) (iI (m 4)) (iI (m 5)) (iI P) inv roots (iI P) K n (iI (x : Nat)) (iI ((ptl P m (x * P)).length : Nat)) (b.1 0) (b.1 1) (b.1 2) (b.1 3) (b.1 4) (b.1 5) (b.1 6) (b.1 7) (b.1 8) (b.1 9) (b.1 10) (b.1 11) (b.1 12) (b.1 13) (b.1 14) b.2) P (fun x b => hold b.2 (cz (ptl P m (x * P)))) (fun o => ∃ (s : Nat → Int32) (keys' : Nat → Int32), hold keys' (cz (ptl P m (P * P + P + 1))) ∧ o = some (iI ((ptl P m (P * P + P + 1)).length : Nat), s 0, s 1, s 2, s 3, s 4, s 5, s 6, s 7, s 8, s 9, s 10, s 11, s 12, s 13, s 14, keys')) ?_ ?_ p_FU 0 (s0, keys) (by omega) (by rw [Nat.zero_mul]; exact hold_0 _) (by have := FU_big; omega)
   · intro n b hk
     obtain ⟨s, keys', h1, h2⟩ := e_points_end hp hN hm hd hlen b.1 hk
     refine ⟨s, keys', h1, ?_⟩
     show FgX5_findPoints_15 (iI (m 0)) (iI (m 1)) (iI (m 2)) (iI (m 3)) (iI (m 4)) (iI (m 5)) (iI P) inv roots (iI P) (gX5_findPoints_15 (iI (m 0)) (iI (m 1)) (iI (m 2)) (iI (m 3)) (iI (m 4)) (iI (m 5)) (iI P) inv roots (iI P) K n) K (iI ((P : Nat) : Int)) (iI ((ptl P m (P * P)).length : Nat)) (b.1 0) (b.1 1) (b.1 2) (b.1 3) (b.1 4) (b.1 5) (b.1 6) (b.1 7) (b.1 8) (b.1 9) (b.1 10) (b.1 11) (b.1 12) (b.1 13) (b.1 14) b.2 = _
     unfold FgX5_findPoints_15
     rw [if_pos (Int32.le_refl _), ← hK]
     exact h2
   · intro n y b hy hk
     have w0 : bd 0 198 := by show (0 : Int).natAbs ≤ 198; decide
     have w1 : bd 1 198 := by show (1 : Int).natAbs ≤ 198; decide
     have wy : bd (-(y : Int)) 198 := by unfold bd; omega
     have et : fX7_take (b.1 0) (b.1 1) (b.1 2) (iI P) 0 1 (-iI (y : Nat)) = some (iI (0 % P), iI (1 % P), iI (-(y : Int) % P)) := by
       rw [show (0 : Int32) = iI 0 from rfl, show (1 : Int32) = iI 1 from rfl, iI_neg]; exact e_ttake hp _ _ _ w0 w1 wy (by decide)
     obtain ⟨cnt, lo, up, lo', up', e1, e2, e3, f1, f2, f3, g1, g2, g3, hM, hlu, ef⟩ := e_find hp hN hm hd (ky_le hp (0 % P) (1 % P) (-(y : Int) % P)) (b.1 3) (b.1 4) (b.1 5) (b.1 6) (b.1 7) (b.1 8) (b.1 9) (b.1 10) (b.1 11) (b.1 12) (b.1 13) (b.1 14)
     have ep := lev_ptl hp hy hM
     have hle := ptl_mono P m (show (y + 1) * P ≤ P * P + P + 1 by have := Nat.mul_le_mul_right P (show y + 1 ≤ P from hy); omega)
     obtain ⟨keys', hk', ea⟩ := e_add hM.1 hlu (fun h => by have := hM.2.1 h; omega) (show P * P < 100000 by omega) hk (by rw [← ep]; omega)
     rw [← ep] at hk' ea
     refine ⟨(fun i => ([iI (0 % P), iI (1 % P), iI (-(y : Int) % P), iI (cnt : Nat), lo', up', e1, e2, e3, f1, f2, f3, g1, g2, g3] : List Int32).getD i 0, keys'), hk', ?_⟩
     show FgX5_findPoints_15 (iI (m 0)) (iI (m 1)) (iI (m 2)) (iI (m 3)) (iI (m 4)) (iI (m 5)) (iI P) inv roots (iI P) (gX5_findPoints_15 (iI (m 0)) (iI (m 1)) (iI (m 2)) (iI (m 3)) (iI (m 4)) (iI (m 5)) (iI P) inv roots (iI P) K n) K (iI ((y : Nat) : Int)) (iI ((ptl P m (y * P)).length : Nat)) (b.1 0) (b.1 1) (b.1 2) (b.1 3) (b.1 4) (b.1 5) (b.1 6) (b.1 7) (b.1 8) (b.1 9) (b.1 10) (b.1 11) (b.1 12) (b.1 13) (b.1 14) b.2 = _
     unfold FgX5_findPoints_15
     rw [if_neg (by rw [iI_le (by omega) (by omega) (by omega) (by omega)]; omega), et, b3_s, e_key hp hN (el_mod hp 0) (el_mod hp 1) (el_mod hp (-(y : Int))), b1_s, ef, b12_s, iI_mul, ← Int.natCast_mul]
     rw [ea, b2_s, nm_s, show (1 : Int32) = iI 1 from rfl, iI_add]
     rfl
  rw [show iI ((ptl P m (0 * P)).length : Nat) = 0 by rw [Nat.zero_mul]; rfl] at key
  exact key
