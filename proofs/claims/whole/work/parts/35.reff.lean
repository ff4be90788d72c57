/-! forms of the reference: rows of numbers -/
/-- six places of a row hold a form -/
def rowF (r : Nat → Int32) (at_ : Nat) (m : Nat → Int) : Prop := ∀ i, i < 6 → r (at_ + i) = iI (m i)
theorem row_ld {r : Nat → Int32} {o n : Nat} {m : Nat → Int} (h : rowF r o m) (hn : o + 6 ≤ n) (hb : n ≤ 1000) (i : Nat) (hi : i < 6) : p_ld r n (iI (o : Int) + iI (i : Int)) = some (iI (m i)) := by
  rw [iI_add, ld_t (by omega) (by omega) (by omega), show ((o : Int) + (i : Int)).toNat = o + i by omega, h i hi]
theorem row_ld0 {r : Nat → Int32} {o n : Nat} {m : Nat → Int} (h : rowF r o m) (hn : o + 6 ≤ n) (hb : n ≤ 1000) : p_ld r n (iI (o : Int)) = some (iI (m 0)) := by
  rw [ld_t (by omega) (by omega) (by omega), show ((o : Int)).toNat = o + 0 by omega, h 0 (by omega)]
theorem e_cof9 {P : Nat} (hp : z_pr P = true) {r c : Nat → Int32} {o n : Nat} {m : Nat → Int} (h : rowF r o m) (hn : o + 6 ≤ n) (hb : n ≤ 1000) (hm : elF P m) :
    ∃ c', rowF c' 0 (cof P m) ∧ fX9_cofactorOf n (iI P) r c (iI (o : Int)) = some c' := by
  have b0 := bd_el hp (hm 0 (by omega))
  have b1 := bd_el hp (hm 1 (by omega))
  have b2 := bd_el hp (hm 2 (by omega))
  have b3 := bd_el hp (hm 3 (by omega))
  have b4 := bd_el hp (hm 4 (by omega))
  have b5 := bd_el hp (hm 5 (by omega))
  refine ⟨upd (upd (upd (upd (upd (upd c 0 (iI (cof P m 0))) 1 (iI (cof P m 1))) 2 (iI (cof P m 2))) 3 (iI (cof P m 3))) 4 (iI (cof P m 4))) 5 (iI (cof P m 5)), ?_, ?_⟩
  · intro i hi
    rw [Nat.zero_add]
    rcases (show i = 0 ∨ i = 1 ∨ i = 2 ∨ i = 3 ∨ i = 4 ∨ i = 5 by omega) with rfl | rfl | rfl | rfl | rfl | rfl <;> simp [upd]
  · have L0 := row_ld0 h hn hb
    have L1 : p_ld r n (iI (o : Int) + 1) = some (iI (m 1)) := row_ld h hn hb 1 (by omega)
    have L2 : p_ld r n (iI (o : Int) + 2) = some (iI (m 2)) := row_ld h hn hb 2 (by omega)
    have L3 : p_ld r n (iI (o : Int) + 3) = some (iI (m 3)) := row_ld h hn hb 3 (by omega)
    have L4 : p_ld r n (iI (o : Int) + 4) = some (iI (m 4)) := row_ld h hn hb 4 (by omega)
    have L5 : p_ld r n (iI (o : Int) + 5) = some (iI (m 5)) := row_ld h hn hb 5 (by omega)
    have S : ∀ (f : Nat → Int32) (k : Nat) (x : Int32), k < 6 → p_st f 6 (iI (k : Int)) x = some (upd f k x) := fun f k x hk => by
      rw [st_t (by omega) (by omega) (by omega), Int.toNat_natCast]
    have S0 : ∀ (f : Nat → Int32) (x : Int32), p_st f 6 0 x = some (upd f 0 x) := fun f x => S f 0 x (by omega)
    have S1 : ∀ (f : Nat → Int32) (x : Int32), p_st f 6 1 x = some (upd f 1 x) := fun f x => S f 1 x (by omega)
    have S2 : ∀ (f : Nat → Int32) (x : Int32), p_st f 6 2 x = some (upd f 2 x) := fun f x => S f 2 x (by omega)
    have S3 : ∀ (f : Nat → Int32) (x : Int32), p_st f 6 3 x = some (upd f 3 x) := fun f x => S f 3 x (by omega)
    have S4 : ∀ (f : Nat → Int32) (x : Int32), p_st f 6 4 x = some (upd f 4 x) := fun f x => S f 4 x (by omega)
    have S5 : ∀ (f : Nat → Int32) (x : Int32), p_st f 6 5 x = some (upd f 5 x) := fun f x => S f 5 x (by omega)
    unfold fX9_cofactorOf
    simp only [L0, L1, L2, L3, L4, L5, b1_s, iI_mul, iI_sub, e_ob hp (bd_sub (bd_mul b1 b2) (bd_mul b3 b3)) (by decide), e_ob hp (bd_sub (bd_mul b0 b2) (bd_mul b4 b4)) (by decide), e_ob hp (bd_sub (bd_mul b0 b1) (bd_mul b5 b5)) (by decide), e_ob hp (bd_sub (bd_mul b4 b5) (bd_mul b0 b3)) (by decide), e_ob hp (bd_sub (bd_mul b3 b5) (bd_mul b1 b4)) (by decide), e_ob hp (bd_sub (bd_mul b3 b4) (bd_mul b2 b5)) (by decide), S0, S1, S2, S3, S4, S5]
    rfl
theorem mod3 {P : Nat} (hp : z_pr P = true) (A B C x y z : Int) : (A % P * x + B % P * y + C % P * z) % P = (x * A + y * B + z * C) % P := by
  have := nz_of hp
  rw [← em_eq]
  simp only [em_add, em_mul, em_mod]
  grind
theorem e_both9 {P : Nat} (hp : z_pr P = true) {r : Nat → Int32} {o n : Nat} {m : Nat → Int} (h : rowF r o m) (hn : o + 6 ≤ n) (hb : n ≤ 1000) (hm : elF P m) {x y z : Int} (hx : el P x) (hy : el P y) (hz : el P z) :
    fX9_both n (iI P) r (iI (o : Int)) (iI x) (iI y) (iI z) = some (iI (qf P m x y z)) := by
  have L0 := row_ld0 h hn hb
  have L1 : p_ld r n (iI (o : Int) + 1) = some (iI (m 1)) := row_ld h hn hb 1 (by omega)
  have L2 : p_ld r n (iI (o : Int) + 2) = some (iI (m 2)) := row_ld h hn hb 2 (by omega)
  have L3 : p_ld r n (iI (o : Int) + 3) = some (iI (m 3)) := row_ld h hn hb 3 (by omega)
  have L4 : p_ld r n (iI (o : Int) + 4) = some (iI (m 4)) := row_ld h hn hb 4 (by omega)
  have L5 : p_ld r n (iI (o : Int) + 5) = some (iI (m 5)) := row_ld h hn hb 5 (by omega)
  obtain ⟨q0, q1, q2⟩ := bd_sd hp hm (bd_el hp hx) (bd_el hp hy) (bd_el hp hz)
  have R : ∀ z : Int, bd (z % P) 198 := fun z => bd_el hp (el_mod hp z)
  unfold fX9_both
  simp only [L0, L1, L2, L3, L4, L5, b1_s, iI_mul, iI_add]
  rw [show m 0 * x + m 5 * y + m 4 * z = sd0 m x y z from rfl, show m 5 * x + m 1 * y + m 3 * z = sd1 m x y z from rfl, show m 4 * x + m 3 * y + m 2 * z = sd2 m x y z from rfl]
  rw [e_ob hp q0 (by decide), b1_s, e_ob hp q1 (by decide), b1_s, e_ob hp q2 (by decide), b1_s]
  simp only [iI_mul, iI_add]
  rw [e_ob hp (bd_add (bd_add (bd_mul (R _) (bd_el hp hx)) (bd_mul (R _) (bd_el hp hy))) (bd_mul (R _) (bd_el hp hz))) (by decide), b1_s, mod3 hp]
  rfl
theorem e_trace9 {P : Nat} (hp : z_pr P = true) {r c : Nat → Int32} {o n : Nat} {m k : Nat → Int} (h : rowF r o m) (hn : o + 6 ≤ n) (hb : n ≤ 1000) (hm : elF P m) (hc : rowF c 0 k) (hk : elF P k) :
    fX9_trace n (iI P) r c (iI (o : Int)) = some (iI (tr P k m)) := by
  have L0 := row_ld0 h hn hb
  have L1 : p_ld r n (iI (o : Int) + 1) = some (iI (m 1)) := row_ld h hn hb 1 (by omega)
  have L2 : p_ld r n (iI (o : Int) + 2) = some (iI (m 2)) := row_ld h hn hb 2 (by omega)
  have L3 : p_ld r n (iI (o : Int) + 3) = some (iI (m 3)) := row_ld h hn hb 3 (by omega)
  have L4 : p_ld r n (iI (o : Int) + 4) = some (iI (m 4)) := row_ld h hn hb 4 (by omega)
  have L5 : p_ld r n (iI (o : Int) + 5) = some (iI (m 5)) := row_ld h hn hb 5 (by omega)
  have K : ∀ i : Nat, i < 6 → p_ld c 6 (iI (i : Int)) = some (iI (k i)) := fun i hi => by
    rw [ld_t (by omega) (by omega) (by omega), Int.toNat_natCast, ← hc i hi, Nat.zero_add]
  have K0 : p_ld c 6 0 = some (iI (k 0)) := K 0 (by omega)
  have K1 : p_ld c 6 1 = some (iI (k 1)) := K 1 (by omega)
  have K2 : p_ld c 6 2 = some (iI (k 2)) := K 2 (by omega)
  have K3 : p_ld c 6 3 = some (iI (k 3)) := K 3 (by omega)
  have K4 : p_ld c 6 4 = some (iI (k 4)) := K 4 (by omega)
  have K5 : p_ld c 6 5 = some (iI (k 5)) := K 5 (by omega)
  have q : ∀ i, i < 6 → bd (m i * k i) (198 * 198) := fun i hi => bd_mul (bd_el hp (hm i hi)) (bd_el hp (hk i hi))
  unfold fX9_trace
  simp only [L0, L1, L2, L3, L4, L5, K0, K1, K2, K3, K4, K5, b1_s, nm_s, iI_mul, iI_add]
  rw [show (2 : Int32) = iI 2 from rfl]
  simp only [iI_mul, iI_add]
  rw [e_ob hp (bd_add (bd_add (bd_add (q 0 (by omega)) (q 1 (by omega))) (q 2 (by omega))) (bd_mul (bd_lit 2) (bd_add (bd_add (q 3 (by omega)) (q 4 (by omega))) (q 5 (by omega))))) (by decide), b1_s]
  unfold tr
  simp only [Int.mul_comm (m _)]
theorem det3_r {K : Type} [Lean.Grind.CommRing K] (a b c d e f i : K) (h : 3 * i = 1) : ((b * c - d * d) * a + (a * c - e * e) * b + (a * b - f * f) * c + 2 * ((e * f - a * d) * d + (d * f - b * e) * e + (d * e - c * f) * f)) * i = a * (b * c - d * d) + f * (d * e - c * f) + e * (d * f - b * e) := by
  grind
theorem det3 {P : Nat} (hp : z_pr P = true) (m : Nat → Int) : tr P (cof P m) m * ((iv P 3 : Nat) : Int) % P = dt P m := by
  have := nz_of hp
  have hb := pr_rng hp
  have h3 : em P 3 * em P ((iv P 3 : Nat) : Int) = 1 := em_iv hp (x := 3) ⟨by omega, by omega⟩ (by omega)
  have : em P (tr P (cof P m) m * ((iv P 3 : Nat) : Int)) = em P (dt P m) := by
    unfold tr dt cof
    simp only [em_add, em_mul, em_sub, em_mod, em_2]
    rw [em_3] at h3
    exact det3_r _ _ _ _ _ _ _ h3
  rw [em_eq] at this
  rw [this, el_eq (show el P (dt P m) from el_mod hp _)]
theorem e_lay9 {P : Nat} (hp : z_pr P = true) {gv c k : Nat → Int32} {C D : Nat → Int} (hC : rowF gv 0 C) (hD : rowF gv 6 D) (eC : elF P C) (eD : elF P D) :
    ∃ c' k', (∀ i, i < 4 → c' i = iI (cu P C D i)) ∧ rowF k' 0 (cof P C) ∧ fX9_layCubic (iI P) c k gv = some (c', k') := by
  have hb := pr_rng hp
  obtain ⟨k1, hk1, e1⟩ := e_cof9 hp (c := k) hD (n := 12) (by omega) (by omega) eD
  obtain ⟨k2, hk2, e2⟩ := e_cof9 hp (c := k1) hC (n := 12) (by omega) (by omega) eC
  have t1 := e_trace9 hp hD (n := 12) (by omega) (by omega) eD hk1 (cof_el hp D)
  have t2 := e_trace9 hp hC (n := 12) (by omega) (by omega) eC hk1 (cof_el hp D)
  have t3 := e_trace9 hp hD (n := 12) (by omega) (by omega) eD hk2 (cof_el hp C)
  have t4 := e_trace9 hp hC (n := 12) (by omega) (by omega) eC hk2 (cof_el hp C)
  have e3 : p_rm 3 (iI P) = some (iI 3) := by
    rw [show (3 : Int32) = iI 3 from rfl, rm_p (by omega) (by omega) (by omega) (by omega), Int.emod_eq_of_lt (by omega) (by omega)]
  have h3 : el P 3 := ⟨by omega, by omega⟩
  have S : ∀ (f : Nat → Int32) (j : Nat) (x : Int32), j < 4 → p_st f 4 (iI (j : Int)) x = some (upd f j x) := fun f j x hj => by
    rw [st_t (by omega) (by omega) (by omega), Int.toNat_natCast]
  have S0 : ∀ (f : Nat → Int32) (x : Int32), p_st f 4 0 x = some (upd f 0 x) := fun f x => S f 0 x (by omega)
  have S1 : ∀ (f : Nat → Int32) (x : Int32), p_st f 4 1 x = some (upd f 1 x) := fun f x => S f 1 x (by omega)
  have S2 : ∀ (f : Nat → Int32) (x : Int32), p_st f 4 2 x = some (upd f 2 x) := fun f x => S f 2 x (by omega)
  have S3 : ∀ (f : Nat → Int32) (x : Int32), p_st f 4 3 x = some (upd f 3 x) := fun f x => S f 3 x (by omega)
  refine ⟨upd (upd (upd (upd c 0 (iI (cu P C D 0))) 1 (iI (cu P C D 1))) 2 (iI (cu P C D 2))) 3 (iI (cu P C D 3)), k2, ?_, hk2, ?_⟩
  · intro i hi
    rcases (show i = 0 ∨ i = 1 ∨ i = 2 ∨ i = 3 by omega) with rfl | rfl | rfl | rfl <;> simp [upd]
  · unfold fX9_layCubic
    have e1 : fX9_cofactorOf 12 (iI P) gv k 6 = some k1 := e1
    have e2 : fX9_cofactorOf 12 (iI P) gv k1 0 = some k2 := e2
    have t1 : fX9_trace 12 (iI P) gv k1 6 = _ := t1
    have t2 : fX9_trace 12 (iI P) gv k1 0 = _ := t2
    have t3 : fX9_trace 12 (iI P) gv k2 6 = _ := t3
    have t4 : fX9_trace 12 (iI P) gv k2 0 = _ := t4
    have hT : el P (tr P (cof P D) D) := el_mod hp _
    have hT2 : el P (tr P (cof P C) C) := el_mod hp _
    have y1 := e_bz hp hT h3
    have y2 := e_bz hp hT2 h3
    rw [show (3 : Int).toNat = 3 from rfl, det3 hp] at y1 y2
    simp only [e1, e2, t1, t2, t3, t4, e3, b1_s, S0, S1, S2, S3, y1, y2]
    rfl
theorem disc_r {K : Type} [Lean.Grind.CommRing K] (a b c d : K) : b * b * (c * c) - 4 * a * c * (c * c) - 4 * b * b * (b * d) - 27 * a * a * (d * d) + 18 * a * b * (c * d) = b * c * (b * c) - 4 * a * (c * c * c) - 4 * d * (b * b * b) - 27 * (a * d) * (a * d) + 18 * (a * d) * (b * c) := by
  grind
theorem e_disc9 {P : Nat} (hp : z_pr P = true) {c : Nat → Int32} {k : Nat → Int} (hc : ∀ i, i < 4 → c i = iI (k i)) (hk : ∀ i, el P (k i)) : fX9_discriminant (iI P) c = some (iI (dsc P k)) := by
  have := nz_of hp
  have K : ∀ i : Nat, i < 4 → p_ld c 4 (iI (i : Int)) = some (iI (k i)) := fun i hi => by
    rw [ld_t (by omega) (by omega) (by omega), Int.toNat_natCast, hc i hi]
  have K0 : p_ld c 4 0 = some (iI (k 0)) := K 0 (by omega)
  have K1 : p_ld c 4 1 = some (iI (k 1)) := K 1 (by omega)
  have K2 : p_ld c 4 2 = some (iI (k 2)) := K 2 (by omega)
  have K3 : p_ld c 4 3 = some (iI (k 3)) := K 3 (by omega)
  have b : ∀ i, bd (k i) 198 := fun i => bd_el hp (hk i)
  have n : ∀ i, 0 ≤ k i := fun i => (hk i).1
  have n2 : ∀ i j, 0 ≤ k i * k j := fun i j => Int.mul_nonneg (n i) (n j)
  have n3 : ∀ (q : Int) i j, 0 ≤ q → 0 ≤ q * k i * k j := fun q i j h => Int.mul_nonneg (Int.mul_nonneg h (n i)) (n j)
  have r : ∀ z : Int, bd (z % P) 198 := fun z => bd_el hp (el_mod hp z)
  unfold fX9_discriminant
  simp only [K0, K1, K2, K3, b1_s]
  rw [show (4 : Int32) = iI 4 from rfl, show (27 : Int32) = iI 27 from rfl, show (18 : Int32) = iI 18 from rfl]
  simp only [iI_mul]
  have O : ∀ x y : Int, fX9_of (iI P) (iI (x % P * (y % P))) = some (iI (x % P * (y % P) % P)) := fun x y => e_ob hp (bd_mul (r _) (r _)) (by decide)
  simp only [e_mb hp (n2 1 1) (bd_mul (b 1) (b 1)) (by decide), e_mb hp (n2 2 2) (bd_mul (b 2) (b 2)) (by decide), e_mb hp (n2 1 3) (bd_mul (b 1) (b 3)) (by decide), e_mb hp (n2 3 3) (bd_mul (b 3) (b 3)) (by decide), e_mb hp (n2 2 3) (bd_mul (b 2) (b 3)) (by decide),
    show p_rm (iI (4 * k 0 * k 2)) (iI P) = _ from e_mb hp (n3 4 0 2 (by omega)) (bd_mul (bd_mul (bd_lit 4) (b 0)) (b 2)) (by decide), show p_rm (iI (4 * k 1 * k 1)) (iI P) = _ from e_mb hp (n3 4 1 1 (by omega)) (bd_mul (bd_mul (bd_lit 4) (b 1)) (b 1)) (by decide),
    show p_rm (iI (27 * k 0 * k 0)) (iI P) = _ from e_mb hp (n3 27 0 0 (by omega)) (bd_mul (bd_mul (bd_lit 27) (b 0)) (b 0)) (by decide), show p_rm (iI (18 * k 0 * k 1)) (iI P) = _ from e_mb hp (n3 18 0 1 (by omega)) (bd_mul (bd_mul (bd_lit 18) (b 0)) (b 1)) (by decide), b1_s, iI_mul, O, iI_sub, iI_add]
  rw [e_ob hp (bd_add (bd_sub (bd_sub (bd_sub (r _) (r _)) (r _)) (r _)) (r _)) (by decide), b1_s]
  congr 2
  unfold dsc
  rw [← em_eq]
  simp only [em_add, em_mul, em_sub, em_mod, em_4, em_18, em_27]
  exact disc_r _ _ _ _
theorem e_mix9 {P : Nat} (hp : z_pr P = true) {gv q : Nat → Int32} {C D : Nat → Int} (hC : rowF gv 0 C) (hD : rowF gv 6 D) (eC : elF P C) (eD : elF P D) {s t : Int} (hs : el P s) (ht : el P t) :
    ∃ q', rowF q' 0 (mx P s C t D) ∧ fX9_mixOf (iI P) gv q (iI s) (iI t) = some q' := by
  unfold fX9_mixOf
  refine fn (fun n x b => gX9_mixOf_2 (iI P) gv (iI s) (iI t) kX9_mixOf_44 n (iI (x : Nat)) b) 6 (fun r z => ∀ i, i < r → z i = iI (mx P s C t D i)) (fun o => ∃ q', rowF q' 0 (mx P s C t D) ∧ o = some q') ?_ ?_ p_FU 0 q (by omega) (fun i hi => by omega) (by have := FU_big; omega)
  · intro n b hb
    refine ⟨b, fun i hi => by rw [Nat.zero_add]; exact hb i hi, ?_⟩
    show FgX9_mixOf_2 (iI P) gv (iI s) (iI t) (gX9_mixOf_2 (iI P) gv (iI s) (iI t) kX9_mixOf_44 n) kX9_mixOf_44 (iI ((6 : Nat) : Int)) b = _
    unfold FgX9_mixOf_2
    rw [if_pos (by decide)]; rfl
  · intro n x b hx hb
    refine ⟨upd b x (iI (mx P s C t D x)), ?_, ?_⟩
    · intro i hi
      by_cases hc : i = x
      · subst hc; exact pk_us
      · rw [pk_un hc]; exact hb i (by omega)
    · show FgX9_mixOf_2 (iI P) gv (iI s) (iI t) (gX9_mixOf_2 (iI P) gv (iI s) (iI t) kX9_mixOf_44 n) kX9_mixOf_44 (iI ((x : Nat) : Int)) b = _
      unfold FgX9_mixOf_2
      have h1 : gv x = iI (C x) := by have := hC x hx; rw [Nat.zero_add] at this; exact this
      rw [if_neg (by rw [show (6 : Int32) = iI 6 from rfl, iI_le (by omega) (by omega) (by omega) (by omega)]; omega), ld_t (by omega) (by omega) (by omega), b1_s, Int.toNat_natCast, h1, show (6 : Int32) = iI 6 from rfl, iI_add, ld_t (by omega) (by omega) (by omega), b1_s,
        show ((6 : Int) + (x : Int)).toNat = 6 + x by omega, hD x hx, iI_mul, iI_mul, iI_add, e_ob hp (bd_add (bd_mul (bd_el hp hs) (bd_el hp (eC x hx))) (bd_mul (bd_el hp ht) (bd_el hp (eD x hx)))) (by decide), b1_s, st_t (by omega) (by omega) (by omega), b1_s, nm_s, Int.toNat_natCast, show (1 : Int32) = iI 1 from rfl, iI_add]
      rfl
theorem e_touch9 {P : Nat} (hp : z_pr P = true) {gv k q : Nat → Int32} {C D : Nat → Int} (hC : rowF gv 0 C) (hD : rowF gv 6 D) (eC : elF P C) (eD : elF P D) {s t u v w : Int} (hs : el P s) (ht : el P t) (hu : el P u) (hv : el P v) (hw : el P w) :
    ∃ k' q', rowF q' 0 (mx P s C t D) ∧ rowF k' 0 (cof P (mx P s C t D)) ∧ fX9_touching (iI P) k gv q (iI s) (iI t) (iI u) (iI v) (iI w) = some (iI (qf P (cof P (mx P s C t D)) u v w), k', q') := by
  obtain ⟨q', hq, e1⟩ := e_mix9 hp (q := q) hC hD eC eD hs ht
  obtain ⟨k', hk, e2⟩ := e_cof9 hp (c := k) hq (n := 6) (by omega) (by omega) (mx_el hp s C t D)
  have e3 := e_both9 hp hk (n := 6) (by omega) (by omega) (cof_el hp _) hu hv hw
  refine ⟨k', q', hq, hk, ?_⟩
  unfold fX9_touching
  rw [e1, b1_s]
  have e2 : fX9_cofactorOf 6 (iI P) q' k 0 = some k' := e2
  rw [e2, b1_s]
  have e3 : fX9_both 6 (iI P) k' 0 (iI u) (iI v) (iI w) = _ := e3
  rw [e3, b1_s]
