/-! numbers: ints as words of 32 bits; the pure primitives on them -/
def iI (z : Int) : Int32 := Int32.ofInt z
theorem iI_add (a b : Int) : iI a + iI b = iI (a + b) := (Int32.ofInt_add a b).symm
theorem iI_sub (a b : Int) : iI a - iI b = iI (a - b) := (Int32.ofInt_sub a b).symm
theorem iI_mul (a b : Int) : iI a * iI b = iI (a * b) := (Int32.ofInt_mul a b).symm
theorem iI_neg (a : Int) : -iI a = iI (-a) := (Int32.ofInt_neg a).symm
theorem iI_toInt {z : Int} (h1 : -2147483648 ≤ z) (h2 : z < 2147483648) : (iI z).toInt = z := Int32.toInt_ofInt_of_le (by omega) (by omega)
theorem iI_of (x : Int32) : ∃ z : Int, -2147483648 ≤ z ∧ z < 2147483648 ∧ x = iI z := ⟨x.toInt, by have := Int32.le_toInt x; omega, by have := Int32.toInt_lt x; omega, (Int32.ofInt_toInt x).symm⟩
theorem iI_lt {a b : Int} (h1 : -2147483648 ≤ a) (h2 : a < 2147483648) (h3 : -2147483648 ≤ b) (h4 : b < 2147483648) : iI a < iI b ↔ a < b := by rw [Int32.lt_iff_toInt_lt, iI_toInt h1 h2, iI_toInt h3 h4]
theorem iI_le {a b : Int} (h1 : -2147483648 ≤ a) (h2 : a < 2147483648) (h3 : -2147483648 ≤ b) (h4 : b < 2147483648) : iI a ≤ iI b ↔ a ≤ b := by rw [Int32.le_iff_toInt_le, iI_toInt h1 h2, iI_toInt h3 h4]
theorem iI_eq {a b : Int} (h1 : -2147483648 ≤ a) (h2 : a < 2147483648) (h3 : -2147483648 ≤ b) (h4 : b < 2147483648) : iI a = iI b ↔ a = b := by rw [← Int32.toInt_inj, iI_toInt h1 h2, iI_toInt h3 h4]
theorem iI_cl {z : Int} (h1 : 0 ≤ z) (h2 : z < 2147483648) : (iI z).toNatClampNeg = z.toNat := Int32.toNatClampNeg_ofInt_of_le (by omega) (by omega)
theorem iI_n (n : Nat) : nI n = iI (n : Int) := by rw [iI, Int32.ofInt_eq_ofNat]; rfl
theorem iI_lit (n : Nat) : (OfNat.ofNat n : Int32) = iI (n : Int) := by rw [iI, Int32.ofInt_eq_ofNat]; rfl
theorem iI_m (n : Nat) : -(OfNat.ofNat n : Int32) = iI (-(n : Int)) := by rw [iI_lit, iI_neg]
theorem b1_s {α β : Type} (a : α) (k : α → Option β) : p_b1 (some a) k = k a := rfl
theorem nm_s {α β : Type} (e : α) (k : α → Option β) : p_nm e k = k e := rfl
theorem i_mn : Int32.minValue.toInt = -2147483648 := by decide
theorem i_mx : Int32.maxValue.toInt = 2147483647 := by decide
theorem rm_t {a b : Int} (ha1 : -2147483648 < a) (ha2 : a < 2147483648) (hb1 : 0 < b) (hb2 : b < 2147483648) : p_rm (iI a) (iI b) = some (iI (a.tmod b)) := by
  have hb : ¬ iI b = 0 := by rw [show (0 : Int32) = iI 0 from rfl, iI_eq (by omega) (by omega) (by omega) (by omega)]; omega
  have hd : iI a / iI b = iI (a.tdiv b) := (Int32.ofInt_tdiv (by rw [i_mn]; omega) (by rw [i_mx]; omega) (by rw [i_mn]; omega) (by rw [i_mx]; omega)).symm
  unfold p_rm
  rw [if_neg hb, hd, iI_mul, iI_sub, Int.tmod_def, Int.mul_comm]
theorem dv_t {a b : Int} (ha1 : -2147483648 < a) (ha2 : a < 2147483648) (hb1 : 0 < b) (hb2 : b < 2147483648) : p_dv (iI a) (iI b) = some (iI (a.tdiv b)) := by
  have hb : ¬ iI b = 0 := by rw [show (0 : Int32) = iI 0 from rfl, iI_eq (by omega) (by omega) (by omega) (by omega)]; omega
  have hd : iI a / iI b = iI (a.tdiv b) := (Int32.ofInt_tdiv (by rw [i_mn]; omega) (by rw [i_mx]; omega) (by rw [i_mn]; omega) (by rw [i_mx]; omega)).symm
  unfold p_dv
  rw [if_neg hb, hd]
/-- of a number that isn't negative -/
theorem rm_p {a b : Int} (ha1 : 0 ≤ a) (ha2 : a < 2147483648) (hb1 : 0 < b) (hb2 : b < 2147483648) : p_rm (iI a) (iI b) = some (iI (a % b)) := by
  rw [rm_t (by omega) ha2 hb1 hb2, Int.tmod_eq_emod_of_nonneg ha1]
theorem dv_p {a b : Int} (ha1 : 0 ≤ a) (ha2 : a < 2147483648) (hb1 : 0 < b) (hb2 : b < 2147483648) : p_dv (iI a) (iI b) = some (iI (a / b)) := by
  rw [dv_t (by omega) ha2 hb1 hb2, Int.tdiv_eq_ediv_of_nonneg ha1]
theorem ld_t {f : Nat → Int32} {n : Nat} {z : Int} (h1 : 0 ≤ z) (h2 : z < n) (hn : n < 2147483648) : p_ld f n (iI z) = some (f z.toNat) := by
  have hc : (iI z).toNatClampNeg = z.toNat := iI_cl h1 (by omega)
  unfold p_ld
  rw [if_pos, hc]
  refine ⟨?_, by rw [hc]; omega⟩
  rw [show (0 : Int32) = iI 0 from rfl, iI_le (by omega) (by omega) (by omega) (by omega)]; exact h1
theorem st_t {f : Nat → Int32} {n : Nat} {z : Int} {x : Int32} (h1 : 0 ≤ z) (h2 : z < n) (hn : n < 2147483648) : p_st f n (iI z) x = some (upd f z.toNat x) := by
  have hc : (iI z).toNatClampNeg = z.toNat := iI_cl h1 (by omega)
  unfold p_st
  rw [if_pos, hc]
  refine ⟨?_, by rw [hc]; omega⟩
  rw [show (0 : Int32) = iI 0 from rfl, iI_le (by omega) (by omega) (by omega) (by omega)]; exact h1
/-- what is left by P, as both sides reckon it -/
theorem e_rest {P z : Int} (hP : 0 < P) (hP2 : P < 2147483648) (h1 : -2147483648 < z) (h2 : z < 2147483648) : fX4_rest (iI P) (iI z) = some (iI (z % P)) := by
  unfold fX4_rest
  rw [rm_t h1 h2 hP hP2, b1_s]
  have hm1 := Int.emod_nonneg z (show P ≠ 0 by omega)
  have hm2 := Int.emod_lt_of_pos z hP
  have e := Int.tmod_eq_emod (a := z) (b := P)
  by_cases hc : 0 ≤ z ∨ P ∣ z
  · rw [if_pos hc] at e
    have e : z.tmod P = z % P := by omega
    rw [e, if_pos]
    rw [show (0 : Int32) = iI 0 from rfl, iI_le (by omega) (by omega) (by omega) (by omega)]; exact hm1
  · rw [if_neg hc] at e
    have hn : (P.natAbs : Int) = P := by omega
    rw [hn] at e
    rw [e, if_neg, iI_add]
    · congr 2; omega
    · rw [show (0 : Int32) = iI 0 from rfl, iI_le (by omega) (by omega) (by omega) (by omega)]; omega
theorem e_of {P z : Int} (hP : 0 < P) (hP2 : P < 2147483648) (h1 : -2147483648 < z) (h2 : z < 2147483648) : fX9_of (iI P) (iI z) = some (iI (z % P)) := by
  exact e_rest hP hP2 h1 h2
/-- products of what is small -/
theorem mulb {a b A B : Int} (ha : 0 ≤ a ∧ a ≤ A) (hb : 0 ≤ b ∧ b ≤ B) : 0 ≤ a * b ∧ a * b ≤ A * B :=
  ⟨Int.mul_nonneg ha.1 hb.1, Int.mul_le_mul ha.2 hb.2 hb.1 (by omega)⟩
