/-! forms: cofactors, values, the cubic -/
theorem b2_s {α β γ : Type} (a : α) (b : β) (k : α → β → Option γ) : p_b2 (some (a, b)) k = k a b := rfl
theorem b3_s {α β γ δ : Type} (a : α) (b : β) (c : γ) (k : α → β → γ → Option δ) : p_b3 (some (a, b, c)) k = k a b c := rfl
theorem b4_s {α1 α2 α3 α4 δ : Type} (a : α1) (b : α2) (c : α3) (d : α4) (k : α1 → α2 → α3 → α4 → Option δ) : p_b4 (some (a, b, c, d)) k = k a b c d := rfl
theorem b6_s {α1 α2 α3 α4 α5 α6 δ : Type} (a : α1) (b : α2) (c : α3) (d : α4) (e : α5) (f : α6) (k : α1 → α2 → α3 → α4 → α5 → α6 → Option δ) : p_b6 (some (a, b, c, d, e, f)) k = k a b c d e f := rfl
def cof (P : Nat) (m : Nat → Int) : Nat → Int
  | 0 => (m 1 * m 2 - m 3 * m 3) % P
  | 1 => (m 0 * m 2 - m 4 * m 4) % P
  | 2 => (m 0 * m 1 - m 5 * m 5) % P
  | 3 => (m 4 * m 5 - m 0 * m 3) % P
  | 4 => (m 3 * m 5 - m 1 * m 4) % P
  | _ => (m 3 * m 4 - m 2 * m 5) % P
def elF (P : Nat) (m : Nat → Int) : Prop := ∀ i, i < 6 → el P (m i)
theorem cof_el {P : Nat} (hp : z_pr P = true) (m : Nat → Int) : elF P (cof P m) := by
  intro i hi
  match i with
  | 0 => exact el_mod hp _
  | 1 => exact el_mod hp _
  | 2 => exact el_mod hp _
  | 3 => exact el_mod hp _
  | 4 => exact el_mod hp _
  | i + 5 => exact el_mod hp _
def sd0 (m : Nat → Int) (x y z : Int) : Int := m 0 * x + m 5 * y + m 4 * z
def sd1 (m : Nat → Int) (x y z : Int) : Int := m 5 * x + m 1 * y + m 3 * z
def sd2 (m : Nat → Int) (x y z : Int) : Int := m 4 * x + m 3 * y + m 2 * z
def qb (P : Nat) (m : Nat → Int) (x y z u v w : Int) : Int := (x * sd0 m u v w + y * sd1 m u v w + z * sd2 m u v w) % P
def qf (P : Nat) (m : Nat → Int) (x y z : Int) : Int := qb P m x y z x y z
def tr (P : Nat) (m c : Nat → Int) : Int := (m 0 * c 0 + m 1 * c 1 + m 2 * c 2 + 2 * (m 3 * c 3 + m 4 * c 4 + m 5 * c 5)) % P
def dt (P : Nat) (m : Nat → Int) : Int := (m 0 * (m 1 * m 2 - m 3 * m 3) + m 5 * (m 3 * m 4 - m 2 * m 5) + m 4 * (m 3 * m 5 - m 1 * m 4)) % P
def cu (P : Nat) (C D : Nat → Int) : Nat → Int
  | 0 => dt P D
  | 1 => tr P (cof P D) C
  | 2 => tr P (cof P C) D
  | _ => dt P C
theorem cu_el {P : Nat} (hp : z_pr P = true) (C D : Nat → Int) (i : Nat) : el P (cu P C D i) := by
  match i with
  | 0 => exact el_mod hp _
  | 1 => exact el_mod hp _
  | 2 => exact el_mod hp _
  | i + 3 => exact el_mod hp _
def mx (P : Nat) (s : Int) (C : Nat → Int) (t : Int) (D : Nat → Int) : Nat → Int := fun i => (s * C i + t * D i) % P
theorem mx_el {P : Nat} (hp : z_pr P = true) (s : Int) (C : Nat → Int) (t : Int) (D : Nat → Int) : elF P (mx P s C t D) := fun _ _ => el_mod hp _
def dsc (P : Nat) (c : Nat → Int) : Int := ((c 1 * c 2) % P * ((c 1 * c 2) % P) - 4 * c 0 * ((c 2 * c 2 * c 2) % P) - 4 * c 3 * ((c 1 * c 1 * c 1) % P) - 27 * ((c 0 * c 3) % P) * ((c 0 * c 3) % P) + 18 * ((c 0 * c 3) % P) * ((c 1 * c 2) % P)) % P
def gdp (P : Nat) (c : Nat → Int) : Prop := c 0 ≠ 0 ∧ c 3 ≠ 0 ∧ dsc P c ≠ 0
-- the class
theorem e_ftake {P : Nat} (hp : z_pr P = true) (t1 t2 t3 t4 t5 t6 : Int32) {z1 z2 z3 z4 z5 z6 : Int} {B : Nat} (h1 : bd z1 B) (h2 : bd z2 B) (h3 : bd z3 B) (h4 : bd z4 B) (h5 : bd z5 B) (h6 : bd z6 B) (hB : B < 2147483648) :
    fX2_take t1 t2 t3 t4 t5 t6 (iI P) (iI z1) (iI z2) (iI z3) (iI z4) (iI z5) (iI z6) = some (iI (z1 % P), iI (z2 % P), iI (z3 % P), iI (z4 % P), iI (z5 % P), iI (z6 % P)) := by
  unfold fX2_take
  rw [e_rb hp h1 hB, b1_s, e_rb hp h2 hB, b1_s, e_rb hp h3 hB, b1_s, e_rb hp h4 hB, b1_s, e_rb hp h5 hB, b1_s, e_rb hp h6 hB, b1_s]
theorem e_cof {P : Nat} (hp : z_pr P = true) (t1 t2 t3 t4 t5 t6 : Int32) {m : Nat → Int} (hm : elF P m) :
    fX2_takeCofactors t1 t2 t3 t4 t5 t6 (iI (m 0)) (iI (m 1)) (iI (m 2)) (iI (m 3)) (iI (m 4)) (iI (m 5)) (iI P) = some (iI (cof P m 0), iI (cof P m 1), iI (cof P m 2), iI (cof P m 3), iI (cof P m 4), iI (cof P m 5)) := by
  have b0 := bd_el hp (hm 0 (by omega))
  have b1 := bd_el hp (hm 1 (by omega))
  have b2 := bd_el hp (hm 2 (by omega))
  have b3 := bd_el hp (hm 3 (by omega))
  have b4 := bd_el hp (hm 4 (by omega))
  have b5 := bd_el hp (hm 5 (by omega))
  unfold fX2_takeCofactors
  simp only [iI_mul, iI_sub]
  rw [e_ftake hp t1 t2 t3 t4 t5 t6 (bd_sub (bd_mul b1 b2) (bd_mul b3 b3)) (bd_sub (bd_mul b0 b2) (bd_mul b4 b4)) (bd_sub (bd_mul b0 b1) (bd_mul b5 b5)) (bd_sub (bd_mul b4 b5) (bd_mul b0 b3)) (bd_sub (bd_mul b3 b5) (bd_mul b1 b4)) (bd_sub (bd_mul b3 b4) (bd_mul b2 b5)) (by decide), b6_s]
  rfl
theorem e_mix {P : Nat} (hp : z_pr P = true) (t1 t2 t3 t4 t5 t6 : Int32) {C D : Nat → Int} (hC : elF P C) (hD : elF P D) {s t : Int} (hs : el P s) (ht : el P t) :
    fX2_takeMix t1 t2 t3 t4 t5 t6 (iI (C 0)) (iI (C 1)) (iI (C 2)) (iI (C 3)) (iI (C 4)) (iI (C 5)) (iI (D 0)) (iI (D 1)) (iI (D 2)) (iI (D 3)) (iI (D 4)) (iI (D 5)) (iI P) (iI s) (iI t) = some (iI (mx P s C t D 0), iI (mx P s C t D 1), iI (mx P s C t D 2), iI (mx P s C t D 3), iI (mx P s C t D 4), iI (mx P s C t D 5)) := by
  have q : ∀ i, i < 6 → bd (s * C i + t * D i) (198 * 198 + 198 * 198) := fun i hi => bd_add (bd_mul (bd_el hp hs) (bd_el hp (hC i hi))) (bd_mul (bd_el hp ht) (bd_el hp (hD i hi)))
  unfold fX2_takeMix
  simp only [iI_mul, iI_add]
  rw [e_ftake hp t1 t2 t3 t4 t5 t6 (q 0 (by omega)) (q 1 (by omega)) (q 2 (by omega)) (q 3 (by omega)) (q 4 (by omega)) (q 5 (by omega)) (by decide), b6_s]
  rfl
theorem bd_sd {P : Nat} (hp : z_pr P = true) {m : Nat → Int} (hm : elF P m) {x y z : Int} {X : Nat} (hx : bd x X) (hy : bd y X) (hz : bd z X) :
    bd (sd0 m x y z) (198 * X + 198 * X + 198 * X) ∧ bd (sd1 m x y z) (198 * X + 198 * X + 198 * X) ∧ bd (sd2 m x y z) (198 * X + 198 * X + 198 * X) := by
  have b : ∀ i, i < 6 → bd (m i) 198 := fun i hi => bd_el hp (hm i hi)
  exact ⟨bd_add (bd_add (bd_mul (b 0 (by omega)) hx) (bd_mul (b 5 (by omega)) hy)) (bd_mul (b 4 (by omega)) hz), bd_add (bd_add (bd_mul (b 5 (by omega)) hx) (bd_mul (b 1 (by omega)) hy)) (bd_mul (b 3 (by omega)) hz), bd_add (bd_add (bd_mul (b 4 (by omega)) hx) (bd_mul (b 3 (by omega)) hy)) (bd_mul (b 2 (by omega)) hz)⟩
theorem e_side {m : Nat → Int} {x y z : Int} : fX2_side (iI (m 0)) (iI (m 1)) (iI (m 2)) (iI (m 3)) (iI (m 4)) (iI (m 5)) (iI x) (iI y) (iI z) 0 = some (iI (sd0 m x y z)) ∧ fX2_side (iI (m 0)) (iI (m 1)) (iI (m 2)) (iI (m 3)) (iI (m 4)) (iI (m 5)) (iI x) (iI y) (iI z) 1 = some (iI (sd1 m x y z)) ∧ fX2_side (iI (m 0)) (iI (m 1)) (iI (m 2)) (iI (m 3)) (iI (m 4)) (iI (m 5)) (iI x) (iI y) (iI z) 2 = some (iI (sd2 m x y z)) := by
  unfold fX2_side
  refine ⟨?_, ?_, ?_⟩
  · rw [if_pos rfl, iI_mul, iI_mul, iI_mul, iI_add, iI_add]; rfl
  · rw [if_neg (by decide), if_pos rfl, iI_mul, iI_mul, iI_mul, iI_add, iI_add]; rfl
  · rw [if_neg (by decide), if_neg (by decide), iI_mul, iI_mul, iI_mul, iI_add, iI_add]; rfl
theorem e_betw {P : Nat} (hp : z_pr P = true) {m : Nat → Int} (hm : elF P m) {x y z u v w : Int} (hx : el P x) (hy : el P y) (hz : el P z) (hu : el P u) (hv : el P v) (hw : el P w) :
    fX2_between (iI (m 0)) (iI (m 1)) (iI (m 2)) (iI (m 3)) (iI (m 4)) (iI (m 5)) (iI x) (iI y) (iI z) (iI u) (iI v) (iI w) (iI P) = some (iI (qb P m x y z u v w)) := by
  obtain ⟨q0, q1, q2⟩ := bd_sd hp hm (bd_el hp hu) (bd_el hp hv) (bd_el hp hw)
  obtain ⟨s0, s1, s2⟩ := e_side (m := m) (x := u) (y := v) (z := w)
  unfold fX2_between
  rw [s0, b1_s, s1, b1_s, s2, b1_s]
  simp only [iI_mul, iI_add]
  rw [e_rb hp (bd_add (bd_add (bd_mul (bd_el hp hx) q0) (bd_mul (bd_el hp hy) q1)) (bd_mul (bd_el hp hz) q2)) (by decide), b1_s]
  rfl
theorem e_at {P : Nat} (hp : z_pr P = true) {m : Nat → Int} (hm : elF P m) {x y z : Int} (hx : el P x) (hy : el P y) (hz : el P z) :
    fX2_at (iI (m 0)) (iI (m 1)) (iI (m 2)) (iI (m 3)) (iI (m 4)) (iI (m 5)) (iI x) (iI y) (iI z) (iI P) = some (iI (qf P m x y z)) := by
  have h := e_betw hp hm hx hy hz hx hy hz
  unfold fX2_at fX2_between_s12
  unfold fX2_between at h
  rw [h, b1_s]; rfl
theorem e_against {P : Nat} (hp : z_pr P = true) {m c : Nat → Int} (hm : elF P m) (hc : elF P c) :
    fX2_against (iI (m 0)) (iI (m 1)) (iI (m 2)) (iI (m 3)) (iI (m 4)) (iI (m 5)) (iI (c 0)) (iI (c 1)) (iI (c 2)) (iI (c 3)) (iI (c 4)) (iI (c 5)) (iI P) = some (iI (tr P m c)) := by
  have q : ∀ i, i < 6 → bd (m i * c i) (198 * 198) := fun i hi => bd_mul (bd_el hp (hm i hi)) (bd_el hp (hc i hi))
  unfold fX2_against
  rw [show (2 : Int32) = iI 2 from rfl]
  simp only [iI_mul, iI_add]
  rw [e_rb hp (bd_add (bd_add (bd_add (q 0 (by omega)) (q 1 (by omega))) (q 2 (by omega))) (bd_mul (bd_lit 2) (bd_add (bd_add (q 3 (by omega)) (q 4 (by omega))) (q 5 (by omega))))) (by decide), b1_s]
  rfl
theorem e_det {P : Nat} (hp : z_pr P = true) {m : Nat → Int} (hm : elF P m) : fX2_wholeDeterminant (iI (m 0)) (iI (m 1)) (iI (m 2)) (iI (m 3)) (iI (m 4)) (iI (m 5)) (iI P) = some (iI (dt P m)) := by
  have b : ∀ i, i < 6 → bd (m i) 198 := fun i hi => bd_el hp (hm i hi)
  have q : ∀ i j k l n, i < 6 → j < 6 → k < 6 → l < 6 → n < 6 → bd (m i * (m j * m k - m l * m n)) (198 * (198 * 198 + 198 * 198)) := fun i j k l n h1 h2 h3 h4 h5 => bd_mul (b i h1) (bd_sub (bd_mul (b j h2) (b k h3)) (bd_mul (b l h4) (b n h5)))
  unfold fX2_wholeDeterminant
  simp only [iI_mul, iI_add, iI_sub]
  rw [e_rb hp (bd_add (bd_add (q 0 1 2 3 3 (by omega) (by omega) (by omega) (by omega) (by omega)) (q 5 3 4 2 5 (by omega) (by omega) (by omega) (by omega) (by omega))) (q 4 3 5 1 4 (by omega) (by omega) (by omega) (by omega) (by omega))) (by decide), b1_s]
  rfl
theorem e_ctake {P : Nat} (hp : z_pr P = true) (t0 t1 t2 t3 : Int32) {C D : Nat → Int} (hC : elF P C) (hD : elF P D) :
    fX0_take t0 t1 t2 t3 (iI (C 0)) (iI (C 1)) (iI (C 2)) (iI (C 3)) (iI (C 4)) (iI (C 5)) (iI (cof P C 0)) (iI (cof P C 1)) (iI (cof P C 2)) (iI (cof P C 3)) (iI (cof P C 4)) (iI (cof P C 5)) (iI (D 0)) (iI (D 1)) (iI (D 2)) (iI (D 3)) (iI (D 4)) (iI (D 5)) (iI (cof P D 0)) (iI (cof P D 1)) (iI (cof P D 2)) (iI (cof P D 3)) (iI (cof P D 4)) (iI (cof P D 5)) (iI P) = some (iI (cu P C D 0), iI (cu P C D 1), iI (cu P C D 2), iI (cu P C D 3)) := by
  unfold fX0_take
  rw [e_det hp hD, b1_s, e_against hp (cof_el hp D) hC, b1_s, e_against hp (cof_el hp C) hD, b1_s, e_det hp hC, b1_s]
  rfl
theorem e_disc {P : Nat} (hp : z_pr P = true) {c : Nat → Int} (hc : ∀ i, el P (c i)) : fX0_discriminant (iI (c 0)) (iI (c 1)) (iI (c 2)) (iI (c 3)) (iI P) = some (iI (dsc P c)) := by
  have b : ∀ i, bd (c i) 198 := fun i => bd_el hp (hc i)
  have r : ∀ z : Int, bd (z % P) 198 := fun z => bd_el hp (el_mod hp z)
  unfold fX0_discriminant
  rw [show (4 : Int32) = iI 4 from rfl, show (27 : Int32) = iI 27 from rfl, show (18 : Int32) = iI 18 from rfl]
  simp only [iI_mul, iI_add, iI_sub]
  rw [e_rb hp (bd_mul (b 1) (b 2)) (by decide), b1_s, e_rb hp (bd_mul (b 0) (b 3)) (by decide), b1_s, e_rb hp (bd_mul (bd_mul (b 1) (b 1)) (b 1)) (by decide), b1_s, e_rb hp (bd_mul (bd_mul (b 2) (b 2)) (b 2)) (by decide), b1_s]
  simp only [iI_mul, iI_add, iI_sub]
  rw [e_rb hp (bd_add (bd_sub (bd_sub (bd_sub (bd_mul (r _) (r _)) (bd_mul (bd_mul (bd_lit 4) (b 0)) (r _))) (bd_mul (bd_mul (bd_lit 4) (b 3)) (r _))) (bd_mul (bd_mul (bd_lit 27) (r _)) (r _))) (bd_mul (bd_mul (bd_lit 18) (r _)) (r _))) (by decide), b1_s]
  rfl
theorem iI_ne0 {z : Int} (h1 : -2147483648 ≤ z) (h2 : z < 2147483648) : iI z = 0 ↔ z = 0 := by
  rw [show (0 : Int32) = iI 0 from rfl, iI_eq h1 h2 (by omega) (by omega)]
theorem el_32 {P : Nat} (hp : z_pr P = true) {z : Int} (h : el P z) : -2147483648 ≤ z ∧ z < 2147483648 := by
  have := pr_rng hp; have := h.1; have := h.2; omega
theorem el_0 {P : Nat} (hp : z_pr P = true) {z : Int} (h : el P z) : iI z = 0 ↔ z = 0 := iI_ne0 (el_32 hp h).1 (el_32 hp h).2
theorem dsc_el {P : Nat} (hp : z_pr P = true) (c : Nat → Int) : el P (dsc P c) := el_mod hp _
theorem e_good {P : Nat} (hp : z_pr P = true) {c : Nat → Int} (hc : ∀ i, el P (c i)) : (gdp P c ∧ fX0_isGood (iI (c 0)) (iI (c 1)) (iI (c 2)) (iI (c 3)) (iI P) = some 1) ∨ (¬ gdp P c ∧ fX0_isGood (iI (c 0)) (iI (c 1)) (iI (c 2)) (iI (c 3)) (iI P) = some 0) := by
  unfold fX0_isGood gdp
  by_cases h0 : c 0 = 0
  · exact Or.inr ⟨fun h => h.1 h0, by rw [if_pos ((el_0 hp (hc 0)).mpr h0)]⟩
  · by_cases h3 : c 3 = 0
    · exact Or.inr ⟨fun h => h.2.1 h3, by rw [if_neg (fun q => h0 ((el_0 hp (hc 0)).mp q)), if_pos ((el_0 hp (hc 3)).mpr h3)]⟩
    · rw [if_neg (fun q => h0 ((el_0 hp (hc 0)).mp q)), if_neg (fun q => h3 ((el_0 hp (hc 3)).mp q)), e_disc hp hc, b1_s]
      by_cases hd : dsc P c = 0
      · exact Or.inr ⟨fun h => h.2.2 hd, by rw [if_pos ((el_0 hp (dsc_el hp c)).mpr hd)]⟩
      · exact Or.inl ⟨⟨h0, h3, hd⟩, by rw [if_neg (fun q => hd ((el_0 hp (dsc_el hp c)).mp q))]⟩
